section
-- ===== PART A: goes FIRST, ahead of the names: the tables' words, and 'selects' of the private methods out of them =====
/-- a private method of a class that the tables say can be made, by its rows of tables_1 -/
def lw_okq (q : MethodName × Nat) : Prop := (q.1.cls ≠ "java/lang/invoke/MethodHandle" ∧ q.1.cls ≠ "java/lang/invoke/VarHandle") ∧ Cond.instantiable q.1.cls q.2 ∈ tables_1 ∧ Cond.privateMethod q.1 ∈ tables_1 ∧ Cond.instanceMethod q.1 ∈ tables_1
theorem lw_p0 : lw_okq (⟨"SlipRoom", "putBytes", "(I)V"⟩, 13) := ⟨⟨by decide +kernel, by decide +kernel⟩, List.mem_of_getElem? (i := 28) (by decide +kernel), List.mem_of_getElem? (i := 373) (by decide +kernel), List.mem_of_getElem? (i := 374) (by decide +kernel)⟩
theorem lw_p1 : lw_okq (⟨"SlipRoom$Turns", "place", "(LSlipRoom$Ledger;IIII)V"⟩, 4) := ⟨⟨by decide +kernel, by decide +kernel⟩, List.mem_of_getElem? (i := 293) (by decide +kernel), List.mem_of_getElem? (i := 390) (by decide +kernel), List.mem_of_getElem? (i := 391) (by decide +kernel)⟩
theorem lw_p2 : lw_okq (⟨"java/lang/Throwable", "fillInStackTrace", "(I)Ljava/lang/Throwable;"⟩, 6) := ⟨⟨by decide +kernel, by decide +kernel⟩, List.mem_of_getElem? (i := 458) (by decide +kernel), List.mem_of_getElem? (i := 456) (by decide +kernel), List.mem_of_getElem? (i := 457) (by decide +kernel)⟩
theorem lw_p3 : lw_okq (⟨"SlipRoom$Tokens", "behindBlanks", "()I"⟩, 7) := ⟨⟨by decide +kernel, by decide +kernel⟩, List.mem_of_getElem? (i := 113) (by decide +kernel), List.mem_of_getElem? (i := 506) (by decide +kernel), List.mem_of_getElem? (i := 507) (by decide +kernel)⟩
theorem lw_p4 : lw_okq (⟨"SlipRoom$Tokens", "passLetters", "()V"⟩, 7) := ⟨⟨by decide +kernel, by decide +kernel⟩, List.mem_of_getElem? (i := 113) (by decide +kernel), List.mem_of_getElem? (i := 513) (by decide +kernel), List.mem_of_getElem? (i := 514) (by decide +kernel)⟩
theorem lw_p5 : lw_okq (⟨"SlipRoom$Tokens", "passDigits", "()V"⟩, 7) := ⟨⟨by decide +kernel, by decide +kernel⟩, List.mem_of_getElem? (i := 113) (by decide +kernel), List.mem_of_getElem? (i := 574) (by decide +kernel), List.mem_of_getElem? (i := 575) (by decide +kernel)⟩
theorem lw_p6 : lw_okq (⟨"SlipRoom$Parser", "bookClause", "()V"⟩, 4) := ⟨⟨by decide +kernel, by decide +kernel⟩, List.mem_of_getElem? (i := 107) (by decide +kernel), List.mem_of_getElem? (i := 583) (by decide +kernel), List.mem_of_getElem? (i := 584) (by decide +kernel)⟩
theorem lw_p7 : lw_okq (⟨"SlipRoom$Parser", "fail", "(I)V"⟩, 4) := ⟨⟨by decide +kernel, by decide +kernel⟩, List.mem_of_getElem? (i := 107) (by decide +kernel), List.mem_of_getElem? (i := 587) (by decide +kernel), List.mem_of_getElem? (i := 588) (by decide +kernel)⟩
theorem lw_p8 : lw_okq (⟨"SlipRoom$Parser", "takeNumber", "(II)I"⟩, 4) := ⟨⟨by decide +kernel, by decide +kernel⟩, List.mem_of_getElem? (i := 107) (by decide +kernel), List.mem_of_getElem? (i := 596) (by decide +kernel), List.mem_of_getElem? (i := 597) (by decide +kernel)⟩
theorem lw_p9 : lw_okq (⟨"SlipRoom$Parser", "passWord", "(LSlipRoom$Word;)Z"⟩, 4) := ⟨⟨by decide +kernel, by decide +kernel⟩, List.mem_of_getElem? (i := 107) (by decide +kernel), List.mem_of_getElem? (i := 602) (by decide +kernel), List.mem_of_getElem? (i := 603) (by decide +kernel)⟩
theorem lw_p10 : lw_okq (⟨"SlipRoom$Parser", "passSign", "(I)V"⟩, 4) := ⟨⟨by decide +kernel, by decide +kernel⟩, List.mem_of_getElem? (i := 107) (by decide +kernel), List.mem_of_getElem? (i := 606) (by decide +kernel), List.mem_of_getElem? (i := 607) (by decide +kernel)⟩
theorem lw_p11 : lw_okq (⟨"SlipRoom$Parser", "readerClause", "()V"⟩, 4) := ⟨⟨by decide +kernel, by decide +kernel⟩, List.mem_of_getElem? (i := 107) (by decide +kernel), List.mem_of_getElem? (i := 612) (by decide +kernel), List.mem_of_getElem? (i := 613) (by decide +kernel)⟩
theorem lw_p12 : lw_okq (⟨"SlipRoom$Parser", "level", "(II)V"⟩, 4) := ⟨⟨by decide +kernel, by decide +kernel⟩, List.mem_of_getElem? (i := 107) (by decide +kernel), List.mem_of_getElem? (i := 624) (by decide +kernel), List.mem_of_getElem? (i := 625) (by decide +kernel)⟩
theorem lw_p13 : lw_okq (⟨"SlipRoom$Parser", "passNots", "()I"⟩, 4) := ⟨⟨by decide +kernel, by decide +kernel⟩, List.mem_of_getElem? (i := 107) (by decide +kernel), List.mem_of_getElem? (i := 628) (by decide +kernel), List.mem_of_getElem? (i := 629) (by decide +kernel)⟩
theorem lw_p14 : lw_okq (⟨"SlipRoom$Parser", "operand", "(II)V"⟩, 4) := ⟨⟨by decide +kernel, by decide +kernel⟩, List.mem_of_getElem? (i := 107) (by decide +kernel), List.mem_of_getElem? (i := 634) (by decide +kernel), List.mem_of_getElem? (i := 635) (by decide +kernel)⟩
theorem lw_p15 : lw_okq (⟨"SlipRoom$Parser", "exprWithin", "(I)V"⟩, 4) := ⟨⟨by decide +kernel, by decide +kernel⟩, List.mem_of_getElem? (i := 107) (by decide +kernel), List.mem_of_getElem? (i := 638) (by decide +kernel), List.mem_of_getElem? (i := 639) (by decide +kernel)⟩
def lw_privs_1 : List (MethodName × Nat) := [(⟨"SlipRoom", "putBytes", "(I)V"⟩, 13), (⟨"SlipRoom$Turns", "place", "(LSlipRoom$Ledger;IIII)V"⟩, 4), (⟨"java/lang/Throwable", "fillInStackTrace", "(I)Ljava/lang/Throwable;"⟩, 6), (⟨"SlipRoom$Tokens", "behindBlanks", "()I"⟩, 7), (⟨"SlipRoom$Tokens", "passLetters", "()V"⟩, 7), (⟨"SlipRoom$Tokens", "passDigits", "()V"⟩, 7), (⟨"SlipRoom$Parser", "bookClause", "()V"⟩, 4), (⟨"SlipRoom$Parser", "fail", "(I)V"⟩, 4), (⟨"SlipRoom$Parser", "takeNumber", "(II)I"⟩, 4), (⟨"SlipRoom$Parser", "passWord", "(LSlipRoom$Word;)Z"⟩, 4), (⟨"SlipRoom$Parser", "passSign", "(I)V"⟩, 4), (⟨"SlipRoom$Parser", "readerClause", "()V"⟩, 4), (⟨"SlipRoom$Parser", "level", "(II)V"⟩, 4), (⟨"SlipRoom$Parser", "passNots", "()I"⟩, 4), (⟨"SlipRoom$Parser", "operand", "(II)V"⟩, 4), (⟨"SlipRoom$Parser", "exprWithin", "(I)V"⟩, 4)]
theorem lw_r1 : ∀ q ∈ lw_privs_1, lw_okq q := List.forall_mem_cons.mpr ⟨lw_p0, List.forall_mem_cons.mpr ⟨lw_p1, List.forall_mem_cons.mpr ⟨lw_p2, List.forall_mem_cons.mpr ⟨lw_p3, List.forall_mem_cons.mpr ⟨lw_p4, List.forall_mem_cons.mpr ⟨lw_p5, List.forall_mem_cons.mpr ⟨lw_p6, List.forall_mem_cons.mpr ⟨lw_p7, List.forall_mem_cons.mpr ⟨lw_p8, List.forall_mem_cons.mpr ⟨lw_p9, List.forall_mem_cons.mpr ⟨lw_p10, List.forall_mem_cons.mpr ⟨lw_p11, List.forall_mem_cons.mpr ⟨lw_p12, List.forall_mem_cons.mpr ⟨lw_p13, List.forall_mem_cons.mpr ⟨lw_p14, List.forall_mem_cons.mpr ⟨lw_p15, fun _ h => absurd h List.not_mem_nil⟩⟩⟩⟩⟩⟩⟩⟩⟩⟩⟩⟩⟩⟩⟩⟩
theorem lw_p16 : lw_okq (⟨"SlipRoom$Parser", "takePart", "()V"⟩, 4) := ⟨⟨by decide +kernel, by decide +kernel⟩, List.mem_of_getElem? (i := 107) (by decide +kernel), List.mem_of_getElem? (i := 642) (by decide +kernel), List.mem_of_getElem? (i := 643) (by decide +kernel)⟩
theorem lw_p17 : lw_okq (⟨"SlipRoom", "refused", "(I)I"⟩, 13) := ⟨⟨by decide +kernel, by decide +kernel⟩, List.mem_of_getElem? (i := 28) (by decide +kernel), List.mem_of_getElem? (i := 688) (by decide +kernel), List.mem_of_getElem? (i := 689) (by decide +kernel)⟩
theorem lw_p18 : lw_okq (⟨"SlipRoom", "requireBook", "(I)V"⟩, 13) := ⟨⟨by decide +kernel, by decide +kernel⟩, List.mem_of_getElem? (i := 28) (by decide +kernel), List.mem_of_getElem? (i := 715) (by decide +kernel), List.mem_of_getElem? (i := 716) (by decide +kernel)⟩
theorem lw_p19 : lw_okq (⟨"SlipRoom", "requireReader", "(I)V"⟩, 13) := ⟨⟨by decide +kernel, by decide +kernel⟩, List.mem_of_getElem? (i := 28) (by decide +kernel), List.mem_of_getElem? (i := 745) (by decide +kernel), List.mem_of_getElem? (i := 746) (by decide +kernel)⟩
theorem lw_p20 : lw_okq (⟨"SlipRoom", "mayLend", "(IIII)Z"⟩, 13) := ⟨⟨by decide +kernel, by decide +kernel⟩, List.mem_of_getElem? (i := 28) (by decide +kernel), List.mem_of_getElem? (i := 758) (by decide +kernel), List.mem_of_getElem? (i := 759) (by decide +kernel)⟩
theorem lw_p21 : lw_okq (⟨"SlipRoom", "beginOf", "(II)I"⟩, 13) := ⟨⟨by decide +kernel, by decide +kernel⟩, List.mem_of_getElem? (i := 28) (by decide +kernel), List.mem_of_getElem? (i := 763) (by decide +kernel), List.mem_of_getElem? (i := 764) (by decide +kernel)⟩
theorem lw_p22 : lw_okq (⟨"SlipRoom", "readLoan", "(IIIII)I"⟩, 13) := ⟨⟨by decide +kernel, by decide +kernel⟩, List.mem_of_getElem? (i := 28) (by decide +kernel), List.mem_of_getElem? (i := 781) (by decide +kernel), List.mem_of_getElem? (i := 782) (by decide +kernel)⟩
theorem lw_p23 : lw_okq (⟨"SlipRoom", "readHour", "(IIIII)I"⟩, 13) := ⟨⟨by decide +kernel, by decide +kernel⟩, List.mem_of_getElem? (i := 28) (by decide +kernel), List.mem_of_getElem? (i := 785) (by decide +kernel), List.mem_of_getElem? (i := 786) (by decide +kernel)⟩
theorem lw_p24 : lw_okq (⟨"SlipRoom", "stopsBehind", "(IIIII)Z"⟩, 13) := ⟨⟨by decide +kernel, by decide +kernel⟩, List.mem_of_getElem? (i := 28) (by decide +kernel), List.mem_of_getElem? (i := 789) (by decide +kernel), List.mem_of_getElem? (i := 790) (by decide +kernel)⟩
theorem lw_p25 : lw_okq (⟨"SlipRoom$Law", "obey", "(I)V"⟩, 3) := ⟨⟨by decide +kernel, by decide +kernel⟩, List.mem_of_getElem? (i := 238) (by decide +kernel), List.mem_of_getElem? (i := 798) (by decide +kernel), List.mem_of_getElem? (i := 799) (by decide +kernel)⟩
theorem lw_p26 : lw_okq (⟨"SlipRoom$Law", "pop", "()I"⟩, 3) := ⟨⟨by decide +kernel, by decide +kernel⟩, List.mem_of_getElem? (i := 238) (by decide +kernel), List.mem_of_getElem? (i := 802) (by decide +kernel), List.mem_of_getElem? (i := 803) (by decide +kernel)⟩
theorem lw_p27 : lw_okq (⟨"SlipRoom$Law", "push", "(I)V"⟩, 3) := ⟨⟨by decide +kernel, by decide +kernel⟩, List.mem_of_getElem? (i := 238) (by decide +kernel), List.mem_of_getElem? (i := 806) (by decide +kernel), List.mem_of_getElem? (i := 807) (by decide +kernel)⟩
theorem lw_p28 : lw_okq (⟨"SlipRoom$Sharing", "enter", "(LSlipRoom$Ledger;I)V"⟩, 10) := ⟨⟨by decide +kernel, by decide +kernel⟩, List.mem_of_getElem? (i := 255) (by decide +kernel), List.mem_of_getElem? (i := 907) (by decide +kernel), List.mem_of_getElem? (i := 908) (by decide +kernel)⟩
theorem lw_p29 : lw_okq (⟨"SlipRoom$Sharing", "addLoan", "(III)V"⟩, 10) := ⟨⟨by decide +kernel, by decide +kernel⟩, List.mem_of_getElem? (i := 255) (by decide +kernel), List.mem_of_getElem? (i := 924) (by decide +kernel), List.mem_of_getElem? (i := 925) (by decide +kernel)⟩
theorem lw_p30 : lw_okq (⟨"SlipRoom$Sharing", "findFits", "(I)V"⟩, 10) := ⟨⟨by decide +kernel, by decide +kernel⟩, List.mem_of_getElem? (i := 255) (by decide +kernel), List.mem_of_getElem? (i := 929) (by decide +kernel), List.mem_of_getElem? (i := 930) (by decide +kernel)⟩
theorem lw_p31 : lw_okq (⟨"SlipRoom$Sharing", "allLooks", "()I"⟩, 10) := ⟨⟨by decide +kernel, by decide +kernel⟩, List.mem_of_getElem? (i := 255) (by decide +kernel), List.mem_of_getElem? (i := 933) (by decide +kernel), List.mem_of_getElem? (i := 934) (by decide +kernel)⟩
def lw_privs_2 : List (MethodName × Nat) := [(⟨"SlipRoom$Parser", "takePart", "()V"⟩, 4), (⟨"SlipRoom", "refused", "(I)I"⟩, 13), (⟨"SlipRoom", "requireBook", "(I)V"⟩, 13), (⟨"SlipRoom", "requireReader", "(I)V"⟩, 13), (⟨"SlipRoom", "mayLend", "(IIII)Z"⟩, 13), (⟨"SlipRoom", "beginOf", "(II)I"⟩, 13), (⟨"SlipRoom", "readLoan", "(IIIII)I"⟩, 13), (⟨"SlipRoom", "readHour", "(IIIII)I"⟩, 13), (⟨"SlipRoom", "stopsBehind", "(IIIII)Z"⟩, 13), (⟨"SlipRoom$Law", "obey", "(I)V"⟩, 3), (⟨"SlipRoom$Law", "pop", "()I"⟩, 3), (⟨"SlipRoom$Law", "push", "(I)V"⟩, 3), (⟨"SlipRoom$Sharing", "enter", "(LSlipRoom$Ledger;I)V"⟩, 10), (⟨"SlipRoom$Sharing", "addLoan", "(III)V"⟩, 10), (⟨"SlipRoom$Sharing", "findFits", "(I)V"⟩, 10), (⟨"SlipRoom$Sharing", "allLooks", "()I"⟩, 10)]
theorem lw_r2 : ∀ q ∈ lw_privs_2, lw_okq q := List.forall_mem_cons.mpr ⟨lw_p16, List.forall_mem_cons.mpr ⟨lw_p17, List.forall_mem_cons.mpr ⟨lw_p18, List.forall_mem_cons.mpr ⟨lw_p19, List.forall_mem_cons.mpr ⟨lw_p20, List.forall_mem_cons.mpr ⟨lw_p21, List.forall_mem_cons.mpr ⟨lw_p22, List.forall_mem_cons.mpr ⟨lw_p23, List.forall_mem_cons.mpr ⟨lw_p24, List.forall_mem_cons.mpr ⟨lw_p25, List.forall_mem_cons.mpr ⟨lw_p26, List.forall_mem_cons.mpr ⟨lw_p27, List.forall_mem_cons.mpr ⟨lw_p28, List.forall_mem_cons.mpr ⟨lw_p29, List.forall_mem_cons.mpr ⟨lw_p30, List.forall_mem_cons.mpr ⟨lw_p31, fun _ h => absurd h List.not_mem_nil⟩⟩⟩⟩⟩⟩⟩⟩⟩⟩⟩⟩⟩⟩⟩⟩
theorem lw_p32 : lw_okq (⟨"SlipRoom$Sharing", "mayBeFirst", "(II)Z"⟩, 10) := ⟨⟨by decide +kernel, by decide +kernel⟩, List.mem_of_getElem? (i := 255) (by decide +kernel), List.mem_of_getElem? (i := 940) (by decide +kernel), List.mem_of_getElem? (i := 941) (by decide +kernel)⟩
theorem lw_p33 : lw_okq (⟨"SlipRoom$Sharing", "mayFollow", "(III)Z"⟩, 10) := ⟨⟨by decide +kernel, by decide +kernel⟩, List.mem_of_getElem? (i := 255) (by decide +kernel), List.mem_of_getElem? (i := 944) (by decide +kernel), List.mem_of_getElem? (i := 945) (by decide +kernel)⟩
theorem lw_p34 : lw_okq (⟨"SlipRoom$Sharing", "split", "(I)V"⟩, 10) := ⟨⟨by decide +kernel, by decide +kernel⟩, List.mem_of_getElem? (i := 255) (by decide +kernel), List.mem_of_getElem? (i := 952) (by decide +kernel), List.mem_of_getElem? (i := 953) (by decide +kernel)⟩
theorem lw_p35 : lw_okq (⟨"SlipRoom$Sharing", "addSharer", "(I)V"⟩, 10) := ⟨⟨by decide +kernel, by decide +kernel⟩, List.mem_of_getElem? (i := 255) (by decide +kernel), List.mem_of_getElem? (i := 956) (by decide +kernel), List.mem_of_getElem? (i := 957) (by decide +kernel)⟩
theorem lw_p36 : lw_okq (⟨"SlipRoom$Sharing", "mayHave", "(II)Z"⟩, 10) := ⟨⟨by decide +kernel, by decide +kernel⟩, List.mem_of_getElem? (i := 255) (by decide +kernel), List.mem_of_getElem? (i := 973) (by decide +kernel), List.mem_of_getElem? (i := 974) (by decide +kernel)⟩
theorem lw_p37 : lw_okq (⟨"SlipRoom$Sharing", "holds", "(II)Z"⟩, 10) := ⟨⟨by decide +kernel, by decide +kernel⟩, List.mem_of_getElem? (i := 255) (by decide +kernel), List.mem_of_getElem? (i := 977) (by decide +kernel), List.mem_of_getElem? (i := 978) (by decide +kernel)⟩
theorem lw_p38 : lw_okq (⟨"SlipRoom$Sharing", "happens", "(II)Z"⟩, 10) := ⟨⟨by decide +kernel, by decide +kernel⟩, List.mem_of_getElem? (i := 255) (by decide +kernel), List.mem_of_getElem? (i := 981) (by decide +kernel), List.mem_of_getElem? (i := 982) (by decide +kernel)⟩
theorem lw_p39 : lw_okq (⟨"SlipRoom$Settling", "weighSet", "([III)V"⟩, 2) := ⟨⟨by decide +kernel, by decide +kernel⟩, List.mem_of_getElem? (i := 314) (by decide +kernel), List.mem_of_getElem? (i := 1051) (by decide +kernel), List.mem_of_getElem? (i := 1052) (by decide +kernel)⟩
theorem lw_p40 : lw_okq (⟨"SlipRoom$Settling", "looksFrom", "([III)I"⟩, 2) := ⟨⟨by decide +kernel, by decide +kernel⟩, List.mem_of_getElem? (i := 314) (by decide +kernel), List.mem_of_getElem? (i := 1061) (by decide +kernel), List.mem_of_getElem? (i := 1062) (by decide +kernel)⟩
theorem lw_p41 : lw_okq (⟨"SlipRoomModel", "fail", "(I)I"⟩, 71) := ⟨⟨by decide +kernel, by decide +kernel⟩, List.mem_of_getElem? (i := 1069) (by decide +kernel), List.mem_of_getElem? (i := 1310) (by decide +kernel), List.mem_of_getElem? (i := 1311) (by decide +kernel)⟩
theorem lw_p42 : lw_okq (⟨"SlipRoomModel", "stepOn", "()V"⟩, 71) := ⟨⟨by decide +kernel, by decide +kernel⟩, List.mem_of_getElem? (i := 1069) (by decide +kernel), List.mem_of_getElem? (i := 1314) (by decide +kernel), List.mem_of_getElem? (i := 1315) (by decide +kernel)⟩
theorem lw_p43 : lw_okq (⟨"SlipRoomModel", "byteAt", "(I)I"⟩, 71) := ⟨⟨by decide +kernel, by decide +kernel⟩, List.mem_of_getElem? (i := 1069) (by decide +kernel), List.mem_of_getElem? (i := 1318) (by decide +kernel), List.mem_of_getElem? (i := 1319) (by decide +kernel)⟩
theorem lw_p44 : lw_okq (⟨"SlipRoomModel", "is", "(Ljava/lang/String;)Z"⟩, 71) := ⟨⟨by decide +kernel, by decide +kernel⟩, List.mem_of_getElem? (i := 1069) (by decide +kernel), List.mem_of_getElem? (i := 1333) (by decide +kernel), List.mem_of_getElem? (i := 1334) (by decide +kernel)⟩
theorem lw_p45 : lw_okq (⟨"SlipRoomModel", "readBook", "()V"⟩, 71) := ⟨⟨by decide +kernel, by decide +kernel⟩, List.mem_of_getElem? (i := 1069) (by decide +kernel), List.mem_of_getElem? (i := 1339) (by decide +kernel), List.mem_of_getElem? (i := 1340) (by decide +kernel)⟩
theorem lw_p46 : lw_okq (⟨"SlipRoomModel", "wrong", "(I)V"⟩, 71) := ⟨⟨by decide +kernel, by decide +kernel⟩, List.mem_of_getElem? (i := 1069) (by decide +kernel), List.mem_of_getElem? (i := 1343) (by decide +kernel), List.mem_of_getElem? (i := 1344) (by decide +kernel)⟩
theorem lw_p47 : lw_okq (⟨"SlipRoomModel", "readNumber", "(II)I"⟩, 71) := ⟨⟨by decide +kernel, by decide +kernel⟩, List.mem_of_getElem? (i := 1069) (by decide +kernel), List.mem_of_getElem? (i := 1347) (by decide +kernel), List.mem_of_getElem? (i := 1348) (by decide +kernel)⟩
def lw_privs_3 : List (MethodName × Nat) := [(⟨"SlipRoom$Sharing", "mayBeFirst", "(II)Z"⟩, 10), (⟨"SlipRoom$Sharing", "mayFollow", "(III)Z"⟩, 10), (⟨"SlipRoom$Sharing", "split", "(I)V"⟩, 10), (⟨"SlipRoom$Sharing", "addSharer", "(I)V"⟩, 10), (⟨"SlipRoom$Sharing", "mayHave", "(II)Z"⟩, 10), (⟨"SlipRoom$Sharing", "holds", "(II)Z"⟩, 10), (⟨"SlipRoom$Sharing", "happens", "(II)Z"⟩, 10), (⟨"SlipRoom$Settling", "weighSet", "([III)V"⟩, 2), (⟨"SlipRoom$Settling", "looksFrom", "([III)I"⟩, 2), (⟨"SlipRoomModel", "fail", "(I)I"⟩, 71), (⟨"SlipRoomModel", "stepOn", "()V"⟩, 71), (⟨"SlipRoomModel", "byteAt", "(I)I"⟩, 71), (⟨"SlipRoomModel", "is", "(Ljava/lang/String;)Z"⟩, 71), (⟨"SlipRoomModel", "readBook", "()V"⟩, 71), (⟨"SlipRoomModel", "wrong", "(I)V"⟩, 71), (⟨"SlipRoomModel", "readNumber", "(II)I"⟩, 71)]
theorem lw_r3 : ∀ q ∈ lw_privs_3, lw_okq q := List.forall_mem_cons.mpr ⟨lw_p32, List.forall_mem_cons.mpr ⟨lw_p33, List.forall_mem_cons.mpr ⟨lw_p34, List.forall_mem_cons.mpr ⟨lw_p35, List.forall_mem_cons.mpr ⟨lw_p36, List.forall_mem_cons.mpr ⟨lw_p37, List.forall_mem_cons.mpr ⟨lw_p38, List.forall_mem_cons.mpr ⟨lw_p39, List.forall_mem_cons.mpr ⟨lw_p40, List.forall_mem_cons.mpr ⟨lw_p41, List.forall_mem_cons.mpr ⟨lw_p42, List.forall_mem_cons.mpr ⟨lw_p43, List.forall_mem_cons.mpr ⟨lw_p44, List.forall_mem_cons.mpr ⟨lw_p45, List.forall_mem_cons.mpr ⟨lw_p46, List.forall_mem_cons.mpr ⟨lw_p47, fun _ h => absurd h List.not_mem_nil⟩⟩⟩⟩⟩⟩⟩⟩⟩⟩⟩⟩⟩⟩⟩⟩
theorem lw_p48 : lw_okq (⟨"SlipRoomModel", "passes", "(Ljava/lang/String;)Z"⟩, 71) := ⟨⟨by decide +kernel, by decide +kernel⟩, List.mem_of_getElem? (i := 1069) (by decide +kernel), List.mem_of_getElem? (i := 1352) (by decide +kernel), List.mem_of_getElem? (i := 1353) (by decide +kernel)⟩
theorem lw_p49 : lw_okq (⟨"SlipRoomModel", "readReader", "()V"⟩, 71) := ⟨⟨by decide +kernel, by decide +kernel⟩, List.mem_of_getElem? (i := 1069) (by decide +kernel), List.mem_of_getElem? (i := 1357) (by decide +kernel), List.mem_of_getElem? (i := 1358) (by decide +kernel)⟩
theorem lw_p50 : lw_okq (⟨"SlipRoomModel", "readExpression", "(I)V"⟩, 71) := ⟨⟨by decide +kernel, by decide +kernel⟩, List.mem_of_getElem? (i := 1069) (by decide +kernel), List.mem_of_getElem? (i := 1365) (by decide +kernel), List.mem_of_getElem? (i := 1366) (by decide +kernel)⟩
theorem lw_p51 : lw_okq (⟨"SlipRoomModel", "isMarked", "(I)Z"⟩, 71) := ⟨⟨by decide +kernel, by decide +kernel⟩, List.mem_of_getElem? (i := 1069) (by decide +kernel), List.mem_of_getElem? (i := 1369) (by decide +kernel), List.mem_of_getElem? (i := 1370) (by decide +kernel)⟩
theorem lw_p52 : lw_okq (⟨"SlipRoomModel", "readAnd", "(I)V"⟩, 71) := ⟨⟨by decide +kernel, by decide +kernel⟩, List.mem_of_getElem? (i := 1069) (by decide +kernel), List.mem_of_getElem? (i := 1373) (by decide +kernel), List.mem_of_getElem? (i := 1374) (by decide +kernel)⟩
theorem lw_p53 : lw_okq (⟨"SlipRoomModel", "readNot", "(I)V"⟩, 71) := ⟨⟨by decide +kernel, by decide +kernel⟩, List.mem_of_getElem? (i := 1069) (by decide +kernel), List.mem_of_getElem? (i := 1377) (by decide +kernel), List.mem_of_getElem? (i := 1378) (by decide +kernel)⟩
theorem lw_p54 : lw_okq (⟨"SlipRoomModel", "readSum", "(I)V"⟩, 71) := ⟨⟨by decide +kernel, by decide +kernel⟩, List.mem_of_getElem? (i := 1069) (by decide +kernel), List.mem_of_getElem? (i := 1382) (by decide +kernel), List.mem_of_getElem? (i := 1383) (by decide +kernel)⟩
theorem lw_p55 : lw_okq (⟨"SlipRoomModel", "readProduct", "(I)V"⟩, 71) := ⟨⟨by decide +kernel, by decide +kernel⟩, List.mem_of_getElem? (i := 1069) (by decide +kernel), List.mem_of_getElem? (i := 1386) (by decide +kernel), List.mem_of_getElem? (i := 1387) (by decide +kernel)⟩
theorem lw_p56 : lw_okq (⟨"SlipRoomModel", "readPart", "(I)V"⟩, 71) := ⟨⟨by decide +kernel, by decide +kernel⟩, List.mem_of_getElem? (i := 1069) (by decide +kernel), List.mem_of_getElem? (i := 1390) (by decide +kernel), List.mem_of_getElem? (i := 1391) (by decide +kernel)⟩
theorem lw_p57 : lw_okq (⟨"SlipRoomModel", "lay", "(I)V"⟩, 71) := ⟨⟨by decide +kernel, by decide +kernel⟩, List.mem_of_getElem? (i := 1069) (by decide +kernel), List.mem_of_getElem? (i := 1394) (by decide +kernel), List.mem_of_getElem? (i := 1395) (by decide +kernel)⟩
theorem lw_p58 : lw_okq (⟨"SlipRoomModel", "which", "([Ljava/lang/String;)I"⟩, 71) := ⟨⟨by decide +kernel, by decide +kernel⟩, List.mem_of_getElem? (i := 1069) (by decide +kernel), List.mem_of_getElem? (i := 1398) (by decide +kernel), List.mem_of_getElem? (i := 1399) (by decide +kernel)⟩
theorem lw_p59 : lw_okq (⟨"SlipRoomModel", "mark", "(I)V"⟩, 71) := ⟨⟨by decide +kernel, by decide +kernel⟩, List.mem_of_getElem? (i := 1069) (by decide +kernel), List.mem_of_getElem? (i := 1402) (by decide +kernel), List.mem_of_getElem? (i := 1403) (by decide +kernel)⟩
theorem lw_p60 : lw_okq (⟨"SlipRoomModel", "take", "()V"⟩, 71) := ⟨⟨by decide +kernel, by decide +kernel⟩, List.mem_of_getElem? (i := 1069) (by decide +kernel), List.mem_of_getElem? (i := 1408) (by decide +kernel), List.mem_of_getElem? (i := 1409) (by decide +kernel)⟩
theorem lw_p61 : lw_okq (⟨"SlipRoomModel", "isBook", "(I)Z"⟩, 71) := ⟨⟨by decide +kernel, by decide +kernel⟩, List.mem_of_getElem? (i := 1069) (by decide +kernel), List.mem_of_getElem? (i := 1427) (by decide +kernel), List.mem_of_getElem? (i := 1428) (by decide +kernel)⟩
theorem lw_p62 : lw_okq (⟨"SlipRoomModel", "unopened", "(I)I"⟩, 71) := ⟨⟨by decide +kernel, by decide +kernel⟩, List.mem_of_getElem? (i := 1069) (by decide +kernel), List.mem_of_getElem? (i := 1431) (by decide +kernel), List.mem_of_getElem? (i := 1432) (by decide +kernel)⟩
theorem lw_p63 : lw_okq (⟨"SlipRoomModel", "hasRead", "(III)Z"⟩, 71) := ⟨⟨by decide +kernel, by decide +kernel⟩, List.mem_of_getElem? (i := 1069) (by decide +kernel), List.mem_of_getElem? (i := 1435) (by decide +kernel), List.mem_of_getElem? (i := 1436) (by decide +kernel)⟩
def lw_privs_4 : List (MethodName × Nat) := [(⟨"SlipRoomModel", "passes", "(Ljava/lang/String;)Z"⟩, 71), (⟨"SlipRoomModel", "readReader", "()V"⟩, 71), (⟨"SlipRoomModel", "readExpression", "(I)V"⟩, 71), (⟨"SlipRoomModel", "isMarked", "(I)Z"⟩, 71), (⟨"SlipRoomModel", "readAnd", "(I)V"⟩, 71), (⟨"SlipRoomModel", "readNot", "(I)V"⟩, 71), (⟨"SlipRoomModel", "readSum", "(I)V"⟩, 71), (⟨"SlipRoomModel", "readProduct", "(I)V"⟩, 71), (⟨"SlipRoomModel", "readPart", "(I)V"⟩, 71), (⟨"SlipRoomModel", "lay", "(I)V"⟩, 71), (⟨"SlipRoomModel", "which", "([Ljava/lang/String;)I"⟩, 71), (⟨"SlipRoomModel", "mark", "(I)V"⟩, 71), (⟨"SlipRoomModel", "take", "()V"⟩, 71), (⟨"SlipRoomModel", "isBook", "(I)Z"⟩, 71), (⟨"SlipRoomModel", "unopened", "(I)I"⟩, 71), (⟨"SlipRoomModel", "hasRead", "(III)Z"⟩, 71)]
theorem lw_r4 : ∀ q ∈ lw_privs_4, lw_okq q := List.forall_mem_cons.mpr ⟨lw_p48, List.forall_mem_cons.mpr ⟨lw_p49, List.forall_mem_cons.mpr ⟨lw_p50, List.forall_mem_cons.mpr ⟨lw_p51, List.forall_mem_cons.mpr ⟨lw_p52, List.forall_mem_cons.mpr ⟨lw_p53, List.forall_mem_cons.mpr ⟨lw_p54, List.forall_mem_cons.mpr ⟨lw_p55, List.forall_mem_cons.mpr ⟨lw_p56, List.forall_mem_cons.mpr ⟨lw_p57, List.forall_mem_cons.mpr ⟨lw_p58, List.forall_mem_cons.mpr ⟨lw_p59, List.forall_mem_cons.mpr ⟨lw_p60, List.forall_mem_cons.mpr ⟨lw_p61, List.forall_mem_cons.mpr ⟨lw_p62, List.forall_mem_cons.mpr ⟨lw_p63, fun _ h => absurd h List.not_mem_nil⟩⟩⟩⟩⟩⟩⟩⟩⟩⟩⟩⟩⟩⟩⟩⟩
theorem lw_p64 : lw_okq (⟨"SlipRoomModel", "slipsIn", "(I)I"⟩, 71) := ⟨⟨by decide +kernel, by decide +kernel⟩, List.mem_of_getElem? (i := 1069) (by decide +kernel), List.mem_of_getElem? (i := 1442) (by decide +kernel), List.mem_of_getElem? (i := 1443) (by decide +kernel)⟩
theorem lw_p65 : lw_okq (⟨"SlipRoomModel", "isReader", "(I)Z"⟩, 71) := ⟨⟨by decide +kernel, by decide +kernel⟩, List.mem_of_getElem? (i := 1069) (by decide +kernel), List.mem_of_getElem? (i := 1450) (by decide +kernel), List.mem_of_getElem? (i := 1451) (by decide +kernel)⟩
theorem lw_p66 : lw_okq (⟨"SlipRoomModel", "turnPage", "(IIII)V"⟩, 71) := ⟨⟨by decide +kernel, by decide +kernel⟩, List.mem_of_getElem? (i := 1069) (by decide +kernel), List.mem_of_getElem? (i := 1458) (by decide +kernel), List.mem_of_getElem? (i := 1459) (by decide +kernel)⟩
theorem lw_p67 : lw_okq (⟨"SlipRoomModel", "readOf", "(II)I"⟩, 71) := ⟨⟨by decide +kernel, by decide +kernel⟩, List.mem_of_getElem? (i := 1069) (by decide +kernel), List.mem_of_getElem? (i := 1462) (by decide +kernel), List.mem_of_getElem? (i := 1463) (by decide +kernel)⟩
theorem lw_p68 : lw_okq (⟨"SlipRoomModel", "beginOf", "(II)I"⟩, 71) := ⟨⟨by decide +kernel, by decide +kernel⟩, List.mem_of_getElem? (i := 1069) (by decide +kernel), List.mem_of_getElem? (i := 1466) (by decide +kernel), List.mem_of_getElem? (i := 1467) (by decide +kernel)⟩
theorem lw_p69 : lw_okq (⟨"SlipRoomModel", "stops", "(IIIII)Z"⟩, 71) := ⟨⟨by decide +kernel, by decide +kernel⟩, List.mem_of_getElem? (i := 1069) (by decide +kernel), List.mem_of_getElem? (i := 1471) (by decide +kernel), List.mem_of_getElem? (i := 1472) (by decide +kernel)⟩
theorem lw_p70 : lw_okq (⟨"SlipRoomModel", "inARow", "(II)I"⟩, 71) := ⟨⟨by decide +kernel, by decide +kernel⟩, List.mem_of_getElem? (i := 1069) (by decide +kernel), List.mem_of_getElem? (i := 1494) (by decide +kernel), List.mem_of_getElem? (i := 1495) (by decide +kernel)⟩
theorem lw_p71 : lw_okq (⟨"SlipRoomModel", "looksOf", "(I)I"⟩, 71) := ⟨⟨by decide +kernel, by decide +kernel⟩, List.mem_of_getElem? (i := 1069) (by decide +kernel), List.mem_of_getElem? (i := 1510) (by decide +kernel), List.mem_of_getElem? (i := 1511) (by decide +kernel)⟩
theorem lw_p72 : lw_okq (⟨"SlipRoomModel", "tellWays", "(II)V"⟩, 71) := ⟨⟨by decide +kernel, by decide +kernel⟩, List.mem_of_getElem? (i := 1069) (by decide +kernel), List.mem_of_getElem? (i := 1518) (by decide +kernel), List.mem_of_getElem? (i := 1519) (by decide +kernel)⟩
theorem lw_p73 : lw_okq (⟨"SlipRoomModel", "layLooks", "(II)V"⟩, 71) := ⟨⟨by decide +kernel, by decide +kernel⟩, List.mem_of_getElem? (i := 1069) (by decide +kernel), List.mem_of_getElem? (i := 1522) (by decide +kernel), List.mem_of_getElem? (i := 1523) (by decide +kernel)⟩
theorem lw_p74 : lw_okq (⟨"SlipRoomModel", "wayOn", "(II)V"⟩, 71) := ⟨⟨by decide +kernel, by decide +kernel⟩, List.mem_of_getElem? (i := 1069) (by decide +kernel), List.mem_of_getElem? (i := 1526) (by decide +kernel), List.mem_of_getElem? (i := 1527) (by decide +kernel)⟩
theorem lw_p75 : lw_okq (⟨"SlipRoomModel", "tellWay", "()V"⟩, 71) := ⟨⟨by decide +kernel, by decide +kernel⟩, List.mem_of_getElem? (i := 1069) (by decide +kernel), List.mem_of_getElem? (i := 1530) (by decide +kernel), List.mem_of_getElem? (i := 1531) (by decide +kernel)⟩
theorem lw_p76 : lw_okq (⟨"SlipRoomModel", "mayHave", "(III)Z"⟩, 71) := ⟨⟨by decide +kernel, by decide +kernel⟩, List.mem_of_getElem? (i := 1069) (by decide +kernel), List.mem_of_getElem? (i := 1534) (by decide +kernel), List.mem_of_getElem? (i := 1535) (by decide +kernel)⟩
theorem lw_p77 : lw_okq (⟨"SlipRoomModel", "lentBetween", "(IIII)I"⟩, 71) := ⟨⟨by decide +kernel, by decide +kernel⟩, List.mem_of_getElem? (i := 1069) (by decide +kernel), List.mem_of_getElem? (i := 1538) (by decide +kernel), List.mem_of_getElem? (i := 1539) (by decide +kernel)⟩
theorem lw_p78 : lw_okq (⟨"SlipRoomModel", "begunBetween", "(IIII)I"⟩, 71) := ⟨⟨by decide +kernel, by decide +kernel⟩, List.mem_of_getElem? (i := 1069) (by decide +kernel), List.mem_of_getElem? (i := 1542) (by decide +kernel), List.mem_of_getElem? (i := 1543) (by decide +kernel)⟩
theorem lw_p79 : lw_okq (⟨"SlipRoomModel", "orderOn", "(IIII)V"⟩, 71) := ⟨⟨by decide +kernel, by decide +kernel⟩, List.mem_of_getElem? (i := 1069) (by decide +kernel), List.mem_of_getElem? (i := 1566) (by decide +kernel), List.mem_of_getElem? (i := 1567) (by decide +kernel)⟩
def lw_privs_5 : List (MethodName × Nat) := [(⟨"SlipRoomModel", "slipsIn", "(I)I"⟩, 71), (⟨"SlipRoomModel", "isReader", "(I)Z"⟩, 71), (⟨"SlipRoomModel", "turnPage", "(IIII)V"⟩, 71), (⟨"SlipRoomModel", "readOf", "(II)I"⟩, 71), (⟨"SlipRoomModel", "beginOf", "(II)I"⟩, 71), (⟨"SlipRoomModel", "stops", "(IIIII)Z"⟩, 71), (⟨"SlipRoomModel", "inARow", "(II)I"⟩, 71), (⟨"SlipRoomModel", "looksOf", "(I)I"⟩, 71), (⟨"SlipRoomModel", "tellWays", "(II)V"⟩, 71), (⟨"SlipRoomModel", "layLooks", "(II)V"⟩, 71), (⟨"SlipRoomModel", "wayOn", "(II)V"⟩, 71), (⟨"SlipRoomModel", "tellWay", "()V"⟩, 71), (⟨"SlipRoomModel", "mayHave", "(III)Z"⟩, 71), (⟨"SlipRoomModel", "lentBetween", "(IIII)I"⟩, 71), (⟨"SlipRoomModel", "begunBetween", "(IIII)I"⟩, 71), (⟨"SlipRoomModel", "orderOn", "(IIII)V"⟩, 71)]
theorem lw_r5 : ∀ q ∈ lw_privs_5, lw_okq q := List.forall_mem_cons.mpr ⟨lw_p64, List.forall_mem_cons.mpr ⟨lw_p65, List.forall_mem_cons.mpr ⟨lw_p66, List.forall_mem_cons.mpr ⟨lw_p67, List.forall_mem_cons.mpr ⟨lw_p68, List.forall_mem_cons.mpr ⟨lw_p69, List.forall_mem_cons.mpr ⟨lw_p70, List.forall_mem_cons.mpr ⟨lw_p71, List.forall_mem_cons.mpr ⟨lw_p72, List.forall_mem_cons.mpr ⟨lw_p73, List.forall_mem_cons.mpr ⟨lw_p74, List.forall_mem_cons.mpr ⟨lw_p75, List.forall_mem_cons.mpr ⟨lw_p76, List.forall_mem_cons.mpr ⟨lw_p77, List.forall_mem_cons.mpr ⟨lw_p78, List.forall_mem_cons.mpr ⟨lw_p79, fun _ h => absurd h List.not_mem_nil⟩⟩⟩⟩⟩⟩⟩⟩⟩⟩⟩⟩⟩⟩⟩⟩
theorem lw_p80 : lw_okq (⟨"SlipRoomModel", "settlesBy", "(II)I"⟩, 71) := ⟨⟨by decide +kernel, by decide +kernel⟩, List.mem_of_getElem? (i := 1069) (by decide +kernel), List.mem_of_getElem? (i := 1585) (by decide +kernel), List.mem_of_getElem? (i := 1586) (by decide +kernel)⟩
theorem lw_p81 : lw_okq (⟨"SlipRoomModel", "keep", "([I)V"⟩, 71) := ⟨⟨by decide +kernel, by decide +kernel⟩, List.mem_of_getElem? (i := 1069) (by decide +kernel), List.mem_of_getElem? (i := 1593) (by decide +kernel), List.mem_of_getElem? (i := 1594) (by decide +kernel)⟩
theorem lw_p82 : lw_okq (⟨"SlipRoomModel", "giveBack", "([I)V"⟩, 71) := ⟨⟨by decide +kernel, by decide +kernel⟩, List.mem_of_getElem? (i := 1069) (by decide +kernel), List.mem_of_getElem? (i := 1601) (by decide +kernel), List.mem_of_getElem? (i := 1602) (by decide +kernel)⟩
def lw_privs_6 : List (MethodName × Nat) := [(⟨"SlipRoomModel", "settlesBy", "(II)I"⟩, 71), (⟨"SlipRoomModel", "keep", "([I)V"⟩, 71), (⟨"SlipRoomModel", "giveBack", "([I)V"⟩, 71)]
theorem lw_r6 : ∀ q ∈ lw_privs_6, lw_okq q := List.forall_mem_cons.mpr ⟨lw_p80, List.forall_mem_cons.mpr ⟨lw_p81, List.forall_mem_cons.mpr ⟨lw_p82, fun _ h => absurd h List.not_mem_nil⟩⟩⟩
def lw_privs : List (MethodName × Nat) := lw_privs_1 ++ (lw_privs_2 ++ (lw_privs_3 ++ (lw_privs_4 ++ (lw_privs_5 ++ (lw_privs_6)))))
def lw_tbl : List Cond := k2_sels lw_privs ++ tables_1
theorem lw_privs_ok : ∀ q ∈ lw_privs, lw_okq q := by
  show ∀ q ∈ lw_privs_1 ++ (lw_privs_2 ++ (lw_privs_3 ++ (lw_privs_4 ++ (lw_privs_5 ++ (lw_privs_6))))), lw_okq q
  exact List.forall_mem_append.mpr ⟨lw_r1, List.forall_mem_append.mpr ⟨lw_r2, List.forall_mem_append.mpr ⟨lw_r3, List.forall_mem_append.mpr ⟨lw_r4, List.forall_mem_append.mpr ⟨lw_r5, lw_r6⟩⟩⟩⟩⟩
-- ===== end of PART A; then your names; then what follows =====
end
section
/-! ===== BEGIN words of one list among another's, by their places ===== -/
theorem goodIn_r {big : List Cond} (ws : List Cond) (ps : List Nat) (hp : ws = ps.filterMap (fun i => big[i]?)) (h : ws.all goodWord = true) : GoodIn big ws := by
  intro w hw
  have h1 := List.all_eq_true.mp h w hw
  rw [hp] at hw
  obtain ⟨i, -, hi⟩ := List.mem_filterMap.mp hw
  have hm : w ∈ big := by first | exact List.mem_of_getElem? hi | exact List.getElem?_mem hi
  exact ⟨hm, good_of_word h1⟩
theorem goodIn_app {big a b : List Cond} (ha : GoodIn big a) (hb : GoodIn big b) : GoodIn big (a ++ b) := fun w h => (List.mem_append.mp h).elim (ha w) (hb w)
theorem goodIn_ca {big a b : List Cond} {c : Cond} (ha : GoodIn big (c :: a)) (hb : GoodIn big b) : GoodIn big (c :: (a ++ b)) := fun w h => (List.mem_cons.mp h).elim (fun e => ha w (List.mem_cons.mpr (Or.inl e))) (fun h => (List.mem_append.mp h).elim (fun h => ha w (List.mem_cons.mpr (Or.inr h))) (hb w))
theorem goodIn_sub {big ws : List Cond} (hm : ∀ w ∈ ws, w ∈ big) (h : ws.all goodWord = true) : GoodIn big ws := fun w hw => ⟨hm w hw, good_of_word (List.all_eq_true.mp h w hw)⟩
/-! ===== END ===== -/

/-! ===== BEGIN exceptions that leave a method, and their catching by the caller (launches without stack traces) ===== -/
section VXA
/-! The laws vx_back, vx_callV, vx_callS, vx_callSW, vx_throw0, vx_throwS follow proofs of the library, with one case more: JvmDerived/Free/Laws.lean (Back.of_free), Shelf42/LK1.lean (callV, callS), Shelf/KitTraced.lean (throwNew0V, throwNewS). -/
/-- where a method has thrown q: the class by its name, the cell, what was written, the world -/
def vx_T (XC : String → State → State → Prop) (st : State) (q : Addr) (t : State) (mc ms : Nat) (free : Addr → Prop) : Prop :=
  ∃ (E : String) (ce : Cell) (L : List Loc), XC E st t ∧ t.heap[q]? = some ce ∧ ce.vm = .none ∧ st.vm.findClass E = some ce.cls ∧ st.WarmedH t.vm ∧ st.sameButNew ({ t with vm := st.vm } : State) L mc ms ∧ ∀ z ∈ L, free z.base
def vx_Q (Qc : Array Value → State → Outcome → State → Prop) (XC : String → State → State → Prop) (mc ms : Nat) (free : Addr → Prop) : Array Value → State → Outcome → State → Prop := fun a st o t =>
  (Qc a st o t ∧ ∃ L, FrameEnd st o t L mc ms ∧ ∀ q ∈ L, free q.base) ∨ ∃ q, o = .threw q ∧ vx_T XC st q t mc ms free
/-- a callee that returns or throws -/
def vx_Met (l : Launch) (y : MethodName) (ws : List Cond) (rm : Room) (Pc : Array Value → State → Prop) (Qc : Array Value → State → Outcome → State → Prop) (XC : String → State → State → Prop) (mc ms : Nat) (free : Addr → Prop) : Prop :=
  MetFree l y (headSpec ws rm) Pc (fun _ _ _ _ _ => True) (vx_Q Qc XC mc ms free)
def vx_Post (XC : String → State → State → Prop) (mc ms : Nat) (free : Addr → Prop) : Pt → Array Value → Addr → Pt → Prop := fun A a q B =>
  ∃ (g : JFrame) (mk : MethodId) (t : State) (L : List Loc) (E : String) (ce : Cell), B.U.heap = t.heap ∧ B.U.vm = t.vm ∧ XC E (A.U.calling g mk a) t ∧ t.heap[q]? = some ce ∧ ce.vm = .none ∧ A.U.vm.findClass E = some ce.cls ∧ B.locs = A.locs ++ L ∧ (∀ z ∈ L, free z.base) ∧ B.cells = A.cells + mc ∧ B.slots = A.slots + ms
def vx_Back (l : Launch) (R : Room) (p : Program) (e : Env) (below : List Frame) (s : State) (sargs : Array Value) (y : MethodName) (len W9 : Nat)
    (Pre : Pt → Array Value → Prop) (Post : Pt → Array Value → Option Value → Pt → Prop) (PostX : Pt → Array Value → Addr → Pt → Prop) : Prop :=
  ∀ (m : MethodId) (meth : Method) (c : Code) (A : Pt) (g : JFrame) (ig : Instr) (mk : MethodId) (a : Array Value),
    Stand p l e R s m sargs below meth c A.U A.locs A.cells A.slots → g.method = m → g.locals.size = c.maxLocals → decode c.code g.pc = .ok (ig, len) →
    2 * g.monitorRoom + (g.stack.map fun v => v.category).sum ≤ W9 → A.U.methodNamed? y = some mk → Pre A a →
    (∃ (v : Option Value) (B : Pt), Stand p l e R s m sargs below meth c B.U B.locs B.cells B.slots ∧ Post A a v B ∧
      Steps p.tables e below (doInvoke e (A.U.setTop g) [] mk a).1 (B.U.setTop { g with pc := g.pc + len, stack := v.toList ++ g.stack })) ∨
    (∃ (q : Addr) (B : Pt), Stand p l e R s m sargs below meth c B.U B.locs B.cells B.slots ∧ PostX A a q B ∧
      Steps p.tables e below (doInvoke e (A.U.setTop g) [] mk a).1 ((B.U.setTop g).pushFrame (.throwing q)))
section Payer
variable {l : Launch} {R : Room} {p : Program} {e : Env} {below : List Frame} {s : State} {sargs : Array Value} {y : MethodName} {len W9 : Nat}
theorem vx_back {ws : List Cond} {rm : Room} {Pc : Array Value → State → Prop} {Qc : Array Value → State → Outcome → State → Prop} {XC : String → State → State → Prop} {mc ms : Nat} {free : Addr → Prop} {bytes : ByteArray} {maxL : Nat} {ret : Option FieldType}
    (hM : vx_Met l y ws rm Pc Qc XC mc ms free) (hblind : FrameBlind Pc) (hrc : rm.cells = mc) (hrs : rm.slots = ms)
    (hframes : rm.frames + 1 ≤ R.frames) (hlocals : W9 + (maxL + 11) + rm.locals ≤ R.locals)
    (hws : ∀ w ∈ ws, ∀ a' U, s.WarmedH U.vm → w.before a' U = true) (hcode : Cond.code y bytes maxL ret ∈ ws) (hinit : ∀ a' U, s.WarmedH U.vm → (Cond.initialized y.cls).before a' U = true) :
    vx_Back l R p e below s sargs y len W9 (PreOf R mc ms Pc) (PostOf Qc mc ms free) (vx_Post XC mc ms free) := by
  intro m meth c A g ig mk a X hg hsize hdg hW hn hp
  have h1 : (headSpec ws rm).pre.before a A.U = true := atoms_intro fun w hw => hws w hw _ _ X.warmed
  have h2 : (Cond.code y bytes maxL ret).before a A.U = true := hws _ hcode _ _ X.warmed
  have h3 : (Cond.initialized y.cls).before a A.U = true := hinit _ _ X.warmed
  have h4 : A.cells + (headSpec ws rm).room.cells ≤ R.cells := by rw [show (headSpec ws rm).room.cells = mc from hrc]; exact hp.1
  have h5 : A.slots + (headSpec ws rm).room.slots ≤ R.slots := by rw [show (headSpec ws rm).room.slots = ms from hrs]; exact hp.2.1
  have hPc : Pc a (A.U.calling g mk a) := hblind _ _ _ _ hp.2.2
  obtain ⟨U, Ls, c0, s0⟩ := A
  dsimp only [Pt.U, Pt.locs, Pt.cells, Pt.slots] at h1 h2 h3 h4 h5 X hn hPc ⊢
  obtain ⟨methY, cY, hmY, hcY, -, hlY, -, -, -, -⟩ := Cond.code_spec hn h2
  obtain ⟨kY, hkY, -⟩ := className_of_methodNamed hn
  have hinitY : kY.init = .initialized := Cond.initialized_spec (findClass_of_methodNamed hn) hkY h3
  have h : At U g.method c below := by rw [hg]; exact X.here
  have hlocals9 : W9 + (maxL + 11) + (headSpec ws rm).room.locals ≤ R.locals := hlocals
  have happ : (headSpec ws rm).appliesLoose y e.platform (U.calling g mk a) = true :=
    Spec.appliesLoose_calling (g := g) h hdg hn hkY hinitY
      (X.room_calling (g := g) (R' := (headSpec ws rm).room) hsize hmY hcY hframes (by rw [hlY]; omega) h4 h5) h1
  obtain ⟨mid, hmid⟩ := h.above
  have hfr : (U.setTop g).frames = (.java g :: mid) ++ below := by rw [State.frames_setTop' g h.top, hmid]; rfl
  obtain ⟨o, s₂, hsteps, -, hend, hq⟩ := Steps.callFree hM p X.admits X.cas X.clock (acts := []) hfr happ hPc trivial
  have hq' : vx_Q Qc XC mc ms free a (U.calling g mk a) o s₂ := hq
  rw [State.frames_setTop' g h.top] at hend
  obtain ⟨g₀, hg0⟩ := Option.isSome_iff_exists.mp h.top
  obtain ⟨r, hr⟩ := State.topJava?_eq_some.mp hg0
  have hr' : (({ U with heap := s₂.heap, slotsUsed := s₂.slotsUsed } : State).setVm s₂.vm).frames = .java g₀ :: r := hr
  rcases hq' with ⟨hqc, L, hfe, hL⟩ | ⟨q, rfl, E, ce, L, hx, hce, hcv, hcl, hW₂, hsm, hL⟩
  · obtain ⟨⟨v, rfl⟩, hW₂, e2, q2, q3, q4, q5, q6⟩ := id hfe
    have e3 : s₂ = ({ (U.calling g mk a).setFrames s₂.frames with heap := s₂.heap, slotsUsed := s₂.slotsUsed } : State).setVm s₂.vm := by
      have : s₂ = ({ s₂ with vm := (U.calling g mk a).vm } : State).setVm s₂.vm := rfl
      rw [e2] at this
      exact this
    obtain ⟨c₂, i₂, len₂, hc₂, hd₂, hf₂⟩ := hend
    have hW' : U.WarmedH s₂.vm := hW₂
    have hcc : c₂ = c := by
      have h1 : s₂.code? g.method = U.code? g.method := by
        rw [State.code?_eq, State.code?_eq, hW'.alike.method?]
      exact Option.some.inj (hc₂.symm.trans (h1.trans h.code))
    subst hcc
    have hlen : len₂ = len := by rw [hdg] at hd₂; cases hd₂; rfl
    subst hlen
    have hs₂ : s₂ = (({ U with heap := s₂.heap, slotsUsed := s₂.slotsUsed } : State).setVm s₂.vm).setTop { g with pc := g.pc + len₂, stack := v.toList ++ g.stack } := by
      refine e3.trans ?_
      rw [hf₂, State.calling_eq h.top, State.setFrames_setFrames, State.setTop_of_frames _ hr', hr]
      rfl
    have hsame : U.sameButNew ({ U with heap := s₂.heap, slotsUsed := s₂.slotsUsed } : State) L mc ms := by
      refine ⟨?_, q2, q3, q4, q5, q6⟩
      obtain ⟨t, ht, -⟩ := State.frames_cons hr
      show ({ U with heap := s₂.heap, slotsUsed := s₂.slotsUsed } : State) = { U.setFrames U.frames with heap := s₂.heap, slotsUsed := s₂.slotsUsed }
      rw [State.setFrames_self ht]
    subst hg
    refine Or.inl ⟨v, ⟨(({ U with heap := s₂.heap, slotsUsed := s₂.slotsUsed } : State).setVm s₂.vm), Ls ++ L, c0 + mc, s0 + ms⟩,
      ⟨X.admits, X.cas, X.clock, X.frames, X.room, X.hears, X.method, X.code, (X.here.setHeapUsed s₂.heap s₂.slotsUsed).setVm hW'.alike, X.tail, State.WarmedH.trans X.warmed hW', X.limits, X.bytes, X.same.trans (hsame.setVm s.vm)⟩,
      ⟨g, mk, s₂, L, rfl, rfl, hqc, rfl, hL, rfl, rfl⟩, ?_⟩
    show Steps p.tables e below _ ((({ U with heap := s₂.heap, slotsUsed := s₂.slotsUsed } : State).setVm s₂.vm).setTop { g with pc := g.pc + len₂, stack := v.toList ++ g.stack })
    rw [← hs₂]
    exact hsteps
  · obtain ⟨e2, q2, q3, q4, q5, q6⟩ := id hsm
    have e3 : s₂ = ({ (U.calling g mk a).setFrames s₂.frames with heap := s₂.heap, slotsUsed := s₂.slotsUsed } : State).setVm s₂.vm := by
      have : s₂ = ({ s₂ with vm := (U.calling g mk a).vm } : State).setVm s₂.vm := rfl
      rw [e2] at this
      exact this
    have hf₂ : s₂.frames = .throwing q :: .java g :: U.frames.tail := hend
    have hW' : U.WarmedH s₂.vm := hW₂
    have hs₂ : s₂ = ((({ U with heap := s₂.heap, slotsUsed := s₂.slotsUsed } : State).setVm s₂.vm).setTop g).pushFrame (.throwing q) := by
      refine e3.trans ?_
      rw [hf₂, State.calling_eq h.top, State.setFrames_setFrames, State.pushFrame, State.frames_setTop _ hr', State.setTop_of_frames _ hr', State.setFrames_setFrames, hr]
      rfl
    have hsame : U.sameButNew ({ U with heap := s₂.heap, slotsUsed := s₂.slotsUsed } : State) L mc ms := by
      refine ⟨?_, q2, q3, q4, q5, q6⟩
      obtain ⟨t, ht, -⟩ := State.frames_cons hr
      show ({ U with heap := s₂.heap, slotsUsed := s₂.slotsUsed } : State) = { U.setFrames U.frames with heap := s₂.heap, slotsUsed := s₂.slotsUsed }
      rw [State.setFrames_self ht]
    subst hg
    refine Or.inr ⟨q, ⟨(({ U with heap := s₂.heap, slotsUsed := s₂.slotsUsed } : State).setVm s₂.vm), Ls ++ L, c0 + mc, s0 + ms⟩,
      ⟨X.admits, X.cas, X.clock, X.frames, X.room, X.hears, X.method, X.code, (X.here.setHeapUsed s₂.heap s₂.slotsUsed).setVm hW'.alike, X.tail, State.WarmedH.trans X.warmed hW', X.limits, X.bytes, X.same.trans (hsame.setVm s.vm)⟩,
      ⟨g, mk, s₂, L, E, ce, rfl, rfl, hx, hce, hcv, hcl, rfl, hL, rfl, rfl⟩, ?_⟩
    show Steps p.tables e below _ (((({ U with heap := s₂.heap, slotsUsed := s₂.slotsUsed } : State).setVm s₂.vm).setTop g).pushFrame (.throwing q))
    rw [← hs₂]
    exact hsteps
end Payer
section Calls
variable {p : Program} {l : Launch} {e : Env} {R : Room} {s : State} {m : MethodId} {args : Array Value} {below : List Frame} {meth : Method} {c : Code} {T : State} {locs : List Loc} {cells slots : Nat}
theorem vx_callV (X : Stand p l e R s m args below meth c T locs cells slots) (hexec : p.tables.exec = Jvm.exec) {own C : String} {index : Nat} {y : MethodName} {bytes : ByteArray} {maxL : Nat} {ret : Option FieldType}
    (hown : s.vm.findClass own = some m.cls) (hlink : (Cond.methodLink own index y).before args s = true) (hinst : (Cond.instanceMethod y).before args s = true) (hsel : (Cond.selects C y y).before args s = true)
    (hcode : (Cond.code y bytes maxL ret).before args s = true) (hy : y.cls ≠ "java/lang/invoke/MethodHandle" ∧ y.cls ≠ "java/lang/invoke/VarHandle")
    {W9 : Nat} {Pre : Pt → Array Value → Prop} {Post : Pt → Array Value → Option Value → Pt → Prop} {PostX : Pt → Array Value → Addr → Pt → Prop} (hK : vx_Back l R p e below s args y 3 W9 Pre Post PostX)
    {b : Addr} {cellB : Cell} (hcell : T.heap[b]? = some cellB) (hobj : cellB.vm.isStatics = false) (hcls : s.vm.findClass C = some cellB.cls)
    {g : JFrame} (hg : g.method = m) (hsize : g.locals.size = c.maxLocals) {argsL rest : List Value} (hlen : ∀ sig, parseMethodDescriptor y.desc = some sig → argsL.length = sig.parameters.length)
    (hstack : g.stack = argsL.reverse ++ .ref b :: rest) (hW : 2 * g.monitorRoom + (rest.map fun v => v.category).sum ≤ W9) (hdg : decode c.code g.pc = .ok (.invokevirtual index, 3))
    (hpre : ∀ vm₁, s.WarmedH vm₁ → Pre ⟨T.setVm vm₁, locs, cells, slots⟩ (Value.ref b :: argsL).toArray) :
    (∃ (v : Option Value) (vm₁ : Vm) (B : Pt), s.WarmedH vm₁ ∧ Stand p l e R s m args below meth c B.U B.locs B.cells B.slots ∧ Post ⟨T.setVm vm₁, locs, cells, slots⟩ (Value.ref b :: argsL).toArray v B ∧
      ∀ target, Steps p.tables e below (B.U.setTop { g with pc := g.pc + 3, stack := v.toList ++ rest }) target → Steps p.tables e below (T.setTop g) target) ∨
    (∃ (q : Addr) (vm₁ : Vm) (B : Pt), s.WarmedH vm₁ ∧ Stand p l e R s m args below meth c B.U B.locs B.cells B.slots ∧ PostX ⟨T.setVm vm₁, locs, cells, slots⟩ (Value.ref b :: argsL).toArray q B ∧
      Steps p.tables e below (T.setTop g) ((B.U.setTop { g with stack := rest }).pushFrame (.throwing q))) := by
  obtain ⟨mk, methM, hnamed, hmethM, hstM, habM⟩ := Cond.instanceMethod_spec hinst
  obtain ⟨methM', cM, hmethM', -, -, -, -, -, -, hsigM⟩ := Cond.code_spec hnamed hcode
  cases hmethM.symm.trans hmethM'
  obtain ⟨c2, r2, m2, q1, q2, q3, q4, kP, hkP, hkPi⟩ := Cond.selects_spec hsel
  cases hcls.symm.trans q1
  cases (State.methodFound?_of_named hnamed hy).symm.trans q2
  cases hnamed.symm.trans q3
  have hselP : selectMethod e.platform s.vm cellB.cls mk = .method mk := by rw [Launch.admits_selectMethod X.admits]; exact q4
  obtain ⟨vm₁, X₁, hstep₁⟩ := X.invokevirtual hexec hown hlink hnamed hmethM hstM hkP hkPi hy (a := b) (cell := cellB) hcell
    (fun z h => by rw [h] at hobj; cases hobj) hselP hmethM habM hkP hkPi (g := g) hg (argsL := argsL) (rest := rest) (hlen _ hsigM) hstack hdg
  rcases hK m meth c ⟨T.setVm vm₁, locs, cells, slots⟩ { g with stack := rest } (.invokevirtual index) mk (Value.ref b :: argsL).toArray X₁ hg hsize hdg hW (X₁.named hnamed) (hpre vm₁ X₁.warmed) with ⟨v, B, X', hpost, hsteps⟩ | ⟨q, B, X', hpost, hsteps⟩
  · exact Or.inl ⟨v, vm₁, B, X₁.warmed, X', hpost, fun target h => hstep₁ _ fun acts => by rw [doInvoke_state]; exact hsteps.trans h⟩
  · exact Or.inr ⟨q, vm₁, B, X₁.warmed, X', hpost, hstep₁ _ fun acts => by rw [doInvoke_state]; exact hsteps⟩
theorem vx_callS (X : Stand p l e R s m args below meth c T locs cells slots) (hexec : p.tables.exec = Jvm.exec) {own : String} {index : Nat} {y : MethodName} {bytes : ByteArray} {maxL : Nat} {ret : Option FieldType}
    (hown : s.vm.findClass own = some m.cls) (hlink : (Cond.methodLink own index y).before args s = true) (hstat : (Cond.static y).before args s = true) (hinit : (Cond.initialized y.cls).before args s = true)
    (hcode : (Cond.code y bytes maxL ret).before args s = true) (hy : y.cls ≠ "java/lang/invoke/MethodHandle" ∧ y.cls ≠ "java/lang/invoke/VarHandle")
    {W9 : Nat} {Pre : Pt → Array Value → Prop} {Post : Pt → Array Value → Option Value → Pt → Prop} {PostX : Pt → Array Value → Addr → Pt → Prop} (hK : vx_Back l R p e below s args y 3 W9 Pre Post PostX)
    {g : JFrame} (hg : g.method = m) (hsize : g.locals.size = c.maxLocals) {argsL rest : List Value} (hlen : ∀ sig, parseMethodDescriptor y.desc = some sig → argsL.length = sig.parameters.length)
    (hstack : g.stack = argsL.reverse ++ rest) (hW : 2 * g.monitorRoom + (rest.map fun v => v.category).sum ≤ W9) (hdg : decode c.code g.pc = .ok (.invokestatic index, 3))
    (hpre : ∀ vm₁, s.WarmedH vm₁ → Pre ⟨T.setVm vm₁, locs, cells, slots⟩ argsL.toArray) :
    (∃ (v : Option Value) (vm₁ : Vm) (B : Pt), s.WarmedH vm₁ ∧ Stand p l e R s m args below meth c B.U B.locs B.cells B.slots ∧ Post ⟨T.setVm vm₁, locs, cells, slots⟩ argsL.toArray v B ∧
      ∀ target, Steps p.tables e below (B.U.setTop { g with pc := g.pc + 3, stack := v.toList ++ rest }) target → Steps p.tables e below (T.setTop g) target) ∨
    (∃ (q : Addr) (vm₁ : Vm) (B : Pt), s.WarmedH vm₁ ∧ Stand p l e R s m args below meth c B.U B.locs B.cells B.slots ∧ PostX ⟨T.setVm vm₁, locs, cells, slots⟩ argsL.toArray q B ∧
      Steps p.tables e below (T.setTop g) ((B.U.setTop { g with stack := rest }).pushFrame (.throwing q))) := by
  obtain ⟨mk, hnamed⟩ := Cond.code_named hcode
  obtain ⟨methM, cM, hmethM, -, -, -, -, -, -, hsigM⟩ := Cond.code_spec hnamed hcode
  have hstatic : methM.isStatic = true := Cond.static_spec hnamed hmethM hstat
  obtain ⟨kP, hkP, -⟩ := className_of_methodNamed hnamed
  have hinitP : kP.init = .initialized := Cond.initialized_spec (findClass_of_methodNamed hnamed) hkP hinit
  obtain ⟨vm₁, X₁, hstep₁⟩ := X.invokestatic hexec hown hlink hnamed hmethM hstatic hkP hinitP hy (g := g) hg (argsL := argsL) (rest := rest) (hlen _ hsigM) hstack hdg
  rcases hK m meth c ⟨T.setVm vm₁, locs, cells, slots⟩ { g with stack := rest } (.invokestatic index) mk argsL.toArray X₁ hg hsize hdg hW (X₁.named hnamed) (hpre vm₁ X₁.warmed) with ⟨v, B, X', hpost, hsteps⟩ | ⟨q, B, X', hpost, hsteps⟩
  · exact Or.inl ⟨v, vm₁, B, X₁.warmed, X', hpost, fun target h => hstep₁ _ fun acts => by rw [doInvoke_state]; exact hsteps.trans h⟩
  · exact Or.inr ⟨q, vm₁, B, X₁.warmed, X', hpost, hstep₁ _ fun acts => by rw [doInvoke_state]; exact hsteps⟩
end Calls
theorem vx_cls {s : State} {T : State} {vm₁ : Vm} {E : String} {k : ClassId} (hW : s.WarmedH vm₁) (h : (T.setVm vm₁).vm.findClass E = some k) : s.vm.findClass E = some k := by
  have h1 : vm₁.findClass E = some k := h
  rw [hW.alike.findClass] at h1
  exact h1
/-- the method's frame g, with q thrown over it -/
def vx_W (p : Program) (l : Launch) (e : Env) (R : Room) (s : State) (m : MethodId) (args : Array Value) (below : List Frame) (meth : Method) (c : Code) (H : Heap) (locs : List Loc) (cells slots : Nat) (Q : State → Prop) (g : JFrame) (q : Addr) : Prop :=
  ∀ T : State, T.heap = H → Stand p l e R s m args below meth c T locs cells slots → ∃ t, Steps p.tables e below ((T.setTop g).pushFrame (.throwing q)) t ∧ Q t
def vx_Run (p : Program) (l : Launch) (e : Env) (R : Room) (s : State) (m : MethodId) (args : Array Value) (below : List Frame) (meth : Method) (c : Code) (H : Heap) (locs : List Loc) (cells slots mc ms : Nat) (g : JFrame) (rest : List Value) (Qa : State → Outcome → State → Prop) (XC : String → State → State → Prop) (free : Addr → Prop) : Prop :=
  ∀ T : State, T.heap = H → Stand p l e R s m args below meth c T locs cells slots →
    (∃ (v : Option Value) (st₀ t T' : State) (L : List Loc), st₀.heap = H ∧ Stand p l e R s m args below meth c T' (locs ++ L) (cells + mc) (slots + ms) ∧ (∀ q ∈ L, free q.base) ∧ T'.heap = t.heap ∧ T'.vm = t.vm ∧ Qa st₀ (.returned v) t ∧
      Goes p e below T g T' { g with pc := g.pc + 3, stack := v.toList ++ rest }) ∨
    (∃ (q : Addr) (st₀ t T' : State) (L : List Loc) (E : String) (ce : Cell), st₀.heap = H ∧ Stand p l e R s m args below meth c T' (locs ++ L) (cells + mc) (slots + ms) ∧ (∀ z ∈ L, free z.base) ∧ T'.heap = t.heap ∧ T'.vm = t.vm ∧ XC E st₀ t ∧ t.heap[q]? = some ce ∧ ce.vm = .none ∧ s.vm.findClass E = some ce.cls ∧
      Steps p.tables e below (T.setTop g) ((T'.setTop { g with stack := rest }).pushFrame (.throwing q)))
def vx_X {S : Type} (px : S → Prop) (B : String → S → State → Prop) (A : Nat → Prop) : String → State → State → Prop := fun E st t => ∃ u : S, px u ∧ B E u t ∧ va_F A st t
section Runs
variable {p : Program} {l : Launch} {e : Env} {R : Room} {s : State} {m : MethodId} {args : Array Value} {below : List Frame} {meth : Method} {c : Code} {H : Heap} {locs : List Loc} {cells slots : Nat}
variable {y : MethodName} {bytes cc : ByteArray} {maxL nL mc ms n index : Nat} {ret : Option FieldType} {ws : List Cond} {rm : Room} {Pc : Array Value → State → Prop} {Qc : Array Value → State → Outcome → State → Prop} {XC : String → State → State → Prop} {free : Addr → Prop} {Ts : List Cond} {own C : String} {b : Addr} {As rest : List Value} {g : JFrame}
theorem vx_callBack (cb : CallB R s args own index y bytes maxL ret ws rm mc ms n) (hM : vx_Met l y ws rm Pc Qc XC mc ms free) (hbl : FrameBlind Pc) : vx_Back l R p e below s args y 3 8 (PreOf R mc ms Pc) (PostOf Qc mc ms free) (vx_Post XC mc ms free) := by
  obtain ⟨hrc, hrs, hfr, hlo, hws, hcw, -, hini, -⟩ := cb
  exact vx_back (bytes := bytes) (maxL := maxL) (ret := ret) hM hbl hrc hrs hfr hlo hws hcw (fun a' U hW => word_at hW (Or.inl (by first | rfl | simp [Cond.onTables, Cond.keeps, Cond.steady])) hini)
theorem vx_runV (S : CallFix p m c cc nL s args Ts own) (hM : vx_Met l y ws rm Pc Qc XC mc ms free) (cw : CallW R s args own C index y bytes maxL ret ws rm mc ms n) (hp : PreV s H C b Pc As)
    (hg : g.method = m) (hn : As.length = n) (hsize : g.locals.size = nL) (hstack : g.stack = As.reverse ++ .ref b :: rest) (hW : 2 * g.monitorRoom + (rest.map fun v => v.category).sum ≤ 8) (hdg : decode cc g.pc = .ok (.invokevirtual index, 3)) (hf : cells + mc ≤ R.cells ∧ slots + ms ≤ R.slots) :
    vx_Run p l e R s m args below meth c H locs cells slots mc ms g rest (Qc (Value.ref b :: As).toArray) XC free := by
  have hK : vx_Back l R p e below s args y 3 8 (PreOf R mc ms Pc) (PostOf Qc mc ms free) (vx_Post XC mc ms free) := vx_callBack cw.1 hM hp.1
  obtain ⟨⟨-, -, -, -, -, -, hcode, -, hy, hlen, hl⟩, hin, hse⟩ := cw
  obtain ⟨hx, hb, hml, ho, -⟩ := S
  obtain ⟨-, ⟨cellB, hcB, hoB, hclB⟩, hPc⟩ := hp
  intro T hT X
  rcases vx_callV X hx (C := C) (bytes := bytes) (maxL := maxL) (ret := ret) ho hl hin hse hcode hy hK (by rw [hT]; exact hcB) hoB hclB hg (hsize.trans hml.symm) (argsL := As) (rest := rest) (fun sig h => hn.trans (hlen sig h)) hstack hW (by rw [hb]; exact hdg)
    (fun vm₁ hW₁ => ⟨hf.1, hf.2, hPc (T.setVm vm₁) hT hW₁⟩) with ⟨v, vm₁, ⟨U', l2, c2, s2⟩, hW₁, X', ⟨g', mk, t, L, e1, e2, hq, h1, hL, h2, h3⟩, st⟩ | ⟨q, vm₁, ⟨U', l2, c2, s2⟩, hW₁, X', ⟨g', mk, t, L, E, ce, e1, e2, hq, hce, hcv, hcl, h1, hL, h2, h3⟩, st⟩
  · dsimp only [Pt.U, Pt.locs, Pt.cells, Pt.slots] at X' e1 e2 h1 h2 h3 st
    subst h1; subst h2; subst h3
    exact Or.inl ⟨v, (T.setVm vm₁).calling g' mk (Value.ref b :: As).toArray, t, U', L, hT, X', hL, e1, e2, hq, st⟩
  · dsimp only [Pt.U, Pt.locs, Pt.cells, Pt.slots] at X' e1 e2 h1 h2 h3 st hcl
    subst h1; subst h2; subst h3
    exact Or.inr ⟨q, (T.setVm vm₁).calling g' mk (Value.ref b :: As).toArray, t, U', L, E, ce, hT, X', hL, e1, e2, hq, hce, hcv, vx_cls hW₁ hcl, st⟩
theorem vx_runS (S : CallFix p m c cc nL s args Ts own) (hM : vx_Met l y ws rm Pc Qc XC mc ms free) (cw : CallB R s args own index y bytes maxL ret ws rm mc ms n ∧ (Cond.static y).before args s = true) (hp : PreS s H Pc As)
    (hg : g.method = m) (hn : As.length = n) (hsize : g.locals.size = nL) (hstack : g.stack = As.reverse ++ rest) (hW : 2 * g.monitorRoom + (rest.map fun v => v.category).sum ≤ 8) (hdg : decode cc g.pc = .ok (.invokestatic index, 3)) (hf : cells + mc ≤ R.cells ∧ slots + ms ≤ R.slots) :
    vx_Run p l e R s m args below meth c H locs cells slots mc ms g rest (Qc As.toArray) XC free := by
  have hK : vx_Back l R p e below s args y 3 8 (PreOf R mc ms Pc) (PostOf Qc mc ms free) (vx_Post XC mc ms free) := vx_callBack cw.1 hM hp.1
  obtain ⟨⟨-, -, -, -, -, -, hcode, hini, hy, hlen, hl⟩, hstt⟩ := cw
  obtain ⟨hx, hb, hml, ho, -⟩ := S
  intro T hT X
  rcases vx_callS X hx (bytes := bytes) (maxL := maxL) (ret := ret) ho hl hstt hini hcode hy hK hg (hsize.trans hml.symm) (argsL := As) (rest := rest) (fun sig h => hn.trans (hlen sig h)) hstack hW (by rw [hb]; exact hdg)
    (fun vm₁ hW₁ => ⟨hf.1, hf.2, hp.2 (T.setVm vm₁) hT hW₁⟩) with ⟨v, vm₁, ⟨U', l2, c2, s2⟩, hW₁, X', ⟨g', mk, t, L, e1, e2, hq, h1, hL, h2, h3⟩, st⟩ | ⟨q, vm₁, ⟨U', l2, c2, s2⟩, hW₁, X', ⟨g', mk, t, L, E, ce, e1, e2, hq, hce, hcv, hcl, h1, hL, h2, h3⟩, st⟩
  · dsimp only [Pt.U, Pt.locs, Pt.cells, Pt.slots] at X' e1 e2 h1 h2 h3 st
    subst h1; subst h2; subst h3
    exact Or.inl ⟨v, (T.setVm vm₁).calling g' mk As.toArray, t, U', L, hT, X', hL, e1, e2, hq, st⟩
  · dsimp only [Pt.U, Pt.locs, Pt.cells, Pt.slots] at X' e1 e2 h1 h2 h3 st hcl
    subst h1; subst h2; subst h3
    exact Or.inr ⟨q, (T.setVm vm₁).calling g' mk As.toArray, t, U', L, E, ce, hT, X', hL, e1, e2, hq, hce, hcv, vx_cls hW₁ hcl, st⟩
end Runs
section Rows
variable {p : Program} {l : Launch} {e : Env} {R : Room} {s : State} {m : MethodId} {args : Array Value} {below : List Frame} {meth : Method} {c : Code} {H : Heap} {locs : List Loc} {cells slots : Nat} {Q : State → Prop}
variable {mc ms : Nat} {free : Addr → Prop} {A0 A1 : Nat → Prop} {H0 : Heap} {a : Array Value} {pc : Nat} {ls : Array Slot} {st0 rest : List Value}
theorem vx_keep {st₀ t T' : State} {L : List Loc} (h0 : st₀.heap = H) (e1 : T'.heap = t.heap) (hS : va_S A0 H0 H locs) (hA : ∀ q, q < H.size → A1 q → A0 q) (hf : ∀ q, free q → A0 q) (hL : ∀ q ∈ L, free q.base) (hF : va_F A1 st₀ t) :
    H.size ≤ T'.heap.size ∧ (∀ q : Nat, q < H.size → ¬ A1 q → T'.heap[q]? = H[q]?) ∧ va_S A0 H0 T'.heap (locs ++ L) := by
  obtain ⟨hz, hk⟩ := hF
  rw [h0] at hz hk
  exact ⟨by rw [e1]; exact hz, fun q h1 h2 => by rw [e1]; exact hk q h1 h2,
    ⟨Nat.le_trans hS.1 (by rw [e1]; exact hz), fun q h1 h2 => by rw [e1, hk q (Nat.lt_of_lt_of_le h1 hS.1) (fun z => h2 (hA q (Nat.lt_of_lt_of_le h1 hS.1) z))]; exact hS.2.1 q h1 h2, fun q hq => by
      rcases List.mem_append.mp hq with h | h
      · exact hS.2.2 q h
      · exact hf _ (hL q h)⟩⟩
theorem vx_calli {S SX : Type} {post : Int32 → S → Prop} {px : SX → Prop} {B : S → State → Prop} {BX : String → SX → State → Prop} {AX : Nat → Prop} (hr : vx_Run p l e R s m args below meth c H locs cells slots mc ms (F0 m pc ls st0) rest (va_Qi post B A1 a) (vx_X px BX AX) free) (hS : va_S A0 H0 H locs) (hA : ∀ q, q < H.size → A1 q → A0 q) (hf : ∀ q, free q → A0 q) (hAX : ∀ q, q < H.size → AX q → A0 q)
    (kx : ∀ (E : String) (ce : Cell) (q9 : Addr) (u : SX) (t : State) (H1 : Heap) (locs1 : List Loc), t.heap = H1 → s.vm.Alike t.vm → px u → BX E u t → H.size ≤ H1.size → (∀ q : Nat, q < H.size → ¬ AX q → H1[q]? = H[q]?) → va_S A0 H0 H1 locs1 → H1[q9]? = some ce → ce.vm = .none → s.vm.findClass E = some ce.cls → vx_W p l e R s m args below meth c H1 locs1 (cells + mc) (slots + ms) Q (F0 m pc ls rest) q9)
    (kk : ∀ (r : Int32) (u : S) (t : State) (H1 : Heap) (locs1 : List Loc), t.heap = H1 → s.vm.Alike t.vm → post r u → B u t → H.size ≤ H1.size → (∀ q : Nat, q < H.size → ¬ A1 q → H1[q]? = H[q]?) → va_S A0 H0 H1 locs1 → W p l e R s m args below meth c H1 locs1 (cells + mc) (slots + ms) Q (F0 m (pc + 3) ls (.int r :: rest))) : W p l e R s m args below meth c H locs cells slots Q (F0 m pc ls st0) := by
  intro T hT X
  rcases hr T hT X with ⟨v, st₀, t, T', L, h0, X', hL, e1, e2, ⟨⟨r, u, hv, hp, hb⟩, hF⟩, st⟩ | ⟨q, st₀, t, T', L, E, ce, h0, X', hL, e1, e2, ⟨u, hp, hb, hF⟩, hce, hcv, hcl, st⟩
  · cases hv
    obtain ⟨k1, k2, k3⟩ := vx_keep h0 e1 hS hA hf hL hF
    obtain ⟨t2, a1, b1⟩ := kk r u t T'.heap (locs ++ L) e1.symm (by rw [← e2]; exact X'.warmed.alike) hp hb k1 k2 k3 T' rfl X'
    exact ⟨t2, st t2 a1, b1⟩
  · obtain ⟨k1, k2, k3⟩ := vx_keep h0 e1 hS hAX hf hL hF
    obtain ⟨t2, a1, b1⟩ := kx E ce q u t T'.heap (locs ++ L) e1.symm (by rw [← e2]; exact X'.warmed.alike) hp hb k1 k2 k3 (by rw [e1]; exact hce) hcv hcl T' rfl X'
    exact ⟨t2, st.trans a1, b1⟩
theorem vx_calll {S SX : Type} {post : Int64 → S → Prop} {px : SX → Prop} {B : S → State → Prop} {BX : String → SX → State → Prop} {AX : Nat → Prop} (hr : vx_Run p l e R s m args below meth c H locs cells slots mc ms (F0 m pc ls st0) rest (va_Ql post B A1 a) (vx_X px BX AX) free) (hS : va_S A0 H0 H locs) (hA : ∀ q, q < H.size → A1 q → A0 q) (hf : ∀ q, free q → A0 q) (hAX : ∀ q, q < H.size → AX q → A0 q)
    (kx : ∀ (E : String) (ce : Cell) (q9 : Addr) (u : SX) (t : State) (H1 : Heap) (locs1 : List Loc), t.heap = H1 → s.vm.Alike t.vm → px u → BX E u t → H.size ≤ H1.size → (∀ q : Nat, q < H.size → ¬ AX q → H1[q]? = H[q]?) → va_S A0 H0 H1 locs1 → H1[q9]? = some ce → ce.vm = .none → s.vm.findClass E = some ce.cls → vx_W p l e R s m args below meth c H1 locs1 (cells + mc) (slots + ms) Q (F0 m pc ls rest) q9)
    (kk : ∀ (r : Int64) (u : S) (t : State) (H1 : Heap) (locs1 : List Loc), t.heap = H1 → s.vm.Alike t.vm → post r u → B u t → H.size ≤ H1.size → (∀ q : Nat, q < H.size → ¬ A1 q → H1[q]? = H[q]?) → va_S A0 H0 H1 locs1 → W p l e R s m args below meth c H1 locs1 (cells + mc) (slots + ms) Q (F0 m (pc + 3) ls (.long r :: rest))) : W p l e R s m args below meth c H locs cells slots Q (F0 m pc ls st0) := by
  intro T hT X
  rcases hr T hT X with ⟨v, st₀, t, T', L, h0, X', hL, e1, e2, ⟨⟨r, u, hv, hp, hb⟩, hF⟩, st⟩ | ⟨q, st₀, t, T', L, E, ce, h0, X', hL, e1, e2, ⟨u, hp, hb, hF⟩, hce, hcv, hcl, st⟩
  · cases hv
    obtain ⟨k1, k2, k3⟩ := vx_keep h0 e1 hS hA hf hL hF
    obtain ⟨t2, a1, b1⟩ := kk r u t T'.heap (locs ++ L) e1.symm (by rw [← e2]; exact X'.warmed.alike) hp hb k1 k2 k3 T' rfl X'
    exact ⟨t2, st t2 a1, b1⟩
  · obtain ⟨k1, k2, k3⟩ := vx_keep h0 e1 hS hAX hf hL hF
    obtain ⟨t2, a1, b1⟩ := kx E ce q u t T'.heap (locs ++ L) e1.symm (by rw [← e2]; exact X'.warmed.alike) hp hb k1 k2 k3 (by rw [e1]; exact hce) hcv hcl T' rfl X'
    exact ⟨t2, st.trans a1, b1⟩
theorem vx_callf {S SX : Type} {post : UInt32 → S → Prop} {px : SX → Prop} {B : S → State → Prop} {BX : String → SX → State → Prop} {AX : Nat → Prop} (hr : vx_Run p l e R s m args below meth c H locs cells slots mc ms (F0 m pc ls st0) rest (va_Qf post B A1 a) (vx_X px BX AX) free) (hS : va_S A0 H0 H locs) (hA : ∀ q, q < H.size → A1 q → A0 q) (hf : ∀ q, free q → A0 q) (hAX : ∀ q, q < H.size → AX q → A0 q)
    (kx : ∀ (E : String) (ce : Cell) (q9 : Addr) (u : SX) (t : State) (H1 : Heap) (locs1 : List Loc), t.heap = H1 → s.vm.Alike t.vm → px u → BX E u t → H.size ≤ H1.size → (∀ q : Nat, q < H.size → ¬ AX q → H1[q]? = H[q]?) → va_S A0 H0 H1 locs1 → H1[q9]? = some ce → ce.vm = .none → s.vm.findClass E = some ce.cls → vx_W p l e R s m args below meth c H1 locs1 (cells + mc) (slots + ms) Q (F0 m pc ls rest) q9)
    (kk : ∀ (r : UInt32) (u : S) (t : State) (H1 : Heap) (locs1 : List Loc), t.heap = H1 → s.vm.Alike t.vm → post r u → B u t → H.size ≤ H1.size → (∀ q : Nat, q < H.size → ¬ A1 q → H1[q]? = H[q]?) → va_S A0 H0 H1 locs1 → W p l e R s m args below meth c H1 locs1 (cells + mc) (slots + ms) Q (F0 m (pc + 3) ls (.float r :: rest))) : W p l e R s m args below meth c H locs cells slots Q (F0 m pc ls st0) := by
  intro T hT X
  rcases hr T hT X with ⟨v, st₀, t, T', L, h0, X', hL, e1, e2, ⟨⟨r, u, hv, hp, hb⟩, hF⟩, st⟩ | ⟨q, st₀, t, T', L, E, ce, h0, X', hL, e1, e2, ⟨u, hp, hb, hF⟩, hce, hcv, hcl, st⟩
  · cases hv
    obtain ⟨k1, k2, k3⟩ := vx_keep h0 e1 hS hA hf hL hF
    obtain ⟨t2, a1, b1⟩ := kk r u t T'.heap (locs ++ L) e1.symm (by rw [← e2]; exact X'.warmed.alike) hp hb k1 k2 k3 T' rfl X'
    exact ⟨t2, st t2 a1, b1⟩
  · obtain ⟨k1, k2, k3⟩ := vx_keep h0 e1 hS hAX hf hL hF
    obtain ⟨t2, a1, b1⟩ := kx E ce q u t T'.heap (locs ++ L) e1.symm (by rw [← e2]; exact X'.warmed.alike) hp hb k1 k2 k3 (by rw [e1]; exact hce) hcv hcl T' rfl X'
    exact ⟨t2, st.trans a1, b1⟩
theorem vx_calld {S SX : Type} {post : UInt64 → S → Prop} {px : SX → Prop} {B : S → State → Prop} {BX : String → SX → State → Prop} {AX : Nat → Prop} (hr : vx_Run p l e R s m args below meth c H locs cells slots mc ms (F0 m pc ls st0) rest (va_Qd post B A1 a) (vx_X px BX AX) free) (hS : va_S A0 H0 H locs) (hA : ∀ q, q < H.size → A1 q → A0 q) (hf : ∀ q, free q → A0 q) (hAX : ∀ q, q < H.size → AX q → A0 q)
    (kx : ∀ (E : String) (ce : Cell) (q9 : Addr) (u : SX) (t : State) (H1 : Heap) (locs1 : List Loc), t.heap = H1 → s.vm.Alike t.vm → px u → BX E u t → H.size ≤ H1.size → (∀ q : Nat, q < H.size → ¬ AX q → H1[q]? = H[q]?) → va_S A0 H0 H1 locs1 → H1[q9]? = some ce → ce.vm = .none → s.vm.findClass E = some ce.cls → vx_W p l e R s m args below meth c H1 locs1 (cells + mc) (slots + ms) Q (F0 m pc ls rest) q9)
    (kk : ∀ (r : UInt64) (u : S) (t : State) (H1 : Heap) (locs1 : List Loc), t.heap = H1 → s.vm.Alike t.vm → post r u → B u t → H.size ≤ H1.size → (∀ q : Nat, q < H.size → ¬ A1 q → H1[q]? = H[q]?) → va_S A0 H0 H1 locs1 → W p l e R s m args below meth c H1 locs1 (cells + mc) (slots + ms) Q (F0 m (pc + 3) ls (.double r :: rest))) : W p l e R s m args below meth c H locs cells slots Q (F0 m pc ls st0) := by
  intro T hT X
  rcases hr T hT X with ⟨v, st₀, t, T', L, h0, X', hL, e1, e2, ⟨⟨r, u, hv, hp, hb⟩, hF⟩, st⟩ | ⟨q, st₀, t, T', L, E, ce, h0, X', hL, e1, e2, ⟨u, hp, hb, hF⟩, hce, hcv, hcl, st⟩
  · cases hv
    obtain ⟨k1, k2, k3⟩ := vx_keep h0 e1 hS hA hf hL hF
    obtain ⟨t2, a1, b1⟩ := kk r u t T'.heap (locs ++ L) e1.symm (by rw [← e2]; exact X'.warmed.alike) hp hb k1 k2 k3 T' rfl X'
    exact ⟨t2, st t2 a1, b1⟩
  · obtain ⟨k1, k2, k3⟩ := vx_keep h0 e1 hS hAX hf hL hF
    obtain ⟨t2, a1, b1⟩ := kx E ce q u t T'.heap (locs ++ L) e1.symm (by rw [← e2]; exact X'.warmed.alike) hp hb k1 k2 k3 (by rw [e1]; exact hce) hcv hcl T' rfl X'
    exact ⟨t2, st.trans a1, b1⟩
theorem vx_callv {S SX : Type} {post : S → Prop} {px : SX → Prop} {B : S → State → Prop} {BX : String → SX → State → Prop} {AX : Nat → Prop} (hr : vx_Run p l e R s m args below meth c H locs cells slots mc ms (F0 m pc ls st0) rest (va_Qv post B A1 a) (vx_X px BX AX) free) (hS : va_S A0 H0 H locs) (hA : ∀ q, q < H.size → A1 q → A0 q) (hf : ∀ q, free q → A0 q) (hAX : ∀ q, q < H.size → AX q → A0 q)
    (kx : ∀ (E : String) (ce : Cell) (q9 : Addr) (u : SX) (t : State) (H1 : Heap) (locs1 : List Loc), t.heap = H1 → s.vm.Alike t.vm → px u → BX E u t → H.size ≤ H1.size → (∀ q : Nat, q < H.size → ¬ AX q → H1[q]? = H[q]?) → va_S A0 H0 H1 locs1 → H1[q9]? = some ce → ce.vm = .none → s.vm.findClass E = some ce.cls → vx_W p l e R s m args below meth c H1 locs1 (cells + mc) (slots + ms) Q (F0 m pc ls rest) q9)
    (kk : ∀ (u : S) (t : State) (H1 : Heap) (locs1 : List Loc), t.heap = H1 → s.vm.Alike t.vm → post u → B u t → H.size ≤ H1.size → (∀ q : Nat, q < H.size → ¬ A1 q → H1[q]? = H[q]?) → va_S A0 H0 H1 locs1 → W p l e R s m args below meth c H1 locs1 (cells + mc) (slots + ms) Q (F0 m (pc + 3) ls (rest))) : W p l e R s m args below meth c H locs cells slots Q (F0 m pc ls st0) := by
  intro T hT X
  rcases hr T hT X with ⟨v, st₀, t, T', L, h0, X', hL, e1, e2, ⟨⟨u, hv, hp, hb⟩, hF⟩, st⟩ | ⟨q, st₀, t, T', L, E, ce, h0, X', hL, e1, e2, ⟨u, hp, hb, hF⟩, hce, hcv, hcl, st⟩
  · cases hv
    obtain ⟨k1, k2, k3⟩ := vx_keep h0 e1 hS hA hf hL hF
    obtain ⟨t2, a1, b1⟩ := kk u t T'.heap (locs ++ L) e1.symm (by rw [← e2]; exact X'.warmed.alike) hp hb k1 k2 k3 T' rfl X'
    exact ⟨t2, st t2 a1, b1⟩
  · obtain ⟨k1, k2, k3⟩ := vx_keep h0 e1 hS hAX hf hL hF
    obtain ⟨t2, a1, b1⟩ := kx E ce q u t T'.heap (locs ++ L) e1.symm (by rw [← e2]; exact X'.warmed.alike) hp hb k1 k2 k3 (by rw [e1]; exact hce) hcv hcl T' rfl X'
    exact ⟨t2, st.trans a1, b1⟩
end Rows
section Ends
variable {p : Program} {l : Launch} {e : Env} {R : Room} {s : State} {m : MethodId} {args : Array Value} {below : List Frame} {meth : Method} {c : Code} {H : Heap} {locs : List Loc} {cells slots : Nat} {Q : State → Prop}
variable {mc ms : Nat} {free : Addr → Prop} {A0 A1 : Nat → Prop} {H0 : Heap} {a : Array Value} {ls : Array Slot} {st0 rest : List Value}
variable {Qc : Array Value → State → Outcome → State → Prop} {XC : String → State → State → Prop}
/-- what a body that may throw owes at its end -/
def vx_MQ (below : List Frame) (Qc : Array Value → State → Outcome → State → Prop) (XC : String → State → State → Prop) (a : Array Value) (s : State) (mc ms : Nat) (free : Addr → Prop) : State → Prop := fun t =>
  ∃ o, t.status = .running ∧ Ended t below o ∧ vx_Q Qc XC mc ms free a s o t
theorem vx_ret {g : JFrame} {mc ms : Nat} (k : W p l e R s m args below meth c H locs cells slots (MQ below Qc args s mc ms free) g) : W p l e R s m args below meth c H locs cells slots (vx_MQ below Qc XC args s mc ms free) g := by
  intro T hT X
  obtain ⟨t, a1, o, b1, b2, b3, b4⟩ := k T hT X
  exact ⟨t, a1, o, b1, b2, Or.inl ⟨b3, b4⟩⟩
/-- not caught here: it goes on to the caller -/
theorem vx_widen {g : JFrame} {q : Addr} {k n : Nat} (h1 : cells ≤ k) (h2 : slots ≤ n) (kk : vx_W p l e R s m args below meth c H locs k n Q g q) : vx_W p l e R s m args below meth c H locs cells slots Q g q := fun T hT X => kk T hT (stand_widen X h1 h2)
theorem vx_out {pc : Nat} {E : String} {ce : Cell} {q : Addr} {mc ms : Nat} (hout : ∀ x ∈ c.exceptionTable.toList, covers x pc = false) (hlocks : meth.locks = false) (hcell : H[q]? = some ce) (hv : ce.vm = .none) (hcl : s.vm.findClass E = some ce.cls)
    (hx : ∀ t : State, t.heap = H → s.vm.Alike t.vm → XC E s t) (hf : ∀ z ∈ locs, free z.base) (hc : cells ≤ mc) (hs : slots ≤ ms) :
    vx_W p l e R s m args below meth c H locs cells slots (vx_MQ below Qc XC args s mc ms free) (F0 m pc ls rest) q := by
  intro T hT X
  obtain ⟨st1, hrun, hend, hW, hsm⟩ := X.leaveThrown q (g := F0 m pc ls rest) rfl rfl rfl hout hlocks
  have hcell9 : (T.setFrames (.throwing q :: below)).heap[q]? = some ce := by
    show T.heap[q]? = some ce
    rw [hT]; exact hcell
  exact ⟨_, st1, .threw q, hrun, hend, Or.inr ⟨q, rfl, E, ce, locs, hx _ hT hW.alike, hcell9, hv, hcl, hW, hsm.mono hc hs, hf⟩⟩
theorem vx_frame {U : State} {k n : Nat} (h : s.sameButNew ({ U with vm := s.vm } : State) locs k n) : s.heap.size ≤ U.heap.size ∧ ∀ q : Nat, q < s.heap.size → (∀ z ∈ locs, z.base ≠ q) → U.heap[q]? = s.heap[q]? := by
  obtain ⟨-, h2, -, -, -, h6⟩ := h
  refine ⟨h2, fun q hq hz => ?_⟩
  obtain ⟨c9, e1, e2, e3, e4⟩ := h6 q _ (Array.getElem?_eq_getElem hq)
  have hs : c9.slots = (s.heap[q]).slots := Array.ext_getElem? fun i => e4 i fun hm => hz _ hm rfl
  have h9 : c9 = s.heap[q] := by
    rw [hs] at e2
    exact e2
  have e5 : U.heap[q]? = some c9 := e1
  rw [e5, h9, Array.getElem?_eq_getElem hq]
/-- the words of a throw but the four that speak of the heap -/
def vx_no (w : Cond) : Bool := decide (w ≠ .isRef (.static Bundle.tN "UNASSIGNED_STACK" Bundle.steD)) && decide (w ≠ .isRef (.static Bundle.tN "SUPPRESSED_SENTINEL" Bundle.listD)) && decide (w ≠ .laysStatic Bundle.tN "UNASSIGNED_STACK" Bundle.steD) && decide (w ≠ .laysStatic Bundle.tN "SUPPRESSED_SENTINEL" Bundle.listD)
def vx_at0 (own : String) (ic : Nat) (X : String) (names : List String) : List Cond := (Bundle.ownAtoms0 own ic X names).filter vx_no
def vx_atS (own : String) (ic : Nat) (X : String) (names : List String) : List Cond := (Bundle.ownAtoms own ic X names).filter vx_no
/-- a word that the tables alone decide, or a good one -/
def vx_ot (w : Cond) : Bool := w.onTables || goodWord w
theorem vx_ot_at {args a' : Array Value} {s U : State} {w : Cond} (hW : s.WarmedH U.vm) (hvm : s.vm = U.vm) (hg : vx_ot w = true) (h : w.before args s = true) : w.before a' U = true := by
  simp only [vx_ot, Bool.or_eq_true] at hg
  rcases hg with hg | hg
  · exact va_tabs hg hvm h
  · exact word_at hW (good_of_word hg) h
/-- a list's words: the good ones out of the method's own list, the others by premises of their own -/
theorem vx_hat {args : Array Value} {s : State} {L B : List Cond} (h1 : ∀ w ∈ L.filter goodWord, w.before args s = true) (h2 : ∀ w ∈ L.filter (fun w => !goodWord w), w ∈ B) (h3 : ∀ w ∈ B, w.before args s = true) : ∀ w ∈ L, w.before args s = true := by
  intro w hw
  by_cases g : goodWord w = true
  · exact h1 w (List.mem_filter.mpr ⟨hw, g⟩)
  · refine h3 w (h2 w (List.mem_filter.mpr ⟨hw, ?_⟩))
    show (!goodWord w) = true
    cases hgw : goodWord w
    · rfl
    · exact absurd hgw g
theorem vx_c {args : Array Value} {s : State} {w : Cond} {B : List Cond} (h : w.before args s = true) (t : ∀ w ∈ B, w.before args s = true) : ∀ w' ∈ w :: B, w'.before args s = true := fun w' h' => (List.mem_cons.mp h').elim (fun e => by rw [e]; exact h) (t w')
theorem vx_n {args : Array Value} {s : State} : ∀ w ∈ ([] : List Cond), w.before args s = true := fun _ h => nomatch h
theorem vx_own {args : Array Value} {s : State} {L : List Cond} (h1 : ∀ w ∈ L.filter vx_no, w.before args s = true)
    (hU : (Cond.isRef (.static Bundle.tN "UNASSIGNED_STACK" Bundle.steD)).before args s = true) (hN : (Cond.isRef (.static Bundle.tN "SUPPRESSED_SENTINEL" Bundle.listD)).before args s = true)
    (lU : (Cond.laysStatic Bundle.tN "UNASSIGNED_STACK" Bundle.steD).before args s = true) (lN : (Cond.laysStatic Bundle.tN "SUPPRESSED_SENTINEL" Bundle.listD).before args s = true) : ∀ w ∈ L, w.before args s = true := by
  intro w hw
  by_cases e1 : w = .isRef (.static Bundle.tN "UNASSIGNED_STACK" Bundle.steD)
  · rw [e1]; exact hU
  · by_cases e2 : w = .isRef (.static Bundle.tN "SUPPRESSED_SENTINEL" Bundle.listD)
    · rw [e2]; exact hN
    · by_cases e3 : w = .laysStatic Bundle.tN "UNASSIGNED_STACK" Bundle.steD
      · rw [e3]; exact lU
      · by_cases e4 : w = .laysStatic Bundle.tN "SUPPRESSED_SENTINEL" Bundle.listD
        · rw [e4]; exact lN
        · exact h1 w (List.mem_filter.mpr ⟨hw, by unfold vx_no; rw [decide_eq_true e1, decide_eq_true e2, decide_eq_true e3, decide_eq_true e4]; rfl⟩)
/-- where a static field lies, its class's statics cell in H -/
def vx_L (C n d : String) (A : Nat → Prop) (U : State) (H : Heap) : Prop := ∃ (c : ClassId) (k : Class) (i : Nat) (f : Field) (a : Nat) (cell : Cell), U.vm.findClass C = some c ∧ U.fieldFound? C n d = some (c, k, i, f) ∧ f.isStatic = true ∧ k.statics = some a ∧ H[a]? = some cell ∧ cell.vm.isStatics = true ∧ cell.cls = c ∧ f.slot < cell.slots.size ∧ k.staticTypes[f.slot]? = some f.type ∧ ¬ A a
theorem vx_L.moved {C n d : String} {A : Nat → Prop} {u U : State} {H : Heap} (hvm : u.vm.Alike U.vm) (h : vx_L C n d A u H) : vx_L C n d A U H := by
  obtain ⟨c, k, i, f, a, cell, h1, h2, h3, h4, h5, h6, h7, h8, h9, h10⟩ := h
  obtain ⟨k', hi', he⟩ := State.fieldFound?_setVm hvm h2
  exact ⟨c, k', i, f, a, cell, by rw [hvm.findClass]; exact h1, hi', h3, by rw [he]; exact h4, h5, h6, h7, h8, by rw [he]; exact h9, h10⟩
theorem vx_L.kept {C n d : String} {A : Nat → Prop} {U : State} {H H1 : Heap} (h : vx_L C n d A U H) (hq : ∀ a : Nat, a < H.size → ¬ A a → H1[a]? = H[a]?) : vx_L C n d A U H1 := by
  obtain ⟨c, k, i, f, a, cell, h1, h2, h3, h4, h5, h6, h7, h8, h9, h10⟩ := h
  exact ⟨c, k, i, f, a, cell, h1, h2, h3, h4, by rw [hq a (Array.getElem?_eq_some_iff.mp h5).1 h10]; exact h5, h6, h7, h8, h9, h10⟩
theorem vx_L.narrow {C n d : String} {A B : Nat → Prop} {U : State} {H : Heap} (h : vx_L C n d A U H) (hAB : ∀ q, B q → A q) : vx_L C n d B U H := by
  obtain ⟨c, k, i, f, a, cell, h1, h2, h3, h4, h5, h6, h7, h8, h9, h10⟩ := h
  exact ⟨c, k, i, f, a, cell, h1, h2, h3, h4, h5, h6, h7, h8, h9, fun z => h10 (hAB _ z)⟩
theorem vx_L.word {C n d : String} {A : Nat → Prop} {s : State} {args : Array Value} (h : vx_L C n d A s s.heap) : (Cond.laysStatic C n d).before args s = true := by
  obtain ⟨c, k, i, f, a, cell, h1, h2, h3, h4, h5, h6, h7, h8, h9, -⟩ := h
  show (Cond.laysStatic C n d).holds args s none s [] = true
  exact Cond.laysStatic_of h1 h2 h3 h4 h5 h6 h7 h8 h9
/-- .. and what it holds: null or some reference -/
def vx_Zq (C n d : String) (A : Nat → Prop) (U : State) (H : Heap) : Prop := va_Zq C n d A U H ∧ vx_L C n d A U H
theorem vx_Zq.moved {C n d : String} {A : Nat → Prop} {u U : State} {H : Heap} (hvm : u.vm.Alike U.vm) (h : vx_Zq C n d A u H) : vx_Zq C n d A U H := ⟨va_Zq.moved hvm h.1, vx_L.moved hvm h.2⟩
theorem vx_Zq.kept {C n d : String} {A : Nat → Prop} {U : State} {H H1 : Heap} (h : vx_Zq C n d A U H) (hq : ∀ a : Nat, a < H.size → ¬ A a → H1[a]? = H[a]?) : vx_Zq C n d A U H1 := ⟨va_Zq.kept h.1 hq, vx_L.kept h.2 hq⟩
theorem vx_Zq.narrow {C n d : String} {A B : Nat → Prop} {U : State} {H : Heap} (h : vx_Zq C n d A U H) (hAB : ∀ q, B q → A q) : vx_Zq C n d B U H := ⟨va_Zq.narrow h.1 hAB, vx_L.narrow h.2 hAB⟩
theorem vx_Zqof {args : Array Value} {s : State} {C n d : String} {A : Nat → Prop} (hl : (Cond.laysStatic C n d).before args s = true) (hini : (Cond.initialized C).before args s = true) (h : (Cond.isRef (.static C n d)).before args s = true) (hA : ∀ a : Nat, a < s.heap.size → ¬ A a) : vx_Zq C n d A s s.heap := by
  refine ⟨va_Zqof hl hini h hA, ?_⟩
  obtain ⟨c, k, i, f, a, cell, h1, h2, h3, h4, h5, h6, h7, h8, h9⟩ := Cond.laysStatic_spec hl
  exact ⟨c, k, i, f, a, cell, h1, h2, h3, h4, h5, h6, h7, h8, h9, hA a (Array.getElem?_eq_some_iff.mp h5).1⟩
theorem vx_isRef {C n d : String} {v : Value} {A : Nat → Prop} {s : State} {args : Array Value} (h : va_Z C n d v A s s.heap) (hv : v.isRef = true) : (Cond.isRef (.static C n d)).before args s = true := by
  obtain ⟨cf, kf, fi, f, a, cell, h1, h2, h3, h4, h5, h6, h7, -⟩ := h
  have he : (Term.static C n d).eval args s none [] s = some v := by
    simp [Term.eval, State.fieldNamed?, h1, h2, h4, h5, h6, h7]
  simp only [Cond.before, Cond.holds, Cond.value, he]
  cases v <;> simp_all [Value.isRef]
theorem vx_isRefq {C n d : String} {A : Nat → Prop} {s : State} {args : Array Value} (h : va_Zq C n d A s s.heap) : (Cond.isRef (.static C n d)).before args s = true := by
  rcases h with h | ⟨t, h⟩
  · exact vx_isRef h rfl
  · exact vx_isRef h rfl
/-- the same frame, seen from here: as if the method were called anew in this heap -/
theorem vx_rebase {T : State} (X : Stand p l e R s m args below meth c T locs cells slots) {R' : Room} (hf : R'.frames ≤ R.frames) (hl : R'.locals ≤ R.locals) (hc : cells + R'.cells ≤ R.cells) (hs : slots + R'.slots ≤ R.slots) :
    Stand p l e R' ((T.setVm s.vm).setFrames (.invoking m args :: below)) m args below meth c T [] 0 0 := by
  have htop : (T.setVm s.vm).topJava?.isSome := X.here.top
  have hF : ((T.setVm s.vm).setFrames (.invoking m args :: below)).frames = .invoking m args :: below := State.frames_setFrames _ (State.cur_lt_of_top htop)
  obtain ⟨g₀, hg0⟩ := Option.isSome_iff_exists.mp htop
  obtain ⟨r, hr⟩ := State.topJava?_eq_some.mp hg0
  have hl9 : e.platform.stackLimits (T.setVm s.vm).me = e.platform.stackLimits s.me := X.limits
  have hb9 : (T.setVm s.vm).me.stackBytes = s.me.stackBytes := X.bytes
  refine ⟨X.admits, X.cas, X.clock, hF, ?_, X.hears, X.method, X.code, X.here, X.tail, X.warmed, ?_, ?_, ?_⟩
  · have h := X.room
    have hU : ((T.setVm s.vm).setFrames (.invoking m args :: below)).localsInUse = s.localsInUse := by
      rw [State.localsInUse_invoking hF (meth := meth) (c := c) X.method X.code, State.localsInUse_invoking X.frames X.method X.code]
    simp only [State.hasRoom, Bool.and_eq_true, decide_eq_true_eq] at h ⊢
    obtain ⟨⟨⟨⟨h1, h2, h3, h4, h5, h6⟩, h7⟩, h8⟩, h9⟩ := h
    rw [X.frames, List.length_cons] at h2 h3
    have q1 := X.heapSize
    have q2 := X.used
    simp only [hF, hU, List.length_cons, State.stackLimits_setFrames, State.stackBytes_setFrames, hl9, hb9]
    refine ⟨⟨⟨⟨by omega, by omega, by omega, by omega, by omega, h6⟩, ?_⟩, ?_⟩, X.book⟩
    · show T.heap.size + R'.cells ≤ e.platform.maxCells
      omega
    · show T.slotsUsed + R'.slots ≤ e.platform.maxSlots
      omega
  · rw [State.stackLimits_setFrames]; rfl
  · rw [State.stackBytes_setFrames]; rfl
  · refine ⟨?_, Nat.le_refl _, Nat.le_refl _, ?_, ?_, fun a c9 h9 => ⟨c9, h9, rfl, rfl, fun _ _ => rfl⟩⟩
    · obtain ⟨t, ht, -⟩ := State.frames_cons hr
      show T.setVm s.vm = { ((T.setVm s.vm).setFrames (.invoking m args :: below)).setFrames (T.setVm s.vm).frames with heap := T.heap, slotsUsed := T.slotsUsed }
      rw [State.setFrames_setFrames, State.setFrames_self ht]
      rfl
    · show T.slotsUsed = T.slotsUsed + ((T.heap.toList.drop T.heap.size).map (·.slots.size)).sum
      rw [List.drop_eq_nil_of_le (Nat.le_of_eq Array.length_toList)]
      rfl
    · show ((T.heap.toList.drop T.heap.size).map (·.slots.size)).sum ≤ 0
      rw [List.drop_eq_nil_of_le (Nat.le_of_eq Array.length_toList)]
      exact Nat.le_refl _
/-- 'throw new E()': new; dup; invokespecial; athrow -/
theorem vx_throw0 {cc : ByteArray} {pc : Nat} (hexec : p.tables.exec = Jvm.exec) (hb : c.code = cc) (hl : l.stackTraces = false) {own cls : String} {names : List String} {ik ic mc ms : Nat} {A : Nat → Prop}
    (hown : s.vm.findClass own = some m.cls) (hcls : Bundle.fit cls = true) (hnames : ∀ n ∈ names, Bundle.fit n = true)
    (hk : (Cond.classLink own ik cls).before args s = true) (hini : (Cond.initialized cls).before args s = true) (hat : ∀ w ∈ vx_at0 own ic cls names, w.before args s = true)
    (hgood : ∀ w ∈ Cond.classLink own ik cls :: Cond.initialized cls :: vx_at0 own ic cls names, vx_ot w = true)
    (hU : vx_Zq Bundle.tN "UNASSIGNED_STACK" Bundle.steD A s s.heap) (hN : vx_Zq Bundle.tN "SUPPRESSED_SENTINEL" Bundle.listD A s s.heap) (hS : va_S A s.heap H locs) (hsize : ls.size = c.maxLocals)
    (d0 : decode cc pc = .ok (.new ik, 3)) (d3 : decode cc (pc + 3) = .ok (.dup, 1)) (d4 : decode cc (pc + 4) = .ok (.invokespecial ic, 3)) (d7 : decode cc (pc + 7) = .ok (.athrow, 1))
    (hout : ∀ x ∈ c.exceptionTable.toList, covers x (pc + 7) = false)
    (hRframes : names.length + 3 < R.frames) (hRlocals : (rest.map fun v => v.category).sum + (13 * (names.length + 1) + 42) ≤ R.locals) (hRcells : cells + 1 ≤ R.cells) (hRslots : slots + 6 ≤ R.slots) (hlocks : meth.locks = false)
    (hx : ∀ t : State, s.vm.Alike t.vm → H.size ≤ t.heap.size → (∀ q : Nat, q < H.size → t.heap[q]? = H[q]?) → XC cls s t)
    (hf : ∀ z ∈ locs, free z.base) (hc : cells + 1 ≤ mc) (hs : slots + 6 ≤ ms) :
    W p l e R s m args below meth c H locs cells slots (vx_MQ below Qc XC args s mc ms free) (F0 m pc ls rest) := by
  intro T hT X
  have htr : e.platform.stackTraces = false := (show e.platform.stackTraces = l.stackTraces by rw [X.admits.platform]).trans hl
  have Y := vx_rebase X (R' := { frames := R.frames, locals := R.locals, cells := 1, slots := 6 }) (Nat.le_refl _) (Nat.le_refl _) hRcells hRslots
  obtain ⟨s', hA⟩ : ∃ z, z = (T.setVm s.vm).setFrames (.invoking m args :: below) := ⟨_, rfl⟩
  rw [← hA] at Y
  have hvm : s'.vm = s.vm := by rw [hA]; rfl
  have hhp : s'.heap = H := by rw [hA]; exact hT
  have hW0 : s.WarmedH s'.vm := by rw [hvm]; exact State.WarmedH.refl s
  have hat' : ∀ w ∈ vx_at0 own ic cls names, w.before args s' = true := fun w hw => vx_ot_at hW0 hvm.symm (hgood w (List.mem_cons_of_mem _ (List.mem_cons_of_mem _ hw))) (hat w hw)
  have hk' : (Cond.classLink own ik cls).before args s' = true := vx_ot_at hW0 hvm.symm (hgood _ List.mem_cons_self) hk
  have hini' : (Cond.initialized cls).before args s' = true := vx_ot_at hW0 hvm.symm (hgood _ (List.mem_cons_of_mem _ List.mem_cons_self)) hini
  have hU' : vx_Zq Bundle.tN "UNASSIGNED_STACK" Bundle.steD A s' s'.heap := by rw [hhp]; exact vx_Zq.moved hW0.alike (hU.kept hS.2.1)
  have hN' : vx_Zq Bundle.tN "SUPPRESSED_SENTINEL" Bundle.listD A s' s'.heap := by rw [hhp]; exact vx_Zq.moved hW0.alike (hN.kept hS.2.1)
  have h : ∀ w ∈ Bundle.ownAtoms0 own ic cls names, w.before args s' = true := vx_own hat' (vx_isRefq hU'.1) (vx_isRefq hN'.1) hU'.2.word hN'.2.word
  have hown' : s'.vm.findClass own = some m.cls := by rw [hvm]; exact hown
  have hins : (Cond.instantiable cls 6).before args s' = true := h _ (by simp [Bundle.ownAtoms0])
  obtain ⟨vm₁, cX, kX, hfX, hkX, -, -, X₁, st1⟩ := Y.newCold hexec (own := own) (C := cls) (index := ik) (n := 6) hown' hk' hins hini'
    (g := F0 m pc ls rest) rfl (by rw [hb]; exact d0) (Nat.le_refl _) (Nat.le_refl _)
  generalize hT1 : (T.setVm vm₁).pushCell { cls := cX, slots := kX.instanceTypes.map defaultValue, vm := .none } = T1 at X₁ st1
  have hcat : (Value.ref T.heap.size).category = 1 := rfl
  have hcellA : T1.heap[T.heap.size]? = some (freshCell cX kX) := by rw [← hT1]; exact State.heap_pushCell_size _ _
  have d3' : decode c.code (pc + 3) = .ok (.dup, 1) := by rw [hb]; exact d3
  obtain ⟨U, hsteps, hrun, hend, hW, hsame, ce, hce, hO⟩ := X₁.ctorThrow0 hexec htr (own := own) (cls := cls) (names := names) (ic := ic) hown' hcls hnames h (fun x hx => nomatch hx) hfX hkX hcellA (by rw [hhp, hT]; exact Nat.le_refl _)
    (g := { method := m, pc := pc + 4, locals := ls, stack := .ref T.heap.size :: .ref T.heap.size :: rest, locked := none }) rfl hsize rfl rfl (rest := rest) rfl
    (by rw [hb]; exact d4) (by rw [hb]; exact d7) hout hRframes (by simp only [List.map_cons, List.sum_cons, hcat]; omega) hlocks
  obtain ⟨f1, f2⟩ := vx_frame hsame
  rw [hhp] at f1 f2
  have hWs : s.WarmedH U.vm := State.WarmedH.trans hW0 hW
  have hcl : s.vm.findClass cls = some ce.cls := by
    have h9 := hO.cls
    rw [hvm] at h9
    exact h9
  have hall : s.sameButNew ({ U with vm := s.vm } : State) locs mc ms := by
    subst hA
    obtain ⟨e1, e2⟩ := hsame
    rw [State.setFrames_setFrames] at e1
    have h2 : (T.setVm s.vm).sameButNew ({ U with vm := s.vm } : State) [] (0 + 1) (0 + 6) := ⟨e1, e2⟩
    have h3 := X.same.trans h2
    rw [List.append_nil] at h3
    exact h3.mono hc hs
  refine ⟨U, ?_, .threw T.heap.size, hrun, hend, Or.inr ⟨T.heap.size, rfl, cls, ce, locs, hx U hWs.alike f1 (fun q hq => f2 q hq (fun z hz => nomatch hz)), hce, hO.vm, hcl, hWs, hall, hf⟩⟩
  refine st1 _ ?_
  show Steps p.tables e below (T1.setTop { method := m, pc := pc + 3, locals := ls, stack := .ref T.heap.size :: rest, locked := none }) _
  jvm_step X₁.here [X₁.here.top, hexec, d3', Value.category]
  exact hsteps
/-- 'throw new E("text")': new; dup; ldc; invokespecial; athrow -/
theorem vx_throwS {cc : ByteArray} {pc : Nat} (hexec : p.tables.exec = Jvm.exec) (hb : c.code = cc) (hl : l.stackTraces = false) {own cls text : String} {names : List String} {ik is ic mc ms sa : Nat} {A : Nat → Prop}
    (hown : s.vm.findClass own = some m.cls) (hcls : Bundle.fit cls = true) (hnames : ∀ n ∈ names, Bundle.fit n = true)
    (hk : (Cond.classLink own ik cls).before args s = true) (hini : (Cond.initialized cls).before args s = true) (hstr : vk_R own is text sa s) (hat : ∀ w ∈ vx_atS own ic cls names, w.before args s = true)
    (hgood : ∀ w ∈ Cond.classLink own ik cls :: Cond.initialized cls :: vx_atS own ic cls names, vx_ot w = true)
    (hU : vx_Zq Bundle.tN "UNASSIGNED_STACK" Bundle.steD A s s.heap) (hN : vx_Zq Bundle.tN "SUPPRESSED_SENTINEL" Bundle.listD A s s.heap) (hS : va_S A s.heap H locs) (hsize : ls.size = c.maxLocals)
    (d0 : decode cc pc = .ok (.new ik, 3)) (d3 : decode cc (pc + 3) = .ok (.dup, 1)) (d4 : decode cc (pc + 4) = .ok (.ldc is, 2)) (d6 : decode cc (pc + 6) = .ok (.invokespecial ic, 3)) (d9 : decode cc (pc + 9) = .ok (.athrow, 1))
    (hout : ∀ x ∈ c.exceptionTable.toList, covers x (pc + 9) = false)
    (hRframes : names.length + 3 < R.frames) (hRlocals : (rest.map fun v => v.category).sum + (13 * (names.length + 1) + 43) ≤ R.locals) (hRcells : cells + 1 ≤ R.cells) (hRslots : slots + 6 ≤ R.slots) (hlocks : meth.locks = false)
    (hx : ∀ t : State, s.vm.Alike t.vm → H.size ≤ t.heap.size → (∀ q : Nat, q < H.size → t.heap[q]? = H[q]?) → XC cls s t)
    (hf : ∀ z ∈ locs, free z.base) (hc : cells + 1 ≤ mc) (hs : slots + 6 ≤ ms) :
    W p l e R s m args below meth c H locs cells slots (vx_MQ below Qc XC args s mc ms free) (F0 m pc ls rest) := by
  intro T hT X
  have htr : e.platform.stackTraces = false := (show e.platform.stackTraces = l.stackTraces by rw [X.admits.platform]).trans hl
  have Y := vx_rebase X (R' := { frames := R.frames, locals := R.locals, cells := 1, slots := 6 }) (Nat.le_refl _) (Nat.le_refl _) hRcells hRslots
  obtain ⟨s', hA⟩ : ∃ z, z = (T.setVm s.vm).setFrames (.invoking m args :: below) := ⟨_, rfl⟩
  rw [← hA] at Y
  have hvm : s'.vm = s.vm := by rw [hA]; rfl
  have hhp : s'.heap = H := by rw [hA]; exact hT
  have hW0 : s.WarmedH s'.vm := by rw [hvm]; exact State.WarmedH.refl s
  have hat' : ∀ w ∈ vx_atS own ic cls names, w.before args s' = true := fun w hw => vx_ot_at hW0 hvm.symm (hgood w (List.mem_cons_of_mem _ (List.mem_cons_of_mem _ hw))) (hat w hw)
  have hk' : (Cond.classLink own ik cls).before args s' = true := vx_ot_at hW0 hvm.symm (hgood _ List.mem_cons_self) hk
  have hini' : (Cond.initialized cls).before args s' = true := vx_ot_at hW0 hvm.symm (hgood _ (List.mem_cons_of_mem _ List.mem_cons_self)) hini
  have hU' : vx_Zq Bundle.tN "UNASSIGNED_STACK" Bundle.steD A s' s'.heap := by rw [hhp]; exact vx_Zq.moved hW0.alike (hU.kept hS.2.1)
  have hN' : vx_Zq Bundle.tN "SUPPRESSED_SENTINEL" Bundle.listD A s' s'.heap := by rw [hhp]; exact vx_Zq.moved hW0.alike (hN.kept hS.2.1)
  have h : ∀ w ∈ Bundle.ownAtoms own ic cls names, w.before args s' = true := vx_own hat' (vx_isRefq hU'.1) (vx_isRefq hN'.1) hU'.2.word hN'.2.word
  have hown' : s'.vm.findClass own = some m.cls := by rw [hvm]; exact hown
  have hins : (Cond.instantiable cls 6).before args s' = true := h _ (by simp [Bundle.ownAtoms])
  obtain ⟨vm₁, cX, kX, hfX, hkX, -, -, X₁, st1⟩ := Y.newCold hexec (own := own) (C := cls) (index := ik) (n := 6) hown' hk' hins hini'
    (g := F0 m pc ls rest) rfl (by rw [hb]; exact d0) (Nat.le_refl _) (Nat.le_refl _)
  generalize hT1 : (T.setVm vm₁).pushCell { cls := cX, slots := kX.instanceTypes.map defaultValue, vm := .none } = T1 at X₁ st1
  have hcat : (Value.ref T.heap.size).category = 1 := rfl
  have hcellA : T1.heap[T.heap.size]? = some (freshCell cX kX) := by rw [← hT1]; exact State.heap_pushCell_size _ _
  have d3' : decode c.code (pc + 3) = .ok (.dup, 1) := by rw [hb]; exact d3
  have d4' : decode c.code (pc + 4) = .ok (.ldc is, 2) := by rw [hb]; exact d4
  have hstr' : vk_R own is text sa s' := vk_R.warm hW0 hstr
  obtain ⟨U, hsteps, hrun, hend, hW, hsame, ce, hce, hO⟩ := X₁.ctorThrowS hexec htr (own := own) (cls := cls) (names := names) (ic := ic) hown' hcls hnames h (fun x hx => nomatch hx) hfX hkX hcellA (by rw [hhp, hT]; exact Nat.le_refl _) (msg := .ref sa) rfl
    (g := { method := m, pc := pc + 6, locals := ls, stack := .ref sa :: .ref T.heap.size :: .ref T.heap.size :: rest, locked := none }) rfl hsize rfl rfl (rest := rest) rfl
    (by rw [hb]; exact d6) (by rw [hb]; exact d9) hout hRframes (by simp only [List.map_cons, List.sum_cons, hcat]; omega) hlocks
  obtain ⟨f1, f2⟩ := vx_frame hsame
  rw [hhp] at f1 f2
  have hWs : s.WarmedH U.vm := State.WarmedH.trans hW0 hW
  have hcl : s.vm.findClass cls = some ce.cls := by
    have h9 := hO.cls
    rw [hvm] at h9
    exact h9
  have hall : s.sameButNew ({ U with vm := s.vm } : State) locs mc ms := by
    subst hA
    obtain ⟨e1, e2⟩ := hsame
    rw [State.setFrames_setFrames] at e1
    have h2 : (T.setVm s.vm).sameButNew ({ U with vm := s.vm } : State) [] (0 + 1) (0 + 6) := ⟨e1, e2⟩
    have h3 := X.same.trans h2
    rw [List.append_nil] at h3
    exact h3.mono hc hs
  refine ⟨U, ?_, .threw T.heap.size, hrun, hend, Or.inr ⟨T.heap.size, rfl, cls, ce, locs, hx U hWs.alike f1 (fun q hq => f2 q hq (fun z hz => nomatch hz)), hce, hO.vm, hcl, hWs, hall, hf⟩⟩
  refine st1 _ ?_
  show Steps p.tables e below (T1.setTop { method := m, pc := pc + 3, locals := ls, stack := .ref T.heap.size :: rest, locked := none }) _
  jvm_step X₁.here [X₁.here.top, hexec, d3', Value.category]
  exact X₁.ldcString hexec (own := own) (text := text) (index := is) (a := sa) hown' hstr'.1 hstr'.2
    (g := { method := m, pc := pc + 4, locals := ls, stack := .ref T.heap.size :: .ref T.heap.size :: rest, locked := none }) rfl d4' _ hsteps
/-- 'throw new E("text")', the text by a wide index -/
theorem vx_throwSW {cc : ByteArray} {pc : Nat} (hexec : p.tables.exec = Jvm.exec) (hb : c.code = cc) (hl : l.stackTraces = false) {own cls text : String} {names : List String} {ik is ic mc ms sa : Nat} {A : Nat → Prop}
    (hown : s.vm.findClass own = some m.cls) (hcls : Bundle.fit cls = true) (hnames : ∀ n ∈ names, Bundle.fit n = true)
    (hk : (Cond.classLink own ik cls).before args s = true) (hini : (Cond.initialized cls).before args s = true) (hstr : vk_R own is text sa s) (hat : ∀ w ∈ vx_atS own ic cls names, w.before args s = true)
    (hgood : ∀ w ∈ Cond.classLink own ik cls :: Cond.initialized cls :: vx_atS own ic cls names, vx_ot w = true)
    (hU : vx_Zq Bundle.tN "UNASSIGNED_STACK" Bundle.steD A s s.heap) (hN : vx_Zq Bundle.tN "SUPPRESSED_SENTINEL" Bundle.listD A s s.heap) (hS : va_S A s.heap H locs) (hsize : ls.size = c.maxLocals)
    (d0 : decode cc pc = .ok (.new ik, 3)) (d3 : decode cc (pc + 3) = .ok (.dup, 1)) (d4 : decode cc (pc + 4) = .ok (.ldc_w is, 3)) (d7 : decode cc (pc + 7) = .ok (.invokespecial ic, 3)) (d10 : decode cc (pc + 10) = .ok (.athrow, 1))
    (hout : ∀ x ∈ c.exceptionTable.toList, covers x (pc + 10) = false)
    (hRframes : names.length + 3 < R.frames) (hRlocals : (rest.map fun v => v.category).sum + (13 * (names.length + 1) + 43) ≤ R.locals) (hRcells : cells + 1 ≤ R.cells) (hRslots : slots + 6 ≤ R.slots) (hlocks : meth.locks = false)
    (hx : ∀ t : State, s.vm.Alike t.vm → H.size ≤ t.heap.size → (∀ q : Nat, q < H.size → t.heap[q]? = H[q]?) → XC cls s t)
    (hf : ∀ z ∈ locs, free z.base) (hc : cells + 1 ≤ mc) (hs : slots + 6 ≤ ms) :
    W p l e R s m args below meth c H locs cells slots (vx_MQ below Qc XC args s mc ms free) (F0 m pc ls rest) := by
  intro T hT X
  have htr : e.platform.stackTraces = false := (show e.platform.stackTraces = l.stackTraces by rw [X.admits.platform]).trans hl
  have Y := vx_rebase X (R' := { frames := R.frames, locals := R.locals, cells := 1, slots := 6 }) (Nat.le_refl _) (Nat.le_refl _) hRcells hRslots
  obtain ⟨s', hA⟩ : ∃ z, z = (T.setVm s.vm).setFrames (.invoking m args :: below) := ⟨_, rfl⟩
  rw [← hA] at Y
  have hvm : s'.vm = s.vm := by rw [hA]; rfl
  have hhp : s'.heap = H := by rw [hA]; exact hT
  have hW0 : s.WarmedH s'.vm := by rw [hvm]; exact State.WarmedH.refl s
  have hat' : ∀ w ∈ vx_atS own ic cls names, w.before args s' = true := fun w hw => vx_ot_at hW0 hvm.symm (hgood w (List.mem_cons_of_mem _ (List.mem_cons_of_mem _ hw))) (hat w hw)
  have hk' : (Cond.classLink own ik cls).before args s' = true := vx_ot_at hW0 hvm.symm (hgood _ List.mem_cons_self) hk
  have hini' : (Cond.initialized cls).before args s' = true := vx_ot_at hW0 hvm.symm (hgood _ (List.mem_cons_of_mem _ List.mem_cons_self)) hini
  have hU' : vx_Zq Bundle.tN "UNASSIGNED_STACK" Bundle.steD A s' s'.heap := by rw [hhp]; exact vx_Zq.moved hW0.alike (hU.kept hS.2.1)
  have hN' : vx_Zq Bundle.tN "SUPPRESSED_SENTINEL" Bundle.listD A s' s'.heap := by rw [hhp]; exact vx_Zq.moved hW0.alike (hN.kept hS.2.1)
  have h : ∀ w ∈ Bundle.ownAtoms own ic cls names, w.before args s' = true := vx_own hat' (vx_isRefq hU'.1) (vx_isRefq hN'.1) hU'.2.word hN'.2.word
  have hown' : s'.vm.findClass own = some m.cls := by rw [hvm]; exact hown
  have hins : (Cond.instantiable cls 6).before args s' = true := h _ (by simp [Bundle.ownAtoms])
  obtain ⟨vm₁, cX, kX, hfX, hkX, -, -, X₁, st1⟩ := Y.newCold hexec (own := own) (C := cls) (index := ik) (n := 6) hown' hk' hins hini'
    (g := F0 m pc ls rest) rfl (by rw [hb]; exact d0) (Nat.le_refl _) (Nat.le_refl _)
  generalize hT1 : (T.setVm vm₁).pushCell { cls := cX, slots := kX.instanceTypes.map defaultValue, vm := .none } = T1 at X₁ st1
  have hcat : (Value.ref T.heap.size).category = 1 := rfl
  have hcellA : T1.heap[T.heap.size]? = some (freshCell cX kX) := by rw [← hT1]; exact State.heap_pushCell_size _ _
  have d3' : decode c.code (pc + 3) = .ok (.dup, 1) := by rw [hb]; exact d3
  have d4' : decode c.code (pc + 4) = .ok (.ldc_w is, 3) := by rw [hb]; exact d4
  have hstr' : vk_R own is text sa s' := vk_R.warm hW0 hstr
  obtain ⟨U, hsteps, hrun, hend, hW, hsame, ce, hce, hO⟩ := X₁.ctorThrowS hexec htr (own := own) (cls := cls) (names := names) (ic := ic) hown' hcls hnames h (fun x hx => nomatch hx) hfX hkX hcellA (by rw [hhp, hT]; exact Nat.le_refl _) (msg := .ref sa) rfl
    (g := { method := m, pc := pc + 7, locals := ls, stack := .ref sa :: .ref T.heap.size :: .ref T.heap.size :: rest, locked := none }) rfl hsize rfl rfl (rest := rest) rfl
    (by rw [hb]; exact d7) (by rw [hb]; exact d10) hout hRframes (by simp only [List.map_cons, List.sum_cons, hcat]; omega) hlocks
  obtain ⟨f1, f2⟩ := vx_frame hsame
  rw [hhp] at f1 f2
  have hWs : s.WarmedH U.vm := State.WarmedH.trans hW0 hW
  have hcl : s.vm.findClass cls = some ce.cls := by
    have h9 := hO.cls
    rw [hvm] at h9
    exact h9
  have hall : s.sameButNew ({ U with vm := s.vm } : State) locs mc ms := by
    subst hA
    obtain ⟨e1, e2⟩ := hsame
    rw [State.setFrames_setFrames] at e1
    have h2 : (T.setVm s.vm).sameButNew ({ U with vm := s.vm } : State) [] (0 + 1) (0 + 6) := ⟨e1, e2⟩
    have h3 := X.same.trans h2
    rw [List.append_nil] at h3
    exact h3.mono hc hs
  refine ⟨U, ?_, .threw T.heap.size, hrun, hend, Or.inr ⟨T.heap.size, rfl, cls, ce, locs, hx U hWs.alike f1 (fun q hq => f2 q hq (fun z hz => nomatch hz)), hce, hO.vm, hcl, hWs, hall, hf⟩⟩
  refine st1 _ ?_
  show Steps p.tables e below (T1.setTop { method := m, pc := pc + 3, locals := ls, stack := .ref T.heap.size :: rest, locked := none }) _
  jvm_step X₁.here [X₁.here.top, hexec, d3', Value.category]
  exact X₁.ldcStringW hexec (own := own) (text := text) (index := is) (a := sa) hown' hstr'.1 hstr'.2
    (g := { method := m, pc := pc + 4, locals := ls, stack := .ref T.heap.size :: .ref T.heap.size :: rest, locked := none }) rfl d4' _ hsteps
end Ends
section Bodies
variable {l : Launch}
theorem vx_ofW {y : MethodName} {ws ws' : List Cond} {rm : Room} {Pc : Array Value → State → Prop} {Qc : Array Value → State → Outcome → State → Prop} {XC : String → State → State → Prop} {mc ms : Nat} {free : Addr → Prop} {cc : ByteArray} {maxL : Nat} {ret : Option FieldType}
    (hy : plainName y.cls = true) (hw : ws = Cond.code y cc maxL ret :: ws')
    (body : ∀ p e s m args below meth c s₁, BodyLoose p l y (headSpec ws rm) cc maxL ret e s m args below meth c s₁ → c.maxLocals = maxL → (∀ x ∈ c.exceptionTable.toList, False) → Pc args s →
      W p l e (headSpec ws rm).room s m args below meth c s.heap [] 0 0 (vx_MQ below Qc XC args s mc ms free) (entryFrame m args maxL)) : vx_Met l y ws rm Pc Qc XC mc ms free := by
  refine MetFree.of_bodyS (code := cc) (maxLocals := maxL) (ret := ret) hy ?_ ?_
  · intro args s m h hn
    obtain ⟨meth, c, h1, h2, h3, h4, h5, h6, -, -⟩ := Cond.code_spec hn (atoms_spec (ws := ws) h _ (by rw [hw]; exact List.mem_cons_self))
    exact ⟨meth, c, h1, h2, h3, h4, h5, h6⟩
  · intro p e s m args below meth c s₁ B hml hP _
    have hh0 : s₁.heap = s.heap := by rw [B.state]; rfl
    have ht : ∀ x ∈ c.exceptionTable.toList, False := by
      obtain ⟨meth9, c9, h1, h2, -, -, -, -, h7, -⟩ := Cond.code_spec B.named (atoms_spec (ws := ws) B.pre _ (by rw [hw]; exact List.mem_cons_self))
      cases Option.some.inj (h1.symm.trans B.method)
      cases Option.some.inj (h2.symm.trans (Stand.of_body B).code)
      intro x hx
      rw [Array.isEmpty_iff.mp h7] at hx
      cases hx
    obtain ⟨t, a1, o, b1, b2, b3⟩ := body p e s m args below meth c s₁ B hml ht hP s₁ hh0 (Stand.of_body B)
    exact ⟨t, o, a1, b1, b2, b3⟩
/-- the table of a body with handlers -/
theorem vx_table {p : Program} {x y : MethodName} {S : Spec} {cc bytes : ByteArray} {maxL maxL' : Nat} {ret ret' : Option FieldType} {e : Env} {s s₁ : State} {m : MethodId} {args : Array Value} {below : List Frame} {meth : Method} {c : Code} {hh : List (Nat × Nat × Nat × Nat)}
    (B : BodyLoose p l y S cc maxL ret e s m args below meth c s₁) (h : (Cond.codeWith y bytes maxL' ret' hh).before args s = true) : c.exceptionTable.toList = tableOf hh := by
  obtain ⟨m9, meth9, c9, hn9, h1, h2, -, -, h6, -⟩ := Cond.codeWith_spec h
  cases Option.some.inj (hn9.symm.trans B.named)
  cases Option.some.inj (h1.symm.trans B.method)
  cases Option.some.inj (h2.symm.trans (Stand.of_body B).code)
  rw [← h6, table_eq]
end Bodies
end VXA
/-! ===== END ===== -/
/-! ===== BEGIN a static call of a method with an exception table ===== -/
section VXS
variable {p : Program} {l : Launch} {e : Env} {R : Room} {s : State} {m : MethodId} {args : Array Value} {below : List Frame} {meth : Method} {c : Code} {T : State} {H : Heap} {locs : List Loc} {cells slots : Nat}
abbrev vx_CSW (R : Room) (s : State) (args : Array Value) (own : String) (index : Nat) (y : MethodName) (bytes : ByteArray) (maxL : Nat) (ret : Option FieldType) (hh : List (Nat × Nat × Nat × Nat)) (ws : List Cond) (rm : Room) (mc ms n : Nat) : Prop :=
  (rm.cells = mc ∧ rm.slots = ms ∧ rm.frames + 1 ≤ R.frames ∧ 8 + (maxL + 11) + rm.locals ≤ R.locals ∧ (∀ w ∈ ws, ∀ (a' : Array Value) (U : State), s.WarmedH U.vm → w.before a' U = true) ∧ Cond.codeWith y bytes maxL ret hh ∈ ws) ∧
  (Cond.codeWith y bytes maxL ret hh).before args s = true ∧ (Cond.initialized y.cls).before args s = true ∧ (y.cls ≠ "java/lang/invoke/MethodHandle" ∧ y.cls ≠ "java/lang/invoke/VarHandle") ∧
  (∀ sig, parseMethodDescriptor y.desc = some sig → n = sig.parameters.length) ∧ (Cond.methodLink own index y).before args s = true ∧ (Cond.static y).before args s = true
theorem vx_cwSW {own : String} {index maxL mc ms : Nat} {y : MethodName} {bytes : ByteArray} {ret : Option FieldType} {hh : List (Nat × Nat × Nat × Nat)} {Ts ws ws' : List Cond} {rm : Room} (n : Nat) (ht : ∀ w ∈ Ts, w.before args s = true) (hT : GoodIn Ts (va_wsS own index y ws)) (hw : ws = Cond.codeWith y bytes maxL ret hh :: ws') (hrc : rm.cells = mc) (hrs : rm.slots = ms)
    (hd : y.cls ≠ "java/lang/invoke/MethodHandle" ∧ y.cls ≠ "java/lang/invoke/VarHandle" ∧ (parseMethodDescriptor y.desc).map (fun d => d.parameters.length) = some n) (hR : rm.frames + 1 ≤ R.frames ∧ 8 + (maxL + 11) + rm.locals ≤ R.locals) :
    vx_CSW R s args own index y bytes maxL ret hh ws rm mc ms n := by
  have ok : ∀ w ∈ va_wsS own index y ws, w.before args s = true := fun w h => ht w (hT w h).1
  have hG : GoodIn Ts ws := fun w h => hT w (by unfold va_wsS; exact List.mem_append_right _ h)
  have hc : Cond.codeWith y bytes maxL ret hh ∈ ws := by rw [hw]; exact List.mem_cons_self
  refine ⟨⟨hrc, hrs, hR.1, hR.2, pay_in ht hG, hc⟩, ht _ (hG _ hc).1, ok _ (by simp [va_wsS]), ⟨hd.1, hd.2.1⟩, fun sig h => ?_, ok _ (by simp [va_wsS]), ok _ (by simp [va_wsS])⟩
  have h2 := hd.2.2
  rw [h] at h2
  exact (Option.some.inj h2).symm
theorem vx_callSW (X : Stand p l e R s m args below meth c T locs cells slots) (hexec : p.tables.exec = Jvm.exec) {own : String} {index : Nat} {y : MethodName} {bytes : ByteArray} {maxL : Nat} {ret : Option FieldType} {hh : List (Nat × Nat × Nat × Nat)}
    (hown : s.vm.findClass own = some m.cls) (hlink : (Cond.methodLink own index y).before args s = true) (hstat : (Cond.static y).before args s = true) (hinit : (Cond.initialized y.cls).before args s = true)
    (hcode : (Cond.codeWith y bytes maxL ret hh).before args s = true) (hy : y.cls ≠ "java/lang/invoke/MethodHandle" ∧ y.cls ≠ "java/lang/invoke/VarHandle")
    {W9 : Nat} {Pre : Pt → Array Value → Prop} {Post : Pt → Array Value → Option Value → Pt → Prop} (hK : Back l R p e below s args y 3 W9 Pre Post)
    {g : JFrame} (hg : g.method = m) (hsize : g.locals.size = c.maxLocals) {argsL rest : List Value} (hlen : ∀ sig, parseMethodDescriptor y.desc = some sig → argsL.length = sig.parameters.length)
    (hstack : g.stack = argsL.reverse ++ rest) (hW : 2 * g.monitorRoom + (rest.map fun v => v.category).sum ≤ W9) (hdg : decode c.code g.pc = .ok (.invokestatic index, 3))
    (hpre : ∀ vm₁, s.WarmedH vm₁ → Pre ⟨T.setVm vm₁, locs, cells, slots⟩ argsL.toArray) :
    ∃ (v : Option Value) (vm₁ : Vm) (B : Pt), s.WarmedH vm₁ ∧ Stand p l e R s m args below meth c B.U B.locs B.cells B.slots ∧ Post ⟨T.setVm vm₁, locs, cells, slots⟩ argsL.toArray v B ∧
      ∀ target, Steps p.tables e below (B.U.setTop { g with pc := g.pc + 3, stack := v.toList ++ rest }) target → Steps p.tables e below (T.setTop g) target := by
  obtain ⟨mk, methM, cM, hnamed, hmethM, -, -, -, -, -, -, hsigM⟩ := Cond.codeWith_spec hcode
  have hstatic : methM.isStatic = true := Cond.static_spec hnamed hmethM hstat
  obtain ⟨kP, hkP, -⟩ := className_of_methodNamed hnamed
  have hinitP : kP.init = .initialized := Cond.initialized_spec (findClass_of_methodNamed hnamed) hkP hinit
  obtain ⟨vm₁, X₁, hstep₁⟩ := X.invokestatic hexec hown hlink hnamed hmethM hstatic hkP hinitP hy (g := g) hg (argsL := argsL) (rest := rest) (hlen _ hsigM) hstack hdg
  obtain ⟨v, B, X', hpost, hsteps⟩ := hK m meth c ⟨T.setVm vm₁, locs, cells, slots⟩ { g with stack := rest } (.invokestatic index) mk argsL.toArray X₁ hg hsize hdg hW (X₁.named hnamed) (hpre vm₁ X₁.warmed)
  exact ⟨v, vm₁, B, X₁.warmed, X', hpost, fun target h => hstep₁ _ fun acts => by rw [doInvoke_state]; exact hsteps.trans h⟩
theorem vx_runSW {y : MethodName} {bytes cc : ByteArray} {maxL nL mc ms n index : Nat} {ret : Option FieldType} {hh : List (Nat × Nat × Nat × Nat)} {ws : List Cond} {rm : Room} {Pc : Array Value → State → Prop} {Qc : Array Value → State → Outcome → State → Prop} {free : Addr → Prop} {Ts : List Cond} {own : String} {As rest : List Value} {g : JFrame}
    (S : CallFix p m c cc nL s args Ts own) (hM : Met l y ws rm Pc Qc mc ms free) (cw : vx_CSW R s args own index y bytes maxL ret hh ws rm mc ms n) (hp : PreS s H Pc As)
    (hg : g.method = m) (hn : As.length = n) (hsize : g.locals.size = nL) (hstack : g.stack = As.reverse ++ rest) (hW : 2 * g.monitorRoom + (rest.map fun v => v.category).sum ≤ 8) (hdg : decode cc g.pc = .ok (.invokestatic index, 3)) (hf : cells + mc ≤ R.cells ∧ slots + ms ≤ R.slots) :
    va_Run p l e R s m args below meth c H locs cells slots mc ms g rest (Qc As.toArray) (free) := by
  obtain ⟨⟨hrc, hrs, hfr, hlo, hws, hcw⟩, hcode, hini, hy, hlen, hl, hstt⟩ := cw
  have hK : Back l R p e below s args y 3 8 (PreOf R mc ms Pc) (PostOf Qc mc ms free) := va_backW (hh := hh) (bytes := bytes) (maxL := maxL) (ret := ret) hM hp.1 hrc hrs hfr hlo hws hcw (fun a' U hW => word_at hW (Or.inl (by first | rfl | simp [Cond.onTables, Cond.keeps, Cond.steady])) hini)
  obtain ⟨hx, hb, hml, ho, -⟩ := S
  intro T hT X
  obtain ⟨v, vm₁, ⟨U', l2, c2, s2⟩, hW₁, X', ⟨g', mk, t, L, e1, e2, hq, h1, hL, h2, h3⟩, st⟩ := vx_callSW X hx (hh := hh) (bytes := bytes) (maxL := maxL) (ret := ret) ho hl hstt hini hcode hy hK hg (hsize.trans hml.symm) (argsL := As) (rest := rest) (fun sig h => hn.trans (hlen sig h)) hstack hW (by rw [hb]; exact hdg)
    (fun vm₁ hW₁ => ⟨hf.1, hf.2, hp.2 (T.setVm vm₁) hT hW₁⟩)
  dsimp only [Pt.U, Pt.locs, Pt.cells, Pt.slots] at X' e1 e2 h1 h2 h3 st
  subst h1; subst h2; subst h3
  exact ⟨v, (T.setVm vm₁).calling g' mk As.toArray, t, U', L, hT, X', hL, e1, e2, hq, st⟩
/-- a thing of a world lies in the heap -/
theorem vx_lt {D : va_G} {cl : List vw_C} {ws : va_W} {H1 : Heap} (h : va_P D cl ws H1) {k : Nat} {q : Nat × va_E} (hk : ws[k]? = some q) : q.1 < H1.size := (h k q hk).lt
end VXS
/-! ===== END ===== -/
/-! ===== BEGIN methods with a table of their own: called by a name, returning or throwing ===== -/
section VXH
/-! vx_backW, vx_callVX, vx_callSX, vx_callVW, vx_runVW, vx_runVX, vx_runSX, vx_ofWH follow the same proofs as their sisters above (Free/Laws.lean, Shelf42/LK1.lean); vx_outP calls Shelf42/NT130.lean (outThrough). -/
section
variable {l : Launch} {R : Room} {p : Program} {e : Env} {below : List Frame} {s : State} {sargs : Array Value} {y : MethodName} {len W9 : Nat}
theorem vx_backW {ws : List Cond} {rm : Room} {Pc : Array Value → State → Prop} {Qc : Array Value → State → Outcome → State → Prop} {XC : String → State → State → Prop} {mc ms : Nat} {free : Addr → Prop} {bytes : ByteArray} {maxL : Nat} {ret : Option FieldType} {hh : List (Nat × Nat × Nat × Nat)}
    (hM : vx_Met l y ws rm Pc Qc XC mc ms free) (hblind : FrameBlind Pc) (hrc : rm.cells = mc) (hrs : rm.slots = ms)
    (hframes : rm.frames + 1 ≤ R.frames) (hlocals : W9 + (maxL + 11) + rm.locals ≤ R.locals)
    (hws : ∀ w ∈ ws, ∀ a' U, s.WarmedH U.vm → w.before a' U = true) (hcode : Cond.codeWith y bytes maxL ret hh ∈ ws) (hinit : ∀ a' U, s.WarmedH U.vm → (Cond.initialized y.cls).before a' U = true) :
    vx_Back l R p e below s sargs y len W9 (PreOf R mc ms Pc) (PostOf Qc mc ms free) (vx_Post XC mc ms free) := by
  intro m meth c A g ig mk a X hg hsize hdg hW hn hp
  have h1 : (headSpec ws rm).pre.before a A.U = true := atoms_intro fun w hw => hws w hw _ _ X.warmed
  have h2 : (Cond.codeWith y bytes maxL ret hh).before a A.U = true := hws _ hcode _ _ X.warmed
  have h3 : (Cond.initialized y.cls).before a A.U = true := hinit _ _ X.warmed
  have h4 : A.cells + (headSpec ws rm).room.cells ≤ R.cells := by rw [show (headSpec ws rm).room.cells = mc from hrc]; exact hp.1
  have h5 : A.slots + (headSpec ws rm).room.slots ≤ R.slots := by rw [show (headSpec ws rm).room.slots = ms from hrs]; exact hp.2.1
  have hPc : Pc a (A.U.calling g mk a) := hblind _ _ _ _ hp.2.2
  obtain ⟨U, Ls, c0, s0⟩ := A
  dsimp only [Pt.U, Pt.locs, Pt.cells, Pt.slots] at h1 h2 h3 h4 h5 X hn hPc ⊢
  obtain ⟨m9, methY, cY, hn9, hmY, hcY, -, hlY, -⟩ := Cond.codeWith_spec h2
  cases Option.some.inj (hn9.symm.trans hn)
  obtain ⟨kY, hkY, -⟩ := className_of_methodNamed hn
  have hinitY : kY.init = .initialized := Cond.initialized_spec (findClass_of_methodNamed hn) hkY h3
  have h : At U g.method c below := by rw [hg]; exact X.here
  have hlocals9 : W9 + (maxL + 11) + (headSpec ws rm).room.locals ≤ R.locals := hlocals
  have happ : (headSpec ws rm).appliesLoose y e.platform (U.calling g mk a) = true :=
    Spec.appliesLoose_calling (g := g) h hdg hn hkY hinitY
      (X.room_calling (g := g) (R' := (headSpec ws rm).room) hsize hmY hcY hframes (by rw [hlY]; omega) h4 h5) h1
  obtain ⟨mid, hmid⟩ := h.above
  have hfr : (U.setTop g).frames = (.java g :: mid) ++ below := by rw [State.frames_setTop' g h.top, hmid]; rfl
  obtain ⟨o, s₂, hsteps, -, hend, hq⟩ := Steps.callFree hM p X.admits X.cas X.clock (acts := []) hfr happ hPc trivial
  have hq' : vx_Q Qc XC mc ms free a (U.calling g mk a) o s₂ := hq
  rw [State.frames_setTop' g h.top] at hend
  obtain ⟨g₀, hg0⟩ := Option.isSome_iff_exists.mp h.top
  obtain ⟨r, hr⟩ := State.topJava?_eq_some.mp hg0
  have hr' : (({ U with heap := s₂.heap, slotsUsed := s₂.slotsUsed } : State).setVm s₂.vm).frames = .java g₀ :: r := hr
  rcases hq' with ⟨hqc, L, hfe, hL⟩ | ⟨q, rfl, E, ce, L, hx, hce, hcv, hcl, hW₂, hsm, hL⟩
  · obtain ⟨⟨v, rfl⟩, hW₂, e2, q2, q3, q4, q5, q6⟩ := id hfe
    have e3 : s₂ = ({ (U.calling g mk a).setFrames s₂.frames with heap := s₂.heap, slotsUsed := s₂.slotsUsed } : State).setVm s₂.vm := by
      have : s₂ = ({ s₂ with vm := (U.calling g mk a).vm } : State).setVm s₂.vm := rfl
      rw [e2] at this
      exact this
    obtain ⟨c₂, i₂, len₂, hc₂, hd₂, hf₂⟩ := hend
    have hW' : U.WarmedH s₂.vm := hW₂
    have hcc : c₂ = c := by
      have h1 : s₂.code? g.method = U.code? g.method := by
        rw [State.code?_eq, State.code?_eq, hW'.alike.method?]
      exact Option.some.inj (hc₂.symm.trans (h1.trans h.code))
    subst hcc
    have hlen : len₂ = len := by rw [hdg] at hd₂; cases hd₂; rfl
    subst hlen
    have hs₂ : s₂ = (({ U with heap := s₂.heap, slotsUsed := s₂.slotsUsed } : State).setVm s₂.vm).setTop { g with pc := g.pc + len₂, stack := v.toList ++ g.stack } := by
      refine e3.trans ?_
      rw [hf₂, State.calling_eq h.top, State.setFrames_setFrames, State.setTop_of_frames _ hr', hr]
      rfl
    have hsame : U.sameButNew ({ U with heap := s₂.heap, slotsUsed := s₂.slotsUsed } : State) L mc ms := by
      refine ⟨?_, q2, q3, q4, q5, q6⟩
      obtain ⟨t, ht, -⟩ := State.frames_cons hr
      show ({ U with heap := s₂.heap, slotsUsed := s₂.slotsUsed } : State) = { U.setFrames U.frames with heap := s₂.heap, slotsUsed := s₂.slotsUsed }
      rw [State.setFrames_self ht]
    subst hg
    refine Or.inl ⟨v, ⟨(({ U with heap := s₂.heap, slotsUsed := s₂.slotsUsed } : State).setVm s₂.vm), Ls ++ L, c0 + mc, s0 + ms⟩,
      ⟨X.admits, X.cas, X.clock, X.frames, X.room, X.hears, X.method, X.code, (X.here.setHeapUsed s₂.heap s₂.slotsUsed).setVm hW'.alike, X.tail, State.WarmedH.trans X.warmed hW', X.limits, X.bytes, X.same.trans (hsame.setVm s.vm)⟩,
      ⟨g, mk, s₂, L, rfl, rfl, hqc, rfl, hL, rfl, rfl⟩, ?_⟩
    show Steps p.tables e below _ ((({ U with heap := s₂.heap, slotsUsed := s₂.slotsUsed } : State).setVm s₂.vm).setTop { g with pc := g.pc + len₂, stack := v.toList ++ g.stack })
    rw [← hs₂]
    exact hsteps
  · obtain ⟨e2, q2, q3, q4, q5, q6⟩ := id hsm
    have e3 : s₂ = ({ (U.calling g mk a).setFrames s₂.frames with heap := s₂.heap, slotsUsed := s₂.slotsUsed } : State).setVm s₂.vm := by
      have : s₂ = ({ s₂ with vm := (U.calling g mk a).vm } : State).setVm s₂.vm := rfl
      rw [e2] at this
      exact this
    have hf₂ : s₂.frames = .throwing q :: .java g :: U.frames.tail := hend
    have hW' : U.WarmedH s₂.vm := hW₂
    have hs₂ : s₂ = ((({ U with heap := s₂.heap, slotsUsed := s₂.slotsUsed } : State).setVm s₂.vm).setTop g).pushFrame (.throwing q) := by
      refine e3.trans ?_
      rw [hf₂, State.calling_eq h.top, State.setFrames_setFrames, State.pushFrame, State.frames_setTop _ hr', State.setTop_of_frames _ hr', State.setFrames_setFrames, hr]
      rfl
    have hsame : U.sameButNew ({ U with heap := s₂.heap, slotsUsed := s₂.slotsUsed } : State) L mc ms := by
      refine ⟨?_, q2, q3, q4, q5, q6⟩
      obtain ⟨t, ht, -⟩ := State.frames_cons hr
      show ({ U with heap := s₂.heap, slotsUsed := s₂.slotsUsed } : State) = { U.setFrames U.frames with heap := s₂.heap, slotsUsed := s₂.slotsUsed }
      rw [State.setFrames_self ht]
    subst hg
    refine Or.inr ⟨q, ⟨(({ U with heap := s₂.heap, slotsUsed := s₂.slotsUsed } : State).setVm s₂.vm), Ls ++ L, c0 + mc, s0 + ms⟩,
      ⟨X.admits, X.cas, X.clock, X.frames, X.room, X.hears, X.method, X.code, (X.here.setHeapUsed s₂.heap s₂.slotsUsed).setVm hW'.alike, X.tail, State.WarmedH.trans X.warmed hW', X.limits, X.bytes, X.same.trans (hsame.setVm s.vm)⟩,
      ⟨g, mk, s₂, L, E, ce, rfl, rfl, hx, hce, hcv, hcl, rfl, hL, rfl, rfl⟩, ?_⟩
    show Steps p.tables e below _ (((({ U with heap := s₂.heap, slotsUsed := s₂.slotsUsed } : State).setVm s₂.vm).setTop g).pushFrame (.throwing q))
    rw [← hs₂]
    exact hsteps
end
variable {p : Program} {l : Launch} {e : Env} {R : Room} {s : State} {m : MethodId} {args : Array Value} {below : List Frame} {meth : Method} {c : Code} {T : State} {H : Heap} {locs : List Loc} {cells slots : Nat}
theorem vx_callVX (X : Stand p l e R s m args below meth c T locs cells slots) (hexec : p.tables.exec = Jvm.exec) {own C : String} {index : Nat} {y : MethodName} {bytes : ByteArray} {maxL : Nat} {ret : Option FieldType} {hh : List (Nat × Nat × Nat × Nat)}
    (hown : s.vm.findClass own = some m.cls) (hlink : (Cond.methodLink own index y).before args s = true) (hinst : (Cond.instanceMethod y).before args s = true) (hsel : (Cond.selects C y y).before args s = true)
    (hcode : (Cond.codeWith y bytes maxL ret hh).before args s = true) (hy : y.cls ≠ "java/lang/invoke/MethodHandle" ∧ y.cls ≠ "java/lang/invoke/VarHandle")
    {W9 : Nat} {Pre : Pt → Array Value → Prop} {Post : Pt → Array Value → Option Value → Pt → Prop} {PostX : Pt → Array Value → Addr → Pt → Prop} (hK : vx_Back l R p e below s args y 3 W9 Pre Post PostX)
    {b : Addr} {cellB : Cell} (hcell : T.heap[b]? = some cellB) (hobj : cellB.vm.isStatics = false) (hcls : s.vm.findClass C = some cellB.cls)
    {g : JFrame} (hg : g.method = m) (hsize : g.locals.size = c.maxLocals) {argsL rest : List Value} (hlen : ∀ sig, parseMethodDescriptor y.desc = some sig → argsL.length = sig.parameters.length)
    (hstack : g.stack = argsL.reverse ++ .ref b :: rest) (hW : 2 * g.monitorRoom + (rest.map fun v => v.category).sum ≤ W9) (hdg : decode c.code g.pc = .ok (.invokevirtual index, 3))
    (hpre : ∀ vm₁, s.WarmedH vm₁ → Pre ⟨T.setVm vm₁, locs, cells, slots⟩ (Value.ref b :: argsL).toArray) :
    (∃ (v : Option Value) (vm₁ : Vm) (B : Pt), s.WarmedH vm₁ ∧ Stand p l e R s m args below meth c B.U B.locs B.cells B.slots ∧ Post ⟨T.setVm vm₁, locs, cells, slots⟩ (Value.ref b :: argsL).toArray v B ∧
      ∀ target, Steps p.tables e below (B.U.setTop { g with pc := g.pc + 3, stack := v.toList ++ rest }) target → Steps p.tables e below (T.setTop g) target) ∨
    (∃ (q : Addr) (vm₁ : Vm) (B : Pt), s.WarmedH vm₁ ∧ Stand p l e R s m args below meth c B.U B.locs B.cells B.slots ∧ PostX ⟨T.setVm vm₁, locs, cells, slots⟩ (Value.ref b :: argsL).toArray q B ∧
      Steps p.tables e below (T.setTop g) ((B.U.setTop { g with stack := rest }).pushFrame (.throwing q))) := by
  obtain ⟨mk, methM, hnamed, hmethM, hstM, habM⟩ := Cond.instanceMethod_spec hinst
  obtain ⟨m8, methM', cM, hn8, hmethM', -, -, -, -, -, -, hsigM⟩ := Cond.codeWith_spec hcode
  cases Option.some.inj (hn8.symm.trans hnamed)
  cases hmethM.symm.trans hmethM'
  obtain ⟨c2, r2, m2, q1, q2, q3, q4, kP, hkP, hkPi⟩ := Cond.selects_spec hsel
  cases hcls.symm.trans q1
  cases (State.methodFound?_of_named hnamed hy).symm.trans q2
  cases hnamed.symm.trans q3
  have hselP : selectMethod e.platform s.vm cellB.cls mk = .method mk := by rw [Launch.admits_selectMethod X.admits]; exact q4
  obtain ⟨vm₁, X₁, hstep₁⟩ := X.invokevirtual hexec hown hlink hnamed hmethM hstM hkP hkPi hy (a := b) (cell := cellB) hcell
    (fun z h => by rw [h] at hobj; cases hobj) hselP hmethM habM hkP hkPi (g := g) hg (argsL := argsL) (rest := rest) (hlen _ hsigM) hstack hdg
  rcases hK m meth c ⟨T.setVm vm₁, locs, cells, slots⟩ { g with stack := rest } (.invokevirtual index) mk (Value.ref b :: argsL).toArray X₁ hg hsize hdg hW (X₁.named hnamed) (hpre vm₁ X₁.warmed) with ⟨v, B, X', hpost, hsteps⟩ | ⟨q, B, X', hpost, hsteps⟩
  · exact Or.inl ⟨v, vm₁, B, X₁.warmed, X', hpost, fun target h => hstep₁ _ fun acts => by rw [doInvoke_state]; exact hsteps.trans h⟩
  · exact Or.inr ⟨q, vm₁, B, X₁.warmed, X', hpost, hstep₁ _ fun acts => by rw [doInvoke_state]; exact hsteps⟩
theorem vx_callSX (X : Stand p l e R s m args below meth c T locs cells slots) (hexec : p.tables.exec = Jvm.exec) {own : String} {index : Nat} {y : MethodName} {bytes : ByteArray} {maxL : Nat} {ret : Option FieldType} {hh : List (Nat × Nat × Nat × Nat)}
    (hown : s.vm.findClass own = some m.cls) (hlink : (Cond.methodLink own index y).before args s = true) (hstat : (Cond.static y).before args s = true) (hinit : (Cond.initialized y.cls).before args s = true)
    (hcode : (Cond.codeWith y bytes maxL ret hh).before args s = true) (hy : y.cls ≠ "java/lang/invoke/MethodHandle" ∧ y.cls ≠ "java/lang/invoke/VarHandle")
    {W9 : Nat} {Pre : Pt → Array Value → Prop} {Post : Pt → Array Value → Option Value → Pt → Prop} {PostX : Pt → Array Value → Addr → Pt → Prop} (hK : vx_Back l R p e below s args y 3 W9 Pre Post PostX)
    {g : JFrame} (hg : g.method = m) (hsize : g.locals.size = c.maxLocals) {argsL rest : List Value} (hlen : ∀ sig, parseMethodDescriptor y.desc = some sig → argsL.length = sig.parameters.length)
    (hstack : g.stack = argsL.reverse ++ rest) (hW : 2 * g.monitorRoom + (rest.map fun v => v.category).sum ≤ W9) (hdg : decode c.code g.pc = .ok (.invokestatic index, 3))
    (hpre : ∀ vm₁, s.WarmedH vm₁ → Pre ⟨T.setVm vm₁, locs, cells, slots⟩ argsL.toArray) :
    (∃ (v : Option Value) (vm₁ : Vm) (B : Pt), s.WarmedH vm₁ ∧ Stand p l e R s m args below meth c B.U B.locs B.cells B.slots ∧ Post ⟨T.setVm vm₁, locs, cells, slots⟩ argsL.toArray v B ∧
      ∀ target, Steps p.tables e below (B.U.setTop { g with pc := g.pc + 3, stack := v.toList ++ rest }) target → Steps p.tables e below (T.setTop g) target) ∨
    (∃ (q : Addr) (vm₁ : Vm) (B : Pt), s.WarmedH vm₁ ∧ Stand p l e R s m args below meth c B.U B.locs B.cells B.slots ∧ PostX ⟨T.setVm vm₁, locs, cells, slots⟩ argsL.toArray q B ∧
      Steps p.tables e below (T.setTop g) ((B.U.setTop { g with stack := rest }).pushFrame (.throwing q))) := by
  obtain ⟨mk, methM, cM, hnamed, hmethM, -, -, -, -, -, -, hsigM⟩ := Cond.codeWith_spec hcode
  have hstatic : methM.isStatic = true := Cond.static_spec hnamed hmethM hstat
  obtain ⟨kP, hkP, -⟩ := className_of_methodNamed hnamed
  have hinitP : kP.init = .initialized := Cond.initialized_spec (findClass_of_methodNamed hnamed) hkP hinit
  obtain ⟨vm₁, X₁, hstep₁⟩ := X.invokestatic hexec hown hlink hnamed hmethM hstatic hkP hinitP hy (g := g) hg (argsL := argsL) (rest := rest) (hlen _ hsigM) hstack hdg
  rcases hK m meth c ⟨T.setVm vm₁, locs, cells, slots⟩ { g with stack := rest } (.invokestatic index) mk argsL.toArray X₁ hg hsize hdg hW (X₁.named hnamed) (hpre vm₁ X₁.warmed) with ⟨v, B, X', hpost, hsteps⟩ | ⟨q, B, X', hpost, hsteps⟩
  · exact Or.inl ⟨v, vm₁, B, X₁.warmed, X', hpost, fun target h => hstep₁ _ fun acts => by rw [doInvoke_state]; exact hsteps.trans h⟩
  · exact Or.inr ⟨q, vm₁, B, X₁.warmed, X', hpost, hstep₁ _ fun acts => by rw [doInvoke_state]; exact hsteps⟩
theorem vx_callVW (X : Stand p l e R s m args below meth c T locs cells slots) (hexec : p.tables.exec = Jvm.exec) {own C : String} {index : Nat} {y : MethodName} {bytes : ByteArray} {maxL : Nat} {ret : Option FieldType} {hh : List (Nat × Nat × Nat × Nat)}
    (hown : s.vm.findClass own = some m.cls) (hlink : (Cond.methodLink own index y).before args s = true) (hinst : (Cond.instanceMethod y).before args s = true) (hsel : (Cond.selects C y y).before args s = true)
    (hcode : (Cond.codeWith y bytes maxL ret hh).before args s = true) (hy : y.cls ≠ "java/lang/invoke/MethodHandle" ∧ y.cls ≠ "java/lang/invoke/VarHandle")
    {W9 : Nat} {Pre : Pt → Array Value → Prop} {Post : Pt → Array Value → Option Value → Pt → Prop} (hK : Back l R p e below s args y 3 W9 Pre Post)
    {b : Addr} {cellB : Cell} (hcell : T.heap[b]? = some cellB) (hobj : cellB.vm.isStatics = false) (hcls : s.vm.findClass C = some cellB.cls)
    {g : JFrame} (hg : g.method = m) (hsize : g.locals.size = c.maxLocals) {argsL rest : List Value} (hlen : ∀ sig, parseMethodDescriptor y.desc = some sig → argsL.length = sig.parameters.length)
    (hstack : g.stack = argsL.reverse ++ .ref b :: rest) (hW : 2 * g.monitorRoom + (rest.map fun v => v.category).sum ≤ W9) (hdg : decode c.code g.pc = .ok (.invokevirtual index, 3))
    (hpre : ∀ vm₁, s.WarmedH vm₁ → Pre ⟨T.setVm vm₁, locs, cells, slots⟩ (Value.ref b :: argsL).toArray) :
    ∃ (v : Option Value) (vm₁ : Vm) (B : Pt), s.WarmedH vm₁ ∧ Stand p l e R s m args below meth c B.U B.locs B.cells B.slots ∧ Post ⟨T.setVm vm₁, locs, cells, slots⟩ (Value.ref b :: argsL).toArray v B ∧
      ∀ target, Steps p.tables e below (B.U.setTop { g with pc := g.pc + 3, stack := v.toList ++ rest }) target → Steps p.tables e below (T.setTop g) target := by
  obtain ⟨mk, methM, hnamed, hmethM, hstM, habM⟩ := Cond.instanceMethod_spec hinst
  obtain ⟨m8, methM', cM, hn8, hmethM', -, -, -, -, -, -, hsigM⟩ := Cond.codeWith_spec hcode
  cases Option.some.inj (hn8.symm.trans hnamed)
  cases hmethM.symm.trans hmethM'
  obtain ⟨c2, r2, m2, q1, q2, q3, q4, kP, hkP, hkPi⟩ := Cond.selects_spec hsel
  cases hcls.symm.trans q1
  cases (State.methodFound?_of_named hnamed hy).symm.trans q2
  cases hnamed.symm.trans q3
  have hselP : selectMethod e.platform s.vm cellB.cls mk = .method mk := by rw [Launch.admits_selectMethod X.admits]; exact q4
  obtain ⟨vm₁, X₁, hstep₁⟩ := X.invokevirtual hexec hown hlink hnamed hmethM hstM hkP hkPi hy (a := b) (cell := cellB) hcell
    (fun z h => by rw [h] at hobj; cases hobj) hselP hmethM habM hkP hkPi (g := g) hg (argsL := argsL) (rest := rest) (hlen _ hsigM) hstack hdg
  obtain ⟨v, B, X', hpost, hsteps⟩ := hK m meth c ⟨T.setVm vm₁, locs, cells, slots⟩ { g with stack := rest } (.invokevirtual index) mk (Value.ref b :: argsL).toArray X₁ hg hsize hdg hW (X₁.named hnamed) (hpre vm₁ X₁.warmed)
  exact ⟨v, vm₁, B, X₁.warmed, X', hpost, fun target h => hstep₁ _ fun acts => by rw [doInvoke_state]; exact hsteps.trans h⟩
abbrev vx_CVW (R : Room) (s : State) (args : Array Value) (own C : String) (index : Nat) (y : MethodName) (bytes : ByteArray) (maxL : Nat) (ret : Option FieldType) (hh : List (Nat × Nat × Nat × Nat)) (ws : List Cond) (rm : Room) (mc ms n : Nat) : Prop :=
  (rm.cells = mc ∧ rm.slots = ms ∧ rm.frames + 1 ≤ R.frames ∧ 8 + (maxL + 11) + rm.locals ≤ R.locals ∧ (∀ w ∈ ws, ∀ (a' : Array Value) (U : State), s.WarmedH U.vm → w.before a' U = true) ∧ Cond.codeWith y bytes maxL ret hh ∈ ws) ∧
  (Cond.codeWith y bytes maxL ret hh).before args s = true ∧ (Cond.initialized y.cls).before args s = true ∧ (y.cls ≠ "java/lang/invoke/MethodHandle" ∧ y.cls ≠ "java/lang/invoke/VarHandle") ∧
  (∀ sig, parseMethodDescriptor y.desc = some sig → n = sig.parameters.length) ∧ (Cond.methodLink own index y).before args s = true ∧ (Cond.instanceMethod y).before args s = true ∧ (Cond.selects C y y).before args s = true
theorem vx_cwVW {own C : String} {index maxL mc ms : Nat} {y : MethodName} {bytes : ByteArray} {ret : Option FieldType} {hh : List (Nat × Nat × Nat × Nat)} {Ts ws ws' : List Cond} {rm : Room} (n : Nat) (ht : ∀ w ∈ Ts, w.before args s = true) (hT : GoodIn Ts (wsV own index C y ws)) (hw : ws = Cond.codeWith y bytes maxL ret hh :: ws') (hrc : rm.cells = mc) (hrs : rm.slots = ms)
    (hd : y.cls = C ∧ y.cls ≠ "java/lang/invoke/MethodHandle" ∧ y.cls ≠ "java/lang/invoke/VarHandle" ∧ (parseMethodDescriptor y.desc).map (fun d => d.parameters.length) = some n) (hR : rm.frames + 1 ≤ R.frames ∧ 8 + (maxL + 11) + rm.locals ≤ R.locals) :
    vx_CVW R s args own C index y bytes maxL ret hh ws rm mc ms n := by
  obtain ⟨hC, hd⟩ := hd
  subst hC
  have ok : ∀ w ∈ wsV own index y.cls y ws, w.before args s = true := fun w h => ht w (hT w h).1
  have hG : GoodIn Ts ws := fun w h => hT w (by unfold wsV; exact List.mem_append_right _ h)
  have hc : Cond.codeWith y bytes maxL ret hh ∈ ws := by rw [hw]; exact List.mem_cons_self
  refine ⟨⟨hrc, hrs, hR.1, hR.2, pay_in ht hG, hc⟩, ht _ (hG _ hc).1, ok _ (by simp [wsV]), ⟨hd.1, hd.2.1⟩, fun sig h => ?_, ok _ (by simp [wsV]), ok _ (by simp [wsV]), ok _ (by simp [wsV])⟩
  have h2 := hd.2.2
  rw [h] at h2
  exact (Option.some.inj h2).symm
theorem vx_runVW {y : MethodName} {bytes cc : ByteArray} {maxL nL mc ms n index : Nat} {ret : Option FieldType} {hh : List (Nat × Nat × Nat × Nat)} {ws : List Cond} {rm : Room} {Pc : Array Value → State → Prop} {Qc : Array Value → State → Outcome → State → Prop} {free : Addr → Prop} {Ts : List Cond} {own C : String} {b : Addr} {As rest : List Value} {g : JFrame}
    (S : CallFix p m c cc nL s args Ts own) (hM : Met l y ws rm Pc Qc mc ms free) (cw : vx_CVW R s args own C index y bytes maxL ret hh ws rm mc ms n) (hp : PreV s H C b Pc As)
    (hg : g.method = m) (hn : As.length = n) (hsize : g.locals.size = nL) (hstack : g.stack = As.reverse ++ .ref b :: rest) (hW : 2 * g.monitorRoom + (rest.map fun v => v.category).sum ≤ 8) (hdg : decode cc g.pc = .ok (.invokevirtual index, 3)) (hf : cells + mc ≤ R.cells ∧ slots + ms ≤ R.slots) :
    va_Run p l e R s m args below meth c H locs cells slots mc ms g rest (Qc (Value.ref b :: As).toArray) free := by
  obtain ⟨⟨hrc, hrs, hfr, hlo, hws, hcw⟩, hcode, hini, hy, hlen, hl, hin, hse⟩ := cw
  have hK : Back l R p e below s args y 3 8 (PreOf R mc ms Pc) (PostOf Qc mc ms free) := va_backW (hh := hh) (bytes := bytes) (maxL := maxL) (ret := ret) hM hp.1 hrc hrs hfr hlo hws hcw (fun a' U hW => word_at hW (Or.inl (by first | rfl | simp [Cond.onTables, Cond.keeps, Cond.steady])) hini)
  obtain ⟨hx, hb, hml, ho, -⟩ := S
  obtain ⟨-, ⟨cellB, hcB, hoB, hclB⟩, hPc⟩ := hp
  intro T hT X
  obtain ⟨v, vm₁, ⟨U', l2, c2, s2⟩, hW₁, X', ⟨g', mk, t, L, e1, e2, hq, h1, hL, h2, h3⟩, st⟩ := vx_callVW X hx (C := C) (hh := hh) (bytes := bytes) (maxL := maxL) (ret := ret) ho hl hin hse hcode hy hK (by rw [hT]; exact hcB) hoB hclB hg (hsize.trans hml.symm) (argsL := As) (rest := rest) (fun sig h => hn.trans (hlen sig h)) hstack hW (by rw [hb]; exact hdg)
    (fun vm₁ hW₁ => ⟨hf.1, hf.2, hPc (T.setVm vm₁) hT hW₁⟩)
  dsimp only [Pt.U, Pt.locs, Pt.cells, Pt.slots] at X' e1 e2 h1 h2 h3 st
  subst h1; subst h2; subst h3
  exact ⟨v, (T.setVm vm₁).calling g' mk (Value.ref b :: As).toArray, t, U', L, hT, X', hL, e1, e2, hq, st⟩
section
variable {y : MethodName} {bytes cc : ByteArray} {maxL nL mc ms n index : Nat} {ret : Option FieldType} {ws : List Cond} {rm : Room} {Pc : Array Value → State → Prop} {Qc : Array Value → State → Outcome → State → Prop} {XC : String → State → State → Prop} {free : Addr → Prop} {Ts : List Cond} {own C : String} {b : Addr} {As rest : List Value} {g : JFrame}
theorem vx_runVX {hh : List (Nat × Nat × Nat × Nat)} (S : CallFix p m c cc nL s args Ts own) (hM : vx_Met l y ws rm Pc Qc XC mc ms free) (cw : vx_CVW R s args own C index y bytes maxL ret hh ws rm mc ms n) (hp : PreV s H C b Pc As)
    (hg : g.method = m) (hn : As.length = n) (hsize : g.locals.size = nL) (hstack : g.stack = As.reverse ++ .ref b :: rest) (hW : 2 * g.monitorRoom + (rest.map fun v => v.category).sum ≤ 8) (hdg : decode cc g.pc = .ok (.invokevirtual index, 3)) (hf : cells + mc ≤ R.cells ∧ slots + ms ≤ R.slots) :
    vx_Run p l e R s m args below meth c H locs cells slots mc ms g rest (Qc (Value.ref b :: As).toArray) XC free := by
  obtain ⟨⟨hrc, hrs, hfr, hlo, hws, hcw⟩, hcode, hini, hy, hlen, hl, hin, hse⟩ := cw
  have hK : vx_Back l R p e below s args y 3 8 (PreOf R mc ms Pc) (PostOf Qc mc ms free) (vx_Post XC mc ms free) := vx_backW (hh := hh) (bytes := bytes) (maxL := maxL) (ret := ret) hM hp.1 hrc hrs hfr hlo hws hcw (fun a' U hW => word_at hW (Or.inl (by first | rfl | simp [Cond.onTables, Cond.keeps, Cond.steady])) hini)
  obtain ⟨hx, hb, hml, ho, -⟩ := S
  obtain ⟨-, ⟨cellB, hcB, hoB, hclB⟩, hPc⟩ := hp
  intro T hT X
  rcases vx_callVX X hx (C := C) (hh := hh) (bytes := bytes) (maxL := maxL) (ret := ret) ho hl hin hse hcode hy hK (by rw [hT]; exact hcB) hoB hclB hg (hsize.trans hml.symm) (argsL := As) (rest := rest) (fun sig h => hn.trans (hlen sig h)) hstack hW (by rw [hb]; exact hdg)
    (fun vm₁ hW₁ => ⟨hf.1, hf.2, hPc (T.setVm vm₁) hT hW₁⟩) with ⟨v, vm₁, ⟨U', l2, c2, s2⟩, hW₁, X', ⟨g', mk, t, L, e1, e2, hq, h1, hL, h2, h3⟩, st⟩ | ⟨q, vm₁, ⟨U', l2, c2, s2⟩, hW₁, X', ⟨g', mk, t, L, E, ce, e1, e2, hq, hce, hcv, hcl, h1, hL, h2, h3⟩, st⟩
  · dsimp only [Pt.U, Pt.locs, Pt.cells, Pt.slots] at X' e1 e2 h1 h2 h3 st
    subst h1; subst h2; subst h3
    exact Or.inl ⟨v, (T.setVm vm₁).calling g' mk (Value.ref b :: As).toArray, t, U', L, hT, X', hL, e1, e2, hq, st⟩
  · dsimp only [Pt.U, Pt.locs, Pt.cells, Pt.slots] at X' e1 e2 h1 h2 h3 st hcl
    subst h1; subst h2; subst h3
    exact Or.inr ⟨q, (T.setVm vm₁).calling g' mk (Value.ref b :: As).toArray, t, U', L, E, ce, hT, X', hL, e1, e2, hq, hce, hcv, vx_cls hW₁ hcl, st⟩
theorem vx_runSX {hh : List (Nat × Nat × Nat × Nat)} (S : CallFix p m c cc nL s args Ts own) (hM : vx_Met l y ws rm Pc Qc XC mc ms free) (cw : vx_CSW R s args own index y bytes maxL ret hh ws rm mc ms n) (hp : PreS s H Pc As)
    (hg : g.method = m) (hn : As.length = n) (hsize : g.locals.size = nL) (hstack : g.stack = As.reverse ++ rest) (hW : 2 * g.monitorRoom + (rest.map fun v => v.category).sum ≤ 8) (hdg : decode cc g.pc = .ok (.invokestatic index, 3)) (hf : cells + mc ≤ R.cells ∧ slots + ms ≤ R.slots) :
    vx_Run p l e R s m args below meth c H locs cells slots mc ms g rest (Qc As.toArray) XC free := by
  obtain ⟨⟨hrc, hrs, hfr, hlo, hws, hcw⟩, hcode, hini, hy, hlen, hl, hstt⟩ := cw
  have hK : vx_Back l R p e below s args y 3 8 (PreOf R mc ms Pc) (PostOf Qc mc ms free) (vx_Post XC mc ms free) := vx_backW (hh := hh) (bytes := bytes) (maxL := maxL) (ret := ret) hM hp.1 hrc hrs hfr hlo hws hcw (fun a' U hW => word_at hW (Or.inl (by first | rfl | simp [Cond.onTables, Cond.keeps, Cond.steady])) hini)
  obtain ⟨hx, hb, hml, ho, -⟩ := S
  intro T hT X
  rcases vx_callSX X hx (hh := hh) (bytes := bytes) (maxL := maxL) (ret := ret) ho hl hstt hini hcode hy hK hg (hsize.trans hml.symm) (argsL := As) (rest := rest) (fun sig h => hn.trans (hlen sig h)) hstack hW (by rw [hb]; exact hdg)
    (fun vm₁ hW₁ => ⟨hf.1, hf.2, hp.2 (T.setVm vm₁) hT hW₁⟩) with ⟨v, vm₁, ⟨U', l2, c2, s2⟩, hW₁, X', ⟨g', mk, t, L, e1, e2, hq, h1, hL, h2, h3⟩, st⟩ | ⟨q, vm₁, ⟨U', l2, c2, s2⟩, hW₁, X', ⟨g', mk, t, L, E, ce, e1, e2, hq, hce, hcv, hcl, h1, hL, h2, h3⟩, st⟩
  · dsimp only [Pt.U, Pt.locs, Pt.cells, Pt.slots] at X' e1 e2 h1 h2 h3 st
    subst h1; subst h2; subst h3
    exact Or.inl ⟨v, (T.setVm vm₁).calling g' mk As.toArray, t, U', L, hT, X', hL, e1, e2, hq, st⟩
  · dsimp only [Pt.U, Pt.locs, Pt.cells, Pt.slots] at X' e1 e2 h1 h2 h3 st hcl
    subst h1; subst h2; subst h3
    exact Or.inr ⟨q, (T.setVm vm₁).calling g' mk As.toArray, t, U', L, E, ce, hT, X', hL, e1, e2, hq, hce, hcv, vx_cls hW₁ hcl, st⟩
end
end VXH
theorem vx_ofWH {l : Launch} {y : MethodName} {ws ws' : List Cond} {rm : Room} {Pc : Array Value → State → Prop} {Qc : Array Value → State → Outcome → State → Prop} {XC : String → State → State → Prop} {mc ms : Nat} {free : Addr → Prop} {cc : ByteArray} {maxL : Nat} {ret : Option FieldType} {hh : List (Nat × Nat × Nat × Nat)}
    (hy : plainName y.cls = true) (hw : ws = Cond.codeWith y cc maxL ret hh :: ws')
    (body : ∀ p e s m args below meth c s₁, BodyLoose p l y (headSpec ws rm) cc maxL ret e s m args below meth c s₁ → c.maxLocals = maxL → Pc args s →
      W p l e (headSpec ws rm).room s m args below meth c s.heap [] 0 0 (vx_MQ below Qc XC args s mc ms free) (entryFrame m args maxL)) : vx_Met l y ws rm Pc Qc XC mc ms free := by
  refine MetFree.of_bodyS (code := cc) (maxLocals := maxL) (ret := ret) hy ?_ ?_
  · intro args s m h hn
    obtain ⟨m9, meth, c, hn9, h1, h2, h3, h4, -, h5, h6, -⟩ := Cond.codeWith_spec (atoms_spec (ws := ws) h _ (by rw [hw]; exact List.mem_cons_self))
    cases hn.symm.trans hn9
    exact ⟨meth, c, h1, h2, h3, h4, h5, h6⟩
  · intro p e s m args below meth c s₁ B hml hP _
    have hh0 : s₁.heap = s.heap := by rw [B.state]; rfl
    obtain ⟨t, a1, o, b1, b2, b3⟩ := body p e s m args below meth c s₁ B hml hP s₁ hh0 (Stand.of_body B)
    exact ⟨t, o, a1, b1, b2, b3⟩
/-! ===== END ===== -/
end
section
/-! the program as data, by a program of mine out of the printed texts: classes, objects, methods, blocks -/
def z_T0 : u_T := fun k => match k with
  | 0 => ("SlipRoom$Law", "values", "[I", true)
  | 1 => ("SlipRoom$Law", "stack", "[I", true)
  | _ => ("SlipRoom$Law", "height", "I", false)
def z_T1 : u_T := fun k => match k with
  | 0 => ("SlipRoom$Ledger", "loans", "I", false)
  | 1 => ("SlipRoom$Ledger", "loanRows", "[I", true)
  | 2 => ("SlipRoom$Ledger", "latestBegin", "I", false)
  | 3 => ("SlipRoom$Ledger", "bookUntil", "[I", true)
  | 4 => ("SlipRoom$Ledger", "readerUntil", "[I", true)
  | 5 => ("SlipRoom$Ledger", "slip", "[I", true)
  | 6 => ("SlipRoom$Ledger", "laid", "[I", true)
  | 7 => ("SlipRoom$Ledger", "readPages", "[I", true)
  | 8 => ("SlipRoom$Ledger", "allReadAt", "[I", true)
  | 9 => ("SlipRoom$Ledger", "readBits", "[J", true)
  | 10 => ("SlipRoom$Ledger", "looks", "I", false)
  | 11 => ("SlipRoom$Ledger", "lookRows", "[I", true)
  | 12 => ("SlipRoom$Ledger", "wishes", "I", false)
  | 13 => ("SlipRoom$Ledger", "wishHours", "[I", true)
  | 14 => ("SlipRoom$Ledger", "wishReady", "[I", true)
  | 15 => ("SlipRoom$Ledger", "tales", "[I", true)
  | _ => ("SlipRoom$Ledger", "refusals", "[I", true)
def z_T2 : u_T := fun k => match k with
  | 0 => ("SlipRoom$Parser", "tokens", "LSlipRoom$Tokens;", true)
  | 1 => ("SlipRoom$Parser", "plan", "LSlipRoom$Plan;", false)
  | 2 => ("SlipRoom$Parser", "fault", "I", false)
  | _ => ("SlipRoom$Parser", "place", "I", false)
def z_T3 : u_T := fun k => match k with
  | 0 => ("SlipRoom$Plan", "books", "I", false)
  | 1 => ("SlipRoom$Plan", "pages", "[I", true)
  | 2 => ("SlipRoom$Plan", "partPages", "[I", true)
  | 3 => ("SlipRoom$Plan", "readers", "I", false)
  | 4 => ("SlipRoom$Plan", "pace", "[I", true)
  | 5 => ("SlipRoom$Plan", "colour", "[I", true)
  | 6 => ("SlipRoom$Plan", "back", "[I", true)
  | 7 => ("SlipRoom$Plan", "ends", "[I", true)
  | 8 => ("SlipRoom$Plan", "lawFrom", "[I", true)
  | 9 => ("SlipRoom$Plan", "lawTo", "[I", true)
  | 10 => ("SlipRoom$Plan", "code", "[I", true)
  | _ => ("SlipRoom$Plan", "codeLength", "I", false)
def z_T4 : u_T := fun k => match k with
  | 0 => ("SlipRoom$Settling", "fewestLooks", "[I", true)
  | _ => ("SlipRoom$Settling", "firstBook", "[I", true)
def z_T5 : u_T := fun k => match k with
  | 0 => ("SlipRoom$Sharing", "plan", "LSlipRoom$Plan;", false)
  | 1 => ("SlipRoom$Sharing", "looks", "I", false)
  | 2 => ("SlipRoom$Sharing", "number", "[I", true)
  | 3 => ("SlipRoom$Sharing", "hour", "[I", true)
  | 4 => ("SlipRoom$Sharing", "colour", "[I", true)
  | 5 => ("SlipRoom$Sharing", "page", "[I", true)
  | 6 => ("SlipRoom$Sharing", "lentHours", "[I", true)
  | 7 => ("SlipRoom$Sharing", "begunLoans", "[I", true)
  | 8 => ("SlipRoom$Sharing", "fits", "[Z", true)
  | _ => ("SlipRoom$Sharing", "splits", "[I", true)
def z_T6 : u_T := fun k => match k with
  | 0 => ("SlipRoom$Tokens", "text", "[B", true)
  | 1 => ("SlipRoom$Tokens", "length", "I", false)
  | 2 => ("SlipRoom$Tokens", "behind", "I", false)
  | 3 => ("SlipRoom$Tokens", "kind", "I", false)
  | 4 => ("SlipRoom$Tokens", "start", "I", false)
  | 5 => ("SlipRoom$Tokens", "number", "I", false)
  | _ => ("SlipRoom$Tokens", "word", "LSlipRoom$Word;", false)
def z_T7 : u_T := fun k => match k with
  | 0 => ("SlipRoom$Turns", "order", "[I", true)
  | 1 => ("SlipRoom$Turns", "length", "I", false)
  | 2 => ("SlipRoom$Turns", "row", "[I", true)
  | _ => ("SlipRoom$Turns", "least", "I", false)
def z_T8 : u_T := fun k => match k with
  | 0 => ("SlipRoom", "tape", "[B", true)
  | 1 => ("SlipRoom", "tapeLength", "I", false)
  | 2 => ("SlipRoom", "faultPlace", "I", false)
  | 3 => ("SlipRoom", "plan", "LSlipRoom$Plan;", false)
  | 4 => ("SlipRoom", "draft", "LSlipRoom$Plan;", false)
  | 5 => ("SlipRoom", "parser", "LSlipRoom$Parser;", true)
  | 6 => ("SlipRoom", "now", "LSlipRoom$Ledger;", true)
  | 7 => ("SlipRoom", "kept", "LSlipRoom$Ledger;", true)
  | 8 => ("SlipRoom", "imageKept", "Z", false)
  | 9 => ("SlipRoom", "law", "LSlipRoom$Law;", true)
  | 10 => ("SlipRoom", "sharing", "LSlipRoom$Sharing;", true)
  | 11 => ("SlipRoom", "turns", "LSlipRoom$Turns;", true)
  | _ => ("SlipRoom", "settling", "LSlipRoom$Settling;", true)
def z_T9 : u_T := fun k => match k with
  | 0 => ("SlipRoomModel", "values", "[Ljava/lang/String;", true)
  | 1 => ("SlipRoomModel", "code", "I", false)
  | 2 => ("SlipRoomModel", "books", "I", false)
  | 3 => ("SlipRoomModel", "readers", "I", false)
  | 4 => ("SlipRoomModel", "readBooks", "I", false)
  | 5 => ("SlipRoomModel", "readReaders", "I", false)
  | 6 => ("SlipRoomModel", "pages", "[I", true)
  | 7 => ("SlipRoomModel", "parts", "[I", true)
  | 8 => ("SlipRoomModel", "pace", "[I", true)
  | 9 => ("SlipRoomModel", "colour", "[I", true)
  | 10 => ("SlipRoomModel", "back", "[I", true)
  | 11 => ("SlipRoomModel", "begin", "[I", true)
  | 12 => ("SlipRoomModel", "finish", "[I", true)
  | 13 => ("SlipRoomModel", "signs", "[I", true)
  | 14 => ("SlipRoomModel", "status", "[I", true)
  | 15 => ("SlipRoomModel", "isEnds", "[Z", true)
  | 16 => ("SlipRoomModel", "tape", "[I", true)
  | 17 => ("SlipRoomModel", "taped", "I", false)
  | 18 => ("SlipRoomModel", "at", "I", false)
  | 19 => ("SlipRoomModel", "size", "I", false)
  | 20 => ("SlipRoomModel", "token", "I", false)
  | 21 => ("SlipRoomModel", "number", "I", false)
  | 22 => ("SlipRoomModel", "begins", "I", false)
  | 23 => ("SlipRoomModel", "ends", "I", false)
  | 24 => ("SlipRoomModel", "bad", "I", false)
  | 25 => ("SlipRoomModel", "badPlace", "I", false)
  | 26 => ("SlipRoomModel", "faultPlace", "I", false)
  | 27 => ("SlipRoomModel", "laid", "I", false)
  | 28 => ("SlipRoomModel", "loans", "I", false)
  | 29 => ("SlipRoomModel", "latest", "I", false)
  | 30 => ("SlipRoomModel", "slips", "[I", true)
  | 31 => ("SlipRoomModel", "laidAt", "[I", true)
  | 32 => ("SlipRoomModel", "throughAt", "[I", true)
  | 33 => ("SlipRoomModel", "bookEnd", "[I", true)
  | 34 => ("SlipRoomModel", "readerEnd", "[I", true)
  | 35 => ("SlipRoomModel", "isRead", "[Z", true)
  | 36 => ("SlipRoomModel", "loanReader", "[I", true)
  | 37 => ("SlipRoomModel", "loanBook", "[I", true)
  | 38 => ("SlipRoomModel", "loanFrom", "[I", true)
  | 39 => ("SlipRoomModel", "loanHours", "[I", true)
  | 40 => ("SlipRoomModel", "loanBegan", "[I", true)
  | 41 => ("SlipRoomModel", "loanRead", "[I", true)
  | 42 => ("SlipRoomModel", "asked", "[I", true)
  | 43 => ("SlipRoomModel", "stack", "[I", true)
  | 44 => ("SlipRoomModel", "looks", "I", false)
  | 45 => ("SlipRoomModel", "lookBook", "[I", true)
  | 46 => ("SlipRoomModel", "lookHour", "[I", true)
  | 47 => ("SlipRoomModel", "lookColour", "[I", true)
  | 48 => ("SlipRoomModel", "lookPage", "[I", true)
  | 49 => ("SlipRoomModel", "row", "[I", true)
  | 50 => ("SlipRoomModel", "who", "[I", true)
  | 51 => ("SlipRoomModel", "may", "[I", true)
  | 52 => ("SlipRoomModel", "sure", "[I", true)
  | 53 => ("SlipRoomModel", "lowest", "[I", true)
  | 54 => ("SlipRoomModel", "highest", "[I", true)
  | 55 => ("SlipRoomModel", "rowMany", "I", false)
  | 56 => ("SlipRoomModel", "wayMany", "I", false)
  | 57 => ("SlipRoomModel", "wishes", "I", false)
  | 58 => ("SlipRoomModel", "wishReader", "[I", true)
  | 59 => ("SlipRoomModel", "wishHours", "[I", true)
  | 60 => ("SlipRoomModel", "wishReady", "[I", true)
  | 61 => ("SlipRoomModel", "order", "[I", true)
  | 62 => ("SlipRoomModel", "orderTry", "[I", true)
  | 63 => ("SlipRoomModel", "orderMany", "I", false)
  | 64 => ("SlipRoomModel", "orderLeast", "I", false)
  | 65 => ("SlipRoomModel", "tales", "[I", true)
  | 66 => ("SlipRoomModel", "settles", "[I", true)
  | 67 => ("SlipRoomModel", "hasImage", "Z", false)
  | 68 => ("SlipRoomModel", "kept", "[I", true)
  | 69 => ("SlipRoomModel", "readThen", "[Z", true)
  | _ => ("SlipRoomModel", "keptAt", "I", false)
abbrev z_cls : List vw_C := [("SlipRoom$Law", z_T0, 3), ("SlipRoom$Ledger", z_T1, 17), ("SlipRoom$Parser", z_T2, 4), ("SlipRoom$Plan", z_T3, 12), ("SlipRoom$Settling", z_T4, 2), ("SlipRoom$Sharing", z_T5, 10), ("SlipRoom$Tokens", z_T6, 7), ("SlipRoom$Turns", z_T7, 4), ("SlipRoom", z_T8, 13), ("SlipRoomModel", z_T9, 71)]
abbrev z_own : List String := ["SlipRoom$Law", "SlipRoom$Ledger", "SlipRoom$Parser", "SlipRoom$Plan", "SlipRoom$Settling", "SlipRoom$Sharing", "SlipRoom$Tokens", "SlipRoom$Turns", "SlipRoom", "SlipRoomModel", "SlipRoom$Word", "SlipRoomLaw", "java/lang/Integer", "java/lang/Long", "java/lang/Math", "java/util/Arrays"]
def z_n : Nat := 117
/-- what kind of row an object is: 1 int, 2 byte, 3 boolean, 4 long, 5 text; 0 none -/
def z_at (a : Nat) : Nat := (cond (Nat.blt a 59) (cond (Nat.blt a 29) (cond (Nat.blt a 14) (cond (Nat.blt a 7) (cond (Nat.blt a 3) (cond (Nat.blt a 1) 0 (cond (Nat.blt a 2) 2 0)) 1) (cond (Nat.blt a 10) 1 (cond (Nat.blt a 12) 1 (cond (Nat.blt a 13) 0 1)))) (cond (Nat.blt a 21) 1 (cond (Nat.blt a 25) (cond (Nat.blt a 23) (cond (Nat.blt a 22) 1 0) 0) 1))) (cond (Nat.blt a 44) (cond (Nat.blt a 36) (cond (Nat.blt a 32) 1 (cond (Nat.blt a 34) (cond (Nat.blt a 33) 4 1) 1)) (cond (Nat.blt a 40) (cond (Nat.blt a 38) 1 (cond (Nat.blt a 39) 0 1)) 1)) (cond (Nat.blt a 51) (cond (Nat.blt a 47) (cond (Nat.blt a 45) 1 (cond (Nat.blt a 46) 1 4)) 1) (cond (Nat.blt a 55) (cond (Nat.blt a 53) (cond (Nat.blt a 52) 1 0) 1) (cond (Nat.blt a 57) (cond (Nat.blt a 56) 0 1) 1))))) (cond (Nat.blt a 88) (cond (Nat.blt a 73) (cond (Nat.blt a 66) (cond (Nat.blt a 62) 1 (cond (Nat.blt a 64) (cond (Nat.blt a 63) 3 1) (cond (Nat.blt a 65) 0 1))) (cond (Nat.blt a 69) (cond (Nat.blt a 67) 1 (cond (Nat.blt a 68) 0 1)) (cond (Nat.blt a 71) (cond (Nat.blt a 70) 1 0) (cond (Nat.blt a 72) 5 1)))) (cond (Nat.blt a 80) 1 (cond (Nat.blt a 84) (cond (Nat.blt a 82) (cond (Nat.blt a 81) 1 3) 1) 1))) (cond (Nat.blt a 103) (cond (Nat.blt a 95) (cond (Nat.blt a 91) (cond (Nat.blt a 89) 3 1) 1) 1) (cond (Nat.blt a 110) 1 (cond (Nat.blt a 114) 1 (cond (Nat.blt a 116) (cond (Nat.blt a 115) 1 3) (cond (Nat.blt a 117) 4 0)))))))
def z_ln (a : Nat) : Nat := (cond (Nat.blt a 59) (cond (Nat.blt a 29) (cond (Nat.blt a 14) (cond (Nat.blt a 7) (cond (Nat.blt a 3) (cond (Nat.blt a 1) 0 (cond (Nat.blt a 2) 700 0)) (cond (Nat.blt a 5) 10 8)) (cond (Nat.blt a 10) 8 (cond (Nat.blt a 12) (cond (Nat.blt a 11) 8 700) (cond (Nat.blt a 13) 0 10)))) (cond (Nat.blt a 21) (cond (Nat.blt a 17) (cond (Nat.blt a 15) 10 8) 8) (cond (Nat.blt a 25) (cond (Nat.blt a 23) (cond (Nat.blt a 22) 700 0) 0) (cond (Nat.blt a 27) (cond (Nat.blt a 26) 1200 10) (cond (Nat.blt a 28) 8 80))))) (cond (Nat.blt a 44) (cond (Nat.blt a 36) (cond (Nat.blt a 32) 80 (cond (Nat.blt a 34) (cond (Nat.blt a 33) 560 96) 7)) (cond (Nat.blt a 40) (cond (Nat.blt a 38) (cond (Nat.blt a 37) 60 5) (cond (Nat.blt a 39) 0 1200)) (cond (Nat.blt a 42) (cond (Nat.blt a 41) 10 8) 80))) (cond (Nat.blt a 51) (cond (Nat.blt a 47) (cond (Nat.blt a 45) 80 (cond (Nat.blt a 46) 80 560)) (cond (Nat.blt a 49) (cond (Nat.blt a 48) 96 7) (cond (Nat.blt a 50) 7 60))) (cond (Nat.blt a 55) (cond (Nat.blt a 53) (cond (Nat.blt a 52) 5 0) (cond (Nat.blt a 54) 7 64)) (cond (Nat.blt a 57) (cond (Nat.blt a 56) 0 6) 6))))) (cond (Nat.blt a 88) (cond (Nat.blt a 73) (cond (Nat.blt a 66) (cond (Nat.blt a 62) (cond (Nat.blt a 60) 6 48) (cond (Nat.blt a 64) (cond (Nat.blt a 63) 512 64) (cond (Nat.blt a 65) 0 7))) (cond (Nat.blt a 69) (cond (Nat.blt a 67) 7 (cond (Nat.blt a 68) 0 64)) (cond (Nat.blt a 71) (cond (Nat.blt a 70) 64 0) (cond (Nat.blt a 72) 7 20)))) (cond (Nat.blt a 80) (cond (Nat.blt a 76) (cond (Nat.blt a 74) 20 16) (cond (Nat.blt a 78) 16 (cond (Nat.blt a 79) 16 1400))) (cond (Nat.blt a 84) (cond (Nat.blt a 82) (cond (Nat.blt a 81) 5 16) (cond (Nat.blt a 83) 700 80)) (cond (Nat.blt a 86) 80 (cond (Nat.blt a 87) 10 8))))) (cond (Nat.blt a 103) (cond (Nat.blt a 95) (cond (Nat.blt a 91) (cond (Nat.blt a 89) 32080 200) 200) (cond (Nat.blt a 99) (cond (Nat.blt a 97) (cond (Nat.blt a 96) 7 60) 24) (cond (Nat.blt a 101) 24 6))) (cond (Nat.blt a 110) (cond (Nat.blt a 106) (cond (Nat.blt a 104) 24 (cond (Nat.blt a 105) 24 8)) (cond (Nat.blt a 108) (cond (Nat.blt a 107) 8 7) 7)) (cond (Nat.blt a 114) (cond (Nat.blt a 112) 7 (cond (Nat.blt a 113) 60 64)) (cond (Nat.blt a 116) (cond (Nat.blt a 115) 1644 32080) (cond (Nat.blt a 117) 1 0)))))))
/-- the class of an object -/
def z_oc (a : Nat) : Nat := (cond (Nat.blt a 59) (cond (Nat.blt a 29) (cond (Nat.blt a 14) (cond (Nat.blt a 7) (cond (Nat.blt a 3) (cond (Nat.blt a 1) 8 (cond (Nat.blt a 2) 99 3)) 99) (cond (Nat.blt a 10) 99 (cond (Nat.blt a 12) 99 (cond (Nat.blt a 13) 3 99)))) (cond (Nat.blt a 21) 99 (cond (Nat.blt a 25) (cond (Nat.blt a 23) (cond (Nat.blt a 22) 99 2) (cond (Nat.blt a 24) 6 1)) 99))) (cond (Nat.blt a 44) (cond (Nat.blt a 36) 99 (cond (Nat.blt a 40) (cond (Nat.blt a 38) 99 (cond (Nat.blt a 39) 1 99)) 99)) (cond (Nat.blt a 51) 99 (cond (Nat.blt a 55) (cond (Nat.blt a 53) (cond (Nat.blt a 52) 99 0) 99) (cond (Nat.blt a 57) (cond (Nat.blt a 56) 5 99) 99))))) (cond (Nat.blt a 88) (cond (Nat.blt a 73) (cond (Nat.blt a 66) (cond (Nat.blt a 62) 99 (cond (Nat.blt a 64) 99 (cond (Nat.blt a 65) 7 99))) (cond (Nat.blt a 69) (cond (Nat.blt a 67) 99 (cond (Nat.blt a 68) 4 99)) (cond (Nat.blt a 71) (cond (Nat.blt a 70) 99 9) 99))) 99) 99))
def z_nf (c : Nat) : Nat := ([3, 17, 4, 12, 2, 10, 7, 4, 13, 71] : List Nat).getD c 0
/-- is it an object of the kind -/
def z_isO (c a : Nat) : Bool := match c with
  | 0 => Nat.beq a 52
  | 1 => Nat.beq a 24 || Nat.beq a 38
  | 2 => Nat.beq a 22
  | 3 => Nat.beq a 2 || Nat.beq a 12
  | 4 => Nat.beq a 67
  | 5 => Nat.beq a 55
  | 6 => Nat.beq a 23
  | 7 => Nat.beq a 64
  | 8 => Nat.beq a 0
  | 9 => Nat.beq a 70
  | 10 => Nat.ble 1000 a && Nat.blt a 1017
  | _ => false
/-- a field: 0 a number (1: of two), 1 a reference that changes, 2 a reference to a place behind, 3 a fixed one -/
def z_ftg (c k : Nat) : Nat × Nat := match c with
  | 0 => ([(2, 1), (2, 2), (0, 0)] : List (Nat × Nat)).getD k (9, 0)
  | 1 => ([(0, 0), (2, 1), (0, 0), (2, 2), (2, 3), (2, 4), (2, 5), (2, 6), (2, 7), (2, 8), (0, 0), (2, 9), (0, 0), (2, 10), (2, 11), (2, 12), (2, 13)] : List (Nat × Nat)).getD k (9, 0)
  | 2 => ([(3, 23), (1, 0), (0, 0), (0, 0)] : List (Nat × Nat)).getD k (9, 0)
  | 3 => ([(0, 0), (2, 1), (2, 2), (0, 0), (2, 3), (2, 4), (2, 5), (2, 6), (2, 7), (2, 8), (2, 9), (0, 0)] : List (Nat × Nat)).getD k (9, 0)
  | 4 => ([(2, 1), (2, 2)] : List (Nat × Nat)).getD k (9, 0)
  | 5 => ([(1, 0), (0, 0), (2, 1), (2, 2), (2, 3), (2, 4), (2, 5), (2, 6), (2, 7), (2, 8)] : List (Nat × Nat)).getD k (9, 0)
  | 6 => ([(3, 1), (0, 0), (0, 0), (0, 0), (0, 0), (0, 0), (1, 0)] : List (Nat × Nat)).getD k (9, 0)
  | 7 => ([(2, 1), (0, 0), (2, 2), (0, 0)] : List (Nat × Nat)).getD k (9, 0)
  | 8 => ([(3, 1), (0, 0), (0, 0), (1, 0), (1, 0), (3, 22), (3, 24), (3, 38), (0, 1), (3, 52), (3, 55), (3, 64), (3, 67)] : List (Nat × Nat)).getD k (9, 0)
  | 9 => ([(2, 1), (0, 0), (0, 0), (0, 0), (0, 0), (0, 0), (2, 2), (2, 3), (2, 4), (2, 5), (2, 6), (2, 7), (2, 8), (2, 9), (2, 10), (2, 11), (2, 12), (0, 0), (0, 0), (0, 0), (0, 0), (0, 0), (0, 0), (0, 0), (0, 0), (0, 0), (0, 0), (0, 0), (0, 0), (0, 0), (2, 13), (2, 14), (2, 15), (2, 16), (2, 17), (2, 18), (2, 19), (2, 20), (2, 21), (2, 22), (2, 23), (2, 24), (2, 25), (2, 26), (0, 0), (2, 27), (2, 28), (2, 29), (2, 30), (2, 31), (2, 32), (2, 33), (2, 34), (2, 35), (2, 36), (0, 0), (0, 0), (0, 0), (2, 37), (2, 38), (2, 39), (2, 40), (2, 41), (0, 0), (0, 0), (2, 42), (2, 43), (0, 1), (2, 44), (2, 45), (0, 0)] : List (Nat × Nat)).getD k (9, 0)
  | _ => (9, 0)
abbrev z_I : Type := Instr × Nat × List Nat
abbrev z_B : Type := List (Nat × List Bool × List z_I)
section
/-- SlipRoom$Law.holds -/
noncomputable def z_b0 : z_B := [
  (0, [true, true, true, true, false], [(.aload_n 0, 1, []), (.iconst 0, 1, []), (.putfield 18, 3, [0, 2, 0, 0, 0, 329]), (.iconst 0, 1, []), (.iload_n 2, 1, []), (.invokestatic 22, 3, [187, 2, 0, 0, 1, 879]), (.istore 4, 2, [])]),
  (12, [true, true, false, true, true], [(.iload 4, 2, []), (.iload_n 3, 1, []), (.if_icmp .ge 24, 3, []), (.iload 4, 2, []), (.aload_n 1, 1, []), (.arraylength, 1, []), (.if_icmp .ge 17, 3, []), (.aload_n 0, 1, []), (.aload_n 1, 1, []), (.iload 4, 2, []), (.iaload, 1, []), (.invokevirtual 28, 3, [1, 2, 2, 0, 0, 880]), (.iinc 4 1, 3, []), (.goto (-24), 3, [])]),
  (39, [true, false, false, false, false], [(.aload_n 0, 1, []), (.invokevirtual 32, 3, [4, 1, 2, 0, 1, 884]), (.ifCond .eq 7, 3, []), (.iconst 1, 1, []), (.goto 4, 3, [])]),
  (50, [false, false, false, false, false], [(.iconst 0, 1, [])]),
  (51, [false, false, false, false, false], [(.ireturn, 1, [])])]
/-- SlipRoom$Law.obey -/
noncomputable def z_b1 : z_B := [
  (0, [true, true, false, false], [(.iload_n 1, 1, []), (.bipush (-33), 2, []), (.if_icmp .ne 22, 3, []), (.aload_n 0, 1, []), (.aload_n 0, 1, []), (.invokevirtual 32, 3, [4, 1, 2, 0, 1, 884]), (.ifCond .ne 7, 3, []), (.iconst 1, 1, []), (.goto 4, 3, [])]),
  (18, [false, false, false, false], [(.iconst 0, 1, [])]),
  (19, [false, false, false, false], [(.invokevirtual 36, 3, [3, 2, 2, 0, 0, 888]), (.goto 70, 3, [])]),
  (25, [true, true, false, false], [(.iload_n 1, 1, []), (.ifCond .ge 27, 3, []), (.aload_n 0, 1, []), (.invokevirtual 32, 3, [4, 1, 2, 0, 1, 884]), (.istore_n 2, 1, []), (.aload_n 0, 1, []), (.invokevirtual 32, 3, [4, 1, 2, 0, 1, 884]), (.istore_n 3, 1, []), (.aload_n 0, 1, []), (.iload_n 1, 1, []), (.ineg, 1, []), (.iload_n 3, 1, []), (.iload_n 2, 1, []), (.invokestatic 39, 3, [2, 3, 0, 0, 1, 892]), (.invokevirtual 36, 3, [3, 2, 2, 0, 0, 888]), (.goto 42, 3, [])]),
  (53, [true, true, false, false], [(.iload_n 1, 1, []), (.sipush 10000, 3, []), (.if_icmp .ge 11, 3, []), (.aload_n 0, 1, []), (.iload_n 1, 1, []), (.invokevirtual 36, 3, [3, 2, 2, 0, 0, 888]), (.goto 27, 3, [])]),
  (68, [true, true, false, false], [(.iload_n 1, 1, []), (.sipush 10000, 3, []), (.isub, 1, []), (.bipush 7, 2, []), (.if_icmp .ge 17, 3, []), (.aload_n 0, 1, []), (.aload_n 0, 1, []), (.getfield 9, 3, [0, 0, 2, 1, 0, 326]), (.iload_n 1, 1, []), (.sipush 10000, 3, []), (.isub, 1, []), (.iaload, 1, []), (.invokevirtual 36, 3, [3, 2, 2, 0, 0, 888])]),
  (92, [false, false, false, false], [(.return_, 1, [])])]
/-- SlipRoom$Law.apply -/
noncomputable def z_b2 : z_B := [
  (0, [true, true, true], [(.iload_n 0, 1, []), (.lookupswitch 129 #[(38, 81), (42, 125), (43, 117), (45, 121), (60, 95), (61, 106), (124, 67)], 67, [])]),
  (68, [false, true, true], [(.iload_n 1, 1, []), (.ifCond .ne 7, 3, []), (.iload_n 2, 1, []), (.ifCond .eq 7, 3, [])]),
  (76, [false, false, false], [(.iconst 1, 1, []), (.goto 4, 3, [])]),
  (80, [false, false, false], [(.iconst 0, 1, [])]),
  (81, [false, false, false], [(.ireturn, 1, [])]),
  (82, [false, true, true], [(.iload_n 1, 1, []), (.ifCond .eq 11, 3, []), (.iload_n 2, 1, []), (.ifCond .eq 7, 3, []), (.iconst 1, 1, []), (.goto 4, 3, [])]),
  (94, [false, false, false], [(.iconst 0, 1, [])]),
  (95, [false, false, false], [(.ireturn, 1, [])]),
  (96, [false, true, true], [(.iload_n 1, 1, []), (.iload_n 2, 1, []), (.if_icmp .ge 7, 3, []), (.iconst 1, 1, []), (.goto 4, 3, [])]),
  (105, [false, false, false], [(.iconst 0, 1, [])]),
  (106, [false, false, false], [(.ireturn, 1, [])]),
  (107, [false, true, true], [(.iload_n 1, 1, []), (.iload_n 2, 1, []), (.if_icmp .ne 7, 3, []), (.iconst 1, 1, []), (.goto 4, 3, [])]),
  (116, [false, false, false], [(.iconst 0, 1, [])]),
  (117, [false, false, false], [(.ireturn, 1, [])]),
  (118, [false, true, true], [(.iload_n 1, 1, []), (.iload_n 2, 1, []), (.iadd, 1, []), (.ireturn, 1, [])]),
  (122, [false, true, true], [(.iload_n 1, 1, []), (.iload_n 2, 1, []), (.isub, 1, []), (.ireturn, 1, [])]),
  (126, [false, true, true], [(.iload_n 1, 1, []), (.iload_n 2, 1, []), (.imul, 1, []), (.ireturn, 1, [])]),
  (130, [false, true, true], [(.iload_n 2, 1, []), (.ifCond .ne 7, 3, []), (.iconst 0, 1, []), (.goto 6, 3, [])]),
  (138, [false, true, true], [(.iload_n 1, 1, []), (.iload_n 2, 1, []), (.idiv, 1, [])]),
  (141, [false, false, false], [(.ireturn, 1, [])])]
/-- SlipRoom$Law.push -/
noncomputable def z_b3 : z_B := [
  (0, [true, true], [(.aload_n 0, 1, []), (.getfield 18, 3, [0, 2, 0, 0, 0, 329]), (.aload_n 0, 1, []), (.getfield 15, 3, [0, 1, 2, 2, 0, 328]), (.arraylength, 1, []), (.if_icmp .ge 23, 3, []), (.aload_n 0, 1, []), (.getfield 15, 3, [0, 1, 2, 2, 0, 328]), (.aload_n 0, 1, []), (.getfield 18, 3, [0, 2, 0, 0, 0, 329]), (.iload_n 1, 1, []), (.iastore, 1, []), (.aload_n 0, 1, []), (.dup, 1, []), (.getfield 18, 3, [0, 2, 0, 0, 0, 329]), (.iconst 1, 1, []), (.iadd, 1, []), (.putfield 18, 3, [0, 2, 0, 0, 0, 329])]),
  (32, [false, false], [(.return_, 1, [])])]
/-- SlipRoom$Law.pop -/
noncomputable def z_b4 : z_B := [
  (0, [true], [(.aload_n 0, 1, []), (.getfield 18, 3, [0, 2, 0, 0, 0, 329]), (.iconst 1, 1, []), (.if_icmp .ge 5, 3, []), (.iconst 0, 1, []), (.ireturn, 1, [])]),
  (10, [true], [(.aload_n 0, 1, []), (.dup, 1, []), (.getfield 18, 3, [0, 2, 0, 0, 0, 329]), (.iconst 1, 1, []), (.isub, 1, []), (.putfield 18, 3, [0, 2, 0, 0, 0, 329]), (.aload_n 0, 1, []), (.getfield 15, 3, [0, 1, 2, 2, 0, 328]), (.aload_n 0, 1, []), (.getfield 18, 3, [0, 2, 0, 0, 0, 329]), (.iaload, 1, []), (.ireturn, 1, [])])]
/-- SlipRoom$Ledger.clear -/
noncomputable def z_b5 : z_B := [
  (0, [true], [(.aload_n 0, 1, []), (.iconst 0, 1, []), (.putfield 9, 3, [1, 0, 0, 0, 0, 248]), (.aload_n 0, 1, []), (.iconst 0, 1, []), (.putfield 19, 3, [1, 2, 0, 0, 0, 254]), (.aload_n 0, 1, []), (.iconst 0, 1, []), (.putfield 44, 3, [1, 10, 0, 0, 0, 269]), (.aload_n 0, 1, []), (.iconst 0, 1, []), (.putfield 50, 3, [1, 12, 0, 0, 0, 273]), (.aload_n 0, 1, []), (.getfield 22, 3, [1, 3, 2, 2, 0, 256]), (.iconst 0, 1, []), (.invokestatic 65, 3, [190, 2, 0, 0, 0, 752]), (.aload_n 0, 1, []), (.getfield 25, 3, [1, 4, 2, 3, 0, 258]), (.iconst 0, 1, []), (.invokestatic 65, 3, [190, 2, 0, 0, 0, 752]), (.aload_n 0, 1, []), (.getfield 28, 3, [1, 5, 2, 4, 0, 260]), (.iconst 0, 1, []), (.invokestatic 65, 3, [190, 2, 0, 0, 0, 752]), (.aload_n 0, 1, []), (.getfield 31, 3, [1, 6, 2, 5, 0, 262]), (.iconst 0, 1, []), (.invokestatic 65, 3, [190, 2, 0, 0, 0, 752]), (.aload_n 0, 1, []), (.getfield 34, 3, [1, 7, 2, 6, 0, 264]), (.iconst 0, 1, []), (.invokestatic 65, 3, [190, 2, 0, 0, 0, 752]), (.aload_n 0, 1, []), (.getfield 37, 3, [1, 8, 2, 7, 0, 266]), (.iconst (-1), 1, []), (.invokestatic 65, 3, [190, 2, 0, 0, 0, 752]), (.aload_n 0, 1, []), (.getfield 40, 3, [1, 9, 2, 8, 0, 268]), (.lconst 0, 1, []), (.invokestatic 71, 3, [189, 2, 0, 0, 0, 755]), (.aload_n 0, 1, []), (.getfield 59, 3, [1, 15, 2, 12, 0, 280]), (.iconst 0, 1, []), (.invokestatic 65, 3, [190, 2, 0, 0, 0, 752]), (.return_, 1, [])])]
/-- SlipRoom$Ledger.copy -/
noncomputable def z_b6 : z_B := [
  (0, [true, true], [(.aload_n 0, 1, []), (.aload_n 1, 1, []), (.getfield 9, 3, [1, 0, 0, 0, 0, 248]), (.putfield 9, 3, [1, 0, 0, 0, 0, 248]), (.aload_n 0, 1, []), (.aload_n 1, 1, []), (.getfield 19, 3, [1, 2, 0, 0, 0, 254]), (.putfield 19, 3, [1, 2, 0, 0, 0, 254]), (.aload_n 0, 1, []), (.aload_n 1, 1, []), (.getfield 44, 3, [1, 10, 0, 0, 0, 269]), (.putfield 44, 3, [1, 10, 0, 0, 0, 269]), (.aload_n 0, 1, []), (.aload_n 1, 1, []), (.getfield 50, 3, [1, 12, 0, 0, 0, 273]), (.putfield 50, 3, [1, 12, 0, 0, 0, 273]), (.aload_n 1, 1, []), (.getfield 15, 3, [1, 1, 2, 1, 0, 251]), (.iconst 0, 1, []), (.aload_n 0, 1, []), (.getfield 15, 3, [1, 1, 2, 1, 0, 251]), (.iconst 0, 1, []), (.aload_n 0, 1, []), (.getfield 9, 3, [1, 0, 0, 0, 0, 248]), (.bipush 6, 2, []), (.imul, 1, []), (.invokestatic 74, 3, [0, 5, 6, 0, 0, 490]), (.aload_n 1, 1, []), (.getfield 22, 3, [1, 3, 2, 2, 0, 256]), (.iconst 0, 1, []), (.aload_n 0, 1, []), (.getfield 22, 3, [1, 3, 2, 2, 0, 256]), (.iconst 0, 1, []), (.bipush 10, 2, []), (.invokestatic 74, 3, [0, 5, 6, 0, 0, 490]), (.aload_n 1, 1, []), (.getfield 25, 3, [1, 4, 2, 3, 0, 258]), (.iconst 0, 1, []), (.aload_n 0, 1, []), (.getfield 25, 3, [1, 4, 2, 3, 0, 258]), (.iconst 0, 1, []), (.bipush 8, 2, []), (.invokestatic 74, 3, [0, 5, 6, 0, 0, 490]), (.aload_n 1, 1, []), (.getfield 28, 3, [1, 5, 2, 4, 0, 260]), (.iconst 0, 1, []), (.aload_n 0, 1, []), (.getfield 28, 3, [1, 5, 2, 4, 0, 260]), (.iconst 0, 1, []), (.bipush 80, 2, []), (.invokestatic 74, 3, [0, 5, 6, 0, 0, 490]), (.aload_n 1, 1, []), (.getfield 31, 3, [1, 6, 2, 5, 0, 262]), (.iconst 0, 1, []), (.aload_n 0, 1, []), (.getfield 31, 3, [1, 6, 2, 5, 0, 262]), (.iconst 0, 1, []), (.bipush 80, 2, []), (.invokestatic 74, 3, [0, 5, 6, 0, 0, 490]), (.aload_n 1, 1, []), (.getfield 34, 3, [1, 7, 2, 6, 0, 264]), (.iconst 0, 1, []), (.aload_n 0, 1, []), (.getfield 34, 3, [1, 7, 2, 6, 0, 264]), (.iconst 0, 1, []), (.bipush 80, 2, []), (.invokestatic 74, 3, [0, 5, 6, 0, 0, 490]), (.aload_n 1, 1, []), (.getfield 37, 3, [1, 8, 2, 7, 0, 266]), (.iconst 0, 1, []), (.aload_n 0, 1, []), (.getfield 37, 3, [1, 8, 2, 7, 0, 266]), (.iconst 0, 1, []), (.bipush 80, 2, []), (.invokestatic 74, 3, [0, 5, 6, 0, 0, 490]), (.aload_n 1, 1, []), (.getfield 40, 3, [1, 9, 2, 8, 0, 268]), (.iconst 0, 1, []), (.aload_n 0, 1, []), (.getfield 40, 3, [1, 9, 2, 8, 0, 268]), (.iconst 0, 1, []), (.sipush 560, 3, []), (.invokestatic 74, 3, [0, 5, 6, 0, 0, 490]), (.aload_n 1, 1, []), (.getfield 47, 3, [1, 11, 2, 9, 0, 272]), (.iconst 0, 1, []), (.aload_n 0, 1, []), (.getfield 47, 3, [1, 11, 2, 9, 0, 272]), (.iconst 0, 1, []), (.aload_n 0, 1, []), (.getfield 44, 3, [1, 10, 0, 0, 0, 269]), (.iconst 4, 1, []), (.imul, 1, []), (.invokestatic 74, 3, [0, 5, 6, 0, 0, 490]), (.aload_n 1, 1, []), (.getfield 53, 3, [1, 13, 2, 10, 0, 276]), (.iconst 0, 1, []), (.aload_n 0, 1, []), (.getfield 53, 3, [1, 13, 2, 10, 0, 276]), (.iconst 0, 1, []), (.bipush 7, 2, []), (.invokestatic 74, 3, [0, 5, 6, 0, 0, 490]), (.aload_n 1, 1, []), (.getfield 56, 3, [1, 14, 2, 11, 0, 278]), (.iconst 0, 1, []), (.aload_n 0, 1, []), (.getfield 56, 3, [1, 14, 2, 11, 0, 278]), (.iconst 0, 1, []), (.bipush 7, 2, []), (.invokestatic 74, 3, [0, 5, 6, 0, 0, 490]), (.aload_n 1, 1, []), (.getfield 59, 3, [1, 15, 2, 12, 0, 280]), (.iconst 0, 1, []), (.aload_n 0, 1, []), (.getfield 59, 3, [1, 15, 2, 12, 0, 280]), (.iconst 0, 1, []), (.bipush 60, 2, []), (.invokestatic 74, 3, [0, 5, 6, 0, 0, 490]), (.aload_n 1, 1, []), (.getfield 62, 3, [1, 16, 2, 13, 0, 282]), (.iconst 0, 1, []), (.aload_n 0, 1, []), (.getfield 62, 3, [1, 16, 2, 13, 0, 282]), (.iconst 0, 1, []), (.iconst 5, 1, []), (.invokestatic 74, 3, [0, 5, 6, 0, 0, 490]), (.return_, 1, [])])]
/-- SlipRoom$Ledger.isRead -/
noncomputable def z_b7 : z_B := [
  (0, [true, true, true], [(.aload_n 0, 1, []), (.getfield 40, 3, [1, 9, 2, 8, 0, 268]), (.iload_n 1, 1, []), (.bipush 7, 2, []), (.imul, 1, []), (.iload_n 2, 1, []), (.iconst 1, 1, []), (.isub, 1, []), (.bipush 64, 2, []), (.idiv, 1, []), (.iadd, 1, []), (.laload, 1, []), (.iload_n 2, 1, []), (.iconst 1, 1, []), (.isub, 1, []), (.bipush 64, 2, []), (.irem, 1, []), (.lushr, 1, []), (.lconst 1, 1, []), (.land, 1, []), (.lconst 1, 1, []), (.lcmp, 1, []), (.ifCond .ne 7, 3, []), (.iconst 1, 1, []), (.goto 4, 3, [])]),
  (34, [false, false, false], [(.iconst 0, 1, [])]),
  (35, [false, false, false], [(.ireturn, 1, [])])]
/-- SlipRoom$Ledger.mark -/
noncomputable def z_b8 : z_B := [
  (0, [true, true, true, true, true], [(.aload_n 0, 1, []), (.iload_n 1, 1, []), (.iload_n 2, 1, []), (.invokevirtual 80, 3, [7, 3, 2, 1, 1, 859]), (.ifCond .eq 4, 3, []), (.return_, 1, [])]),
  (10, [true, true, true, true, true], [(.aload_n 0, 1, []), (.getfield 40, 3, [1, 9, 2, 8, 0, 268]), (.iload_n 1, 1, []), (.bipush 7, 2, []), (.imul, 1, []), (.iload_n 2, 1, []), (.iconst 1, 1, []), (.isub, 1, []), (.bipush 64, 2, []), (.idiv, 1, []), (.iadd, 1, []), (.dup2, 1, []), (.laload, 1, []), (.lconst 1, 1, []), (.iload_n 2, 1, []), (.iconst 1, 1, []), (.isub, 1, []), (.bipush 64, 2, []), (.irem, 1, []), (.lshl, 1, []), (.lor, 1, []), (.lastore, 1, []), (.aload_n 0, 1, []), (.getfield 34, 3, [1, 7, 2, 6, 0, 264]), (.iload_n 1, 1, []), (.dup2, 1, []), (.iaload, 1, []), (.iconst 1, 1, []), (.iadd, 1, []), (.iastore, 1, []), (.aload_n 0, 1, []), (.getfield 34, 3, [1, 7, 2, 6, 0, 264]), (.iload_n 1, 1, []), (.iaload, 1, []), (.iload_n 3, 1, []), (.if_icmp .ne 11, 3, []), (.aload_n 0, 1, []), (.getfield 37, 3, [1, 8, 2, 7, 0, 266]), (.iload_n 1, 1, []), (.iload 4, 2, []), (.iastore, 1, [])]),
  (65, [false, false, false, false, false], [(.return_, 1, [])])]
/-- SlipRoom$Ledger.openedPages -/
noncomputable def z_b9 : z_B := [
  (0, [true, true, false, false, false, false, false], [(.iconst 0, 1, []), (.istore_n 2, 1, []), (.iconst 0, 1, []), (.istore_n 3, 1, [])]),
  (4, [true, true, true, true, false, false, false], [(.iload_n 3, 1, []), (.bipush 7, 2, []), (.if_icmp .ge 57, 3, []), (.lconst 0, 1, []), (.lstore 4, 2, []), (.iconst 0, 1, []), (.istore 6, 2, [])]),
  (16, [true, true, true, true, true, false, true], [(.iload 6, 2, []), (.bipush 8, 2, []), (.if_icmp .ge 30, 3, []), (.lload 4, 2, []), (.aload_n 0, 1, []), (.getfield 40, 3, [1, 9, 2, 8, 0, 268]), (.iload 6, 2, []), (.iload_n 1, 1, []), (.invokestatic 84, 3, [103, 2, 1, 0, 1, 806]), (.bipush 7, 2, []), (.imul, 1, []), (.iload_n 3, 1, []), (.iadd, 1, []), (.laload, 1, []), (.lor, 1, []), (.lstore 4, 2, []), (.iinc 6 1, 3, []), (.goto (-31), 3, [])]),
  (50, [true, true, true, true, true, false, false], [(.iload_n 2, 1, []), (.lload 4, 2, []), (.invokestatic 88, 3, [186, 1, 0, 0, 1, 809]), (.iadd, 1, []), (.istore_n 2, 1, []), (.iinc 3 1, 3, []), (.goto (-57), 3, [])]),
  (64, [false, false, true, false, false, false, false], [(.iload_n 2, 1, []), (.ireturn, 1, [])])]
/-- SlipRoom$Ledger.pagesInARow -/
noncomputable def z_b10 : z_B := [
  (0, [true, true, true, false], [(.iconst 1, 1, []), (.istore_n 3, 1, [])]),
  (2, [true, true, true, true], [(.iload_n 3, 1, []), (.iload_n 2, 1, []), (.if_icmp .gt 18, 3, []), (.aload_n 0, 1, []), (.iload_n 1, 1, []), (.iload_n 3, 1, []), (.invokevirtual 80, 3, [7, 3, 2, 1, 1, 859]), (.ifCond .eq 9, 3, []), (.iinc 3 1, 3, []), (.goto (-17), 3, [])]),
  (22, [false, false, false, true], [(.iload_n 3, 1, []), (.iconst 1, 1, []), (.isub, 1, []), (.ireturn, 1, [])])]
/-- SlipRoom$Ledger.onlyTheEnds -/
noncomputable def z_b11 : z_B := [
  (0, [true, true, true], [(.aload_n 0, 1, []), (.iload_n 1, 1, []), (.iload_n 2, 1, []), (.invokevirtual 80, 3, [7, 3, 2, 1, 1, 859]), (.ifCond .eq 20, 3, []), (.bipush 10, 2, []), (.aload_n 0, 1, []), (.getfield 34, 3, [1, 7, 2, 6, 0, 264]), (.iload_n 1, 1, []), (.iaload, 1, []), (.imul, 1, []), (.iload_n 2, 1, []), (.if_icmp .ge 7, 3, []), (.iconst 1, 1, []), (.goto 4, 3, [])]),
  (26, [false, false, false], [(.iconst 0, 1, [])]),
  (27, [false, false, false], [(.ireturn, 1, [])])]
/-- SlipRoom$Ledger.enterLoan -/
noncomputable def z_b12 : z_B := [
  (0, [true, true, true, true, true, true, true, false], [(.aload_n 0, 1, []), (.getfield 9, 3, [1, 0, 0, 0, 0, 248]), (.bipush 6, 2, []), (.imul, 1, []), (.istore 7, 2, []), (.aload_n 0, 1, []), (.getfield 15, 3, [1, 1, 2, 1, 0, 251]), (.iload 7, 2, []), (.iload_n 1, 1, []), (.iastore, 1, []), (.aload_n 0, 1, []), (.getfield 15, 3, [1, 1, 2, 1, 0, 251]), (.iload 7, 2, []), (.iconst 1, 1, []), (.iadd, 1, []), (.iload_n 2, 1, []), (.iastore, 1, []), (.aload_n 0, 1, []), (.getfield 15, 3, [1, 1, 2, 1, 0, 251]), (.iload 7, 2, []), (.iconst 2, 1, []), (.iadd, 1, []), (.iload_n 3, 1, []), (.iastore, 1, []), (.aload_n 0, 1, []), (.getfield 15, 3, [1, 1, 2, 1, 0, 251]), (.iload 7, 2, []), (.iconst 3, 1, []), (.iadd, 1, []), (.iload 4, 2, []), (.iastore, 1, []), (.aload_n 0, 1, []), (.getfield 15, 3, [1, 1, 2, 1, 0, 251]), (.iload 7, 2, []), (.iconst 4, 1, []), (.iadd, 1, []), (.iload 5, 2, []), (.iastore, 1, []), (.aload_n 0, 1, []), (.getfield 15, 3, [1, 1, 2, 1, 0, 251]), (.iload 7, 2, []), (.iconst 5, 1, []), (.iadd, 1, []), (.iload 6, 2, []), (.iastore, 1, []), (.aload_n 0, 1, []), (.dup, 1, []), (.getfield 9, 3, [1, 0, 0, 0, 0, 248]), (.iconst 1, 1, []), (.iadd, 1, []), (.putfield 9, 3, [1, 0, 0, 0, 0, 248]), (.aload_n 0, 1, []), (.iload_n 3, 1, []), (.putfield 19, 3, [1, 2, 0, 0, 0, 254]), (.aload_n 0, 1, []), (.getfield 22, 3, [1, 3, 2, 2, 0, 256]), (.iload_n 2, 1, []), (.iload_n 3, 1, []), (.iload 4, 2, []), (.iadd, 1, []), (.iastore, 1, []), (.aload_n 0, 1, []), (.getfield 25, 3, [1, 4, 2, 3, 0, 258]), (.iload_n 1, 1, []), (.iload_n 3, 1, []), (.iload 4, 2, []), (.iadd, 1, []), (.iastore, 1, []), (.return_, 1, [])])]
/-- SlipRoom$Ledger.slipsIn -/
noncomputable def z_b13 : z_B := [
  (0, [true, true, false, false], [(.iconst 0, 1, []), (.istore_n 2, 1, []), (.iconst 0, 1, []), (.istore_n 3, 1, [])]),
  (4, [true, true, true, true], [(.iload_n 3, 1, []), (.bipush 8, 2, []), (.if_icmp .ge 25, 3, []), (.aload_n 0, 1, []), (.getfield 28, 3, [1, 5, 2, 4, 0, 260]), (.iload_n 3, 1, []), (.iload_n 1, 1, []), (.invokestatic 84, 3, [103, 2, 1, 0, 1, 806]), (.iaload, 1, []), (.ifCond .le 6, 3, []), (.iinc 2 1, 3, [])]),
  (26, [true, true, true, true], [(.iinc 3 1, 3, []), (.goto (-25), 3, [])]),
  (32, [false, false, true, false], [(.iload_n 2, 1, []), (.ireturn, 1, [])])]
/-- SlipRoom$Ledger.moveSlips -/
noncomputable def z_b14 : z_B := [
  (0, [true, true, true, true, false, false, false, false], [(.iconst 0, 1, []), (.istore 4, 2, []), (.iconst 0, 1, []), (.istore 5, 2, [])]),
  (6, [true, true, true, true, true, true, false, false], [(.iload 5, 2, []), (.bipush 8, 2, []), (.if_icmp .ge 87, 3, []), (.iload 5, 2, []), (.iload_n 1, 1, []), (.invokestatic 84, 3, [103, 2, 1, 0, 1, 806]), (.istore 6, 2, []), (.aload_n 0, 1, []), (.getfield 28, 3, [1, 5, 2, 4, 0, 260]), (.iload 6, 2, []), (.iaload, 1, []), (.iload_n 2, 1, []), (.iadd, 1, []), (.istore 7, 2, []), (.aload_n 0, 1, []), (.getfield 28, 3, [1, 5, 2, 4, 0, 260]), (.iload 6, 2, []), (.iaload, 1, []), (.ifCond .le 33, 3, []), (.iload_n 2, 1, []), (.ifCond .eq 15, 3, []), (.iload 7, 2, []), (.iconst 1, 1, []), (.if_icmp .lt 9, 3, []), (.iload 7, 2, []), (.iload_n 3, 1, []), (.if_icmp .le 17, 3, [])]),
  (58, [true, true, true, true, true, true, true, false], [(.aload_n 0, 1, []), (.getfield 28, 3, [1, 5, 2, 4, 0, 260]), (.iload 6, 2, []), (.iconst (-1), 1, []), (.iastore, 1, []), (.iinc 4 1, 3, []), (.goto 22, 3, [])]),
  (72, [true, true, true, true, true, true, true, true], [(.aload_n 0, 1, []), (.getfield 28, 3, [1, 5, 2, 4, 0, 260]), (.iload 6, 2, []), (.iaload, 1, []), (.ifCond .le 12, 3, []), (.aload_n 0, 1, []), (.getfield 28, 3, [1, 5, 2, 4, 0, 260]), (.iload 6, 2, []), (.iload 7, 2, []), (.iastore, 1, [])]),
  (91, [true, true, true, true, true, true, false, false], [(.iinc 5 1, 3, []), (.goto (-88), 3, [])]),
  (97, [false, false, false, false, true, false, false, false], [(.iload 4, 2, []), (.ireturn, 1, [])])]
/-- SlipRoom$Ledger.enterLook -/
noncomputable def z_b15 : z_B := [
  (0, [true, true, true, true, true, false], [(.aload_n 0, 1, []), (.getfield 44, 3, [1, 10, 0, 0, 0, 269]), (.iconst 4, 1, []), (.imul, 1, []), (.istore 5, 2, []), (.aload_n 0, 1, []), (.getfield 47, 3, [1, 11, 2, 9, 0, 272]), (.iload 5, 2, []), (.iload_n 1, 1, []), (.iastore, 1, []), (.aload_n 0, 1, []), (.getfield 47, 3, [1, 11, 2, 9, 0, 272]), (.iload 5, 2, []), (.iconst 1, 1, []), (.iadd, 1, []), (.iload_n 2, 1, []), (.iastore, 1, []), (.aload_n 0, 1, []), (.getfield 47, 3, [1, 11, 2, 9, 0, 272]), (.iload 5, 2, []), (.iconst 2, 1, []), (.iadd, 1, []), (.iload_n 3, 1, []), (.iastore, 1, []), (.aload_n 0, 1, []), (.getfield 47, 3, [1, 11, 2, 9, 0, 272]), (.iload 5, 2, []), (.iconst 3, 1, []), (.iadd, 1, []), (.iload 4, 2, []), (.iastore, 1, []), (.aload_n 0, 1, []), (.dup, 1, []), (.getfield 44, 3, [1, 10, 0, 0, 0, 269]), (.iconst 1, 1, []), (.iadd, 1, []), (.putfield 44, 3, [1, 10, 0, 0, 0, 269]), (.aload_n 0, 1, []), (.getfield 44, 3, [1, 10, 0, 0, 0, 269]), (.iconst 1, 1, []), (.isub, 1, []), (.ireturn, 1, [])])]
/-- SlipRoom$Ledger.looksIn -/
noncomputable def z_b16 : z_B := [
  (0, [true, true, false, false], [(.iconst 0, 1, []), (.istore_n 2, 1, []), (.iconst 0, 1, []), (.istore_n 3, 1, [])]),
  (4, [true, true, true, true], [(.iload_n 3, 1, []), (.aload_n 0, 1, []), (.getfield 44, 3, [1, 10, 0, 0, 0, 269]), (.if_icmp .ge 21, 3, []), (.aload_n 0, 1, []), (.iload_n 3, 1, []), (.invokevirtual 94, 3, [17, 2, 2, 1, 1, 969]), (.iload_n 1, 1, []), (.if_icmp .ne 6, 3, []), (.iinc 2 1, 3, [])]),
  (24, [true, true, true, true], [(.iinc 3 1, 3, []), (.goto (-23), 3, [])]),
  (30, [false, false, true, false], [(.iload_n 2, 1, []), (.ireturn, 1, [])])]
/-- SlipRoom$Ledger.lookBook -/
noncomputable def z_b17 : z_B := [
  (0, [true, true], [(.aload_n 0, 1, []), (.getfield 47, 3, [1, 11, 2, 9, 0, 272]), (.iload_n 1, 1, []), (.iconst 4, 1, []), (.imul, 1, []), (.iaload, 1, []), (.ireturn, 1, [])])]
/-- SlipRoom$Ledger.lookHour -/
noncomputable def z_b18 : z_B := [
  (0, [true, true], [(.aload_n 0, 1, []), (.getfield 47, 3, [1, 11, 2, 9, 0, 272]), (.iload_n 1, 1, []), (.iconst 4, 1, []), (.imul, 1, []), (.iconst 1, 1, []), (.iadd, 1, []), (.iaload, 1, []), (.ireturn, 1, [])])]
/-- SlipRoom$Ledger.lookColour -/
noncomputable def z_b19 : z_B := [
  (0, [true, true], [(.aload_n 0, 1, []), (.getfield 47, 3, [1, 11, 2, 9, 0, 272]), (.iload_n 1, 1, []), (.iconst 4, 1, []), (.imul, 1, []), (.iconst 2, 1, []), (.iadd, 1, []), (.iaload, 1, []), (.ireturn, 1, [])])]
/-- SlipRoom$Ledger.lookPage -/
noncomputable def z_b20 : z_B := [
  (0, [true, true], [(.aload_n 0, 1, []), (.getfield 47, 3, [1, 11, 2, 9, 0, 272]), (.iload_n 1, 1, []), (.iconst 4, 1, []), (.imul, 1, []), (.iconst 3, 1, []), (.iadd, 1, []), (.iaload, 1, []), (.ireturn, 1, [])])]
/-- SlipRoom$Ledger.enterWish -/
noncomputable def z_b21 : z_B := [
  (0, [true, true, true], [(.aload_n 0, 1, []), (.getfield 53, 3, [1, 13, 2, 10, 0, 276]), (.aload_n 0, 1, []), (.getfield 50, 3, [1, 12, 0, 0, 0, 273]), (.iload_n 1, 1, []), (.iastore, 1, []), (.aload_n 0, 1, []), (.getfield 56, 3, [1, 14, 2, 11, 0, 278]), (.aload_n 0, 1, []), (.getfield 50, 3, [1, 12, 0, 0, 0, 273]), (.iload_n 2, 1, []), (.iastore, 1, []), (.aload_n 0, 1, []), (.dup, 1, []), (.getfield 50, 3, [1, 12, 0, 0, 0, 273]), (.iconst 1, 1, []), (.iadd, 1, []), (.putfield 50, 3, [1, 12, 0, 0, 0, 273]), (.aload_n 0, 1, []), (.getfield 50, 3, [1, 12, 0, 0, 0, 273]), (.ireturn, 1, [])])]
/-- SlipRoom$Parser.parse -/
noncomputable def z_b22 : z_B := [
  (0, [true, true, true, false], [(.aload_n 0, 1, []), (.aload_n 2, 1, []), (.putfield 27, 3, [2, 1, 1, 0, 0, 230]), (.aload_n 0, 1, []), (.getfield 27, 3, [2, 1, 1, 0, 0, 230]), (.invokevirtual 31, 3, [35, 1, 2, 3, 0, 573]), (.aload_n 0, 1, []), (.iconst 0, 1, []), (.putfield 9, 3, [2, 2, 0, 0, 0, 231]), (.aload_n 0, 1, []), (.iconst (-1), 1, []), (.putfield 15, 3, [2, 3, 0, 0, 0, 232]), (.aload_n 0, 1, []), (.getfield 23, 3, [2, 0, 3, 23, 0, 229]), (.iload_n 1, 1, []), (.invokevirtual 36, 3, [59, 2, 2, 6, 0, 577]), (.iconst 0, 1, []), (.istore_n 3, 1, [])]),
  (32, [true, true, false, true], [(.iload_n 3, 1, []), (.iload_n 1, 1, []), (.if_icmp .ge 64, 3, []), (.aload_n 0, 1, []), (.getfield 23, 3, [2, 0, 3, 23, 0, 229]), (.getfield 40, 3, [6, 3, 0, 0, 1, 207]), (.ifCond .eq 54, 3, []), (.aload_n 0, 1, []), (.getfield 23, 3, [2, 0, 3, 23, 0, 229]), (.getfield 43, 3, [6, 6, 1, 0, 1, 213]), (.getstatic 47, 3, [1001, 0, 663]), (.if_acmp .ne 10, 3, []), (.aload_n 0, 1, []), (.invokevirtual 52, 3, [25, 1, 2, 2, 0, 665]), (.goto 28, 3, [])]),
  (67, [true, true, false, true], [(.aload_n 0, 1, []), (.getfield 23, 3, [2, 0, 3, 23, 0, 229]), (.getfield 43, 3, [6, 6, 1, 0, 1, 213]), (.getstatic 55, 3, [1003, 0, 692]), (.if_acmp .ne 10, 3, []), (.aload_n 0, 1, []), (.invokevirtual 58, 3, [26, 1, 2, 2, 0, 694]), (.goto 8, 3, [])]),
  (87, [true, true, false, true], [(.aload_n 0, 1, []), (.iconst 1, 1, []), (.invokevirtual 61, 3, [24, 2, 2, 2, 0, 669])]),
  (92, [true, true, false, true], [(.iinc 3 1, 3, []), (.goto (-63), 3, [])]),
  (98, [true, false, false, false], [(.aload_n 0, 1, []), (.getfield 9, 3, [2, 2, 0, 0, 0, 231]), (.ireturn, 1, [])])]
/-- SlipRoom$Parser.faultPlace -/
noncomputable def z_b23 : z_B := [
  (0, [true], [(.aload_n 0, 1, []), (.getfield 15, 3, [2, 3, 0, 0, 0, 232]), (.ireturn, 1, [])])]
/-- SlipRoom$Parser.fail -/
noncomputable def z_b24 : z_B := [
  (0, [true, true], [(.aload_n 0, 1, []), (.getfield 9, 3, [2, 2, 0, 0, 0, 231]), (.ifCond .ne 19, 3, []), (.aload_n 0, 1, []), (.iload_n 1, 1, []), (.putfield 9, 3, [2, 2, 0, 0, 0, 231]), (.aload_n 0, 1, []), (.aload_n 0, 1, []), (.getfield 23, 3, [2, 0, 3, 23, 0, 229]), (.getfield 64, 3, [6, 4, 0, 0, 1, 209]), (.putfield 15, 3, [2, 3, 0, 0, 0, 232])]),
  (23, [true, false], [(.aload_n 0, 1, []), (.getfield 23, 3, [2, 0, 3, 23, 0, 229]), (.invokevirtual 67, 3, [60, 1, 2, 6, 0, 673]), (.return_, 1, [])])]
/-- SlipRoom$Parser.bookClause -/
noncomputable def z_b25 : z_B := [
  (0, [true, false], [(.aload_n 0, 1, []), (.getfield 27, 3, [2, 1, 1, 0, 0, 230]), (.getfield 70, 3, [3, 0, 0, 0, 1, 125]), (.istore_n 1, 1, []), (.iload_n 1, 1, []), (.bipush 10, 2, []), (.if_icmp .lt 9, 3, []), (.aload_n 0, 1, []), (.iconst 2, 1, []), (.invokevirtual 61, 3, [24, 2, 2, 2, 0, 669]), (.return_, 1, [])]),
  (20, [true, true], [(.aload_n 0, 1, []), (.getfield 27, 3, [2, 1, 1, 0, 0, 230]), (.dup, 1, []), (.getfield 70, 3, [3, 0, 0, 0, 1, 125]), (.iconst 1, 1, []), (.iadd, 1, []), (.putfield 70, 3, [3, 0, 0, 0, 1, 125]), (.aload_n 0, 1, []), (.getfield 23, 3, [2, 0, 3, 23, 0, 229]), (.invokevirtual 73, 3, [61, 1, 2, 6, 0, 677]), (.aload_n 0, 1, []), (.getfield 27, 3, [2, 1, 1, 0, 0, 230]), (.getfield 76, 3, [3, 1, 2, 1, 1, 128]), (.iload_n 1, 1, []), (.aload_n 0, 1, []), (.iconst 1, 1, []), (.sipush 400, 3, []), (.invokevirtual 80, 3, [29, 3, 2, 2, 1, 678]), (.iastore, 1, []), (.aload_n 0, 1, []), (.getfield 27, 3, [2, 1, 1, 0, 0, 230]), (.getfield 84, 3, [3, 2, 2, 2, 1, 131]), (.iload_n 1, 1, []), (.aload_n 0, 1, []), (.getstatic 87, 3, [1002, 0, 682]), (.invokevirtual 90, 3, [27, 2, 2, 2, 1, 684]), (.ifCond .eq 14, 3, []), (.aload_n 0, 1, []), (.iconst 1, 1, []), (.sipush 400, 3, []), (.invokevirtual 80, 3, [29, 3, 2, 2, 1, 678]), (.goto 4, 3, [])]),
  (86, [true, false], [(.iconst 0, 1, [])]),
  (87, [true, false], [(.iastore, 1, []), (.aload_n 0, 1, []), (.bipush 59, 2, []), (.invokevirtual 94, 3, [28, 2, 2, 2, 0, 688]), (.return_, 1, [])])]
/-- SlipRoom$Parser.readerClause -/
noncomputable def z_b26 : z_B := [
  (0, [true, false], [(.aload_n 0, 1, []), (.getfield 27, 3, [2, 1, 1, 0, 0, 230]), (.getfield 97, 3, [3, 3, 0, 0, 1, 136]), (.istore_n 1, 1, []), (.iload_n 1, 1, []), (.bipush 8, 2, []), (.if_icmp .lt 9, 3, []), (.aload_n 0, 1, []), (.iconst 2, 1, []), (.invokevirtual 61, 3, [24, 2, 2, 2, 0, 669]), (.return_, 1, [])]),
  (20, [true, true], [(.aload_n 0, 1, []), (.getfield 27, 3, [2, 1, 1, 0, 0, 230]), (.dup, 1, []), (.getfield 97, 3, [3, 3, 0, 0, 1, 136]), (.iconst 1, 1, []), (.iadd, 1, []), (.putfield 97, 3, [3, 3, 0, 0, 1, 136]), (.aload_n 0, 1, []), (.getfield 23, 3, [2, 0, 3, 23, 0, 229]), (.invokevirtual 73, 3, [61, 1, 2, 6, 0, 677]), (.aload_n 0, 1, []), (.getfield 27, 3, [2, 1, 1, 0, 0, 230]), (.getfield 100, 3, [3, 4, 2, 3, 1, 138]), (.iload_n 1, 1, []), (.aload_n 0, 1, []), (.iconst 1, 1, []), (.bipush 60, 2, []), (.invokevirtual 80, 3, [29, 3, 2, 2, 1, 678]), (.iastore, 1, []), (.aload_n 0, 1, []), (.getfield 27, 3, [2, 1, 1, 0, 0, 230]), (.getfield 103, 3, [3, 5, 2, 4, 1, 142]), (.iload_n 1, 1, []), (.aload_n 0, 1, []), (.getstatic 106, 3, [1004, 0, 698]), (.invokevirtual 90, 3, [27, 2, 2, 2, 1, 684]), (.ifCond .eq 12, 3, []), (.aload_n 0, 1, []), (.iconst 0, 1, []), (.iconst 3, 1, []), (.invokevirtual 80, 3, [29, 3, 2, 2, 1, 678]), (.goto 4, 3, [])]),
  (83, [true, true], [(.iconst 0, 1, [])]),
  (84, [true, true], [(.iastore, 1, []), (.aload_n 0, 1, []), (.getfield 27, 3, [2, 1, 1, 0, 0, 230]), (.getfield 109, 3, [3, 6, 2, 5, 1, 146]), (.iload_n 1, 1, []), (.aload_n 0, 1, []), (.getstatic 112, 3, [1005, 0, 700]), (.invokevirtual 90, 3, [27, 2, 2, 2, 1, 684]), (.ifCond .eq 13, 3, []), (.aload_n 0, 1, []), (.iconst 0, 1, []), (.bipush 20, 2, []), (.invokevirtual 80, 3, [29, 3, 2, 2, 1, 678]), (.goto 4, 3, [])]),
  (113, [true, true], [(.iconst 0, 1, [])]),
  (114, [true, true], [(.iastore, 1, []), (.aload_n 0, 1, []), (.getfield 27, 3, [2, 1, 1, 0, 0, 230]), (.getfield 115, 3, [3, 7, 2, 6, 1, 150]), (.iload_n 1, 1, []), (.aload_n 0, 1, []), (.getstatic 118, 3, [1006, 0, 702]), (.invokevirtual 90, 3, [27, 2, 2, 2, 1, 684]), (.ifCond .eq 7, 3, []), (.iconst 1, 1, []), (.goto 4, 3, [])]),
  (137, [true, true], [(.iconst 0, 1, [])]),
  (138, [true, true], [(.iastore, 1, []), (.aload_n 0, 1, []), (.getfield 27, 3, [2, 1, 1, 0, 0, 230]), (.getfield 121, 3, [3, 8, 2, 7, 1, 153]), (.iload_n 1, 1, []), (.aload_n 0, 1, []), (.getfield 27, 3, [2, 1, 1, 0, 0, 230]), (.getfield 124, 3, [3, 11, 0, 0, 1, 161]), (.iastore, 1, []), (.aload_n 0, 1, []), (.getstatic 127, 3, [1007, 0, 704]), (.invokevirtual 90, 3, [27, 2, 2, 2, 1, 684]), (.ifCond .eq 9, 3, []), (.aload_n 0, 1, []), (.iconst 0, 1, []), (.iconst 0, 1, []), (.invokevirtual 130, 3, [30, 3, 2, 2, 0, 706])]),
  (171, [true, true], [(.aload_n 0, 1, []), (.getfield 27, 3, [2, 1, 1, 0, 0, 230]), (.getfield 134, 3, [3, 9, 2, 8, 1, 156]), (.iload_n 1, 1, []), (.aload_n 0, 1, []), (.getfield 27, 3, [2, 1, 1, 0, 0, 230]), (.getfield 124, 3, [3, 11, 0, 0, 1, 161]), (.iastore, 1, []), (.aload_n 0, 1, []), (.bipush 59, 2, []), (.invokevirtual 94, 3, [28, 2, 2, 2, 0, 688]), (.return_, 1, [])])]
/-- SlipRoom$Parser.passWord -/
noncomputable def z_b27 : z_B := [
  (0, [true, true, false], [(.aload_n 0, 1, []), (.getfield 23, 3, [2, 0, 3, 23, 0, 229]), (.getfield 43, 3, [6, 6, 1, 0, 1, 213]), (.aload_n 1, 1, []), (.if_acmp .ne 7, 3, []), (.iconst 1, 1, []), (.goto 4, 3, [])]),
  (15, [true, false, false], [(.iconst 0, 1, [])]),
  (16, [true, false, false], [(.istore_n 2, 1, []), (.iload_n 2, 1, []), (.ifCond .eq 10, 3, []), (.aload_n 0, 1, []), (.getfield 23, 3, [2, 0, 3, 23, 0, 229]), (.invokevirtual 73, 3, [61, 1, 2, 6, 0, 677])]),
  (28, [false, false, true], [(.iload_n 2, 1, []), (.ireturn, 1, [])])]
/-- SlipRoom$Parser.passSign -/
noncomputable def z_b28 : z_B := [
  (0, [true, true], [(.aload_n 0, 1, []), (.getfield 23, 3, [2, 0, 3, 23, 0, 229]), (.getfield 40, 3, [6, 3, 0, 0, 1, 207]), (.iload_n 1, 1, []), (.if_icmp .ne 13, 3, []), (.aload_n 0, 1, []), (.getfield 23, 3, [2, 0, 3, 23, 0, 229]), (.invokevirtual 73, 3, [61, 1, 2, 6, 0, 677]), (.goto 8, 3, [])]),
  (21, [true, false], [(.aload_n 0, 1, []), (.iconst 1, 1, []), (.invokevirtual 61, 3, [24, 2, 2, 2, 0, 669])]),
  (26, [false, false], [(.return_, 1, [])])]
/-- SlipRoom$Parser.takeNumber -/
noncomputable def z_b29 : z_B := [
  (0, [true, true, true, false], [(.aload_n 0, 1, []), (.getfield 23, 3, [2, 0, 3, 23, 0, 229]), (.getfield 137, 3, [6, 5, 0, 0, 1, 211]), (.istore_n 3, 1, []), (.aload_n 0, 1, []), (.getfield 23, 3, [2, 0, 3, 23, 0, 229]), (.getfield 40, 3, [6, 3, 0, 0, 1, 207]), (.iconst 1, 1, []), (.if_icmp .eq 11, 3, []), (.aload_n 0, 1, []), (.iconst 1, 1, []), (.invokevirtual 61, 3, [24, 2, 2, 2, 0, 669]), (.goto 28, 3, [])]),
  (27, [true, true, true, true], [(.iload_n 3, 1, []), (.iload_n 1, 1, []), (.if_icmp .lt 8, 3, []), (.iload_n 3, 1, []), (.iload_n 2, 1, []), (.if_icmp .le 11, 3, [])]),
  (37, [true, false, false, true], [(.aload_n 0, 1, []), (.iconst 2, 1, []), (.invokevirtual 61, 3, [24, 2, 2, 2, 0, 669]), (.goto 10, 3, [])]),
  (45, [true, false, false, true], [(.aload_n 0, 1, []), (.getfield 23, 3, [2, 0, 3, 23, 0, 229]), (.invokevirtual 73, 3, [61, 1, 2, 6, 0, 677])]),
  (52, [false, false, false, true], [(.iload_n 3, 1, []), (.ireturn, 1, [])])]
/-- SlipRoom$Parser.level -/
noncomputable def z_b30 : z_B := [
  (0, [true, true, true, false, false, false, false], [(.iload_n 1, 1, []), (.iconst 2, 1, []), (.if_icmp .ne 10, 3, []), (.aload_n 0, 1, []), (.invokevirtual 140, 3, [33, 1, 2, 2, 1, 710]), (.goto 4, 3, [])]),
  (12, [true, true, true, false, false, false, false], [(.iconst 0, 1, [])]),
  (13, [true, true, true, false, false, false, false], [(.istore_n 3, 1, []), (.aload_n 0, 1, []), (.iload_n 1, 1, []), (.iload_n 2, 1, []), (.invokevirtual 144, 3, [31, 3, 2, 2, 0, 716]), (.iload_n 1, 1, []), (.iconst 2, 1, []), (.if_icmp .ne 7, 3, []), (.iconst 1, 1, []), (.goto 6, 3, [])]),
  (29, [true, true, true, true, false, false, false], [(.sipush 700, 3, [])]),
  (32, [true, true, true, true, false, false, false], [(.istore 4, 2, []), (.iconst 0, 1, []), (.istore 5, 2, [])]),
  (37, [true, true, true, true, true, true, false], [(.iload 5, 2, []), (.iload 4, 2, []), (.if_icmp .ge 52, 3, []), (.aload_n 0, 1, []), (.getfield 23, 3, [2, 0, 3, 23, 0, 229]), (.invokevirtual 147, 3, [62, 1, 2, 6, 1, 732]), (.iload_n 1, 1, []), (.if_icmp .ne 41, 3, []), (.aload_n 0, 1, []), (.getfield 23, 3, [2, 0, 3, 23, 0, 229]), (.invokevirtual 150, 3, [63, 1, 2, 6, 1, 740]), (.istore 6, 2, []), (.aload_n 0, 1, []), (.getfield 23, 3, [2, 0, 3, 23, 0, 229]), (.invokevirtual 73, 3, [61, 1, 2, 6, 0, 677]), (.aload_n 0, 1, []), (.iload_n 1, 1, []), (.iload_n 2, 1, []), (.invokevirtual 144, 3, [31, 3, 2, 2, 0, 716]), (.aload_n 0, 1, []), (.getfield 27, 3, [2, 1, 1, 0, 0, 230]), (.iload 6, 2, []), (.ineg, 1, []), (.invokevirtual 153, 3, [36, 2, 2, 3, 0, 728]), (.iinc 5 1, 3, []), (.goto (-53), 3, [])]),
  (93, [true, false, false, true, false, false, false], [(.iconst 0, 1, []), (.istore 5, 2, [])]),
  (96, [true, false, false, true, false, true, false], [(.iload 5, 2, []), (.iload_n 3, 1, []), (.if_icmp .ge 18, 3, []), (.aload_n 0, 1, []), (.getfield 27, 3, [2, 1, 1, 0, 0, 230]), (.bipush (-33), 2, []), (.invokevirtual 153, 3, [36, 2, 2, 3, 0, 728]), (.iinc 5 1, 3, []), (.goto (-18), 3, [])]),
  (117, [false, false, false, false, false, false, false], [(.return_, 1, [])])]
/-- SlipRoom$Parser.operand -/
noncomputable def z_b31 : z_B := [
  (0, [true, true, true], [(.iload_n 1, 1, []), (.iconst 4, 1, []), (.if_icmp .ge 14, 3, []), (.aload_n 0, 1, []), (.iload_n 1, 1, []), (.iconst 1, 1, []), (.iadd, 1, []), (.iload_n 2, 1, []), (.invokevirtual 130, 3, [30, 3, 2, 2, 0, 706]), (.goto 42, 3, [])]),
  (16, [true, false, true], [(.aload_n 0, 1, []), (.getfield 23, 3, [2, 0, 3, 23, 0, 229]), (.getfield 40, 3, [6, 3, 0, 0, 1, 207]), (.bipush 40, 2, []), (.if_icmp .ne 26, 3, []), (.aload_n 0, 1, []), (.getfield 23, 3, [2, 0, 3, 23, 0, 229]), (.invokevirtual 73, 3, [61, 1, 2, 6, 0, 677]), (.aload_n 0, 1, []), (.iload_n 2, 1, []), (.iconst 1, 1, []), (.iadd, 1, []), (.invokevirtual 156, 3, [32, 2, 2, 2, 0, 720]), (.aload_n 0, 1, []), (.bipush 41, 2, []), (.invokevirtual 94, 3, [28, 2, 2, 2, 0, 688]), (.goto 7, 3, [])]),
  (51, [true, false, false], [(.aload_n 0, 1, []), (.invokevirtual 159, 3, [34, 1, 2, 2, 0, 724])]),
  (55, [false, false, false], [(.return_, 1, [])])]
/-- SlipRoom$Parser.exprWithin -/
noncomputable def z_b32 : z_B := [
  (0, [true, true], [(.iload_n 1, 1, []), (.iconst 5, 1, []), (.if_icmp .gt 12, 3, []), (.aload_n 0, 1, []), (.iconst 0, 1, []), (.iload_n 1, 1, []), (.invokevirtual 130, 3, [30, 3, 2, 2, 0, 706]), (.goto 50, 3, [])]),
  (14, [true, false], [(.aload_n 0, 1, []), (.getfield 23, 3, [2, 0, 3, 23, 0, 229]), (.getfield 40, 3, [6, 3, 0, 0, 1, 207]), (.iconst 1, 1, []), (.if_icmp .eq 26, 3, []), (.aload_n 0, 1, []), (.getfield 23, 3, [2, 0, 3, 23, 0, 229]), (.getfield 40, 3, [6, 3, 0, 0, 1, 207]), (.iconst 2, 1, []), (.if_icmp .eq 15, 3, []), (.aload_n 0, 1, []), (.getfield 23, 3, [2, 0, 3, 23, 0, 229]), (.getfield 40, 3, [6, 3, 0, 0, 1, 207]), (.bipush 40, 2, []), (.if_icmp .ne 11, 3, [])]),
  (48, [true, false], [(.aload_n 0, 1, []), (.iconst 2, 1, []), (.invokevirtual 61, 3, [24, 2, 2, 2, 0, 669]), (.goto 8, 3, [])]),
  (56, [true, false], [(.aload_n 0, 1, []), (.iconst 1, 1, []), (.invokevirtual 61, 3, [24, 2, 2, 2, 0, 669])]),
  (61, [false, false], [(.return_, 1, [])])]
/-- SlipRoom$Parser.passNots -/
noncomputable def z_b33 : z_B := [
  (0, [true, false], [(.iconst 0, 1, []), (.istore_n 1, 1, [])]),
  (2, [true, true], [(.iload_n 1, 1, []), (.bipush 6, 2, []), (.if_icmp .ge 19, 3, []), (.aload_n 0, 1, []), (.getstatic 162, 3, [1010, 0, 714]), (.invokevirtual 90, 3, [27, 2, 2, 2, 1, 684]), (.ifCond .eq 9, 3, []), (.iinc 1 1, 3, []), (.goto (-19), 3, [])]),
  (24, [true, true], [(.aload_n 0, 1, []), (.getfield 23, 3, [2, 0, 3, 23, 0, 229]), (.getfield 43, 3, [6, 6, 1, 0, 1, 213]), (.getstatic 162, 3, [1010, 0, 714]), (.if_acmp .ne 8, 3, []), (.aload_n 0, 1, []), (.iconst 2, 1, []), (.invokevirtual 61, 3, [24, 2, 2, 2, 0, 669])]),
  (42, [false, true], [(.iload_n 1, 1, []), (.ireturn, 1, [])])]
/-- SlipRoom$Parser.takePart -/
noncomputable def z_b34 : z_B := [
  (0, [true], [(.aload_n 0, 1, []), (.getfield 23, 3, [2, 0, 3, 23, 0, 229]), (.getfield 40, 3, [6, 3, 0, 0, 1, 207]), (.iconst 1, 1, []), (.if_icmp .eq 22, 3, []), (.aload_n 0, 1, []), (.getfield 23, 3, [2, 0, 3, 23, 0, 229]), (.getfield 40, 3, [6, 3, 0, 0, 1, 207]), (.iconst 2, 1, []), (.if_icmp .eq 11, 3, []), (.aload_n 0, 1, []), (.iconst 1, 1, []), (.invokevirtual 61, 3, [24, 2, 2, 2, 0, 669]), (.goto 106, 3, [])]),
  (30, [true], [(.aload_n 0, 1, []), (.getfield 23, 3, [2, 0, 3, 23, 0, 229]), (.getfield 137, 3, [6, 5, 0, 0, 1, 211]), (.sipush 9999, 3, []), (.if_icmp .le 11, 3, []), (.aload_n 0, 1, []), (.iconst 2, 1, []), (.invokevirtual 61, 3, [24, 2, 2, 2, 0, 669]), (.goto 85, 3, [])]),
  (51, [true], [(.aload_n 0, 1, []), (.getfield 23, 3, [2, 0, 3, 23, 0, 229]), (.getfield 40, 3, [6, 3, 0, 0, 1, 207]), (.iconst 2, 1, []), (.if_icmp .ne 25, 3, []), (.aload_n 0, 1, []), (.getfield 23, 3, [2, 0, 3, 23, 0, 229]), (.getfield 43, 3, [6, 6, 1, 0, 1, 213]), (.getfield 165, 3, [10, 1, 5, 0, 1, 1706]), (.iconst (-1), 1, []), (.if_icmp .ne 11, 3, []), (.aload_n 0, 1, []), (.iconst 3, 1, []), (.invokevirtual 61, 3, [24, 2, 2, 2, 0, 669]), (.goto 52, 3, [])]),
  (84, [true], [(.aload_n 0, 1, []), (.getfield 27, 3, [2, 1, 1, 0, 0, 230]), (.aload_n 0, 1, []), (.getfield 23, 3, [2, 0, 3, 23, 0, 229]), (.getfield 40, 3, [6, 3, 0, 0, 1, 207]), (.iconst 2, 1, []), (.if_icmp .ne 20, 3, []), (.sipush 10000, 3, []), (.aload_n 0, 1, []), (.getfield 23, 3, [2, 0, 3, 23, 0, 229]), (.getfield 43, 3, [6, 6, 1, 0, 1, 213]), (.getfield 165, 3, [10, 1, 5, 0, 1, 1706]), (.iadd, 1, []), (.goto 10, 3, [])]),
  (116, [true], [(.aload_n 0, 1, []), (.getfield 23, 3, [2, 0, 3, 23, 0, 229]), (.getfield 137, 3, [6, 5, 0, 0, 1, 211])]),
  (123, [true], [(.invokevirtual 153, 3, [36, 2, 2, 3, 0, 728]), (.aload_n 0, 1, []), (.getfield 23, 3, [2, 0, 3, 23, 0, 229]), (.invokevirtual 73, 3, [61, 1, 2, 6, 0, 677])]),
  (133, [false], [(.return_, 1, [])])]
/-- SlipRoom$Plan.clear -/
noncomputable def z_b35 : z_B := [
  (0, [true], [(.aload_n 0, 1, []), (.iconst 0, 1, []), (.putfield 9, 3, [3, 0, 0, 0, 0, 124]), (.aload_n 0, 1, []), (.iconst 0, 1, []), (.putfield 22, 3, [3, 3, 0, 0, 0, 133]), (.aload_n 0, 1, []), (.iconst 0, 1, []), (.putfield 46, 3, [3, 11, 0, 0, 0, 160]), (.return_, 1, [])])]
/-- SlipRoom$Plan.putCode -/
noncomputable def z_b36 : z_B := [
  (0, [true, true], [(.aload_n 0, 1, []), (.getfield 46, 3, [3, 11, 0, 0, 0, 160]), (.aload_n 0, 1, []), (.getfield 43, 3, [3, 10, 2, 9, 0, 158]), (.arraylength, 1, []), (.if_icmp .ge 23, 3, []), (.aload_n 0, 1, []), (.getfield 43, 3, [3, 10, 2, 9, 0, 158]), (.aload_n 0, 1, []), (.getfield 46, 3, [3, 11, 0, 0, 0, 160]), (.iload_n 1, 1, []), (.iastore, 1, []), (.aload_n 0, 1, []), (.dup, 1, []), (.getfield 46, 3, [3, 11, 0, 0, 0, 160]), (.iconst 1, 1, []), (.iadd, 1, []), (.putfield 46, 3, [3, 11, 0, 0, 0, 160])]),
  (32, [false, false], [(.return_, 1, [])])]
/-- SlipRoom$Plan.partBegin -/
noncomputable def z_b37 : z_B := [
  (0, [true, true, true, false], [(.aload_n 0, 1, []), (.getfield 19, 3, [3, 2, 2, 2, 0, 130]), (.iload_n 1, 1, []), (.iaload, 1, []), (.istore_n 3, 1, []), (.iload_n 3, 1, []), (.iconst 1, 1, []), (.if_icmp .ge 7, 3, []), (.iconst 1, 1, []), (.goto 10, 3, [])]),
  (16, [false, false, true, true], [(.iload_n 2, 1, []), (.iload_n 2, 1, []), (.iconst 1, 1, []), (.isub, 1, []), (.iload_n 3, 1, []), (.irem, 1, []), (.isub, 1, [])]),
  (23, [false, false, false, false], [(.ireturn, 1, [])])]
/-- SlipRoom$Settling.weigh -/
noncomputable def z_b38 : z_B := [
  (0, [true, true, true, true, false], [(.iconst 0, 1, []), (.istore 4, 2, [])]),
  (3, [true, true, true, true, true], [(.iload 4, 2, []), (.iload_n 3, 1, []), (.if_icmp .gt 33, 3, []), (.iload 4, 2, []), (.bipush 64, 2, []), (.if_icmp .ge 26, 3, []), (.iload 4, 2, []), (.iload_n 3, 1, []), (.iand, 1, []), (.iload 4, 2, []), (.if_icmp .ne 11, 3, []), (.aload_n 0, 1, []), (.aload_n 1, 1, []), (.iload_n 2, 1, []), (.iload 4, 2, []), (.invokevirtual 18, 3, [39, 4, 2, 4, 0, 1133])]),
  (33, [true, true, true, true, true], [(.iinc 4 1, 3, []), (.goto (-33), 3, [])]),
  (39, [false, false, false, false, false], [(.return_, 1, [])])]
/-- SlipRoom$Settling.weighSet -/
noncomputable def z_b39 : z_B := [
  (0, [true, true, true, true, false, false], [(.aload_n 0, 1, []), (.getfield 15, 3, [4, 1, 2, 2, 0, 404]), (.iload_n 3, 1, []), (.iconst (-1), 1, []), (.iastore, 1, []), (.iload_n 3, 1, []), (.invokestatic 22, 3, [185, 1, 0, 0, 1, 1137]), (.iconst 1, 1, []), (.if_icmp .gt 11, 3, []), (.aload_n 0, 1, []), (.getfield 9, 3, [4, 0, 2, 1, 0, 402]), (.iload_n 3, 1, []), (.iconst 0, 1, []), (.iastore, 1, []), (.return_, 1, [])]),
  (23, [true, true, true, true, false, false], [(.aload_n 0, 1, []), (.getfield 9, 3, [4, 0, 2, 1, 0, 402]), (.iload_n 3, 1, []), (.iconst (-1), 1, []), (.iastore, 1, []), (.iconst 0, 1, []), (.istore 4, 2, [])]),
  (33, [true, true, true, true, true, false], [(.iload 4, 2, []), (.iload_n 2, 1, []), (.if_icmp .ge 62, 3, []), (.aload_n 0, 1, []), (.aload_n 1, 1, []), (.iload 4, 2, []), (.iload_n 3, 1, []), (.invokevirtual 28, 3, [40, 4, 2, 4, 1, 1143]), (.istore 5, 2, []), (.iload 5, 2, []), (.iconst (-1), 1, []), (.if_icmp .eq 40, 3, []), (.aload_n 0, 1, []), (.getfield 9, 3, [4, 0, 2, 1, 0, 402]), (.iload_n 3, 1, []), (.iaload, 1, []), (.iconst (-1), 1, []), (.if_icmp .eq 14, 3, []), (.iload 5, 2, []), (.aload_n 0, 1, []), (.getfield 9, 3, [4, 0, 2, 1, 0, 402]), (.iload_n 3, 1, []), (.iaload, 1, []), (.if_icmp .ge 19, 3, [])]),
  (76, [true, true, true, true, true, true], [(.aload_n 0, 1, []), (.getfield 9, 3, [4, 0, 2, 1, 0, 402]), (.iload_n 3, 1, []), (.iload 5, 2, []), (.iastore, 1, []), (.aload_n 0, 1, []), (.getfield 15, 3, [4, 1, 2, 2, 0, 404]), (.iload_n 3, 1, []), (.iload 4, 2, []), (.iastore, 1, [])]),
  (92, [true, true, true, true, true, false], [(.iinc 4 1, 3, []), (.goto (-62), 3, [])]),
  (98, [false, false, false, false, false, false], [(.return_, 1, [])])]
/-- SlipRoom$Settling.looksFrom -/
noncomputable def z_b40 : z_B := [
  (0, [true, true, true, true, false, false, false], [(.iconst 0, 1, []), (.istore 4, 2, []), (.iconst 0, 1, []), (.istore 5, 2, [])]),
  (6, [true, true, true, true, true, true, false], [(.iload 5, 2, []), (.bipush 6, 2, []), (.if_icmp .ge 69, 3, []), (.iload_n 3, 1, []), (.iload 5, 2, []), (.ishr, 1, []), (.iconst 1, 1, []), (.iand, 1, []), (.iconst 1, 1, []), (.if_icmp .ne 53, 3, []), (.aload_n 1, 1, []), (.iload_n 2, 1, []), (.iload_n 3, 1, []), (.aload_n 1, 1, []), (.iload 5, 2, []), (.bipush 10, 2, []), (.imul, 1, []), (.iload_n 2, 1, []), (.iadd, 1, []), (.iaload, 1, []), (.invokestatic 32, 3, [41, 4, 0, 0, 1, 1147]), (.istore 6, 2, []), (.iload 6, 2, []), (.iload_n 3, 1, []), (.if_icmp .eq 14, 3, []), (.aload_n 0, 1, []), (.getfield 9, 3, [4, 0, 2, 1, 0, 402]), (.iload 6, 2, []), (.iaload, 1, []), (.iconst (-1), 1, []), (.if_icmp .ne 5, 3, [])]),
  (57, [false, false, false, false, false, false, false], [(.iconst (-1), 1, []), (.ireturn, 1, [])]),
  (59, [true, true, true, true, true, true, true], [(.iload 4, 2, []), (.aload_n 0, 1, []), (.getfield 9, 3, [4, 0, 2, 1, 0, 402]), (.iload 6, 2, []), (.iaload, 1, []), (.invokestatic 36, 3, [187, 2, 0, 0, 1, 1150]), (.istore 4, 2, [])]),
  (73, [true, true, true, true, true, true, false], [(.iinc 5 1, 3, []), (.goto (-70), 3, [])]),
  (79, [false, false, false, false, true, false, false], [(.iload 4, 2, []), (.iconst 1, 1, []), (.iadd, 1, []), (.ireturn, 1, [])])]
/-- SlipRoom$Settling.leftBy -/
noncomputable def z_b41 : z_B := [
  (0, [true, true, true, true, false, false], [(.iconst 0, 1, []), (.istore 4, 2, []), (.iconst 0, 1, []), (.istore 5, 2, [])]),
  (6, [true, true, true, true, true, true], [(.iload 5, 2, []), (.bipush 6, 2, []), (.if_icmp .ge 41, 3, []), (.iload_n 2, 1, []), (.iload 5, 2, []), (.ishr, 1, []), (.iconst 1, 1, []), (.iand, 1, []), (.iconst 1, 1, []), (.if_icmp .ne 25, 3, []), (.aload_n 0, 1, []), (.iload 5, 2, []), (.bipush 10, 2, []), (.imul, 1, []), (.iload_n 1, 1, []), (.iadd, 1, []), (.iaload, 1, []), (.iload_n 3, 1, []), (.if_icmp .ne 12, 3, []), (.iload 4, 2, []), (.iconst 1, 1, []), (.iload 5, 2, []), (.ishl, 1, []), (.ior, 1, []), (.istore 4, 2, [])]),
  (45, [true, true, true, true, true, true], [(.iinc 5 1, 3, []), (.goto (-42), 3, [])]),
  (51, [false, false, false, false, true, false], [(.iload 4, 2, []), (.ireturn, 1, [])])]
/-- SlipRoom$Sharing.gather -/
noncomputable def z_b42 : z_B := [
  (0, [true, true, true, true, false, false], [(.aload_n 0, 1, []), (.aload_n 1, 1, []), (.putfield 41, 3, [5, 0, 1, 0, 0, 343]), (.aload_n 0, 1, []), (.iconst 0, 1, []), (.putfield 9, 3, [5, 1, 0, 0, 0, 344]), (.iconst 0, 1, []), (.istore 4, 2, [])]),
  (13, [true, false, true, true, true, false], [(.iload 4, 2, []), (.aload_n 2, 1, []), (.getfield 45, 3, [1, 10, 0, 0, 1, 270]), (.if_icmp .ge 26, 3, []), (.aload_n 2, 1, []), (.iload 4, 2, []), (.invokevirtual 48, 3, [17, 2, 2, 1, 1, 988]), (.iload_n 3, 1, []), (.if_icmp .ne 10, 3, []), (.aload_n 0, 1, []), (.aload_n 2, 1, []), (.iload 4, 2, []), (.invokevirtual 52, 3, [48, 3, 2, 5, 0, 989])]),
  (39, [true, false, true, true, true, false], [(.iinc 4 1, 3, []), (.goto (-29), 3, [])]),
  (45, [true, false, true, true, false, false], [(.aload_n 0, 1, []), (.getfield 28, 3, [5, 6, 2, 5, 0, 349]), (.iconst 0, 1, []), (.invokestatic 56, 3, [190, 2, 0, 0, 0, 1005]), (.aload_n 0, 1, []), (.getfield 31, 3, [5, 7, 2, 6, 0, 350]), (.iconst 0, 1, []), (.invokestatic 56, 3, [190, 2, 0, 0, 0, 1005]), (.iconst 0, 1, []), (.istore 4, 2, [])]),
  (64, [true, false, true, true, true, false], [(.iload 4, 2, []), (.aload_n 2, 1, []), (.getfield 62, 3, [1, 0, 0, 0, 1, 249]), (.if_icmp .ge 58, 3, []), (.iload 4, 2, []), (.bipush 6, 2, []), (.imul, 1, []), (.istore 5, 2, []), (.aload_n 2, 1, []), (.getfield 65, 3, [1, 1, 2, 1, 1, 252]), (.iload 5, 2, []), (.iconst 1, 1, []), (.iadd, 1, []), (.iaload, 1, []), (.iload_n 3, 1, []), (.if_icmp .ne 32, 3, []), (.aload_n 0, 1, []), (.aload_n 2, 1, []), (.getfield 65, 3, [1, 1, 2, 1, 1, 252]), (.iload 5, 2, []), (.iaload, 1, []), (.aload_n 2, 1, []), (.getfield 65, 3, [1, 1, 2, 1, 1, 252]), (.iload 5, 2, []), (.iconst 2, 1, []), (.iadd, 1, []), (.iaload, 1, []), (.aload_n 2, 1, []), (.getfield 65, 3, [1, 1, 2, 1, 1, 252]), (.iload 5, 2, []), (.iconst 3, 1, []), (.iadd, 1, []), (.iaload, 1, []), (.invokevirtual 68, 3, [49, 4, 2, 5, 0, 1006])]),
  (122, [true, false, true, true, true, false], [(.iinc 4 1, 3, []), (.goto (-61), 3, [])]),
  (128, [true, false, false, false, false, false], [(.iconst 0, 1, []), (.istore 4, 2, [])]),
  (131, [true, false, false, false, true, false], [(.iload 4, 2, []), (.aload_n 0, 1, []), (.getfield 41, 3, [5, 0, 1, 0, 0, 343]), (.getfield 72, 3, [3, 3, 0, 0, 1, 134]), (.if_icmp .ge 15, 3, []), (.aload_n 0, 1, []), (.iload 4, 2, []), (.invokevirtual 77, 3, [50, 2, 2, 5, 0, 1011]), (.iinc 4 1, 3, []), (.goto (-21), 3, [])]),
  (155, [false, false, false, false, false, false], [(.return_, 1, [])])]
/-- SlipRoom$Sharing.waysInAll -/
noncomputable def z_b43 : z_B := [
  (0, [true], [(.aload_n 0, 1, []), (.iconst (-1), 1, []), (.invokevirtual 81, 3, [54, 2, 2, 5, 0, 1034]), (.aload_n 0, 1, []), (.getfield 38, 3, [5, 9, 2, 8, 0, 352]), (.aload_n 0, 1, []), (.invokevirtual 84, 3, [47, 1, 2, 5, 1, 1015]), (.iaload, 1, []), (.ireturn, 1, [])])]
/-- SlipRoom$Sharing.readersOf -/
noncomputable def z_b44 : z_B := [
  (0, [true, true, false, false], [(.iconst 0, 1, []), (.istore_n 2, 1, []), (.iconst 0, 1, []), (.istore_n 3, 1, [])]),
  (4, [true, true, true, true], [(.iload_n 3, 1, []), (.aload_n 0, 1, []), (.getfield 41, 3, [5, 0, 1, 0, 0, 343]), (.getfield 72, 3, [3, 3, 0, 0, 1, 134]), (.if_icmp .ge 24, 3, []), (.aload_n 0, 1, []), (.iload_n 3, 1, []), (.iload_n 1, 1, []), (.invokevirtual 88, 3, [57, 3, 2, 5, 1, 1055]), (.ifCond .eq 9, 3, []), (.iload_n 2, 1, []), (.iconst 1, 1, []), (.iload_n 3, 1, []), (.ishl, 1, []), (.ior, 1, []), (.istore_n 2, 1, [])]),
  (30, [true, true, true, true], [(.iinc 3 1, 3, []), (.goto (-29), 3, [])]),
  (36, [false, false, true, false], [(.iload_n 2, 1, []), (.ireturn, 1, [])])]
/-- SlipRoom$Sharing.endOf -/
noncomputable def z_b45 : z_B := [
  (0, [true, true, true, false, false, false, false], [(.aload_n 0, 1, []), (.iload_n 1, 1, []), (.invokevirtual 81, 3, [54, 2, 2, 5, 0, 1034]), (.iconst (-1), 1, []), (.istore_n 3, 1, []), (.iconst 0, 1, []), (.istore 4, 2, [])]),
  (10, [true, true, true, true, true, false, false], [(.iload 4, 2, []), (.aload_n 0, 1, []), (.invokevirtual 84, 3, [47, 1, 2, 5, 1, 1015]), (.if_icmp .gt 88, 3, []), (.aload_n 0, 1, []), (.iload_n 1, 1, []), (.iload 4, 2, []), (.invokevirtual 92, 3, [56, 3, 2, 5, 1, 1063]), (.ifCond .eq 72, 3, []), (.iload 4, 2, []), (.ifCond .ne 7, 3, []), (.iconst 1, 1, []), (.goto 13, 3, [])]),
  (38, [true, true, true, true, true, false, false], [(.aload_n 0, 1, []), (.getfield 25, 3, [5, 5, 2, 4, 0, 348]), (.iload 4, 2, []), (.invokestatic 95, 3, [53, 1, 0, 0, 1, 1019]), (.iaload, 1, [])]),
  (48, [true, true, true, true, true, false, false], [(.istore 5, 2, []), (.iload_n 2, 1, []), (.ifCond .eq 17, 3, []), (.iload 5, 2, []), (.iload_n 3, 1, []), (.if_icmp .le 7, 3, []), (.iconst 1, 1, []), (.goto 18, 3, [])]),
  (64, [true, true, true, true, true, true, false], [(.iconst 0, 1, []), (.goto 14, 3, [])]),
  (68, [true, true, true, true, true, true, false], [(.iload 5, 2, []), (.iload_n 3, 1, []), (.if_icmp .ge 7, 3, []), (.iconst 1, 1, []), (.goto 4, 3, [])]),
  (78, [true, true, true, true, true, true, false], [(.iconst 0, 1, [])]),
  (79, [true, true, true, true, true, true, false], [(.istore 6, 2, []), (.iload_n 3, 1, []), (.iconst (-1), 1, []), (.if_icmp .eq 8, 3, []), (.iload 6, 2, []), (.ifCond .eq 8, 3, [])]),
  (91, [true, true, true, false, true, true, false], [(.iload 5, 2, []), (.goto 4, 3, [])]),
  (96, [true, true, true, true, true, false, false], [(.iload_n 3, 1, [])]),
  (97, [true, true, true, false, true, false, false], [(.istore_n 3, 1, [])]),
  (98, [true, true, true, true, true, false, false], [(.iinc 4 1, 3, []), (.goto (-91), 3, [])]),
  (104, [false, false, false, true, false, false, false], [(.iload_n 3, 1, []), (.ireturn, 1, [])])]
/-- SlipRoom$Sharing.movedLooks -/
noncomputable def z_b46 : z_B := [
  (0, [true, false, false], [(.aload_n 0, 1, []), (.invokevirtual 98, 3, [43, 1, 2, 5, 1, 1093]), (.ifCond .le 5, 3, []), (.iconst 0, 1, []), (.ireturn, 1, [])]),
  (9, [true, false, false], [(.iconst 0, 1, []), (.istore_n 1, 1, []), (.iconst 0, 1, []), (.istore_n 2, 1, [])]),
  (13, [true, true, true], [(.iload_n 2, 1, []), (.aload_n 0, 1, []), (.getfield 9, 3, [5, 1, 0, 0, 0, 344]), (.if_icmp .ge 36, 3, []), (.aload_n 0, 1, []), (.getfield 38, 3, [5, 9, 2, 8, 0, 352]), (.aload_n 0, 1, []), (.invokevirtual 84, 3, [47, 1, 2, 5, 1, 1015]), (.iconst 1, 1, []), (.iload_n 2, 1, []), (.ishl, 1, []), (.ixor, 1, []), (.iaload, 1, []), (.ifCond .le 14, 3, []), (.iload_n 1, 1, []), (.iconst 1, 1, []), (.aload_n 0, 1, []), (.getfield 15, 3, [5, 2, 2, 1, 0, 345]), (.iload_n 2, 1, []), (.iaload, 1, []), (.ishl, 1, []), (.ior, 1, []), (.istore_n 1, 1, [])]),
  (48, [true, true, true], [(.iinc 2 1, 3, []), (.goto (-38), 3, [])]),
  (54, [false, true, false], [(.iload_n 1, 1, []), (.ireturn, 1, [])])]
/-- SlipRoom$Sharing.allLooks -/
noncomputable def z_b47 : z_B := [
  (0, [true], [(.iconst 1, 1, []), (.aload_n 0, 1, []), (.getfield 9, 3, [5, 1, 0, 0, 0, 344]), (.ishl, 1, []), (.iconst 1, 1, []), (.isub, 1, []), (.ireturn, 1, [])])]
/-- SlipRoom$Sharing.enter -/
noncomputable def z_b48 : z_B := [
  (0, [true, true, true, false], [(.aload_n 0, 1, []), (.getfield 9, 3, [5, 1, 0, 0, 0, 344]), (.bipush 6, 2, []), (.if_icmp .lt 4, 3, []), (.return_, 1, [])]),
  (10, [true, true, true, false], [(.aload_n 0, 1, []), (.getfield 9, 3, [5, 1, 0, 0, 0, 344]), (.istore_n 3, 1, [])]),
  (15, [true, true, true, true], [(.iload_n 3, 1, []), (.ifCond .le 81, 3, []), (.aload_n 0, 1, []), (.getfield 19, 3, [5, 3, 2, 2, 0, 346]), (.iload_n 3, 1, []), (.iconst 1, 1, []), (.isub, 1, []), (.iaload, 1, []), (.aload_n 1, 1, []), (.iload_n 2, 1, []), (.invokevirtual 101, 3, [18, 2, 2, 1, 1, 993]), (.if_icmp .le 65, 3, []), (.aload_n 0, 1, []), (.getfield 15, 3, [5, 2, 2, 1, 0, 345]), (.iload_n 3, 1, []), (.aload_n 0, 1, []), (.getfield 15, 3, [5, 2, 2, 1, 0, 345]), (.iload_n 3, 1, []), (.iconst 1, 1, []), (.isub, 1, []), (.iaload, 1, []), (.iastore, 1, []), (.aload_n 0, 1, []), (.getfield 19, 3, [5, 3, 2, 2, 0, 346]), (.iload_n 3, 1, []), (.aload_n 0, 1, []), (.getfield 19, 3, [5, 3, 2, 2, 0, 346]), (.iload_n 3, 1, []), (.iconst 1, 1, []), (.isub, 1, []), (.iaload, 1, []), (.iastore, 1, []), (.aload_n 0, 1, []), (.getfield 22, 3, [5, 4, 2, 3, 0, 347]), (.iload_n 3, 1, []), (.aload_n 0, 1, []), (.getfield 22, 3, [5, 4, 2, 3, 0, 347]), (.iload_n 3, 1, []), (.iconst 1, 1, []), (.isub, 1, []), (.iaload, 1, []), (.iastore, 1, []), (.aload_n 0, 1, []), (.getfield 25, 3, [5, 5, 2, 4, 0, 348]), (.iload_n 3, 1, []), (.aload_n 0, 1, []), (.getfield 25, 3, [5, 5, 2, 4, 0, 348]), (.iload_n 3, 1, []), (.iconst 1, 1, []), (.isub, 1, []), (.iaload, 1, []), (.iastore, 1, []), (.iinc 3 (-1), 3, []), (.goto (-79), 3, [])]),
  (97, [true, true, true, true], [(.aload_n 0, 1, []), (.getfield 15, 3, [5, 2, 2, 1, 0, 345]), (.iload_n 3, 1, []), (.iload_n 2, 1, []), (.iastore, 1, []), (.aload_n 0, 1, []), (.getfield 19, 3, [5, 3, 2, 2, 0, 346]), (.iload_n 3, 1, []), (.aload_n 1, 1, []), (.iload_n 2, 1, []), (.invokevirtual 101, 3, [18, 2, 2, 1, 1, 993]), (.iastore, 1, []), (.aload_n 0, 1, []), (.getfield 22, 3, [5, 4, 2, 3, 0, 347]), (.iload_n 3, 1, []), (.aload_n 1, 1, []), (.iload_n 2, 1, []), (.invokevirtual 104, 3, [19, 2, 2, 1, 1, 997]), (.iastore, 1, []), (.aload_n 0, 1, []), (.getfield 25, 3, [5, 5, 2, 4, 0, 348]), (.iload_n 3, 1, []), (.aload_n 1, 1, []), (.iload_n 2, 1, []), (.invokevirtual 107, 3, [20, 2, 2, 1, 1, 1001]), (.iastore, 1, []), (.aload_n 0, 1, []), (.dup, 1, []), (.getfield 9, 3, [5, 1, 0, 0, 0, 344]), (.iconst 1, 1, []), (.iadd, 1, []), (.putfield 9, 3, [5, 1, 0, 0, 0, 344]), (.return_, 1, [])])]
/-- SlipRoom$Sharing.addLoan -/
noncomputable def z_b49 : z_B := [
  (0, [true, true, true, true, false, false], [(.iconst 0, 1, []), (.istore 4, 2, [])]),
  (3, [true, true, true, true, true, false], [(.iload 4, 2, []), (.aload_n 0, 1, []), (.getfield 9, 3, [5, 1, 0, 0, 0, 344]), (.if_icmp .ge 63, 3, []), (.iload_n 2, 1, []), (.aload_n 0, 1, []), (.getfield 19, 3, [5, 3, 2, 2, 0, 346]), (.iload 4, 2, []), (.iaload, 1, []), (.if_icmp .ge 46, 3, []), (.iload_n 1, 1, []), (.bipush 6, 2, []), (.imul, 1, []), (.iload 4, 2, []), (.iadd, 1, []), (.istore 5, 2, []), (.aload_n 0, 1, []), (.getfield 28, 3, [5, 6, 2, 5, 0, 349]), (.iload 5, 2, []), (.dup2, 1, []), (.iaload, 1, []), (.iload_n 3, 1, []), (.aload_n 0, 1, []), (.getfield 19, 3, [5, 3, 2, 2, 0, 346]), (.iload 4, 2, []), (.iaload, 1, []), (.iload_n 2, 1, []), (.isub, 1, []), (.invokestatic 110, 3, [188, 2, 0, 0, 1, 1010]), (.iadd, 1, []), (.iastore, 1, []), (.aload_n 0, 1, []), (.getfield 31, 3, [5, 7, 2, 6, 0, 350]), (.iload 5, 2, []), (.dup2, 1, []), (.iaload, 1, []), (.iconst 1, 1, []), (.iadd, 1, []), (.iastore, 1, [])]),
  (66, [true, true, true, true, true, false], [(.iinc 4 1, 3, []), (.goto (-66), 3, [])]),
  (72, [false, false, false, false, false, false], [(.return_, 1, [])])]
/-- SlipRoom$Sharing.findFits -/
noncomputable def z_b50 : z_B := [
  (0, [true, true, false, false, false, false], [(.iload_n 1, 1, []), (.bipush 64, 2, []), (.imul, 1, []), (.istore_n 2, 1, []), (.aload_n 0, 1, []), (.getfield 34, 3, [5, 8, 2, 7, 0, 351]), (.iload_n 2, 1, []), (.iconst 1, 1, []), (.bastore, 1, []), (.iconst 1, 1, []), (.istore_n 3, 1, [])]),
  (14, [true, true, true, true, false, false], [(.iload_n 3, 1, []), (.aload_n 0, 1, []), (.invokevirtual 84, 3, [47, 1, 2, 5, 1, 1015]), (.if_icmp .gt 100, 3, []), (.iload_n 3, 1, []), (.invokestatic 95, 3, [53, 1, 0, 0, 1, 1019]), (.istore 4, 2, []), (.iload_n 3, 1, []), (.iconst 1, 1, []), (.iload 4, 2, []), (.ishl, 1, []), (.ixor, 1, []), (.istore 5, 2, []), (.aload_n 0, 1, []), (.getfield 34, 3, [5, 8, 2, 7, 0, 351]), (.iload_n 2, 1, []), (.iload_n 3, 1, []), (.iadd, 1, []), (.aload_n 0, 1, []), (.getfield 34, 3, [5, 8, 2, 7, 0, 351]), (.iload_n 2, 1, []), (.iload 5, 2, []), (.iadd, 1, []), (.baload, 1, []), (.ifCond .eq 59, 3, []), (.aload_n 0, 1, []), (.getfield 22, 3, [5, 4, 2, 3, 0, 347]), (.iload 4, 2, []), (.iaload, 1, []), (.aload_n 0, 1, []), (.getfield 41, 3, [5, 0, 1, 0, 0, 343]), (.getfield 116, 3, [3, 5, 2, 4, 1, 144]), (.iload_n 1, 1, []), (.iaload, 1, []), (.if_icmp .ne 40, 3, []), (.iload 5, 2, []), (.ifCond .ne 16, 3, []), (.aload_n 0, 1, []), (.iload_n 1, 1, []), (.iload 4, 2, []), (.invokevirtual 117, 3, [51, 3, 2, 5, 1, 1022]), (.ifCond .eq 25, 3, []), (.goto 18, 3, [])]),
  (92, [true, true, true, true, true, true], [(.aload_n 0, 1, []), (.iload_n 1, 1, []), (.iload 5, 2, []), (.invokestatic 95, 3, [53, 1, 0, 0, 1, 1019]), (.iload 4, 2, []), (.invokevirtual 120, 3, [52, 4, 2, 5, 1, 1026]), (.ifCond .eq 7, 3, [])]),
  (107, [true, true, true, true, false, false], [(.iconst 1, 1, []), (.goto 4, 3, [])]),
  (111, [true, true, true, true, false, false], [(.iconst 0, 1, [])]),
  (112, [true, true, true, true, false, false], [(.bastore, 1, []), (.iinc 3 1, 3, []), (.goto (-102), 3, [])]),
  (119, [false, false, false, false, false, false], [(.return_, 1, [])])]
/-- SlipRoom$Sharing.mayBeFirst -/
noncomputable def z_b51 : z_B := [
  (0, [true, true, true], [(.aload_n 0, 1, []), (.getfield 25, 3, [5, 5, 2, 4, 0, 348]), (.iload_n 2, 1, []), (.iaload, 1, []), (.iconst 1, 1, []), (.isub, 1, []), (.aload_n 0, 1, []), (.getfield 41, 3, [5, 0, 1, 0, 0, 343]), (.getfield 124, 3, [3, 4, 2, 3, 1, 140]), (.iload_n 1, 1, []), (.iaload, 1, []), (.aload_n 0, 1, []), (.getfield 28, 3, [5, 6, 2, 5, 0, 349]), (.iload_n 1, 1, []), (.bipush 6, 2, []), (.imul, 1, []), (.iload_n 2, 1, []), (.iadd, 1, []), (.iaload, 1, []), (.imul, 1, []), (.if_icmp .gt 7, 3, []), (.iconst 1, 1, []), (.goto 4, 3, [])]),
  (36, [false, false, false], [(.iconst 0, 1, [])]),
  (37, [false, false, false], [(.ireturn, 1, [])])]
/-- SlipRoom$Sharing.mayFollow -/
noncomputable def z_b52 : z_B := [
  (0, [true, true, true, true, false, false, false, false], [(.iload_n 1, 1, []), (.bipush 6, 2, []), (.imul, 1, []), (.iload_n 3, 1, []), (.iadd, 1, []), (.istore 4, 2, []), (.iload_n 1, 1, []), (.bipush 6, 2, []), (.imul, 1, []), (.iload_n 2, 1, []), (.iadd, 1, []), (.istore 5, 2, []), (.aload_n 0, 1, []), (.getfield 25, 3, [5, 5, 2, 4, 0, 348]), (.iload_n 2, 1, []), (.iaload, 1, []), (.aload_n 0, 1, []), (.getfield 41, 3, [5, 0, 1, 0, 0, 343]), (.getfield 127, 3, [3, 6, 2, 5, 1, 148]), (.iload_n 1, 1, []), (.iaload, 1, []), (.aload_n 0, 1, []), (.getfield 31, 3, [5, 7, 2, 6, 0, 350]), (.iload 4, 2, []), (.iaload, 1, []), (.aload_n 0, 1, []), (.getfield 31, 3, [5, 7, 2, 6, 0, 350]), (.iload 5, 2, []), (.iaload, 1, []), (.isub, 1, []), (.imul, 1, []), (.isub, 1, []), (.istore 6, 2, []), (.aload_n 0, 1, []), (.getfield 25, 3, [5, 5, 2, 4, 0, 348]), (.iload_n 2, 1, []), (.iaload, 1, []), (.aload_n 0, 1, []), (.getfield 41, 3, [5, 0, 1, 0, 0, 343]), (.getfield 124, 3, [3, 4, 2, 3, 1, 140]), (.iload_n 1, 1, []), (.iaload, 1, []), (.aload_n 0, 1, []), (.getfield 28, 3, [5, 6, 2, 5, 0, 349]), (.iload 4, 2, []), (.iaload, 1, []), (.aload_n 0, 1, []), (.getfield 28, 3, [5, 6, 2, 5, 0, 349]), (.iload 5, 2, []), (.iaload, 1, []), (.isub, 1, []), (.imul, 1, []), (.iadd, 1, []), (.istore 7, 2, []), (.aload_n 0, 1, []), (.getfield 19, 3, [5, 3, 2, 2, 0, 346]), (.iload_n 2, 1, []), (.iaload, 1, []), (.aload_n 0, 1, []), (.getfield 19, 3, [5, 3, 2, 2, 0, 346]), (.iload_n 3, 1, []), (.iaload, 1, []), (.if_icmp .ge 29, 3, []), (.aload_n 0, 1, []), (.getfield 25, 3, [5, 5, 2, 4, 0, 348]), (.iload_n 3, 1, []), (.iaload, 1, []), (.iload 6, 2, []), (.if_icmp .lt 18, 3, []), (.aload_n 0, 1, []), (.getfield 25, 3, [5, 5, 2, 4, 0, 348]), (.iload_n 3, 1, []), (.iaload, 1, []), (.iload 7, 2, []), (.if_icmp .gt 7, 3, []), (.iconst 1, 1, []), (.goto 4, 3, [])]),
  (125, [false, false, false, false, false, false, false, false], [(.iconst 0, 1, [])]),
  (126, [false, false, false, false, false, false, false, false], [(.ireturn, 1, [])])]
/-- SlipRoom$Sharing.lastIn -/
noncomputable def z_b53 : z_B := [
  (0, [true, false, false], [(.iconst 0, 1, []), (.istore_n 1, 1, []), (.iconst 0, 1, []), (.istore_n 2, 1, [])]),
  (4, [true, true, true], [(.iload_n 2, 1, []), (.bipush 6, 2, []), (.if_icmp .ge 20, 3, []), (.iload_n 0, 1, []), (.iload_n 2, 1, []), (.ishr, 1, []), (.iconst 1, 1, []), (.iand, 1, []), (.iconst 1, 1, []), (.if_icmp .ne 5, 3, []), (.iload_n 2, 1, []), (.istore_n 1, 1, [])]),
  (21, [true, true, true], [(.iinc 2 1, 3, []), (.goto (-20), 3, [])]),
  (27, [false, true, false], [(.iload_n 1, 1, []), (.ireturn, 1, [])])]
/-- SlipRoom$Sharing.split -/
noncomputable def z_b54 : z_B := [
  (0, [true, true, false], [(.aload_n 0, 1, []), (.getfield 38, 3, [5, 9, 2, 8, 0, 352]), (.iconst 0, 1, []), (.invokestatic 56, 3, [190, 2, 0, 0, 0, 1005]), (.aload_n 0, 1, []), (.getfield 38, 3, [5, 9, 2, 8, 0, 352]), (.iconst 0, 1, []), (.iconst 1, 1, []), (.iastore, 1, []), (.iconst 0, 1, []), (.istore_n 2, 1, [])]),
  (17, [true, true, true], [(.iload_n 2, 1, []), (.aload_n 0, 1, []), (.getfield 41, 3, [5, 0, 1, 0, 0, 343]), (.getfield 72, 3, [3, 3, 0, 0, 1, 134]), (.if_icmp .ge 19, 3, []), (.iload_n 2, 1, []), (.iload_n 1, 1, []), (.if_icmp .eq 8, 3, []), (.aload_n 0, 1, []), (.iload_n 2, 1, []), (.invokevirtual 130, 3, [55, 2, 2, 5, 0, 1038])]),
  (38, [true, true, true], [(.iinc 2 1, 3, []), (.goto (-24), 3, [])]),
  (44, [false, false, false], [(.return_, 1, [])])]
/-- SlipRoom$Sharing.addSharer -/
noncomputable def z_b55 : z_B := [
  (0, [true, true, false, false, false], [(.iload_n 1, 1, []), (.bipush 64, 2, []), (.imul, 1, []), (.istore_n 2, 1, []), (.aload_n 0, 1, []), (.invokevirtual 84, 3, [47, 1, 2, 5, 1, 1015]), (.istore_n 3, 1, [])]),
  (10, [true, false, true, true, false], [(.iload_n 3, 1, []), (.ifCond .le 58, 3, []), (.iload_n 3, 1, []), (.istore 4, 2, [])]),
  (17, [true, false, true, true, true], [(.iload 4, 2, []), (.ifCond .le 44, 3, []), (.aload_n 0, 1, []), (.getfield 34, 3, [5, 8, 2, 7, 0, 351]), (.iload_n 2, 1, []), (.iload 4, 2, []), (.iadd, 1, []), (.baload, 1, []), (.ifCond .eq 21, 3, []), (.aload_n 0, 1, []), (.getfield 38, 3, [5, 9, 2, 8, 0, 352]), (.iload_n 3, 1, []), (.dup2, 1, []), (.iaload, 1, []), (.aload_n 0, 1, []), (.getfield 38, 3, [5, 9, 2, 8, 0, 352]), (.iload_n 3, 1, []), (.iload 4, 2, []), (.ixor, 1, []), (.iaload, 1, []), (.iadd, 1, []), (.iastore, 1, [])]),
  (52, [true, false, true, true, true], [(.iload 4, 2, []), (.iconst 1, 1, []), (.isub, 1, []), (.iload_n 3, 1, []), (.iand, 1, []), (.istore 4, 2, []), (.goto (-43), 3, [])]),
  (63, [true, false, true, true, false], [(.iinc 3 (-1), 3, []), (.goto (-56), 3, [])]),
  (69, [false, false, false, false, false], [(.return_, 1, [])])]
/-- SlipRoom$Sharing.happens -/
noncomputable def z_b56 : z_B := [
  (0, [true, true, true], [(.aload_n 0, 1, []), (.getfield 34, 3, [5, 8, 2, 7, 0, 351]), (.iload_n 1, 1, []), (.bipush 64, 2, []), (.imul, 1, []), (.iload_n 2, 1, []), (.iadd, 1, []), (.baload, 1, []), (.ifCond .eq 21, 3, []), (.aload_n 0, 1, []), (.getfield 38, 3, [5, 9, 2, 8, 0, 352]), (.aload_n 0, 1, []), (.invokevirtual 84, 3, [47, 1, 2, 5, 1, 1015]), (.iload_n 2, 1, []), (.ixor, 1, []), (.iaload, 1, []), (.ifCond .le 7, 3, []), (.iconst 1, 1, []), (.goto 4, 3, [])]),
  (32, [false, false, false], [(.iconst 0, 1, [])]),
  (33, [false, false, false], [(.ireturn, 1, [])])]
/-- SlipRoom$Sharing.mayHave -/
noncomputable def z_b57 : z_B := [
  (0, [true, true, true, false, false], [(.aload_n 0, 1, []), (.iload_n 1, 1, []), (.invokevirtual 81, 3, [54, 2, 2, 5, 0, 1034]), (.iconst 0, 1, []), (.istore_n 3, 1, []), (.iconst 1, 1, []), (.istore 4, 2, [])]),
  (10, [true, true, true, true, true], [(.iload 4, 2, []), (.aload_n 0, 1, []), (.invokevirtual 84, 3, [47, 1, 2, 5, 1, 1015]), (.if_icmp .gt 39, 3, []), (.iload_n 3, 1, []), (.ifCond .ne 23, 3, []), (.aload_n 0, 1, []), (.iload 4, 2, []), (.iload_n 2, 1, []), (.invokevirtual 133, 3, [58, 3, 2, 5, 1, 1059]), (.ifCond .eq 17, 3, []), (.aload_n 0, 1, []), (.iload_n 1, 1, []), (.iload 4, 2, []), (.invokevirtual 92, 3, [56, 3, 2, 5, 1, 1063]), (.ifCond .eq 7, 3, [])]),
  (43, [true, true, true, false, true], [(.iconst 1, 1, []), (.goto 4, 3, [])]),
  (47, [true, true, true, false, true], [(.iconst 0, 1, [])]),
  (48, [true, true, true, false, true], [(.istore_n 3, 1, []), (.iinc 4 1, 3, []), (.goto (-42), 3, [])]),
  (55, [false, false, false, true, false], [(.iload_n 3, 1, []), (.ireturn, 1, [])])]
/-- SlipRoom$Sharing.holds -/
noncomputable def z_b58 : z_B := [
  (0, [true, true, true, false, false], [(.iconst 0, 1, []), (.istore_n 3, 1, []), (.iconst 0, 1, []), (.istore 4, 2, [])]),
  (5, [true, true, true, true, true], [(.iload 4, 2, []), (.aload_n 0, 1, []), (.getfield 9, 3, [5, 1, 0, 0, 0, 344]), (.if_icmp .ge 40, 3, []), (.iload_n 3, 1, []), (.ifCond .ne 24, 3, []), (.aload_n 0, 1, []), (.getfield 15, 3, [5, 2, 2, 1, 0, 345]), (.iload 4, 2, []), (.iaload, 1, []), (.iload_n 2, 1, []), (.if_icmp .ne 17, 3, []), (.iload_n 1, 1, []), (.iload 4, 2, []), (.ishr, 1, []), (.iconst 1, 1, []), (.iand, 1, []), (.iconst 1, 1, []), (.if_icmp .ne 7, 3, [])]),
  (39, [true, true, true, false, true], [(.iconst 1, 1, []), (.goto 4, 3, [])]),
  (43, [true, true, true, false, true], [(.iconst 0, 1, [])]),
  (44, [true, true, true, false, true], [(.istore_n 3, 1, []), (.iinc 4 1, 3, []), (.goto (-43), 3, [])]),
  (51, [false, false, false, true, false], [(.iload_n 3, 1, []), (.ireturn, 1, [])])]
/-- SlipRoom$Tokens.begin -/
noncomputable def z_b59 : z_B := [
  (0, [true, true], [(.aload_n 0, 1, []), (.iload_n 1, 1, []), (.aload_n 0, 1, []), (.getfield 36, 3, [6, 0, 3, 1, 0, 203]), (.arraylength, 1, []), (.invokestatic 40, 3, [188, 2, 0, 0, 1, 581]), (.putfield 9, 3, [6, 1, 0, 0, 0, 204]), (.aload_n 0, 1, []), (.iconst 0, 1, []), (.putfield 15, 3, [6, 2, 0, 0, 0, 205]), (.aload_n 0, 1, []), (.invokevirtual 46, 3, [61, 1, 2, 6, 0, 584]), (.return_, 1, [])])]
/-- SlipRoom$Tokens.stop -/
noncomputable def z_b60 : z_B := [
  (0, [true], [(.aload_n 0, 1, []), (.aload_n 0, 1, []), (.getfield 9, 3, [6, 1, 0, 0, 0, 204]), (.putfield 15, 3, [6, 2, 0, 0, 0, 205]), (.aload_n 0, 1, []), (.iconst 0, 1, []), (.putfield 18, 3, [6, 3, 0, 0, 0, 206]), (.aload_n 0, 1, []), (.getstatic 27, 3, [1000, 0, 201]), (.putfield 33, 3, [6, 6, 1, 0, 0, 212]), (.return_, 1, [])])]
/-- SlipRoom$Tokens.advance -/
noncomputable def z_b61 : z_B := [
  (0, [true], [(.aload_n 0, 1, []), (.getstatic 27, 3, [1000, 0, 201]), (.putfield 33, 3, [6, 6, 1, 0, 0, 212]), (.aload_n 0, 1, []), (.iconst 0, 1, []), (.putfield 24, 3, [6, 5, 0, 0, 0, 210]), (.aload_n 0, 1, []), (.aload_n 0, 1, []), (.invokevirtual 49, 3, [64, 1, 2, 6, 1, 588]), (.putfield 21, 3, [6, 4, 0, 0, 0, 208]), (.aload_n 0, 1, []), (.aload_n 0, 1, []), (.getfield 21, 3, [6, 4, 0, 0, 0, 208]), (.putfield 15, 3, [6, 2, 0, 0, 0, 205]), (.aload_n 0, 1, []), (.getfield 21, 3, [6, 4, 0, 0, 0, 208]), (.aload_n 0, 1, []), (.getfield 9, 3, [6, 1, 0, 0, 0, 204]), (.if_icmp .lt 11, 3, []), (.aload_n 0, 1, []), (.iconst 0, 1, []), (.putfield 18, 3, [6, 3, 0, 0, 0, 206]), (.goto 118, 3, [])]),
  (47, [true], [(.aload_n 0, 1, []), (.getfield 36, 3, [6, 0, 3, 1, 0, 203]), (.aload_n 0, 1, []), (.getfield 21, 3, [6, 4, 0, 0, 0, 208]), (.baload, 1, []), (.invokestatic 53, 3, [67, 1, 0, 0, 1, 592]), (.ifCond .eq 34, 3, []), (.aload_n 0, 1, []), (.iconst 2, 1, []), (.putfield 18, 3, [6, 3, 0, 0, 0, 206]), (.aload_n 0, 1, []), (.invokevirtual 57, 3, [65, 1, 2, 6, 0, 595]), (.aload_n 0, 1, []), (.aload_n 0, 1, []), (.getfield 36, 3, [6, 0, 3, 1, 0, 203]), (.aload_n 0, 1, []), (.getfield 21, 3, [6, 4, 0, 0, 0, 208]), (.aload_n 0, 1, []), (.getfield 15, 3, [6, 2, 0, 0, 0, 205]), (.invokestatic 60, 3, [73, 3, 0, 0, 3, 599]), (.putfield 33, 3, [6, 6, 1, 0, 0, 212]), (.goto 72, 3, [])]),
  (93, [true], [(.aload_n 0, 1, []), (.getfield 36, 3, [6, 0, 3, 1, 0, 203]), (.aload_n 0, 1, []), (.getfield 21, 3, [6, 4, 0, 0, 0, 208]), (.baload, 1, []), (.invokestatic 64, 3, [68, 1, 0, 0, 1, 653]), (.ifCond .eq 15, 3, []), (.aload_n 0, 1, []), (.iconst 1, 1, []), (.putfield 18, 3, [6, 3, 0, 0, 0, 206]), (.aload_n 0, 1, []), (.invokevirtual 67, 3, [66, 1, 2, 6, 0, 656]), (.goto 45, 3, [])]),
  (120, [true], [(.aload_n 0, 1, []), (.aload_n 0, 1, []), (.getfield 36, 3, [6, 0, 3, 1, 0, 203]), (.aload_n 0, 1, []), (.getfield 21, 3, [6, 4, 0, 0, 0, 208]), (.baload, 1, []), (.invokestatic 70, 3, [69, 1, 0, 0, 1, 660]), (.ifCond .eq 15, 3, []), (.aload_n 0, 1, []), (.getfield 36, 3, [6, 0, 3, 1, 0, 203]), (.aload_n 0, 1, []), (.getfield 21, 3, [6, 4, 0, 0, 0, 208]), (.baload, 1, []), (.goto 4, 3, [])]),
  (148, [true], [(.iconst 3, 1, [])]),
  (149, [true], [(.putfield 18, 3, [6, 3, 0, 0, 0, 206]), (.aload_n 0, 1, []), (.dup, 1, []), (.getfield 15, 3, [6, 2, 0, 0, 0, 205]), (.iconst 1, 1, []), (.iadd, 1, []), (.putfield 15, 3, [6, 2, 0, 0, 0, 205])]),
  (162, [false], [(.return_, 1, [])])]
/-- SlipRoom$Tokens.joins -/
noncomputable def z_b62 : z_B := [
  (0, [true], [(.aload_n 0, 1, []), (.getfield 18, 3, [6, 3, 0, 0, 0, 206]), (.tableswitch 102 42 61 #[96, 98, 102, 98, 102, 96, 102, 102, 102, 102, 102, 102, 102, 102, 102, 102, 102, 102, 100, 100], 96, [])]),
  (100, [false], [(.iconst 4, 1, []), (.ireturn, 1, [])]),
  (102, [false], [(.iconst 3, 1, []), (.ireturn, 1, [])]),
  (104, [false], [(.iconst 2, 1, []), (.ireturn, 1, [])]),
  (106, [true], [(.aload_n 0, 1, []), (.getfield 33, 3, [6, 6, 1, 0, 0, 212]), (.getstatic 73, 3, [1009, 0, 736]), (.if_acmp .ne 7, 3, []), (.iconst 1, 1, []), (.goto 18, 3, [])]),
  (120, [true], [(.aload_n 0, 1, []), (.getfield 33, 3, [6, 6, 1, 0, 0, 212]), (.getstatic 76, 3, [1008, 0, 738]), (.if_acmp .ne 7, 3, []), (.iconst 0, 1, []), (.goto 4, 3, [])]),
  (134, [false], [(.iconst (-1), 1, [])]),
  (135, [false], [(.ireturn, 1, [])])]
/-- SlipRoom$Tokens.operation -/
noncomputable def z_b63 : z_B := [
  (0, [true], [(.aload_n 0, 1, []), (.getfield 33, 3, [6, 6, 1, 0, 0, 212]), (.getstatic 73, 3, [1009, 0, 736]), (.if_acmp .ne 8, 3, []), (.bipush 38, 2, []), (.goto 22, 3, [])]),
  (15, [true], [(.aload_n 0, 1, []), (.getfield 33, 3, [6, 6, 1, 0, 0, 212]), (.getstatic 76, 3, [1008, 0, 738]), (.if_acmp .ne 8, 3, []), (.bipush 124, 2, []), (.goto 7, 3, [])]),
  (30, [true], [(.aload_n 0, 1, []), (.getfield 18, 3, [6, 3, 0, 0, 0, 206])]),
  (34, [false], [(.ireturn, 1, [])])]
/-- SlipRoom$Tokens.behindBlanks -/
noncomputable def z_b64 : z_B := [
  (0, [true, false], [(.aload_n 0, 1, []), (.getfield 15, 3, [6, 2, 0, 0, 0, 205]), (.istore_n 1, 1, [])]),
  (5, [true, true], [(.iload_n 1, 1, []), (.aload_n 0, 1, []), (.getfield 9, 3, [6, 1, 0, 0, 0, 204]), (.if_icmp .ge 31, 3, []), (.aload_n 0, 1, []), (.getfield 36, 3, [6, 0, 3, 1, 0, 203]), (.iload_n 1, 1, []), (.baload, 1, []), (.bipush 32, 2, []), (.if_icmp .eq 14, 3, []), (.aload_n 0, 1, []), (.getfield 36, 3, [6, 0, 3, 1, 0, 203]), (.iload_n 1, 1, []), (.baload, 1, []), (.bipush 10, 2, []), (.if_icmp .ne 9, 3, [])]),
  (35, [true, true], [(.iinc 1 1, 3, []), (.goto (-33), 3, [])]),
  (41, [false, true], [(.iload_n 1, 1, []), (.ireturn, 1, [])])]
/-- SlipRoom$Tokens.passLetters -/
noncomputable def z_b65 : z_B := [
  (0, [true], [(.aload_n 0, 1, []), (.getfield 15, 3, [6, 2, 0, 0, 0, 205]), (.aload_n 0, 1, []), (.getfield 9, 3, [6, 1, 0, 0, 0, 204]), (.if_icmp .ge 31, 3, []), (.aload_n 0, 1, []), (.getfield 36, 3, [6, 0, 3, 1, 0, 203]), (.aload_n 0, 1, []), (.getfield 15, 3, [6, 2, 0, 0, 0, 205]), (.baload, 1, []), (.invokestatic 53, 3, [67, 1, 0, 0, 1, 592]), (.ifCond .eq 16, 3, []), (.aload_n 0, 1, []), (.dup, 1, []), (.getfield 15, 3, [6, 2, 0, 0, 0, 205]), (.iconst 1, 1, []), (.iadd, 1, []), (.putfield 15, 3, [6, 2, 0, 0, 0, 205]), (.goto (-36), 3, [])]),
  (39, [false], [(.return_, 1, [])])]
/-- SlipRoom$Tokens.passDigits -/
noncomputable def z_b66 : z_B := [
  (0, [true], [(.aload_n 0, 1, []), (.getfield 15, 3, [6, 2, 0, 0, 0, 205]), (.aload_n 0, 1, []), (.getfield 9, 3, [6, 1, 0, 0, 0, 204]), (.if_icmp .ge 61, 3, []), (.aload_n 0, 1, []), (.getfield 36, 3, [6, 0, 3, 1, 0, 203]), (.aload_n 0, 1, []), (.getfield 15, 3, [6, 2, 0, 0, 0, 205]), (.baload, 1, []), (.invokestatic 64, 3, [68, 1, 0, 0, 1, 653]), (.ifCond .eq 46, 3, []), (.aload_n 0, 1, []), (.sipush 10000, 3, []), (.aload_n 0, 1, []), (.getfield 24, 3, [6, 5, 0, 0, 0, 210]), (.bipush 10, 2, []), (.imul, 1, []), (.aload_n 0, 1, []), (.getfield 36, 3, [6, 0, 3, 1, 0, 203]), (.aload_n 0, 1, []), (.getfield 15, 3, [6, 2, 0, 0, 0, 205]), (.baload, 1, []), (.iadd, 1, []), (.bipush 48, 2, []), (.isub, 1, []), (.invokestatic 40, 3, [188, 2, 0, 0, 1, 581]), (.putfield 24, 3, [6, 5, 0, 0, 0, 210]), (.aload_n 0, 1, []), (.dup, 1, []), (.getfield 15, 3, [6, 2, 0, 0, 0, 205]), (.iconst 1, 1, []), (.iadd, 1, []), (.putfield 15, 3, [6, 2, 0, 0, 0, 205]), (.goto (-66), 3, [])]),
  (69, [true], [(.aload_n 0, 1, []), (.getfield 15, 3, [6, 2, 0, 0, 0, 205]), (.aload_n 0, 1, []), (.getfield 21, 3, [6, 4, 0, 0, 0, 208]), (.isub, 1, []), (.iconst 4, 1, []), (.if_icmp .le 10, 3, []), (.aload_n 0, 1, []), (.sipush 10000, 3, []), (.putfield 24, 3, [6, 5, 0, 0, 0, 210])]),
  (89, [false], [(.return_, 1, [])])]
/-- SlipRoom$Tokens.isLetter -/
noncomputable def z_b67 : z_B := [
  (0, [true], [(.iload_n 0, 1, []), (.bipush 97, 2, []), (.if_icmp .lt 13, 3, []), (.iload_n 0, 1, []), (.bipush 122, 2, []), (.if_icmp .gt 7, 3, []), (.iconst 1, 1, []), (.goto 4, 3, [])]),
  (16, [false], [(.iconst 0, 1, [])]),
  (17, [false], [(.ireturn, 1, [])])]
/-- SlipRoom$Tokens.isDigit -/
noncomputable def z_b68 : z_B := [
  (0, [true], [(.iload_n 0, 1, []), (.bipush 48, 2, []), (.if_icmp .lt 13, 3, []), (.iload_n 0, 1, []), (.bipush 57, 2, []), (.if_icmp .gt 7, 3, []), (.iconst 1, 1, []), (.goto 4, 3, [])]),
  (16, [false], [(.iconst 0, 1, [])]),
  (17, [false], [(.ireturn, 1, [])])]
/-- SlipRoom$Tokens.isSign -/
noncomputable def z_b69 : z_B := [
  (0, [true], [(.iload_n 0, 1, []), (.tableswitch 105 40 61 #[103, 103, 103, 103, 105, 103, 105, 103, 105, 105, 105, 105, 105, 105, 105, 105, 105, 105, 105, 103, 103, 103], 103, [])]),
  (104, [false], [(.iconst 1, 1, []), (.ireturn, 1, [])]),
  (106, [false], [(.iconst 0, 1, []), (.ireturn, 1, [])])]
/-- SlipRoom$Turns.clear -/
noncomputable def z_b70 : z_B := [
  (0, [true], [(.aload_n 0, 1, []), (.iconst 0, 1, []), (.putfield 15, 3, [7, 1, 0, 0, 0, 383]), (.return_, 1, [])])]
/-- SlipRoom$Turns.arrange -/
noncomputable def z_b71 : z_B := [
  (0, [true, true], [(.aload_n 0, 1, []), (.ldc 25, 2, [0, 1000000, 471]), (.putfield 22, 3, [7, 3, 0, 0, 0, 386]), (.aload_n 0, 1, []), (.aload_n 1, 1, []), (.getfield 26, 3, [1, 12, 0, 0, 1, 274]), (.putfield 15, 3, [7, 1, 0, 0, 0, 383]), (.aload_n 0, 1, []), (.aload_n 1, 1, []), (.iconst 0, 1, []), (.iconst 0, 1, []), (.iconst 0, 1, []), (.iconst 0, 1, []), (.invokevirtual 31, 3, [72, 6, 2, 7, 0, 472]), (.aload_n 0, 1, []), (.getfield 22, 3, [7, 3, 0, 0, 0, 386]), (.ireturn, 1, [])])]
/-- SlipRoom$Turns.place -/
noncomputable def z_b72 : z_B := [
  (0, [true, true, true, true, true, true, false, false, false], [(.iload 5, 2, []), (.aload_n 0, 1, []), (.getfield 22, 3, [7, 3, 0, 0, 0, 386]), (.if_icmp .lt 4, 3, []), (.return_, 1, [])]),
  (10, [true, true, true, true, true, true, false, false, false], [(.iload_n 2, 1, []), (.aload_n 1, 1, []), (.getfield 26, 3, [1, 12, 0, 0, 1, 274]), (.if_icmp .ge 9, 3, []), (.iload_n 2, 1, []), (.bipush 7, 2, []), (.if_icmp .lt 27, 3, [])]),
  (24, [true, false, false, false, false, true, false, false, false], [(.aload_n 0, 1, []), (.iload 5, 2, []), (.putfield 22, 3, [7, 3, 0, 0, 0, 386]), (.aload_n 0, 1, []), (.getfield 19, 3, [7, 2, 2, 2, 0, 385]), (.iconst 0, 1, []), (.aload_n 0, 1, []), (.getfield 9, 3, [7, 0, 2, 1, 0, 381]), (.iconst 0, 1, []), (.aload_n 0, 1, []), (.getfield 15, 3, [7, 1, 0, 0, 0, 383]), (.invokestatic 35, 3, [0, 5, 6, 0, 0, 476]), (.return_, 1, [])]),
  (48, [true, true, true, true, true, true, false, false, false], [(.iconst 0, 1, []), (.istore 6, 2, [])]),
  (51, [true, true, true, true, true, true, true, false, false], [(.iload 6, 2, []), (.aload_n 1, 1, []), (.getfield 26, 3, [1, 12, 0, 0, 1, 274]), (.if_icmp .ge 76, 3, []), (.iload_n 3, 1, []), (.iload 6, 2, []), (.ishr, 1, []), (.iconst 1, 1, []), (.iand, 1, []), (.ifCond .ne 61, 3, []), (.aload_n 1, 1, []), (.getfield 41, 3, [1, 14, 2, 11, 1, 279]), (.iload 6, 2, []), (.iaload, 1, []), (.istore 7, 2, []), (.iload 4, 2, []), (.iload 7, 2, []), (.invokestatic 44, 3, [187, 2, 0, 0, 1, 479]), (.istore 8, 2, []), (.aload_n 0, 1, []), (.getfield 19, 3, [7, 2, 2, 2, 0, 385]), (.iload_n 2, 1, []), (.iload 6, 2, []), (.iastore, 1, []), (.aload_n 0, 1, []), (.aload_n 1, 1, []), (.iload_n 2, 1, []), (.iconst 1, 1, []), (.iadd, 1, []), (.iload_n 3, 1, []), (.iconst 1, 1, []), (.iload 6, 2, []), (.ishl, 1, []), (.ior, 1, []), (.iload 8, 2, []), (.aload_n 1, 1, []), (.getfield 50, 3, [1, 13, 2, 10, 1, 277]), (.iload 6, 2, []), (.iaload, 1, []), (.iadd, 1, []), (.iload 5, 2, []), (.iload 8, 2, []), (.iadd, 1, []), (.iload 7, 2, []), (.isub, 1, []), (.invokevirtual 31, 3, [72, 6, 2, 7, 0, 472])]),
  (127, [true, true, true, true, true, true, true, false, false], [(.iinc 6 1, 3, []), (.goto (-79), 3, [])]),
  (133, [false, false, false, false, false, false, false, false, false], [(.return_, 1, [])])]
/-- SlipRoom$Word.find -/
noncomputable def z_b73 : z_B := [
  (0, [true, true, true, false, false, false], [(.iconst 0, 1, []), (.istore_n 3, 1, [])]),
  (2, [true, true, true, true, false, false], [(.iload_n 3, 1, []), (.getstatic 84, 3, [1100, 0, 602]), (.arraylength, 1, []), (.if_icmp .ge 86, 3, []), (.getstatic 84, 3, [1100, 0, 602]), (.iload_n 3, 1, []), (.aaload, 1, []), (.getfield 76, 3, [10, 0, 4, 0, 0, 1703]), (.astore 4, 2, []), (.iconst 0, 1, []), (.istore 5, 2, [])]),
  (23, [true, true, true, true, true, true], [(.iload 5, 2, []), (.aload 4, 2, []), (.invokevirtual 87, 3, [0, 1, 7, 0, 1, 604]), (.if_icmp .ge 33, 3, []), (.iload_n 1, 1, []), (.iload 5, 2, []), (.iadd, 1, []), (.iload_n 2, 1, []), (.if_icmp .ge 25, 3, []), (.aload_n 0, 1, []), (.iload_n 1, 1, []), (.iload 5, 2, []), (.iadd, 1, []), (.baload, 1, []), (.aload 4, 2, []), (.iload 5, 2, []), (.invokevirtual 93, 3, [0, 2, 8, 0, 1, 614]), (.if_icmp .ne 9, 3, []), (.iinc 5 1, 3, []), (.goto (-37), 3, [])]),
  (63, [true, true, true, true, true, true], [(.iload 5, 2, []), (.aload 4, 2, []), (.invokevirtual 87, 3, [0, 1, 7, 0, 1, 604]), (.if_icmp .ne 17, 3, []), (.iload_n 1, 1, []), (.iload 5, 2, []), (.iadd, 1, []), (.iload_n 2, 1, []), (.if_icmp .ne 9, 3, []), (.getstatic 84, 3, [1100, 0, 602]), (.iload_n 3, 1, []), (.aaload, 1, []), (.areturn, 1, [])]),
  (87, [true, true, true, true, false, false], [(.iinc 3 1, 3, []), (.goto (-88), 3, [])]),
  (93, [false, false, false, false, false, false], [(.getstatic 5, 3, [1000, 0, 652]), (.areturn, 1, [])])]
/-- SlipRoom.feed -/
noncomputable def z_b74 : z_B := [
  (0, [true, true, true, true, true, true], [(.aload_n 0, 1, []), (.getfield 13, 3, [8, 1, 0, 0, 0, 412]), (.bipush 20, 2, []), (.iadd, 1, []), (.sipush 700, 3, []), (.if_icmp .le 5, 3, []), (.iconst (-1), 1, []), (.ireturn, 1, [])]),
  (15, [true, true, true, true, true, true], [(.aload_n 0, 1, []), (.iload_n 1, 1, []), (.invokevirtual 83, 3, [99, 2, 2, 8, 0, 455]), (.aload_n 0, 1, []), (.iload_n 2, 1, []), (.invokevirtual 83, 3, [99, 2, 2, 8, 0, 455]), (.aload_n 0, 1, []), (.iload_n 3, 1, []), (.invokevirtual 83, 3, [99, 2, 2, 8, 0, 455]), (.aload_n 0, 1, []), (.iload 4, 2, []), (.invokevirtual 83, 3, [99, 2, 2, 8, 0, 455]), (.aload_n 0, 1, []), (.iload 5, 2, []), (.invokevirtual 83, 3, [99, 2, 2, 8, 0, 455]), (.aload_n 0, 1, []), (.getfield 13, 3, [8, 1, 0, 0, 0, 412]), (.ireturn, 1, [])])]
/-- SlipRoom.room -/
noncomputable def z_b75 : z_B := [
  (0, [true, true, false, false], [(.iload_n 1, 1, []), (.ifCond .lt 11, 3, []), (.iload_n 1, 1, []), (.aload_n 0, 1, []), (.getfield 13, 3, [8, 1, 0, 0, 0, 412]), (.if_icmp .le 13, 3, [])]),
  (12, [false, false, false, false], [(.athrow, 10, [1, 87, 89, 91, 0, 503, 543])]),
  (22, [true, true, false, false], [(.aload_n 0, 1, []), (.iconst 0, 1, []), (.putfield 13, 3, [8, 1, 0, 0, 0, 412]), (.aload_n 0, 1, []), (.getfield 35, 3, [8, 5, 3, 22, 0, 416]), (.iload_n 1, 1, []), (.aload_n 0, 1, []), (.getfield 27, 3, [8, 4, 1, 0, 0, 415]), (.invokevirtual 94, 3, [22, 3, 2, 2, 1, 569]), (.istore_n 2, 1, []), (.aload_n 0, 1, []), (.aload_n 0, 1, []), (.getfield 35, 3, [8, 5, 3, 22, 0, 416]), (.invokevirtual 98, 3, [23, 1, 2, 2, 1, 744]), (.putfield 17, 3, [8, 2, 0, 0, 0, 413]), (.iload_n 2, 1, []), (.ifCond .eq 18, 3, []), (.aload_n 0, 1, []), (.getfield 42, 3, [8, 6, 3, 24, 0, 417]), (.getfield 101, 3, [1, 16, 2, 13, 1, 283]), (.iconst 0, 1, []), (.dup2, 1, []), (.iaload, 1, []), (.iconst 1, 1, []), (.iadd, 1, []), (.iastore, 1, []), (.iload_n 2, 1, []), (.ireturn, 1, [])]),
  (70, [true, false, false, false], [(.aload_n 0, 1, []), (.getfield 23, 3, [8, 3, 1, 0, 0, 414]), (.astore_n 3, 1, []), (.aload_n 0, 1, []), (.aload_n 0, 1, []), (.getfield 27, 3, [8, 4, 1, 0, 0, 415]), (.putfield 23, 3, [8, 3, 1, 0, 0, 414]), (.aload_n 0, 1, []), (.aload_n 3, 1, []), (.putfield 27, 3, [8, 4, 1, 0, 0, 415]), (.aload_n 0, 1, []), (.getfield 42, 3, [8, 6, 3, 24, 0, 417]), (.invokevirtual 105, 3, [5, 1, 2, 1, 0, 748]), (.aload_n 0, 1, []), (.getfield 72, 3, [8, 11, 3, 64, 0, 422]), (.invokevirtual 108, 3, [70, 1, 2, 7, 0, 758]), (.aload_n 0, 1, []), (.iconst 0, 1, []), (.putfield 49, 3, [8, 8, 0, 1, 0, 419]), (.iconst 0, 1, []), (.ireturn, 1, [])])]
/-- SlipRoom.fault -/
noncomputable def z_b76 : z_B := [
  (0, [true], [(.aload_n 0, 1, []), (.getfield 17, 3, [8, 2, 0, 0, 0, 413]), (.ireturn, 1, [])])]
/-- SlipRoom.count -/
noncomputable def z_b77 : z_B := [
  (0, [true, true], [(.iload_n 1, 1, []), (.tableswitch 96 0 6 #[43, 51, 59, 67, 75, 83, 88], 43, [])]),
  (44, [true, false], [(.aload_n 0, 1, []), (.getfield 23, 3, [8, 3, 1, 0, 0, 414]), (.getfield 109, 3, [3, 0, 0, 0, 1, 126]), (.ireturn, 1, [])]),
  (52, [true, false], [(.aload_n 0, 1, []), (.getfield 23, 3, [8, 3, 1, 0, 0, 414]), (.getfield 112, 3, [3, 3, 0, 0, 1, 135]), (.ireturn, 1, [])]),
  (60, [true, false], [(.aload_n 0, 1, []), (.getfield 42, 3, [8, 6, 3, 24, 0, 417]), (.getfield 115, 3, [1, 0, 0, 0, 1, 250]), (.ireturn, 1, [])]),
  (68, [true, false], [(.aload_n 0, 1, []), (.getfield 42, 3, [8, 6, 3, 24, 0, 417]), (.getfield 118, 3, [1, 10, 0, 0, 1, 271]), (.ireturn, 1, [])]),
  (76, [true, false], [(.aload_n 0, 1, []), (.getfield 42, 3, [8, 6, 3, 24, 0, 417]), (.getfield 121, 3, [1, 12, 0, 0, 1, 275]), (.ireturn, 1, [])]),
  (84, [true, false], [(.aload_n 0, 1, []), (.getfield 13, 3, [8, 1, 0, 0, 0, 412]), (.ireturn, 1, [])]),
  (89, [true, false], [(.aload_n 0, 1, []), (.getfield 42, 3, [8, 6, 3, 24, 0, 417]), (.getfield 124, 3, [1, 2, 0, 0, 1, 255]), (.ireturn, 1, [])]),
  (97, [true, true], [(.aload_n 0, 1, []), (.iload_n 1, 1, []), (.invokevirtual 127, 3, [102, 2, 2, 8, 1, 770]), (.ireturn, 1, [])])]
/-- SlipRoom.book -/
noncomputable def z_b78 : z_B := [
  (0, [true, true, true], [(.aload_n 0, 1, []), (.iload_n 1, 1, []), (.invokevirtual 131, 3, [100, 2, 2, 8, 0, 797]), (.iload_n 2, 1, []), (.tableswitch 92 0 4 #[34, 44, 54, 73, 82], 34, [])]),
  (40, [true, true, false], [(.aload_n 0, 1, []), (.getfield 23, 3, [8, 3, 1, 0, 0, 414]), (.getfield 134, 3, [3, 1, 2, 1, 1, 129]), (.iload_n 1, 1, []), (.iaload, 1, []), (.ireturn, 1, [])]),
  (50, [true, true, false], [(.aload_n 0, 1, []), (.getfield 23, 3, [8, 3, 1, 0, 0, 414]), (.getfield 137, 3, [3, 2, 2, 2, 1, 132]), (.iload_n 1, 1, []), (.iaload, 1, []), (.ireturn, 1, [])]),
  (60, [true, true, false], [(.aload_n 0, 1, []), (.getfield 23, 3, [8, 3, 1, 0, 0, 414]), (.getfield 134, 3, [3, 1, 2, 1, 1, 129]), (.iload_n 1, 1, []), (.iaload, 1, []), (.aload_n 0, 1, []), (.getfield 42, 3, [8, 6, 3, 24, 0, 417]), (.iload_n 1, 1, []), (.invokevirtual 140, 3, [9, 2, 2, 1, 1, 802]), (.isub, 1, []), (.ireturn, 1, [])]),
  (79, [true, true, false], [(.aload_n 0, 1, []), (.getfield 42, 3, [8, 6, 3, 24, 0, 417]), (.iload_n 1, 1, []), (.invokevirtual 143, 3, [13, 2, 2, 1, 1, 815]), (.ireturn, 1, [])]),
  (88, [true, true, false], [(.aload_n 0, 1, []), (.getfield 42, 3, [8, 6, 3, 24, 0, 417]), (.getfield 146, 3, [1, 3, 2, 2, 1, 257]), (.iload_n 1, 1, []), (.iaload, 1, []), (.ireturn, 1, [])]),
  (98, [false, false, false], [(.athrow, 10, [0, 149, 151, 153, 0, 774, 819])])]
/-- SlipRoom.reader -/
noncomputable def z_b79 : z_B := [
  (0, [true, true, true], [(.aload_n 0, 1, []), (.iload_n 1, 1, []), (.invokevirtual 154, 3, [101, 2, 2, 8, 0, 827]), (.iload_n 2, 1, []), (.tableswitch 84 0 4 #[34, 44, 54, 64, 74], 34, [])]),
  (40, [true, true, false], [(.aload_n 0, 1, []), (.getfield 23, 3, [8, 3, 1, 0, 0, 414]), (.getfield 157, 3, [3, 4, 2, 3, 1, 139]), (.iload_n 1, 1, []), (.iaload, 1, []), (.ireturn, 1, [])]),
  (50, [true, true, false], [(.aload_n 0, 1, []), (.getfield 23, 3, [8, 3, 1, 0, 0, 414]), (.getfield 160, 3, [3, 5, 2, 4, 1, 143]), (.iload_n 1, 1, []), (.iaload, 1, []), (.ireturn, 1, [])]),
  (60, [true, true, false], [(.aload_n 0, 1, []), (.getfield 23, 3, [8, 3, 1, 0, 0, 414]), (.getfield 163, 3, [3, 6, 2, 5, 1, 147]), (.iload_n 1, 1, []), (.iaload, 1, []), (.ireturn, 1, [])]),
  (70, [true, true, false], [(.aload_n 0, 1, []), (.getfield 23, 3, [8, 3, 1, 0, 0, 414]), (.getfield 166, 3, [3, 7, 2, 6, 1, 151]), (.iload_n 1, 1, []), (.iaload, 1, []), (.ireturn, 1, [])]),
  (80, [true, true, false], [(.aload_n 0, 1, []), (.getfield 42, 3, [8, 6, 3, 24, 0, 417]), (.getfield 169, 3, [1, 4, 2, 3, 1, 259]), (.iload_n 1, 1, []), (.iaload, 1, []), (.ireturn, 1, [])]),
  (90, [false, false, false], [(.athrow, 10, [0, 149, 172, 153, 0, 774, 832])])]
/-- SlipRoom.loan -/
noncomputable def z_b80 : z_B := [
  (0, [true, true, true, true, true, false, false, false], [(.aload_n 0, 1, []), (.iload_n 1, 1, []), (.invokevirtual 154, 3, [101, 2, 2, 8, 0, 827]), (.aload_n 0, 1, []), (.iload_n 2, 1, []), (.invokevirtual 131, 3, [100, 2, 2, 8, 0, 797]), (.aload_n 0, 1, []), (.iload_n 1, 1, []), (.iload_n 2, 1, []), (.iload_n 3, 1, []), (.iload 4, 2, []), (.invokevirtual 174, 3, [105, 5, 2, 8, 1, 840]), (.ifCond .ne 18, 3, []), (.aload_n 0, 1, []), (.getfield 42, 3, [8, 6, 3, 24, 0, 417]), (.getfield 101, 3, [1, 16, 2, 13, 1, 283]), (.iconst 1, 1, []), (.dup2, 1, []), (.iaload, 1, []), (.iconst 1, 1, []), (.iadd, 1, []), (.iastore, 1, []), (.iconst (-1), 1, []), (.ireturn, 1, [])]),
  (37, [true, true, true, true, true, false, false, false], [(.iload_n 1, 1, []), (.iload_n 2, 1, []), (.invokestatic 178, 3, [103, 2, 0, 0, 1, 844]), (.istore 5, 2, []), (.aload_n 0, 1, []), (.iload_n 1, 1, []), (.iload_n 2, 1, []), (.invokevirtual 182, 3, [106, 3, 2, 8, 1, 845]), (.istore 6, 2, []), (.aload_n 0, 1, []), (.getfield 42, 3, [8, 6, 3, 24, 0, 417]), (.getfield 185, 3, [1, 6, 2, 5, 1, 263]), (.iload 5, 2, []), (.iaload, 1, []), (.ifCond .ne 44, 3, []), (.aload_n 0, 1, []), (.getfield 23, 3, [8, 3, 1, 0, 0, 414]), (.getfield 166, 3, [3, 7, 2, 6, 1, 151]), (.iload_n 1, 1, []), (.iaload, 1, []), (.iconst 1, 1, []), (.if_icmp .ne 31, 3, []), (.aload_n 0, 1, []), (.getfield 42, 3, [8, 6, 3, 24, 0, 417]), (.iload 5, 2, []), (.aload_n 0, 1, []), (.getfield 23, 3, [8, 3, 1, 0, 0, 414]), (.getfield 134, 3, [3, 1, 2, 1, 1, 129]), (.iload_n 2, 1, []), (.iaload, 1, []), (.aload_n 0, 1, []), (.getfield 23, 3, [8, 3, 1, 0, 0, 414]), (.getfield 134, 3, [3, 1, 2, 1, 1, 129]), (.iload_n 2, 1, []), (.iaload, 1, []), (.iload_n 3, 1, []), (.invokevirtual 188, 3, [8, 5, 2, 1, 0, 855])]),
  (106, [true, true, true, true, true, true, true, false], [(.aload_n 0, 1, []), (.iload_n 1, 1, []), (.iload_n 2, 1, []), (.iload 6, 2, []), (.iload_n 3, 1, []), (.iload 4, 2, []), (.invokevirtual 192, 3, [107, 6, 2, 8, 1, 863]), (.istore 7, 2, []), (.aload_n 0, 1, []), (.getfield 42, 3, [8, 6, 3, 24, 0, 417]), (.getfield 196, 3, [1, 5, 2, 4, 1, 261]), (.iload 5, 2, []), (.iload 7, 2, []), (.iastore, 1, []), (.aload_n 0, 1, []), (.getfield 42, 3, [8, 6, 3, 24, 0, 417]), (.getfield 185, 3, [1, 6, 2, 5, 1, 263]), (.iload 5, 2, []), (.iload 7, 2, []), (.iastore, 1, []), (.aload_n 0, 1, []), (.getfield 42, 3, [8, 6, 3, 24, 0, 417]), (.iload_n 1, 1, []), (.iload_n 2, 1, []), (.iload_n 3, 1, []), (.iload 4, 2, []), (.iload 6, 2, []), (.iload 7, 2, []), (.iload 6, 2, []), (.isub, 1, []), (.invokevirtual 199, 3, [12, 7, 2, 1, 0, 895]), (.iload 7, 2, []), (.iload 6, 2, []), (.isub, 1, []), (.ireturn, 1, [])])]
/-- SlipRoom.lent -/
noncomputable def z_b81 : z_B := [
  (0, [true, true, true], [(.iload_n 1, 1, []), (.ifCond .lt 24, 3, []), (.iload_n 1, 1, []), (.aload_n 0, 1, []), (.getfield 42, 3, [8, 6, 3, 24, 0, 417]), (.getfield 115, 3, [1, 0, 0, 0, 1, 250]), (.if_icmp .ge 13, 3, []), (.iload_n 2, 1, []), (.ifCond .lt 9, 3, []), (.iload_n 2, 1, []), (.bipush 6, 2, []), (.if_icmp .lt 13, 3, [])]),
  (25, [false, false, false], [(.athrow, 10, [0, 149, 203, 153, 0, 774, 906])]),
  (35, [true, true, true], [(.aload_n 0, 1, []), (.getfield 42, 3, [8, 6, 3, 24, 0, 417]), (.getfield 205, 3, [1, 1, 2, 1, 1, 253]), (.iload_n 1, 1, []), (.bipush 6, 2, []), (.imul, 1, []), (.iload_n 2, 1, []), (.iadd, 1, []), (.iaload, 1, []), (.ireturn, 1, [])])]
/-- SlipRoom.drop -/
noncomputable def z_b82 : z_B := [
  (0, [true, true, true, true], [(.aload_n 0, 1, []), (.iload_n 1, 1, []), (.invokevirtual 131, 3, [100, 2, 2, 8, 0, 797]), (.iload_n 2, 1, []), (.aload_n 0, 1, []), (.getfield 42, 3, [8, 6, 3, 24, 0, 417]), (.getfield 124, 3, [1, 2, 0, 0, 1, 255]), (.if_icmp .lt 35, 3, []), (.iload_n 2, 1, []), (.sipush 8759, 3, []), (.if_icmp .gt 28, 3, []), (.iload_n 2, 1, []), (.aload_n 0, 1, []), (.getfield 42, 3, [8, 6, 3, 24, 0, 417]), (.getfield 146, 3, [1, 3, 2, 2, 1, 257]), (.iload_n 1, 1, []), (.iaload, 1, []), (.if_icmp .lt 15, 3, []), (.iload_n 3, 1, []), (.bipush (-50), 2, []), (.if_icmp .lt 9, 3, []), (.iload_n 3, 1, []), (.bipush 50, 2, []), (.if_icmp .le 18, 3, [])]),
  (48, [true, false, false, false], [(.aload_n 0, 1, []), (.getfield 42, 3, [8, 6, 3, 24, 0, 417]), (.getfield 101, 3, [1, 16, 2, 13, 1, 283]), (.iconst 2, 1, []), (.dup2, 1, []), (.iaload, 1, []), (.iconst 1, 1, []), (.iadd, 1, []), (.iastore, 1, []), (.iconst (-1), 1, []), (.ireturn, 1, [])]),
  (63, [true, true, true, true], [(.aload_n 0, 1, []), (.getfield 42, 3, [8, 6, 3, 24, 0, 417]), (.iload_n 2, 1, []), (.putfield 124, 3, [1, 2, 0, 0, 1, 255]), (.aload_n 0, 1, []), (.getfield 42, 3, [8, 6, 3, 24, 0, 417]), (.iload_n 1, 1, []), (.iload_n 3, 1, []), (.aload_n 0, 1, []), (.getfield 23, 3, [8, 3, 1, 0, 0, 414]), (.getfield 134, 3, [3, 1, 2, 1, 1, 129]), (.iload_n 1, 1, []), (.iaload, 1, []), (.invokevirtual 208, 3, [14, 4, 2, 1, 1, 914]), (.ireturn, 1, [])])]
/-- SlipRoom.slip -/
noncomputable def z_b83 : z_B := [
  (0, [true, true, true], [(.aload_n 0, 1, []), (.iload_n 1, 1, []), (.invokevirtual 154, 3, [101, 2, 2, 8, 0, 827]), (.aload_n 0, 1, []), (.iload_n 2, 1, []), (.invokevirtual 131, 3, [100, 2, 2, 8, 0, 797]), (.aload_n 0, 1, []), (.getfield 42, 3, [8, 6, 3, 24, 0, 417]), (.getfield 196, 3, [1, 5, 2, 4, 1, 261]), (.iload_n 1, 1, []), (.iload_n 2, 1, []), (.invokestatic 178, 3, [103, 2, 0, 0, 1, 844]), (.iaload, 1, []), (.ireturn, 1, [])])]
/-- SlipRoom.read -/
noncomputable def z_b84 : z_B := [
  (0, [true, true, true, true, false], [(.aload_n 0, 1, []), (.iload_n 1, 1, []), (.invokevirtual 154, 3, [101, 2, 2, 8, 0, 827]), (.aload_n 0, 1, []), (.iload_n 2, 1, []), (.invokevirtual 131, 3, [100, 2, 2, 8, 0, 797]), (.iload_n 1, 1, []), (.iload_n 2, 1, []), (.invokestatic 178, 3, [103, 2, 0, 0, 1, 844]), (.istore 4, 2, []), (.iload_n 3, 1, []), (.tableswitch 98 0 3 #[30, 41, 60, 87], 30, [])]),
  (48, [true, false, false, false, true], [(.aload_n 0, 1, []), (.getfield 42, 3, [8, 6, 3, 24, 0, 417]), (.getfield 212, 3, [1, 7, 2, 6, 1, 265]), (.iload 4, 2, []), (.iaload, 1, []), (.ireturn, 1, [])]),
  (59, [true, false, true, false, true], [(.aload_n 0, 1, []), (.getfield 42, 3, [8, 6, 3, 24, 0, 417]), (.iload 4, 2, []), (.aload_n 0, 1, []), (.getfield 23, 3, [8, 3, 1, 0, 0, 414]), (.getfield 134, 3, [3, 1, 2, 1, 1, 129]), (.iload_n 2, 1, []), (.iaload, 1, []), (.invokevirtual 215, 3, [10, 3, 2, 1, 1, 932]), (.ireturn, 1, [])]),
  (78, [true, false, true, false, true], [(.aload_n 0, 1, []), (.getfield 42, 3, [8, 6, 3, 24, 0, 417]), (.iload 4, 2, []), (.aload_n 0, 1, []), (.getfield 23, 3, [8, 3, 1, 0, 0, 414]), (.getfield 134, 3, [3, 1, 2, 1, 1, 129]), (.iload_n 2, 1, []), (.iaload, 1, []), (.invokevirtual 218, 3, [11, 3, 2, 1, 1, 936]), (.ifCond .eq 7, 3, []), (.iconst 1, 1, []), (.goto 4, 3, [])]),
  (103, [false, false, false, false, false], [(.iconst 0, 1, [])]),
  (104, [false, false, false, false, false], [(.ireturn, 1, [])]),
  (105, [true, false, false, false, true], [(.aload_n 0, 1, []), (.getfield 42, 3, [8, 6, 3, 24, 0, 417]), (.getfield 222, 3, [1, 8, 2, 7, 1, 267]), (.iload 4, 2, []), (.iaload, 1, []), (.ireturn, 1, [])]),
  (116, [false, false, false, false, false], [(.athrow, 10, [0, 149, 225, 153, 0, 774, 940])])]
/-- SlipRoom.has -/
noncomputable def z_b85 : z_B := [
  (0, [true, true, true, true], [(.aload_n 0, 1, []), (.iload_n 1, 1, []), (.invokevirtual 154, 3, [101, 2, 2, 8, 0, 827]), (.aload_n 0, 1, []), (.iload_n 2, 1, []), (.invokevirtual 131, 3, [100, 2, 2, 8, 0, 797]), (.iload_n 3, 1, []), (.iconst 1, 1, []), (.if_icmp .lt 16, 3, []), (.iload_n 3, 1, []), (.aload_n 0, 1, []), (.getfield 23, 3, [8, 3, 1, 0, 0, 414]), (.getfield 134, 3, [3, 1, 2, 1, 1, 129]), (.iload_n 2, 1, []), (.iaload, 1, []), (.if_icmp .le 13, 3, [])]),
  (28, [false, false, false, false], [(.athrow, 10, [0, 149, 227, 153, 0, 774, 948])]),
  (38, [true, true, true, true], [(.aload_n 0, 1, []), (.getfield 42, 3, [8, 6, 3, 24, 0, 417]), (.iload_n 1, 1, []), (.iload_n 2, 1, []), (.invokestatic 178, 3, [103, 2, 0, 0, 1, 844]), (.iload_n 3, 1, []), (.invokevirtual 229, 3, [7, 3, 2, 1, 1, 949]), (.ireturn, 1, [])])]
/-- SlipRoom.ahead -/
noncomputable def z_b86 : z_B := [
  (0, [true, true, true, true, false, false], [(.aload_n 0, 1, []), (.iload_n 1, 1, []), (.invokevirtual 154, 3, [101, 2, 2, 8, 0, 827]), (.aload_n 0, 1, []), (.iload_n 2, 1, []), (.invokevirtual 154, 3, [101, 2, 2, 8, 0, 827]), (.aload_n 0, 1, []), (.iload_n 3, 1, []), (.invokevirtual 131, 3, [100, 2, 2, 8, 0, 797]), (.aload_n 0, 1, []), (.getfield 42, 3, [8, 6, 3, 24, 0, 417]), (.getfield 196, 3, [1, 5, 2, 4, 1, 261]), (.iload_n 1, 1, []), (.iload_n 3, 1, []), (.invokestatic 178, 3, [103, 2, 0, 0, 1, 844]), (.iaload, 1, []), (.istore 4, 2, []), (.aload_n 0, 1, []), (.getfield 42, 3, [8, 6, 3, 24, 0, 417]), (.getfield 196, 3, [1, 5, 2, 4, 1, 261]), (.iload_n 2, 1, []), (.iload_n 3, 1, []), (.invokestatic 178, 3, [103, 2, 0, 0, 1, 844]), (.iaload, 1, []), (.istore 5, 2, []), (.iload_n 1, 1, []), (.iload_n 2, 1, []), (.if_icmp .eq 15, 3, []), (.iload 4, 2, []), (.iconst 1, 1, []), (.if_icmp .lt 9, 3, []), (.iload 5, 2, []), (.iconst 1, 1, []), (.if_icmp .ge 13, 3, [])]),
  (62, [false, false, false, false, false, false], [(.athrow, 10, [0, 149, 232, 153, 0, 774, 957])]),
  (72, [false, false, false, false, true, true], [(.iload 4, 2, []), (.iload 5, 2, []), (.isub, 1, []), (.ireturn, 1, [])])]
/-- SlipRoom.look -/
noncomputable def z_b87 : z_B := [
  (0, [true, true, true, true, true, false], [(.aload_n 0, 1, []), (.iload_n 1, 1, []), (.invokevirtual 131, 3, [100, 2, 2, 8, 0, 797]), (.iload_n 2, 1, []), (.ifCond .lt 37, 3, []), (.iload_n 2, 1, []), (.sipush 8759, 3, []), (.if_icmp .gt 30, 3, []), (.iload_n 3, 1, []), (.ifCond .lt 26, 3, []), (.iload_n 3, 1, []), (.iconst 3, 1, []), (.if_icmp .gt 21, 3, []), (.iload 4, 2, []), (.iconst 1, 1, []), (.if_icmp .lt 15, 3, []), (.iload 4, 2, []), (.sipush 401, 3, []), (.if_icmp .gt 7, 3, []), (.iconst 1, 1, []), (.goto 4, 3, [])]),
  (43, [true, true, true, true, true, false], [(.iconst 0, 1, [])]),
  (44, [true, true, true, true, true, false], [(.istore 5, 2, []), (.iload 5, 2, []), (.ifCond .eq 28, 3, []), (.aload_n 0, 1, []), (.getfield 42, 3, [8, 6, 3, 24, 0, 417]), (.getfield 118, 3, [1, 10, 0, 0, 1, 271]), (.bipush 24, 2, []), (.if_icmp .ge 16, 3, []), (.aload_n 0, 1, []), (.getfield 42, 3, [8, 6, 3, 24, 0, 417]), (.iload_n 1, 1, []), (.invokevirtual 234, 3, [16, 2, 2, 1, 1, 965]), (.bipush 6, 2, []), (.if_icmp .lt 18, 3, [])]),
  (76, [true, false, false, false, false, false], [(.aload_n 0, 1, []), (.getfield 42, 3, [8, 6, 3, 24, 0, 417]), (.getfield 101, 3, [1, 16, 2, 13, 1, 283]), (.iconst 3, 1, []), (.dup2, 1, []), (.iaload, 1, []), (.iconst 1, 1, []), (.iadd, 1, []), (.iastore, 1, []), (.iconst (-1), 1, []), (.ireturn, 1, [])]),
  (91, [true, true, true, true, true, false], [(.aload_n 0, 1, []), (.getfield 42, 3, [8, 6, 3, 24, 0, 417]), (.iload_n 1, 1, []), (.iload_n 2, 1, []), (.iload_n 3, 1, []), (.iload 4, 2, []), (.invokevirtual 237, 3, [15, 5, 2, 1, 1, 973]), (.ireturn, 1, [])])]
/-- SlipRoom.ways -/
noncomputable def z_b88 : z_B := [
  (0, [true, true], [(.aload_n 0, 1, []), (.iload_n 1, 1, []), (.invokevirtual 131, 3, [100, 2, 2, 8, 0, 797]), (.aload_n 0, 1, []), (.getfield 65, 3, [8, 10, 3, 55, 0, 421]), (.aload_n 0, 1, []), (.getfield 23, 3, [8, 3, 1, 0, 0, 414]), (.aload_n 0, 1, []), (.getfield 42, 3, [8, 6, 3, 24, 0, 417]), (.iload_n 1, 1, []), (.invokevirtual 241, 3, [42, 4, 2, 5, 0, 984]), (.aload_n 0, 1, []), (.getfield 65, 3, [8, 10, 3, 55, 0, 421]), (.invokevirtual 245, 3, [43, 1, 2, 5, 1, 1030]), (.ireturn, 1, [])])]
/-- SlipRoom.whose -/
noncomputable def z_b89 : z_B := [
  (0, [true, true, true, false], [(.iload_n 1, 1, []), (.ifCond .lt 23, 3, []), (.iload_n 1, 1, []), (.aload_n 0, 1, []), (.getfield 42, 3, [8, 6, 3, 24, 0, 417]), (.getfield 118, 3, [1, 10, 0, 0, 1, 271]), (.if_icmp .ge 12, 3, []), (.iload_n 2, 1, []), (.ifCond .lt 8, 3, []), (.iload_n 2, 1, []), (.iconst 1, 1, []), (.if_icmp .le 13, 3, [])]),
  (24, [false, false, false, false], [(.athrow, 10, [0, 149, 248, 153, 0, 774, 1049])]),
  (34, [true, true, true, false], [(.aload_n 0, 1, []), (.getfield 65, 3, [8, 10, 3, 55, 0, 421]), (.aload_n 0, 1, []), (.getfield 23, 3, [8, 3, 1, 0, 0, 414]), (.aload_n 0, 1, []), (.getfield 42, 3, [8, 6, 3, 24, 0, 417]), (.aload_n 0, 1, []), (.getfield 42, 3, [8, 6, 3, 24, 0, 417]), (.iload_n 1, 1, []), (.invokevirtual 250, 3, [17, 2, 2, 1, 1, 1050]), (.invokevirtual 241, 3, [42, 4, 2, 5, 0, 984]), (.aload_n 0, 1, []), (.getfield 65, 3, [8, 10, 3, 55, 0, 421]), (.iload_n 1, 1, []), (.invokevirtual 253, 3, [44, 2, 2, 5, 1, 1051]), (.istore_n 3, 1, []), (.iload_n 2, 1, []), (.ifCond .ne 7, 3, []), (.iload_n 3, 1, []), (.goto 7, 3, [])]),
  (74, [false, false, false, true], [(.iload_n 3, 1, []), (.invokestatic 256, 3, [104, 1, 0, 0, 1, 1067])]),
  (78, [false, false, false, false], [(.ireturn, 1, [])])]
/-- SlipRoom.ends -/
noncomputable def z_b90 : z_B := [
  (0, [true, true, true, true], [(.aload_n 0, 1, []), (.iload_n 1, 1, []), (.invokevirtual 154, 3, [101, 2, 2, 8, 0, 827]), (.aload_n 0, 1, []), (.iload_n 2, 1, []), (.invokevirtual 131, 3, [100, 2, 2, 8, 0, 797]), (.iload_n 3, 1, []), (.ifCond .lt 8, 3, []), (.iload_n 3, 1, []), (.iconst 1, 1, []), (.if_icmp .le 14, 3, [])]),
  (19, [false, false, false, false], [(.athrow, 11, [0, 149, 259, 153, 1, 774, 1077])]),
  (30, [true, true, true, true], [(.aload_n 0, 1, []), (.getfield 65, 3, [8, 10, 3, 55, 0, 421]), (.aload_n 0, 1, []), (.getfield 23, 3, [8, 3, 1, 0, 0, 414]), (.aload_n 0, 1, []), (.getfield 42, 3, [8, 6, 3, 24, 0, 417]), (.iload_n 2, 1, []), (.invokevirtual 241, 3, [42, 4, 2, 5, 0, 984]), (.aload_n 0, 1, []), (.getfield 65, 3, [8, 10, 3, 55, 0, 421]), (.iload_n 1, 1, []), (.iload_n 3, 1, []), (.iconst 1, 1, []), (.if_icmp .ne 7, 3, []), (.iconst 1, 1, []), (.goto 4, 3, [])]),
  (60, [false, false, false, false], [(.iconst 0, 1, [])]),
  (61, [false, false, false, false], [(.invokevirtual 261, 3, [45, 3, 2, 5, 1, 1078]), (.ireturn, 1, [])])]
/-- SlipRoom.moved -/
noncomputable def z_b91 : z_B := [
  (0, [true, true], [(.aload_n 0, 1, []), (.iload_n 1, 1, []), (.invokevirtual 131, 3, [100, 2, 2, 8, 0, 797]), (.aload_n 0, 1, []), (.getfield 65, 3, [8, 10, 3, 55, 0, 421]), (.aload_n 0, 1, []), (.getfield 23, 3, [8, 3, 1, 0, 0, 414]), (.aload_n 0, 1, []), (.getfield 42, 3, [8, 6, 3, 24, 0, 417]), (.iload_n 1, 1, []), (.invokevirtual 241, 3, [42, 4, 2, 5, 0, 984]), (.aload_n 0, 1, []), (.getfield 65, 3, [8, 10, 3, 55, 0, 421]), (.invokevirtual 265, 3, [46, 1, 2, 5, 1, 1089]), (.ireturn, 1, [])])]
/-- SlipRoom.wish -/
noncomputable def z_b92 : z_B := [
  (0, [true, true, true, true], [(.aload_n 0, 1, []), (.iload_n 1, 1, []), (.invokevirtual 154, 3, [101, 2, 2, 8, 0, 827]), (.aload_n 0, 1, []), (.getfield 42, 3, [8, 6, 3, 24, 0, 417]), (.getfield 121, 3, [1, 12, 0, 0, 1, 275]), (.bipush 7, 2, []), (.if_icmp .ge 25, 3, []), (.iload_n 2, 1, []), (.iconst 1, 1, []), (.if_icmp .lt 20, 3, []), (.iload_n 2, 1, []), (.bipush 99, 2, []), (.if_icmp .gt 14, 3, []), (.iload_n 3, 1, []), (.ifCond .lt 10, 3, []), (.iload_n 3, 1, []), (.sipush 999, 3, []), (.if_icmp .le 18, 3, [])]),
  (39, [true, false, false, false], [(.aload_n 0, 1, []), (.getfield 42, 3, [8, 6, 3, 24, 0, 417]), (.getfield 101, 3, [1, 16, 2, 13, 1, 283]), (.iconst 4, 1, []), (.dup2, 1, []), (.iaload, 1, []), (.iconst 1, 1, []), (.iadd, 1, []), (.iastore, 1, []), (.iconst (-1), 1, []), (.ireturn, 1, [])]),
  (54, [true, false, true, true], [(.aload_n 0, 1, []), (.getfield 42, 3, [8, 6, 3, 24, 0, 417]), (.iload_n 2, 1, []), (.iload_n 3, 1, []), (.invokevirtual 268, 3, [21, 3, 2, 1, 1, 1101]), (.ireturn, 1, [])])]
/-- SlipRoom.waiting -/
noncomputable def z_b93 : z_B := [
  (0, [true], [(.aload_n 0, 1, []), (.getfield 72, 3, [8, 11, 3, 64, 0, 422]), (.aload_n 0, 1, []), (.getfield 42, 3, [8, 6, 3, 24, 0, 417]), (.invokevirtual 271, 3, [71, 2, 2, 7, 1, 467]), (.ireturn, 1, [])])]
/-- SlipRoom.turn -/
noncomputable def z_b94 : z_B := [
  (0, [true, true], [(.iload_n 1, 1, []), (.ifCond .lt 14, 3, []), (.iload_n 1, 1, []), (.aload_n 0, 1, []), (.getfield 72, 3, [8, 11, 3, 64, 0, 422]), (.getfield 275, 3, [7, 1, 0, 0, 1, 384]), (.if_icmp .lt 14, 3, [])]),
  (15, [false, false], [(.athrow, 11, [0, 149, 278, 153, 1, 774, 1112])]),
  (26, [true, true], [(.aload_n 0, 1, []), (.getfield 72, 3, [8, 11, 3, 64, 0, 422]), (.getfield 280, 3, [7, 0, 2, 1, 1, 382]), (.iload_n 1, 1, []), (.iaload, 1, []), (.ireturn, 1, [])])]
/-- SlipRoom.tale -/
noncomputable def z_b95 : z_B := [
  (0, [true, true, true, true], [(.aload_n 0, 1, []), (.iload_n 2, 1, []), (.invokevirtual 131, 3, [100, 2, 2, 8, 0, 797]), (.iload_n 1, 1, []), (.ifCond .lt 20, 3, []), (.iload_n 1, 1, []), (.bipush 6, 2, []), (.if_icmp .ge 14, 3, []), (.iload_n 3, 1, []), (.ifCond .lt 10, 3, []), (.iload_n 3, 1, []), (.sipush 401, 3, []), (.if_icmp .le 5, 3, [])]),
  (26, [false, false, false, false], [(.iconst 0, 1, []), (.ireturn, 1, [])]),
  (28, [true, true, true, true], [(.aload_n 0, 1, []), (.getfield 42, 3, [8, 6, 3, 24, 0, 417]), (.getfield 283, 3, [1, 15, 2, 12, 1, 281]), (.iload_n 1, 1, []), (.bipush 10, 2, []), (.imul, 1, []), (.iload_n 2, 1, []), (.iadd, 1, []), (.iload_n 3, 1, []), (.iastore, 1, []), (.iconst 1, 1, []), (.ireturn, 1, [])])]
/-- SlipRoom.settle -/
noncomputable def z_b96 : z_B := [
  (0, [true, true, true], [(.iload_n 2, 1, []), (.ifCond .lt 8, 3, []), (.iload_n 2, 1, []), (.iconst 1, 1, []), (.if_icmp .le 14, 3, [])]),
  (9, [false, false, false], [(.athrow, 11, [0, 149, 286, 153, 1, 774, 1127])]),
  (20, [true, true, true], [(.iload_n 1, 1, []), (.ifCond .lt 9, 3, []), (.iload_n 1, 1, []), (.bipush 64, 2, []), (.if_icmp .lt 14, 3, [])]),
  (30, [false, false, false], [(.athrow, 11, [1, 87, 288, 91, 1, 503, 1128])]),
  (41, [true, true, true], [(.aload_n 0, 1, []), (.getfield 79, 3, [8, 12, 3, 67, 0, 423]), (.aload_n 0, 1, []), (.getfield 42, 3, [8, 6, 3, 24, 0, 417]), (.getfield 283, 3, [1, 15, 2, 12, 1, 281]), (.aload_n 0, 1, []), (.getfield 23, 3, [8, 3, 1, 0, 0, 414]), (.getfield 109, 3, [3, 0, 0, 0, 1, 126]), (.iload_n 1, 1, []), (.invokevirtual 290, 3, [38, 4, 2, 4, 0, 1129]), (.iload_n 2, 1, []), (.ifCond .ne 15, 3, []), (.aload_n 0, 1, []), (.getfield 79, 3, [8, 12, 3, 67, 0, 423]), (.getfield 294, 3, [4, 0, 2, 1, 1, 403]), (.iload_n 1, 1, []), (.iaload, 1, []), (.goto 12, 3, [])]),
  (79, [true, true, false], [(.aload_n 0, 1, []), (.getfield 79, 3, [8, 12, 3, 67, 0, 423]), (.getfield 297, 3, [4, 1, 2, 2, 1, 405]), (.iload_n 1, 1, []), (.iaload, 1, [])]),
  (88, [false, false, false], [(.ireturn, 1, [])])]
/-- SlipRoom.image -/
noncomputable def z_b97 : z_B := [
  (0, [true], [(.aload_n 0, 1, []), (.getfield 46, 3, [8, 7, 3, 38, 0, 418]), (.aload_n 0, 1, []), (.getfield 42, 3, [8, 6, 3, 24, 0, 417]), (.invokevirtual 300, 3, [6, 2, 2, 1, 0, 486]), (.aload_n 0, 1, []), (.iconst 1, 1, []), (.putfield 49, 3, [8, 8, 0, 1, 0, 419]), (.return_, 1, [])])]
/-- SlipRoom.restore -/
noncomputable def z_b98 : z_B := [
  (0, [true], [(.aload_n 0, 1, []), (.getfield 49, 3, [8, 8, 0, 1, 0, 419]), (.ifCond .eq 14, 3, []), (.aload_n 0, 1, []), (.getfield 42, 3, [8, 6, 3, 24, 0, 417]), (.aload_n 0, 1, []), (.getfield 46, 3, [8, 7, 3, 38, 0, 418]), (.invokevirtual 300, 3, [6, 2, 2, 1, 0, 486])]),
  (18, [true], [(.aload_n 0, 1, []), (.getfield 49, 3, [8, 8, 0, 1, 0, 419]), (.ireturn, 1, [])])]
/-- SlipRoom.putBytes -/
noncomputable def z_b99 : z_B := [
  (0, [true, true, false], [(.bipush 24, 2, []), (.istore_n 2, 1, [])]),
  (3, [true, true, true], [(.iload_n 2, 1, []), (.ifCond .lt 42, 3, []), (.aload_n 0, 1, []), (.getfield 13, 3, [8, 1, 0, 0, 0, 412]), (.sipush 700, 3, []), (.if_icmp .ge 32, 3, []), (.aload_n 0, 1, []), (.getfield 9, 3, [8, 0, 3, 1, 0, 411]), (.aload_n 0, 1, []), (.getfield 13, 3, [8, 1, 0, 0, 0, 412]), (.iload_n 1, 1, []), (.iload_n 2, 1, []), (.iushr, 1, []), (.i2b, 1, []), (.bastore, 1, []), (.aload_n 0, 1, []), (.dup, 1, []), (.getfield 13, 3, [8, 1, 0, 0, 0, 412]), (.iconst 1, 1, []), (.iadd, 1, []), (.putfield 13, 3, [8, 1, 0, 0, 0, 412]), (.iinc 2 (-8), 3, []), (.goto (-40), 3, [])]),
  (46, [false, false, false], [(.return_, 1, [])])]
/-- SlipRoom.requireBook -/
noncomputable def z_b100 : z_B := [
  (0, [true, true], [(.iload_n 1, 1, []), (.ifCond .lt 14, 3, []), (.iload_n 1, 1, []), (.aload_n 0, 1, []), (.getfield 23, 3, [8, 3, 1, 0, 0, 414]), (.getfield 109, 3, [3, 0, 0, 0, 1, 126]), (.if_icmp .lt 14, 3, [])]),
  (15, [false, false], [(.athrow, 11, [0, 149, 304, 153, 1, 774, 801])]),
  (26, [false, false], [(.return_, 1, [])])]
/-- SlipRoom.requireReader -/
noncomputable def z_b101 : z_B := [
  (0, [true, true], [(.iload_n 1, 1, []), (.ifCond .lt 14, 3, []), (.iload_n 1, 1, []), (.aload_n 0, 1, []), (.getfield 23, 3, [8, 3, 1, 0, 0, 414]), (.getfield 112, 3, [3, 3, 0, 0, 1, 135]), (.if_icmp .lt 14, 3, [])]),
  (15, [false, false], [(.athrow, 11, [0, 149, 306, 153, 1, 774, 831])]),
  (26, [false, false], [(.return_, 1, [])])]
/-- SlipRoom.refused -/
noncomputable def z_b102 : z_B := [
  (0, [true, true], [(.iload_n 1, 1, []), (.bipush 7, 2, []), (.if_icmp .lt 9, 3, []), (.iload_n 1, 1, []), (.bipush 12, 2, []), (.if_icmp .lt 14, 3, [])]),
  (12, [false, false], [(.athrow, 11, [0, 149, 308, 153, 1, 774, 783])]),
  (23, [true, true], [(.aload_n 0, 1, []), (.getfield 42, 3, [8, 6, 3, 24, 0, 417]), (.getfield 101, 3, [1, 16, 2, 13, 1, 283]), (.iload_n 1, 1, []), (.bipush 7, 2, []), (.isub, 1, []), (.iaload, 1, []), (.ireturn, 1, [])])]
/-- SlipRoom.cellOf -/
noncomputable def z_b103 : z_B := [
  (0, [true, true], [(.iload_n 0, 1, []), (.bipush 10, 2, []), (.imul, 1, []), (.iload_n 1, 1, []), (.iadd, 1, []), (.ireturn, 1, [])])]
/-- SlipRoom.onlyOne -/
noncomputable def z_b104 : z_B := [
  (0, [true, false, false], [(.iconst (-1), 1, []), (.istore_n 1, 1, []), (.iconst 0, 1, []), (.istore_n 2, 1, [])]),
  (4, [true, true, true], [(.iload_n 2, 1, []), (.bipush 8, 2, []), (.if_icmp .ge 18, 3, []), (.iload_n 0, 1, []), (.iconst 1, 1, []), (.iload_n 2, 1, []), (.ishl, 1, []), (.if_icmp .ne 5, 3, []), (.iload_n 2, 1, []), (.istore_n 1, 1, [])]),
  (19, [true, true, true], [(.iinc 2 1, 3, []), (.goto (-18), 3, [])]),
  (25, [false, true, false], [(.iload_n 1, 1, []), (.ireturn, 1, [])])]
/-- SlipRoom.mayLend -/
noncomputable def z_b105 : z_B := [
  (0, [true, true, true, true, true], [(.aload_n 0, 1, []), (.getfield 42, 3, [8, 6, 3, 24, 0, 417]), (.getfield 115, 3, [1, 0, 0, 0, 1, 250]), (.sipush 200, 3, []), (.if_icmp .ge 16, 3, []), (.iload 4, 2, []), (.iconst 1, 1, []), (.if_icmp .lt 10, 3, []), (.iload 4, 2, []), (.bipush 24, 2, []), (.if_icmp .le 5, 3, [])]),
  (26, [false, false, false, false, false], [(.iconst 0, 1, []), (.ireturn, 1, [])]),
  (28, [true, true, true, true, true], [(.iload_n 3, 1, []), (.aload_n 0, 1, []), (.getfield 42, 3, [8, 6, 3, 24, 0, 417]), (.getfield 124, 3, [1, 2, 0, 0, 1, 255]), (.if_icmp .lt 52, 3, []), (.iload_n 3, 1, []), (.sipush 8759, 3, []), (.if_icmp .gt 45, 3, []), (.iload_n 3, 1, []), (.iload 4, 2, []), (.iadd, 1, []), (.iconst 1, 1, []), (.isub, 1, []), (.sipush 8759, 3, []), (.if_icmp .gt 33, 3, []), (.iload_n 3, 1, []), (.aload_n 0, 1, []), (.getfield 42, 3, [8, 6, 3, 24, 0, 417]), (.getfield 169, 3, [1, 4, 2, 3, 1, 259]), (.iload_n 1, 1, []), (.iaload, 1, []), (.if_icmp .lt 20, 3, []), (.iload_n 3, 1, []), (.aload_n 0, 1, []), (.getfield 42, 3, [8, 6, 3, 24, 0, 417]), (.getfield 146, 3, [1, 3, 2, 2, 1, 257]), (.iload_n 2, 1, []), (.iaload, 1, []), (.if_icmp .lt 7, 3, []), (.iconst 1, 1, []), (.goto 4, 3, [])]),
  (88, [false, false, false, false, false], [(.iconst 0, 1, [])]),
  (89, [false, false, false, false, false], [(.ireturn, 1, [])])]
/-- SlipRoom.beginOf -/
noncomputable def z_b106 : z_B := [
  (0, [true, true, true, false], [(.iload_n 1, 1, []), (.iload_n 2, 1, []), (.invokestatic 178, 3, [103, 2, 0, 0, 1, 844]), (.istore_n 3, 1, []), (.aload_n 0, 1, []), (.getfield 42, 3, [8, 6, 3, 24, 0, 417]), (.getfield 185, 3, [1, 6, 2, 5, 1, 263]), (.iload_n 3, 1, []), (.iaload, 1, []), (.ifCond .ne 5, 3, []), (.iconst 1, 1, []), (.ireturn, 1, [])]),
  (20, [true, true, true, true], [(.aload_n 0, 1, []), (.getfield 42, 3, [8, 6, 3, 24, 0, 417]), (.getfield 196, 3, [1, 5, 2, 4, 1, 261]), (.iload_n 3, 1, []), (.iaload, 1, []), (.iconst (-1), 1, []), (.if_icmp .eq 27, 3, []), (.iconst 1, 1, []), (.aload_n 0, 1, []), (.getfield 42, 3, [8, 6, 3, 24, 0, 417]), (.getfield 196, 3, [1, 5, 2, 4, 1, 261]), (.iload_n 3, 1, []), (.iaload, 1, []), (.aload_n 0, 1, []), (.getfield 23, 3, [8, 3, 1, 0, 0, 414]), (.getfield 163, 3, [3, 6, 2, 5, 1, 147]), (.iload_n 1, 1, []), (.iaload, 1, []), (.isub, 1, []), (.invokestatic 310, 3, [187, 2, 0, 0, 1, 849]), (.ireturn, 1, [])]),
  (57, [true, false, true, true], [(.aload_n 0, 1, []), (.getfield 23, 3, [8, 3, 1, 0, 0, 414]), (.iload_n 2, 1, []), (.aload_n 0, 1, []), (.getfield 42, 3, [8, 6, 3, 24, 0, 417]), (.getfield 185, 3, [1, 6, 2, 5, 1, 263]), (.iload_n 3, 1, []), (.iaload, 1, []), (.aload_n 0, 1, []), (.getfield 23, 3, [8, 3, 1, 0, 0, 414]), (.getfield 134, 3, [3, 1, 2, 1, 1, 129]), (.iload_n 2, 1, []), (.iaload, 1, []), (.invokestatic 315, 3, [188, 2, 0, 0, 1, 850]), (.invokevirtual 318, 3, [37, 3, 2, 3, 1, 851]), (.ireturn, 1, [])])]
/-- SlipRoom.readLoan -/
noncomputable def z_b107 : z_B := [
  (0, [true, true, true, true, true, true, false, false], [(.iload_n 3, 1, []), (.istore 6, 2, []), (.iload 4, 2, []), (.istore 7, 2, [])]),
  (7, [true, true, true, true, true, true, true, true], [(.iload 7, 2, []), (.iload 4, 2, []), (.iload 5, 2, []), (.iadd, 1, []), (.if_icmp .ge 22, 3, []), (.aload_n 0, 1, []), (.iload_n 1, 1, []), (.iload_n 2, 1, []), (.iload_n 3, 1, []), (.iload 6, 2, []), (.iload 7, 2, []), (.invokevirtual 321, 3, [108, 6, 2, 8, 1, 867]), (.istore 6, 2, []), (.iinc 7 1, 3, []), (.goto (-26), 3, [])]),
  (36, [false, false, false, false, false, false, true, false], [(.iload 6, 2, []), (.ireturn, 1, [])])]
/-- SlipRoom.readHour -/
noncomputable def z_b108 : z_B := [
  (0, [true, true, true, true, true, true, false, false, false, false, false], [(.iload_n 1, 1, []), (.iload_n 2, 1, []), (.invokestatic 178, 3, [103, 2, 0, 0, 1, 844]), (.istore 6, 2, []), (.aload_n 0, 1, []), (.getfield 23, 3, [8, 3, 1, 0, 0, 414]), (.getfield 134, 3, [3, 1, 2, 1, 1, 129]), (.iload_n 2, 1, []), (.iaload, 1, []), (.istore 7, 2, []), (.iload 4, 2, []), (.istore 8, 2, []), (.iconst 0, 1, []), (.istore 9, 2, []), (.iconst 0, 1, []), (.istore 10, 2, [])]),
  (28, [true, true, true, true, false, true, true, true, true, true, true], [(.iload 10, 2, []), (.aload_n 0, 1, []), (.getfield 23, 3, [8, 3, 1, 0, 0, 414]), (.getfield 157, 3, [3, 4, 2, 3, 1, 139]), (.iload_n 1, 1, []), (.iaload, 1, []), (.if_icmp .ge 57, 3, []), (.iload 8, 2, []), (.iload 7, 2, []), (.if_icmp .gt 50, 3, []), (.iload 9, 2, []), (.ifCond .ne 45, 3, []), (.aload_n 0, 1, []), (.getfield 42, 3, [8, 6, 3, 24, 0, 417]), (.iload 6, 2, []), (.iload 8, 2, []), (.iload 7, 2, []), (.iload 5, 2, []), (.invokevirtual 188, 3, [8, 5, 2, 1, 0, 855]), (.aload_n 0, 1, []), (.iload_n 1, 1, []), (.iload_n 2, 1, []), (.iload 8, 2, []), (.iload 8, 2, []), (.iload_n 3, 1, []), (.isub, 1, []), (.iconst 1, 1, []), (.iadd, 1, []), (.iload 5, 2, []), (.invokevirtual 324, 3, [109, 6, 2, 8, 1, 871]), (.istore 9, 2, []), (.iinc 8 1, 3, []), (.iinc 10 1, 3, []), (.goto (-65), 3, [])]),
  (96, [false, false, false, false, false, false, false, false, true, false, false], [(.iload 8, 2, []), (.ireturn, 1, [])])]
/-- SlipRoom.stopsBehind -/
noncomputable def z_b109 : z_B := [
  (0, [true, true, true, true, true, true], [(.aload_n 0, 1, []), (.getfield 23, 3, [8, 3, 1, 0, 0, 414]), (.getfield 328, 3, [3, 8, 2, 7, 1, 154]), (.iload_n 1, 1, []), (.iaload, 1, []), (.aload_n 0, 1, []), (.getfield 23, 3, [8, 3, 1, 0, 0, 414]), (.getfield 331, 3, [3, 9, 2, 8, 1, 157]), (.iload_n 1, 1, []), (.iaload, 1, []), (.if_icmp .lt 5, 3, []), (.iconst 0, 1, []), (.ireturn, 1, [])]),
  (23, [true, true, true, true, true, true], [(.aload_n 0, 1, []), (.getfield 56, 3, [8, 9, 3, 52, 0, 420]), (.getfield 334, 3, [0, 0, 2, 1, 1, 327]), (.iconst 0, 1, []), (.iload_n 3, 1, []), (.iastore, 1, []), (.aload_n 0, 1, []), (.getfield 56, 3, [8, 9, 3, 52, 0, 420]), (.getfield 334, 3, [0, 0, 2, 1, 1, 327]), (.iconst 1, 1, []), (.aload_n 0, 1, []), (.getfield 23, 3, [8, 3, 1, 0, 0, 414]), (.getfield 134, 3, [3, 1, 2, 1, 1, 129]), (.iload_n 2, 1, []), (.iaload, 1, []), (.iload_n 3, 1, []), (.isub, 1, []), (.iastore, 1, []), (.aload_n 0, 1, []), (.getfield 56, 3, [8, 9, 3, 52, 0, 420]), (.getfield 334, 3, [0, 0, 2, 1, 1, 327]), (.iconst 2, 1, []), (.iload_n 3, 1, []), (.aload_n 0, 1, []), (.getfield 23, 3, [8, 3, 1, 0, 0, 414]), (.iload_n 2, 1, []), (.iload_n 3, 1, []), (.invokevirtual 318, 3, [37, 3, 2, 3, 1, 851]), (.isub, 1, []), (.iconst 1, 1, []), (.iadd, 1, []), (.iastore, 1, []), (.aload_n 0, 1, []), (.getfield 56, 3, [8, 9, 3, 52, 0, 420]), (.getfield 334, 3, [0, 0, 2, 1, 1, 327]), (.iconst 3, 1, []), (.iload 4, 2, []), (.iastore, 1, []), (.aload_n 0, 1, []), (.getfield 56, 3, [8, 9, 3, 52, 0, 420]), (.getfield 334, 3, [0, 0, 2, 1, 1, 327]), (.iconst 4, 1, []), (.iload 5, 2, []), (.bipush 24, 2, []), (.irem, 1, []), (.iastore, 1, []), (.aload_n 0, 1, []), (.getfield 56, 3, [8, 9, 3, 52, 0, 420]), (.getfield 334, 3, [0, 0, 2, 1, 1, 327]), (.iconst 5, 1, []), (.iload 5, 2, []), (.bipush 24, 2, []), (.idiv, 1, []), (.iastore, 1, []), (.aload_n 0, 1, []), (.getfield 56, 3, [8, 9, 3, 52, 0, 420]), (.getfield 334, 3, [0, 0, 2, 1, 1, 327]), (.bipush 6, 2, []), (.iload_n 2, 1, []), (.iastore, 1, []), (.aload_n 0, 1, []), (.getfield 56, 3, [8, 9, 3, 52, 0, 420]), (.aload_n 0, 1, []), (.getfield 23, 3, [8, 3, 1, 0, 0, 414]), (.getfield 337, 3, [3, 10, 2, 9, 1, 159]), (.aload_n 0, 1, []), (.getfield 23, 3, [8, 3, 1, 0, 0, 414]), (.getfield 328, 3, [3, 8, 2, 7, 1, 154]), (.iload_n 1, 1, []), (.iaload, 1, []), (.aload_n 0, 1, []), (.getfield 23, 3, [8, 3, 1, 0, 0, 414]), (.getfield 331, 3, [3, 9, 2, 8, 1, 157]), (.iload_n 1, 1, []), (.iaload, 1, []), (.invokevirtual 340, 3, [0, 4, 2, 0, 1, 875]), (.ireturn, 1, [])])]
/-- SlipRoomModel.thrown -/
noncomputable def z_b110 : z_B := [
  (0, [true], [(.aload_n 0, 1, []), (.getfield 170, 3, [9, 1, 0, 0, 0, 1167]), (.ireturn, 1, [])])]
/-- SlipRoomModel.fail -/
noncomputable def z_b111 : z_B := [
  (0, [true, true], [(.aload_n 0, 1, []), (.iload_n 1, 1, []), (.putfield 170, 3, [9, 1, 0, 0, 0, 1167]), (.iconst 0, 1, []), (.ireturn, 1, [])])]
/-- SlipRoomModel.isIn -/
noncomputable def z_b112 : z_B := [
  (0, [true, true, true], [(.iload_n 0, 1, []), (.iload_n 1, 1, []), (.if_icmp .lt 12, 3, []), (.iload_n 0, 1, []), (.iload_n 2, 1, []), (.if_icmp .gt 7, 3, []), (.iconst 1, 1, []), (.goto 4, 3, [])]),
  (14, [false, false, false], [(.iconst 0, 1, [])]),
  (15, [false, false, false], [(.ireturn, 1, [])])]
/-- SlipRoomModel.isBook -/
noncomputable def z_b113 : z_B := [
  (0, [true, true], [(.iload_n 1, 1, []), (.iconst 0, 1, []), (.aload_n 0, 1, []), (.getfield 173, 3, [9, 2, 0, 0, 0, 1168]), (.iconst 1, 1, []), (.isub, 1, []), (.invokestatic 176, 3, [112, 3, 0, 0, 1, 1502]), (.ireturn, 1, [])])]
/-- SlipRoomModel.isReader -/
noncomputable def z_b114 : z_B := [
  (0, [true, true], [(.iload_n 1, 1, []), (.iconst 0, 1, []), (.aload_n 0, 1, []), (.getfield 180, 3, [9, 3, 0, 0, 0, 1169]), (.iconst 1, 1, []), (.isub, 1, []), (.invokestatic 176, 3, [112, 3, 0, 0, 1, 1502]), (.ireturn, 1, [])])]
/-- SlipRoomModel.feed -/
noncomputable def z_b115 : z_B := [
  (0, [true, true, true, true, true, true, false, false], [(.aload_n 0, 1, []), (.iconst 0, 1, []), (.putfield 170, 3, [9, 1, 0, 0, 0, 1167]), (.aload_n 0, 1, []), (.getfield 183, 3, [9, 17, 0, 0, 0, 1183]), (.bipush 20, 2, []), (.iadd, 1, []), (.sipush 700, 3, []), (.if_icmp .le 5, 3, []), (.iconst (-1), 1, []), (.ireturn, 1, [])]),
  (20, [true, true, true, true, true, true, false, false], [(.iconst 0, 1, []), (.istore 6, 2, [])]),
  (23, [true, true, true, true, true, true, true, false], [(.iload 6, 2, []), (.bipush 20, 2, []), (.if_icmp .ge 93, 3, []), (.iload 6, 2, []), (.iconst 4, 1, []), (.if_icmp .ge 7, 3, []), (.iload_n 1, 1, []), (.goto 39, 3, [])]),
  (40, [true, true, true, true, true, true, true, false], [(.iload 6, 2, []), (.bipush 8, 2, []), (.if_icmp .ge 7, 3, []), (.iload_n 2, 1, []), (.goto 28, 3, [])]),
  (51, [true, true, true, true, true, true, true, false], [(.iload 6, 2, []), (.bipush 12, 2, []), (.if_icmp .ge 7, 3, []), (.iload_n 3, 1, []), (.goto 17, 3, [])]),
  (62, [true, true, true, true, true, true, true, false], [(.iload 6, 2, []), (.bipush 16, 2, []), (.if_icmp .ge 8, 3, []), (.iload 4, 2, []), (.goto 5, 3, [])]),
  (74, [true, true, true, true, true, true, true, false], [(.iload 5, 2, [])]),
  (76, [true, true, true, true, true, true, true, false], [(.istore 7, 2, []), (.aload_n 0, 1, []), (.getfield 61, 3, [9, 16, 2, 12, 0, 1182]), (.aload_n 0, 1, []), (.getfield 183, 3, [9, 17, 0, 0, 0, 1183]), (.iload 7, 2, []), (.bipush 24, 2, []), (.bipush 8, 2, []), (.iload 6, 2, []), (.iconst 4, 1, []), (.irem, 1, []), (.imul, 1, []), (.isub, 1, []), (.ishr, 1, []), (.sipush 255, 3, []), (.iand, 1, []), (.iastore, 1, []), (.aload_n 0, 1, []), (.dup, 1, []), (.getfield 183, 3, [9, 17, 0, 0, 0, 1183]), (.iconst 1, 1, []), (.iadd, 1, []), (.putfield 183, 3, [9, 17, 0, 0, 0, 1183]), (.iinc 6 1, 3, []), (.goto (-94), 3, [])]),
  (120, [true, false, false, false, false, false, false, false], [(.aload_n 0, 1, []), (.getfield 183, 3, [9, 17, 0, 0, 0, 1183]), (.ireturn, 1, [])])]
/-- SlipRoomModel.byteAt -/
noncomputable def z_b116 : z_B := [
  (0, [true, true], [(.iload_n 1, 1, []), (.aload_n 0, 1, []), (.getfield 186, 3, [9, 19, 0, 0, 0, 1185]), (.if_icmp .ge 12, 3, []), (.aload_n 0, 1, []), (.getfield 61, 3, [9, 16, 2, 12, 0, 1182]), (.iload_n 1, 1, []), (.iaload, 1, []), (.goto 4, 3, [])]),
  (17, [false, false], [(.iconst (-1), 1, [])]),
  (18, [false, false], [(.ireturn, 1, [])])]
/-- SlipRoomModel.isLetter -/
noncomputable def z_b117 : z_B := [
  (0, [true], [(.iload_n 0, 1, []), (.bipush 97, 2, []), (.if_icmp .lt 13, 3, []), (.iload_n 0, 1, []), (.bipush 122, 2, []), (.if_icmp .gt 7, 3, []), (.iconst 1, 1, []), (.goto 4, 3, [])]),
  (16, [false], [(.iconst 0, 1, [])]),
  (17, [false], [(.ireturn, 1, [])])]
/-- SlipRoomModel.isDigit -/
noncomputable def z_b118 : z_B := [
  (0, [true], [(.iload_n 0, 1, []), (.bipush 48, 2, []), (.if_icmp .lt 13, 3, []), (.iload_n 0, 1, []), (.bipush 57, 2, []), (.if_icmp .gt 7, 3, []), (.iconst 1, 1, []), (.goto 4, 3, [])]),
  (16, [false], [(.iconst 0, 1, [])]),
  (17, [false], [(.ireturn, 1, [])])]
/-- SlipRoomModel.isMark -/
noncomputable def z_b119 : z_B := [
  (0, [true], [(.iload_n 0, 1, []), (.bipush 59, 2, []), (.if_icmp .eq 51, 3, []), (.iload_n 0, 1, []), (.bipush 40, 2, []), (.if_icmp .eq 45, 3, []), (.iload_n 0, 1, []), (.bipush 41, 2, []), (.if_icmp .eq 39, 3, []), (.iload_n 0, 1, []), (.bipush 43, 2, []), (.if_icmp .eq 33, 3, []), (.iload_n 0, 1, []), (.bipush 45, 2, []), (.if_icmp .eq 27, 3, []), (.iload_n 0, 1, []), (.bipush 42, 2, []), (.if_icmp .eq 21, 3, []), (.iload_n 0, 1, []), (.bipush 47, 2, []), (.if_icmp .eq 15, 3, []), (.iload_n 0, 1, []), (.bipush 60, 2, []), (.if_icmp .eq 9, 3, []), (.iload_n 0, 1, []), (.bipush 61, 2, []), (.if_icmp .ne 7, 3, [])]),
  (54, [false], [(.iconst 1, 1, []), (.goto 4, 3, [])]),
  (58, [false], [(.iconst 0, 1, [])]),
  (59, [false], [(.ireturn, 1, [])])]
/-- SlipRoomModel.stepOn -/
noncomputable def z_b120 : z_B := [
  (0, [true, false], [(.aload_n 0, 1, []), (.aload_n 0, 1, []), (.getfield 189, 3, [9, 18, 0, 0, 0, 1184]), (.invokevirtual 192, 3, [116, 2, 2, 9, 1, 1400]), (.bipush 32, 2, []), (.if_icmp .eq 16, 3, []), (.aload_n 0, 1, []), (.aload_n 0, 1, []), (.getfield 189, 3, [9, 18, 0, 0, 0, 1184]), (.invokevirtual 192, 3, [116, 2, 2, 9, 1, 1400]), (.bipush 10, 2, []), (.if_icmp .ne 16, 3, [])]),
  (26, [true, false], [(.aload_n 0, 1, []), (.dup, 1, []), (.getfield 189, 3, [9, 18, 0, 0, 0, 1184]), (.iconst 1, 1, []), (.iadd, 1, []), (.putfield 189, 3, [9, 18, 0, 0, 0, 1184]), (.goto (-36), 3, [])]),
  (39, [true, false], [(.aload_n 0, 1, []), (.aload_n 0, 1, []), (.getfield 189, 3, [9, 18, 0, 0, 0, 1184]), (.putfield 196, 3, [9, 22, 0, 0, 0, 1188]), (.aload_n 0, 1, []), (.aload_n 0, 1, []), (.getfield 189, 3, [9, 18, 0, 0, 0, 1184]), (.invokevirtual 192, 3, [116, 2, 2, 9, 1, 1400]), (.istore_n 1, 1, []), (.iload_n 1, 1, []), (.iconst (-1), 1, []), (.if_icmp .ne 11, 3, []), (.aload_n 0, 1, []), (.iconst 0, 1, []), (.putfield 199, 3, [9, 20, 0, 0, 0, 1186]), (.goto 146, 3, [])]),
  (69, [true, true], [(.iload_n 1, 1, []), (.invokestatic 202, 3, [117, 1, 0, 0, 1, 1404]), (.ifCond .eq 38, 3, [])]),
  (76, [true, false], [(.aload_n 0, 1, []), (.aload_n 0, 1, []), (.getfield 189, 3, [9, 18, 0, 0, 0, 1184]), (.invokevirtual 192, 3, [116, 2, 2, 9, 1, 1400]), (.invokestatic 202, 3, [117, 1, 0, 0, 1, 1404]), (.ifCond .eq 16, 3, []), (.aload_n 0, 1, []), (.dup, 1, []), (.getfield 189, 3, [9, 18, 0, 0, 0, 1184]), (.iconst 1, 1, []), (.iadd, 1, []), (.putfield 189, 3, [9, 18, 0, 0, 0, 1184]), (.goto (-24), 3, [])]),
  (103, [true, false], [(.aload_n 0, 1, []), (.iconst 1, 1, []), (.putfield 199, 3, [9, 20, 0, 0, 0, 1186]), (.goto 104, 3, [])]),
  (111, [true, true], [(.iload_n 1, 1, []), (.invokestatic 206, 3, [118, 1, 0, 0, 1, 1407]), (.ifCond .eq 71, 3, []), (.aload_n 0, 1, []), (.iconst 0, 1, []), (.putfield 209, 3, [9, 21, 0, 0, 0, 1187])]),
  (123, [true, false], [(.aload_n 0, 1, []), (.aload_n 0, 1, []), (.getfield 189, 3, [9, 18, 0, 0, 0, 1184]), (.invokevirtual 192, 3, [116, 2, 2, 9, 1, 1400]), (.invokestatic 206, 3, [118, 1, 0, 0, 1, 1407]), (.ifCond .eq 44, 3, []), (.aload_n 0, 1, []), (.ldc 212, 2, [0, 100000, 1410]), (.bipush 10, 2, []), (.aload_n 0, 1, []), (.getfield 209, 3, [9, 21, 0, 0, 0, 1187]), (.imul, 1, []), (.aload_n 0, 1, []), (.aload_n 0, 1, []), (.getfield 189, 3, [9, 18, 0, 0, 0, 1184]), (.invokevirtual 192, 3, [116, 2, 2, 9, 1, 1400]), (.iadd, 1, []), (.bipush 48, 2, []), (.isub, 1, []), (.invokestatic 213, 3, [188, 2, 0, 0, 1, 1411]), (.putfield 209, 3, [9, 21, 0, 0, 0, 1187]), (.aload_n 0, 1, []), (.dup, 1, []), (.getfield 189, 3, [9, 18, 0, 0, 0, 1184]), (.iconst 1, 1, []), (.iadd, 1, []), (.putfield 189, 3, [9, 18, 0, 0, 0, 1184]), (.goto (-52), 3, [])]),
  (178, [true, false], [(.aload_n 0, 1, []), (.iconst 2, 1, []), (.putfield 199, 3, [9, 20, 0, 0, 0, 1186]), (.goto 29, 3, [])]),
  (186, [true, true], [(.aload_n 0, 1, []), (.dup, 1, []), (.getfield 189, 3, [9, 18, 0, 0, 0, 1184]), (.iconst 1, 1, []), (.iadd, 1, []), (.putfield 189, 3, [9, 18, 0, 0, 0, 1184]), (.aload_n 0, 1, []), (.iload_n 1, 1, []), (.invokestatic 219, 3, [119, 1, 0, 0, 1, 1412]), (.ifCond .eq 7, 3, []), (.iconst 3, 1, []), (.goto 4, 3, [])]),
  (208, [true, false], [(.iconst 4, 1, [])]),
  (209, [true, false], [(.putfield 199, 3, [9, 20, 0, 0, 0, 1186])]),
  (212, [true, false], [(.aload_n 0, 1, []), (.aload_n 0, 1, []), (.getfield 189, 3, [9, 18, 0, 0, 0, 1184]), (.putfield 222, 3, [9, 23, 0, 0, 0, 1189]), (.return_, 1, [])])]
/-- SlipRoomModel.wrong -/
noncomputable def z_b121 : z_B := [
  (0, [true, true], [(.aload_n 0, 1, []), (.getfield 225, 3, [9, 24, 0, 0, 0, 1190]), (.ifCond .eq 4, 3, []), (.return_, 1, [])]),
  (8, [true, true], [(.aload_n 0, 1, []), (.iload_n 1, 1, []), (.putfield 225, 3, [9, 24, 0, 0, 0, 1190]), (.aload_n 0, 1, []), (.aload_n 0, 1, []), (.getfield 196, 3, [9, 22, 0, 0, 0, 1188]), (.putfield 228, 3, [9, 25, 0, 0, 0, 1191]), (.return_, 1, [])])]
/-- SlipRoomModel.is -/
noncomputable def z_b122 : z_B := [
  (0, [true, true, false, false], [(.aload_n 0, 1, []), (.getfield 225, 3, [9, 24, 0, 0, 0, 1190]), (.ifCond .ne 31, 3, []), (.aload_n 0, 1, []), (.getfield 199, 3, [9, 20, 0, 0, 0, 1186]), (.iconst 1, 1, []), (.if_icmp .ne 23, 3, []), (.aload_n 1, 1, []), (.invokevirtual 231, 3, [0, 1, 7, 0, 1, 1419]), (.aload_n 0, 1, []), (.getfield 222, 3, [9, 23, 0, 0, 0, 1189]), (.aload_n 0, 1, []), (.getfield 196, 3, [9, 22, 0, 0, 0, 1188]), (.isub, 1, []), (.if_icmp .ne 7, 3, []), (.iconst 1, 1, []), (.goto 4, 3, [])]),
  (35, [true, true, false, false], [(.iconst 0, 1, [])]),
  (36, [true, true, false, false], [(.istore_n 2, 1, []), (.iconst 0, 1, []), (.istore_n 3, 1, [])]),
  (39, [true, true, true, true], [(.iload_n 2, 1, []), (.ifCond .eq 42, 3, []), (.iload_n 3, 1, []), (.aload_n 1, 1, []), (.invokevirtual 231, 3, [0, 1, 7, 0, 1, 1419]), (.if_icmp .ge 34, 3, []), (.aload_n 1, 1, []), (.iload_n 3, 1, []), (.invokevirtual 235, 3, [0, 2, 8, 0, 1, 1420]), (.aload_n 0, 1, []), (.getfield 61, 3, [9, 16, 2, 12, 0, 1182]), (.aload_n 0, 1, []), (.getfield 196, 3, [9, 22, 0, 0, 0, 1188]), (.iload_n 3, 1, []), (.iadd, 1, []), (.iaload, 1, []), (.if_icmp .ne 7, 3, []), (.iconst 1, 1, []), (.goto 4, 3, [])]),
  (74, [true, true, false, true], [(.iconst 0, 1, [])]),
  (75, [true, true, false, true], [(.istore_n 2, 1, []), (.iinc 3 1, 3, []), (.goto (-40), 3, [])]),
  (82, [false, false, true, false], [(.iload_n 2, 1, []), (.ireturn, 1, [])])]
/-- SlipRoomModel.isMarked -/
noncomputable def z_b123 : z_B := [
  (0, [true, true], [(.aload_n 0, 1, []), (.getfield 225, 3, [9, 24, 0, 0, 0, 1190]), (.ifCond .ne 28, 3, []), (.aload_n 0, 1, []), (.getfield 199, 3, [9, 20, 0, 0, 0, 1186]), (.iconst 3, 1, []), (.if_icmp .ne 20, 3, []), (.aload_n 0, 1, []), (.getfield 61, 3, [9, 16, 2, 12, 0, 1182]), (.aload_n 0, 1, []), (.getfield 196, 3, [9, 22, 0, 0, 0, 1188]), (.iaload, 1, []), (.iload_n 1, 1, []), (.if_icmp .ne 7, 3, []), (.iconst 1, 1, []), (.goto 4, 3, [])]),
  (32, [false, false], [(.iconst 0, 1, [])]),
  (33, [false, false], [(.ireturn, 1, [])])]
/-- SlipRoomModel.which -/
noncomputable def z_b124 : z_B := [
  (0, [true, true, false], [(.iconst 0, 1, []), (.istore_n 2, 1, [])]),
  (2, [true, true, true], [(.iload_n 2, 1, []), (.aload_n 1, 1, []), (.arraylength, 1, []), (.if_icmp .ge 21, 3, []), (.aload_n 0, 1, []), (.aload_n 1, 1, []), (.iload_n 2, 1, []), (.aaload, 1, []), (.invokevirtual 239, 3, [122, 2, 2, 9, 1, 1415]), (.ifCond .eq 5, 3, []), (.iload_n 2, 1, []), (.ireturn, 1, [])]),
  (20, [true, true, true], [(.iinc 2 1, 3, []), (.goto (-21), 3, [])]),
  (26, [false, false, false], [(.iconst (-1), 1, []), (.ireturn, 1, [])])]
/-- SlipRoomModel.passes -/
noncomputable def z_b125 : z_B := [
  (0, [true, true, false], [(.aload_n 0, 1, []), (.aload_n 1, 1, []), (.invokevirtual 239, 3, [122, 2, 2, 9, 1, 1415]), (.istore_n 2, 1, []), (.iload_n 2, 1, []), (.ifCond .eq 7, 3, []), (.aload_n 0, 1, []), (.invokevirtual 243, 3, [120, 1, 2, 9, 0, 1396])]),
  (14, [false, false, true], [(.iload_n 2, 1, []), (.ireturn, 1, [])])]
/-- SlipRoomModel.mark -/
noncomputable def z_b126 : z_B := [
  (0, [true, true], [(.aload_n 0, 1, []), (.getfield 225, 3, [9, 24, 0, 0, 0, 1190]), (.ifCond .ne 16, 3, []), (.aload_n 0, 1, []), (.iload_n 1, 1, []), (.invokevirtual 246, 3, [123, 2, 2, 9, 1, 1451]), (.ifCond .ne 8, 3, []), (.aload_n 0, 1, []), (.iconst 1, 1, []), (.invokevirtual 249, 3, [121, 2, 2, 9, 0, 1425])]),
  (20, [true, false], [(.aload_n 0, 1, []), (.getfield 225, 3, [9, 24, 0, 0, 0, 1190]), (.ifCond .ne 7, 3, []), (.aload_n 0, 1, []), (.invokevirtual 243, 3, [120, 1, 2, 9, 0, 1396])]),
  (31, [false, false], [(.return_, 1, [])])]
/-- SlipRoomModel.readNumber -/
noncomputable def z_b127 : z_B := [
  (0, [true, true, true, false], [(.aload_n 0, 1, []), (.getfield 225, 3, [9, 24, 0, 0, 0, 1190]), (.ifCond .eq 5, 3, []), (.iconst 0, 1, []), (.ireturn, 1, [])]),
  (9, [true, true, true, false], [(.aload_n 0, 1, []), (.getfield 199, 3, [9, 20, 0, 0, 0, 1186]), (.iconst 2, 1, []), (.if_icmp .eq 11, 3, []), (.aload_n 0, 1, []), (.iconst 1, 1, []), (.invokevirtual 249, 3, [121, 2, 2, 9, 0, 1425]), (.goto 37, 3, [])]),
  (25, [true, true, true, false], [(.aload_n 0, 1, []), (.getfield 222, 3, [9, 23, 0, 0, 0, 1189]), (.aload_n 0, 1, []), (.getfield 196, 3, [9, 22, 0, 0, 0, 1188]), (.isub, 1, []), (.iconst 4, 1, []), (.if_icmp .gt 19, 3, []), (.aload_n 0, 1, []), (.getfield 209, 3, [9, 21, 0, 0, 0, 1187]), (.iload_n 1, 1, []), (.if_icmp .lt 11, 3, []), (.aload_n 0, 1, []), (.getfield 209, 3, [9, 21, 0, 0, 0, 1187]), (.iload_n 2, 1, []), (.if_icmp .le 8, 3, [])]),
  (54, [true, false, false, false], [(.aload_n 0, 1, []), (.iconst 2, 1, []), (.invokevirtual 249, 3, [121, 2, 2, 9, 0, 1425])]),
  (59, [true, false, false, false], [(.aload_n 0, 1, []), (.getfield 209, 3, [9, 21, 0, 0, 0, 1187]), (.istore_n 3, 1, []), (.aload_n 0, 1, []), (.getfield 225, 3, [9, 24, 0, 0, 0, 1190]), (.ifCond .ne 7, 3, []), (.aload_n 0, 1, []), (.invokevirtual 243, 3, [120, 1, 2, 9, 0, 1396])]),
  (75, [false, false, false, true], [(.iload_n 3, 1, []), (.ireturn, 1, [])])]
/-- SlipRoomModel.lay -/
noncomputable def z_b128 : z_B := [
  (0, [true, true], [(.aload_n 0, 1, []), (.getfield 225, 3, [9, 24, 0, 0, 0, 1190]), (.ifCond .eq 4, 3, []), (.return_, 1, [])]),
  (8, [true, true], [(.aload_n 0, 1, []), (.getfield 51, 3, [9, 13, 2, 9, 0, 1179]), (.sipush 700, 3, []), (.aload_n 0, 1, []), (.getfield 253, 3, [9, 27, 0, 0, 0, 1193]), (.iadd, 1, []), (.iload_n 1, 1, []), (.iastore, 1, []), (.aload_n 0, 1, []), (.dup, 1, []), (.getfield 253, 3, [9, 27, 0, 0, 0, 1193]), (.iconst 1, 1, []), (.iadd, 1, []), (.putfield 253, 3, [9, 27, 0, 0, 0, 1193]), (.return_, 1, [])])]
/-- SlipRoomModel.readPart -/
noncomputable def z_b129 : z_B := [
  (0, [true, true, false], [(.aload_n 0, 1, []), (.getfield 225, 3, [9, 24, 0, 0, 0, 1190]), (.ifCond .eq 4, 3, []), (.return_, 1, [])]),
  (8, [true, true, false], [(.aload_n 0, 1, []), (.getfield 199, 3, [9, 20, 0, 0, 0, 1186]), (.iconst 2, 1, []), (.if_icmp .ne 16, 3, []), (.aload_n 0, 1, []), (.aload_n 0, 1, []), (.iconst 0, 1, []), (.sipush 9999, 3, []), (.invokevirtual 256, 3, [127, 3, 2, 9, 1, 1429]), (.invokevirtual 259, 3, [128, 2, 2, 9, 0, 1476]), (.return_, 1, [])]),
  (29, [true, true, false], [(.aload_n 0, 1, []), (.getfield 199, 3, [9, 20, 0, 0, 0, 1186]), (.iconst 1, 1, []), (.if_icmp .ne 41, 3, []), (.aload_n 0, 1, []), (.aload_n 0, 1, []), (.getfield 23, 3, [9, 0, 2, 1, 0, 1166]), (.invokevirtual 262, 3, [124, 2, 2, 9, 1, 1480]), (.istore_n 2, 1, []), (.iload_n 2, 1, []), (.iconst (-1), 1, []), (.if_icmp .ne 8, 3, []), (.aload_n 0, 1, []), (.iconst 3, 1, []), (.invokevirtual 249, 3, [121, 2, 2, 9, 0, 1425])]),
  (56, [true, false, true], [(.aload_n 0, 1, []), (.iconst (-1), 1, []), (.iload_n 2, 1, []), (.isub, 1, []), (.invokevirtual 259, 3, [128, 2, 2, 9, 0, 1476]), (.aload_n 0, 1, []), (.getfield 225, 3, [9, 24, 0, 0, 0, 1190]), (.ifCond .ne 7, 3, []), (.aload_n 0, 1, []), (.invokevirtual 243, 3, [120, 1, 2, 9, 0, 1396])]),
  (74, [false, false, false], [(.return_, 1, [])]),
  (75, [true, true, false], [(.aload_n 0, 1, []), (.bipush 40, 2, []), (.invokevirtual 266, 3, [126, 2, 2, 9, 0, 1484]), (.aload_n 0, 1, []), (.iload_n 1, 1, []), (.iconst 1, 1, []), (.iadd, 1, []), (.invokevirtual 269, 3, [134, 2, 2, 9, 0, 1447]), (.aload_n 0, 1, []), (.bipush 41, 2, []), (.invokevirtual 266, 3, [126, 2, 2, 9, 0, 1484]), (.return_, 1, [])])]
/-- SlipRoomModel.readProduct -/
noncomputable def z_b130 : z_B := [
  (0, [true, true, false], [(.aload_n 0, 1, []), (.iload_n 1, 1, []), (.invokevirtual 272, 3, [129, 2, 2, 9, 0, 1472])]),
  (5, [true, true, false], [(.aload_n 0, 1, []), (.bipush 42, 2, []), (.invokevirtual 246, 3, [123, 2, 2, 9, 1, 1451]), (.ifCond .ne 12, 3, []), (.aload_n 0, 1, []), (.bipush 47, 2, []), (.invokevirtual 246, 3, [123, 2, 2, 9, 1, 1451]), (.ifCond .eq 37, 3, [])]),
  (23, [true, true, false], [(.aload_n 0, 1, []), (.bipush 42, 2, []), (.invokevirtual 246, 3, [123, 2, 2, 9, 1, 1451]), (.ifCond .eq 8, 3, []), (.bipush (-22), 2, []), (.goto 5, 3, [])]),
  (37, [true, true, false], [(.bipush (-23), 2, [])]),
  (39, [true, true, false], [(.istore_n 2, 1, []), (.aload_n 0, 1, []), (.invokevirtual 243, 3, [120, 1, 2, 9, 0, 1396]), (.aload_n 0, 1, []), (.iload_n 1, 1, []), (.invokevirtual 272, 3, [129, 2, 2, 9, 0, 1472]), (.aload_n 0, 1, []), (.iload_n 2, 1, []), (.invokevirtual 259, 3, [128, 2, 2, 9, 0, 1476]), (.goto (-49), 3, [])]),
  (57, [false, false, false], [(.return_, 1, [])])]
/-- SlipRoomModel.readSum -/
noncomputable def z_b131 : z_B := [
  (0, [true, true, false], [(.aload_n 0, 1, []), (.iload_n 1, 1, []), (.invokevirtual 275, 3, [130, 2, 2, 9, 0, 1468])]),
  (5, [true, true, false], [(.aload_n 0, 1, []), (.bipush 43, 2, []), (.invokevirtual 246, 3, [123, 2, 2, 9, 1, 1451]), (.ifCond .ne 12, 3, []), (.aload_n 0, 1, []), (.bipush 45, 2, []), (.invokevirtual 246, 3, [123, 2, 2, 9, 1, 1451]), (.ifCond .eq 37, 3, [])]),
  (23, [true, true, false], [(.aload_n 0, 1, []), (.bipush 43, 2, []), (.invokevirtual 246, 3, [123, 2, 2, 9, 1, 1451]), (.ifCond .eq 8, 3, []), (.bipush (-20), 2, []), (.goto 5, 3, [])]),
  (37, [true, true, false], [(.bipush (-21), 2, [])]),
  (39, [true, true, false], [(.istore_n 2, 1, []), (.aload_n 0, 1, []), (.invokevirtual 243, 3, [120, 1, 2, 9, 0, 1396]), (.aload_n 0, 1, []), (.iload_n 1, 1, []), (.invokevirtual 275, 3, [130, 2, 2, 9, 0, 1468]), (.aload_n 0, 1, []), (.iload_n 2, 1, []), (.invokevirtual 259, 3, [128, 2, 2, 9, 0, 1476]), (.goto (-49), 3, [])]),
  (57, [false, false, false], [(.return_, 1, [])])]
/-- SlipRoomModel.readNot -/
noncomputable def z_b132 : z_B := [
  (0, [true, true, false, false], [(.iconst 0, 1, []), (.istore_n 2, 1, [])]),
  (2, [true, true, true, false], [(.aload_n 0, 1, []), (.ldc_w 278, 3, [1, 1210, 1463]), (.invokevirtual 239, 3, [122, 2, 2, 9, 1, 1415]), (.ifCond .eq 31, 3, []), (.iload_n 2, 1, []), (.bipush 6, 2, []), (.if_icmp .ne 8, 3, []), (.aload_n 0, 1, []), (.iconst 2, 1, []), (.invokevirtual 249, 3, [121, 2, 2, 9, 0, 1425])]),
  (23, [true, true, true, false], [(.iinc 2 1, 3, []), (.aload_n 0, 1, []), (.getfield 225, 3, [9, 24, 0, 0, 0, 1190]), (.ifCond .ne (-28), 3, []), (.aload_n 0, 1, []), (.invokevirtual 243, 3, [120, 1, 2, 9, 0, 1396]), (.goto (-35), 3, [])]),
  (40, [true, true, true, false], [(.aload_n 0, 1, []), (.iload_n 1, 1, []), (.invokevirtual 280, 3, [131, 2, 2, 9, 0, 1464]), (.aload_n 0, 1, []), (.bipush 60, 2, []), (.invokevirtual 246, 3, [123, 2, 2, 9, 1, 1451]), (.ifCond .ne 12, 3, []), (.aload_n 0, 1, []), (.bipush 61, 2, []), (.invokevirtual 246, 3, [123, 2, 2, 9, 1, 1451]), (.ifCond .eq 34, 3, [])]),
  (63, [true, true, true, false], [(.aload_n 0, 1, []), (.bipush 60, 2, []), (.invokevirtual 246, 3, [123, 2, 2, 9, 1, 1451]), (.ifCond .eq 8, 3, []), (.bipush (-24), 2, []), (.goto 5, 3, [])]),
  (77, [true, true, true, false], [(.bipush (-25), 2, [])]),
  (79, [true, true, true, false], [(.istore_n 3, 1, []), (.aload_n 0, 1, []), (.invokevirtual 243, 3, [120, 1, 2, 9, 0, 1396]), (.aload_n 0, 1, []), (.iload_n 1, 1, []), (.invokevirtual 280, 3, [131, 2, 2, 9, 0, 1464]), (.aload_n 0, 1, []), (.iload_n 3, 1, []), (.invokevirtual 259, 3, [128, 2, 2, 9, 0, 1476])]),
  (94, [true, false, true, false], [(.iconst 0, 1, []), (.istore_n 3, 1, [])]),
  (96, [true, false, true, true], [(.iload_n 3, 1, []), (.iload_n 2, 1, []), (.if_icmp .ge 15, 3, []), (.aload_n 0, 1, []), (.bipush (-28), 2, []), (.invokevirtual 259, 3, [128, 2, 2, 9, 0, 1476]), (.iinc 3 1, 3, []), (.goto (-14), 3, [])]),
  (113, [false, false, false, false], [(.return_, 1, [])])]
/-- SlipRoomModel.readAnd -/
noncomputable def z_b133 : z_B := [
  (0, [true, true], [(.aload_n 0, 1, []), (.iload_n 1, 1, []), (.invokevirtual 283, 3, [132, 2, 2, 9, 0, 1459])]),
  (5, [true, true], [(.aload_n 0, 1, []), (.ldc_w 286, 3, [1, 1209, 1488]), (.invokevirtual 239, 3, [122, 2, 2, 9, 1, 1415]), (.ifCond .eq 21, 3, []), (.aload_n 0, 1, []), (.invokevirtual 243, 3, [120, 1, 2, 9, 0, 1396]), (.aload_n 0, 1, []), (.iload_n 1, 1, []), (.invokevirtual 283, 3, [132, 2, 2, 9, 0, 1459]), (.aload_n 0, 1, []), (.bipush (-26), 2, []), (.invokevirtual 259, 3, [128, 2, 2, 9, 0, 1476]), (.goto (-25), 3, [])]),
  (33, [false, false], [(.return_, 1, [])])]
/-- SlipRoomModel.readExpression -/
noncomputable def z_b134 : z_B := [
  (0, [true, true, false], [(.aload_n 0, 1, []), (.getfield 225, 3, [9, 24, 0, 0, 0, 1190]), (.ifCond .eq 4, 3, []), (.return_, 1, [])]),
  (8, [true, true, false], [(.aload_n 0, 1, []), (.getfield 199, 3, [9, 20, 0, 0, 0, 1186]), (.iconst 2, 1, []), (.if_icmp .eq 20, 3, []), (.aload_n 0, 1, []), (.getfield 199, 3, [9, 20, 0, 0, 0, 1186]), (.iconst 1, 1, []), (.if_icmp .eq 12, 3, []), (.aload_n 0, 1, []), (.bipush 40, 2, []), (.invokevirtual 246, 3, [123, 2, 2, 9, 1, 1451]), (.ifCond .eq 7, 3, [])]),
  (33, [true, true, false], [(.iconst 1, 1, []), (.goto 4, 3, [])]),
  (37, [true, true, false], [(.iconst 0, 1, [])]),
  (38, [true, true, false], [(.istore_n 2, 1, []), (.iload_n 2, 1, []), (.ifCond .ne 11, 3, []), (.aload_n 0, 1, []), (.iconst 1, 1, []), (.invokevirtual 249, 3, [121, 2, 2, 9, 0, 1425]), (.goto 14, 3, [])]),
  (51, [true, true, false], [(.iload_n 1, 1, []), (.bipush 6, 2, []), (.if_icmp .ne 8, 3, []), (.aload_n 0, 1, []), (.iconst 2, 1, []), (.invokevirtual 249, 3, [121, 2, 2, 9, 0, 1425])]),
  (62, [true, true, false], [(.aload_n 0, 1, []), (.iload_n 1, 1, []), (.invokevirtual 288, 3, [133, 2, 2, 9, 0, 1455])]),
  (67, [true, true, false], [(.aload_n 0, 1, []), (.ldc_w 291, 3, [1, 1208, 1489]), (.invokevirtual 239, 3, [122, 2, 2, 9, 1, 1415]), (.ifCond .eq 21, 3, []), (.aload_n 0, 1, []), (.invokevirtual 243, 3, [120, 1, 2, 9, 0, 1396]), (.aload_n 0, 1, []), (.iload_n 1, 1, []), (.invokevirtual 288, 3, [133, 2, 2, 9, 0, 1455]), (.aload_n 0, 1, []), (.bipush (-27), 2, []), (.invokevirtual 259, 3, [128, 2, 2, 9, 0, 1476]), (.goto (-25), 3, [])]),
  (95, [false, false, false], [(.return_, 1, [])])]
/-- SlipRoomModel.readBook -/
noncomputable def z_b135 : z_B := [
  (0, [true, false], [(.aload_n 0, 1, []), (.getfield 293, 3, [9, 4, 0, 0, 0, 1170]), (.bipush 10, 2, []), (.if_icmp .ne 8, 3, []), (.aload_n 0, 1, []), (.iconst 2, 1, []), (.invokevirtual 249, 3, [121, 2, 2, 9, 0, 1425])]),
  (14, [true, false], [(.aload_n 0, 1, []), (.getfield 225, 3, [9, 24, 0, 0, 0, 1190]), (.ifCond .eq 4, 3, []), (.return_, 1, [])]),
  (22, [true, false], [(.aload_n 0, 1, []), (.invokevirtual 243, 3, [120, 1, 2, 9, 0, 1396]), (.bipush 10, 2, []), (.aload_n 0, 1, []), (.getfield 293, 3, [9, 4, 0, 0, 0, 1170]), (.iadd, 1, []), (.istore_n 1, 1, []), (.aload_n 0, 1, []), (.getfield 29, 3, [9, 6, 2, 2, 0, 1172]), (.iload_n 1, 1, []), (.aload_n 0, 1, []), (.iconst 1, 1, []), (.sipush 400, 3, []), (.invokevirtual 256, 3, [127, 3, 2, 9, 1, 1429]), (.iastore, 1, []), (.aload_n 0, 1, []), (.getfield 33, 3, [9, 7, 2, 3, 0, 1173]), (.iload_n 1, 1, []), (.aload_n 0, 1, []), (.ldc_w 296, 3, [1, 1202, 1433]), (.invokevirtual 297, 3, [125, 2, 2, 9, 1, 1434]), (.ifCond .eq 14, 3, []), (.aload_n 0, 1, []), (.iconst 1, 1, []), (.sipush 400, 3, []), (.invokevirtual 256, 3, [127, 3, 2, 9, 1, 1429]), (.goto 4, 3, [])]),
  (74, [true, false], [(.iconst 0, 1, [])]),
  (75, [true, false], [(.iastore, 1, []), (.aload_n 0, 1, []), (.dup, 1, []), (.getfield 293, 3, [9, 4, 0, 0, 0, 1170]), (.iconst 1, 1, []), (.iadd, 1, []), (.putfield 293, 3, [9, 4, 0, 0, 0, 1170]), (.return_, 1, [])])]
/-- SlipRoomModel.readReader -/
noncomputable def z_b136 : z_B := [
  (0, [true, false], [(.aload_n 0, 1, []), (.getfield 300, 3, [9, 5, 0, 0, 0, 1171]), (.bipush 8, 2, []), (.if_icmp .ne 8, 3, []), (.aload_n 0, 1, []), (.iconst 2, 1, []), (.invokevirtual 249, 3, [121, 2, 2, 9, 0, 1425])]),
  (14, [true, false], [(.aload_n 0, 1, []), (.getfield 225, 3, [9, 24, 0, 0, 0, 1190]), (.ifCond .eq 4, 3, []), (.return_, 1, [])]),
  (22, [true, false], [(.aload_n 0, 1, []), (.invokevirtual 243, 3, [120, 1, 2, 9, 0, 1396]), (.bipush 8, 2, []), (.aload_n 0, 1, []), (.getfield 300, 3, [9, 5, 0, 0, 0, 1171]), (.iadd, 1, []), (.istore_n 1, 1, []), (.aload_n 0, 1, []), (.getfield 36, 3, [9, 8, 2, 4, 0, 1174]), (.iload_n 1, 1, []), (.aload_n 0, 1, []), (.iconst 1, 1, []), (.bipush 60, 2, []), (.invokevirtual 256, 3, [127, 3, 2, 9, 1, 1429]), (.iastore, 1, []), (.aload_n 0, 1, []), (.getfield 39, 3, [9, 9, 2, 5, 0, 1175]), (.iload_n 1, 1, []), (.aload_n 0, 1, []), (.ldc_w 303, 3, [1, 1204, 1443]), (.invokevirtual 297, 3, [125, 2, 2, 9, 1, 1434]), (.ifCond .eq 12, 3, []), (.aload_n 0, 1, []), (.iconst 0, 1, []), (.iconst 3, 1, []), (.invokevirtual 256, 3, [127, 3, 2, 9, 1, 1429]), (.goto 4, 3, [])]),
  (71, [true, true], [(.iconst 0, 1, [])]),
  (72, [true, true], [(.iastore, 1, []), (.aload_n 0, 1, []), (.getfield 42, 3, [9, 10, 2, 6, 0, 1176]), (.iload_n 1, 1, []), (.aload_n 0, 1, []), (.ldc_w 304, 3, [1, 1205, 1444]), (.invokevirtual 297, 3, [125, 2, 2, 9, 1, 1434]), (.ifCond .eq 13, 3, []), (.aload_n 0, 1, []), (.iconst 0, 1, []), (.bipush 20, 2, []), (.invokevirtual 256, 3, [127, 3, 2, 9, 1, 1429]), (.goto 4, 3, [])]),
  (98, [true, true], [(.iconst 0, 1, [])]),
  (99, [true, true], [(.iastore, 1, []), (.aload_n 0, 1, []), (.getfield 57, 3, [9, 15, 2, 11, 0, 1181]), (.iload_n 1, 1, []), (.aload_n 0, 1, []), (.ldc_w 305, 3, [1, 1206, 1445]), (.invokevirtual 297, 3, [125, 2, 2, 9, 1, 1434]), (.bastore, 1, []), (.aload_n 0, 1, []), (.getfield 45, 3, [9, 11, 2, 7, 0, 1177]), (.iload_n 1, 1, []), (.aload_n 0, 1, []), (.getfield 253, 3, [9, 27, 0, 0, 0, 1193]), (.iastore, 1, []), (.aload_n 0, 1, []), (.ldc_w 306, 3, [1, 1207, 1446]), (.invokevirtual 297, 3, [125, 2, 2, 9, 1, 1434]), (.ifCond .eq 8, 3, []), (.aload_n 0, 1, []), (.iconst 0, 1, []), (.invokevirtual 269, 3, [134, 2, 2, 9, 0, 1447])]),
  (138, [true, true], [(.aload_n 0, 1, []), (.getfield 48, 3, [9, 12, 2, 8, 0, 1178]), (.iload_n 1, 1, []), (.aload_n 0, 1, []), (.getfield 253, 3, [9, 27, 0, 0, 0, 1193]), (.iastore, 1, []), (.aload_n 0, 1, []), (.dup, 1, []), (.getfield 300, 3, [9, 5, 0, 0, 0, 1171]), (.iconst 1, 1, []), (.iadd, 1, []), (.putfield 300, 3, [9, 5, 0, 0, 0, 1171]), (.return_, 1, [])])]
/-- SlipRoomModel.room -/
noncomputable def z_b137 : z_B := [
  (0, [true, true], [(.aload_n 0, 1, []), (.iconst 0, 1, []), (.putfield 170, 3, [9, 1, 0, 0, 0, 1167]), (.iload_n 1, 1, []), (.ifCond .lt 11, 3, []), (.iload_n 1, 1, []), (.aload_n 0, 1, []), (.getfield 183, 3, [9, 17, 0, 0, 0, 1183]), (.if_icmp .le 9, 3, [])]),
  (17, [true, false], [(.aload_n 0, 1, []), (.iconst 1, 1, []), (.invokevirtual 308, 3, [111, 2, 2, 9, 1, 1392]), (.ireturn, 1, [])]),
  (23, [true, true], [(.aload_n 0, 1, []), (.iconst 0, 1, []), (.putfield 183, 3, [9, 17, 0, 0, 0, 1183]), (.aload_n 0, 1, []), (.iload_n 1, 1, []), (.putfield 186, 3, [9, 19, 0, 0, 0, 1185]), (.aload_n 0, 1, []), (.iconst 0, 1, []), (.putfield 189, 3, [9, 18, 0, 0, 0, 1184]), (.aload_n 0, 1, []), (.iconst 0, 1, []), (.putfield 225, 3, [9, 24, 0, 0, 0, 1190]), (.aload_n 0, 1, []), (.iconst (-1), 1, []), (.putfield 64, 3, [9, 26, 0, 0, 0, 1192]), (.aload_n 0, 1, []), (.iconst 0, 1, []), (.putfield 253, 3, [9, 27, 0, 0, 0, 1193]), (.aload_n 0, 1, []), (.iconst 0, 1, []), (.putfield 293, 3, [9, 4, 0, 0, 0, 1170]), (.aload_n 0, 1, []), (.iconst 0, 1, []), (.putfield 300, 3, [9, 5, 0, 0, 0, 1171]), (.aload_n 0, 1, []), (.invokevirtual 243, 3, [120, 1, 2, 9, 0, 1396])]),
  (67, [true, false], [(.aload_n 0, 1, []), (.getfield 225, 3, [9, 24, 0, 0, 0, 1190]), (.ifCond .ne 57, 3, []), (.aload_n 0, 1, []), (.getfield 199, 3, [9, 20, 0, 0, 0, 1186]), (.ifCond .eq 50, 3, []), (.aload_n 0, 1, []), (.ldc 21, 2, [1, 1201, 1165]), (.invokevirtual 239, 3, [122, 2, 2, 9, 1, 1415]), (.ifCond .eq 10, 3, []), (.aload_n 0, 1, []), (.invokevirtual 311, 3, [135, 1, 2, 9, 0, 1421]), (.goto 25, 3, [])]),
  (97, [true, false], [(.aload_n 0, 1, []), (.ldc_w 314, 3, [1, 1203, 1438]), (.invokevirtual 239, 3, [122, 2, 2, 9, 1, 1415]), (.ifCond .eq 10, 3, []), (.aload_n 0, 1, []), (.invokevirtual 316, 3, [136, 1, 2, 9, 0, 1439]), (.goto 8, 3, [])]),
  (114, [true, false], [(.aload_n 0, 1, []), (.iconst 1, 1, []), (.invokevirtual 249, 3, [121, 2, 2, 9, 0, 1425])]),
  (119, [true, false], [(.aload_n 0, 1, []), (.bipush 59, 2, []), (.invokevirtual 266, 3, [126, 2, 2, 9, 0, 1484]), (.goto (-58), 3, [])]),
  (128, [true, false], [(.aload_n 0, 1, []), (.getfield 225, 3, [9, 24, 0, 0, 0, 1190]), (.ifCond .eq 26, 3, []), (.aload_n 0, 1, []), (.aload_n 0, 1, []), (.getfield 228, 3, [9, 25, 0, 0, 0, 1191]), (.putfield 64, 3, [9, 26, 0, 0, 0, 1192]), (.aload_n 0, 1, []), (.getfield 54, 3, [9, 14, 2, 10, 0, 1180]), (.iconst 0, 1, []), (.dup2, 1, []), (.iaload, 1, []), (.iconst 1, 1, []), (.iadd, 1, []), (.iastore, 1, []), (.aload_n 0, 1, []), (.getfield 225, 3, [9, 24, 0, 0, 0, 1190]), (.ireturn, 1, [])]),
  (158, [true, false], [(.aload_n 0, 1, []), (.invokevirtual 319, 3, [138, 1, 2, 9, 0, 1490]), (.iconst 0, 1, []), (.ireturn, 1, [])])]
/-- SlipRoomModel.take -/
noncomputable def z_b138 : z_B := [
  (0, [true, false], [(.aload_n 0, 1, []), (.aload_n 0, 1, []), (.getfield 293, 3, [9, 4, 0, 0, 0, 1170]), (.putfield 173, 3, [9, 2, 0, 0, 0, 1168]), (.aload_n 0, 1, []), (.aload_n 0, 1, []), (.getfield 300, 3, [9, 5, 0, 0, 0, 1171]), (.putfield 180, 3, [9, 3, 0, 0, 0, 1169]), (.iconst 0, 1, []), (.istore_n 1, 1, [])]),
  (18, [true, true], [(.iload_n 1, 1, []), (.bipush 10, 2, []), (.if_icmp .ge 39, 3, []), (.aload_n 0, 1, []), (.getfield 29, 3, [9, 6, 2, 2, 0, 1172]), (.iload_n 1, 1, []), (.aload_n 0, 1, []), (.getfield 29, 3, [9, 6, 2, 2, 0, 1172]), (.bipush 10, 2, []), (.iload_n 1, 1, []), (.iadd, 1, []), (.iaload, 1, []), (.iastore, 1, []), (.aload_n 0, 1, []), (.getfield 33, 3, [9, 7, 2, 3, 0, 1173]), (.iload_n 1, 1, []), (.aload_n 0, 1, []), (.getfield 33, 3, [9, 7, 2, 3, 0, 1173]), (.bipush 10, 2, []), (.iload_n 1, 1, []), (.iadd, 1, []), (.iaload, 1, []), (.iastore, 1, []), (.iinc 1 1, 3, []), (.goto (-39), 3, [])]),
  (60, [true, false], [(.iconst 0, 1, []), (.istore_n 1, 1, [])]),
  (62, [true, true], [(.iload_n 1, 1, []), (.bipush 8, 2, []), (.if_icmp .ge 99, 3, []), (.aload_n 0, 1, []), (.getfield 36, 3, [9, 8, 2, 4, 0, 1174]), (.iload_n 1, 1, []), (.aload_n 0, 1, []), (.getfield 36, 3, [9, 8, 2, 4, 0, 1174]), (.bipush 8, 2, []), (.iload_n 1, 1, []), (.iadd, 1, []), (.iaload, 1, []), (.iastore, 1, []), (.aload_n 0, 1, []), (.getfield 39, 3, [9, 9, 2, 5, 0, 1175]), (.iload_n 1, 1, []), (.aload_n 0, 1, []), (.getfield 39, 3, [9, 9, 2, 5, 0, 1175]), (.bipush 8, 2, []), (.iload_n 1, 1, []), (.iadd, 1, []), (.iaload, 1, []), (.iastore, 1, []), (.aload_n 0, 1, []), (.getfield 42, 3, [9, 10, 2, 6, 0, 1176]), (.iload_n 1, 1, []), (.aload_n 0, 1, []), (.getfield 42, 3, [9, 10, 2, 6, 0, 1176]), (.bipush 8, 2, []), (.iload_n 1, 1, []), (.iadd, 1, []), (.iaload, 1, []), (.iastore, 1, []), (.aload_n 0, 1, []), (.getfield 57, 3, [9, 15, 2, 11, 0, 1181]), (.iload_n 1, 1, []), (.aload_n 0, 1, []), (.getfield 57, 3, [9, 15, 2, 11, 0, 1181]), (.bipush 8, 2, []), (.iload_n 1, 1, []), (.iadd, 1, []), (.baload, 1, []), (.bastore, 1, []), (.aload_n 0, 1, []), (.getfield 45, 3, [9, 11, 2, 7, 0, 1177]), (.iload_n 1, 1, []), (.aload_n 0, 1, []), (.getfield 45, 3, [9, 11, 2, 7, 0, 1177]), (.bipush 8, 2, []), (.iload_n 1, 1, []), (.iadd, 1, []), (.iaload, 1, []), (.iastore, 1, []), (.aload_n 0, 1, []), (.getfield 48, 3, [9, 12, 2, 8, 0, 1178]), (.iload_n 1, 1, []), (.aload_n 0, 1, []), (.getfield 48, 3, [9, 12, 2, 8, 0, 1178]), (.bipush 8, 2, []), (.iload_n 1, 1, []), (.iadd, 1, []), (.iaload, 1, []), (.iastore, 1, []), (.iinc 1 1, 3, []), (.goto (-99), 3, [])]),
  (164, [true, false], [(.iconst 0, 1, []), (.istore_n 1, 1, [])]),
  (166, [true, true], [(.iload_n 1, 1, []), (.aload_n 0, 1, []), (.getfield 253, 3, [9, 27, 0, 0, 0, 1193]), (.if_icmp .ge 25, 3, []), (.aload_n 0, 1, []), (.getfield 51, 3, [9, 13, 2, 9, 0, 1179]), (.iload_n 1, 1, []), (.aload_n 0, 1, []), (.getfield 51, 3, [9, 13, 2, 9, 0, 1179]), (.sipush 700, 3, []), (.iload_n 1, 1, []), (.iadd, 1, []), (.iaload, 1, []), (.iastore, 1, []), (.iinc 1 1, 3, []), (.goto (-27), 3, [])]),
  (196, [true, false], [(.aload_n 0, 1, []), (.iconst 0, 1, []), (.putfield 322, 3, [9, 28, 0, 0, 0, 1194]), (.aload_n 0, 1, []), (.iconst 0, 1, []), (.putfield 325, 3, [9, 29, 0, 0, 0, 1195]), (.aload_n 0, 1, []), (.iconst 0, 1, []), (.putfield 328, 3, [9, 44, 0, 0, 0, 1210]), (.aload_n 0, 1, []), (.iconst 0, 1, []), (.putfield 331, 3, [9, 57, 0, 0, 0, 1223]), (.aload_n 0, 1, []), (.iconst (-1), 1, []), (.putfield 155, 3, [9, 63, 0, 0, 0, 1229]), (.aload_n 0, 1, []), (.iconst 0, 1, []), (.putfield 334, 3, [9, 67, 0, 1, 0, 1233]), (.iconst 0, 1, []), (.istore_n 1, 1, [])]),
  (228, [true, true], [(.iload_n 1, 1, []), (.bipush 10, 2, []), (.if_icmp .ge 16, 3, []), (.aload_n 0, 1, []), (.getfield 77, 3, [9, 33, 2, 16, 0, 1199]), (.iload_n 1, 1, []), (.iconst 0, 1, []), (.iastore, 1, []), (.iinc 1 1, 3, []), (.goto (-16), 3, [])]),
  (247, [true, false], [(.iconst 0, 1, []), (.istore_n 1, 1, [])]),
  (249, [true, true], [(.iload_n 1, 1, []), (.bipush 8, 2, []), (.if_icmp .ge 16, 3, []), (.aload_n 0, 1, []), (.getfield 80, 3, [9, 34, 2, 17, 0, 1200]), (.iload_n 1, 1, []), (.iconst 0, 1, []), (.iastore, 1, []), (.iinc 1 1, 3, []), (.goto (-16), 3, [])]),
  (268, [true, false], [(.iconst 0, 1, []), (.istore_n 1, 1, [])]),
  (270, [true, true], [(.iload_n 1, 1, []), (.bipush 80, 2, []), (.if_icmp .ge 30, 3, []), (.aload_n 0, 1, []), (.getfield 68, 3, [9, 30, 2, 13, 0, 1196]), (.iload_n 1, 1, []), (.iconst 0, 1, []), (.iastore, 1, []), (.aload_n 0, 1, []), (.getfield 71, 3, [9, 31, 2, 14, 0, 1197]), (.iload_n 1, 1, []), (.iconst 0, 1, []), (.iastore, 1, []), (.aload_n 0, 1, []), (.getfield 74, 3, [9, 32, 2, 15, 0, 1198]), (.iload_n 1, 1, []), (.iconst (-1), 1, []), (.iastore, 1, []), (.iinc 1 1, 3, []), (.goto (-30), 3, [])]),
  (303, [true, false], [(.iconst 0, 1, []), (.istore_n 1, 1, [])]),
  (305, [true, true], [(.iload_n 1, 1, []), (.sipush 32080, 3, []), (.if_icmp .ge 16, 3, []), (.aload_n 0, 1, []), (.getfield 83, 3, [9, 35, 2, 18, 0, 1201]), (.iload_n 1, 1, []), (.iconst 0, 1, []), (.bastore, 1, []), (.iinc 1 1, 3, []), (.goto (-17), 3, [])]),
  (325, [true, false], [(.iconst 0, 1, []), (.istore_n 1, 1, [])]),
  (327, [true, true], [(.iload_n 1, 1, []), (.bipush 60, 2, []), (.if_icmp .ge 16, 3, []), (.aload_n 0, 1, []), (.getfield 158, 3, [9, 65, 2, 42, 0, 1231]), (.iload_n 1, 1, []), (.iconst 0, 1, []), (.iastore, 1, []), (.iinc 1 1, 3, []), (.goto (-16), 3, [])]),
  (346, [false, false], [(.return_, 1, [])])]
/-- SlipRoomModel.fault -/
noncomputable def z_b139 : z_B := [
  (0, [true], [(.aload_n 0, 1, []), (.iconst 0, 1, []), (.putfield 170, 3, [9, 1, 0, 0, 0, 1167]), (.aload_n 0, 1, []), (.getfield 64, 3, [9, 26, 0, 0, 0, 1192]), (.ireturn, 1, [])])]
/-- SlipRoomModel.count -/
noncomputable def z_b140 : z_B := [
  (0, [true, true], [(.aload_n 0, 1, []), (.iconst 0, 1, []), (.putfield 170, 3, [9, 1, 0, 0, 0, 1167]), (.iload_n 1, 1, []), (.bipush 7, 2, []), (.bipush 11, 2, []), (.invokestatic 176, 3, [112, 3, 0, 0, 1, 1502]), (.ifCond .eq 13, 3, []), (.aload_n 0, 1, []), (.getfield 54, 3, [9, 14, 2, 10, 0, 1180]), (.iload_n 1, 1, []), (.bipush 7, 2, []), (.isub, 1, []), (.iaload, 1, []), (.ireturn, 1, [])]),
  (26, [true, true], [(.iload_n 1, 1, []), (.tableswitch 76 0 6 #[41, 46, 51, 56, 61, 66, 71], 41, [])]),
  (68, [true, false], [(.aload_n 0, 1, []), (.getfield 173, 3, [9, 2, 0, 0, 0, 1168]), (.ireturn, 1, [])]),
  (73, [true, false], [(.aload_n 0, 1, []), (.getfield 180, 3, [9, 3, 0, 0, 0, 1169]), (.ireturn, 1, [])]),
  (78, [true, false], [(.aload_n 0, 1, []), (.getfield 322, 3, [9, 28, 0, 0, 0, 1194]), (.ireturn, 1, [])]),
  (83, [true, false], [(.aload_n 0, 1, []), (.getfield 328, 3, [9, 44, 0, 0, 0, 1210]), (.ireturn, 1, [])]),
  (88, [true, false], [(.aload_n 0, 1, []), (.getfield 331, 3, [9, 57, 0, 0, 0, 1223]), (.ireturn, 1, [])]),
  (93, [true, false], [(.aload_n 0, 1, []), (.getfield 183, 3, [9, 17, 0, 0, 0, 1183]), (.ireturn, 1, [])]),
  (98, [true, false], [(.aload_n 0, 1, []), (.getfield 325, 3, [9, 29, 0, 0, 0, 1195]), (.ireturn, 1, [])]),
  (103, [true, false], [(.aload_n 0, 1, []), (.iconst 1, 1, []), (.invokevirtual 308, 3, [111, 2, 2, 9, 1, 1392]), (.ireturn, 1, [])])]
/-- SlipRoomModel.pair -/
noncomputable def z_b141 : z_B := [
  (0, [true, true], [(.bipush 8, 2, []), (.iload_n 1, 1, []), (.imul, 1, []), (.iload_n 0, 1, []), (.iadd, 1, []), (.ireturn, 1, [])])]
/-- SlipRoomModel.hasRead -/
noncomputable def z_b142 : z_B := [
  (0, [true, true, true, true], [(.aload_n 0, 1, []), (.getfield 83, 3, [9, 35, 2, 18, 0, 1201]), (.sipush 401, 3, []), (.iload_n 1, 1, []), (.iload_n 2, 1, []), (.invokestatic 338, 3, [141, 2, 0, 0, 1, 1521]), (.imul, 1, []), (.iload_n 3, 1, []), (.iadd, 1, []), (.baload, 1, []), (.ireturn, 1, [])])]
/-- SlipRoomModel.unopened -/
noncomputable def z_b143 : z_B := [
  (0, [true, true, false, false, false, false], [(.iconst 0, 1, []), (.istore_n 2, 1, []), (.iconst 1, 1, []), (.istore_n 3, 1, [])]),
  (4, [true, true, true, true, false, false], [(.iload_n 3, 1, []), (.aload_n 0, 1, []), (.getfield 29, 3, [9, 6, 2, 2, 0, 1172]), (.iload_n 1, 1, []), (.iaload, 1, []), (.if_icmp .gt 56, 3, []), (.iconst 0, 1, []), (.istore 4, 2, []), (.iconst 0, 1, []), (.istore 5, 2, [])]),
  (20, [true, true, true, true, true, true], [(.iload 5, 2, []), (.aload_n 0, 1, []), (.getfield 180, 3, [9, 3, 0, 0, 0, 1169]), (.if_icmp .ge 22, 3, []), (.iload 4, 2, []), (.aload_n 0, 1, []), (.iload 5, 2, []), (.iload_n 1, 1, []), (.iload_n 3, 1, []), (.invokevirtual 341, 3, [142, 4, 2, 9, 1, 1517]), (.ior, 1, []), (.istore 4, 2, []), (.iinc 5 1, 3, []), (.goto (-25), 3, [])]),
  (48, [true, true, true, true, true, false], [(.iload_n 2, 1, []), (.iload 4, 2, []), (.ifCond .eq 7, 3, []), (.iconst 0, 1, []), (.goto 4, 3, [])]),
  (58, [true, true, false, true, false, false], [(.iconst 1, 1, [])]),
  (59, [true, true, false, true, false, false], [(.iadd, 1, []), (.istore_n 2, 1, []), (.iinc 3 1, 3, []), (.goto (-60), 3, [])]),
  (67, [false, false, true, false, false, false], [(.iload_n 2, 1, []), (.ireturn, 1, [])])]
/-- SlipRoomModel.slipsIn -/
noncomputable def z_b144 : z_B := [
  (0, [true, true, false, false], [(.iconst 0, 1, []), (.istore_n 2, 1, []), (.iconst 0, 1, []), (.istore_n 3, 1, [])]),
  (4, [true, true, true, true], [(.iload_n 3, 1, []), (.aload_n 0, 1, []), (.getfield 180, 3, [9, 3, 0, 0, 0, 1169]), (.if_icmp .ge 30, 3, []), (.iload_n 2, 1, []), (.aload_n 0, 1, []), (.getfield 68, 3, [9, 30, 2, 13, 0, 1196]), (.iload_n 3, 1, []), (.iload_n 1, 1, []), (.invokestatic 338, 3, [141, 2, 0, 0, 1, 1521]), (.iaload, 1, []), (.ifCond .le 7, 3, []), (.iconst 1, 1, []), (.goto 4, 3, [])]),
  (30, [true, true, false, true], [(.iconst 0, 1, [])]),
  (31, [true, true, false, true], [(.iadd, 1, []), (.istore_n 2, 1, []), (.iinc 3 1, 3, []), (.goto (-32), 3, [])]),
  (39, [false, false, true, false], [(.iload_n 2, 1, []), (.ireturn, 1, [])])]
/-- SlipRoomModel.book -/
noncomputable def z_b145 : z_B := [
  (0, [true, true, true], [(.aload_n 0, 1, []), (.iconst 0, 1, []), (.putfield 170, 3, [9, 1, 0, 0, 0, 1167]), (.aload_n 0, 1, []), (.iload_n 1, 1, []), (.invokevirtual 344, 3, [113, 2, 2, 9, 1, 1509]), (.ifCond .ne 9, 3, []), (.aload_n 0, 1, []), (.iconst 1, 1, []), (.invokevirtual 308, 3, [111, 2, 2, 9, 1, 1392]), (.ireturn, 1, [])]),
  (19, [true, true, true], [(.iload_n 2, 1, []), (.tableswitch 69 0 4 #[36, 43, 50, 56, 62], 36, [])]),
  (56, [true, true, false], [(.aload_n 0, 1, []), (.getfield 29, 3, [9, 6, 2, 2, 0, 1172]), (.iload_n 1, 1, []), (.iaload, 1, []), (.ireturn, 1, [])]),
  (63, [true, true, false], [(.aload_n 0, 1, []), (.getfield 33, 3, [9, 7, 2, 3, 0, 1173]), (.iload_n 1, 1, []), (.iaload, 1, []), (.ireturn, 1, [])]),
  (70, [true, true, false], [(.aload_n 0, 1, []), (.iload_n 1, 1, []), (.invokevirtual 347, 3, [143, 2, 2, 9, 1, 1513]), (.ireturn, 1, [])]),
  (76, [true, true, false], [(.aload_n 0, 1, []), (.iload_n 1, 1, []), (.invokevirtual 350, 3, [144, 2, 2, 9, 1, 1524]), (.ireturn, 1, [])]),
  (82, [true, true, false], [(.aload_n 0, 1, []), (.getfield 77, 3, [9, 33, 2, 16, 0, 1199]), (.iload_n 1, 1, []), (.iaload, 1, []), (.ireturn, 1, [])]),
  (89, [true, false, false], [(.aload_n 0, 1, []), (.iconst 1, 1, []), (.invokevirtual 308, 3, [111, 2, 2, 9, 1, 1392]), (.ireturn, 1, [])])]
/-- SlipRoomModel.reader -/
noncomputable def z_b146 : z_B := [
  (0, [true, true, true], [(.aload_n 0, 1, []), (.iconst 0, 1, []), (.putfield 170, 3, [9, 1, 0, 0, 0, 1167]), (.aload_n 0, 1, []), (.iload_n 1, 1, []), (.invokevirtual 353, 3, [114, 2, 2, 9, 1, 1532]), (.ifCond .ne 9, 3, []), (.aload_n 0, 1, []), (.iconst 1, 1, []), (.invokevirtual 308, 3, [111, 2, 2, 9, 1, 1392]), (.ireturn, 1, [])]),
  (19, [true, true, true], [(.iload_n 2, 1, []), (.tableswitch 79 0 4 #[36, 43, 50, 57, 72], 36, [])]),
  (56, [true, true, false], [(.aload_n 0, 1, []), (.getfield 36, 3, [9, 8, 2, 4, 0, 1174]), (.iload_n 1, 1, []), (.iaload, 1, []), (.ireturn, 1, [])]),
  (63, [true, true, false], [(.aload_n 0, 1, []), (.getfield 39, 3, [9, 9, 2, 5, 0, 1175]), (.iload_n 1, 1, []), (.iaload, 1, []), (.ireturn, 1, [])]),
  (70, [true, true, false], [(.aload_n 0, 1, []), (.getfield 42, 3, [9, 10, 2, 6, 0, 1176]), (.iload_n 1, 1, []), (.iaload, 1, []), (.ireturn, 1, [])]),
  (77, [true, true, false], [(.aload_n 0, 1, []), (.getfield 57, 3, [9, 15, 2, 11, 0, 1181]), (.iload_n 1, 1, []), (.baload, 1, []), (.ifCond .eq 7, 3, []), (.iconst 1, 1, []), (.goto 4, 3, [])]),
  (90, [false, false, false], [(.iconst 0, 1, [])]),
  (91, [false, false, false], [(.ireturn, 1, [])]),
  (92, [true, true, false], [(.aload_n 0, 1, []), (.getfield 80, 3, [9, 34, 2, 17, 0, 1200]), (.iload_n 1, 1, []), (.iaload, 1, []), (.ireturn, 1, [])]),
  (99, [true, false, false], [(.aload_n 0, 1, []), (.iconst 1, 1, []), (.invokevirtual 308, 3, [111, 2, 2, 9, 1, 1392]), (.ireturn, 1, [])])]
/-- SlipRoomModel.reckon -/
noncomputable def z_b147 : z_B := [
  (0, [true, true, true], [(.iload_n 0, 1, []), (.tableswitch 103 (-26) (-20) #[89, 78, 67, 55, 51, 47, 43], 43, [])]),
  (44, [false, true, true], [(.iload_n 1, 1, []), (.iload_n 2, 1, []), (.iadd, 1, []), (.ireturn, 1, [])]),
  (48, [false, true, true], [(.iload_n 1, 1, []), (.iload_n 2, 1, []), (.isub, 1, []), (.ireturn, 1, [])]),
  (52, [false, true, true], [(.iload_n 1, 1, []), (.iload_n 2, 1, []), (.imul, 1, []), (.ireturn, 1, [])]),
  (56, [false, true, true], [(.iload_n 2, 1, []), (.ifCond .ne 7, 3, []), (.iconst 0, 1, []), (.goto 6, 3, [])]),
  (64, [false, true, true], [(.iload_n 1, 1, []), (.iload_n 2, 1, []), (.idiv, 1, [])]),
  (67, [false, false, false], [(.ireturn, 1, [])]),
  (68, [false, true, true], [(.iload_n 1, 1, []), (.iload_n 2, 1, []), (.if_icmp .ge 7, 3, []), (.iconst 1, 1, []), (.goto 4, 3, [])]),
  (77, [false, false, false], [(.iconst 0, 1, [])]),
  (78, [false, false, false], [(.ireturn, 1, [])]),
  (79, [false, true, true], [(.iload_n 1, 1, []), (.iload_n 2, 1, []), (.if_icmp .ne 7, 3, []), (.iconst 1, 1, []), (.goto 4, 3, [])]),
  (88, [false, false, false], [(.iconst 0, 1, [])]),
  (89, [false, false, false], [(.ireturn, 1, [])]),
  (90, [false, true, true], [(.iload_n 1, 1, []), (.ifCond .eq 11, 3, []), (.iload_n 2, 1, []), (.ifCond .eq 7, 3, []), (.iconst 1, 1, []), (.goto 4, 3, [])]),
  (102, [false, false, false], [(.iconst 0, 1, [])]),
  (103, [false, false, false], [(.ireturn, 1, [])]),
  (104, [false, true, true], [(.iload_n 1, 1, []), (.ifCond .ne 7, 3, []), (.iload_n 2, 1, []), (.ifCond .eq 7, 3, [])]),
  (112, [false, false, false], [(.iconst 1, 1, []), (.goto 4, 3, [])]),
  (116, [false, false, false], [(.iconst 0, 1, [])]),
  (117, [false, false, false], [(.ireturn, 1, [])])]
/-- SlipRoomModel.stops -/
noncomputable def z_b148 : z_B := [
  (0, [true, true, true, true, true, true, false, false, false], [(.aload_n 0, 1, []), (.getfield 104, 3, [9, 42, 2, 25, 0, 1208]), (.iconst 0, 1, []), (.iload_n 3, 1, []), (.iastore, 1, []), (.aload_n 0, 1, []), (.getfield 104, 3, [9, 42, 2, 25, 0, 1208]), (.iconst 1, 1, []), (.aload_n 0, 1, []), (.getfield 29, 3, [9, 6, 2, 2, 0, 1172]), (.iload_n 2, 1, []), (.iaload, 1, []), (.iload_n 3, 1, []), (.isub, 1, []), (.iastore, 1, []), (.aload_n 0, 1, []), (.getfield 104, 3, [9, 42, 2, 25, 0, 1208]), (.iconst 2, 1, []), (.aload_n 0, 1, []), (.getfield 33, 3, [9, 7, 2, 3, 0, 1173]), (.iload_n 2, 1, []), (.iaload, 1, []), (.ifCond .ne 7, 3, []), (.iload_n 3, 1, []), (.goto 15, 3, [])]),
  (39, [true, true, true, true, true, true, false, false, false], [(.iload_n 3, 1, []), (.iconst 1, 1, []), (.isub, 1, []), (.aload_n 0, 1, []), (.getfield 33, 3, [9, 7, 2, 3, 0, 1173]), (.iload_n 2, 1, []), (.iaload, 1, []), (.irem, 1, []), (.iconst 1, 1, []), (.iadd, 1, [])]),
  (51, [true, true, true, false, true, true, false, false, false], [(.iastore, 1, []), (.aload_n 0, 1, []), (.getfield 104, 3, [9, 42, 2, 25, 0, 1208]), (.iconst 3, 1, []), (.iload 4, 2, []), (.iastore, 1, []), (.aload_n 0, 1, []), (.getfield 104, 3, [9, 42, 2, 25, 0, 1208]), (.iconst 4, 1, []), (.iload 5, 2, []), (.bipush 24, 2, []), (.irem, 1, []), (.iastore, 1, []), (.aload_n 0, 1, []), (.getfield 104, 3, [9, 42, 2, 25, 0, 1208]), (.iconst 5, 1, []), (.iload 5, 2, []), (.bipush 24, 2, []), (.idiv, 1, []), (.iastore, 1, []), (.aload_n 0, 1, []), (.getfield 104, 3, [9, 42, 2, 25, 0, 1208]), (.bipush 6, 2, []), (.iload_n 2, 1, []), (.iastore, 1, []), (.iconst 0, 1, []), (.istore 6, 2, []), (.aload_n 0, 1, []), (.getfield 45, 3, [9, 11, 2, 7, 0, 1177]), (.iload_n 1, 1, []), (.iaload, 1, []), (.istore 7, 2, [])]),
  (101, [true, true, false, false, false, false, true, true, false], [(.iload 7, 2, []), (.aload_n 0, 1, []), (.getfield 48, 3, [9, 12, 2, 8, 0, 1178]), (.iload_n 1, 1, []), (.iaload, 1, []), (.if_icmp .ge 126, 3, []), (.aload_n 0, 1, []), (.getfield 51, 3, [9, 13, 2, 9, 0, 1179]), (.iload 7, 2, []), (.iaload, 1, []), (.istore 8, 2, []), (.iload 8, 2, []), (.bipush (-20), 2, []), (.if_icmp .le 35, 3, []), (.aload_n 0, 1, []), (.getfield 107, 3, [9, 43, 2, 26, 0, 1209]), (.iload 6, 2, []), (.iload 8, 2, []), (.ifCond .lt 8, 3, []), (.iload 8, 2, []), (.goto 12, 3, [])]),
  (144, [true, true, false, false, false, false, true, true, true], [(.aload_n 0, 1, []), (.getfield 104, 3, [9, 42, 2, 25, 0, 1208]), (.iconst (-1), 1, []), (.iload 8, 2, []), (.isub, 1, []), (.iaload, 1, [])]),
  (153, [true, true, false, false, false, false, true, true, false], [(.iastore, 1, []), (.iinc 6 1, 3, []), (.goto 72, 3, [])]),
  (160, [true, true, false, false, false, false, true, true, true], [(.iload 8, 2, []), (.bipush (-28), 2, []), (.if_icmp .ne 32, 3, []), (.aload_n 0, 1, []), (.getfield 107, 3, [9, 43, 2, 26, 0, 1209]), (.iload 6, 2, []), (.iconst 1, 1, []), (.isub, 1, []), (.aload_n 0, 1, []), (.getfield 107, 3, [9, 43, 2, 26, 0, 1209]), (.iload 6, 2, []), (.iconst 1, 1, []), (.isub, 1, []), (.iaload, 1, []), (.ifCond .eq 7, 3, []), (.iconst 0, 1, []), (.goto 4, 3, [])]),
  (191, [true, true, false, false, false, false, true, true, false], [(.iconst 1, 1, [])]),
  (192, [true, true, false, false, false, false, true, true, false], [(.iastore, 1, []), (.goto 36, 3, [])]),
  (196, [true, true, false, false, false, false, true, true, true], [(.iinc 6 (-1), 3, []), (.aload_n 0, 1, []), (.getfield 107, 3, [9, 43, 2, 26, 0, 1209]), (.iload 6, 2, []), (.iconst 1, 1, []), (.isub, 1, []), (.iload 8, 2, []), (.aload_n 0, 1, []), (.getfield 107, 3, [9, 43, 2, 26, 0, 1209]), (.iload 6, 2, []), (.iconst 1, 1, []), (.isub, 1, []), (.iaload, 1, []), (.aload_n 0, 1, []), (.getfield 107, 3, [9, 43, 2, 26, 0, 1209]), (.iload 6, 2, []), (.iaload, 1, []), (.invokestatic 356, 3, [147, 3, 0, 0, 1, 1557]), (.iastore, 1, [])]),
  (229, [true, true, false, false, false, false, true, true, false], [(.iinc 7 1, 3, []), (.goto (-131), 3, [])]),
  (235, [true, false, false, false, false, false, true, false, false], [(.iload 6, 2, []), (.ifCond .le 16, 3, []), (.aload_n 0, 1, []), (.getfield 107, 3, [9, 43, 2, 26, 0, 1209]), (.iconst 0, 1, []), (.iaload, 1, []), (.ifCond .eq 7, 3, []), (.iconst 1, 1, []), (.goto 4, 3, [])]),
  (253, [false, false, false, false, false, false, false, false, false], [(.iconst 0, 1, [])]),
  (254, [false, false, false, false, false, false, false, false, false], [(.ireturn, 1, [])])]
/-- SlipRoomModel.turnPage -/
noncomputable def z_b149 : z_B := [
  (0, [true, true, true, true, true], [(.aload_n 0, 1, []), (.getfield 83, 3, [9, 35, 2, 18, 0, 1201]), (.sipush 401, 3, []), (.iload_n 1, 1, []), (.iload_n 2, 1, []), (.invokestatic 338, 3, [141, 2, 0, 0, 1, 1521]), (.imul, 1, []), (.iload_n 3, 1, []), (.iadd, 1, []), (.iconst 1, 1, []), (.bastore, 1, []), (.aload_n 0, 1, []), (.getfield 74, 3, [9, 32, 2, 15, 0, 1198]), (.iload_n 1, 1, []), (.iload_n 2, 1, []), (.invokestatic 338, 3, [141, 2, 0, 0, 1, 1521]), (.iaload, 1, []), (.iconst (-1), 1, []), (.if_icmp .ne 30, 3, []), (.aload_n 0, 1, []), (.iload_n 1, 1, []), (.iload_n 2, 1, []), (.invokevirtual 360, 3, [150, 3, 2, 9, 1, 1544]), (.aload_n 0, 1, []), (.getfield 29, 3, [9, 6, 2, 2, 0, 1172]), (.iload_n 2, 1, []), (.iaload, 1, []), (.if_icmp .ne 15, 3, []), (.aload_n 0, 1, []), (.getfield 74, 3, [9, 32, 2, 15, 0, 1198]), (.iload_n 1, 1, []), (.iload_n 2, 1, []), (.invokestatic 338, 3, [141, 2, 0, 0, 1, 1521]), (.iload 4, 2, []), (.iastore, 1, [])]),
  (58, [false, false, false, false, false], [(.return_, 1, [])])]
/-- SlipRoomModel.readOf -/
noncomputable def z_b150 : z_B := [
  (0, [true, true, true, false, false], [(.iconst 0, 1, []), (.istore_n 3, 1, []), (.iconst 1, 1, []), (.istore 4, 2, [])]),
  (5, [true, true, true, true, true], [(.iload 4, 2, []), (.aload_n 0, 1, []), (.getfield 29, 3, [9, 6, 2, 2, 0, 1172]), (.iload_n 2, 1, []), (.iaload, 1, []), (.if_icmp .gt 28, 3, []), (.iload_n 3, 1, []), (.aload_n 0, 1, []), (.iload_n 1, 1, []), (.iload_n 2, 1, []), (.iload 4, 2, []), (.invokevirtual 341, 3, [142, 4, 2, 9, 1, 1517]), (.ifCond .eq 7, 3, []), (.iconst 1, 1, []), (.goto 4, 3, [])]),
  (32, [true, true, true, false, true], [(.iconst 0, 1, [])]),
  (33, [true, true, true, false, true], [(.iadd, 1, []), (.istore_n 3, 1, []), (.iinc 4 1, 3, []), (.goto (-33), 3, [])]),
  (41, [false, false, false, true, false], [(.iload_n 3, 1, []), (.ireturn, 1, [])])]
/-- SlipRoomModel.beginOf -/
noncomputable def z_b151 : z_B := [
  (0, [true, true, true, false, false], [(.aload_n 0, 1, []), (.getfield 68, 3, [9, 30, 2, 13, 0, 1196]), (.iload_n 1, 1, []), (.iload_n 2, 1, []), (.invokestatic 338, 3, [141, 2, 0, 0, 1, 1521]), (.iaload, 1, []), (.istore_n 3, 1, []), (.iload_n 3, 1, []), (.iconst (-1), 1, []), (.if_icmp .eq 24, 3, []), (.iload_n 3, 1, []), (.ifCond .ne 7, 3, []), (.iconst 1, 1, []), (.goto 15, 3, [])]),
  (24, [true, true, false, true, false], [(.iconst 1, 1, []), (.iload_n 3, 1, []), (.aload_n 0, 1, []), (.getfield 42, 3, [9, 10, 2, 6, 0, 1176]), (.iload_n 1, 1, []), (.iaload, 1, []), (.isub, 1, []), (.invokestatic 363, 3, [187, 2, 0, 0, 1, 1552])]),
  (36, [false, false, false, false, false], [(.ireturn, 1, [])]),
  (37, [true, true, true, false, false], [(.aload_n 0, 1, []), (.getfield 29, 3, [9, 6, 2, 2, 0, 1172]), (.iload_n 2, 1, []), (.iaload, 1, []), (.aload_n 0, 1, []), (.getfield 71, 3, [9, 31, 2, 14, 0, 1197]), (.iload_n 1, 1, []), (.iload_n 2, 1, []), (.invokestatic 338, 3, [141, 2, 0, 0, 1, 1521]), (.iaload, 1, []), (.invokestatic 213, 3, [188, 2, 0, 0, 1, 1411]), (.istore 4, 2, []), (.aload_n 0, 1, []), (.getfield 33, 3, [9, 7, 2, 3, 0, 1173]), (.iload_n 2, 1, []), (.iaload, 1, []), (.ifCond .ne 7, 3, []), (.iconst 1, 1, []), (.goto 23, 3, [])]),
  (71, [true, false, true, false, true], [(.iload 4, 2, []), (.iconst 1, 1, []), (.isub, 1, []), (.aload_n 0, 1, []), (.getfield 33, 3, [9, 7, 2, 3, 0, 1173]), (.iload_n 2, 1, []), (.iaload, 1, []), (.idiv, 1, []), (.aload_n 0, 1, []), (.getfield 33, 3, [9, 7, 2, 3, 0, 1173]), (.iload_n 2, 1, []), (.iaload, 1, []), (.imul, 1, []), (.iconst 1, 1, []), (.iadd, 1, [])]),
  (91, [false, false, false, false, false], [(.ireturn, 1, [])])]
/-- SlipRoomModel.loan -/
noncomputable def z_b152 : z_B := [
  (0, [true, true, true, true, true, false, false, false, false, false, false], [(.aload_n 0, 1, []), (.iconst 0, 1, []), (.putfield 170, 3, [9, 1, 0, 0, 0, 1167]), (.aload_n 0, 1, []), (.iload_n 1, 1, []), (.invokevirtual 353, 3, [114, 2, 2, 9, 1, 1532]), (.ifCond .eq 11, 3, []), (.aload_n 0, 1, []), (.iload_n 2, 1, []), (.invokevirtual 344, 3, [113, 2, 2, 9, 1, 1509]), (.ifCond .ne 9, 3, [])]),
  (21, [true, false, false, false, false, false, false, false, false, false, false], [(.aload_n 0, 1, []), (.iconst 1, 1, []), (.invokevirtual 308, 3, [111, 2, 2, 9, 1, 1392]), (.ireturn, 1, [])]),
  (27, [true, true, true, true, true, false, false, false, false, false, false], [(.aload_n 0, 1, []), (.getfield 322, 3, [9, 28, 0, 0, 0, 1194]), (.sipush 200, 3, []), (.if_icmp .ge 55, 3, []), (.iload 4, 2, []), (.iconst 1, 1, []), (.bipush 24, 2, []), (.invokestatic 176, 3, [112, 3, 0, 0, 1, 1502]), (.ifCond .eq 44, 3, []), (.iload_n 3, 1, []), (.aload_n 0, 1, []), (.getfield 325, 3, [9, 29, 0, 0, 0, 1195]), (.sipush 8760, 3, []), (.iload 4, 2, []), (.isub, 1, []), (.invokestatic 176, 3, [112, 3, 0, 0, 1, 1502]), (.ifCond .eq 27, 3, []), (.aload_n 0, 1, []), (.getfield 80, 3, [9, 34, 2, 17, 0, 1200]), (.iload_n 1, 1, []), (.iaload, 1, []), (.iload_n 3, 1, []), (.if_icmp .gt 17, 3, []), (.aload_n 0, 1, []), (.getfield 77, 3, [9, 33, 2, 16, 0, 1199]), (.iload_n 2, 1, []), (.iaload, 1, []), (.iload_n 3, 1, []), (.if_icmp .gt 7, 3, []), (.iconst 1, 1, []), (.goto 4, 3, [])]),
  (89, [true, true, true, true, true, false, false, false, false, false, false], [(.iconst 0, 1, [])]),
  (90, [true, true, true, true, true, false, false, false, false, false, false], [(.istore 5, 2, []), (.iload 5, 2, []), (.ifCond .ne 15, 3, []), (.aload_n 0, 1, []), (.getfield 54, 3, [9, 14, 2, 10, 0, 1180]), (.iconst 1, 1, []), (.dup2, 1, []), (.iaload, 1, []), (.iconst 1, 1, []), (.iadd, 1, []), (.iastore, 1, []), (.iconst (-1), 1, []), (.ireturn, 1, [])]),
  (109, [true, true, true, true, true, false, false, false, false, false, false], [(.aload_n 0, 1, []), (.getfield 68, 3, [9, 30, 2, 13, 0, 1196]), (.iload_n 1, 1, []), (.iload_n 2, 1, []), (.invokestatic 338, 3, [141, 2, 0, 0, 1, 1521]), (.iaload, 1, []), (.ifCond .ne 25, 3, []), (.aload_n 0, 1, []), (.getfield 57, 3, [9, 15, 2, 11, 0, 1181]), (.iload_n 1, 1, []), (.baload, 1, []), (.ifCond .eq 16, 3, []), (.aload_n 0, 1, []), (.iload_n 1, 1, []), (.iload_n 2, 1, []), (.aload_n 0, 1, []), (.getfield 29, 3, [9, 6, 2, 2, 0, 1172]), (.iload_n 2, 1, []), (.iaload, 1, []), (.iload_n 3, 1, []), (.invokevirtual 366, 3, [149, 5, 2, 9, 0, 1540])]),
  (144, [true, true, true, true, true, false, false, false, false, false, false], [(.aload_n 0, 1, []), (.iload_n 1, 1, []), (.iload_n 2, 1, []), (.invokevirtual 370, 3, [151, 3, 2, 9, 1, 1548]), (.istore 6, 2, []), (.aload_n 0, 1, []), (.getfield 86, 3, [9, 36, 2, 19, 0, 1202]), (.aload_n 0, 1, []), (.getfield 322, 3, [9, 28, 0, 0, 0, 1194]), (.iload_n 1, 1, []), (.iastore, 1, []), (.aload_n 0, 1, []), (.getfield 89, 3, [9, 37, 2, 20, 0, 1203]), (.aload_n 0, 1, []), (.getfield 322, 3, [9, 28, 0, 0, 0, 1194]), (.iload_n 2, 1, []), (.iastore, 1, []), (.aload_n 0, 1, []), (.getfield 92, 3, [9, 38, 2, 21, 0, 1204]), (.aload_n 0, 1, []), (.getfield 322, 3, [9, 28, 0, 0, 0, 1194]), (.iload_n 3, 1, []), (.iastore, 1, []), (.aload_n 0, 1, []), (.getfield 95, 3, [9, 39, 2, 22, 0, 1205]), (.aload_n 0, 1, []), (.getfield 322, 3, [9, 28, 0, 0, 0, 1194]), (.iload 4, 2, []), (.iastore, 1, []), (.aload_n 0, 1, []), (.getfield 98, 3, [9, 40, 2, 23, 0, 1206]), (.aload_n 0, 1, []), (.getfield 322, 3, [9, 28, 0, 0, 0, 1194]), (.iload 6, 2, []), (.iastore, 1, []), (.iconst 0, 1, []), (.istore 7, 2, []), (.iload_n 3, 1, []), (.istore 8, 2, [])]),
  (210, [true, true, true, true, true, false, true, true, true, false, false], [(.iload 8, 2, []), (.iload_n 3, 1, []), (.iload 4, 2, []), (.iadd, 1, []), (.if_icmp .ge 86, 3, []), (.iconst 1, 1, []), (.istore 9, 2, []), (.iconst 0, 1, []), (.istore 10, 2, [])]),
  (225, [true, true, true, true, true, false, true, true, true, true, true], [(.iload 10, 2, []), (.aload_n 0, 1, []), (.getfield 36, 3, [9, 8, 2, 4, 0, 1174]), (.iload_n 1, 1, []), (.iaload, 1, []), (.if_icmp .ge 63, 3, []), (.iload 9, 2, []), (.ifCond .eq 58, 3, []), (.iload 6, 2, []), (.aload_n 0, 1, []), (.getfield 29, 3, [9, 6, 2, 2, 0, 1172]), (.iload_n 2, 1, []), (.iaload, 1, []), (.if_icmp .gt 47, 3, []), (.aload_n 0, 1, []), (.iload_n 1, 1, []), (.iload_n 2, 1, []), (.iload 6, 2, []), (.iload 8, 2, []), (.invokevirtual 366, 3, [149, 5, 2, 9, 0, 1540]), (.iinc 7 1, 3, []), (.aload_n 0, 1, []), (.iload_n 1, 1, []), (.iload_n 2, 1, []), (.iload 6, 2, []), (.iload 7, 2, []), (.iload 8, 2, []), (.invokevirtual 373, 3, [148, 6, 2, 9, 1, 1553]), (.ifCond .ne 7, 3, []), (.iconst 1, 1, []), (.goto 4, 3, [])]),
  (284, [true, true, true, true, true, false, true, true, true, false, true], [(.iconst 0, 1, [])]),
  (285, [true, true, true, true, true, false, true, true, true, false, true], [(.istore 9, 2, []), (.iinc 6 1, 3, []), (.iinc 10 1, 3, []), (.goto (-68), 3, [])]),
  (296, [true, true, true, true, true, false, true, true, true, false, false], [(.iinc 8 1, 3, []), (.goto (-89), 3, [])]),
  (302, [true, true, true, true, true, false, true, true, false, false, false], [(.aload_n 0, 1, []), (.getfield 101, 3, [9, 41, 2, 24, 0, 1207]), (.aload_n 0, 1, []), (.getfield 322, 3, [9, 28, 0, 0, 0, 1194]), (.iload 7, 2, []), (.iastore, 1, []), (.aload_n 0, 1, []), (.dup, 1, []), (.getfield 322, 3, [9, 28, 0, 0, 0, 1194]), (.iconst 1, 1, []), (.iadd, 1, []), (.putfield 322, 3, [9, 28, 0, 0, 0, 1194]), (.aload_n 0, 1, []), (.getfield 68, 3, [9, 30, 2, 13, 0, 1196]), (.iload_n 1, 1, []), (.iload_n 2, 1, []), (.invokestatic 338, 3, [141, 2, 0, 0, 1, 1521]), (.iload 6, 2, []), (.iastore, 1, []), (.aload_n 0, 1, []), (.getfield 71, 3, [9, 31, 2, 14, 0, 1197]), (.iload_n 1, 1, []), (.iload_n 2, 1, []), (.invokestatic 338, 3, [141, 2, 0, 0, 1, 1521]), (.iload 6, 2, []), (.iastore, 1, []), (.aload_n 0, 1, []), (.getfield 77, 3, [9, 33, 2, 16, 0, 1199]), (.iload_n 2, 1, []), (.iload_n 3, 1, []), (.iload 4, 2, []), (.iadd, 1, []), (.iastore, 1, []), (.aload_n 0, 1, []), (.getfield 80, 3, [9, 34, 2, 17, 0, 1200]), (.iload_n 1, 1, []), (.iload_n 3, 1, []), (.iload 4, 2, []), (.iadd, 1, []), (.iastore, 1, []), (.aload_n 0, 1, []), (.iload_n 3, 1, []), (.putfield 325, 3, [9, 29, 0, 0, 0, 1195]), (.iload 7, 2, []), (.ireturn, 1, [])])]
/-- SlipRoomModel.lent -/
noncomputable def z_b153 : z_B := [
  (0, [true, true, true], [(.aload_n 0, 1, []), (.iconst 0, 1, []), (.putfield 170, 3, [9, 1, 0, 0, 0, 1167]), (.iload_n 1, 1, []), (.iconst 0, 1, []), (.aload_n 0, 1, []), (.getfield 322, 3, [9, 28, 0, 0, 0, 1194]), (.iconst 1, 1, []), (.isub, 1, []), (.invokestatic 176, 3, [112, 3, 0, 0, 1, 1502]), (.ifCond .ne 9, 3, []), (.aload_n 0, 1, []), (.iconst 1, 1, []), (.invokevirtual 308, 3, [111, 2, 2, 9, 1, 1392]), (.ireturn, 1, [])]),
  (25, [true, true, true], [(.iload_n 2, 1, []), (.tableswitch 80 0 5 #[38, 45, 52, 59, 66, 73], 38, [])]),
  (64, [true, true, false], [(.aload_n 0, 1, []), (.getfield 86, 3, [9, 36, 2, 19, 0, 1202]), (.iload_n 1, 1, []), (.iaload, 1, []), (.ireturn, 1, [])]),
  (71, [true, true, false], [(.aload_n 0, 1, []), (.getfield 89, 3, [9, 37, 2, 20, 0, 1203]), (.iload_n 1, 1, []), (.iaload, 1, []), (.ireturn, 1, [])]),
  (78, [true, true, false], [(.aload_n 0, 1, []), (.getfield 92, 3, [9, 38, 2, 21, 0, 1204]), (.iload_n 1, 1, []), (.iaload, 1, []), (.ireturn, 1, [])]),
  (85, [true, true, false], [(.aload_n 0, 1, []), (.getfield 95, 3, [9, 39, 2, 22, 0, 1205]), (.iload_n 1, 1, []), (.iaload, 1, []), (.ireturn, 1, [])]),
  (92, [true, true, false], [(.aload_n 0, 1, []), (.getfield 98, 3, [9, 40, 2, 23, 0, 1206]), (.iload_n 1, 1, []), (.iaload, 1, []), (.ireturn, 1, [])]),
  (99, [true, true, false], [(.aload_n 0, 1, []), (.getfield 101, 3, [9, 41, 2, 24, 0, 1207]), (.iload_n 1, 1, []), (.iaload, 1, []), (.ireturn, 1, [])]),
  (106, [true, false, false], [(.aload_n 0, 1, []), (.iconst 1, 1, []), (.invokevirtual 308, 3, [111, 2, 2, 9, 1, 1392]), (.ireturn, 1, [])])]
/-- SlipRoomModel.drop -/
noncomputable def z_b154 : z_B := [
  (0, [true, true, true, true, false, false, false, false, false], [(.aload_n 0, 1, []), (.iconst 0, 1, []), (.putfield 170, 3, [9, 1, 0, 0, 0, 1167]), (.aload_n 0, 1, []), (.iload_n 1, 1, []), (.invokevirtual 344, 3, [113, 2, 2, 9, 1, 1509]), (.ifCond .ne 9, 3, []), (.aload_n 0, 1, []), (.iconst 1, 1, []), (.invokevirtual 308, 3, [111, 2, 2, 9, 1, 1392]), (.ireturn, 1, [])]),
  (19, [true, true, true, true, false, false, false, false, false], [(.iload_n 2, 1, []), (.aload_n 0, 1, []), (.getfield 325, 3, [9, 29, 0, 0, 0, 1195]), (.sipush 8759, 3, []), (.invokestatic 176, 3, [112, 3, 0, 0, 1, 1502]), (.ifCond .eq 24, 3, []), (.aload_n 0, 1, []), (.getfield 77, 3, [9, 33, 2, 16, 0, 1199]), (.iload_n 1, 1, []), (.iaload, 1, []), (.iload_n 2, 1, []), (.if_icmp .gt 14, 3, []), (.iload_n 3, 1, []), (.bipush (-50), 2, []), (.bipush 50, 2, []), (.invokestatic 176, 3, [112, 3, 0, 0, 1, 1502]), (.ifCond .ne 15, 3, [])]),
  (54, [true, false, false, false, false, false, false, false, false], [(.aload_n 0, 1, []), (.getfield 54, 3, [9, 14, 2, 10, 0, 1180]), (.iconst 2, 1, []), (.dup2, 1, []), (.iaload, 1, []), (.iconst 1, 1, []), (.iadd, 1, []), (.iastore, 1, []), (.iconst (-1), 1, []), (.ireturn, 1, [])]),
  (66, [true, true, true, true, false, false, false, false, false], [(.iconst 0, 1, []), (.istore 4, 2, []), (.iconst 0, 1, []), (.istore 5, 2, [])]),
  (72, [true, true, true, true, true, true, false, false, false], [(.iload 5, 2, []), (.aload_n 0, 1, []), (.getfield 180, 3, [9, 3, 0, 0, 0, 1169]), (.if_icmp .ge 100, 3, []), (.iload 5, 2, []), (.iload_n 1, 1, []), (.invokestatic 338, 3, [141, 2, 0, 0, 1, 1521]), (.istore 6, 2, []), (.aload_n 0, 1, []), (.getfield 68, 3, [9, 30, 2, 13, 0, 1196]), (.iload 6, 2, []), (.iaload, 1, []), (.ifCond .gt 6, 3, []), (.goto 73, 3, [])]),
  (102, [true, true, true, true, true, true, true, false, false], [(.aload_n 0, 1, []), (.getfield 68, 3, [9, 30, 2, 13, 0, 1196]), (.iload 6, 2, []), (.iaload, 1, []), (.iload_n 3, 1, []), (.iadd, 1, []), (.istore 7, 2, []), (.iload_n 3, 1, []), (.ifCond .eq 22, 3, []), (.iload 7, 2, []), (.iconst 1, 1, []), (.aload_n 0, 1, []), (.getfield 29, 3, [9, 6, 2, 2, 0, 1172]), (.iload_n 1, 1, []), (.iaload, 1, []), (.invokestatic 176, 3, [112, 3, 0, 0, 1, 1502]), (.ifCond .eq 7, 3, []), (.iconst 1, 1, []), (.goto 4, 3, [])]),
  (136, [true, true, true, true, true, true, true, true, false], [(.iconst 0, 1, [])]),
  (137, [true, true, true, true, true, true, true, true, false], [(.istore 8, 2, []), (.aload_n 0, 1, []), (.getfield 68, 3, [9, 30, 2, 13, 0, 1196]), (.iload 6, 2, []), (.iload 8, 2, []), (.ifCond .eq 8, 3, []), (.iload 7, 2, []), (.goto 4, 3, [])]),
  (155, [true, true, true, true, true, true, false, false, true], [(.iconst (-1), 1, [])]),
  (156, [true, true, true, true, true, true, false, false, true], [(.iastore, 1, []), (.iload 4, 2, []), (.iload 8, 2, []), (.ifCond .eq 7, 3, []), (.iconst 0, 1, []), (.goto 4, 3, [])]),
  (168, [true, true, true, true, false, true, false, false, false], [(.iconst 1, 1, [])]),
  (169, [true, true, true, true, false, true, false, false, false], [(.iadd, 1, []), (.istore 4, 2, [])]),
  (172, [true, true, true, true, true, true, false, false, false], [(.iinc 5 1, 3, []), (.goto (-103), 3, [])]),
  (178, [true, false, true, false, true, false, false, false, false], [(.aload_n 0, 1, []), (.iload_n 2, 1, []), (.putfield 325, 3, [9, 29, 0, 0, 0, 1195]), (.iload 4, 2, []), (.ireturn, 1, [])])]
/-- SlipRoomModel.slip -/
noncomputable def z_b155 : z_B := [
  (0, [true, true, true], [(.aload_n 0, 1, []), (.iconst 0, 1, []), (.putfield 170, 3, [9, 1, 0, 0, 0, 1167]), (.aload_n 0, 1, []), (.iload_n 1, 1, []), (.invokevirtual 353, 3, [114, 2, 2, 9, 1, 1532]), (.ifCond .eq 24, 3, []), (.aload_n 0, 1, []), (.iload_n 2, 1, []), (.invokevirtual 344, 3, [113, 2, 2, 9, 1, 1509]), (.ifCond .eq 16, 3, []), (.aload_n 0, 1, []), (.getfield 68, 3, [9, 30, 2, 13, 0, 1196]), (.iload_n 1, 1, []), (.iload_n 2, 1, []), (.invokestatic 338, 3, [141, 2, 0, 0, 1, 1521]), (.iaload, 1, []), (.goto 8, 3, [])]),
  (34, [true, false, false], [(.aload_n 0, 1, []), (.iconst 1, 1, []), (.invokevirtual 308, 3, [111, 2, 2, 9, 1, 1392])]),
  (39, [false, false, false], [(.ireturn, 1, [])])]
/-- SlipRoomModel.inARow -/
noncomputable def z_b156 : z_B := [
  (0, [true, true, true, false], [(.iconst 0, 1, []), (.istore_n 3, 1, [])]),
  (2, [true, true, true, true], [(.iload_n 3, 1, []), (.aload_n 0, 1, []), (.getfield 29, 3, [9, 6, 2, 2, 0, 1172]), (.iload_n 2, 1, []), (.iaload, 1, []), (.if_icmp .ge 21, 3, []), (.aload_n 0, 1, []), (.iload_n 1, 1, []), (.iload_n 2, 1, []), (.iload_n 3, 1, []), (.iconst 1, 1, []), (.iadd, 1, []), (.invokevirtual 341, 3, [142, 4, 2, 9, 1, 1517]), (.ifCond .eq 9, 3, []), (.iinc 3 1, 3, []), (.goto (-25), 3, [])]),
  (30, [false, false, false, true], [(.iload_n 3, 1, []), (.ireturn, 1, [])])]
/-- SlipRoomModel.read -/
noncomputable def z_b157 : z_B := [
  (0, [true, true, true, true], [(.aload_n 0, 1, []), (.iconst 0, 1, []), (.putfield 170, 3, [9, 1, 0, 0, 0, 1167]), (.aload_n 0, 1, []), (.iload_n 1, 1, []), (.invokevirtual 353, 3, [114, 2, 2, 9, 1, 1532]), (.ifCond .eq 11, 3, []), (.aload_n 0, 1, []), (.iload_n 2, 1, []), (.invokevirtual 344, 3, [113, 2, 2, 9, 1, 1509]), (.ifCond .ne 9, 3, [])]),
  (21, [true, false, false, false], [(.aload_n 0, 1, []), (.iconst 1, 1, []), (.invokevirtual 308, 3, [111, 2, 2, 9, 1, 1392]), (.ireturn, 1, [])]),
  (27, [true, true, true, true], [(.iload_n 3, 1, []), (.tableswitch 96 0 3 #[32, 39, 46, 85], 32, [])]),
  (60, [true, true, true, false], [(.aload_n 0, 1, []), (.iload_n 1, 1, []), (.iload_n 2, 1, []), (.invokevirtual 360, 3, [150, 3, 2, 9, 1, 1544]), (.ireturn, 1, [])]),
  (67, [true, true, true, false], [(.aload_n 0, 1, []), (.iload_n 1, 1, []), (.iload_n 2, 1, []), (.invokevirtual 376, 3, [156, 3, 2, 9, 1, 1576]), (.ireturn, 1, [])]),
  (74, [true, true, true, false], [(.aload_n 0, 1, []), (.iload_n 1, 1, []), (.iload_n 2, 1, []), (.aload_n 0, 1, []), (.getfield 29, 3, [9, 6, 2, 2, 0, 1172]), (.iload_n 2, 1, []), (.iaload, 1, []), (.invokevirtual 341, 3, [142, 4, 2, 9, 1, 1517]), (.ifCond .eq 25, 3, []), (.bipush 10, 2, []), (.aload_n 0, 1, []), (.iload_n 1, 1, []), (.iload_n 2, 1, []), (.invokevirtual 360, 3, [150, 3, 2, 9, 1, 1544]), (.imul, 1, []), (.aload_n 0, 1, []), (.getfield 29, 3, [9, 6, 2, 2, 0, 1172]), (.iload_n 2, 1, []), (.iaload, 1, []), (.if_icmp .ge 7, 3, []), (.iconst 1, 1, []), (.goto 4, 3, [])]),
  (111, [false, false, false, false], [(.iconst 0, 1, [])]),
  (112, [false, false, false, false], [(.ireturn, 1, [])]),
  (113, [true, true, true, false], [(.aload_n 0, 1, []), (.getfield 74, 3, [9, 32, 2, 15, 0, 1198]), (.iload_n 1, 1, []), (.iload_n 2, 1, []), (.invokestatic 338, 3, [141, 2, 0, 0, 1, 1521]), (.iaload, 1, []), (.ireturn, 1, [])]),
  (124, [true, false, false, false], [(.aload_n 0, 1, []), (.iconst 1, 1, []), (.invokevirtual 308, 3, [111, 2, 2, 9, 1, 1392]), (.ireturn, 1, [])])]
/-- SlipRoomModel.has -/
noncomputable def z_b158 : z_B := [
  (0, [true, true, true, true], [(.aload_n 0, 1, []), (.iconst 0, 1, []), (.putfield 170, 3, [9, 1, 0, 0, 0, 1167]), (.aload_n 0, 1, []), (.iload_n 1, 1, []), (.invokevirtual 353, 3, [114, 2, 2, 9, 1, 1532]), (.ifCond .eq 25, 3, []), (.aload_n 0, 1, []), (.iload_n 2, 1, []), (.invokevirtual 344, 3, [113, 2, 2, 9, 1, 1509]), (.ifCond .eq 17, 3, []), (.iload_n 3, 1, []), (.iconst 1, 1, []), (.aload_n 0, 1, []), (.getfield 29, 3, [9, 6, 2, 2, 0, 1172]), (.iload_n 2, 1, []), (.iaload, 1, []), (.invokestatic 176, 3, [112, 3, 0, 0, 1, 1502]), (.ifCond .ne 10, 3, [])]),
  (35, [true, false, false, false], [(.aload_n 0, 1, []), (.iconst 1, 1, []), (.putfield 170, 3, [9, 1, 0, 0, 0, 1167]), (.iconst 0, 1, []), (.ireturn, 1, [])]),
  (42, [true, true, true, true], [(.aload_n 0, 1, []), (.iload_n 1, 1, []), (.iload_n 2, 1, []), (.iload_n 3, 1, []), (.invokevirtual 341, 3, [142, 4, 2, 9, 1, 1517]), (.ireturn, 1, [])])]
/-- SlipRoomModel.ahead -/
noncomputable def z_b159 : z_B := [
  (0, [true, true, true, true], [(.aload_n 0, 1, []), (.iconst 0, 1, []), (.putfield 170, 3, [9, 1, 0, 0, 0, 1167]), (.aload_n 0, 1, []), (.iload_n 1, 1, []), (.invokevirtual 353, 3, [114, 2, 2, 9, 1, 1532]), (.ifCond .eq 50, 3, []), (.aload_n 0, 1, []), (.iload_n 2, 1, []), (.invokevirtual 353, 3, [114, 2, 2, 9, 1, 1532]), (.ifCond .eq 42, 3, []), (.aload_n 0, 1, []), (.iload_n 3, 1, []), (.invokevirtual 344, 3, [113, 2, 2, 9, 1, 1509]), (.ifCond .eq 34, 3, []), (.iload_n 1, 1, []), (.iload_n 2, 1, []), (.if_icmp .eq 29, 3, []), (.aload_n 0, 1, []), (.getfield 68, 3, [9, 30, 2, 13, 0, 1196]), (.iload_n 1, 1, []), (.iload_n 3, 1, []), (.invokestatic 338, 3, [141, 2, 0, 0, 1, 1521]), (.iaload, 1, []), (.ifCond .le 16, 3, []), (.aload_n 0, 1, []), (.getfield 68, 3, [9, 30, 2, 13, 0, 1196]), (.iload_n 2, 1, []), (.iload_n 3, 1, []), (.invokestatic 338, 3, [141, 2, 0, 0, 1, 1521]), (.iaload, 1, []), (.ifCond .gt 9, 3, [])]),
  (60, [true, false, false, false], [(.aload_n 0, 1, []), (.iconst 1, 1, []), (.invokevirtual 308, 3, [111, 2, 2, 9, 1, 1392]), (.ireturn, 1, [])]),
  (66, [true, true, true, true], [(.aload_n 0, 1, []), (.getfield 68, 3, [9, 30, 2, 13, 0, 1196]), (.iload_n 1, 1, []), (.iload_n 3, 1, []), (.invokestatic 338, 3, [141, 2, 0, 0, 1, 1521]), (.iaload, 1, []), (.aload_n 0, 1, []), (.getfield 68, 3, [9, 30, 2, 13, 0, 1196]), (.iload_n 2, 1, []), (.iload_n 3, 1, []), (.invokestatic 338, 3, [141, 2, 0, 0, 1, 1521]), (.iaload, 1, []), (.isub, 1, []), (.ireturn, 1, [])])]
/-- SlipRoomModel.looksOf -/
noncomputable def z_b160 : z_B := [
  (0, [true, true, false, false], [(.iconst 0, 1, []), (.istore_n 2, 1, []), (.iconst 0, 1, []), (.istore_n 3, 1, [])]),
  (4, [true, true, true, true], [(.iload_n 3, 1, []), (.aload_n 0, 1, []), (.getfield 328, 3, [9, 44, 0, 0, 0, 1210]), (.if_icmp .ge 27, 3, []), (.iload_n 2, 1, []), (.aload_n 0, 1, []), (.getfield 110, 3, [9, 45, 2, 27, 0, 1211]), (.iload_n 3, 1, []), (.iaload, 1, []), (.iload_n 1, 1, []), (.if_icmp .ne 7, 3, []), (.iconst 1, 1, []), (.goto 4, 3, [])]),
  (27, [true, true, false, true], [(.iconst 0, 1, [])]),
  (28, [true, true, false, true], [(.iadd, 1, []), (.istore_n 2, 1, []), (.iinc 3 1, 3, []), (.goto (-29), 3, [])]),
  (36, [false, false, true, false], [(.iload_n 2, 1, []), (.ireturn, 1, [])])]
/-- SlipRoomModel.look -/
noncomputable def z_b161 : z_B := [
  (0, [true, true, true, true, true], [(.aload_n 0, 1, []), (.iconst 0, 1, []), (.putfield 170, 3, [9, 1, 0, 0, 0, 1167]), (.aload_n 0, 1, []), (.iload_n 1, 1, []), (.invokevirtual 344, 3, [113, 2, 2, 9, 1, 1509]), (.ifCond .ne 9, 3, []), (.aload_n 0, 1, []), (.iconst 1, 1, []), (.invokevirtual 308, 3, [111, 2, 2, 9, 1, 1392]), (.ireturn, 1, [])]),
  (19, [true, true, true, true, true], [(.aload_n 0, 1, []), (.getfield 328, 3, [9, 44, 0, 0, 0, 1210]), (.bipush 24, 2, []), (.if_icmp .eq 45, 3, []), (.aload_n 0, 1, []), (.iload_n 1, 1, []), (.invokevirtual 379, 3, [160, 2, 2, 9, 1, 1592]), (.bipush 6, 2, []), (.if_icmp .eq 35, 3, []), (.iload_n 2, 1, []), (.iconst 0, 1, []), (.sipush 8759, 3, []), (.invokestatic 176, 3, [112, 3, 0, 0, 1, 1502]), (.ifCond .eq 24, 3, []), (.iload_n 3, 1, []), (.iconst 0, 1, []), (.iconst 3, 1, []), (.invokestatic 176, 3, [112, 3, 0, 0, 1, 1502]), (.ifCond .eq 15, 3, []), (.iload 4, 2, []), (.iconst 1, 1, []), (.sipush 401, 3, []), (.invokestatic 176, 3, [112, 3, 0, 0, 1, 1502]), (.ifCond .ne 15, 3, [])]),
  (70, [true, false, false, false, false], [(.aload_n 0, 1, []), (.getfield 54, 3, [9, 14, 2, 10, 0, 1180]), (.iconst 3, 1, []), (.dup2, 1, []), (.iaload, 1, []), (.iconst 1, 1, []), (.iadd, 1, []), (.iastore, 1, []), (.iconst (-1), 1, []), (.ireturn, 1, [])]),
  (82, [true, true, true, true, true], [(.aload_n 0, 1, []), (.getfield 110, 3, [9, 45, 2, 27, 0, 1211]), (.aload_n 0, 1, []), (.getfield 328, 3, [9, 44, 0, 0, 0, 1210]), (.iload_n 1, 1, []), (.iastore, 1, []), (.aload_n 0, 1, []), (.getfield 113, 3, [9, 46, 2, 28, 0, 1212]), (.aload_n 0, 1, []), (.getfield 328, 3, [9, 44, 0, 0, 0, 1210]), (.iload_n 2, 1, []), (.iastore, 1, []), (.aload_n 0, 1, []), (.getfield 116, 3, [9, 47, 2, 29, 0, 1213]), (.aload_n 0, 1, []), (.getfield 328, 3, [9, 44, 0, 0, 0, 1210]), (.iload_n 3, 1, []), (.iastore, 1, []), (.aload_n 0, 1, []), (.getfield 119, 3, [9, 48, 2, 30, 0, 1214]), (.aload_n 0, 1, []), (.getfield 328, 3, [9, 44, 0, 0, 0, 1210]), (.iload 4, 2, []), (.iastore, 1, []), (.aload_n 0, 1, []), (.dup, 1, []), (.getfield 328, 3, [9, 44, 0, 0, 0, 1210]), (.iconst 1, 1, []), (.iadd, 1, []), (.putfield 328, 3, [9, 44, 0, 0, 0, 1210]), (.aload_n 0, 1, []), (.getfield 328, 3, [9, 44, 0, 0, 0, 1210]), (.iconst 1, 1, []), (.isub, 1, []), (.ireturn, 1, [])])]
/-- SlipRoomModel.lentBetween -/
noncomputable def z_b162 : z_B := [
  (0, [true, true, true, true, true, false, false], [(.iconst 0, 1, []), (.istore 5, 2, []), (.iconst 0, 1, []), (.istore 6, 2, [])]),
  (6, [true, true, true, true, true, true, true], [(.iload 6, 2, []), (.aload_n 0, 1, []), (.getfield 322, 3, [9, 28, 0, 0, 0, 1194]), (.if_icmp .ge 75, 3, []), (.aload_n 0, 1, []), (.getfield 86, 3, [9, 36, 2, 19, 0, 1202]), (.iload 6, 2, []), (.iaload, 1, []), (.iload_n 1, 1, []), (.if_icmp .ne 58, 3, []), (.aload_n 0, 1, []), (.getfield 89, 3, [9, 37, 2, 20, 0, 1203]), (.iload 6, 2, []), (.iaload, 1, []), (.iload_n 2, 1, []), (.if_icmp .eq 6, 3, []), (.goto 44, 3, [])]),
  (40, [true, true, true, true, true, true, true], [(.iload 5, 2, []), (.iconst 0, 1, []), (.iload 4, 2, []), (.aload_n 0, 1, []), (.getfield 92, 3, [9, 38, 2, 21, 0, 1204]), (.iload 6, 2, []), (.iaload, 1, []), (.aload_n 0, 1, []), (.getfield 95, 3, [9, 39, 2, 22, 0, 1205]), (.iload 6, 2, []), (.iaload, 1, []), (.iadd, 1, []), (.invokestatic 213, 3, [188, 2, 0, 0, 1, 1411]), (.iload_n 3, 1, []), (.aload_n 0, 1, []), (.getfield 92, 3, [9, 38, 2, 21, 0, 1204]), (.iload 6, 2, []), (.iaload, 1, []), (.invokestatic 363, 3, [187, 2, 0, 0, 1, 1552]), (.isub, 1, []), (.invokestatic 363, 3, [187, 2, 0, 0, 1, 1552]), (.iadd, 1, []), (.istore 5, 2, [])]),
  (81, [true, true, true, true, true, true, true], [(.iinc 6 1, 3, []), (.goto (-78), 3, [])]),
  (87, [false, false, false, false, false, true, false], [(.iload 5, 2, []), (.ireturn, 1, [])])]
/-- SlipRoomModel.begunBetween -/
noncomputable def z_b163 : z_B := [
  (0, [true, true, true, true, true, false, false], [(.iconst 0, 1, []), (.istore 5, 2, []), (.iconst 0, 1, []), (.istore 6, 2, [])]),
  (6, [true, true, true, true, true, true, true], [(.iload 6, 2, []), (.aload_n 0, 1, []), (.getfield 322, 3, [9, 28, 0, 0, 0, 1194]), (.if_icmp .ge 59, 3, []), (.iload 5, 2, []), (.aload_n 0, 1, []), (.getfield 86, 3, [9, 36, 2, 19, 0, 1202]), (.iload 6, 2, []), (.iaload, 1, []), (.iload_n 1, 1, []), (.if_icmp .ne 36, 3, []), (.aload_n 0, 1, []), (.getfield 89, 3, [9, 37, 2, 20, 0, 1203]), (.iload 6, 2, []), (.iaload, 1, []), (.iload_n 2, 1, []), (.if_icmp .ne 25, 3, []), (.aload_n 0, 1, []), (.getfield 92, 3, [9, 38, 2, 21, 0, 1204]), (.iload 6, 2, []), (.iaload, 1, []), (.iload_n 3, 1, []), (.iload 4, 2, []), (.iconst 1, 1, []), (.isub, 1, []), (.invokestatic 176, 3, [112, 3, 0, 0, 1, 1502]), (.ifCond .eq 7, 3, []), (.iconst 1, 1, []), (.goto 4, 3, [])]),
  (61, [true, true, true, true, true, false, true], [(.iconst 0, 1, [])]),
  (62, [true, true, true, true, true, false, true], [(.iadd, 1, []), (.istore 5, 2, []), (.iinc 6 1, 3, []), (.goto (-62), 3, [])]),
  (71, [false, false, false, false, false, true, false], [(.iload 5, 2, []), (.ireturn, 1, [])])]
/-- SlipRoomModel.layLooks -/
noncomputable def z_b164 : z_B := [
  (0, [true, true, true, false, false], [(.aload_n 0, 1, []), (.iconst 0, 1, []), (.putfield 382, 3, [9, 55, 0, 0, 0, 1221]), (.iconst 0, 1, []), (.istore_n 3, 1, [])]),
  (7, [true, true, true, true, false], [(.iload_n 3, 1, []), (.aload_n 0, 1, []), (.getfield 328, 3, [9, 44, 0, 0, 0, 1210]), (.if_icmp .ge 101, 3, []), (.aload_n 0, 1, []), (.getfield 110, 3, [9, 45, 2, 27, 0, 1211]), (.iload_n 3, 1, []), (.iaload, 1, []), (.iload_n 1, 1, []), (.if_icmp .ne 85, 3, []), (.iload_n 3, 1, []), (.iload_n 2, 1, []), (.if_icmp .ne 6, 3, []), (.goto 77, 3, [])]),
  (33, [true, true, true, true, false], [(.aload_n 0, 1, []), (.getfield 382, 3, [9, 55, 0, 0, 0, 1221]), (.istore 4, 2, [])]),
  (39, [true, true, true, true, true], [(.iload 4, 2, []), (.ifCond .le 48, 3, []), (.aload_n 0, 1, []), (.getfield 113, 3, [9, 46, 2, 28, 0, 1212]), (.aload_n 0, 1, []), (.getfield 122, 3, [9, 49, 2, 31, 0, 1215]), (.iload 4, 2, []), (.iconst 1, 1, []), (.isub, 1, []), (.iaload, 1, []), (.iaload, 1, []), (.aload_n 0, 1, []), (.getfield 113, 3, [9, 46, 2, 28, 0, 1212]), (.iload_n 3, 1, []), (.iaload, 1, []), (.if_icmp .le 25, 3, []), (.aload_n 0, 1, []), (.getfield 122, 3, [9, 49, 2, 31, 0, 1215]), (.iload 4, 2, []), (.aload_n 0, 1, []), (.getfield 122, 3, [9, 49, 2, 31, 0, 1215]), (.iload 4, 2, []), (.iconst 1, 1, []), (.isub, 1, []), (.iaload, 1, []), (.iastore, 1, []), (.iinc 4 (-1), 3, []), (.goto (-47), 3, [])]),
  (89, [true, true, true, true, true], [(.aload_n 0, 1, []), (.getfield 122, 3, [9, 49, 2, 31, 0, 1215]), (.iload 4, 2, []), (.iload_n 3, 1, []), (.iastore, 1, []), (.aload_n 0, 1, []), (.dup, 1, []), (.getfield 382, 3, [9, 55, 0, 0, 0, 1221]), (.iconst 1, 1, []), (.iadd, 1, []), (.putfield 382, 3, [9, 55, 0, 0, 0, 1221])]),
  (107, [true, true, true, true, false], [(.iinc 3 1, 3, []), (.goto (-103), 3, [])]),
  (113, [false, false, false, false, false], [(.return_, 1, [])])]
/-- SlipRoomModel.mayHave -/
noncomputable def z_b165 : z_B := [
  (0, [true, true, true, true, false, false, false, false, false], [(.aload_n 0, 1, []), (.getfield 122, 3, [9, 49, 2, 31, 0, 1215]), (.iload_n 2, 1, []), (.iaload, 1, []), (.istore 4, 2, []), (.aload_n 0, 1, []), (.getfield 39, 3, [9, 9, 2, 5, 0, 1175]), (.iload_n 3, 1, []), (.iaload, 1, []), (.aload_n 0, 1, []), (.getfield 116, 3, [9, 47, 2, 29, 0, 1213]), (.iload 4, 2, []), (.iaload, 1, []), (.if_icmp .eq 5, 3, []), (.iconst 0, 1, []), (.ireturn, 1, [])]),
  (26, [true, true, true, true, true, false, false, false, false], [(.iload_n 2, 1, []), (.iconst 1, 1, []), (.isub, 1, []), (.istore 5, 2, [])]),
  (31, [true, true, false, true, true, true, false, false, false], [(.iload 5, 2, []), (.ifCond .lt 20, 3, []), (.aload_n 0, 1, []), (.getfield 125, 3, [9, 50, 2, 32, 0, 1216]), (.iload 5, 2, []), (.iaload, 1, []), (.iload_n 3, 1, []), (.if_icmp .eq 9, 3, []), (.iinc 5 (-1), 3, []), (.goto (-19), 3, [])]),
  (53, [true, true, false, true, true, true, false, false, false], [(.iload 5, 2, []), (.ifCond .ge 42, 3, []), (.aload_n 0, 1, []), (.getfield 119, 3, [9, 48, 2, 30, 0, 1214]), (.iload 4, 2, []), (.iaload, 1, []), (.iconst 1, 1, []), (.isub, 1, []), (.aload_n 0, 1, []), (.getfield 36, 3, [9, 8, 2, 4, 0, 1174]), (.iload_n 3, 1, []), (.iaload, 1, []), (.aload_n 0, 1, []), (.iload_n 3, 1, []), (.iload_n 1, 1, []), (.iconst 0, 1, []), (.aload_n 0, 1, []), (.getfield 113, 3, [9, 46, 2, 28, 0, 1212]), (.iload 4, 2, []), (.iaload, 1, []), (.invokevirtual 385, 3, [162, 5, 2, 9, 1, 1620]), (.imul, 1, []), (.if_icmp .gt 7, 3, []), (.iconst 1, 1, []), (.goto 4, 3, [])]),
  (95, [false, false, false, false, false, false, false, false, false], [(.iconst 0, 1, [])]),
  (96, [false, false, false, false, false, false, false, false, false], [(.ireturn, 1, [])]),
  (97, [true, true, false, true, true, true, false, false, false], [(.aload_n 0, 1, []), (.getfield 122, 3, [9, 49, 2, 31, 0, 1215]), (.iload 5, 2, []), (.iaload, 1, []), (.istore 6, 2, []), (.aload_n 0, 1, []), (.getfield 119, 3, [9, 48, 2, 30, 0, 1214]), (.iload 6, 2, []), (.iaload, 1, []), (.aload_n 0, 1, []), (.getfield 42, 3, [9, 10, 2, 6, 0, 1176]), (.iload_n 3, 1, []), (.iaload, 1, []), (.aload_n 0, 1, []), (.iload_n 3, 1, []), (.iload_n 1, 1, []), (.aload_n 0, 1, []), (.getfield 113, 3, [9, 46, 2, 28, 0, 1212]), (.iload 6, 2, []), (.iaload, 1, []), (.aload_n 0, 1, []), (.getfield 113, 3, [9, 46, 2, 28, 0, 1212]), (.iload 4, 2, []), (.iaload, 1, []), (.invokevirtual 389, 3, [163, 5, 2, 9, 1, 1624]), (.imul, 1, []), (.isub, 1, []), (.istore 7, 2, []), (.aload_n 0, 1, []), (.getfield 119, 3, [9, 48, 2, 30, 0, 1214]), (.iload 6, 2, []), (.iaload, 1, []), (.aload_n 0, 1, []), (.getfield 36, 3, [9, 8, 2, 4, 0, 1174]), (.iload_n 3, 1, []), (.iaload, 1, []), (.aload_n 0, 1, []), (.iload_n 3, 1, []), (.iload_n 1, 1, []), (.aload_n 0, 1, []), (.getfield 113, 3, [9, 46, 2, 28, 0, 1212]), (.iload 6, 2, []), (.iaload, 1, []), (.aload_n 0, 1, []), (.getfield 113, 3, [9, 46, 2, 28, 0, 1212]), (.iload 4, 2, []), (.iaload, 1, []), (.invokevirtual 385, 3, [162, 5, 2, 9, 1, 1620]), (.imul, 1, []), (.iadd, 1, []), (.istore 8, 2, []), (.aload_n 0, 1, []), (.getfield 113, 3, [9, 46, 2, 28, 0, 1212]), (.iload 6, 2, []), (.iaload, 1, []), (.aload_n 0, 1, []), (.getfield 113, 3, [9, 46, 2, 28, 0, 1212]), (.iload 4, 2, []), (.iaload, 1, []), (.if_icmp .ge 24, 3, []), (.aload_n 0, 1, []), (.getfield 119, 3, [9, 48, 2, 30, 0, 1214]), (.iload 4, 2, []), (.iaload, 1, []), (.iload 7, 2, []), (.iload 8, 2, []), (.invokestatic 176, 3, [112, 3, 0, 0, 1, 1502]), (.ifCond .eq 7, 3, []), (.iconst 1, 1, []), (.goto 4, 3, [])]),
  (218, [false, false, false, false, false, false, false, false, false], [(.iconst 0, 1, [])]),
  (219, [false, false, false, false, false, false, false, false, false], [(.ireturn, 1, [])])]
/-- SlipRoomModel.tellWay -/
noncomputable def z_b166 : z_B := [
  (0, [true, false, false, false], [(.iconst 0, 1, []), (.istore_n 1, 1, [])]),
  (2, [true, true, false, false], [(.iload_n 1, 1, []), (.aload_n 0, 1, []), (.getfield 382, 3, [9, 55, 0, 0, 0, 1221]), (.if_icmp .ge 53, 3, []), (.aload_n 0, 1, []), (.getfield 128, 3, [9, 51, 2, 33, 0, 1217]), (.aload_n 0, 1, []), (.getfield 122, 3, [9, 49, 2, 31, 0, 1215]), (.iload_n 1, 1, []), (.iaload, 1, []), (.dup2, 1, []), (.iaload, 1, []), (.iconst 1, 1, []), (.aload_n 0, 1, []), (.getfield 125, 3, [9, 50, 2, 32, 0, 1216]), (.iload_n 1, 1, []), (.iaload, 1, []), (.ishl, 1, []), (.ior, 1, []), (.iastore, 1, []), (.aload_n 0, 1, []), (.getfield 131, 3, [9, 52, 2, 34, 0, 1218]), (.aload_n 0, 1, []), (.getfield 122, 3, [9, 49, 2, 31, 0, 1215]), (.iload_n 1, 1, []), (.iaload, 1, []), (.dup2, 1, []), (.iaload, 1, []), (.iconst 1, 1, []), (.aload_n 0, 1, []), (.getfield 125, 3, [9, 50, 2, 32, 0, 1216]), (.iload_n 1, 1, []), (.iaload, 1, []), (.ishl, 1, []), (.iand, 1, []), (.iastore, 1, []), (.iinc 1 1, 3, []), (.goto (-55), 3, [])]),
  (60, [true, false, false, false], [(.iconst 0, 1, []), (.istore_n 1, 1, [])]),
  (62, [true, true, false, false], [(.iload_n 1, 1, []), (.aload_n 0, 1, []), (.getfield 180, 3, [9, 3, 0, 0, 0, 1169]), (.if_icmp .ge 107, 3, []), (.iconst 1, 1, []), (.istore_n 2, 1, []), (.iconst 0, 1, []), (.istore_n 3, 1, [])]),
  (74, [true, true, true, true], [(.iload_n 3, 1, []), (.aload_n 0, 1, []), (.getfield 382, 3, [9, 55, 0, 0, 0, 1221]), (.if_icmp .ge 35, 3, []), (.aload_n 0, 1, []), (.getfield 125, 3, [9, 50, 2, 32, 0, 1216]), (.iload_n 3, 1, []), (.iaload, 1, []), (.iload_n 1, 1, []), (.if_icmp .ne 17, 3, []), (.aload_n 0, 1, []), (.getfield 119, 3, [9, 48, 2, 30, 0, 1214]), (.aload_n 0, 1, []), (.getfield 122, 3, [9, 49, 2, 31, 0, 1215]), (.iload_n 3, 1, []), (.iaload, 1, []), (.iaload, 1, []), (.goto 4, 3, [])]),
  (106, [true, true, true, true], [(.iload_n 2, 1, [])]),
  (107, [true, true, false, true], [(.istore_n 2, 1, []), (.iinc 3 1, 3, []), (.goto (-37), 3, [])]),
  (114, [true, true, true, false], [(.aload_n 0, 1, []), (.getfield 134, 3, [9, 53, 2, 35, 0, 1219]), (.iload_n 1, 1, []), (.aload_n 0, 1, []), (.getfield 392, 3, [9, 56, 0, 0, 0, 1222]), (.ifCond .ne 7, 3, []), (.iload_n 2, 1, []), (.goto 13, 3, [])]),
  (130, [true, true, true, false], [(.aload_n 0, 1, []), (.getfield 134, 3, [9, 53, 2, 35, 0, 1219]), (.iload_n 1, 1, []), (.iaload, 1, []), (.iload_n 2, 1, []), (.invokestatic 213, 3, [188, 2, 0, 0, 1, 1411])]),
  (140, [true, true, true, false], [(.iastore, 1, []), (.aload_n 0, 1, []), (.getfield 137, 3, [9, 54, 2, 36, 0, 1220]), (.iload_n 1, 1, []), (.aload_n 0, 1, []), (.getfield 392, 3, [9, 56, 0, 0, 0, 1222]), (.ifCond .ne 7, 3, []), (.iload_n 2, 1, []), (.goto 13, 3, [])]),
  (157, [true, true, true, false], [(.aload_n 0, 1, []), (.getfield 137, 3, [9, 54, 2, 36, 0, 1220]), (.iload_n 1, 1, []), (.iaload, 1, []), (.iload_n 2, 1, []), (.invokestatic 363, 3, [187, 2, 0, 0, 1, 1552])]),
  (167, [true, true, false, false], [(.iastore, 1, []), (.iinc 1 1, 3, []), (.goto (-109), 3, [])]),
  (174, [true, false, false, false], [(.aload_n 0, 1, []), (.dup, 1, []), (.getfield 392, 3, [9, 56, 0, 0, 0, 1222]), (.iconst 1, 1, []), (.iadd, 1, []), (.putfield 392, 3, [9, 56, 0, 0, 0, 1222]), (.return_, 1, [])])]
/-- SlipRoomModel.wayOn -/
noncomputable def z_b167 : z_B := [
  (0, [true, true, true, false], [(.iload_n 2, 1, []), (.aload_n 0, 1, []), (.getfield 382, 3, [9, 55, 0, 0, 0, 1221]), (.if_icmp .ne 8, 3, []), (.aload_n 0, 1, []), (.invokevirtual 395, 3, [166, 1, 2, 9, 0, 1612]), (.return_, 1, [])]),
  (13, [true, true, true, false], [(.iconst 0, 1, []), (.istore_n 3, 1, [])]),
  (15, [true, true, true, true], [(.iload_n 3, 1, []), (.aload_n 0, 1, []), (.getfield 180, 3, [9, 3, 0, 0, 0, 1169]), (.if_icmp .ge 37, 3, []), (.aload_n 0, 1, []), (.iload_n 1, 1, []), (.iload_n 2, 1, []), (.iload_n 3, 1, []), (.invokevirtual 398, 3, [165, 4, 2, 9, 1, 1616]), (.ifCond .ne 6, 3, []), (.goto 18, 3, [])]),
  (36, [true, true, true, true], [(.aload_n 0, 1, []), (.getfield 125, 3, [9, 50, 2, 32, 0, 1216]), (.iload_n 2, 1, []), (.iload_n 3, 1, []), (.iastore, 1, []), (.aload_n 0, 1, []), (.iload_n 1, 1, []), (.iload_n 2, 1, []), (.iconst 1, 1, []), (.iadd, 1, []), (.invokevirtual 401, 3, [167, 3, 2, 9, 0, 1608])]),
  (51, [true, true, true, true], [(.iinc 3 1, 3, []), (.goto (-39), 3, [])]),
  (57, [false, false, false, false], [(.return_, 1, [])])]
/-- SlipRoomModel.tellWays -/
noncomputable def z_b168 : z_B := [
  (0, [true, true, true, false], [(.aload_n 0, 1, []), (.iload_n 1, 1, []), (.iload_n 2, 1, []), (.invokevirtual 405, 3, [164, 3, 2, 9, 0, 1604]), (.aload_n 0, 1, []), (.iconst 0, 1, []), (.putfield 392, 3, [9, 56, 0, 0, 0, 1222]), (.iconst 0, 1, []), (.istore_n 3, 1, [])]),
  (13, [true, true, false, true], [(.iload_n 3, 1, []), (.bipush 24, 2, []), (.if_icmp .ge 25, 3, []), (.aload_n 0, 1, []), (.getfield 128, 3, [9, 51, 2, 33, 0, 1217]), (.iload_n 3, 1, []), (.iconst 0, 1, []), (.iastore, 1, []), (.aload_n 0, 1, []), (.getfield 131, 3, [9, 52, 2, 34, 0, 1218]), (.iload_n 3, 1, []), (.sipush 255, 3, []), (.iastore, 1, []), (.iinc 3 1, 3, []), (.goto (-25), 3, [])]),
  (41, [true, true, false, false], [(.aload_n 0, 1, []), (.iload_n 1, 1, []), (.iconst 0, 1, []), (.invokevirtual 401, 3, [167, 3, 2, 9, 0, 1608]), (.return_, 1, [])])]
/-- SlipRoomModel.ways -/
noncomputable def z_b169 : z_B := [
  (0, [true, true], [(.aload_n 0, 1, []), (.iconst 0, 1, []), (.putfield 170, 3, [9, 1, 0, 0, 0, 1167]), (.aload_n 0, 1, []), (.iload_n 1, 1, []), (.invokevirtual 344, 3, [113, 2, 2, 9, 1, 1509]), (.ifCond .ne 9, 3, []), (.aload_n 0, 1, []), (.iconst 1, 1, []), (.invokevirtual 308, 3, [111, 2, 2, 9, 1, 1392]), (.ireturn, 1, [])]),
  (19, [true, true], [(.aload_n 0, 1, []), (.iload_n 1, 1, []), (.iconst (-1), 1, []), (.invokevirtual 408, 3, [168, 3, 2, 9, 0, 1600]), (.aload_n 0, 1, []), (.getfield 392, 3, [9, 56, 0, 0, 0, 1222]), (.ireturn, 1, [])])]
/-- SlipRoomModel.whose -/
noncomputable def z_b170 : z_B := [
  (0, [true, true, true, false], [(.aload_n 0, 1, []), (.iconst 0, 1, []), (.putfield 170, 3, [9, 1, 0, 0, 0, 1167]), (.iload_n 1, 1, []), (.iconst 0, 1, []), (.aload_n 0, 1, []), (.getfield 328, 3, [9, 44, 0, 0, 0, 1210]), (.iconst 1, 1, []), (.isub, 1, []), (.invokestatic 176, 3, [112, 3, 0, 0, 1, 1502]), (.ifCond .eq 12, 3, []), (.iload_n 2, 1, []), (.ifCond .lt 8, 3, []), (.iload_n 2, 1, []), (.iconst 1, 1, []), (.if_icmp .le 9, 3, [])]),
  (28, [true, false, false, false], [(.aload_n 0, 1, []), (.iconst 1, 1, []), (.invokevirtual 308, 3, [111, 2, 2, 9, 1, 1392]), (.ireturn, 1, [])]),
  (34, [true, true, true, false], [(.aload_n 0, 1, []), (.aload_n 0, 1, []), (.getfield 110, 3, [9, 45, 2, 27, 0, 1211]), (.iload_n 1, 1, []), (.iaload, 1, []), (.iconst (-1), 1, []), (.invokevirtual 408, 3, [168, 3, 2, 9, 0, 1600]), (.iload_n 2, 1, []), (.ifCond .ne 10, 3, []), (.aload_n 0, 1, []), (.getfield 128, 3, [9, 51, 2, 33, 0, 1217]), (.iload_n 1, 1, []), (.iaload, 1, []), (.ireturn, 1, [])]),
  (56, [true, true, false, false], [(.aload_n 0, 1, []), (.getfield 392, 3, [9, 56, 0, 0, 0, 1222]), (.ifCond .eq 12, 3, []), (.aload_n 0, 1, []), (.getfield 131, 3, [9, 52, 2, 34, 0, 1218]), (.iload_n 1, 1, []), (.iaload, 1, []), (.ifCond .ne 5, 3, [])]),
  (72, [false, false, false, false], [(.iconst (-1), 1, []), (.ireturn, 1, [])]),
  (74, [true, true, false, false], [(.iconst 0, 1, []), (.istore_n 3, 1, [])]),
  (76, [true, true, false, true], [(.aload_n 0, 1, []), (.getfield 131, 3, [9, 52, 2, 34, 0, 1218]), (.iload_n 1, 1, []), (.iaload, 1, []), (.iload_n 3, 1, []), (.ishr, 1, []), (.iconst 1, 1, []), (.iand, 1, []), (.ifCond .ne 9, 3, []), (.iinc 3 1, 3, []), (.goto (-16), 3, [])]),
  (95, [false, false, false, true], [(.iload_n 3, 1, []), (.ireturn, 1, [])])]
/-- SlipRoomModel.ends -/
noncomputable def z_b171 : z_B := [
  (0, [true, true, true, true], [(.aload_n 0, 1, []), (.iconst 0, 1, []), (.putfield 170, 3, [9, 1, 0, 0, 0, 1167]), (.aload_n 0, 1, []), (.iload_n 1, 1, []), (.invokevirtual 353, 3, [114, 2, 2, 9, 1, 1532]), (.ifCond .eq 20, 3, []), (.aload_n 0, 1, []), (.iload_n 2, 1, []), (.invokevirtual 344, 3, [113, 2, 2, 9, 1, 1509]), (.ifCond .eq 12, 3, []), (.iload_n 3, 1, []), (.ifCond .lt 8, 3, []), (.iload_n 3, 1, []), (.iconst 1, 1, []), (.if_icmp .le 9, 3, [])]),
  (30, [true, false, false, false], [(.aload_n 0, 1, []), (.iconst 1, 1, []), (.invokevirtual 308, 3, [111, 2, 2, 9, 1, 1392]), (.ireturn, 1, [])]),
  (36, [true, true, true, true], [(.aload_n 0, 1, []), (.iload_n 2, 1, []), (.iconst (-1), 1, []), (.invokevirtual 408, 3, [168, 3, 2, 9, 0, 1600]), (.aload_n 0, 1, []), (.getfield 392, 3, [9, 56, 0, 0, 0, 1222]), (.ifCond .ne 7, 3, []), (.iconst (-1), 1, []), (.goto 22, 3, [])]),
  (53, [true, true, false, true], [(.iload_n 3, 1, []), (.ifCond .ne 12, 3, []), (.aload_n 0, 1, []), (.getfield 134, 3, [9, 53, 2, 35, 0, 1219]), (.iload_n 1, 1, []), (.iaload, 1, []), (.goto 9, 3, [])]),
  (66, [true, true, false, false], [(.aload_n 0, 1, []), (.getfield 137, 3, [9, 54, 2, 36, 0, 1220]), (.iload_n 1, 1, []), (.iaload, 1, [])]),
  (72, [false, false, false, false], [(.ireturn, 1, [])])]
/-- SlipRoomModel.moved -/
noncomputable def z_b172 : z_B := [
  (0, [true, true, false, false], [(.aload_n 0, 1, []), (.iconst 0, 1, []), (.putfield 170, 3, [9, 1, 0, 0, 0, 1167]), (.aload_n 0, 1, []), (.iload_n 1, 1, []), (.invokevirtual 344, 3, [113, 2, 2, 9, 1, 1509]), (.ifCond .ne 9, 3, []), (.aload_n 0, 1, []), (.iconst 1, 1, []), (.invokevirtual 308, 3, [111, 2, 2, 9, 1, 1392]), (.ireturn, 1, [])]),
  (19, [true, true, false, false], [(.aload_n 0, 1, []), (.iload_n 1, 1, []), (.iconst (-1), 1, []), (.invokevirtual 408, 3, [168, 3, 2, 9, 0, 1600]), (.aload_n 0, 1, []), (.getfield 392, 3, [9, 56, 0, 0, 0, 1222]), (.ifCond .le 5, 3, []), (.iconst 0, 1, []), (.ireturn, 1, [])]),
  (34, [true, true, false, false], [(.iconst 0, 1, []), (.istore_n 2, 1, []), (.iconst 0, 1, []), (.istore_n 3, 1, [])]),
  (38, [true, true, true, true], [(.iload_n 3, 1, []), (.aload_n 0, 1, []), (.getfield 328, 3, [9, 44, 0, 0, 0, 1210]), (.if_icmp .ge 45, 3, []), (.aload_n 0, 1, []), (.getfield 110, 3, [9, 45, 2, 27, 0, 1211]), (.iload_n 3, 1, []), (.iaload, 1, []), (.iload_n 1, 1, []), (.if_icmp .eq 6, 3, []), (.goto 26, 3, [])]),
  (59, [true, true, true, true], [(.aload_n 0, 1, []), (.iload_n 1, 1, []), (.iload_n 3, 1, []), (.invokevirtual 408, 3, [168, 3, 2, 9, 0, 1600]), (.iload_n 2, 1, []), (.aload_n 0, 1, []), (.getfield 392, 3, [9, 56, 0, 0, 0, 1222]), (.ifCond .le 9, 3, []), (.iconst 1, 1, []), (.iload_n 3, 1, []), (.ishl, 1, []), (.goto 4, 3, [])]),
  (79, [true, true, false, true], [(.iconst 0, 1, [])]),
  (80, [true, true, false, true], [(.ior, 1, []), (.istore_n 2, 1, [])]),
  (82, [true, true, true, true], [(.iinc 3 1, 3, []), (.goto (-47), 3, [])]),
  (88, [false, false, true, false], [(.iload_n 2, 1, []), (.ireturn, 1, [])])]
/-- SlipRoomModel.wish -/
noncomputable def z_b173 : z_B := [
  (0, [true, true, true, true], [(.aload_n 0, 1, []), (.iconst 0, 1, []), (.putfield 170, 3, [9, 1, 0, 0, 0, 1167]), (.aload_n 0, 1, []), (.iload_n 1, 1, []), (.invokevirtual 353, 3, [114, 2, 2, 9, 1, 1532]), (.ifCond .ne 9, 3, []), (.aload_n 0, 1, []), (.iconst 1, 1, []), (.invokevirtual 308, 3, [111, 2, 2, 9, 1, 1392]), (.ireturn, 1, [])]),
  (19, [true, true, true, true], [(.aload_n 0, 1, []), (.getfield 331, 3, [9, 57, 0, 0, 0, 1223]), (.bipush 7, 2, []), (.if_icmp .eq 24, 3, []), (.iload_n 2, 1, []), (.iconst 1, 1, []), (.bipush 99, 2, []), (.invokestatic 176, 3, [112, 3, 0, 0, 1, 1502]), (.ifCond .eq 14, 3, []), (.iload_n 3, 1, []), (.iconst 0, 1, []), (.sipush 999, 3, []), (.invokestatic 176, 3, [112, 3, 0, 0, 1, 1502]), (.ifCond .ne 15, 3, [])]),
  (49, [true, false, false, false], [(.aload_n 0, 1, []), (.getfield 54, 3, [9, 14, 2, 10, 0, 1180]), (.iconst 4, 1, []), (.dup2, 1, []), (.iaload, 1, []), (.iconst 1, 1, []), (.iadd, 1, []), (.iastore, 1, []), (.iconst (-1), 1, []), (.ireturn, 1, [])]),
  (61, [true, true, true, true], [(.aload_n 0, 1, []), (.getfield 140, 3, [9, 58, 2, 37, 0, 1224]), (.aload_n 0, 1, []), (.getfield 331, 3, [9, 57, 0, 0, 0, 1223]), (.iload_n 1, 1, []), (.iastore, 1, []), (.aload_n 0, 1, []), (.getfield 143, 3, [9, 59, 2, 38, 0, 1225]), (.aload_n 0, 1, []), (.getfield 331, 3, [9, 57, 0, 0, 0, 1223]), (.iload_n 2, 1, []), (.iastore, 1, []), (.aload_n 0, 1, []), (.getfield 146, 3, [9, 60, 2, 39, 0, 1226]), (.aload_n 0, 1, []), (.getfield 331, 3, [9, 57, 0, 0, 0, 1223]), (.iload_n 3, 1, []), (.iastore, 1, []), (.aload_n 0, 1, []), (.dup, 1, []), (.getfield 331, 3, [9, 57, 0, 0, 0, 1223]), (.iconst 1, 1, []), (.iadd, 1, []), (.putfield 331, 3, [9, 57, 0, 0, 0, 1223]), (.aload_n 0, 1, []), (.getfield 331, 3, [9, 57, 0, 0, 0, 1223]), (.ireturn, 1, [])])]
/-- SlipRoomModel.orderOn -/
noncomputable def z_b174 : z_B := [
  (0, [true, true, true, true, true, false, false], [(.iload_n 1, 1, []), (.aload_n 0, 1, []), (.getfield 331, 3, [9, 57, 0, 0, 0, 1223]), (.if_icmp .ne 57, 3, []), (.aload_n 0, 1, []), (.getfield 411, 3, [9, 64, 0, 0, 0, 1230]), (.iconst (-1), 1, []), (.if_icmp .eq 13, 3, []), (.iload 4, 2, []), (.aload_n 0, 1, []), (.getfield 411, 3, [9, 64, 0, 0, 0, 1230]), (.if_icmp .lt 4, 3, []), (.return_, 1, [])]),
  (26, [true, true, false, false, true, false, false], [(.aload_n 0, 1, []), (.iload 4, 2, []), (.putfield 411, 3, [9, 64, 0, 0, 0, 1230]), (.iconst 0, 1, []), (.istore 5, 2, [])]),
  (35, [true, true, false, false, false, true, false], [(.iload 5, 2, []), (.iload_n 1, 1, []), (.if_icmp .ge 23, 3, []), (.aload_n 0, 1, []), (.getfield 149, 3, [9, 61, 2, 40, 0, 1227]), (.iload 5, 2, []), (.aload_n 0, 1, []), (.getfield 152, 3, [9, 62, 2, 41, 0, 1228]), (.iload 5, 2, []), (.iaload, 1, []), (.iastore, 1, []), (.iinc 5 1, 3, []), (.goto (-23), 3, [])]),
  (61, [false, false, false, false, false, false, false], [(.return_, 1, [])]),
  (62, [true, true, true, true, true, false, false], [(.iconst 0, 1, []), (.istore 5, 2, [])]),
  (65, [true, true, true, true, true, true, false], [(.iload 5, 2, []), (.aload_n 0, 1, []), (.getfield 331, 3, [9, 57, 0, 0, 0, 1223]), (.if_icmp .ge 79, 3, []), (.iload_n 2, 1, []), (.iload 5, 2, []), (.ishr, 1, []), (.iconst 1, 1, []), (.iand, 1, []), (.iconst 1, 1, []), (.if_icmp .ne 6, 3, []), (.goto 60, 3, [])]),
  (87, [true, true, true, true, true, true, false], [(.aload_n 0, 1, []), (.getfield 152, 3, [9, 62, 2, 41, 0, 1228]), (.iload_n 1, 1, []), (.iload 5, 2, []), (.iastore, 1, []), (.iload_n 3, 1, []), (.aload_n 0, 1, []), (.getfield 146, 3, [9, 60, 2, 39, 0, 1226]), (.iload 5, 2, []), (.iaload, 1, []), (.invokestatic 363, 3, [187, 2, 0, 0, 1, 1552]), (.istore 6, 2, []), (.aload_n 0, 1, []), (.iload_n 1, 1, []), (.iconst 1, 1, []), (.iadd, 1, []), (.iload_n 2, 1, []), (.iconst 1, 1, []), (.iload 5, 2, []), (.ishl, 1, []), (.ior, 1, []), (.iload 6, 2, []), (.aload_n 0, 1, []), (.getfield 143, 3, [9, 59, 2, 38, 0, 1225]), (.iload 5, 2, []), (.iaload, 1, []), (.iadd, 1, []), (.iload 4, 2, []), (.iload 6, 2, []), (.iadd, 1, []), (.aload_n 0, 1, []), (.getfield 146, 3, [9, 60, 2, 39, 0, 1226]), (.iload 5, 2, []), (.iaload, 1, []), (.isub, 1, []), (.invokevirtual 414, 3, [174, 5, 2, 9, 0, 1648])]),
  (144, [true, true, true, true, true, true, false], [(.iinc 5 1, 3, []), (.goto (-82), 3, [])]),
  (150, [false, false, false, false, false, false, false], [(.return_, 1, [])])]
/-- SlipRoomModel.waiting -/
noncomputable def z_b175 : z_B := [
  (0, [true], [(.aload_n 0, 1, []), (.iconst 0, 1, []), (.putfield 170, 3, [9, 1, 0, 0, 0, 1167]), (.aload_n 0, 1, []), (.iconst (-1), 1, []), (.putfield 411, 3, [9, 64, 0, 0, 0, 1230]), (.aload_n 0, 1, []), (.aload_n 0, 1, []), (.getfield 331, 3, [9, 57, 0, 0, 0, 1223]), (.putfield 155, 3, [9, 63, 0, 0, 0, 1229]), (.aload_n 0, 1, []), (.iconst 0, 1, []), (.iconst 0, 1, []), (.iconst 0, 1, []), (.iconst 0, 1, []), (.invokevirtual 414, 3, [174, 5, 2, 9, 0, 1648]), (.aload_n 0, 1, []), (.getfield 411, 3, [9, 64, 0, 0, 0, 1230]), (.ireturn, 1, [])])]
/-- SlipRoomModel.turn -/
noncomputable def z_b176 : z_B := [
  (0, [true, true], [(.aload_n 0, 1, []), (.iconst 0, 1, []), (.putfield 170, 3, [9, 1, 0, 0, 0, 1167]), (.iload_n 1, 1, []), (.iconst 0, 1, []), (.aload_n 0, 1, []), (.getfield 155, 3, [9, 63, 0, 0, 0, 1229]), (.iconst 1, 1, []), (.isub, 1, []), (.invokestatic 176, 3, [112, 3, 0, 0, 1, 1502]), (.ifCond .eq 12, 3, []), (.aload_n 0, 1, []), (.getfield 149, 3, [9, 61, 2, 40, 0, 1227]), (.iload_n 1, 1, []), (.iaload, 1, []), (.goto 8, 3, [])]),
  (28, [true, false], [(.aload_n 0, 1, []), (.iconst 1, 1, []), (.invokevirtual 308, 3, [111, 2, 2, 9, 1, 1392])]),
  (33, [false, false], [(.ireturn, 1, [])])]
/-- SlipRoomModel.tale -/
noncomputable def z_b177 : z_B := [
  (0, [true, true, true, true], [(.aload_n 0, 1, []), (.iconst 0, 1, []), (.putfield 170, 3, [9, 1, 0, 0, 0, 1167]), (.aload_n 0, 1, []), (.iload_n 2, 1, []), (.invokevirtual 344, 3, [113, 2, 2, 9, 1, 1509]), (.ifCond .ne 10, 3, []), (.aload_n 0, 1, []), (.iconst 1, 1, []), (.putfield 170, 3, [9, 1, 0, 0, 0, 1167]), (.iconst 0, 1, []), (.ireturn, 1, [])]),
  (20, [true, true, true, true], [(.iload_n 1, 1, []), (.iconst 0, 1, []), (.iconst 5, 1, []), (.invokestatic 176, 3, [112, 3, 0, 0, 1, 1502]), (.ifCond .eq 14, 3, []), (.iload_n 3, 1, []), (.iconst 0, 1, []), (.sipush 401, 3, []), (.invokestatic 176, 3, [112, 3, 0, 0, 1, 1502]), (.ifCond .ne 5, 3, [])]),
  (40, [false, false, false, false], [(.iconst 0, 1, []), (.ireturn, 1, [])]),
  (42, [true, true, true, true], [(.aload_n 0, 1, []), (.getfield 158, 3, [9, 65, 2, 42, 0, 1231]), (.bipush 10, 2, []), (.iload_n 1, 1, []), (.imul, 1, []), (.iload_n 2, 1, []), (.iadd, 1, []), (.iload_n 3, 1, []), (.iastore, 1, []), (.iconst 1, 1, []), (.ireturn, 1, [])])]
/-- SlipRoomModel.bitsOf -/
noncomputable def z_b178 : z_B := [
  (0, [true, false, false], [(.iconst 0, 1, []), (.istore_n 1, 1, []), (.iload_n 0, 1, []), (.istore_n 2, 1, [])]),
  (4, [false, true, true], [(.iload_n 2, 1, []), (.ifCond .eq 15, 3, []), (.iinc 1 1, 3, []), (.iload_n 2, 1, []), (.iload_n 2, 1, []), (.iconst 1, 1, []), (.isub, 1, []), (.iand, 1, []), (.istore_n 2, 1, []), (.goto (-13), 3, [])]),
  (20, [false, true, false], [(.iload_n 1, 1, []), (.ireturn, 1, [])])]
/-- SlipRoomModel.settlesBy -/
noncomputable def z_b179 : z_B := [
  (0, [true, true, true, false, false, false, false], [(.iconst 0, 1, []), (.istore_n 3, 1, []), (.iconst 0, 1, []), (.istore 4, 2, [])]),
  (5, [true, true, true, true, true, false, false], [(.iload 4, 2, []), (.bipush 6, 2, []), (.if_icmp .ge 121, 3, []), (.iload_n 1, 1, []), (.iload 4, 2, []), (.ishr, 1, []), (.iconst 1, 1, []), (.iand, 1, []), (.ifCond .ne 6, 3, []), (.goto 103, 3, [])]),
  (24, [true, true, true, true, true, false, false], [(.iconst 0, 1, []), (.istore 5, 2, []), (.iconst 0, 1, []), (.istore 6, 2, [])]),
  (30, [true, true, true, true, true, true, true], [(.iload 6, 2, []), (.bipush 6, 2, []), (.if_icmp .ge 59, 3, []), (.iload 5, 2, []), (.iload_n 1, 1, []), (.iload 6, 2, []), (.ishr, 1, []), (.iconst 1, 1, []), (.iand, 1, []), (.iconst 1, 1, []), (.if_icmp .ne 37, 3, []), (.aload_n 0, 1, []), (.getfield 158, 3, [9, 65, 2, 42, 0, 1231]), (.bipush 10, 2, []), (.iload 6, 2, []), (.imul, 1, []), (.iload_n 2, 1, []), (.iadd, 1, []), (.iaload, 1, []), (.aload_n 0, 1, []), (.getfield 158, 3, [9, 65, 2, 42, 0, 1231]), (.bipush 10, 2, []), (.iload 4, 2, []), (.imul, 1, []), (.iload_n 2, 1, []), (.iadd, 1, []), (.iaload, 1, []), (.if_icmp .ne 10, 3, []), (.iconst 1, 1, []), (.iload 6, 2, []), (.ishl, 1, []), (.goto 4, 3, [])]),
  (83, [true, true, true, true, true, false, true], [(.iconst 0, 1, [])]),
  (84, [true, true, true, true, true, false, true], [(.ior, 1, []), (.istore 5, 2, []), (.iinc 6 1, 3, []), (.goto (-60), 3, [])]),
  (93, [true, true, true, true, true, true, false], [(.iload 5, 2, []), (.iload_n 1, 1, []), (.if_icmp .eq 14, 3, []), (.aload_n 0, 1, []), (.getfield 161, 3, [9, 66, 2, 43, 0, 1232]), (.iload 5, 2, []), (.iaload, 1, []), (.iconst (-1), 1, []), (.if_icmp .ne 5, 3, [])]),
  (110, [false, false, false, false, false, false, false], [(.iconst (-1), 1, []), (.ireturn, 1, [])]),
  (112, [true, true, true, true, true, true, false], [(.iload_n 3, 1, []), (.aload_n 0, 1, []), (.getfield 161, 3, [9, 66, 2, 43, 0, 1232]), (.iload 5, 2, []), (.iaload, 1, []), (.invokestatic 363, 3, [187, 2, 0, 0, 1, 1552]), (.istore_n 3, 1, [])]),
  (124, [true, true, true, true, true, false, false], [(.iinc 4 1, 3, []), (.goto (-122), 3, [])]),
  (130, [false, false, false, true, false, false, false], [(.iload_n 3, 1, []), (.iconst 1, 1, []), (.iadd, 1, []), (.ireturn, 1, [])])]
/-- SlipRoomModel.settle -/
noncomputable def z_b180 : z_B := [
  (0, [true, true, true, false, false, false, false], [(.aload_n 0, 1, []), (.iconst 0, 1, []), (.putfield 170, 3, [9, 1, 0, 0, 0, 1167]), (.iload_n 2, 1, []), (.ifCond .lt 8, 3, []), (.iload_n 2, 1, []), (.iconst 1, 1, []), (.if_icmp .le 9, 3, [])]),
  (14, [true, false, false, false, false, false, false], [(.aload_n 0, 1, []), (.iconst 1, 1, []), (.invokevirtual 308, 3, [111, 2, 2, 9, 1, 1392]), (.ireturn, 1, [])]),
  (20, [true, true, true, false, false, false, false], [(.iload_n 1, 1, []), (.iconst 0, 1, []), (.bipush 63, 2, []), (.invokestatic 176, 3, [112, 3, 0, 0, 1, 1502]), (.ifCond .ne 9, 3, []), (.aload_n 0, 1, []), (.iconst 2, 1, []), (.invokevirtual 308, 3, [111, 2, 2, 9, 1, 1392]), (.ireturn, 1, [])]),
  (36, [true, true, true, false, false, false, false], [(.iconst (-1), 1, []), (.istore_n 3, 1, []), (.iconst 0, 1, []), (.istore 4, 2, [])]),
  (41, [true, true, true, true, true, false, false], [(.iload 4, 2, []), (.iload_n 1, 1, []), (.if_icmp .gt 113, 3, []), (.aload_n 0, 1, []), (.getfield 161, 3, [9, 66, 2, 43, 0, 1232]), (.iload 4, 2, []), (.iload 4, 2, []), (.invokestatic 417, 3, [178, 1, 0, 0, 1, 1664]), (.iconst 2, 1, []), (.if_icmp .ge 7, 3, []), (.iconst 0, 1, []), (.goto 4, 3, [])]),
  (66, [true, true, true, false, true, false, false], [(.iconst (-1), 1, [])]),
  (67, [true, true, true, false, true, false, false], [(.iastore, 1, []), (.iconst (-1), 1, []), (.istore_n 3, 1, []), (.iconst 0, 1, []), (.istore 5, 2, [])]),
  (73, [true, true, true, true, true, true, false], [(.iload 5, 2, []), (.aload_n 0, 1, []), (.getfield 173, 3, [9, 2, 0, 0, 0, 1168]), (.if_icmp .ge 72, 3, []), (.iload 4, 2, []), (.invokestatic 417, 3, [178, 1, 0, 0, 1, 1664]), (.iconst 1, 1, []), (.if_icmp .le 63, 3, []), (.aload_n 0, 1, []), (.iload 4, 2, []), (.iload 5, 2, []), (.invokevirtual 420, 3, [179, 3, 2, 9, 1, 1667]), (.istore 6, 2, []), (.iload 6, 2, []), (.iconst (-1), 1, []), (.if_icmp .eq 41, 3, []), (.aload_n 0, 1, []), (.getfield 161, 3, [9, 66, 2, 43, 0, 1232]), (.iload 4, 2, []), (.iaload, 1, []), (.iconst (-1), 1, []), (.if_icmp .eq 18, 3, []), (.iload 6, 2, []), (.aload_n 0, 1, []), (.getfield 161, 3, [9, 66, 2, 43, 0, 1232]), (.iload 4, 2, []), (.iaload, 1, []), (.if_icmp .lt 6, 3, []), (.goto 15, 3, [])]),
  (133, [true, true, true, false, true, true, true], [(.aload_n 0, 1, []), (.getfield 161, 3, [9, 66, 2, 43, 0, 1232]), (.iload 4, 2, []), (.iload 6, 2, []), (.iastore, 1, []), (.iload 5, 2, []), (.istore_n 3, 1, [])]),
  (145, [true, true, true, true, true, true, false], [(.iinc 5 1, 3, []), (.goto (-75), 3, [])]),
  (151, [true, true, true, true, true, false, false], [(.iinc 4 1, 3, []), (.goto (-113), 3, [])]),
  (157, [true, true, true, true, false, false, false], [(.iload_n 2, 1, []), (.ifCond .ne 12, 3, []), (.aload_n 0, 1, []), (.getfield 161, 3, [9, 66, 2, 43, 0, 1232]), (.iload_n 1, 1, []), (.iaload, 1, []), (.goto 4, 3, [])]),
  (170, [false, false, false, true, false, false, false], [(.iload_n 3, 1, [])]),
  (171, [false, false, false, false, false, false, false], [(.ireturn, 1, [])])]
/-- SlipRoomModel.keep -/
noncomputable def z_b181 : z_B := [
  (0, [true, true, false], [(.iconst 0, 1, []), (.istore_n 2, 1, [])]),
  (2, [true, true, true], [(.iload_n 2, 1, []), (.aload_n 1, 1, []), (.arraylength, 1, []), (.if_icmp .ge 23, 3, []), (.aload_n 0, 1, []), (.getfield 164, 3, [9, 68, 2, 44, 0, 1234]), (.aload_n 0, 1, []), (.getfield 423, 3, [9, 70, 0, 0, 0, 1236]), (.iload_n 2, 1, []), (.iadd, 1, []), (.aload_n 1, 1, []), (.iload_n 2, 1, []), (.iaload, 1, []), (.iastore, 1, []), (.iinc 2 1, 3, []), (.goto (-23), 3, [])]),
  (28, [true, true, false], [(.aload_n 0, 1, []), (.dup, 1, []), (.getfield 423, 3, [9, 70, 0, 0, 0, 1236]), (.aload_n 1, 1, []), (.arraylength, 1, []), (.iadd, 1, []), (.putfield 423, 3, [9, 70, 0, 0, 0, 1236]), (.return_, 1, [])])]
/-- SlipRoomModel.giveBack -/
noncomputable def z_b182 : z_B := [
  (0, [true, true, false], [(.iconst 0, 1, []), (.istore_n 2, 1, [])]),
  (2, [true, true, true], [(.iload_n 2, 1, []), (.aload_n 1, 1, []), (.arraylength, 1, []), (.if_icmp .ge 23, 3, []), (.aload_n 1, 1, []), (.iload_n 2, 1, []), (.aload_n 0, 1, []), (.getfield 164, 3, [9, 68, 2, 44, 0, 1234]), (.aload_n 0, 1, []), (.getfield 423, 3, [9, 70, 0, 0, 0, 1236]), (.iload_n 2, 1, []), (.iadd, 1, []), (.iaload, 1, []), (.iastore, 1, []), (.iinc 2 1, 3, []), (.goto (-23), 3, [])]),
  (28, [true, true, false], [(.aload_n 0, 1, []), (.dup, 1, []), (.getfield 423, 3, [9, 70, 0, 0, 0, 1236]), (.aload_n 1, 1, []), (.arraylength, 1, []), (.iadd, 1, []), (.putfield 423, 3, [9, 70, 0, 0, 0, 1236]), (.return_, 1, [])])]
/-- SlipRoomModel.image -/
noncomputable def z_b183 : z_B := [
  (0, [true, false], [(.aload_n 0, 1, []), (.iconst 0, 1, []), (.putfield 170, 3, [9, 1, 0, 0, 0, 1167]), (.aload_n 0, 1, []), (.iconst 1, 1, []), (.putfield 334, 3, [9, 67, 0, 1, 0, 1233]), (.aload_n 0, 1, []), (.getfield 164, 3, [9, 68, 2, 44, 0, 1234]), (.iconst 0, 1, []), (.aload_n 0, 1, []), (.getfield 322, 3, [9, 28, 0, 0, 0, 1194]), (.iastore, 1, []), (.aload_n 0, 1, []), (.getfield 164, 3, [9, 68, 2, 44, 0, 1234]), (.iconst 1, 1, []), (.aload_n 0, 1, []), (.getfield 325, 3, [9, 29, 0, 0, 0, 1195]), (.iastore, 1, []), (.aload_n 0, 1, []), (.getfield 164, 3, [9, 68, 2, 44, 0, 1234]), (.iconst 2, 1, []), (.aload_n 0, 1, []), (.getfield 328, 3, [9, 44, 0, 0, 0, 1210]), (.iastore, 1, []), (.aload_n 0, 1, []), (.getfield 164, 3, [9, 68, 2, 44, 0, 1234]), (.iconst 3, 1, []), (.aload_n 0, 1, []), (.getfield 331, 3, [9, 57, 0, 0, 0, 1223]), (.iastore, 1, []), (.aload_n 0, 1, []), (.iconst 4, 1, []), (.putfield 423, 3, [9, 70, 0, 0, 0, 1236]), (.aload_n 0, 1, []), (.aload_n 0, 1, []), (.getfield 77, 3, [9, 33, 2, 16, 0, 1199]), (.invokevirtual 426, 3, [181, 2, 2, 9, 0, 1675]), (.aload_n 0, 1, []), (.aload_n 0, 1, []), (.getfield 80, 3, [9, 34, 2, 17, 0, 1200]), (.invokevirtual 426, 3, [181, 2, 2, 9, 0, 1675]), (.aload_n 0, 1, []), (.aload_n 0, 1, []), (.getfield 68, 3, [9, 30, 2, 13, 0, 1196]), (.invokevirtual 426, 3, [181, 2, 2, 9, 0, 1675]), (.aload_n 0, 1, []), (.aload_n 0, 1, []), (.getfield 71, 3, [9, 31, 2, 14, 0, 1197]), (.invokevirtual 426, 3, [181, 2, 2, 9, 0, 1675]), (.aload_n 0, 1, []), (.aload_n 0, 1, []), (.getfield 74, 3, [9, 32, 2, 15, 0, 1198]), (.invokevirtual 426, 3, [181, 2, 2, 9, 0, 1675]), (.aload_n 0, 1, []), (.aload_n 0, 1, []), (.getfield 86, 3, [9, 36, 2, 19, 0, 1202]), (.invokevirtual 426, 3, [181, 2, 2, 9, 0, 1675]), (.aload_n 0, 1, []), (.aload_n 0, 1, []), (.getfield 89, 3, [9, 37, 2, 20, 0, 1203]), (.invokevirtual 426, 3, [181, 2, 2, 9, 0, 1675]), (.aload_n 0, 1, []), (.aload_n 0, 1, []), (.getfield 92, 3, [9, 38, 2, 21, 0, 1204]), (.invokevirtual 426, 3, [181, 2, 2, 9, 0, 1675]), (.aload_n 0, 1, []), (.aload_n 0, 1, []), (.getfield 95, 3, [9, 39, 2, 22, 0, 1205]), (.invokevirtual 426, 3, [181, 2, 2, 9, 0, 1675]), (.aload_n 0, 1, []), (.aload_n 0, 1, []), (.getfield 98, 3, [9, 40, 2, 23, 0, 1206]), (.invokevirtual 426, 3, [181, 2, 2, 9, 0, 1675]), (.aload_n 0, 1, []), (.aload_n 0, 1, []), (.getfield 101, 3, [9, 41, 2, 24, 0, 1207]), (.invokevirtual 426, 3, [181, 2, 2, 9, 0, 1675]), (.aload_n 0, 1, []), (.aload_n 0, 1, []), (.getfield 110, 3, [9, 45, 2, 27, 0, 1211]), (.invokevirtual 426, 3, [181, 2, 2, 9, 0, 1675]), (.aload_n 0, 1, []), (.aload_n 0, 1, []), (.getfield 113, 3, [9, 46, 2, 28, 0, 1212]), (.invokevirtual 426, 3, [181, 2, 2, 9, 0, 1675]), (.aload_n 0, 1, []), (.aload_n 0, 1, []), (.getfield 116, 3, [9, 47, 2, 29, 0, 1213]), (.invokevirtual 426, 3, [181, 2, 2, 9, 0, 1675]), (.aload_n 0, 1, []), (.aload_n 0, 1, []), (.getfield 119, 3, [9, 48, 2, 30, 0, 1214]), (.invokevirtual 426, 3, [181, 2, 2, 9, 0, 1675]), (.aload_n 0, 1, []), (.aload_n 0, 1, []), (.getfield 140, 3, [9, 58, 2, 37, 0, 1224]), (.invokevirtual 426, 3, [181, 2, 2, 9, 0, 1675]), (.aload_n 0, 1, []), (.aload_n 0, 1, []), (.getfield 143, 3, [9, 59, 2, 38, 0, 1225]), (.invokevirtual 426, 3, [181, 2, 2, 9, 0, 1675]), (.aload_n 0, 1, []), (.aload_n 0, 1, []), (.getfield 146, 3, [9, 60, 2, 39, 0, 1226]), (.invokevirtual 426, 3, [181, 2, 2, 9, 0, 1675]), (.aload_n 0, 1, []), (.aload_n 0, 1, []), (.getfield 158, 3, [9, 65, 2, 42, 0, 1231]), (.invokevirtual 426, 3, [181, 2, 2, 9, 0, 1675]), (.aload_n 0, 1, []), (.aload_n 0, 1, []), (.getfield 54, 3, [9, 14, 2, 10, 0, 1180]), (.invokevirtual 426, 3, [181, 2, 2, 9, 0, 1675]), (.iconst 0, 1, []), (.istore_n 1, 1, [])]),
  (217, [true, true], [(.iload_n 1, 1, []), (.aload_n 0, 1, []), (.getfield 83, 3, [9, 35, 2, 18, 0, 1201]), (.arraylength, 1, []), (.if_icmp .ge 21, 3, []), (.aload_n 0, 1, []), (.getfield 167, 3, [9, 69, 2, 45, 0, 1235]), (.iload_n 1, 1, []), (.aload_n 0, 1, []), (.getfield 83, 3, [9, 35, 2, 18, 0, 1201]), (.iload_n 1, 1, []), (.baload, 1, []), (.bastore, 1, []), (.iinc 1 1, 3, []), (.goto (-24), 3, [])]),
  (244, [false, false], [(.return_, 1, [])])]
/-- SlipRoomModel.restore -/
noncomputable def z_b184 : z_B := [
  (0, [true, false], [(.aload_n 0, 1, []), (.iconst 0, 1, []), (.putfield 170, 3, [9, 1, 0, 0, 0, 1167]), (.aload_n 0, 1, []), (.getfield 334, 3, [9, 67, 0, 1, 0, 1233]), (.ifCond .ne 5, 3, []), (.iconst 0, 1, []), (.ireturn, 1, [])]),
  (14, [true, false], [(.aload_n 0, 1, []), (.aload_n 0, 1, []), (.getfield 164, 3, [9, 68, 2, 44, 0, 1234]), (.iconst 0, 1, []), (.iaload, 1, []), (.putfield 322, 3, [9, 28, 0, 0, 0, 1194]), (.aload_n 0, 1, []), (.aload_n 0, 1, []), (.getfield 164, 3, [9, 68, 2, 44, 0, 1234]), (.iconst 1, 1, []), (.iaload, 1, []), (.putfield 325, 3, [9, 29, 0, 0, 0, 1195]), (.aload_n 0, 1, []), (.aload_n 0, 1, []), (.getfield 164, 3, [9, 68, 2, 44, 0, 1234]), (.iconst 2, 1, []), (.iaload, 1, []), (.putfield 328, 3, [9, 44, 0, 0, 0, 1210]), (.aload_n 0, 1, []), (.aload_n 0, 1, []), (.getfield 164, 3, [9, 68, 2, 44, 0, 1234]), (.iconst 3, 1, []), (.iaload, 1, []), (.putfield 331, 3, [9, 57, 0, 0, 0, 1223]), (.aload_n 0, 1, []), (.iconst 4, 1, []), (.putfield 423, 3, [9, 70, 0, 0, 0, 1236]), (.aload_n 0, 1, []), (.aload_n 0, 1, []), (.getfield 77, 3, [9, 33, 2, 16, 0, 1199]), (.invokevirtual 430, 3, [182, 2, 2, 9, 0, 1683]), (.aload_n 0, 1, []), (.aload_n 0, 1, []), (.getfield 80, 3, [9, 34, 2, 17, 0, 1200]), (.invokevirtual 430, 3, [182, 2, 2, 9, 0, 1683]), (.aload_n 0, 1, []), (.aload_n 0, 1, []), (.getfield 68, 3, [9, 30, 2, 13, 0, 1196]), (.invokevirtual 430, 3, [182, 2, 2, 9, 0, 1683]), (.aload_n 0, 1, []), (.aload_n 0, 1, []), (.getfield 71, 3, [9, 31, 2, 14, 0, 1197]), (.invokevirtual 430, 3, [182, 2, 2, 9, 0, 1683]), (.aload_n 0, 1, []), (.aload_n 0, 1, []), (.getfield 74, 3, [9, 32, 2, 15, 0, 1198]), (.invokevirtual 430, 3, [182, 2, 2, 9, 0, 1683]), (.aload_n 0, 1, []), (.aload_n 0, 1, []), (.getfield 86, 3, [9, 36, 2, 19, 0, 1202]), (.invokevirtual 430, 3, [182, 2, 2, 9, 0, 1683]), (.aload_n 0, 1, []), (.aload_n 0, 1, []), (.getfield 89, 3, [9, 37, 2, 20, 0, 1203]), (.invokevirtual 430, 3, [182, 2, 2, 9, 0, 1683]), (.aload_n 0, 1, []), (.aload_n 0, 1, []), (.getfield 92, 3, [9, 38, 2, 21, 0, 1204]), (.invokevirtual 430, 3, [182, 2, 2, 9, 0, 1683]), (.aload_n 0, 1, []), (.aload_n 0, 1, []), (.getfield 95, 3, [9, 39, 2, 22, 0, 1205]), (.invokevirtual 430, 3, [182, 2, 2, 9, 0, 1683]), (.aload_n 0, 1, []), (.aload_n 0, 1, []), (.getfield 98, 3, [9, 40, 2, 23, 0, 1206]), (.invokevirtual 430, 3, [182, 2, 2, 9, 0, 1683]), (.aload_n 0, 1, []), (.aload_n 0, 1, []), (.getfield 101, 3, [9, 41, 2, 24, 0, 1207]), (.invokevirtual 430, 3, [182, 2, 2, 9, 0, 1683]), (.aload_n 0, 1, []), (.aload_n 0, 1, []), (.getfield 110, 3, [9, 45, 2, 27, 0, 1211]), (.invokevirtual 430, 3, [182, 2, 2, 9, 0, 1683]), (.aload_n 0, 1, []), (.aload_n 0, 1, []), (.getfield 113, 3, [9, 46, 2, 28, 0, 1212]), (.invokevirtual 430, 3, [182, 2, 2, 9, 0, 1683]), (.aload_n 0, 1, []), (.aload_n 0, 1, []), (.getfield 116, 3, [9, 47, 2, 29, 0, 1213]), (.invokevirtual 430, 3, [182, 2, 2, 9, 0, 1683]), (.aload_n 0, 1, []), (.aload_n 0, 1, []), (.getfield 119, 3, [9, 48, 2, 30, 0, 1214]), (.invokevirtual 430, 3, [182, 2, 2, 9, 0, 1683]), (.aload_n 0, 1, []), (.aload_n 0, 1, []), (.getfield 140, 3, [9, 58, 2, 37, 0, 1224]), (.invokevirtual 430, 3, [182, 2, 2, 9, 0, 1683]), (.aload_n 0, 1, []), (.aload_n 0, 1, []), (.getfield 143, 3, [9, 59, 2, 38, 0, 1225]), (.invokevirtual 430, 3, [182, 2, 2, 9, 0, 1683]), (.aload_n 0, 1, []), (.aload_n 0, 1, []), (.getfield 146, 3, [9, 60, 2, 39, 0, 1226]), (.invokevirtual 430, 3, [182, 2, 2, 9, 0, 1683]), (.aload_n 0, 1, []), (.aload_n 0, 1, []), (.getfield 158, 3, [9, 65, 2, 42, 0, 1231]), (.invokevirtual 430, 3, [182, 2, 2, 9, 0, 1683]), (.aload_n 0, 1, []), (.aload_n 0, 1, []), (.getfield 54, 3, [9, 14, 2, 10, 0, 1180]), (.invokevirtual 430, 3, [182, 2, 2, 9, 0, 1683]), (.iconst 0, 1, []), (.istore_n 1, 1, [])]),
  (221, [true, true], [(.iload_n 1, 1, []), (.aload_n 0, 1, []), (.getfield 83, 3, [9, 35, 2, 18, 0, 1201]), (.arraylength, 1, []), (.if_icmp .ge 21, 3, []), (.aload_n 0, 1, []), (.getfield 83, 3, [9, 35, 2, 18, 0, 1201]), (.iload_n 1, 1, []), (.aload_n 0, 1, []), (.getfield 167, 3, [9, 69, 2, 45, 0, 1235]), (.iload_n 1, 1, []), (.baload, 1, []), (.bastore, 1, []), (.iinc 1 1, 3, []), (.goto (-24), 3, [])]),
  (248, [false, false], [(.iconst 1, 1, []), (.ireturn, 1, [])])]
/-- java/lang/Integer.bitCount -/
noncomputable def z_b185 : z_B := [
  (0, [true], [(.iload_n 0, 1, []), (.iload_n 0, 1, []), (.iconst 1, 1, []), (.iushr, 1, []), (.ldc_w 265, 3, [0, 1431655765, 1140]), (.iand, 1, []), (.isub, 1, []), (.istore_n 0, 1, []), (.iload_n 0, 1, []), (.ldc_w 266, 3, [0, 858993459, 1141]), (.iand, 1, []), (.iload_n 0, 1, []), (.iconst 2, 1, []), (.iushr, 1, []), (.ldc_w 266, 3, [0, 858993459, 1141]), (.iand, 1, []), (.iadd, 1, []), (.istore_n 0, 1, []), (.iload_n 0, 1, []), (.iload_n 0, 1, []), (.iconst 4, 1, []), (.iushr, 1, []), (.iadd, 1, []), (.ldc_w 267, 3, [0, 252645135, 1142]), (.iand, 1, []), (.istore_n 0, 1, []), (.iload_n 0, 1, []), (.iload_n 0, 1, []), (.bipush 8, 2, []), (.iushr, 1, []), (.iadd, 1, []), (.istore_n 0, 1, []), (.iload_n 0, 1, []), (.iload_n 0, 1, []), (.bipush 16, 2, []), (.iushr, 1, []), (.iadd, 1, []), (.istore_n 0, 1, []), (.iload_n 0, 1, []), (.bipush 63, 2, []), (.iand, 1, []), (.ireturn, 1, [])])]
/-- java/lang/Long.bitCount -/
noncomputable def z_b186 : z_B := [
  (0, [true, false], [(.lload_n 0, 1, []), (.lload_n 0, 1, []), (.iconst 1, 1, []), (.lushr, 1, []), (.ldc2_w 314, 3, [6148914691236517205, 812]), (.land, 1, []), (.lsub, 1, []), (.lstore_n 0, 1, []), (.lload_n 0, 1, []), (.ldc2_w 316, 3, [3689348814741910323, 813]), (.land, 1, []), (.lload_n 0, 1, []), (.iconst 2, 1, []), (.lushr, 1, []), (.ldc2_w 316, 3, [3689348814741910323, 813]), (.land, 1, []), (.ladd, 1, []), (.lstore_n 0, 1, []), (.lload_n 0, 1, []), (.lload_n 0, 1, []), (.iconst 4, 1, []), (.lushr, 1, []), (.ladd, 1, []), (.ldc2_w 318, 3, [1085102592571150095, 814]), (.land, 1, []), (.lstore_n 0, 1, []), (.lload_n 0, 1, []), (.lload_n 0, 1, []), (.bipush 8, 2, []), (.lushr, 1, []), (.ladd, 1, []), (.lstore_n 0, 1, []), (.lload_n 0, 1, []), (.lload_n 0, 1, []), (.bipush 16, 2, []), (.lushr, 1, []), (.ladd, 1, []), (.lstore_n 0, 1, []), (.lload_n 0, 1, []), (.lload_n 0, 1, []), (.bipush 32, 2, []), (.lushr, 1, []), (.ladd, 1, []), (.lstore_n 0, 1, []), (.lload_n 0, 1, []), (.l2i, 1, []), (.bipush 127, 2, []), (.iand, 1, []), (.ireturn, 1, [])])]
/-- java/lang/Math.max -/
noncomputable def z_b187 : z_B := [
  (0, [true, true], [(.iload_n 0, 1, []), (.iload_n 1, 1, []), (.if_icmp .lt 7, 3, []), (.iload_n 0, 1, []), (.goto 4, 3, [])]),
  (9, [false, true], [(.iload_n 1, 1, [])]),
  (10, [false, false], [(.ireturn, 1, [])])]
/-- java/lang/Math.min -/
noncomputable def z_b188 : z_B := [
  (0, [true, true], [(.iload_n 0, 1, []), (.iload_n 1, 1, []), (.if_icmp .gt 7, 3, []), (.iload_n 0, 1, []), (.goto 4, 3, [])]),
  (9, [false, true], [(.iload_n 1, 1, [])]),
  (10, [false, false], [(.ireturn, 1, [])])]
/-- java/util/Arrays.fill -/
noncomputable def z_b189 : z_B := [
  (0, [true, true, false, false, false], [(.iconst 0, 1, []), (.istore_n 3, 1, []), (.aload_n 0, 1, []), (.arraylength, 1, []), (.istore 4, 2, [])]),
  (6, [true, true, false, true, true], [(.iload_n 3, 1, []), (.iload 4, 2, []), (.if_icmp .ge 13, 3, []), (.aload_n 0, 1, []), (.iload_n 3, 1, []), (.lload_n 1, 1, []), (.lastore, 1, []), (.iinc 3 1, 3, []), (.goto (-13), 3, [])]),
  (22, [false, false, false, false, false], [(.return_, 1, [])])]
/-- java/util/Arrays.fill -/
noncomputable def z_b190 : z_B := [
  (0, [true, true, false, false], [(.iconst 0, 1, []), (.istore_n 2, 1, []), (.aload_n 0, 1, []), (.arraylength, 1, []), (.istore_n 3, 1, [])]),
  (5, [true, true, true, true], [(.iload_n 2, 1, []), (.iload_n 3, 1, []), (.if_icmp .ge 13, 3, []), (.aload_n 0, 1, []), (.iload_n 2, 1, []), (.iload_n 1, 1, []), (.iastore, 1, []), (.iinc 2 1, 3, []), (.goto (-12), 3, [])]),
  (20, [false, false, false, false], [(.return_, 1, [])])]
/-- SlipRoomLaw.room -/
noncomputable def z_b191 : z_B := [
  (0, [true, true, true, false], [(.aload_n 2, 1, []), (.iconst 0, 1, []), (.aload_n 0, 1, []), (.iload_n 1, 1, []), (.invokevirtual 7, 3, [75, 2, 2, 8, 1, 499]), (.i2l, 1, []), (.lastore, 1, []), (.goto 6, 3, [])]),
  (15, [false, false, false, false], [(.iconst 0, 1, []), (.ireturn, 1, [])])]
/-- SlipRoomLaw.count -/
noncomputable def z_b192 : z_B := [
  (0, [true, true, true, false], [(.aload_n 2, 1, []), (.iconst 0, 1, []), (.aload_n 0, 1, []), (.iload_n 1, 1, []), (.invokevirtual 15, 3, [77, 2, 2, 8, 1, 766]), (.i2l, 1, []), (.lastore, 1, []), (.goto 6, 3, [])]),
  (15, [false, false, false, false], [(.iconst 0, 1, []), (.ireturn, 1, [])])]
/-- SlipRoomLaw.book -/
noncomputable def z_b193 : z_B := [
  (0, [true, true, true, true, false], [(.aload_n 3, 1, []), (.iconst 0, 1, []), (.aload_n 0, 1, []), (.iload_n 1, 1, []), (.iload_n 2, 1, []), (.invokevirtual 20, 3, [78, 3, 2, 8, 1, 793]), (.i2l, 1, []), (.lastore, 1, []), (.goto 7, 3, [])]),
  (17, [false, false, false, false, false], [(.iconst 0, 1, []), (.ireturn, 1, [])])]
/-- SlipRoomLaw.reader -/
noncomputable def z_b194 : z_B := [
  (0, [true, true, true, true, false], [(.aload_n 3, 1, []), (.iconst 0, 1, []), (.aload_n 0, 1, []), (.iload_n 1, 1, []), (.iload_n 2, 1, []), (.invokevirtual 24, 3, [79, 3, 2, 8, 1, 823]), (.i2l, 1, []), (.lastore, 1, []), (.goto 7, 3, [])]),
  (17, [false, false, false, false, false], [(.iconst 0, 1, []), (.ireturn, 1, [])])]
/-- SlipRoomLaw.loan -/
noncomputable def z_b195 : z_B := [
  (0, [true, true, true, true, true, true, false], [(.aload 5, 2, []), (.iconst 0, 1, []), (.aload_n 0, 1, []), (.iload_n 1, 1, []), (.iload_n 2, 1, []), (.iload_n 3, 1, []), (.iload 4, 2, []), (.invokevirtual 27, 3, [80, 5, 2, 8, 1, 836]), (.i2l, 1, []), (.lastore, 1, []), (.goto 7, 3, [])]),
  (21, [false, false, false, false, false, false, false], [(.iconst 0, 1, []), (.ireturn, 1, [])])]
/-- SlipRoomLaw.lent -/
noncomputable def z_b196 : z_B := [
  (0, [true, true, true, true, false], [(.aload_n 3, 1, []), (.iconst 0, 1, []), (.aload_n 0, 1, []), (.iload_n 1, 1, []), (.iload_n 2, 1, []), (.invokevirtual 31, 3, [81, 3, 2, 8, 1, 902]), (.i2l, 1, []), (.lastore, 1, []), (.goto 7, 3, [])]),
  (17, [false, false, false, false, false], [(.iconst 0, 1, []), (.ireturn, 1, [])])]
/-- SlipRoomLaw.drop -/
noncomputable def z_b197 : z_B := [
  (0, [true, true, true, true, true, false], [(.aload 4, 2, []), (.iconst 0, 1, []), (.aload_n 0, 1, []), (.iload_n 1, 1, []), (.iload_n 2, 1, []), (.iload_n 3, 1, []), (.invokevirtual 34, 3, [82, 4, 2, 8, 1, 910]), (.i2l, 1, []), (.lastore, 1, []), (.goto 7, 3, [])]),
  (19, [false, false, false, false, false, false], [(.iconst 0, 1, []), (.ireturn, 1, [])])]
/-- SlipRoomLaw.slip -/
noncomputable def z_b198 : z_B := [
  (0, [true, true, true, true, false], [(.aload_n 3, 1, []), (.iconst 0, 1, []), (.aload_n 0, 1, []), (.iload_n 1, 1, []), (.iload_n 2, 1, []), (.invokevirtual 38, 3, [83, 3, 2, 8, 1, 921]), (.i2l, 1, []), (.lastore, 1, []), (.goto 7, 3, [])]),
  (17, [false, false, false, false, false], [(.iconst 0, 1, []), (.ireturn, 1, [])])]
/-- SlipRoomLaw.read -/
noncomputable def z_b199 : z_B := [
  (0, [true, true, true, true, true, false], [(.aload 4, 2, []), (.iconst 0, 1, []), (.aload_n 0, 1, []), (.iload_n 1, 1, []), (.iload_n 2, 1, []), (.iload_n 3, 1, []), (.invokevirtual 41, 3, [84, 4, 2, 8, 1, 928]), (.i2l, 1, []), (.lastore, 1, []), (.goto 7, 3, [])]),
  (19, [false, false, false, false, false, false], [(.iconst 0, 1, []), (.ireturn, 1, [])])]
/-- SlipRoomLaw.has -/
noncomputable def z_b200 : z_B := [
  (0, [true, true, true, true, true, false], [(.aload 4, 2, []), (.iconst 0, 1, []), (.aload_n 0, 1, []), (.iload_n 1, 1, []), (.iload_n 2, 1, []), (.iload_n 3, 1, []), (.invokevirtual 44, 3, [85, 4, 2, 8, 1, 944]), (.ifCond .eq 7, 3, []), (.lconst 1, 1, []), (.goto 4, 3, [])]),
  (17, [false, false, false, false, false, false], [(.lconst 0, 1, [])]),
  (18, [false, false, false, false, false, false], [(.lastore, 1, []), (.goto 7, 3, [])]),
  (26, [false, false, false, false, false, false], [(.iconst 0, 1, []), (.ireturn, 1, [])])]
/-- SlipRoomLaw.ahead -/
noncomputable def z_b201 : z_B := [
  (0, [true, true, true, true, true, false], [(.aload 4, 2, []), (.iconst 0, 1, []), (.aload_n 0, 1, []), (.iload_n 1, 1, []), (.iload_n 2, 1, []), (.iload_n 3, 1, []), (.invokevirtual 48, 3, [86, 4, 2, 8, 1, 953]), (.i2l, 1, []), (.lastore, 1, []), (.goto 7, 3, [])]),
  (19, [false, false, false, false, false, false], [(.iconst 0, 1, []), (.ireturn, 1, [])])]
/-- SlipRoomLaw.look -/
noncomputable def z_b202 : z_B := [
  (0, [true, true, true, true, true, true, false], [(.aload 5, 2, []), (.iconst 0, 1, []), (.aload_n 0, 1, []), (.iload_n 1, 1, []), (.iload_n 2, 1, []), (.iload_n 3, 1, []), (.iload 4, 2, []), (.invokevirtual 51, 3, [87, 5, 2, 8, 1, 961]), (.i2l, 1, []), (.lastore, 1, []), (.goto 7, 3, [])]),
  (21, [false, false, false, false, false, false, false], [(.iconst 0, 1, []), (.ireturn, 1, [])])]
/-- SlipRoomLaw.ways -/
noncomputable def z_b203 : z_B := [
  (0, [true, true, true, false], [(.aload_n 2, 1, []), (.iconst 0, 1, []), (.aload_n 0, 1, []), (.iload_n 1, 1, []), (.invokevirtual 54, 3, [88, 2, 2, 8, 1, 980]), (.i2l, 1, []), (.lastore, 1, []), (.goto 6, 3, [])]),
  (15, [false, false, false, false], [(.iconst 0, 1, []), (.ireturn, 1, [])])]
/-- SlipRoomLaw.whose -/
noncomputable def z_b204 : z_B := [
  (0, [true, true, true, true, false], [(.aload_n 3, 1, []), (.iconst 0, 1, []), (.aload_n 0, 1, []), (.iload_n 1, 1, []), (.iload_n 2, 1, []), (.invokevirtual 57, 3, [89, 3, 2, 8, 1, 1045]), (.i2l, 1, []), (.lastore, 1, []), (.goto 7, 3, [])]),
  (17, [false, false, false, false, false], [(.iconst 0, 1, []), (.ireturn, 1, [])])]
/-- SlipRoomLaw.ends -/
noncomputable def z_b205 : z_B := [
  (0, [true, true, true, true, true, false], [(.aload 4, 2, []), (.iconst 0, 1, []), (.aload_n 0, 1, []), (.iload_n 1, 1, []), (.iload_n 2, 1, []), (.iload_n 3, 1, []), (.invokevirtual 60, 3, [90, 4, 2, 8, 1, 1073]), (.i2l, 1, []), (.lastore, 1, []), (.goto 7, 3, [])]),
  (19, [false, false, false, false, false, false], [(.iconst 0, 1, []), (.ireturn, 1, [])])]
/-- SlipRoomLaw.moved -/
noncomputable def z_b206 : z_B := [
  (0, [true, true, true, false], [(.aload_n 2, 1, []), (.iconst 0, 1, []), (.aload_n 0, 1, []), (.iload_n 1, 1, []), (.invokevirtual 63, 3, [91, 2, 2, 8, 1, 1085]), (.i2l, 1, []), (.lastore, 1, []), (.goto 6, 3, [])]),
  (15, [false, false, false, false], [(.iconst 0, 1, []), (.ireturn, 1, [])])]
/-- SlipRoomLaw.wish -/
noncomputable def z_b207 : z_B := [
  (0, [true, true, true, true, true, false], [(.aload 4, 2, []), (.iconst 0, 1, []), (.aload_n 0, 1, []), (.iload_n 1, 1, []), (.iload_n 2, 1, []), (.iload_n 3, 1, []), (.invokevirtual 66, 3, [92, 4, 2, 8, 1, 1097]), (.i2l, 1, []), (.lastore, 1, []), (.goto 7, 3, [])]),
  (19, [false, false, false, false, false, false], [(.iconst 0, 1, []), (.ireturn, 1, [])])]
/-- SlipRoomLaw.turn -/
noncomputable def z_b208 : z_B := [
  (0, [true, true, true, false], [(.aload_n 2, 1, []), (.iconst 0, 1, []), (.aload_n 0, 1, []), (.iload_n 1, 1, []), (.invokevirtual 69, 3, [94, 2, 2, 8, 1, 1108]), (.i2l, 1, []), (.lastore, 1, []), (.goto 6, 3, [])]),
  (15, [false, false, false, false], [(.iconst 0, 1, []), (.ireturn, 1, [])])]
/-- SlipRoomLaw.tale -/
noncomputable def z_b209 : z_B := [
  (0, [true, true, true, true, true, false], [(.aload 4, 2, []), (.iconst 0, 1, []), (.aload_n 0, 1, []), (.iload_n 1, 1, []), (.iload_n 2, 1, []), (.iload_n 3, 1, []), (.invokevirtual 72, 3, [95, 4, 2, 8, 1, 1116]), (.ifCond .eq 7, 3, []), (.lconst 1, 1, []), (.goto 4, 3, [])]),
  (17, [false, false, false, false, false, false], [(.lconst 0, 1, [])]),
  (18, [false, false, false, false, false, false], [(.lastore, 1, []), (.goto 7, 3, [])]),
  (26, [false, false, false, false, false, false], [(.iconst 0, 1, []), (.ireturn, 1, [])])]
/-- SlipRoomLaw.settle -/
noncomputable def z_b210 : z_B := [
  (0, [true, true, true, true, false], [(.aload_n 3, 1, []), (.iconst 0, 1, []), (.aload_n 0, 1, []), (.iload_n 1, 1, []), (.iload_n 2, 1, []), (.invokevirtual 75, 3, [96, 3, 2, 8, 1, 1123]), (.i2l, 1, []), (.lastore, 1, []), (.goto 11, 3, [])]),
  (21, [false, false, false, false, false], [(.iconst 0, 1, []), (.ireturn, 1, [])])]
/-- SlipRoomLaw.law -/
noncomputable def z_b211 : z_B := [
  (23, [true, true, true, true, true, false, false], [(.iload 4, 2, []), (.aload_n 0, 1, []), (.arraylength, 1, []), (.bipush 6, 2, []), (.isub, 1, []), (.if_icmp .gt 1701, 3, []), (.aload_n 0, 1, []), (.iload 4, 2, []), (.iaload, 1, []), (.bipush 31, 2, []), (.iand, 1, []), (.tableswitch 1685 0 24 #[116, 189, 245, 258, 314, 382, 450, 542, 610, 690, 758, 838, 925, 1005, 1097, 1153, 1221, 1301, 1357, 1437, 1450, 1506, 1593, 1661, 1672], 116, [])]),
  (156, [true, true, true, true, true, false, false], [(.aload_n 1, 1, []), (.aload_n 0, 1, []), (.iload 4, 2, []), (.iconst 1, 1, []), (.iadd, 1, []), (.iaload, 1, []), (.aload_n 0, 1, []), (.iload 4, 2, []), (.iconst 2, 1, []), (.iadd, 1, []), (.iaload, 1, []), (.aload_n 0, 1, []), (.iload 4, 2, []), (.iconst 3, 1, []), (.iadd, 1, []), (.iaload, 1, []), (.aload_n 0, 1, []), (.iload 4, 2, []), (.iconst 4, 1, []), (.iadd, 1, []), (.iaload, 1, []), (.aload_n 0, 1, []), (.iload 4, 2, []), (.iconst 5, 1, []), (.iadd, 1, []), (.iaload, 1, []), (.invokevirtual 82, 3, [74, 6, 2, 8, 1, 451]), (.aload_n 2, 1, []), (.aload_n 0, 1, []), (.iload 4, 2, []), (.iconst 1, 1, []), (.iadd, 1, []), (.iaload, 1, []), (.aload_n 0, 1, []), (.iload 4, 2, []), (.iconst 2, 1, []), (.iadd, 1, []), (.iaload, 1, []), (.aload_n 0, 1, []), (.iload 4, 2, []), (.iconst 3, 1, []), (.iadd, 1, []), (.iaload, 1, []), (.aload_n 0, 1, []), (.iload 4, 2, []), (.iconst 4, 1, []), (.iadd, 1, []), (.iaload, 1, []), (.aload_n 0, 1, []), (.iload 4, 2, []), (.iconst 5, 1, []), (.iadd, 1, []), (.iaload, 1, []), (.invokevirtual 86, 3, [115, 6, 2, 9, 1, 1384]), (.if_icmp .eq 1501, 3, []), (.iconst 0, 1, []), (.ireturn, 1, [])]),
  (229, [true, true, true, true, true, false, false], [(.aload_n 1, 1, []), (.aload_n 0, 1, []), (.iload 4, 2, []), (.iconst 1, 1, []), (.iadd, 1, []), (.iaload, 1, []), (.aload_n 3, 1, []), (.invokestatic 87, 3, [191, 3, 4, 0, 1, 495]), (.istore 5, 2, []), (.aload_n 2, 1, []), (.aload_n 0, 1, []), (.iload 4, 2, []), (.iconst 1, 1, []), (.iadd, 1, []), (.iaload, 1, []), (.invokevirtual 92, 3, [137, 2, 2, 9, 1, 1388]), (.istore 6, 2, []), (.aload_n 2, 1, []), (.invokevirtual 93, 3, [110, 1, 2, 9, 1, 1380]), (.iload 5, 2, []), (.if_icmp .eq 5, 3, []), (.iconst 0, 1, []), (.ireturn, 1, [])]),
  (265, [true, true, true, true, true, true, true], [(.iload 5, 2, []), (.ifCond .ne 15, 3, []), (.aload_n 3, 1, []), (.iconst 0, 1, []), (.laload, 1, []), (.iload 6, 2, []), (.i2l, 1, []), (.lcmp, 1, []), (.ifCond .eq 5, 3, []), (.iconst 0, 1, []), (.ireturn, 1, [])]),
  (282, [true, true, true, true, true, false, false], [(.goto 1443, 3, [])]),
  (285, [true, true, true, true, true, false, false], [(.aload_n 1, 1, []), (.invokevirtual 97, 3, [76, 1, 2, 8, 1, 459]), (.aload_n 2, 1, []), (.invokevirtual 100, 3, [139, 1, 2, 9, 1, 1494]), (.if_icmp .eq 1432, 3, []), (.iconst 0, 1, []), (.ireturn, 1, [])]),
  (298, [true, true, true, true, true, false, false], [(.aload_n 1, 1, []), (.aload_n 0, 1, []), (.iload 4, 2, []), (.iconst 1, 1, []), (.iadd, 1, []), (.iaload, 1, []), (.aload_n 3, 1, []), (.invokestatic 101, 3, [192, 3, 4, 0, 1, 762]), (.istore 5, 2, []), (.aload_n 2, 1, []), (.aload_n 0, 1, []), (.iload 4, 2, []), (.iconst 1, 1, []), (.iadd, 1, []), (.iaload, 1, []), (.invokevirtual 103, 3, [140, 2, 2, 9, 1, 1498]), (.istore 6, 2, []), (.aload_n 2, 1, []), (.invokevirtual 93, 3, [110, 1, 2, 9, 1, 1380]), (.iload 5, 2, []), (.if_icmp .eq 5, 3, []), (.iconst 0, 1, []), (.ireturn, 1, [])]),
  (334, [true, true, true, true, true, true, true], [(.iload 5, 2, []), (.ifCond .ne 15, 3, []), (.aload_n 3, 1, []), (.iconst 0, 1, []), (.laload, 1, []), (.iload 6, 2, []), (.i2l, 1, []), (.lcmp, 1, []), (.ifCond .eq 5, 3, []), (.iconst 0, 1, []), (.ireturn, 1, [])]),
  (351, [true, true, true, true, true, false, false], [(.goto 1374, 3, [])]),
  (354, [true, true, true, true, true, false, false], [(.aload_n 1, 1, []), (.aload_n 0, 1, []), (.iload 4, 2, []), (.iconst 1, 1, []), (.iadd, 1, []), (.iaload, 1, []), (.aload_n 0, 1, []), (.iload 4, 2, []), (.iconst 2, 1, []), (.iadd, 1, []), (.iaload, 1, []), (.aload_n 3, 1, []), (.invokestatic 104, 3, [193, 4, 4, 0, 1, 790]), (.istore 5, 2, []), (.aload_n 2, 1, []), (.aload_n 0, 1, []), (.iload 4, 2, []), (.iconst 1, 1, []), (.iadd, 1, []), (.iaload, 1, []), (.aload_n 0, 1, []), (.iload 4, 2, []), (.iconst 2, 1, []), (.iadd, 1, []), (.iaload, 1, []), (.invokevirtual 107, 3, [145, 3, 2, 9, 1, 1505]), (.istore 6, 2, []), (.aload_n 2, 1, []), (.invokevirtual 93, 3, [110, 1, 2, 9, 1, 1380]), (.iload 5, 2, []), (.if_icmp .eq 5, 3, []), (.iconst 0, 1, []), (.ireturn, 1, [])]),
  (402, [true, true, true, true, true, true, true], [(.iload 5, 2, []), (.ifCond .ne 15, 3, []), (.aload_n 3, 1, []), (.iconst 0, 1, []), (.laload, 1, []), (.iload 6, 2, []), (.i2l, 1, []), (.lcmp, 1, []), (.ifCond .eq 5, 3, []), (.iconst 0, 1, []), (.ireturn, 1, [])]),
  (419, [true, true, true, true, true, false, false], [(.goto 1306, 3, [])]),
  (422, [true, true, true, true, true, false, false], [(.aload_n 1, 1, []), (.aload_n 0, 1, []), (.iload 4, 2, []), (.iconst 1, 1, []), (.iadd, 1, []), (.iaload, 1, []), (.aload_n 0, 1, []), (.iload 4, 2, []), (.iconst 2, 1, []), (.iadd, 1, []), (.iaload, 1, []), (.aload_n 3, 1, []), (.invokestatic 108, 3, [194, 4, 4, 0, 1, 820]), (.istore 5, 2, []), (.aload_n 2, 1, []), (.aload_n 0, 1, []), (.iload 4, 2, []), (.iconst 1, 1, []), (.iadd, 1, []), (.iaload, 1, []), (.aload_n 0, 1, []), (.iload 4, 2, []), (.iconst 2, 1, []), (.iadd, 1, []), (.iaload, 1, []), (.invokevirtual 110, 3, [146, 3, 2, 9, 1, 1528]), (.istore 6, 2, []), (.aload_n 2, 1, []), (.invokevirtual 93, 3, [110, 1, 2, 9, 1, 1380]), (.iload 5, 2, []), (.if_icmp .eq 5, 3, []), (.iconst 0, 1, []), (.ireturn, 1, [])]),
  (470, [true, true, true, true, true, true, true], [(.iload 5, 2, []), (.ifCond .ne 15, 3, []), (.aload_n 3, 1, []), (.iconst 0, 1, []), (.laload, 1, []), (.iload 6, 2, []), (.i2l, 1, []), (.lcmp, 1, []), (.ifCond .eq 5, 3, []), (.iconst 0, 1, []), (.ireturn, 1, [])]),
  (487, [true, true, true, true, true, false, false], [(.goto 1238, 3, [])]),
  (490, [true, true, true, true, true, false, false], [(.aload_n 1, 1, []), (.aload_n 0, 1, []), (.iload 4, 2, []), (.iconst 1, 1, []), (.iadd, 1, []), (.iaload, 1, []), (.aload_n 0, 1, []), (.iload 4, 2, []), (.iconst 2, 1, []), (.iadd, 1, []), (.iaload, 1, []), (.aload_n 0, 1, []), (.iload 4, 2, []), (.iconst 3, 1, []), (.iadd, 1, []), (.iaload, 1, []), (.aload_n 0, 1, []), (.iload 4, 2, []), (.iconst 4, 1, []), (.iadd, 1, []), (.iaload, 1, []), (.aload_n 3, 1, []), (.invokestatic 111, 3, [195, 6, 4, 0, 1, 833]), (.istore 5, 2, []), (.aload_n 2, 1, []), (.aload_n 0, 1, []), (.iload 4, 2, []), (.iconst 1, 1, []), (.iadd, 1, []), (.iaload, 1, []), (.aload_n 0, 1, []), (.iload 4, 2, []), (.iconst 2, 1, []), (.iadd, 1, []), (.iaload, 1, []), (.aload_n 0, 1, []), (.iload 4, 2, []), (.iconst 3, 1, []), (.iadd, 1, []), (.iaload, 1, []), (.aload_n 0, 1, []), (.iload 4, 2, []), (.iconst 4, 1, []), (.iadd, 1, []), (.iaload, 1, []), (.invokevirtual 114, 3, [152, 5, 2, 9, 1, 1536]), (.istore 6, 2, []), (.aload_n 2, 1, []), (.invokevirtual 93, 3, [110, 1, 2, 9, 1, 1380]), (.iload 5, 2, []), (.if_icmp .eq 5, 3, []), (.iconst 0, 1, []), (.ireturn, 1, [])]),
  (562, [true, true, true, true, true, true, true], [(.iload 5, 2, []), (.ifCond .ne 15, 3, []), (.aload_n 3, 1, []), (.iconst 0, 1, []), (.laload, 1, []), (.iload 6, 2, []), (.i2l, 1, []), (.lcmp, 1, []), (.ifCond .eq 5, 3, []), (.iconst 0, 1, []), (.ireturn, 1, [])]),
  (579, [true, true, true, true, true, false, false], [(.goto 1146, 3, [])]),
  (582, [true, true, true, true, true, false, false], [(.aload_n 1, 1, []), (.aload_n 0, 1, []), (.iload 4, 2, []), (.iconst 1, 1, []), (.iadd, 1, []), (.iaload, 1, []), (.aload_n 0, 1, []), (.iload 4, 2, []), (.iconst 2, 1, []), (.iadd, 1, []), (.iaload, 1, []), (.aload_n 3, 1, []), (.invokestatic 115, 3, [196, 4, 4, 0, 1, 899]), (.istore 5, 2, []), (.aload_n 2, 1, []), (.aload_n 0, 1, []), (.iload 4, 2, []), (.iconst 1, 1, []), (.iadd, 1, []), (.iaload, 1, []), (.aload_n 0, 1, []), (.iload 4, 2, []), (.iconst 2, 1, []), (.iadd, 1, []), (.iaload, 1, []), (.invokevirtual 117, 3, [153, 3, 2, 9, 1, 1560]), (.istore 6, 2, []), (.aload_n 2, 1, []), (.invokevirtual 93, 3, [110, 1, 2, 9, 1, 1380]), (.iload 5, 2, []), (.if_icmp .eq 5, 3, []), (.iconst 0, 1, []), (.ireturn, 1, [])]),
  (630, [true, true, true, true, true, true, true], [(.iload 5, 2, []), (.ifCond .ne 15, 3, []), (.aload_n 3, 1, []), (.iconst 0, 1, []), (.laload, 1, []), (.iload 6, 2, []), (.i2l, 1, []), (.lcmp, 1, []), (.ifCond .eq 5, 3, []), (.iconst 0, 1, []), (.ireturn, 1, [])]),
  (647, [true, true, true, true, true, false, false], [(.goto 1078, 3, [])]),
  (650, [true, true, true, true, true, false, false], [(.aload_n 1, 1, []), (.aload_n 0, 1, []), (.iload 4, 2, []), (.iconst 1, 1, []), (.iadd, 1, []), (.iaload, 1, []), (.aload_n 0, 1, []), (.iload 4, 2, []), (.iconst 2, 1, []), (.iadd, 1, []), (.iaload, 1, []), (.aload_n 0, 1, []), (.iload 4, 2, []), (.iconst 3, 1, []), (.iadd, 1, []), (.iaload, 1, []), (.aload_n 3, 1, []), (.invokestatic 118, 3, [197, 5, 4, 0, 1, 907]), (.istore 5, 2, []), (.aload_n 2, 1, []), (.aload_n 0, 1, []), (.iload 4, 2, []), (.iconst 1, 1, []), (.iadd, 1, []), (.iaload, 1, []), (.aload_n 0, 1, []), (.iload 4, 2, []), (.iconst 2, 1, []), (.iadd, 1, []), (.iaload, 1, []), (.aload_n 0, 1, []), (.iload 4, 2, []), (.iconst 3, 1, []), (.iadd, 1, []), (.iaload, 1, []), (.invokevirtual 121, 3, [154, 4, 2, 9, 1, 1564]), (.istore 6, 2, []), (.aload_n 2, 1, []), (.invokevirtual 93, 3, [110, 1, 2, 9, 1, 1380]), (.iload 5, 2, []), (.if_icmp .eq 5, 3, []), (.iconst 0, 1, []), (.ireturn, 1, [])]),
  (710, [true, true, true, true, true, true, true], [(.iload 5, 2, []), (.ifCond .ne 15, 3, []), (.aload_n 3, 1, []), (.iconst 0, 1, []), (.laload, 1, []), (.iload 6, 2, []), (.i2l, 1, []), (.lcmp, 1, []), (.ifCond .eq 5, 3, []), (.iconst 0, 1, []), (.ireturn, 1, [])]),
  (727, [true, true, true, true, true, false, false], [(.goto 998, 3, [])]),
  (730, [true, true, true, true, true, false, false], [(.aload_n 1, 1, []), (.aload_n 0, 1, []), (.iload 4, 2, []), (.iconst 1, 1, []), (.iadd, 1, []), (.iaload, 1, []), (.aload_n 0, 1, []), (.iload 4, 2, []), (.iconst 2, 1, []), (.iadd, 1, []), (.iaload, 1, []), (.aload_n 3, 1, []), (.invokestatic 122, 3, [198, 4, 4, 0, 1, 918]), (.istore 5, 2, []), (.aload_n 2, 1, []), (.aload_n 0, 1, []), (.iload 4, 2, []), (.iconst 1, 1, []), (.iadd, 1, []), (.iaload, 1, []), (.aload_n 0, 1, []), (.iload 4, 2, []), (.iconst 2, 1, []), (.iadd, 1, []), (.iaload, 1, []), (.invokevirtual 124, 3, [155, 3, 2, 9, 1, 1568]), (.istore 6, 2, []), (.aload_n 2, 1, []), (.invokevirtual 93, 3, [110, 1, 2, 9, 1, 1380]), (.iload 5, 2, []), (.if_icmp .eq 5, 3, []), (.iconst 0, 1, []), (.ireturn, 1, [])]),
  (778, [true, true, true, true, true, true, true], [(.iload 5, 2, []), (.ifCond .ne 15, 3, []), (.aload_n 3, 1, []), (.iconst 0, 1, []), (.laload, 1, []), (.iload 6, 2, []), (.i2l, 1, []), (.lcmp, 1, []), (.ifCond .eq 5, 3, []), (.iconst 0, 1, []), (.ireturn, 1, [])]),
  (795, [true, true, true, true, true, false, false], [(.goto 930, 3, [])]),
  (798, [true, true, true, true, true, false, false], [(.aload_n 1, 1, []), (.aload_n 0, 1, []), (.iload 4, 2, []), (.iconst 1, 1, []), (.iadd, 1, []), (.iaload, 1, []), (.aload_n 0, 1, []), (.iload 4, 2, []), (.iconst 2, 1, []), (.iadd, 1, []), (.iaload, 1, []), (.aload_n 0, 1, []), (.iload 4, 2, []), (.iconst 3, 1, []), (.iadd, 1, []), (.iaload, 1, []), (.aload_n 3, 1, []), (.invokestatic 125, 3, [199, 5, 4, 0, 1, 925]), (.istore 5, 2, []), (.aload_n 2, 1, []), (.aload_n 0, 1, []), (.iload 4, 2, []), (.iconst 1, 1, []), (.iadd, 1, []), (.iaload, 1, []), (.aload_n 0, 1, []), (.iload 4, 2, []), (.iconst 2, 1, []), (.iadd, 1, []), (.iaload, 1, []), (.aload_n 0, 1, []), (.iload 4, 2, []), (.iconst 3, 1, []), (.iadd, 1, []), (.iaload, 1, []), (.invokevirtual 127, 3, [157, 4, 2, 9, 1, 1572]), (.istore 6, 2, []), (.aload_n 2, 1, []), (.invokevirtual 93, 3, [110, 1, 2, 9, 1, 1380]), (.iload 5, 2, []), (.if_icmp .eq 5, 3, []), (.iconst 0, 1, []), (.ireturn, 1, [])]),
  (858, [true, true, true, true, true, true, true], [(.iload 5, 2, []), (.ifCond .ne 15, 3, []), (.aload_n 3, 1, []), (.iconst 0, 1, []), (.laload, 1, []), (.iload 6, 2, []), (.i2l, 1, []), (.lcmp, 1, []), (.ifCond .eq 5, 3, []), (.iconst 0, 1, []), (.ireturn, 1, [])]),
  (875, [true, true, true, true, true, false, false], [(.goto 850, 3, [])]),
  (878, [true, true, true, true, true, false, false], [(.aload_n 1, 1, []), (.aload_n 0, 1, []), (.iload 4, 2, []), (.iconst 1, 1, []), (.iadd, 1, []), (.iaload, 1, []), (.aload_n 0, 1, []), (.iload 4, 2, []), (.iconst 2, 1, []), (.iadd, 1, []), (.iaload, 1, []), (.aload_n 0, 1, []), (.iload 4, 2, []), (.iconst 3, 1, []), (.iadd, 1, []), (.iaload, 1, []), (.aload_n 3, 1, []), (.invokestatic 128, 3, [200, 5, 4, 0, 1, 941]), (.istore 5, 2, []), (.aload_n 2, 1, []), (.aload_n 0, 1, []), (.iload 4, 2, []), (.iconst 1, 1, []), (.iadd, 1, []), (.iaload, 1, []), (.aload_n 0, 1, []), (.iload 4, 2, []), (.iconst 2, 1, []), (.iadd, 1, []), (.iaload, 1, []), (.aload_n 0, 1, []), (.iload 4, 2, []), (.iconst 3, 1, []), (.iadd, 1, []), (.iaload, 1, []), (.invokevirtual 130, 3, [158, 4, 2, 9, 1, 1580]), (.istore 6, 2, []), (.aload_n 2, 1, []), (.invokevirtual 93, 3, [110, 1, 2, 9, 1, 1380]), (.iload 5, 2, []), (.if_icmp .eq 5, 3, []), (.iconst 0, 1, []), (.ireturn, 1, [])]),
  (938, [true, true, true, true, true, true, true], [(.iload 5, 2, []), (.ifCond .ne 22, 3, []), (.aload_n 3, 1, []), (.iconst 0, 1, []), (.laload, 1, []), (.iload 6, 2, []), (.ifCond .eq 7, 3, []), (.lconst 1, 1, []), (.goto 4, 3, [])]),
  (955, [true, true, true, true, true, false, false], [(.lconst 0, 1, [])]),
  (956, [true, true, true, true, true, false, false], [(.lcmp, 1, []), (.ifCond .eq 5, 3, []), (.iconst 0, 1, []), (.ireturn, 1, [])]),
  (962, [true, true, true, true, true, false, false], [(.goto 763, 3, [])]),
  (965, [true, true, true, true, true, false, false], [(.aload_n 1, 1, []), (.aload_n 0, 1, []), (.iload 4, 2, []), (.iconst 1, 1, []), (.iadd, 1, []), (.iaload, 1, []), (.aload_n 0, 1, []), (.iload 4, 2, []), (.iconst 2, 1, []), (.iadd, 1, []), (.iaload, 1, []), (.aload_n 0, 1, []), (.iload 4, 2, []), (.iconst 3, 1, []), (.iadd, 1, []), (.iaload, 1, []), (.aload_n 3, 1, []), (.invokestatic 131, 3, [201, 5, 4, 0, 1, 950]), (.istore 5, 2, []), (.aload_n 2, 1, []), (.aload_n 0, 1, []), (.iload 4, 2, []), (.iconst 1, 1, []), (.iadd, 1, []), (.iaload, 1, []), (.aload_n 0, 1, []), (.iload 4, 2, []), (.iconst 2, 1, []), (.iadd, 1, []), (.iaload, 1, []), (.aload_n 0, 1, []), (.iload 4, 2, []), (.iconst 3, 1, []), (.iadd, 1, []), (.iaload, 1, []), (.invokevirtual 133, 3, [159, 4, 2, 9, 1, 1584]), (.istore 6, 2, []), (.aload_n 2, 1, []), (.invokevirtual 93, 3, [110, 1, 2, 9, 1, 1380]), (.iload 5, 2, []), (.if_icmp .eq 5, 3, []), (.iconst 0, 1, []), (.ireturn, 1, [])]),
  (1025, [true, true, true, true, true, true, true], [(.iload 5, 2, []), (.ifCond .ne 15, 3, []), (.aload_n 3, 1, []), (.iconst 0, 1, []), (.laload, 1, []), (.iload 6, 2, []), (.i2l, 1, []), (.lcmp, 1, []), (.ifCond .eq 5, 3, []), (.iconst 0, 1, []), (.ireturn, 1, [])]),
  (1042, [true, true, true, true, true, false, false], [(.goto 683, 3, [])]),
  (1045, [true, true, true, true, true, false, false], [(.aload_n 1, 1, []), (.aload_n 0, 1, []), (.iload 4, 2, []), (.iconst 1, 1, []), (.iadd, 1, []), (.iaload, 1, []), (.aload_n 0, 1, []), (.iload 4, 2, []), (.iconst 2, 1, []), (.iadd, 1, []), (.iaload, 1, []), (.aload_n 0, 1, []), (.iload 4, 2, []), (.iconst 3, 1, []), (.iadd, 1, []), (.iaload, 1, []), (.aload_n 0, 1, []), (.iload 4, 2, []), (.iconst 4, 1, []), (.iadd, 1, []), (.iaload, 1, []), (.aload_n 3, 1, []), (.invokestatic 134, 3, [202, 6, 4, 0, 1, 958]), (.istore 5, 2, []), (.aload_n 2, 1, []), (.aload_n 0, 1, []), (.iload 4, 2, []), (.iconst 1, 1, []), (.iadd, 1, []), (.iaload, 1, []), (.aload_n 0, 1, []), (.iload 4, 2, []), (.iconst 2, 1, []), (.iadd, 1, []), (.iaload, 1, []), (.aload_n 0, 1, []), (.iload 4, 2, []), (.iconst 3, 1, []), (.iadd, 1, []), (.iaload, 1, []), (.aload_n 0, 1, []), (.iload 4, 2, []), (.iconst 4, 1, []), (.iadd, 1, []), (.iaload, 1, []), (.invokevirtual 136, 3, [161, 5, 2, 9, 1, 1588]), (.istore 6, 2, []), (.aload_n 2, 1, []), (.invokevirtual 93, 3, [110, 1, 2, 9, 1, 1380]), (.iload 5, 2, []), (.if_icmp .eq 5, 3, []), (.iconst 0, 1, []), (.ireturn, 1, [])]),
  (1117, [true, true, true, true, true, true, true], [(.iload 5, 2, []), (.ifCond .ne 15, 3, []), (.aload_n 3, 1, []), (.iconst 0, 1, []), (.laload, 1, []), (.iload 6, 2, []), (.i2l, 1, []), (.lcmp, 1, []), (.ifCond .eq 5, 3, []), (.iconst 0, 1, []), (.ireturn, 1, [])]),
  (1134, [true, true, true, true, true, false, false], [(.goto 591, 3, [])]),
  (1137, [true, true, true, true, true, false, false], [(.aload_n 1, 1, []), (.aload_n 0, 1, []), (.iload 4, 2, []), (.iconst 1, 1, []), (.iadd, 1, []), (.iaload, 1, []), (.aload_n 3, 1, []), (.invokestatic 137, 3, [203, 3, 4, 0, 1, 977]), (.istore 5, 2, []), (.aload_n 2, 1, []), (.aload_n 0, 1, []), (.iload 4, 2, []), (.iconst 1, 1, []), (.iadd, 1, []), (.iaload, 1, []), (.invokevirtual 139, 3, [169, 2, 2, 9, 1, 1596]), (.istore 6, 2, []), (.aload_n 2, 1, []), (.invokevirtual 93, 3, [110, 1, 2, 9, 1, 1380]), (.iload 5, 2, []), (.if_icmp .eq 5, 3, []), (.iconst 0, 1, []), (.ireturn, 1, [])]),
  (1173, [true, true, true, true, true, true, true], [(.iload 5, 2, []), (.ifCond .ne 15, 3, []), (.aload_n 3, 1, []), (.iconst 0, 1, []), (.laload, 1, []), (.iload 6, 2, []), (.i2l, 1, []), (.lcmp, 1, []), (.ifCond .eq 5, 3, []), (.iconst 0, 1, []), (.ireturn, 1, [])]),
  (1190, [true, true, true, true, true, false, false], [(.goto 535, 3, [])]),
  (1193, [true, true, true, true, true, false, false], [(.aload_n 1, 1, []), (.aload_n 0, 1, []), (.iload 4, 2, []), (.iconst 1, 1, []), (.iadd, 1, []), (.iaload, 1, []), (.aload_n 0, 1, []), (.iload 4, 2, []), (.iconst 2, 1, []), (.iadd, 1, []), (.iaload, 1, []), (.aload_n 3, 1, []), (.invokestatic 140, 3, [204, 4, 4, 0, 1, 1042]), (.istore 5, 2, []), (.aload_n 2, 1, []), (.aload_n 0, 1, []), (.iload 4, 2, []), (.iconst 1, 1, []), (.iadd, 1, []), (.iaload, 1, []), (.aload_n 0, 1, []), (.iload 4, 2, []), (.iconst 2, 1, []), (.iadd, 1, []), (.iaload, 1, []), (.invokevirtual 142, 3, [170, 3, 2, 9, 1, 1628]), (.istore 6, 2, []), (.aload_n 2, 1, []), (.invokevirtual 93, 3, [110, 1, 2, 9, 1, 1380]), (.iload 5, 2, []), (.if_icmp .eq 5, 3, []), (.iconst 0, 1, []), (.ireturn, 1, [])]),
  (1241, [true, true, true, true, true, true, true], [(.iload 5, 2, []), (.ifCond .ne 15, 3, []), (.aload_n 3, 1, []), (.iconst 0, 1, []), (.laload, 1, []), (.iload 6, 2, []), (.i2l, 1, []), (.lcmp, 1, []), (.ifCond .eq 5, 3, []), (.iconst 0, 1, []), (.ireturn, 1, [])]),
  (1258, [true, true, true, true, true, false, false], [(.goto 467, 3, [])]),
  (1261, [true, true, true, true, true, false, false], [(.aload_n 1, 1, []), (.aload_n 0, 1, []), (.iload 4, 2, []), (.iconst 1, 1, []), (.iadd, 1, []), (.iaload, 1, []), (.aload_n 0, 1, []), (.iload 4, 2, []), (.iconst 2, 1, []), (.iadd, 1, []), (.iaload, 1, []), (.aload_n 0, 1, []), (.iload 4, 2, []), (.iconst 3, 1, []), (.iadd, 1, []), (.iaload, 1, []), (.aload_n 3, 1, []), (.invokestatic 143, 3, [205, 5, 4, 0, 1, 1070]), (.istore 5, 2, []), (.aload_n 2, 1, []), (.aload_n 0, 1, []), (.iload 4, 2, []), (.iconst 1, 1, []), (.iadd, 1, []), (.iaload, 1, []), (.aload_n 0, 1, []), (.iload 4, 2, []), (.iconst 2, 1, []), (.iadd, 1, []), (.iaload, 1, []), (.aload_n 0, 1, []), (.iload 4, 2, []), (.iconst 3, 1, []), (.iadd, 1, []), (.iaload, 1, []), (.invokevirtual 145, 3, [171, 4, 2, 9, 1, 1632]), (.istore 6, 2, []), (.aload_n 2, 1, []), (.invokevirtual 93, 3, [110, 1, 2, 9, 1, 1380]), (.iload 5, 2, []), (.if_icmp .eq 5, 3, []), (.iconst 0, 1, []), (.ireturn, 1, [])]),
  (1321, [true, true, true, true, true, true, true], [(.iload 5, 2, []), (.ifCond .ne 15, 3, []), (.aload_n 3, 1, []), (.iconst 0, 1, []), (.laload, 1, []), (.iload 6, 2, []), (.i2l, 1, []), (.lcmp, 1, []), (.ifCond .eq 5, 3, []), (.iconst 0, 1, []), (.ireturn, 1, [])]),
  (1338, [true, true, true, true, true, false, false], [(.goto 387, 3, [])]),
  (1341, [true, true, true, true, true, false, false], [(.aload_n 1, 1, []), (.aload_n 0, 1, []), (.iload 4, 2, []), (.iconst 1, 1, []), (.iadd, 1, []), (.iaload, 1, []), (.aload_n 3, 1, []), (.invokestatic 146, 3, [206, 3, 4, 0, 1, 1082]), (.istore 5, 2, []), (.aload_n 2, 1, []), (.aload_n 0, 1, []), (.iload 4, 2, []), (.iconst 1, 1, []), (.iadd, 1, []), (.iaload, 1, []), (.invokevirtual 148, 3, [172, 2, 2, 9, 1, 1636]), (.istore 6, 2, []), (.aload_n 2, 1, []), (.invokevirtual 93, 3, [110, 1, 2, 9, 1, 1380]), (.iload 5, 2, []), (.if_icmp .eq 5, 3, []), (.iconst 0, 1, []), (.ireturn, 1, [])]),
  (1377, [true, true, true, true, true, true, true], [(.iload 5, 2, []), (.ifCond .ne 15, 3, []), (.aload_n 3, 1, []), (.iconst 0, 1, []), (.laload, 1, []), (.iload 6, 2, []), (.i2l, 1, []), (.lcmp, 1, []), (.ifCond .eq 5, 3, []), (.iconst 0, 1, []), (.ireturn, 1, [])]),
  (1394, [true, true, true, true, true, false, false], [(.goto 331, 3, [])]),
  (1397, [true, true, true, true, true, false, false], [(.aload_n 1, 1, []), (.aload_n 0, 1, []), (.iload 4, 2, []), (.iconst 1, 1, []), (.iadd, 1, []), (.iaload, 1, []), (.aload_n 0, 1, []), (.iload 4, 2, []), (.iconst 2, 1, []), (.iadd, 1, []), (.iaload, 1, []), (.aload_n 0, 1, []), (.iload 4, 2, []), (.iconst 3, 1, []), (.iadd, 1, []), (.iaload, 1, []), (.aload_n 3, 1, []), (.invokestatic 149, 3, [207, 5, 4, 0, 1, 1094]), (.istore 5, 2, []), (.aload_n 2, 1, []), (.aload_n 0, 1, []), (.iload 4, 2, []), (.iconst 1, 1, []), (.iadd, 1, []), (.iaload, 1, []), (.aload_n 0, 1, []), (.iload 4, 2, []), (.iconst 2, 1, []), (.iadd, 1, []), (.iaload, 1, []), (.aload_n 0, 1, []), (.iload 4, 2, []), (.iconst 3, 1, []), (.iadd, 1, []), (.iaload, 1, []), (.invokevirtual 151, 3, [173, 4, 2, 9, 1, 1640]), (.istore 6, 2, []), (.aload_n 2, 1, []), (.invokevirtual 93, 3, [110, 1, 2, 9, 1, 1380]), (.iload 5, 2, []), (.if_icmp .eq 5, 3, []), (.iconst 0, 1, []), (.ireturn, 1, [])]),
  (1457, [true, true, true, true, true, true, true], [(.iload 5, 2, []), (.ifCond .ne 15, 3, []), (.aload_n 3, 1, []), (.iconst 0, 1, []), (.laload, 1, []), (.iload 6, 2, []), (.i2l, 1, []), (.lcmp, 1, []), (.ifCond .eq 5, 3, []), (.iconst 0, 1, []), (.ireturn, 1, [])]),
  (1474, [true, true, true, true, true, false, false], [(.goto 251, 3, [])]),
  (1477, [true, true, true, true, true, false, false], [(.aload_n 1, 1, []), (.invokevirtual 152, 3, [93, 1, 2, 8, 1, 463]), (.aload_n 2, 1, []), (.invokevirtual 155, 3, [175, 1, 2, 9, 1, 1644]), (.if_icmp .eq 240, 3, []), (.iconst 0, 1, []), (.ireturn, 1, [])]),
  (1490, [true, true, true, true, true, false, false], [(.aload_n 1, 1, []), (.aload_n 0, 1, []), (.iload 4, 2, []), (.iconst 1, 1, []), (.iadd, 1, []), (.iaload, 1, []), (.aload_n 3, 1, []), (.invokestatic 156, 3, [208, 3, 4, 0, 1, 1105]), (.istore 5, 2, []), (.aload_n 2, 1, []), (.aload_n 0, 1, []), (.iload 4, 2, []), (.iconst 1, 1, []), (.iadd, 1, []), (.iaload, 1, []), (.invokevirtual 158, 3, [176, 2, 2, 9, 1, 1652]), (.istore 6, 2, []), (.aload_n 2, 1, []), (.invokevirtual 93, 3, [110, 1, 2, 9, 1, 1380]), (.iload 5, 2, []), (.if_icmp .eq 5, 3, []), (.iconst 0, 1, []), (.ireturn, 1, [])]),
  (1526, [true, true, true, true, true, true, true], [(.iload 5, 2, []), (.ifCond .ne 15, 3, []), (.aload_n 3, 1, []), (.iconst 0, 1, []), (.laload, 1, []), (.iload 6, 2, []), (.i2l, 1, []), (.lcmp, 1, []), (.ifCond .eq 5, 3, []), (.iconst 0, 1, []), (.ireturn, 1, [])]),
  (1543, [true, true, true, true, true, false, false], [(.goto 182, 3, [])]),
  (1546, [true, true, true, true, true, false, false], [(.aload_n 1, 1, []), (.aload_n 0, 1, []), (.iload 4, 2, []), (.iconst 1, 1, []), (.iadd, 1, []), (.iaload, 1, []), (.aload_n 0, 1, []), (.iload 4, 2, []), (.iconst 2, 1, []), (.iadd, 1, []), (.iaload, 1, []), (.aload_n 0, 1, []), (.iload 4, 2, []), (.iconst 3, 1, []), (.iadd, 1, []), (.iaload, 1, []), (.aload_n 3, 1, []), (.invokestatic 159, 3, [209, 5, 4, 0, 1, 1113]), (.istore 5, 2, []), (.aload_n 2, 1, []), (.aload_n 0, 1, []), (.iload 4, 2, []), (.iconst 1, 1, []), (.iadd, 1, []), (.iaload, 1, []), (.aload_n 0, 1, []), (.iload 4, 2, []), (.iconst 2, 1, []), (.iadd, 1, []), (.iaload, 1, []), (.aload_n 0, 1, []), (.iload 4, 2, []), (.iconst 3, 1, []), (.iadd, 1, []), (.iaload, 1, []), (.invokevirtual 161, 3, [177, 4, 2, 9, 1, 1656]), (.istore 6, 2, []), (.aload_n 2, 1, []), (.invokevirtual 93, 3, [110, 1, 2, 9, 1, 1380]), (.iload 5, 2, []), (.if_icmp .eq 5, 3, []), (.iconst 0, 1, []), (.ireturn, 1, [])]),
  (1606, [true, true, true, true, true, true, true], [(.iload 5, 2, []), (.ifCond .ne 22, 3, []), (.aload_n 3, 1, []), (.iconst 0, 1, []), (.laload, 1, []), (.iload 6, 2, []), (.ifCond .eq 7, 3, []), (.lconst 1, 1, []), (.goto 4, 3, [])]),
  (1623, [true, true, true, true, true, false, false], [(.lconst 0, 1, [])]),
  (1624, [true, true, true, true, true, false, false], [(.lcmp, 1, []), (.ifCond .eq 5, 3, []), (.iconst 0, 1, []), (.ireturn, 1, [])]),
  (1630, [true, true, true, true, true, false, false], [(.goto 95, 3, [])]),
  (1633, [true, true, true, true, true, false, false], [(.aload_n 1, 1, []), (.aload_n 0, 1, []), (.iload 4, 2, []), (.iconst 1, 1, []), (.iadd, 1, []), (.iaload, 1, []), (.aload_n 0, 1, []), (.iload 4, 2, []), (.iconst 2, 1, []), (.iadd, 1, []), (.iaload, 1, []), (.aload_n 3, 1, []), (.invokestatic 162, 3, [210, 4, 4, 0, 1, 1120]), (.istore 5, 2, []), (.aload_n 2, 1, []), (.aload_n 0, 1, []), (.iload 4, 2, []), (.iconst 1, 1, []), (.iadd, 1, []), (.iaload, 1, []), (.aload_n 0, 1, []), (.iload 4, 2, []), (.iconst 2, 1, []), (.iadd, 1, []), (.iaload, 1, []), (.invokevirtual 164, 3, [180, 3, 2, 9, 1, 1660]), (.istore 6, 2, []), (.aload_n 2, 1, []), (.invokevirtual 93, 3, [110, 1, 2, 9, 1, 1380]), (.iload 5, 2, []), (.if_icmp .eq 5, 3, []), (.iconst 0, 1, []), (.ireturn, 1, [])]),
  (1681, [true, true, true, true, true, true, true], [(.iload 5, 2, []), (.ifCond .ne 15, 3, []), (.aload_n 3, 1, []), (.iconst 0, 1, []), (.laload, 1, []), (.iload 6, 2, []), (.i2l, 1, []), (.lcmp, 1, []), (.ifCond .eq 5, 3, []), (.iconst 0, 1, []), (.ireturn, 1, [])]),
  (1698, [true, true, true, true, true, false, false], [(.goto 27, 3, [])]),
  (1701, [true, true, true, true, true, false, false], [(.aload_n 1, 1, []), (.invokevirtual 165, 3, [97, 1, 2, 8, 0, 482]), (.aload_n 2, 1, []), (.invokevirtual 168, 3, [183, 1, 2, 9, 0, 1671]), (.goto 16, 3, [])]),
  (1712, [true, true, true, true, true, false, false], [(.aload_n 1, 1, []), (.invokevirtual 169, 3, [98, 1, 2, 8, 1, 491]), (.aload_n 2, 1, []), (.invokevirtual 173, 3, [184, 1, 2, 9, 1, 1679]), (.if_icmp .eq 5, 3, []), (.iconst 0, 1, []), (.ireturn, 1, [])]),
  (1725, [true, true, true, true, true, false, false], [(.iinc 4 6, 3, []), (.goto (-1705), 3, [])]),
  (1731, [false, false, false, false, false, false, false], [(.iconst 1, 1, []), (.ireturn, 1, [])])]
end
noncomputable def z_bs : List z_B := [z_b0, z_b1, z_b2, z_b3, z_b4, z_b5, z_b6, z_b7, z_b8, z_b9, z_b10, z_b11, z_b12, z_b13, z_b14, z_b15, z_b16, z_b17, z_b18, z_b19, z_b20, z_b21, z_b22, z_b23, z_b24, z_b25, z_b26, z_b27, z_b28, z_b29, z_b30, z_b31, z_b32, z_b33, z_b34, z_b35, z_b36, z_b37, z_b38, z_b39, z_b40, z_b41, z_b42, z_b43, z_b44, z_b45, z_b46, z_b47, z_b48, z_b49, z_b50, z_b51, z_b52, z_b53, z_b54, z_b55, z_b56, z_b57, z_b58, z_b59, z_b60, z_b61, z_b62, z_b63, z_b64, z_b65, z_b66, z_b67, z_b68, z_b69, z_b70, z_b71, z_b72, z_b73, z_b74, z_b75, z_b76, z_b77, z_b78, z_b79, z_b80, z_b81, z_b82, z_b83, z_b84, z_b85, z_b86, z_b87, z_b88, z_b89, z_b90, z_b91, z_b92, z_b93, z_b94, z_b95, z_b96, z_b97, z_b98, z_b99, z_b100, z_b101, z_b102, z_b103, z_b104, z_b105, z_b106, z_b107, z_b108, z_b109, z_b110, z_b111, z_b112, z_b113, z_b114, z_b115, z_b116, z_b117, z_b118, z_b119, z_b120, z_b121, z_b122, z_b123, z_b124, z_b125, z_b126, z_b127, z_b128, z_b129, z_b130, z_b131, z_b132, z_b133, z_b134, z_b135, z_b136, z_b137, z_b138, z_b139, z_b140, z_b141, z_b142, z_b143, z_b144, z_b145, z_b146, z_b147, z_b148, z_b149, z_b150, z_b151, z_b152, z_b153, z_b154, z_b155, z_b156, z_b157, z_b158, z_b159, z_b160, z_b161, z_b162, z_b163, z_b164, z_b165, z_b166, z_b167, z_b168, z_b169, z_b170, z_b171, z_b172, z_b173, z_b174, z_b175, z_b176, z_b177, z_b178, z_b179, z_b180, z_b181, z_b182, z_b183, z_b184, z_b185, z_b186, z_b187, z_b188, z_b189, z_b190, z_b191, z_b192, z_b193, z_b194, z_b195, z_b196, z_b197, z_b198, z_b199, z_b200, z_b201, z_b202, z_b203, z_b204, z_b205, z_b206, z_b207, z_b208, z_b209, z_b210, z_b211]
/-- name, bytes, locals, answer, class -/
noncomputable def z_md : List (MethodName × ByteArray × Nat × Option FieldType × Nat × List (Nat × Int32)) := [
  (⟨"SlipRoom$Law", "holds", "([III)Z"⟩, prog_2_method_2_code, 5, (some .boolean), 0, []),
  (⟨"SlipRoom$Law", "obey", "(I)V"⟩, prog_2_method_3_code, 4, none, 0, []),
  (⟨"SlipRoom$Law", "apply", "(III)I"⟩, prog_2_method_4_code, 3, (some .int), 0, []),
  (⟨"SlipRoom$Law", "push", "(I)V"⟩, prog_2_method_5_code, 2, none, 0, []),
  (⟨"SlipRoom$Law", "pop", "()I"⟩, prog_2_method_6_code, 1, (some .int), 0, []),
  (⟨"SlipRoom$Ledger", "clear", "()V"⟩, prog_3_method_2_code, 1, none, 1, []),
  (⟨"SlipRoom$Ledger", "copy", "(LSlipRoom$Ledger;)V"⟩, prog_3_method_3_code, 2, none, 1, []),
  (⟨"SlipRoom$Ledger", "isRead", "(II)Z"⟩, prog_3_method_4_code, 3, (some .boolean), 1, []),
  (⟨"SlipRoom$Ledger", "mark", "(IIII)V"⟩, prog_3_method_5_code, 5, none, 1, []),
  (⟨"SlipRoom$Ledger", "openedPages", "(I)I"⟩, prog_3_method_6_code, 7, (some .int), 1, []),
  (⟨"SlipRoom$Ledger", "pagesInARow", "(II)I"⟩, prog_3_method_7_code, 4, (some .int), 1, []),
  (⟨"SlipRoom$Ledger", "onlyTheEnds", "(II)Z"⟩, prog_3_method_8_code, 3, (some .boolean), 1, []),
  (⟨"SlipRoom$Ledger", "enterLoan", "(IIIIII)V"⟩, prog_3_method_9_code, 8, none, 1, []),
  (⟨"SlipRoom$Ledger", "slipsIn", "(I)I"⟩, prog_3_method_10_code, 4, (some .int), 1, []),
  (⟨"SlipRoom$Ledger", "moveSlips", "(III)I"⟩, prog_3_method_11_code, 8, (some .int), 1, []),
  (⟨"SlipRoom$Ledger", "enterLook", "(IIII)I"⟩, prog_3_method_12_code, 6, (some .int), 1, []),
  (⟨"SlipRoom$Ledger", "looksIn", "(I)I"⟩, prog_3_method_13_code, 4, (some .int), 1, []),
  (⟨"SlipRoom$Ledger", "lookBook", "(I)I"⟩, prog_3_method_14_code, 2, (some .int), 1, []),
  (⟨"SlipRoom$Ledger", "lookHour", "(I)I"⟩, prog_3_method_15_code, 2, (some .int), 1, []),
  (⟨"SlipRoom$Ledger", "lookColour", "(I)I"⟩, prog_3_method_16_code, 2, (some .int), 1, []),
  (⟨"SlipRoom$Ledger", "lookPage", "(I)I"⟩, prog_3_method_17_code, 2, (some .int), 1, []),
  (⟨"SlipRoom$Ledger", "enterWish", "(II)I"⟩, prog_3_method_18_code, 3, (some .int), 1, []),
  (⟨"SlipRoom$Parser", "parse", "(ILSlipRoom$Plan;)I"⟩, prog_4_method_2_code, 4, (some .int), 2, []),
  (⟨"SlipRoom$Parser", "faultPlace", "()I"⟩, prog_4_method_3_code, 1, (some .int), 2, []),
  (⟨"SlipRoom$Parser", "fail", "(I)V"⟩, prog_4_method_4_code, 2, none, 2, []),
  (⟨"SlipRoom$Parser", "bookClause", "()V"⟩, prog_4_method_5_code, 2, none, 2, []),
  (⟨"SlipRoom$Parser", "readerClause", "()V"⟩, prog_4_method_6_code, 2, none, 2, []),
  (⟨"SlipRoom$Parser", "passWord", "(LSlipRoom$Word;)Z"⟩, prog_4_method_7_code, 3, (some .boolean), 2, []),
  (⟨"SlipRoom$Parser", "passSign", "(I)V"⟩, prog_4_method_8_code, 2, none, 2, []),
  (⟨"SlipRoom$Parser", "takeNumber", "(II)I"⟩, prog_4_method_9_code, 4, (some .int), 2, []),
  (⟨"SlipRoom$Parser", "level", "(II)V"⟩, prog_4_method_10_code, 7, none, 2, []),
  (⟨"SlipRoom$Parser", "operand", "(II)V"⟩, prog_4_method_11_code, 3, none, 2, []),
  (⟨"SlipRoom$Parser", "exprWithin", "(I)V"⟩, prog_4_method_12_code, 2, none, 2, []),
  (⟨"SlipRoom$Parser", "passNots", "()I"⟩, prog_4_method_13_code, 2, (some .int), 2, []),
  (⟨"SlipRoom$Parser", "takePart", "()V"⟩, prog_4_method_14_code, 1, none, 2, []),
  (⟨"SlipRoom$Plan", "clear", "()V"⟩, prog_5_method_2_code, 1, none, 3, []),
  (⟨"SlipRoom$Plan", "putCode", "(I)V"⟩, prog_5_method_3_code, 2, none, 3, []),
  (⟨"SlipRoom$Plan", "partBegin", "(II)I"⟩, prog_5_method_4_code, 4, (some .int), 3, []),
  (⟨"SlipRoom$Settling", "weigh", "([III)V"⟩, prog_6_method_2_code, 5, none, 4, []),
  (⟨"SlipRoom$Settling", "weighSet", "([III)V"⟩, prog_6_method_3_code, 6, none, 4, []),
  (⟨"SlipRoom$Settling", "looksFrom", "([III)I"⟩, prog_6_method_4_code, 7, (some .int), 4, []),
  (⟨"SlipRoom$Settling", "leftBy", "([IIII)I"⟩, prog_6_method_5_code, 6, (some .int), 4, []),
  (⟨"SlipRoom$Sharing", "gather", "(LSlipRoom$Plan;LSlipRoom$Ledger;I)V"⟩, prog_7_method_2_code, 6, none, 5, []),
  (⟨"SlipRoom$Sharing", "waysInAll", "()I"⟩, prog_7_method_3_code, 1, (some .int), 5, []),
  (⟨"SlipRoom$Sharing", "readersOf", "(I)I"⟩, prog_7_method_4_code, 4, (some .int), 5, []),
  (⟨"SlipRoom$Sharing", "endOf", "(IZ)I"⟩, prog_7_method_5_code, 7, (some .int), 5, []),
  (⟨"SlipRoom$Sharing", "movedLooks", "()I"⟩, prog_7_method_6_code, 3, (some .int), 5, []),
  (⟨"SlipRoom$Sharing", "allLooks", "()I"⟩, prog_7_method_7_code, 1, (some .int), 5, []),
  (⟨"SlipRoom$Sharing", "enter", "(LSlipRoom$Ledger;I)V"⟩, prog_7_method_8_code, 4, none, 5, []),
  (⟨"SlipRoom$Sharing", "addLoan", "(III)V"⟩, prog_7_method_9_code, 6, none, 5, []),
  (⟨"SlipRoom$Sharing", "findFits", "(I)V"⟩, prog_7_method_10_code, 6, none, 5, []),
  (⟨"SlipRoom$Sharing", "mayBeFirst", "(II)Z"⟩, prog_7_method_11_code, 3, (some .boolean), 5, []),
  (⟨"SlipRoom$Sharing", "mayFollow", "(III)Z"⟩, prog_7_method_12_code, 8, (some .boolean), 5, []),
  (⟨"SlipRoom$Sharing", "lastIn", "(I)I"⟩, prog_7_method_13_code, 3, (some .int), 5, []),
  (⟨"SlipRoom$Sharing", "split", "(I)V"⟩, prog_7_method_14_code, 3, none, 5, []),
  (⟨"SlipRoom$Sharing", "addSharer", "(I)V"⟩, prog_7_method_15_code, 5, none, 5, []),
  (⟨"SlipRoom$Sharing", "happens", "(II)Z"⟩, prog_7_method_16_code, 3, (some .boolean), 5, []),
  (⟨"SlipRoom$Sharing", "mayHave", "(II)Z"⟩, prog_7_method_17_code, 5, (some .boolean), 5, []),
  (⟨"SlipRoom$Sharing", "holds", "(II)Z"⟩, prog_7_method_18_code, 5, (some .boolean), 5, []),
  (⟨"SlipRoom$Tokens", "begin", "(I)V"⟩, prog_8_method_2_code, 2, none, 6, []),
  (⟨"SlipRoom$Tokens", "stop", "()V"⟩, prog_8_method_3_code, 1, none, 6, []),
  (⟨"SlipRoom$Tokens", "advance", "()V"⟩, prog_8_method_4_code, 1, none, 6, []),
  (⟨"SlipRoom$Tokens", "joins", "()I"⟩, prog_8_method_5_code, 1, (some .int), 6, []),
  (⟨"SlipRoom$Tokens", "operation", "()I"⟩, prog_8_method_6_code, 1, (some .int), 6, []),
  (⟨"SlipRoom$Tokens", "behindBlanks", "()I"⟩, prog_8_method_7_code, 2, (some .int), 6, []),
  (⟨"SlipRoom$Tokens", "passLetters", "()V"⟩, prog_8_method_8_code, 1, none, 6, []),
  (⟨"SlipRoom$Tokens", "passDigits", "()V"⟩, prog_8_method_9_code, 1, none, 6, []),
  (⟨"SlipRoom$Tokens", "isLetter", "(I)Z"⟩, prog_8_method_10_code, 1, (some .boolean), 6, []),
  (⟨"SlipRoom$Tokens", "isDigit", "(I)Z"⟩, prog_8_method_11_code, 1, (some .boolean), 6, []),
  (⟨"SlipRoom$Tokens", "isSign", "(I)Z"⟩, prog_8_method_12_code, 1, (some .boolean), 6, []),
  (⟨"SlipRoom$Turns", "clear", "()V"⟩, prog_9_method_2_code, 1, none, 7, []),
  (⟨"SlipRoom$Turns", "arrange", "(LSlipRoom$Ledger;)I"⟩, prog_9_method_3_code, 2, (some .int), 7, []),
  (⟨"SlipRoom$Turns", "place", "(LSlipRoom$Ledger;IIII)V"⟩, prog_9_method_4_code, 9, none, 7, []),
  (⟨"SlipRoom$Word", "find", "([BII)LSlipRoom$Word;"⟩, prog_10_method_4_code, 6, (some (.object "SlipRoom$Word")), 10, []),
  (⟨"SlipRoom", "feed", "(IIIII)I"⟩, prog_1_method_2_code, 6, (some .int), 8, []),
  (⟨"SlipRoom", "room", "(I)I"⟩, prog_1_method_3_code, 4, (some .int), 8, []),
  (⟨"SlipRoom", "fault", "()I"⟩, prog_1_method_4_code, 1, (some .int), 8, []),
  (⟨"SlipRoom", "count", "(I)I"⟩, prog_1_method_5_code, 2, (some .int), 8, []),
  (⟨"SlipRoom", "book", "(II)I"⟩, prog_1_method_6_code, 3, (some .int), 8, []),
  (⟨"SlipRoom", "reader", "(II)I"⟩, prog_1_method_7_code, 3, (some .int), 8, []),
  (⟨"SlipRoom", "loan", "(IIII)I"⟩, prog_1_method_8_code, 8, (some .int), 8, []),
  (⟨"SlipRoom", "lent", "(II)I"⟩, prog_1_method_9_code, 3, (some .int), 8, []),
  (⟨"SlipRoom", "drop", "(III)I"⟩, prog_1_method_10_code, 4, (some .int), 8, []),
  (⟨"SlipRoom", "slip", "(II)I"⟩, prog_1_method_11_code, 3, (some .int), 8, []),
  (⟨"SlipRoom", "read", "(III)I"⟩, prog_1_method_12_code, 5, (some .int), 8, []),
  (⟨"SlipRoom", "has", "(III)Z"⟩, prog_1_method_13_code, 4, (some .boolean), 8, []),
  (⟨"SlipRoom", "ahead", "(III)I"⟩, prog_1_method_14_code, 6, (some .int), 8, []),
  (⟨"SlipRoom", "look", "(IIII)I"⟩, prog_1_method_15_code, 6, (some .int), 8, []),
  (⟨"SlipRoom", "ways", "(I)I"⟩, prog_1_method_16_code, 2, (some .int), 8, []),
  (⟨"SlipRoom", "whose", "(II)I"⟩, prog_1_method_17_code, 4, (some .int), 8, []),
  (⟨"SlipRoom", "ends", "(III)I"⟩, prog_1_method_18_code, 4, (some .int), 8, []),
  (⟨"SlipRoom", "moved", "(I)I"⟩, prog_1_method_19_code, 2, (some .int), 8, []),
  (⟨"SlipRoom", "wish", "(III)I"⟩, prog_1_method_20_code, 4, (some .int), 8, []),
  (⟨"SlipRoom", "waiting", "()I"⟩, prog_1_method_21_code, 1, (some .int), 8, []),
  (⟨"SlipRoom", "turn", "(I)I"⟩, prog_1_method_22_code, 2, (some .int), 8, []),
  (⟨"SlipRoom", "tale", "(III)Z"⟩, prog_1_method_23_code, 4, (some .boolean), 8, []),
  (⟨"SlipRoom", "settle", "(II)I"⟩, prog_1_method_24_code, 3, (some .int), 8, []),
  (⟨"SlipRoom", "image", "()V"⟩, prog_1_method_25_code, 1, none, 8, []),
  (⟨"SlipRoom", "restore", "()Z"⟩, prog_1_method_26_code, 1, (some .boolean), 8, []),
  (⟨"SlipRoom", "putBytes", "(I)V"⟩, prog_1_method_27_code, 3, none, 8, []),
  (⟨"SlipRoom", "requireBook", "(I)V"⟩, prog_1_method_28_code, 2, none, 8, []),
  (⟨"SlipRoom", "requireReader", "(I)V"⟩, prog_1_method_29_code, 2, none, 8, []),
  (⟨"SlipRoom", "refused", "(I)I"⟩, prog_1_method_30_code, 2, (some .int), 8, []),
  (⟨"SlipRoom", "cellOf", "(II)I"⟩, prog_1_method_31_code, 2, (some .int), 8, []),
  (⟨"SlipRoom", "onlyOne", "(I)I"⟩, prog_1_method_32_code, 3, (some .int), 8, []),
  (⟨"SlipRoom", "mayLend", "(IIII)Z"⟩, prog_1_method_33_code, 5, (some .boolean), 8, []),
  (⟨"SlipRoom", "beginOf", "(II)I"⟩, prog_1_method_34_code, 4, (some .int), 8, []),
  (⟨"SlipRoom", "readLoan", "(IIIII)I"⟩, prog_1_method_35_code, 8, (some .int), 8, []),
  (⟨"SlipRoom", "readHour", "(IIIII)I"⟩, prog_1_method_36_code, 11, (some .int), 8, []),
  (⟨"SlipRoom", "stopsBehind", "(IIIII)Z"⟩, prog_1_method_37_code, 6, (some .boolean), 8, []),
  (⟨"SlipRoomModel", "thrown", "()I"⟩, prog_12_method_2_code, 1, (some .int), 9, []),
  (⟨"SlipRoomModel", "fail", "(I)I"⟩, prog_12_method_3_code, 2, (some .int), 9, []),
  (⟨"SlipRoomModel", "isIn", "(III)Z"⟩, prog_12_method_4_code, 3, (some .boolean), 9, []),
  (⟨"SlipRoomModel", "isBook", "(I)Z"⟩, prog_12_method_5_code, 2, (some .boolean), 9, []),
  (⟨"SlipRoomModel", "isReader", "(I)Z"⟩, prog_12_method_6_code, 2, (some .boolean), 9, []),
  (⟨"SlipRoomModel", "feed", "(IIIII)I"⟩, prog_12_method_7_code, 8, (some .int), 9, []),
  (⟨"SlipRoomModel", "byteAt", "(I)I"⟩, prog_12_method_8_code, 2, (some .int), 9, []),
  (⟨"SlipRoomModel", "isLetter", "(I)Z"⟩, prog_12_method_9_code, 1, (some .boolean), 9, []),
  (⟨"SlipRoomModel", "isDigit", "(I)Z"⟩, prog_12_method_10_code, 1, (some .boolean), 9, []),
  (⟨"SlipRoomModel", "isMark", "(I)Z"⟩, prog_12_method_11_code, 1, (some .boolean), 9, []),
  (⟨"SlipRoomModel", "stepOn", "()V"⟩, prog_12_method_12_code, 2, none, 9, []),
  (⟨"SlipRoomModel", "wrong", "(I)V"⟩, prog_12_method_13_code, 2, none, 9, []),
  (⟨"SlipRoomModel", "is", "(Ljava/lang/String;)Z"⟩, prog_12_method_14_code, 4, (some .boolean), 9, []),
  (⟨"SlipRoomModel", "isMarked", "(I)Z"⟩, prog_12_method_15_code, 2, (some .boolean), 9, []),
  (⟨"SlipRoomModel", "which", "([Ljava/lang/String;)I"⟩, prog_12_method_16_code, 3, (some .int), 9, []),
  (⟨"SlipRoomModel", "passes", "(Ljava/lang/String;)Z"⟩, prog_12_method_17_code, 3, (some .boolean), 9, []),
  (⟨"SlipRoomModel", "mark", "(I)V"⟩, prog_12_method_18_code, 2, none, 9, []),
  (⟨"SlipRoomModel", "readNumber", "(II)I"⟩, prog_12_method_19_code, 4, (some .int), 9, []),
  (⟨"SlipRoomModel", "lay", "(I)V"⟩, prog_12_method_20_code, 2, none, 9, []),
  (⟨"SlipRoomModel", "readPart", "(I)V"⟩, prog_12_method_21_code, 3, none, 9, []),
  (⟨"SlipRoomModel", "readProduct", "(I)V"⟩, prog_12_method_22_code, 3, none, 9, []),
  (⟨"SlipRoomModel", "readSum", "(I)V"⟩, prog_12_method_23_code, 3, none, 9, []),
  (⟨"SlipRoomModel", "readNot", "(I)V"⟩, prog_12_method_24_code, 4, none, 9, []),
  (⟨"SlipRoomModel", "readAnd", "(I)V"⟩, prog_12_method_25_code, 2, none, 9, []),
  (⟨"SlipRoomModel", "readExpression", "(I)V"⟩, prog_12_method_26_code, 3, none, 9, []),
  (⟨"SlipRoomModel", "readBook", "()V"⟩, prog_12_method_27_code, 2, none, 9, []),
  (⟨"SlipRoomModel", "readReader", "()V"⟩, prog_12_method_28_code, 2, none, 9, []),
  (⟨"SlipRoomModel", "room", "(I)I"⟩, prog_12_method_29_code, 2, (some .int), 9, []),
  (⟨"SlipRoomModel", "take", "()V"⟩, prog_12_method_30_code, 2, none, 9, []),
  (⟨"SlipRoomModel", "fault", "()I"⟩, prog_12_method_31_code, 1, (some .int), 9, []),
  (⟨"SlipRoomModel", "count", "(I)I"⟩, prog_12_method_32_code, 2, (some .int), 9, []),
  (⟨"SlipRoomModel", "pair", "(II)I"⟩, prog_12_method_33_code, 2, (some .int), 9, []),
  (⟨"SlipRoomModel", "hasRead", "(III)Z"⟩, prog_12_method_34_code, 4, (some .boolean), 9, []),
  (⟨"SlipRoomModel", "unopened", "(I)I"⟩, prog_12_method_35_code, 6, (some .int), 9, []),
  (⟨"SlipRoomModel", "slipsIn", "(I)I"⟩, prog_12_method_36_code, 4, (some .int), 9, []),
  (⟨"SlipRoomModel", "book", "(II)I"⟩, prog_12_method_37_code, 3, (some .int), 9, []),
  (⟨"SlipRoomModel", "reader", "(II)I"⟩, prog_12_method_38_code, 3, (some .int), 9, []),
  (⟨"SlipRoomModel", "reckon", "(III)I"⟩, prog_12_method_39_code, 3, (some .int), 9, []),
  (⟨"SlipRoomModel", "stops", "(IIIII)Z"⟩, prog_12_method_40_code, 9, (some .boolean), 9, []),
  (⟨"SlipRoomModel", "turnPage", "(IIII)V"⟩, prog_12_method_41_code, 5, none, 9, []),
  (⟨"SlipRoomModel", "readOf", "(II)I"⟩, prog_12_method_42_code, 5, (some .int), 9, []),
  (⟨"SlipRoomModel", "beginOf", "(II)I"⟩, prog_12_method_43_code, 5, (some .int), 9, []),
  (⟨"SlipRoomModel", "loan", "(IIII)I"⟩, prog_12_method_44_code, 11, (some .int), 9, []),
  (⟨"SlipRoomModel", "lent", "(II)I"⟩, prog_12_method_45_code, 3, (some .int), 9, []),
  (⟨"SlipRoomModel", "drop", "(III)I"⟩, prog_12_method_46_code, 9, (some .int), 9, []),
  (⟨"SlipRoomModel", "slip", "(II)I"⟩, prog_12_method_47_code, 3, (some .int), 9, []),
  (⟨"SlipRoomModel", "inARow", "(II)I"⟩, prog_12_method_48_code, 4, (some .int), 9, []),
  (⟨"SlipRoomModel", "read", "(III)I"⟩, prog_12_method_49_code, 4, (some .int), 9, []),
  (⟨"SlipRoomModel", "has", "(III)Z"⟩, prog_12_method_50_code, 4, (some .boolean), 9, []),
  (⟨"SlipRoomModel", "ahead", "(III)I"⟩, prog_12_method_51_code, 4, (some .int), 9, []),
  (⟨"SlipRoomModel", "looksOf", "(I)I"⟩, prog_12_method_52_code, 4, (some .int), 9, []),
  (⟨"SlipRoomModel", "look", "(IIII)I"⟩, prog_12_method_53_code, 5, (some .int), 9, []),
  (⟨"SlipRoomModel", "lentBetween", "(IIII)I"⟩, prog_12_method_54_code, 7, (some .int), 9, []),
  (⟨"SlipRoomModel", "begunBetween", "(IIII)I"⟩, prog_12_method_55_code, 7, (some .int), 9, []),
  (⟨"SlipRoomModel", "layLooks", "(II)V"⟩, prog_12_method_56_code, 5, none, 9, []),
  (⟨"SlipRoomModel", "mayHave", "(III)Z"⟩, prog_12_method_57_code, 9, (some .boolean), 9, []),
  (⟨"SlipRoomModel", "tellWay", "()V"⟩, prog_12_method_58_code, 4, none, 9, []),
  (⟨"SlipRoomModel", "wayOn", "(II)V"⟩, prog_12_method_59_code, 4, none, 9, []),
  (⟨"SlipRoomModel", "tellWays", "(II)V"⟩, prog_12_method_60_code, 4, none, 9, []),
  (⟨"SlipRoomModel", "ways", "(I)I"⟩, prog_12_method_61_code, 2, (some .int), 9, []),
  (⟨"SlipRoomModel", "whose", "(II)I"⟩, prog_12_method_62_code, 4, (some .int), 9, []),
  (⟨"SlipRoomModel", "ends", "(III)I"⟩, prog_12_method_63_code, 4, (some .int), 9, []),
  (⟨"SlipRoomModel", "moved", "(I)I"⟩, prog_12_method_64_code, 4, (some .int), 9, []),
  (⟨"SlipRoomModel", "wish", "(III)I"⟩, prog_12_method_65_code, 4, (some .int), 9, []),
  (⟨"SlipRoomModel", "orderOn", "(IIII)V"⟩, prog_12_method_66_code, 7, none, 9, []),
  (⟨"SlipRoomModel", "waiting", "()I"⟩, prog_12_method_67_code, 1, (some .int), 9, []),
  (⟨"SlipRoomModel", "turn", "(I)I"⟩, prog_12_method_68_code, 2, (some .int), 9, []),
  (⟨"SlipRoomModel", "tale", "(III)Z"⟩, prog_12_method_69_code, 4, (some .boolean), 9, []),
  (⟨"SlipRoomModel", "bitsOf", "(I)I"⟩, prog_12_method_70_code, 3, (some .int), 9, []),
  (⟨"SlipRoomModel", "settlesBy", "(II)I"⟩, prog_12_method_71_code, 7, (some .int), 9, []),
  (⟨"SlipRoomModel", "settle", "(II)I"⟩, prog_12_method_72_code, 7, (some .int), 9, []),
  (⟨"SlipRoomModel", "keep", "([I)V"⟩, prog_12_method_73_code, 3, none, 9, []),
  (⟨"SlipRoomModel", "giveBack", "([I)V"⟩, prog_12_method_74_code, 3, none, 9, []),
  (⟨"SlipRoomModel", "image", "()V"⟩, prog_12_method_75_code, 2, none, 9, []),
  (⟨"SlipRoomModel", "restore", "()Z"⟩, prog_12_method_76_code, 2, (some .boolean), 9, []),
  (⟨"java/lang/Integer", "bitCount", "(I)I"⟩, prog_19_method_49_code, 1, (some .int), 12, []),
  (⟨"java/lang/Long", "bitCount", "(J)I"⟩, prog_20_method_50_code, 2, (some .int), 13, []),
  (⟨"java/lang/Math", "max", "(II)I"⟩, prog_21_method_65_code, 2, (some .int), 14, []),
  (⟨"java/lang/Math", "min", "(II)I"⟩, prog_21_method_69_code, 2, (some .int), 14, []),
  (⟨"java/util/Arrays", "fill", "([JJ)V"⟩, prog_30_method_101_code, 5, none, 15, []),
  (⟨"java/util/Arrays", "fill", "([II)V"⟩, prog_30_method_103_code, 4, none, 15, []),
  (⟨"SlipRoomLaw", "room", "(LSlipRoom;I[J)I"⟩, method_3_code, 4, (some .int), 11, [(1, 1)]),
  (⟨"SlipRoomLaw", "count", "(LSlipRoom;I[J)I"⟩, method_4_code, 4, (some .int), 11, [(0, 1)]),
  (⟨"SlipRoomLaw", "book", "(LSlipRoom;II[J)I"⟩, method_5_code, 5, (some .int), 11, [(0, 1)]),
  (⟨"SlipRoomLaw", "reader", "(LSlipRoom;II[J)I"⟩, method_6_code, 5, (some .int), 11, [(0, 1)]),
  (⟨"SlipRoomLaw", "loan", "(LSlipRoom;IIII[J)I"⟩, method_7_code, 7, (some .int), 11, [(0, 1)]),
  (⟨"SlipRoomLaw", "lent", "(LSlipRoom;II[J)I"⟩, method_8_code, 5, (some .int), 11, [(0, 1)]),
  (⟨"SlipRoomLaw", "drop", "(LSlipRoom;III[J)I"⟩, method_9_code, 6, (some .int), 11, [(0, 1)]),
  (⟨"SlipRoomLaw", "slip", "(LSlipRoom;II[J)I"⟩, method_10_code, 5, (some .int), 11, [(0, 1)]),
  (⟨"SlipRoomLaw", "read", "(LSlipRoom;III[J)I"⟩, method_11_code, 6, (some .int), 11, [(0, 1)]),
  (⟨"SlipRoomLaw", "has", "(LSlipRoom;III[J)I"⟩, method_12_code, 6, (some .int), 11, [(0, 1)]),
  (⟨"SlipRoomLaw", "ahead", "(LSlipRoom;III[J)I"⟩, method_13_code, 6, (some .int), 11, [(0, 1)]),
  (⟨"SlipRoomLaw", "look", "(LSlipRoom;IIII[J)I"⟩, method_14_code, 7, (some .int), 11, [(0, 1)]),
  (⟨"SlipRoomLaw", "ways", "(LSlipRoom;I[J)I"⟩, method_15_code, 4, (some .int), 11, [(0, 1)]),
  (⟨"SlipRoomLaw", "whose", "(LSlipRoom;II[J)I"⟩, method_16_code, 5, (some .int), 11, [(0, 1)]),
  (⟨"SlipRoomLaw", "ends", "(LSlipRoom;III[J)I"⟩, method_17_code, 6, (some .int), 11, [(0, 1)]),
  (⟨"SlipRoomLaw", "moved", "(LSlipRoom;I[J)I"⟩, method_18_code, 4, (some .int), 11, [(0, 1)]),
  (⟨"SlipRoomLaw", "wish", "(LSlipRoom;III[J)I"⟩, method_19_code, 6, (some .int), 11, [(0, 1)]),
  (⟨"SlipRoomLaw", "turn", "(LSlipRoom;I[J)I"⟩, method_20_code, 4, (some .int), 11, [(0, 1)]),
  (⟨"SlipRoomLaw", "tale", "(LSlipRoom;III[J)I"⟩, method_21_code, 6, (some .int), 11, [(0, 1)]),
  (⟨"SlipRoomLaw", "settle", "(LSlipRoom;II[J)I"⟩, method_22_code, 5, (some .int), 11, [(0, 1), (1, 2)]),
  (⟨"SlipRoomLaw", "law", "([I)Z"⟩, code, 7, (some .boolean), 11, [])]
/-- messages and texts by their entries -/
def z_msgs : List (Nat × String) := [(89, "the tape has not so many bytes"), (151, "a book has no such number"), (172, "a reader has no such number"), (203, "there is no such loan or number"), (225, "reading has no such number"), (227, "there is no such page"), (232, "there are no two slips"), (248, "there is no such look or number"), (259, "an end is the least or the greatest"), (278, "the order has no such turn"), (286, "settling has no such number"), (288, "there are no such tales"), (304, "there is no such book"), (306, "there is no such reader"), (308, "there is no such count")]
def z_strs : List (Nat × String × Nat) := [(21, "book", 1201), (278, "not", 1210), (286, "and", 1209), (291, "or", 1208), (296, "parts", 1202), (303, "colour", 1204), (304, "back", 1205), (305, "ends", 1206), (306, "stops", 1207), (314, "reader", 1203)]
/-- the handlers as the tables have them -/
def z_hh : List (List (Nat × Nat × Nat × Nat)) := [[], [], [], [], [], [], [], [], [], [], [], [], [], [], [], [], [], [], [], [], [], [], [], [], [], [], [], [], [], [], [], [], [], [], [], [], [], [], [], [], [], [], [], [], [], [], [], [], [], [], [], [], [], [], [], [], [], [], [], [], [], [], [], [], [], [], [], [], [], [], [], [], [], [], [], [], [], [], [], [], [], [], [], [], [], [], [], [], [], [], [], [], [], [], [], [], [], [], [], [], [], [], [], [], [], [], [], [], [], [], [], [], [], [], [], [], [], [], [], [], [], [], [], [], [], [], [], [], [], [], [], [], [], [], [], [], [], [], [], [], [], [], [], [], [], [], [], [], [], [], [], [], [], [], [], [], [], [], [], [], [], [], [], [], [], [], [], [], [], [], [], [], [], [], [], [], [], [], [], [], [], [], [], [], [], [], [], [], [], [], [], [((0), (9), (12), (13))], [((0), (9), (12), (18))], [((0), (10), (13), (18))], [((0), (10), (13), (18))], [((0), (14), (17), (18))], [((0), (10), (13), (18))], [((0), (12), (15), (18))], [((0), (10), (13), (18))], [((0), (12), (15), (18))], [((0), (19), (22), (18))], [((0), (12), (15), (18))], [((0), (14), (17), (18))], [((0), (9), (12), (18))], [((0), (10), (13), (18))], [((0), (12), (15), (18))], [((0), (9), (12), (18))], [((0), (12), (15), (18))], [((0), (9), (12), (18))], [((0), (19), (22), (18))], [((0), (10), (13), (18)), ((0), (10), (17), (13))], []]
/-- the places of a method's words in the tables: code, static or not, selects, class; its parameters -/
def z_mi : List (Nat × Nat × Nat × Nat × Nat) := [(878, 876, 877, 91, 3), (883, 882, 25, 91, 1), (894, 893, 0, 91, 3), (891, 890, 27, 91, 1), (887, 886, 26, 91, 0), (751, 749, 750, 90, 0), (489, 487, 488, 90, 1), (862, 860, 861, 90, 2), (858, 856, 857, 90, 4), (805, 803, 804, 90, 1), (935, 933, 934, 90, 2), (939, 937, 938, 90, 2), (898, 896, 897, 90, 6), (818, 816, 817, 90, 1), (917, 915, 916, 90, 3), (976, 974, 975, 90, 4), (968, 966, 967, 90, 1), (972, 970, 971, 90, 1), (996, 994, 995, 90, 1), (1000, 998, 999, 90, 1), (1004, 1002, 1003, 90, 1), (1104, 1102, 1103, 90, 2), (572, 570, 571, 86, 2), (747, 745, 746, 86, 0), (672, 671, 7, 86, 1), (668, 667, 6, 86, 0), (697, 696, 11, 86, 0), (687, 686, 9, 86, 1), (691, 690, 10, 86, 1), (681, 680, 8, 86, 2), (709, 708, 12, 86, 2), (719, 718, 14, 86, 2), (723, 722, 15, 86, 1), (713, 712, 13, 86, 0), (727, 726, 16, 86, 0), (576, 574, 575, 85, 0), (731, 729, 730, 85, 1), (854, 852, 853, 85, 2), (1132, 1130, 1131, 94, 3), (1136, 1135, 39, 94, 3), (1146, 1145, 40, 94, 3), (1149, 1148, 0, 94, 4), (987, 985, 986, 92, 3), (1033, 1031, 1032, 92, 0), (1054, 1052, 1053, 92, 1), (1081, 1079, 1080, 92, 2), (1092, 1090, 1091, 92, 0), (1018, 1017, 31, 92, 0), (992, 991, 28, 92, 2), (1009, 1008, 29, 92, 3), (1014, 1013, 30, 92, 1), (1025, 1024, 32, 92, 2), (1029, 1028, 33, 92, 3), (1021, 1020, 0, 92, 1), (1037, 1036, 34, 92, 1), (1041, 1040, 35, 92, 1), (1066, 1065, 38, 92, 2), (1058, 1057, 36, 92, 2), (1062, 1061, 37, 92, 2), (580, 578, 579, 87, 1), (676, 674, 675, 87, 0), (587, 585, 586, 87, 0), (735, 733, 734, 87, 0), (743, 741, 742, 87, 0), (591, 590, 3, 87, 0), (598, 597, 4, 87, 0), (659, 658, 5, 87, 0), (594, 593, 0, 87, 1), (655, 654, 0, 87, 1), (662, 661, 0, 87, 1), (761, 759, 760, 93, 0), (470, 468, 469, 93, 1), (475, 474, 1, 93, 5), (601, 600, 0, 89, 3), (454, 452, 453, 84, 5), (502, 500, 501, 84, 1), (462, 460, 461, 84, 0), (769, 767, 768, 84, 1), (796, 794, 795, 84, 2), (826, 824, 825, 84, 2), (839, 837, 838, 84, 4), (905, 903, 904, 84, 2), (913, 911, 912, 84, 3), (924, 922, 923, 84, 2), (931, 929, 930, 84, 3), (947, 945, 946, 84, 3), (956, 954, 955, 84, 3), (964, 962, 963, 84, 4), (983, 981, 982, 84, 1), (1048, 1046, 1047, 84, 2), (1076, 1074, 1075, 84, 3), (1088, 1086, 1087, 84, 1), (1100, 1098, 1099, 84, 3), (466, 464, 465, 84, 0), (1111, 1109, 1110, 84, 1), (1119, 1117, 1118, 84, 3), (1126, 1124, 1125, 84, 2), (485, 483, 484, 84, 0), (494, 492, 493, 84, 0), (458, 457, 0, 84, 1), (800, 799, 18, 84, 1), (830, 829, 19, 84, 1), (773, 772, 17, 84, 1), (808, 807, 0, 84, 2), (1069, 1068, 0, 84, 1), (843, 842, 20, 84, 4), (848, 847, 21, 84, 2), (866, 865, 22, 84, 5), (870, 869, 23, 84, 5), (874, 873, 24, 84, 5), (1383, 1381, 1382, 95, 0), (1395, 1394, 41, 95, 1), (1504, 1503, 0, 95, 3), (1512, 1511, 61, 95, 1), (1535, 1534, 65, 95, 1), (1387, 1385, 1386, 95, 5), (1403, 1402, 43, 95, 1), (1406, 1405, 0, 95, 1), (1409, 1408, 0, 95, 1), (1414, 1413, 0, 95, 1), (1399, 1398, 42, 95, 0), (1428, 1427, 46, 95, 1), (1418, 1417, 44, 95, 1), (1454, 1453, 51, 95, 1), (1483, 1482, 58, 95, 1), (1437, 1436, 48, 95, 1), (1487, 1486, 59, 95, 1), (1432, 1431, 47, 95, 2), (1479, 1478, 57, 95, 1), (1475, 1474, 56, 95, 1), (1471, 1470, 55, 95, 1), (1467, 1466, 54, 95, 1), (1462, 1461, 53, 95, 1), (1458, 1457, 52, 95, 1), (1450, 1449, 50, 95, 1), (1424, 1423, 45, 95, 0), (1442, 1441, 49, 95, 0), (1391, 1389, 1390, 95, 1), (1493, 1492, 60, 95, 0), (1497, 1495, 1496, 95, 0), (1501, 1499, 1500, 95, 1), (1523, 1522, 0, 95, 2), (1520, 1519, 63, 95, 3), (1516, 1515, 62, 95, 1), (1527, 1526, 64, 95, 1), (1508, 1506, 1507, 95, 2), (1531, 1529, 1530, 95, 2), (1559, 1558, 0, 95, 3), (1556, 1555, 69, 95, 5), (1543, 1542, 66, 95, 4), (1547, 1546, 67, 95, 2), (1551, 1550, 68, 95, 2), (1539, 1537, 1538, 95, 4), (1563, 1561, 1562, 95, 2), (1567, 1565, 1566, 95, 3), (1571, 1569, 1570, 95, 2), (1579, 1578, 70, 95, 2), (1575, 1573, 1574, 95, 3), (1583, 1581, 1582, 95, 3), (1587, 1585, 1586, 95, 3), (1595, 1594, 71, 95, 1), (1591, 1589, 1590, 95, 4), (1623, 1622, 77, 95, 4), (1627, 1626, 78, 95, 4), (1607, 1606, 73, 95, 2), (1619, 1618, 76, 95, 3), (1615, 1614, 75, 95, 0), (1611, 1610, 74, 95, 2), (1603, 1602, 72, 95, 2), (1599, 1597, 1598, 95, 1), (1631, 1629, 1630, 95, 2), (1635, 1633, 1634, 95, 3), (1639, 1637, 1638, 95, 1), (1643, 1641, 1642, 95, 3), (1651, 1650, 79, 95, 4), (1647, 1645, 1646, 95, 0), (1655, 1653, 1654, 95, 1), (1659, 1657, 1658, 95, 3), (1666, 1665, 0, 95, 1), (1670, 1669, 80, 95, 2), (1663, 1661, 1662, 95, 2), (1678, 1677, 81, 95, 1), (1686, 1685, 82, 95, 1), (1674, 1672, 1673, 95, 0), (1682, 1680, 1681, 95, 0), (1139, 1138, 0, 109, 1), (811, 810, 0, 107, 1), (481, 480, 0, 100, 2), (583, 582, 0, 100, 2), (757, 756, 0, 105, 2), (754, 753, 0, 105, 2), (497, 496, 0, 83, 3), (764, 763, 0, 83, 3), (792, 791, 0, 83, 4), (822, 821, 0, 83, 4), (835, 834, 0, 83, 6), (901, 900, 0, 83, 4), (909, 908, 0, 83, 5), (920, 919, 0, 83, 4), (927, 926, 0, 83, 5), (943, 942, 0, 83, 5), (952, 951, 0, 83, 5), (960, 959, 0, 83, 6), (979, 978, 0, 83, 3), (1044, 1043, 0, 83, 4), (1072, 1071, 0, 83, 5), (1084, 1083, 0, 83, 3), (1096, 1095, 0, 83, 5), (1107, 1106, 0, 83, 3), (1115, 1114, 0, 83, 5), (1122, 1121, 0, 83, 4), (0, 0, 0, 0, 1)]
end
section
/-! the abstract machine: numbers by object and place, longs likewise; locals; a block's walk; a method's answer -/
abbrev z_Mi : Type := Nat → Nat → Int32
abbrev z_Ml : Type := Nat → Nat → Int64
abbrev z_St : Type := z_Mi × z_Ml
abbrev z_Out : Type := Option Value ⊕ Nat
abbrev z_Lo : Type := List (Option Value)
abbrev z_Res : Type := Option (z_Out × z_St)
abbrev z_Ev : Type := Nat → List Value → z_St → z_Res
abbrev z_K : Type := Nat → Nat → z_Lo → List Value → z_St → z_Res
def z_lg : z_Lo → Nat → Option Value
  | [], _ => none
  | v :: _, 0 => v
  | _ :: L, i + 1 => z_lg L i
def z_ls : z_Lo → Nat → Option Value → z_Lo
  | [], _, _ => []
  | _ :: L, 0, v => v :: L
  | a :: L, i + 1, v => a :: z_ls L i v
/-- the place ahead is forgotten if it holds a long -/
def z_fx (L : z_Lo) (i : Nat) : z_Lo := match i with
  | 0 => L
  | j + 1 => match z_lg L j with
    | some (.long _) => z_ls L j none
    | some (.double _) => z_ls L j none
    | _ => L
def z_s1 (L : z_Lo) (i : Nat) (v : Value) : z_Lo := z_ls (z_fx L i) i (some v)
def z_s2 (L : z_Lo) (i : Nat) (v : Value) : z_Lo := z_ls (z_ls (z_fx L i) i (some v)) (i + 1) none
def z_mk : List Bool → z_Lo → z_Lo
  | true :: m, v :: L => v :: z_mk m L
  | false :: m, _ :: L => none :: z_mk m L
  | _, _ => []
def z_w1 (M : z_Mi) (a i : Nat) (v : Int32) : z_Mi := fun b => if b = a then upd (M a) i v else M b
def z_w2 (M : z_Ml) (a i : Nat) (v : Int64) : z_Ml := fun b => if b = a then vp_updL (M a) i v else M b
def z_c1 (M : z_Mi) (a b i j k : Nat) : z_Mi := fun c => if c = b then va_cpy (M a) (M b) i j k else M c
def z_c2 (M : z_Ml) (a b i j k : Nat) : z_Ml := fun c => if c = b then va_cpy (M a) (M b) i j k else M c
def z_ix (i : Int32) (n : Nat) : Bool := !(decide (i < 0)) && decide (i.toNatClampNeg < n)
def z_nb (t : Nat) (x : Int32) : Bool := match t with
  | 0 => true
  | _ => decide (x = 0) || decide (x = 1)
def z_rb (rt : Option FieldType) (x : Int32) : Bool := match rt with
  | some .int => true
  | some .boolean => decide (x = 0) || decide (x = 1)
  | _ => false
def z_cs : List Value → Nat
  | [] => 0
  | v :: r => v.category + z_cs r
def z_tg (pc : Nat) (off : Int) : Nat := ((pc : Int) + off).toNat
def z_pop : Nat → List Value → List Value → Option (List Value × List Value)
  | 0, acc, st => some (acc, st)
  | n + 1, acc, v :: st => z_pop n (v :: acc) st
  | _ + 1, _, [] => none
/-- behind a call: by what it answers -/
def z_clv (r : z_Res) (f : z_St → z_Res) (g : Nat → z_St → z_Res) : z_Res := match r with
  | some (.inl none, S) => f S
  | some (.inr e, S) => g e S
  | _ => none
def z_cli (r : z_Res) (f : Int32 → z_St → z_Res) (g : Nat → z_St → z_Res) : z_Res := match r with
  | some (.inl (some (.int x)), S) => f x S
  | some (.inr e, S) => g e S
  | _ => none
def z_clr (r : z_Res) (f : Nat → z_St → z_Res) (g : Nat → z_St → z_Res) : z_Res := match r with
  | some (.inl (some (.ref x)), S) => f x S
  | some (.inr e, S) => g e S
  | _ => none
def z_hnd (hd : List (Nat × Int32)) (e : Nat) (S : z_St) : z_Res := match hd.find? (fun q => q.1 == e) with
  | some q => some (.inl (some (.int q.2)), S)
  | none => some (.inr e, S)
/-- the texts that the program knows, by their signs -/
def z_tx : List (List Int32) := [[], [98, 111, 111, 107], [112, 97, 114, 116, 115], [114, 101, 97, 100, 101, 114], [99, 111, 108, 111, 117, 114], [98, 97, 99, 107], [101, 110, 100, 115], [115, 116, 111, 112, 115], [111, 114], [97, 110, 100], [110, 111, 116], [112, 97, 103, 101], [108, 101, 102, 116], [105, 110, 116, 111], [114, 101, 97, 100], [104, 111, 117, 114], [100, 97, 121]]
def z_wv : List Int32 := [-1, 6, -1, -1, -1, -1, -1, -1, -1, -1, -1, 0, 1, 2, 3, 4, 5]
/-- the texts of the row 'values' -/
def z_vs : List Nat := [1211, 1212, 1213, 1214, 1215, 1216, 1201]
/-- a switch by a table -/
def z_sw (x : Int32) (d lo hi : Int) (offs : Array Int) (k : Int → z_Res) : z_Res :=
  if x.toInt < lo ∨ hi < x.toInt then k d else match offs[(x.toInt - lo).toNat]? with
    | some o => k o
    | none => none
/-- a call with its things off the stack -/
def z_call (lm : Bool) (hd : List (Nat × Int32)) (E : z_Ev) (go : z_K) (ops : List Nat) (pc z : Nat) (L : z_Lo) (st : List Value) (S : z_St) : z_Res :=
  match ops with
  | m :: n :: kind :: rc :: rt :: _ => match z_pop n [] st with
    | some (as, rest) => cond (Nat.ble (z_cs rest) 8) (
        match kind with
        | 6 => match as with
          | [.ref a, .int i, .ref b, .int j, .int k] =>
            cond (Nat.beq (z_at a) (z_at b) && !(Nat.beq a b) && !(decide (i < 0)) && !(decide (j < 0)) && !(decide (k < 0)) && decide (i.toNatClampNeg + k.toNatClampNeg ≤ z_ln a) && decide (j.toNatClampNeg + k.toNatClampNeg ≤ z_ln b)) (
              match z_at a with
              | 1 => go (pc + 3) z L rest (z_c1 S.1 a b i.toNatClampNeg j.toNatClampNeg k.toNatClampNeg, S.2)
              | 4 => go (pc + 3) z L rest (S.1, z_c2 S.2 a b i.toNatClampNeg j.toNatClampNeg k.toNatClampNeg)
              | _ => none) none
          | _ => none
        | 7 => match as with
          | [.ref a] => cond (Nat.ble 1200 a && Nat.blt a 1217) (go (pc + 3) z L (.int (nI ((z_tx.getD (a - 1200) []).length)) :: rest) S) none
          | _ => none
        | 8 => match as with
          | [.ref a, .int i] => cond (Nat.ble 1200 a && Nat.blt a 1217 && z_ix i (z_tx.getD (a - 1200) []).length) (go (pc + 3) z L (.int ((z_tx.getD (a - 1200) []).getD i.toNatClampNeg 0) :: rest) S) none
          | _ => none
        | 4 => cond (lm && Nat.blt z 1000) (z_cli (E m as S) (fun x S1 => go (pc + 3) (z + 1) L (.int x :: rest) S1) (fun _ _ => none)) none
        | _ => cond (match kind with
            | 0 => true
            | 1 => true
            | 2 => match as with | .ref a :: _ => z_isO rc a | _ => false
            | 3 => match as with | .ref a :: _ => z_isO rc a | _ => false
            | _ => false) (
            match rt with
            | 0 => z_clv (E m as S) (fun S1 => go (pc + 3) z L rest S1) (fun e S1 => cond lm none (z_hnd hd e S1))
            | 1 => z_cli (E m as S) (fun x S1 => go (pc + 3) z L (.int x :: rest) S1) (fun e S1 => cond lm none (z_hnd hd e S1))
            | 3 => z_clr (E m as S) (fun x S1 => go (pc + 3) z L (.ref x :: rest) S1) (fun e S1 => cond lm none (z_hnd hd e S1))
            | _ => none) none) none
    | none => none
  | _ => none
/-- a constant -/
def z_cn (n : Int) : Int32 := match n with
  | .ofNat k => nI k
  | .negSucc k => -nI (k + 1)
def z_o_iconst (go : z_K) (n : Int) (pc z : Nat) (L : z_Lo) (st : List Value) (S : z_St) : z_Res := go (pc + 1) z L (.int (z_cn n) :: st) S
def z_o_bipush (go : z_K) (n : Int) (pc z : Nat) (L : z_Lo) (st : List Value) (S : z_St) : z_Res := go (pc + 2) z L (.int (z_cn n) :: st) S
def z_o_sipush (go : z_K) (n : Int) (pc z : Nat) (L : z_Lo) (st : List Value) (S : z_St) : z_Res := go (pc + 3) z L (.int (z_cn n) :: st) S
def z_o_lconst (go : z_K) (n : Fin 2) (pc z : Nat) (L : z_Lo) (st : List Value) (S : z_St) : z_Res := go (pc + 1) z L (.long (lN n) :: st) S
def z_o_aload_n (go : z_K) (k : Fin 4) (pc z : Nat) (L : z_Lo) (st : List Value) (S : z_St) : z_Res := match z_lg L k with | some (.ref a) => go (pc + 1) z L (.ref a :: st) S | _ => none
def z_o_aload (go : z_K) (k : Nat) (pc z : Nat) (L : z_Lo) (st : List Value) (S : z_St) : z_Res := match z_lg L k with | some (.ref a) => go (pc + 2) z L (.ref a :: st) S | _ => none
def z_o_iload_n (go : z_K) (k : Fin 4) (pc z : Nat) (L : z_Lo) (st : List Value) (S : z_St) : z_Res := match z_lg L k with | some (.int x) => go (pc + 1) z L (.int x :: st) S | _ => none
def z_o_iload (go : z_K) (k : Nat) (pc z : Nat) (L : z_Lo) (st : List Value) (S : z_St) : z_Res := match z_lg L k with | some (.int x) => go (pc + 2) z L (.int x :: st) S | _ => none
def z_o_lload_n (go : z_K) (k : Fin 4) (pc z : Nat) (L : z_Lo) (st : List Value) (S : z_St) : z_Res := match z_lg L k with | some (.long x) => go (pc + 1) z L (.long x :: st) S | _ => none
def z_o_lload (go : z_K) (k : Nat) (pc z : Nat) (L : z_Lo) (st : List Value) (S : z_St) : z_Res := match z_lg L k with | some (.long x) => go (pc + 2) z L (.long x :: st) S | _ => none
def z_o_istore_n (go : z_K) (k : Fin 4) (pc z : Nat) (L : z_Lo) (st : List Value) (S : z_St) : z_Res := match st with | .int x :: r => cond (Nat.blt k L.length) (go (pc + 1) z (z_s1 L k (.int x)) r S) none | _ => none
def z_o_istore (go : z_K) (k : Nat) (pc z : Nat) (L : z_Lo) (st : List Value) (S : z_St) : z_Res := match st with | .int x :: r => cond (Nat.blt k L.length) (go (pc + 2) z (z_s1 L k (.int x)) r S) none | _ => none
def z_o_astore_n (go : z_K) (k : Fin 4) (pc z : Nat) (L : z_Lo) (st : List Value) (S : z_St) : z_Res := match st with | .ref x :: r => cond (Nat.blt k L.length) (go (pc + 1) z (z_s1 L k (.ref x)) r S) none | _ => none
def z_o_astore (go : z_K) (k : Nat) (pc z : Nat) (L : z_Lo) (st : List Value) (S : z_St) : z_Res := match st with | .ref x :: r => cond (Nat.blt k L.length) (go (pc + 2) z (z_s1 L k (.ref x)) r S) none | _ => none
def z_o_lstore_n (go : z_K) (k : Fin 4) (pc z : Nat) (L : z_Lo) (st : List Value) (S : z_St) : z_Res := match st with | .long x :: r => cond (Nat.blt (k + 1) L.length) (go (pc + 1) z (z_s2 L k (.long x)) r S) none | _ => none
def z_o_lstore (go : z_K) (k : Nat) (pc z : Nat) (L : z_Lo) (st : List Value) (S : z_St) : z_Res := match st with | .long x :: r => cond (Nat.blt (k + 1) L.length) (go (pc + 2) z (z_s2 L k (.long x)) r S) none | _ => none
def z_o_iinc (go : z_K) (k : Nat) (n : Int) (pc z : Nat) (L : z_Lo) (st : List Value) (S : z_St) : z_Res := match z_lg L k with | some (.int x) => cond (Nat.blt k L.length) (go (pc + 3) z (z_s1 L k (.int (x + z_cn n))) st S) none | _ => none
def z_o_iadd (go : z_K) (pc z : Nat) (L : z_Lo) (st : List Value) (S : z_St) : z_Res := match st with | .int y :: .int x :: r => go (pc + 1) z L (.int (x + y) :: r) S | _ => none
def z_o_isub (go : z_K) (pc z : Nat) (L : z_Lo) (st : List Value) (S : z_St) : z_Res := match st with | .int y :: .int x :: r => go (pc + 1) z L (.int (x - y) :: r) S | _ => none
def z_o_imul (go : z_K) (pc z : Nat) (L : z_Lo) (st : List Value) (S : z_St) : z_Res := match st with | .int y :: .int x :: r => go (pc + 1) z L (.int (x * y) :: r) S | _ => none
def z_o_iand (go : z_K) (pc z : Nat) (L : z_Lo) (st : List Value) (S : z_St) : z_Res := match st with | .int y :: .int x :: r => go (pc + 1) z L (.int (x &&& y) :: r) S | _ => none
def z_o_ior (go : z_K) (pc z : Nat) (L : z_Lo) (st : List Value) (S : z_St) : z_Res := match st with | .int y :: .int x :: r => go (pc + 1) z L (.int (x ||| y) :: r) S | _ => none
def z_o_ixor (go : z_K) (pc z : Nat) (L : z_Lo) (st : List Value) (S : z_St) : z_Res := match st with | .int y :: .int x :: r => go (pc + 1) z L (.int (x ^^^ y) :: r) S | _ => none
def z_o_ishl (go : z_K) (pc z : Nat) (L : z_Lo) (st : List Value) (S : z_St) : z_Res := match st with | .int y :: .int x :: r => go (pc + 1) z L (.int (x <<< (y &&& 31)) :: r) S | _ => none
def z_o_ishr (go : z_K) (pc z : Nat) (L : z_Lo) (st : List Value) (S : z_St) : z_Res := match st with | .int y :: .int x :: r => go (pc + 1) z L (.int (x >>> (y &&& 31)) :: r) S | _ => none
def z_o_iushr (go : z_K) (pc z : Nat) (L : z_Lo) (st : List Value) (S : z_St) : z_Res := match st with | .int y :: .int x :: r => go (pc + 1) z L (.int (x.toUInt32 >>> (y.toUInt32 &&& Int32.toUInt32 31)).toInt32 :: r) S | _ => none
def z_o_idiv (go : z_K) (pc z : Nat) (L : z_Lo) (st : List Value) (S : z_St) : z_Res := match st with | .int y :: .int x :: r => if y = 0 then none else go (pc + 1) z L (.int (x / y) :: r) S | _ => none
def z_o_irem (go : z_K) (pc z : Nat) (L : z_Lo) (st : List Value) (S : z_St) : z_Res := match st with | .int y :: .int x :: r => if y = 0 then none else go (pc + 1) z L (.int (x - x / y * y) :: r) S | _ => none
def z_o_ineg (go : z_K) (pc z : Nat) (L : z_Lo) (st : List Value) (S : z_St) : z_Res := match st with | .int x :: r => go (pc + 1) z L (.int (-x) :: r) S | _ => none
def z_o_ladd (go : z_K) (pc z : Nat) (L : z_Lo) (st : List Value) (S : z_St) : z_Res := match st with | .long y :: .long x :: r => go (pc + 1) z L (.long (x + y) :: r) S | _ => none
def z_o_lsub (go : z_K) (pc z : Nat) (L : z_Lo) (st : List Value) (S : z_St) : z_Res := match st with | .long y :: .long x :: r => go (pc + 1) z L (.long (x - y) :: r) S | _ => none
def z_o_land (go : z_K) (pc z : Nat) (L : z_Lo) (st : List Value) (S : z_St) : z_Res := match st with | .long y :: .long x :: r => go (pc + 1) z L (.long (x &&& y) :: r) S | _ => none
def z_o_lor (go : z_K) (pc z : Nat) (L : z_Lo) (st : List Value) (S : z_St) : z_Res := match st with | .long y :: .long x :: r => go (pc + 1) z L (.long (x ||| y) :: r) S | _ => none
def z_o_lshl (go : z_K) (pc z : Nat) (L : z_Lo) (st : List Value) (S : z_St) : z_Res := match st with | .int y :: .long x :: r => go (pc + 1) z L (.long (x <<< (y.toInt64 &&& 63)) :: r) S | _ => none
def z_o_lushr (go : z_K) (pc z : Nat) (L : z_Lo) (st : List Value) (S : z_St) : z_Res := match st with | .int y :: .long x :: r => go (pc + 1) z L (.long (x.toUInt64 >>> (y.toInt64.toUInt64 &&& Int64.toUInt64 63)).toInt64 :: r) S | _ => none
def z_o_lcmp (go : z_K) (pc z : Nat) (L : z_Lo) (st : List Value) (S : z_St) : z_Res := match st with | .long y :: .long x :: r => go (pc + 1) z L (.int (lg_cmp x y) :: r) S | _ => none
def z_o_i2l (go : z_K) (pc z : Nat) (L : z_Lo) (st : List Value) (S : z_St) : z_Res := match st with | .int x :: r => go (pc + 1) z L (.long x.toInt64 :: r) S | _ => none
def z_o_l2i (go : z_K) (pc z : Nat) (L : z_Lo) (st : List Value) (S : z_St) : z_Res := match st with | .long x :: r => go (pc + 1) z L (.int x.toInt32 :: r) S | _ => none
def z_o_i2b (go : z_K) (pc z : Nat) (L : z_Lo) (st : List Value) (S : z_St) : z_Res := match st with | .int x :: r => go (pc + 1) z L (.int x.toInt8.toInt32 :: r) S | _ => none
def z_o_dup (go : z_K) (pc z : Nat) (L : z_Lo) (st : List Value) (S : z_St) : z_Res := match st with
    | .int x :: r => go (pc + 1) z L (.int x :: .int x :: r) S
    | .ref x :: r => go (pc + 1) z L (.ref x :: .ref x :: r) S
    | _ => none
def z_o_dup2 (go : z_K) (pc z : Nat) (L : z_Lo) (st : List Value) (S : z_St) : z_Res := match st with | .int x :: .ref a :: r => go (pc + 1) z L (.int x :: .ref a :: .int x :: .ref a :: r) S | _ => none
def z_o_getfield (ops : List Nat) (go : z_K) (pc z : Nat) (L : z_Lo) (st : List Value) (S : z_St) : z_Res := match st with
    | .ref a :: r => match ops with
      | c :: k :: t :: v :: _ => cond (z_isO c a) (
          match t with
          | 0 => go (pc + 3) z L (.int (S.1 a k) :: r) S
          | 1 => cond (decide (S.1 a k = -1)) none (go (pc + 3) z L (.ref (S.1 a k).toNatClampNeg :: r) S)
          | 2 => go (pc + 3) z L (.ref (a + v) :: r) S
          | 3 => go (pc + 3) z L (.ref v :: r) S
          | 4 => go (pc + 3) z L (.ref (a + 200) :: r) S
          | 5 => go (pc + 3) z L (.int (z_wv.getD (a - 1000) 0) :: r) S
          | _ => none) none
      | _ => none
    | _ => none
def z_o_putfield (ops : List Nat) (go : z_K) (pc z : Nat) (L : z_Lo) (st : List Value) (S : z_St) : z_Res := match ops with
    | c :: k :: t :: v :: _ => match st with
      | .int x :: .ref a :: r => cond (z_isO c a && Nat.beq t 0 && z_nb v x) (go (pc + 3) z L r (z_w1 S.1 a k x, S.2)) none
      | .ref b :: .ref a :: r => cond (z_isO c a && Nat.beq t 1 && Nat.blt b 2000) (go (pc + 3) z L r (z_w1 S.1 a k (nI b), S.2)) none
      | _ => none
    | _ => none
def z_o_getstatic (ops : List Nat) (go : z_K) (pc z : Nat) (L : z_Lo) (st : List Value) (S : z_St) : z_Res := match ops with | v :: _ => go (pc + 3) z L (.ref v :: st) S | _ => none
def z_o_ldc (ops : List Nat) (go : z_K) (pc z : Nat) (L : z_Lo) (st : List Value) (S : z_St) : z_Res := match ops with
    | 0 :: v :: _ => go (pc + 2) z L (.int (nI v) :: st) S
    | 1 :: v :: _ => go (pc + 2) z L (.ref v :: st) S
    | _ => none
def z_o_ldc_w (ops : List Nat) (go : z_K) (pc z : Nat) (L : z_Lo) (st : List Value) (S : z_St) : z_Res := match ops with
    | 0 :: v :: _ => go (pc + 3) z L (.int (nI v) :: st) S
    | 1 :: v :: _ => go (pc + 3) z L (.ref v :: st) S
    | _ => none
def z_o_ldc2_w (ops : List Nat) (go : z_K) (pc z : Nat) (L : z_Lo) (st : List Value) (S : z_St) : z_Res := match ops with | v :: _ => go (pc + 3) z L (.long (lN v) :: st) S | _ => none
def z_o_iaload (lm : Bool) (go : z_K) (pc z : Nat) (L : z_Lo) (st : List Value) (S : z_St) : z_Res := match st with
    | .int x :: .ref a :: r => cond (lm && Nat.beq a 1300)
        (cond (z_ix x (S.1 1301 0).toNatClampNeg) (go (pc + 1) z L (.int (S.1 1300 x.toNatClampNeg) :: r) S) none)
        (cond (Nat.beq (z_at a) 1 && z_ix x (z_ln a)) (go (pc + 1) z L (.int (S.1 a x.toNatClampNeg) :: r) S) none)
    | _ => none
def z_o_baload (go : z_K) (pc z : Nat) (L : z_Lo) (st : List Value) (S : z_St) : z_Res := match st with
    | .int x :: .ref a :: r => cond ((Nat.beq (z_at a) 2 || Nat.beq (z_at a) 3) && z_ix x (z_ln a)) (go (pc + 1) z L (.int (S.1 a x.toNatClampNeg) :: r) S) none
    | _ => none
def z_o_laload (go : z_K) (pc z : Nat) (L : z_Lo) (st : List Value) (S : z_St) : z_Res := match st with
    | .int x :: .ref a :: r => cond (Nat.beq (z_at a) 4 && z_ix x (z_ln a)) (go (pc + 1) z L (.long (S.2 a x.toNatClampNeg) :: r) S) none
    | _ => none
def z_o_aaload (go : z_K) (pc z : Nat) (L : z_Lo) (st : List Value) (S : z_St) : z_Res := match st with
    | .int x :: .ref a :: r => cond (Nat.beq a 1100) (cond (z_ix x 17) (go (pc + 1) z L (.ref (1000 + x.toNatClampNeg) :: r) S) none)
        (cond (Nat.beq (z_at a) 5 && z_ix x (z_ln a)) (go (pc + 1) z L (.ref (z_vs.getD x.toNatClampNeg 0) :: r) S) none)
    | _ => none
def z_o_iastore (go : z_K) (pc z : Nat) (L : z_Lo) (st : List Value) (S : z_St) : z_Res := match st with
    | .int v :: .int x :: .ref a :: r => cond (Nat.beq (z_at a) 1 && z_ix x (z_ln a)) (go (pc + 1) z L r (z_w1 S.1 a x.toNatClampNeg v, S.2)) none
    | _ => none
def z_o_bastore (go : z_K) (pc z : Nat) (L : z_Lo) (st : List Value) (S : z_St) : z_Res := match st with
    | .int v :: .int x :: .ref a :: r => cond (z_ix x (z_ln a)) (
        match z_at a with
        | 2 => go (pc + 1) z L r (z_w1 S.1 a x.toNatClampNeg (vp_nar .byte v), S.2)
        | 3 => go (pc + 1) z L r (z_w1 S.1 a x.toNatClampNeg (vp_nar .boolean v), S.2)
        | _ => none) none
    | _ => none
def z_o_lastore (go : z_K) (pc z : Nat) (L : z_Lo) (st : List Value) (S : z_St) : z_Res := match st with
    | .long v :: .int x :: .ref a :: r => cond (Nat.beq (z_at a) 4 && z_ix x (z_ln a)) (go (pc + 1) z L r (S.1, z_w2 S.2 a x.toNatClampNeg v)) none
    | _ => none
def z_o_arraylength (lm : Bool) (go : z_K) (pc z : Nat) (L : z_Lo) (st : List Value) (S : z_St) : z_Res := match st with
    | .ref a :: r => cond (lm && Nat.beq a 1300) (go (pc + 1) z L (.int (S.1 1301 0) :: r) S)
        (cond (Nat.beq a 1100) (go (pc + 1) z L (.int (nI 17) :: r) S)
          (cond (Nat.blt 0 (z_at a)) (go (pc + 1) z L (.int (nI (z_ln a)) :: r) S) none))
    | _ => none
def z_o_ifCond (K : z_K) (go : z_K) (c : ClassFile.Cond) (off : Int) (pc z : Nat) (L : z_Lo) (st : List Value) (S : z_St) : z_Res := match st with
    | .int x :: r => match c with
      | .eq => if x = 0 then K (z_tg pc off) z L r S else go (pc + 3) z L r S
      | .ne => if x = 0 then go (pc + 3) z L r S else K (z_tg pc off) z L r S
      | .lt => if x < 0 then K (z_tg pc off) z L r S else go (pc + 3) z L r S
      | .ge => if 0 ≤ x then K (z_tg pc off) z L r S else go (pc + 3) z L r S
      | .gt => if 0 < x then K (z_tg pc off) z L r S else go (pc + 3) z L r S
      | .le => if x ≤ 0 then K (z_tg pc off) z L r S else go (pc + 3) z L r S
    | _ => none
def z_o_if_icmp (K : z_K) (go : z_K) (c : ClassFile.Cond) (off : Int) (pc z : Nat) (L : z_Lo) (st : List Value) (S : z_St) : z_Res := match st with
    | .int y :: .int x :: r => match c with
      | .eq => if x = y then K (z_tg pc off) z L r S else go (pc + 3) z L r S
      | .ne => if x = y then go (pc + 3) z L r S else K (z_tg pc off) z L r S
      | .lt => if x < y then K (z_tg pc off) z L r S else go (pc + 3) z L r S
      | .ge => if y ≤ x then K (z_tg pc off) z L r S else go (pc + 3) z L r S
      | .gt => if y < x then K (z_tg pc off) z L r S else go (pc + 3) z L r S
      | .le => if x ≤ y then K (z_tg pc off) z L r S else go (pc + 3) z L r S
    | _ => none
def z_o_if_acmp (K : z_K) (go : z_K) (c : ACond) (off : Int) (pc z : Nat) (L : z_Lo) (st : List Value) (S : z_St) : z_Res := match st with
    | .ref y :: .ref x :: r => cond (Nat.ble 1000 x && Nat.blt x 1017 && Nat.ble 1000 y && Nat.blt y 1017) (
        match c with
        | .eq => if x = y then K (z_tg pc off) z L r S else go (pc + 3) z L r S
        | .ne => if x = y then go (pc + 3) z L r S else K (z_tg pc off) z L r S) none
    | _ => none
def z_o_goto (K : z_K) (off : Int) (pc z : Nat) (L : z_Lo) (st : List Value) (S : z_St) : z_Res := K (z_tg pc off) z L st S
def z_o_tableswitch (K : z_K) (d : Int) (lo : Int) (hi : Int) (offs : Array Int) (pc z : Nat) (L : z_Lo) (st : List Value) (S : z_St) : z_Res := match st with
    | .int x :: r => z_sw x d lo hi offs (fun o => K (z_tg pc o) z L r S)
    | _ => none
def z_o_lookupswitch (K : z_K) (d : Int) (ps : Array (Int × Int)) (pc z : Nat) (L : z_Lo) (st : List Value) (S : z_St) : z_Res := match st with
    | .int x :: r => K (z_tg pc (Op.lookupswitch.offset ps.toList d x.toInt)) z L r S
    | _ => none
def z_o_invokevirtual (lm : Bool) (hd : List (Nat × Int32)) (E : z_Ev) (ops : List Nat) (go : z_K) (pc z : Nat) (L : z_Lo) (st : List Value) (S : z_St) : z_Res := z_call lm hd E go ops pc z L st S
def z_o_invokestatic (lm : Bool) (hd : List (Nat × Int32)) (E : z_Ev) (ops : List Nat) (go : z_K) (pc z : Nat) (L : z_Lo) (st : List Value) (S : z_St) : z_Res := z_call lm hd E go ops pc z L st S
def z_o_ireturn (rt : Option FieldType) (pc z : Nat) (L : z_Lo) (st : List Value) (S : z_St) : z_Res := match st with | [.int x] => cond (z_rb rt x) (some (.inl (some (.int x)), S)) none | _ => none
def z_o_areturn (lm : Bool) (pc z : Nat) (L : z_Lo) (st : List Value) (S : z_St) : z_Res := match st with | [.ref x] => cond (!lm) (some (.inl (some (.ref x)), S)) none | _ => none
def z_o_return_ (lm : Bool) (pc z : Nat) (L : z_Lo) (st : List Value) (S : z_St) : z_Res := match st with | [] => cond (!lm) (some (.inl none, S)) none | _ => none
def z_o_athrow (lm : Bool) (ops : List Nat) (pc z : Nat) (L : z_Lo) (st : List Value) (S : z_St) : z_Res := match st with | [] => (match ops with | e :: _ => cond lm none (some (.inr e, S)) | _ => none) | _ => none
/-- one instruction -/
def z_st (lm : Bool) (rt : Option FieldType) (hd : List (Nat × Int32)) (E : z_Ev) (K go : z_K) (i : Instr) (ops : List Nat) (pc z : Nat) (L : z_Lo) (st : List Value) (S : z_St) : z_Res :=
  match i with
  | .iconst n => z_o_iconst go n pc z L st S
  | .bipush n => z_o_bipush go n pc z L st S
  | .sipush n => z_o_sipush go n pc z L st S
  | .lconst n => z_o_lconst go n pc z L st S
  | .aload_n k => z_o_aload_n go k pc z L st S
  | .aload k => z_o_aload go k pc z L st S
  | .iload_n k => z_o_iload_n go k pc z L st S
  | .iload k => z_o_iload go k pc z L st S
  | .lload_n k => z_o_lload_n go k pc z L st S
  | .lload k => z_o_lload go k pc z L st S
  | .istore_n k => z_o_istore_n go k pc z L st S
  | .istore k => z_o_istore go k pc z L st S
  | .astore_n k => z_o_astore_n go k pc z L st S
  | .astore k => z_o_astore go k pc z L st S
  | .lstore_n k => z_o_lstore_n go k pc z L st S
  | .lstore k => z_o_lstore go k pc z L st S
  | .iinc k n => z_o_iinc go k n pc z L st S
  | .iadd => z_o_iadd go pc z L st S
  | .isub => z_o_isub go pc z L st S
  | .imul => z_o_imul go pc z L st S
  | .iand => z_o_iand go pc z L st S
  | .ior => z_o_ior go pc z L st S
  | .ixor => z_o_ixor go pc z L st S
  | .ishl => z_o_ishl go pc z L st S
  | .ishr => z_o_ishr go pc z L st S
  | .iushr => z_o_iushr go pc z L st S
  | .idiv => z_o_idiv go pc z L st S
  | .irem => z_o_irem go pc z L st S
  | .ineg => z_o_ineg go pc z L st S
  | .ladd => z_o_ladd go pc z L st S
  | .lsub => z_o_lsub go pc z L st S
  | .land => z_o_land go pc z L st S
  | .lor => z_o_lor go pc z L st S
  | .lshl => z_o_lshl go pc z L st S
  | .lushr => z_o_lushr go pc z L st S
  | .lcmp => z_o_lcmp go pc z L st S
  | .i2l => z_o_i2l go pc z L st S
  | .l2i => z_o_l2i go pc z L st S
  | .i2b => z_o_i2b go pc z L st S
  | .dup => z_o_dup go pc z L st S
  | .dup2 => z_o_dup2 go pc z L st S
  | .getfield _ => z_o_getfield ops go pc z L st S
  | .putfield _ => z_o_putfield ops go pc z L st S
  | .getstatic _ => z_o_getstatic ops go pc z L st S
  | .ldc _ => z_o_ldc ops go pc z L st S
  | .ldc_w _ => z_o_ldc_w ops go pc z L st S
  | .ldc2_w _ => z_o_ldc2_w ops go pc z L st S
  | .iaload => z_o_iaload lm go pc z L st S
  | .baload => z_o_baload go pc z L st S
  | .laload => z_o_laload go pc z L st S
  | .aaload => z_o_aaload go pc z L st S
  | .iastore => z_o_iastore go pc z L st S
  | .bastore => z_o_bastore go pc z L st S
  | .lastore => z_o_lastore go pc z L st S
  | .arraylength => z_o_arraylength lm go pc z L st S
  | .ifCond c off => z_o_ifCond K go c off pc z L st S
  | .if_icmp c off => z_o_if_icmp K go c off pc z L st S
  | .if_acmp c off => z_o_if_acmp K go c off pc z L st S
  | .goto off => z_o_goto K off pc z L st S
  | .tableswitch d lo hi offs => z_o_tableswitch K d lo hi offs pc z L st S
  | .lookupswitch d ps => z_o_lookupswitch K d ps pc z L st S
  | .invokevirtual _ => z_o_invokevirtual lm hd E ops go pc z L st S
  | .invokestatic _ => z_o_invokestatic lm hd E ops go pc z L st S
  | .ireturn => z_o_ireturn rt pc z L st S
  | .areturn => z_o_areturn lm pc z L st S
  | .return_ => z_o_return_ lm pc z L st S
  | .athrow => z_o_athrow lm ops pc z L st S
  | _ => none
/-- a block -/
def z_ex (lm : Bool) (rt : Option FieldType) (hd : List (Nat × Int32)) (E : z_Ev) (K : z_K) : List z_I → z_K
  | [] => fun pc z L st S => K pc z L st S
  | x :: is => fun pc z L st S => z_st lm rt hd E K (z_ex lm rt hd E K is) x.1 x.2.2 pc z L st S
def z_fnd {α : Type} : List (Nat × α) → Nat → Option α
  | [], _ => none
  | q :: l, k => cond (Nat.beq q.1 k) (some q.2) (z_fnd l k)
/-- a method from one of its blocks on -/
def z_run (lm : Bool) (rt : Option FieldType) (hd : List (Nat × Int32)) (E : z_Ev) (B : z_B) : Nat → z_K
  | 0 => fun _ _ _ _ _ => none
  | n + 1 => fun pc z L st S => match z_fnd B pc with
    | some q => z_ex lm rt hd E (z_run lm rt hd E B n) q.2 pc z (z_mk q.1 L) st S
    | none => none
def z_sl : List Value → z_Lo
  | [] => []
  | .long x :: r => some (.long x) :: none :: z_sl r
  | .double x :: r => some (.double x) :: none :: z_sl r
  | v :: r => some v :: z_sl r
def z_in (n : Nat) (as : List Value) : z_Lo := (z_sl as ++ List.replicate n none).take n
noncomputable def z_fuel : Nat := 1000000
noncomputable def z_m (m : Nat) : MethodName × ByteArray × Nat × Option FieldType × Nat × List (Nat × Int32) := z_md.getD m (⟨"", "", ""⟩, ⟨#[]⟩, 0, none, 0, [])
/-- what a method answers, to a depth of calls -/
noncomputable def z_ev : Nat → z_Ev
  | 0 => fun _ _ _ => none
  | d + 1 => fun m as S => z_run false (z_m m).2.2.2.1 (z_m m).2.2.2.2.2 (z_ev d) (z_bs.getD m []) z_fuel 0 0 (z_in (z_m m).2.2.1 as) [] S
end
section
/-! a block's walk, a row an instruction: what it comes to if the rest comes to R -/
section ZS
variable {lm : Bool} {rt : Option FieldType} {hd : List (Nat × Int32)} {E : z_Ev} {K : z_K} {is : List z_I} {len : Nat} {ops : List Nat} {pc z : Nat} {L : z_Lo} {st r : List Value} {S : z_St} {R A B : z_Res}
theorem zs_cd {c : Bool} (hc : c = true) (h : A = R) : cond c A none = R := by subst hc; exact h
theorem zs_cf {c : Bool} (hc : c = false) (h : B = R) : cond c A B = R := by subst hc; exact h
theorem zs_cc {c : Bool} {A' : z_Res} (h : A = A') : cond c A none = cond c A' none := by subst h; rfl
theorem zs_ct {c : Bool} (hc : c = true) (h : A = R) : cond c A B = R := by subst hc; exact h
theorem zs_nil (h : K pc z L st S = R) : z_ex lm rt hd E K [] pc z L st S = R := h
theorem zs_iconst {n : Int} {v : Int32} (hv : z_cn n = v) (h : z_ex lm rt hd E K is (pc + 1) z L (.int v :: st) S = R) : z_ex lm rt hd E K ((.iconst n, len, ops) :: is) pc z L st S = R := by subst hv; exact h
theorem zs_bipush {n : Int} {v : Int32} (hv : z_cn n = v) (h : z_ex lm rt hd E K is (pc + 2) z L (.int v :: st) S = R) : z_ex lm rt hd E K ((.bipush n, len, ops) :: is) pc z L st S = R := by subst hv; exact h
theorem zs_sipush {n : Int} {v : Int32} (hv : z_cn n = v) (h : z_ex lm rt hd E K is (pc + 3) z L (.int v :: st) S = R) : z_ex lm rt hd E K ((.sipush n, len, ops) :: is) pc z L st S = R := by subst hv; exact h
theorem zs_lconst {n : Fin 2} {v : Int64} (hv : lN n = v) (h : z_ex lm rt hd E K is (pc + 1) z L (.long v :: st) S = R) : z_ex lm rt hd E K ((.lconst n, len, ops) :: is) pc z L st S = R := by subst hv; exact h
theorem zs_aload_n {k : Fin 4} {a : Nat} (hl : z_lg L k = some (.ref a)) (h : z_ex lm rt hd E K is (pc + 1) z L (.ref a :: st) S = R) : z_ex lm rt hd E K ((.aload_n k, len, ops) :: is) pc z L st S = R := by
  show z_o_aload_n _ _ _ _ _ _ _ = R; unfold z_o_aload_n; rw [hl]; exact h
theorem zs_aload {k : Nat} {a : Nat} (hl : z_lg L k = some (.ref a)) (h : z_ex lm rt hd E K is (pc + 2) z L (.ref a :: st) S = R) : z_ex lm rt hd E K ((.aload k, len, ops) :: is) pc z L st S = R := by
  show z_o_aload _ _ _ _ _ _ _ = R; unfold z_o_aload; rw [hl]; exact h
theorem zs_iload_n {k : Fin 4} {a : Int32} (hl : z_lg L k = some (.int a)) (h : z_ex lm rt hd E K is (pc + 1) z L (.int a :: st) S = R) : z_ex lm rt hd E K ((.iload_n k, len, ops) :: is) pc z L st S = R := by
  show z_o_iload_n _ _ _ _ _ _ _ = R; unfold z_o_iload_n; rw [hl]; exact h
theorem zs_iload {k : Nat} {a : Int32} (hl : z_lg L k = some (.int a)) (h : z_ex lm rt hd E K is (pc + 2) z L (.int a :: st) S = R) : z_ex lm rt hd E K ((.iload k, len, ops) :: is) pc z L st S = R := by
  show z_o_iload _ _ _ _ _ _ _ = R; unfold z_o_iload; rw [hl]; exact h
theorem zs_lload_n {k : Fin 4} {a : Int64} (hl : z_lg L k = some (.long a)) (h : z_ex lm rt hd E K is (pc + 1) z L (.long a :: st) S = R) : z_ex lm rt hd E K ((.lload_n k, len, ops) :: is) pc z L st S = R := by
  show z_o_lload_n _ _ _ _ _ _ _ = R; unfold z_o_lload_n; rw [hl]; exact h
theorem zs_lload {k : Nat} {a : Int64} (hl : z_lg L k = some (.long a)) (h : z_ex lm rt hd E K is (pc + 2) z L (.long a :: st) S = R) : z_ex lm rt hd E K ((.lload k, len, ops) :: is) pc z L st S = R := by
  show z_o_lload _ _ _ _ _ _ _ = R; unfold z_o_lload; rw [hl]; exact h
theorem zs_istore_n {k : Fin 4} {x : Int32} {L' : z_Lo} (hn : Nat.blt k L.length = true) (hl : z_s1 L k (.int x) = L') (h : z_ex lm rt hd E K is (pc + 1) z L' r S = R) : z_ex lm rt hd E K ((.istore_n k, len, ops) :: is) pc z L (.int x :: r) S = R := by subst hl; exact zs_cd hn h
theorem zs_istore {k : Nat} {x : Int32} {L' : z_Lo} (hn : Nat.blt k L.length = true) (hl : z_s1 L k (.int x) = L') (h : z_ex lm rt hd E K is (pc + 2) z L' r S = R) : z_ex lm rt hd E K ((.istore k, len, ops) :: is) pc z L (.int x :: r) S = R := by subst hl; exact zs_cd hn h
theorem zs_astore_n {k : Fin 4} {x : Nat} {L' : z_Lo} (hn : Nat.blt k L.length = true) (hl : z_s1 L k (.ref x) = L') (h : z_ex lm rt hd E K is (pc + 1) z L' r S = R) : z_ex lm rt hd E K ((.astore_n k, len, ops) :: is) pc z L (.ref x :: r) S = R := by subst hl; exact zs_cd hn h
theorem zs_astore {k : Nat} {x : Nat} {L' : z_Lo} (hn : Nat.blt k L.length = true) (hl : z_s1 L k (.ref x) = L') (h : z_ex lm rt hd E K is (pc + 2) z L' r S = R) : z_ex lm rt hd E K ((.astore k, len, ops) :: is) pc z L (.ref x :: r) S = R := by subst hl; exact zs_cd hn h
theorem zs_lstore_n {k : Fin 4} {x : Int64} {L' : z_Lo} (hn : Nat.blt (k + 1) L.length = true) (hl : z_s2 L k (.long x) = L') (h : z_ex lm rt hd E K is (pc + 1) z L' r S = R) : z_ex lm rt hd E K ((.lstore_n k, len, ops) :: is) pc z L (.long x :: r) S = R := by subst hl; exact zs_cd hn h
theorem zs_lstore {k : Nat} {x : Int64} {L' : z_Lo} (hn : Nat.blt (k + 1) L.length = true) (hl : z_s2 L k (.long x) = L') (h : z_ex lm rt hd E K is (pc + 2) z L' r S = R) : z_ex lm rt hd E K ((.lstore k, len, ops) :: is) pc z L (.long x :: r) S = R := by subst hl; exact zs_cd hn h
theorem zs_iinc {k : Nat} {n : Int} {x v : Int32} {L' : z_Lo} (h0 : z_lg L k = some (.int x)) (hv : z_cn n = v) (hn : Nat.blt k L.length = true) (hl : z_s1 L k (.int (x + v)) = L') (h : z_ex lm rt hd E K is (pc + 3) z L' st S = R) : z_ex lm rt hd E K ((.iinc k n, len, ops) :: is) pc z L st S = R := by
  show z_o_iinc _ _ _ _ _ _ _ _ = R; unfold z_o_iinc; rw [h0]; dsimp only; rw [hn, hv, hl]; exact h
theorem zs_iadd {x y : Int32} (h : z_ex lm rt hd E K is (pc + 1) z L (.int (x + y) :: r) S = R) : z_ex lm rt hd E K ((.iadd, len, ops) :: is) pc z L (.int y :: .int x :: r) S = R := h
theorem zs_isub {x y : Int32} (h : z_ex lm rt hd E K is (pc + 1) z L (.int (x - y) :: r) S = R) : z_ex lm rt hd E K ((.isub, len, ops) :: is) pc z L (.int y :: .int x :: r) S = R := h
theorem zs_imul {x y : Int32} (h : z_ex lm rt hd E K is (pc + 1) z L (.int (x * y) :: r) S = R) : z_ex lm rt hd E K ((.imul, len, ops) :: is) pc z L (.int y :: .int x :: r) S = R := h
theorem zs_iand {x y : Int32} (h : z_ex lm rt hd E K is (pc + 1) z L (.int (x &&& y) :: r) S = R) : z_ex lm rt hd E K ((.iand, len, ops) :: is) pc z L (.int y :: .int x :: r) S = R := h
theorem zs_ior {x y : Int32} (h : z_ex lm rt hd E K is (pc + 1) z L (.int (x ||| y) :: r) S = R) : z_ex lm rt hd E K ((.ior, len, ops) :: is) pc z L (.int y :: .int x :: r) S = R := h
theorem zs_ixor {x y : Int32} (h : z_ex lm rt hd E K is (pc + 1) z L (.int (x ^^^ y) :: r) S = R) : z_ex lm rt hd E K ((.ixor, len, ops) :: is) pc z L (.int y :: .int x :: r) S = R := h
theorem zs_ishl {x y : Int32} (h : z_ex lm rt hd E K is (pc + 1) z L (.int (x <<< (y &&& 31)) :: r) S = R) : z_ex lm rt hd E K ((.ishl, len, ops) :: is) pc z L (.int y :: .int x :: r) S = R := h
theorem zs_ishr {x y : Int32} (h : z_ex lm rt hd E K is (pc + 1) z L (.int (x >>> (y &&& 31)) :: r) S = R) : z_ex lm rt hd E K ((.ishr, len, ops) :: is) pc z L (.int y :: .int x :: r) S = R := h
theorem zs_iushr {x y : Int32} (h : z_ex lm rt hd E K is (pc + 1) z L (.int (x.toUInt32 >>> (y.toUInt32 &&& Int32.toUInt32 31)).toInt32 :: r) S = R) : z_ex lm rt hd E K ((.iushr, len, ops) :: is) pc z L (.int y :: .int x :: r) S = R := h
theorem zs_idivc {x y : Int32} (hy : ¬ y = 0) (h : z_ex lm rt hd E K is (pc + 1) z L (.int (x / y) :: r) S = R) : z_ex lm rt hd E K ((.idiv, len, ops) :: is) pc z L (.int y :: .int x :: r) S = R := (if_neg hy).trans h
theorem zs_iremc {x y : Int32} (hy : ¬ y = 0) (h : z_ex lm rt hd E K is (pc + 1) z L (.int (x - x / y * y) :: r) S = R) : z_ex lm rt hd E K ((.irem, len, ops) :: is) pc z L (.int y :: .int x :: r) S = R := (if_neg hy).trans h
theorem zs_idiv {x y : Int32} (h : z_ex lm rt hd E K is (pc + 1) z L (.int (x / y) :: r) S = R) : z_ex lm rt hd E K ((.idiv, len, ops) :: is) pc z L (.int y :: .int x :: r) S = if y = 0 then none else R := by subst h; rfl
theorem zs_irem {x y : Int32} (h : z_ex lm rt hd E K is (pc + 1) z L (.int (x - x / y * y) :: r) S = R) : z_ex lm rt hd E K ((.irem, len, ops) :: is) pc z L (.int y :: .int x :: r) S = if y = 0 then none else R := by subst h; rfl
theorem zs_ineg {x : Int32} (h : z_ex lm rt hd E K is (pc + 1) z L (.int (-x) :: r) S = R) : z_ex lm rt hd E K ((.ineg, len, ops) :: is) pc z L (.int x :: r) S = R := h
theorem zs_ladd {x y : Int64} (h : z_ex lm rt hd E K is (pc + 1) z L (.long (x + y) :: r) S = R) : z_ex lm rt hd E K ((.ladd, len, ops) :: is) pc z L (.long y :: .long x :: r) S = R := h
theorem zs_lsub {x y : Int64} (h : z_ex lm rt hd E K is (pc + 1) z L (.long (x - y) :: r) S = R) : z_ex lm rt hd E K ((.lsub, len, ops) :: is) pc z L (.long y :: .long x :: r) S = R := h
theorem zs_land {x y : Int64} (h : z_ex lm rt hd E K is (pc + 1) z L (.long (x &&& y) :: r) S = R) : z_ex lm rt hd E K ((.land, len, ops) :: is) pc z L (.long y :: .long x :: r) S = R := h
theorem zs_lor {x y : Int64} (h : z_ex lm rt hd E K is (pc + 1) z L (.long (x ||| y) :: r) S = R) : z_ex lm rt hd E K ((.lor, len, ops) :: is) pc z L (.long y :: .long x :: r) S = R := h
theorem zs_lshl {x : Int64} {y : Int32} (h : z_ex lm rt hd E K is (pc + 1) z L (.long (x <<< (y.toInt64 &&& 63)) :: r) S = R) : z_ex lm rt hd E K ((.lshl, len, ops) :: is) pc z L (.int y :: .long x :: r) S = R := h
theorem zs_lushr {x : Int64} {y : Int32} (h : z_ex lm rt hd E K is (pc + 1) z L (.long (x.toUInt64 >>> (y.toInt64.toUInt64 &&& Int64.toUInt64 63)).toInt64 :: r) S = R) : z_ex lm rt hd E K ((.lushr, len, ops) :: is) pc z L (.int y :: .long x :: r) S = R := h
theorem zs_lcmp {x y : Int64} (h : z_ex lm rt hd E K is (pc + 1) z L (.int (lg_cmp x y) :: r) S = R) : z_ex lm rt hd E K ((.lcmp, len, ops) :: is) pc z L (.long y :: .long x :: r) S = R := h
theorem zs_i2l {x : Int32} (h : z_ex lm rt hd E K is (pc + 1) z L (.long x.toInt64 :: r) S = R) : z_ex lm rt hd E K ((.i2l, len, ops) :: is) pc z L (.int x :: r) S = R := h
theorem zs_l2i {x : Int64} (h : z_ex lm rt hd E K is (pc + 1) z L (.int x.toInt32 :: r) S = R) : z_ex lm rt hd E K ((.l2i, len, ops) :: is) pc z L (.long x :: r) S = R := h
theorem zs_i2b {x : Int32} (h : z_ex lm rt hd E K is (pc + 1) z L (.int x.toInt8.toInt32 :: r) S = R) : z_ex lm rt hd E K ((.i2b, len, ops) :: is) pc z L (.int x :: r) S = R := h
theorem zs_dupi {x : Int32} (h : z_ex lm rt hd E K is (pc + 1) z L (.int x :: .int x :: r) S = R) : z_ex lm rt hd E K ((.dup, len, ops) :: is) pc z L (.int x :: r) S = R := h
theorem zs_dupr {x : Nat} (h : z_ex lm rt hd E K is (pc + 1) z L (.ref x :: .ref x :: r) S = R) : z_ex lm rt hd E K ((.dup, len, ops) :: is) pc z L (.ref x :: r) S = R := h
theorem zs_dup2 {x : Int32} {a : Nat} (h : z_ex lm rt hd E K is (pc + 1) z L (.int x :: .ref a :: .int x :: .ref a :: r) S = R) : z_ex lm rt hd E K ((.dup2, len, ops) :: is) pc z L (.int x :: .ref a :: r) S = R := h
/-- a field: the check is passed by, or it stays -/
theorem zs_get0 {i c k v a : Nat} {x : Int32} (hO : z_isO c a = true) (hv : S.1 a k = x) (h : z_ex lm rt hd E K is (pc + 3) z L (.int x :: r) S = R) : z_ex lm rt hd E K ((.getfield i, len, c :: k :: 0 :: v :: ops) :: is) pc z L (.ref a :: r) S = R := by subst hv; exact zs_cd hO h
theorem zs_get0c {i c k v a : Nat} {x : Int32} (hv : S.1 a k = x) (h : z_ex lm rt hd E K is (pc + 3) z L (.int x :: r) S = R) : z_ex lm rt hd E K ((.getfield i, len, c :: k :: 0 :: v :: ops) :: is) pc z L (.ref a :: r) S = cond (z_isO c a) R none := by subst hv; exact zs_cc h
theorem zs_get1 {i c k v a : Nat} {x : Int32} (hO : z_isO c a = true) (hv : S.1 a k = x) (h : z_ex lm rt hd E K is (pc + 3) z L (.ref x.toNatClampNeg :: r) S = R) : z_ex lm rt hd E K ((.getfield i, len, c :: k :: 1 :: v :: ops) :: is) pc z L (.ref a :: r) S = cond (decide (x = -1)) none R := by subst hv; subst h; exact zs_cd hO rfl
theorem zs_get2 {i c k v a b : Nat} (hO : z_isO c a = true) (hv : a + v = b) (h : z_ex lm rt hd E K is (pc + 3) z L (.ref b :: r) S = R) : z_ex lm rt hd E K ((.getfield i, len, c :: k :: 2 :: v :: ops) :: is) pc z L (.ref a :: r) S = R := by subst hv; exact zs_cd hO h
theorem zs_get2c {i c k v a b : Nat} (hv : a + v = b) (h : z_ex lm rt hd E K is (pc + 3) z L (.ref b :: r) S = R) : z_ex lm rt hd E K ((.getfield i, len, c :: k :: 2 :: v :: ops) :: is) pc z L (.ref a :: r) S = cond (z_isO c a) R none := by subst hv; exact zs_cc h
theorem zs_get3 {i c k v a : Nat} (hO : z_isO c a = true) (h : z_ex lm rt hd E K is (pc + 3) z L (.ref v :: r) S = R) : z_ex lm rt hd E K ((.getfield i, len, c :: k :: 3 :: v :: ops) :: is) pc z L (.ref a :: r) S = R := zs_cd hO h
theorem zs_get4c {i c k v a : Nat} (h : z_ex lm rt hd E K is (pc + 3) z L (.ref (a + 200) :: r) S = R) : z_ex lm rt hd E K ((.getfield i, len, c :: k :: 4 :: v :: ops) :: is) pc z L (.ref a :: r) S = cond (z_isO c a) R none := zs_cc h
theorem zs_get5c {i c k v a : Nat} (h : z_ex lm rt hd E K is (pc + 3) z L (.int (z_wv.getD (a - 1000) 0) :: r) S = R) : z_ex lm rt hd E K ((.getfield i, len, c :: k :: 5 :: v :: ops) :: is) pc z L (.ref a :: r) S = cond (z_isO c a) R none := zs_cc h
theorem zs_put {i c k t v a : Nat} {x : Int32} (hO : (z_isO c a && Nat.beq t 0 && z_nb v x) = true) {S' : z_St} (hS : (z_w1 S.1 a k x, S.2) = S') (h : z_ex lm rt hd E K is (pc + 3) z L r S' = R) : z_ex lm rt hd E K ((.putfield i, len, c :: k :: t :: v :: ops) :: is) pc z L (.int x :: .ref a :: r) S = R := by subst hS; exact zs_cd hO h
theorem zs_putb {i c k t a : Nat} {x : Int32} (hO : (z_isO c a && Nat.beq t 0) = true) {S' : z_St} (hS : (z_w1 S.1 a k x, S.2) = S') (h : z_ex lm rt hd E K is (pc + 3) z L r S' = R) : z_ex lm rt hd E K ((.putfield i, len, c :: k :: t :: 1 :: ops) :: is) pc z L (.int x :: .ref a :: r) S = cond (z_nb 1 x) R none := by
  subst hS; subst h; show cond (z_isO c a && Nat.beq t 0 && z_nb 1 x) _ none = _; rw [hO]; rfl
theorem zs_putc {i c k t v a : Nat} {x : Int32} {S' : z_St} (hS : (z_w1 S.1 a k x, S.2) = S') (h : z_ex lm rt hd E K is (pc + 3) z L r S' = R) : z_ex lm rt hd E K ((.putfield i, len, c :: k :: t :: v :: ops) :: is) pc z L (.int x :: .ref a :: r) S = cond (z_isO c a && Nat.beq t 0 && z_nb v x) R none := by subst hS; exact zs_cc h
theorem zs_putr {i c k t v a b : Nat} (hO : (z_isO c a && Nat.beq t 1 && Nat.blt b 2000) = true) {S' : z_St} (hS : (z_w1 S.1 a k (nI b), S.2) = S') (h : z_ex lm rt hd E K is (pc + 3) z L r S' = R) : z_ex lm rt hd E K ((.putfield i, len, c :: k :: t :: v :: ops) :: is) pc z L (.ref b :: .ref a :: r) S = R := by subst hS; exact zs_cd hO h
theorem zs_putrc {i c k t v a b : Nat} (hO : (z_isO c a && Nat.beq t 1) = true) {S' : z_St} (hS : (z_w1 S.1 a k (nI b), S.2) = S') (h : z_ex lm rt hd E K is (pc + 3) z L r S' = R) : z_ex lm rt hd E K ((.putfield i, len, c :: k :: t :: v :: ops) :: is) pc z L (.ref b :: .ref a :: r) S = cond (Nat.blt b 2000) R none := by
  subst hS; subst h; show cond (z_isO c a && Nat.beq t 1 && Nat.blt b 2000) _ none = _; rw [hO]; rfl
theorem zs_getstatic {i v : Nat} (h : z_ex lm rt hd E K is (pc + 3) z L (.ref v :: st) S = R) : z_ex lm rt hd E K ((.getstatic i, len, v :: ops) :: is) pc z L st S = R := h
theorem zs_ldc0 {i v : Nat} (h : z_ex lm rt hd E K is (pc + 2) z L (.int (nI v) :: st) S = R) : z_ex lm rt hd E K ((.ldc i, len, 0 :: v :: ops) :: is) pc z L st S = R := h
theorem zs_ldc1 {i v : Nat} (h : z_ex lm rt hd E K is (pc + 2) z L (.ref v :: st) S = R) : z_ex lm rt hd E K ((.ldc i, len, 1 :: v :: ops) :: is) pc z L st S = R := h
theorem zs_ldc_w0 {i v : Nat} (h : z_ex lm rt hd E K is (pc + 3) z L (.int (nI v) :: st) S = R) : z_ex lm rt hd E K ((.ldc_w i, len, 0 :: v :: ops) :: is) pc z L st S = R := h
theorem zs_ldc_w1 {i v : Nat} (h : z_ex lm rt hd E K is (pc + 3) z L (.ref v :: st) S = R) : z_ex lm rt hd E K ((.ldc_w i, len, 1 :: v :: ops) :: is) pc z L st S = R := h
theorem zs_ldc2_w {i v : Nat} (h : z_ex lm rt hd E K is (pc + 3) z L (.long (lN v) :: st) S = R) : z_ex lm rt hd E K ((.ldc2_w i, len, v :: ops) :: is) pc z L st S = R := h
/-- rows of numbers -/
theorem zs_iaS {x w v : Int32} (hl : lm = true) (hw : S.1 1301 0 = w) (hv : S.1 1300 x.toNatClampNeg = v) (h : z_ex lm rt hd E K is (pc + 1) z L (.int v :: r) S = R) : z_ex lm rt hd E K ((.iaload, len, ops) :: is) pc z L (.int x :: .ref 1300 :: r) S = cond (z_ix x w.toNatClampNeg) R none := by subst hl; subst hw; subst hv; subst h; simp only [z_ex, z_st, z_o_iaload]; rw [show (true && Nat.beq 1300 1300) = true from by decide]; rfl
theorem zs_ia {x v : Int32} {a n : Nat} (ha : (lm && Nat.beq a 1300) = false) (ht : Nat.beq (z_at a) 1 = true) (hn : z_ln a = n) (hv : S.1 a x.toNatClampNeg = v) (h : z_ex lm rt hd E K is (pc + 1) z L (.int v :: r) S = R) : z_ex lm rt hd E K ((.iaload, len, ops) :: is) pc z L (.int x :: .ref a :: r) S = cond (z_ix x n) R none := by
  subst hn; subst hv; subst h; refine zs_cf ha ?_; show cond (Nat.beq (z_at a) 1 && _) _ none = _; rw [ht]; rfl
theorem zs_iac {x v : Int32} {a : Nat} (ha : (lm && Nat.beq a 1300) = false) (hv : S.1 a x.toNatClampNeg = v) (h : z_ex lm rt hd E K is (pc + 1) z L (.int v :: r) S = R) : z_ex lm rt hd E K ((.iaload, len, ops) :: is) pc z L (.int x :: .ref a :: r) S = cond (Nat.beq (z_at a) 1 && z_ix x (z_ln a)) R none := by
  subst hv; subst h; exact zs_cf ha rfl
theorem zs_ba {x v : Int32} {a n : Nat} (ht : (Nat.beq (z_at a) 2 || Nat.beq (z_at a) 3) = true) (hn : z_ln a = n) (hv : S.1 a x.toNatClampNeg = v) (h : z_ex lm rt hd E K is (pc + 1) z L (.int v :: r) S = R) : z_ex lm rt hd E K ((.baload, len, ops) :: is) pc z L (.int x :: .ref a :: r) S = cond (z_ix x n) R none := by
  subst hn; subst hv; subst h; show cond ((Nat.beq (z_at a) 2 || Nat.beq (z_at a) 3) && _) _ none = _; rw [ht]; rfl
theorem zs_la {x : Int32} {v : Int64} {a n : Nat} (ht : Nat.beq (z_at a) 4 = true) (hn : z_ln a = n) (hv : S.2 a x.toNatClampNeg = v) (h : z_ex lm rt hd E K is (pc + 1) z L (.long v :: r) S = R) : z_ex lm rt hd E K ((.laload, len, ops) :: is) pc z L (.int x :: .ref a :: r) S = cond (z_ix x n) R none := by
  subst hn; subst hv; subst h; show cond (Nat.beq (z_at a) 4 && _) _ none = _; rw [ht]; rfl
theorem zs_aaA {x : Int32} (h : z_ex lm rt hd E K is (pc + 1) z L (.ref (1000 + x.toNatClampNeg) :: r) S = R) : z_ex lm rt hd E K ((.aaload, len, ops) :: is) pc z L (.int x :: .ref 1100 :: r) S = cond (z_ix x 17) R none := by subst h; simp only [z_ex, z_st, z_o_aaload]; rw [show Nat.beq 1100 1100 = true from by decide]; rfl
theorem zs_aa {x : Int32} {a n : Nat} (ha : Nat.beq a 1100 = false) (ht : Nat.beq (z_at a) 5 = true) (hn : z_ln a = n) (h : z_ex lm rt hd E K is (pc + 1) z L (.ref (z_vs.getD x.toNatClampNeg 0) :: r) S = R) : z_ex lm rt hd E K ((.aaload, len, ops) :: is) pc z L (.int x :: .ref a :: r) S = cond (z_ix x n) R none := by
  subst hn; subst h; refine zs_cf ha ?_; show cond (Nat.beq (z_at a) 5 && _) _ none = _; rw [ht]; rfl
theorem zs_ias {x v : Int32} {a n : Nat} (ht : Nat.beq (z_at a) 1 = true) (hn : z_ln a = n) {S' : z_St} (hS : (z_w1 S.1 a x.toNatClampNeg v, S.2) = S') (h : z_ex lm rt hd E K is (pc + 1) z L r S' = R) : z_ex lm rt hd E K ((.iastore, len, ops) :: is) pc z L (.int v :: .int x :: .ref a :: r) S = cond (z_ix x n) R none := by
  subst hS; subst hn; subst h; show cond (Nat.beq (z_at a) 1 && _) _ none = _; rw [ht]; rfl
theorem zs_iasc {x v : Int32} {a : Nat} {S' : z_St} (hS : (z_w1 S.1 a x.toNatClampNeg v, S.2) = S') (h : z_ex lm rt hd E K is (pc + 1) z L r S' = R) : z_ex lm rt hd E K ((.iastore, len, ops) :: is) pc z L (.int v :: .int x :: .ref a :: r) S = cond (Nat.beq (z_at a) 1 && z_ix x (z_ln a)) R none := by subst hS; exact zs_cc h
theorem zs_bas2 {x v : Int32} {a n : Nat} (ht : z_at a = 2) (hn : z_ln a = n) {S' : z_St} (hS : (z_w1 S.1 a x.toNatClampNeg (vp_nar .byte v), S.2) = S') (h : z_ex lm rt hd E K is (pc + 1) z L r S' = R) : z_ex lm rt hd E K ((.bastore, len, ops) :: is) pc z L (.int v :: .int x :: .ref a :: r) S = cond (z_ix x n) R none := by
  subst hS; subst hn; subst h; simp only [z_ex, z_st, z_o_bastore, ht]
theorem zs_bas3 {x v : Int32} {a n : Nat} (ht : z_at a = 3) (hn : z_ln a = n) {S' : z_St} (hS : (z_w1 S.1 a x.toNatClampNeg (vp_nar .boolean v), S.2) = S') (h : z_ex lm rt hd E K is (pc + 1) z L r S' = R) : z_ex lm rt hd E K ((.bastore, len, ops) :: is) pc z L (.int v :: .int x :: .ref a :: r) S = cond (z_ix x n) R none := by
  subst hS; subst hn; subst h; simp only [z_ex, z_st, z_o_bastore, ht]
theorem zs_las {x : Int32} {v : Int64} {a n : Nat} (ht : Nat.beq (z_at a) 4 = true) (hn : z_ln a = n) {S' : z_St} (hS : (S.1, z_w2 S.2 a x.toNatClampNeg v) = S') (h : z_ex lm rt hd E K is (pc + 1) z L r S' = R) : z_ex lm rt hd E K ((.lastore, len, ops) :: is) pc z L (.long v :: .int x :: .ref a :: r) S = cond (z_ix x n) R none := by
  subst hS; subst hn; subst h; show cond (Nat.beq (z_at a) 4 && _) _ none = _; rw [ht]; rfl
theorem zs_lasc {x : Int32} {v : Int64} {a : Nat} {S' : z_St} (hS : (S.1, z_w2 S.2 a x.toNatClampNeg v) = S') (h : z_ex lm rt hd E K is (pc + 1) z L r S' = R) : z_ex lm rt hd E K ((.lastore, len, ops) :: is) pc z L (.long v :: .int x :: .ref a :: r) S = cond (Nat.beq (z_at a) 4 && z_ix x (z_ln a)) R none := by subst hS; exact zs_cc h
/-- an index that is plain: the check goes -/
theorem zs_x {x : Int32} {n : Nat} {T : z_Res} (h : T = cond (z_ix x n) R none) (hx : z_ix x n = true) : T = R := by rw [h, hx]; rfl
theorem zs_alS {w : Int32} (hl : lm = true) (hw : S.1 1301 0 = w) (h : z_ex lm rt hd E K is (pc + 1) z L (.int w :: r) S = R) : z_ex lm rt hd E K ((.arraylength, len, ops) :: is) pc z L (.ref 1300 :: r) S = R := by subst hl; subst hw; exact h
theorem zs_alA (hl : lm = false) (h : z_ex lm rt hd E K is (pc + 1) z L (.int (nI 17) :: r) S = R) : z_ex lm rt hd E K ((.arraylength, len, ops) :: is) pc z L (.ref 1100 :: r) S = R := by subst hl; exact h
theorem zs_al {a n : Nat} (hl : lm = false) (h1 : Nat.beq a 1100 = false) (h2 : Nat.blt 0 (z_at a) = true) (hn : z_ln a = n) (h : z_ex lm rt hd E K is (pc + 1) z L (.int (nI n) :: r) S = R) : z_ex lm rt hd E K ((.arraylength, len, ops) :: is) pc z L (.ref a :: r) S = R := by
  subst hl; subst hn; exact zs_cf h1 (zs_cd h2 h)
theorem zs_alc {a : Nat} (hl : lm = false) (h1 : z_ex lm rt hd E K is (pc + 1) z L (.int (nI 17) :: r) S = A) (h : z_ex lm rt hd E K is (pc + 1) z L (.int (nI (z_ln a)) :: r) S = R) : z_ex lm rt hd E K ((.arraylength, len, ops) :: is) pc z L (.ref a :: r) S = cond (Nat.beq a 1100) A (cond (Nat.blt 0 (z_at a)) R none) := by
  subst hl; subst h1; subst h; rfl
/-- branches -/
theorem zs_if_eq {x : Int32} {o : Int} (h1 : K (z_tg pc o) z L r S = A) (h2 : z_ex lm rt hd E K is (pc + 3) z L r S = B) : z_ex lm rt hd E K ((.ifCond .eq o, len, ops) :: is) pc z L (.int x :: r) S = if x = 0 then A else B := by subst h1; subst h2; rfl
theorem zs_if_ne {x : Int32} {o : Int} (h1 : K (z_tg pc o) z L r S = A) (h2 : z_ex lm rt hd E K is (pc + 3) z L r S = B) : z_ex lm rt hd E K ((.ifCond .ne o, len, ops) :: is) pc z L (.int x :: r) S = if x = 0 then B else A := by subst h1; subst h2; rfl
theorem zs_if_lt {x : Int32} {o : Int} (h1 : K (z_tg pc o) z L r S = A) (h2 : z_ex lm rt hd E K is (pc + 3) z L r S = B) : z_ex lm rt hd E K ((.ifCond .lt o, len, ops) :: is) pc z L (.int x :: r) S = if x < 0 then A else B := by subst h1; subst h2; rfl
theorem zs_if_ge {x : Int32} {o : Int} (h1 : K (z_tg pc o) z L r S = A) (h2 : z_ex lm rt hd E K is (pc + 3) z L r S = B) : z_ex lm rt hd E K ((.ifCond .ge o, len, ops) :: is) pc z L (.int x :: r) S = if 0 ≤ x then A else B := by subst h1; subst h2; rfl
theorem zs_if_gt {x : Int32} {o : Int} (h1 : K (z_tg pc o) z L r S = A) (h2 : z_ex lm rt hd E K is (pc + 3) z L r S = B) : z_ex lm rt hd E K ((.ifCond .gt o, len, ops) :: is) pc z L (.int x :: r) S = if 0 < x then A else B := by subst h1; subst h2; rfl
theorem zs_if_le {x : Int32} {o : Int} (h1 : K (z_tg pc o) z L r S = A) (h2 : z_ex lm rt hd E K is (pc + 3) z L r S = B) : z_ex lm rt hd E K ((.ifCond .le o, len, ops) :: is) pc z L (.int x :: r) S = if x ≤ 0 then A else B := by subst h1; subst h2; rfl
theorem zs_ic_eq {x y : Int32} {o : Int} (h1 : K (z_tg pc o) z L r S = A) (h2 : z_ex lm rt hd E K is (pc + 3) z L r S = B) : z_ex lm rt hd E K ((.if_icmp .eq o, len, ops) :: is) pc z L (.int y :: .int x :: r) S = if x = y then A else B := by subst h1; subst h2; rfl
theorem zs_ic_ne {x y : Int32} {o : Int} (h1 : K (z_tg pc o) z L r S = A) (h2 : z_ex lm rt hd E K is (pc + 3) z L r S = B) : z_ex lm rt hd E K ((.if_icmp .ne o, len, ops) :: is) pc z L (.int y :: .int x :: r) S = if x = y then B else A := by subst h1; subst h2; rfl
theorem zs_ic_lt {x y : Int32} {o : Int} (h1 : K (z_tg pc o) z L r S = A) (h2 : z_ex lm rt hd E K is (pc + 3) z L r S = B) : z_ex lm rt hd E K ((.if_icmp .lt o, len, ops) :: is) pc z L (.int y :: .int x :: r) S = if x < y then A else B := by subst h1; subst h2; rfl
theorem zs_ic_ge {x y : Int32} {o : Int} (h1 : K (z_tg pc o) z L r S = A) (h2 : z_ex lm rt hd E K is (pc + 3) z L r S = B) : z_ex lm rt hd E K ((.if_icmp .ge o, len, ops) :: is) pc z L (.int y :: .int x :: r) S = if y ≤ x then A else B := by subst h1; subst h2; rfl
theorem zs_ic_gt {x y : Int32} {o : Int} (h1 : K (z_tg pc o) z L r S = A) (h2 : z_ex lm rt hd E K is (pc + 3) z L r S = B) : z_ex lm rt hd E K ((.if_icmp .gt o, len, ops) :: is) pc z L (.int y :: .int x :: r) S = if y < x then A else B := by subst h1; subst h2; rfl
theorem zs_ic_le {x y : Int32} {o : Int} (h1 : K (z_tg pc o) z L r S = A) (h2 : z_ex lm rt hd E K is (pc + 3) z L r S = B) : z_ex lm rt hd E K ((.if_icmp .le o, len, ops) :: is) pc z L (.int y :: .int x :: r) S = if x ≤ y then A else B := by subst h1; subst h2; rfl
theorem zs_ac_eq {x y : Nat} {o : Int} (h1 : K (z_tg pc o) z L r S = A) (h2 : z_ex lm rt hd E K is (pc + 3) z L r S = B) : z_ex lm rt hd E K ((.if_acmp .eq o, len, ops) :: is) pc z L (.ref y :: .ref x :: r) S = cond (Nat.ble 1000 x && Nat.blt x 1017 && Nat.ble 1000 y && Nat.blt y 1017) (if x = y then A else B) none := by subst h1; subst h2; rfl
theorem zs_ac_ne {x y : Nat} {o : Int} (h1 : K (z_tg pc o) z L r S = A) (h2 : z_ex lm rt hd E K is (pc + 3) z L r S = B) : z_ex lm rt hd E K ((.if_acmp .ne o, len, ops) :: is) pc z L (.ref y :: .ref x :: r) S = cond (Nat.ble 1000 x && Nat.blt x 1017 && Nat.ble 1000 y && Nat.blt y 1017) (if x = y then B else A) none := by subst h1; subst h2; rfl
theorem zs_goto {o : Int} (h : K (z_tg pc o) z L st S = R) : z_ex lm rt hd E K ((.goto o, len, ops) :: is) pc z L st S = R := h
theorem zs_tsw {x : Int32} {d lo hi : Int} {offs : Array Int} {k : Int → z_Res} (h : ∀ o, K (z_tg pc o) z L r S = k o) : z_ex lm rt hd E K ((.tableswitch d lo hi offs, len, ops) :: is) pc z L (.int x :: r) S = z_sw x d lo hi offs k := by
  have : k = fun o => K (z_tg pc o) z L r S := funext fun o => (h o).symm
  subst this; rfl
theorem zs_lsw {x : Int32} {d : Int} {ps : Array (Int × Int)} (h : K (z_tg pc (Op.lookupswitch.offset ps.toList d x.toInt)) z L r S = R) : z_ex lm rt hd E K ((.lookupswitch d ps, len, ops) :: is) pc z L (.int x :: r) S = R := h
/-- ends -/
theorem zs_iret {x : Int32} (hb : z_rb rt x = true) : z_ex lm rt hd E K ((.ireturn, len, ops) :: is) pc z L [.int x] S = some (.inl (some (.int x)), S) := zs_cd hb rfl
theorem zs_iretc {x : Int32} : z_ex lm rt hd E K ((.ireturn, len, ops) :: is) pc z L [.int x] S = cond (z_rb rt x) (some (.inl (some (.int x)), S)) none := rfl
theorem zs_aret {x : Nat} (hl : lm = false) : z_ex lm rt hd E K ((.areturn, len, ops) :: is) pc z L [.ref x] S = some (.inl (some (.ref x)), S) := by subst hl; rfl
theorem zs_ret (hl : lm = false) : z_ex lm rt hd E K ((.return_, len, ops) :: is) pc z L [] S = some (.inl none, S) := by subst hl; rfl
theorem zs_thr {e : Nat} (hl : lm = false) : z_ex lm rt hd E K ((.athrow, len, e :: ops) :: is) pc z L [] S = some (.inr e, S) := by subst hl; rfl
/-- calls -/
theorem zs_pre {m n kind rc t : Nat} {o : List Nat} {as : List Value} {go : z_K} (hp : z_pop n [] st = some (as, r)) (hc : Nat.ble (z_cs r) 8 = true) {T : z_Res}
    (h : z_call lm hd E go (m :: n :: kind :: rc :: t :: o) pc z L st S = T) : z_call lm hd E go (m :: n :: kind :: rc :: t :: o) pc z L st S = T := h
theorem zs_cvi {i m n kind rc : Nat} {o : List Nat} {as : List Value} {f : z_St → z_Res} {g : Nat → z_St → z_Res} {go : z_K} (hp : z_pop n [] st = some (as, r)) (hc : Nat.ble (z_cs r) 8 = true)
    (hk : (kind = 0 ∨ kind = 1) ∨ ((kind = 2 ∨ kind = 3) ∧ ∃ a q, as = .ref a :: q ∧ z_isO rc a = true)) (h : ∀ S1, go (pc + 3) z L r S1 = f S1) (hg : ∀ e S1, cond lm none (z_hnd hd e S1) = g e S1) :
    z_call lm hd E go (m :: n :: kind :: rc :: 0 :: o) pc z L st S = z_clv (E m as S) f g := by
  have e1 : f = fun S1 => go (pc + 3) z L r S1 := funext fun S1 => (h S1).symm
  have e2 : g = fun e S1 => cond lm none (z_hnd hd e S1) := funext fun e => funext fun S1 => (hg e S1).symm
  subst e1; subst e2
  unfold z_call
  simp only [hp, hc, cond_true]
  rcases hk with (rfl | rfl) | ⟨rfl | rfl, a, q, rfl, hO⟩ <;> simp_all
theorem zs_cii {i m n kind rc : Nat} {o : List Nat} {as : List Value} {f : Int32 → z_St → z_Res} {g : Nat → z_St → z_Res} {go : z_K} (hp : z_pop n [] st = some (as, r)) (hc : Nat.ble (z_cs r) 8 = true)
    (hk : (kind = 0 ∨ kind = 1) ∨ ((kind = 2 ∨ kind = 3) ∧ ∃ a q, as = .ref a :: q ∧ z_isO rc a = true)) (h : ∀ x S1, go (pc + 3) z L (.int x :: r) S1 = f x S1) (hg : ∀ e S1, cond lm none (z_hnd hd e S1) = g e S1) :
    z_call lm hd E go (m :: n :: kind :: rc :: 1 :: o) pc z L st S = z_cli (E m as S) f g := by
  have e1 : f = fun x S1 => go (pc + 3) z L (.int x :: r) S1 := funext fun x => funext fun S1 => (h x S1).symm
  have e2 : g = fun e S1 => cond lm none (z_hnd hd e S1) := funext fun e => funext fun S1 => (hg e S1).symm
  subst e1; subst e2
  unfold z_call
  simp only [hp, hc, cond_true]
  rcases hk with (rfl | rfl) | ⟨rfl | rfl, a, q, rfl, hO⟩ <;> simp_all
theorem zs_cri {i m n kind rc : Nat} {o : List Nat} {as : List Value} {f : Nat → z_St → z_Res} {g : Nat → z_St → z_Res} {go : z_K} (hp : z_pop n [] st = some (as, r)) (hc : Nat.ble (z_cs r) 8 = true)
    (hk : (kind = 0 ∨ kind = 1) ∨ ((kind = 2 ∨ kind = 3) ∧ ∃ a q, as = .ref a :: q ∧ z_isO rc a = true)) (h : ∀ x S1, go (pc + 3) z L (.ref x :: r) S1 = f x S1) (hg : ∀ e S1, cond lm none (z_hnd hd e S1) = g e S1) :
    z_call lm hd E go (m :: n :: kind :: rc :: 3 :: o) pc z L st S = z_clr (E m as S) f g := by
  have e1 : f = fun x S1 => go (pc + 3) z L (.ref x :: r) S1 := funext fun x => funext fun S1 => (h x S1).symm
  have e2 : g = fun e S1 => cond lm none (z_hnd hd e S1) := funext fun e => funext fun S1 => (hg e S1).symm
  subst e1; subst e2
  unfold z_call
  simp only [hp, hc, cond_true]
  rcases hk with (rfl | rfl) | ⟨rfl | rfl, a, q, rfl, hO⟩ <;> simp_all
theorem zs_Vv {i m n kind rc : Nat} {o : List Nat} {as : List Value} {f : z_St → z_Res} {g : Nat → z_St → z_Res} (hp : z_pop n [] st = some (as, r)) (hc : Nat.ble (z_cs r) 8 = true) (hk : (kind = 0 ∨ kind = 1) ∨ ((kind = 2 ∨ kind = 3) ∧ ∃ a q, as = .ref a :: q ∧ z_isO rc a = true)) (h : ∀ S1, z_ex lm rt hd E K is (pc + 3) z L r S1 = f S1) (hg : ∀ e S1, cond lm none (z_hnd hd e S1) = g e S1) : z_ex lm rt hd E K ((.invokevirtual i, len, m :: n :: kind :: rc :: 0 :: o) :: is) pc z L st S = z_clv (E m as S) f g := zs_cvi (i := i) (o := o) (go := z_ex lm rt hd E K is) hp hc hk h hg
theorem zs_Vi {i m n kind rc : Nat} {o : List Nat} {as : List Value} {f : Int32 → z_St → z_Res} {g : Nat → z_St → z_Res} (hp : z_pop n [] st = some (as, r)) (hc : Nat.ble (z_cs r) 8 = true) (hk : (kind = 0 ∨ kind = 1) ∨ ((kind = 2 ∨ kind = 3) ∧ ∃ a q, as = .ref a :: q ∧ z_isO rc a = true)) (h : ∀ x S1, z_ex lm rt hd E K is (pc + 3) z L (.int x :: r) S1 = f x S1) (hg : ∀ e S1, cond lm none (z_hnd hd e S1) = g e S1) : z_ex lm rt hd E K ((.invokevirtual i, len, m :: n :: kind :: rc :: 1 :: o) :: is) pc z L st S = z_cli (E m as S) f g := zs_cii (i := i) (o := o) (go := z_ex lm rt hd E K is) hp hc hk h hg
theorem zs_Sv {i m n kind rc : Nat} {o : List Nat} {as : List Value} {f : z_St → z_Res} {g : Nat → z_St → z_Res} (hp : z_pop n [] st = some (as, r)) (hc : Nat.ble (z_cs r) 8 = true) (hk : (kind = 0 ∨ kind = 1) ∨ ((kind = 2 ∨ kind = 3) ∧ ∃ a q, as = .ref a :: q ∧ z_isO rc a = true)) (h : ∀ S1, z_ex lm rt hd E K is (pc + 3) z L r S1 = f S1) (hg : ∀ e S1, cond lm none (z_hnd hd e S1) = g e S1) : z_ex lm rt hd E K ((.invokestatic i, len, m :: n :: kind :: rc :: 0 :: o) :: is) pc z L st S = z_clv (E m as S) f g := zs_cvi (i := i) (o := o) (go := z_ex lm rt hd E K is) hp hc hk h hg
theorem zs_Si {i m n kind rc : Nat} {o : List Nat} {as : List Value} {f : Int32 → z_St → z_Res} {g : Nat → z_St → z_Res} (hp : z_pop n [] st = some (as, r)) (hc : Nat.ble (z_cs r) 8 = true) (hk : (kind = 0 ∨ kind = 1) ∨ ((kind = 2 ∨ kind = 3) ∧ ∃ a q, as = .ref a :: q ∧ z_isO rc a = true)) (h : ∀ x S1, z_ex lm rt hd E K is (pc + 3) z L (.int x :: r) S1 = f x S1) (hg : ∀ e S1, cond lm none (z_hnd hd e S1) = g e S1) : z_ex lm rt hd E K ((.invokestatic i, len, m :: n :: kind :: rc :: 1 :: o) :: is) pc z L st S = z_cli (E m as S) f g := zs_cii (i := i) (o := o) (go := z_ex lm rt hd E K is) hp hc hk h hg
theorem zs_Sr {i m n kind rc : Nat} {o : List Nat} {as : List Value} {f : Nat → z_St → z_Res} {g : Nat → z_St → z_Res} (hp : z_pop n [] st = some (as, r)) (hc : Nat.ble (z_cs r) 8 = true) (hk : (kind = 0 ∨ kind = 1) ∨ ((kind = 2 ∨ kind = 3) ∧ ∃ a q, as = .ref a :: q ∧ z_isO rc a = true)) (h : ∀ x S1, z_ex lm rt hd E K is (pc + 3) z L (.ref x :: r) S1 = f x S1) (hg : ∀ e S1, cond lm none (z_hnd hd e S1) = g e S1) : z_ex lm rt hd E K ((.invokestatic i, len, m :: n :: kind :: rc :: 3 :: o) :: is) pc z L st S = z_clr (E m as S) f g := zs_cri (i := i) (o := o) (go := z_ex lm rt hd E K is) hp hc hk h hg
/-- a call on a thing that isn't known to be of its kind -/
theorem zs_Vvc {i m n kind rc a : Nat} {o : List Nat} {as : List Value} {f : z_St → z_Res} {g : Nat → z_St → z_Res} (hp : z_pop n [] st = some (.ref a :: as, r)) (hc : Nat.ble (z_cs r) 8 = true) (hk : kind = 2 ∨ kind = 3) (h : ∀ S1, z_ex lm rt hd E K is (pc + 3) z L r S1 = f S1) (hg : ∀ e S1, cond lm none (z_hnd hd e S1) = g e S1) : z_ex lm rt hd E K ((.invokevirtual i, len, m :: n :: kind :: rc :: 0 :: o) :: is) pc z L st S = cond (z_isO rc a) (z_clv (E m (.ref a :: as) S) f g) none := by
  cases hO : z_isO rc a with
  | true => exact zs_Vv hp hc (Or.inr ⟨hk, a, as, rfl, hO⟩) h hg
  | false => 
    rcases hk with rfl | rfl <;> simp only [z_ex, z_st, z_o_invokevirtual, z_call, hp, hc, cond_true, cond_false, hO]
theorem zs_Vic {i m n kind rc a : Nat} {o : List Nat} {as : List Value} {f : Int32 → z_St → z_Res} {g : Nat → z_St → z_Res} (hp : z_pop n [] st = some (.ref a :: as, r)) (hc : Nat.ble (z_cs r) 8 = true) (hk : kind = 2 ∨ kind = 3) (h : ∀ x S1, z_ex lm rt hd E K is (pc + 3) z L (.int x :: r) S1 = f x S1) (hg : ∀ e S1, cond lm none (z_hnd hd e S1) = g e S1) : z_ex lm rt hd E K ((.invokevirtual i, len, m :: n :: kind :: rc :: 1 :: o) :: is) pc z L st S = cond (z_isO rc a) (z_cli (E m (.ref a :: as) S) f g) none := by
  cases hO : z_isO rc a with
  | true => exact zs_Vi hp hc (Or.inr ⟨hk, a, as, rfl, hO⟩) h hg
  | false => 
    rcases hk with rfl | rfl <;> simp only [z_ex, z_st, z_o_invokevirtual, z_call, hp, hc, cond_true, cond_false, hO]
theorem zs_S4 {i m n rc t : Nat} {o : List Nat} {as : List Value} {f : Int32 → z_St → z_Res} (hl : lm = true) (hp : z_pop n [] st = some (as, r)) (hc : Nat.ble (z_cs r) 8 = true) (h : ∀ x S1, z_ex lm rt hd E K is (pc + 3) (z + 1) L (.int x :: r) S1 = f x S1) : z_ex lm rt hd E K ((.invokestatic i, len, m :: n :: 4 :: rc :: t :: o) :: is) pc z L st S = cond (Nat.blt z 1000) (z_cli (E m as S) f (fun _ _ => none)) none := by
  have e1 : f = fun x S1 => z_ex lm rt hd E K is (pc + 3) (z + 1) L (.int x :: r) S1 := funext fun x => funext fun S1 => (h x S1).symm
  subst e1; subst hl
  simp only [z_ex, z_st, z_o_invokestatic, z_call, hp, hc, cond_true, Bool.true_and]
theorem zs_cp1 {i m n rc t : Nat} {o : List Nat} {a b : Nat} {x y k : Int32} {S' : z_St} (hp : z_pop n [] st = some ([.ref a, .int x, .ref b, .int y, .int k], r)) (hc : Nat.ble (z_cs r) 8 = true) (ht : z_at a = 1) (hS : (z_c1 S.1 a b x.toNatClampNeg y.toNatClampNeg k.toNatClampNeg, S.2) = S') (h : z_ex lm rt hd E K is (pc + 3) z L r S' = R) : z_ex lm rt hd E K ((.invokestatic i, len, m :: n :: 6 :: rc :: t :: o) :: is) pc z L st S = cond (Nat.beq (z_at a) (z_at b) && !(Nat.beq a b) && !(decide (x < 0)) && !(decide (y < 0)) && !(decide (k < 0)) && decide (x.toNatClampNeg + k.toNatClampNeg ≤ z_ln a) && decide (y.toNatClampNeg + k.toNatClampNeg ≤ z_ln b)) R none := by
  subst hS; subst h
  simp only [z_ex, z_st, z_o_invokestatic, z_call, hp, hc, cond_true, ht]
theorem zs_cp2 {i m n rc t : Nat} {o : List Nat} {a b : Nat} {x y k : Int32} {S' : z_St} (hp : z_pop n [] st = some ([.ref a, .int x, .ref b, .int y, .int k], r)) (hc : Nat.ble (z_cs r) 8 = true) (ht : z_at a = 4) (hS : (S.1, z_c2 S.2 a b x.toNatClampNeg y.toNatClampNeg k.toNatClampNeg) = S') (h : z_ex lm rt hd E K is (pc + 3) z L r S' = R) : z_ex lm rt hd E K ((.invokestatic i, len, m :: n :: 6 :: rc :: t :: o) :: is) pc z L st S = cond (Nat.beq (z_at a) (z_at b) && !(Nat.beq a b) && !(decide (x < 0)) && !(decide (y < 0)) && !(decide (k < 0)) && decide (x.toNatClampNeg + k.toNatClampNeg ≤ z_ln a) && decide (y.toNatClampNeg + k.toNatClampNeg ≤ z_ln b)) R none := by
  subst hS; subst h
  simp only [z_ex, z_st, z_o_invokestatic, z_call, hp, hc, cond_true, ht]
theorem zs_slen {i m n rc t : Nat} {o : List Nat} {a : Nat} (hp : z_pop n [] st = some ([.ref a], r)) (hc : Nat.ble (z_cs r) 8 = true) (h : z_ex lm rt hd E K is (pc + 3) z L (.int (nI ((z_tx.getD (a - 1200) []).length)) :: r) S = R) : z_ex lm rt hd E K ((.invokevirtual i, len, m :: n :: 7 :: rc :: t :: o) :: is) pc z L st S = cond (Nat.ble 1200 a && Nat.blt a 1217) R none := by
  subst h
  simp only [z_ex, z_st, z_o_invokevirtual, z_call, hp, hc, cond_true]
theorem zs_schr {i m n rc t : Nat} {o : List Nat} {a : Nat} {x : Int32} (hp : z_pop n [] st = some ([.ref a, .int x], r)) (hc : Nat.ble (z_cs r) 8 = true) (h : z_ex lm rt hd E K is (pc + 3) z L (.int ((z_tx.getD (a - 1200) []).getD x.toNatClampNeg 0) :: r) S = R) : z_ex lm rt hd E K ((.invokevirtual i, len, m :: n :: 8 :: rc :: t :: o) :: is) pc z L st S = cond (Nat.ble 1200 a && Nat.blt a 1217 && z_ix x (z_tx.getD (a - 1200) []).length) R none := by
  subst h
  simp only [z_ex, z_st, z_o_invokevirtual, z_call, hp, hc, cond_true]
end ZS
theorem zs_run {lm : Bool} {rt : Option FieldType} {hd : List (Nat × Int32)} {E : z_Ev} {B : z_B} {n pc z : Nat} {L L' : z_Lo} {st : List Value} {S : z_St} {R : z_Res} {msk : List Bool} {is : List z_I} (hf : z_fnd B pc = some (msk, is)) (hm : z_mk msk L = L') (h : z_ex lm rt hd E (z_run lm rt hd E B n) is pc z L' st S = R) : z_run lm rt hd E B (n + 1) pc z L st S = R := by
  subst hm
  show (match z_fnd B pc with | some q => z_ex lm rt hd E (z_run lm rt hd E B n) q.2 pc z (z_mk q.1 L) st S | none => none) = R
  rw [hf]; exact h
theorem z_ixn {j n : Nat} (h : Nat.blt j n = true) (h2 : Nat.ble n 1000000 = true) : z_ix (nI j) n = true := by
  have h3 : j < n := Nat.blt_eq.mp h
  have h4 : n ≤ 1000000 := Nat.le_of_ble_eq_true h2
  have h5 : j < 2 ^ 31 := by omega
  simp [z_ix, nI_clamp h5, h3, nI_pos h5]
end
section
/-! what a program of mine has to check of the data: decided, method by method -/
def z_wn : List String := ["OTHER", "BOOK_WORD", "PARTS_WORD", "READER_WORD", "COLOUR_WORD", "BACK_WORD", "ENDS_WORD", "STOPS_WORD", "OR_WORD", "AND_WORD", "NOT_WORD", "PAGE_WORD", "LEFT_WORD", "INTO_WORD", "READ_WORD", "HOUR_WORD", "DAY_WORD"]
/-- the words on a nest mate's members -/
def z_isN : Cond → Bool
  | .fieldLinkNest _ _ _ _ _ _ => true
  | .methodLinkNest _ _ _ _ => true
  | _ => false
noncomputable def z_nw : List Cond := lw_tbl.filter z_isN
def z_en (e : Nat) : String := match e with
  | 0 => "java/util/NoSuchElementException"
  | _ => "java/lang/IllegalArgumentException"
noncomputable def z_tb : List Cond := lw_tbl.filter goodWord
noncomputable def z_isw (m : Nat) : Bool := !(z_m m).2.2.2.2.2.isEmpty
noncomputable def z_cw (m : Nat) : Cond := cond (z_isw m) (.codeWith (z_m m).1 (z_m m).2.1 (z_m m).2.2.1 (z_m m).2.2.2.1 (z_hh.getD m [])) (.code (z_m m).1 (z_m m).2.1 (z_m m).2.2.1 (z_m m).2.2.2.1)
noncomputable def z_ws (m : Nat) : List Cond := z_cw m :: z_tb
def z_il : Instr → Nat
  | .bipush _ => 2 | .aload _ => 2 | .iload _ => 2 | .lload _ => 2 | .istore _ => 2 | .astore _ => 2 | .lstore _ => 2 | .ldc _ => 2
  | .sipush _ => 3 | .iinc _ _ => 3 | .getfield _ => 3 | .putfield _ => 3 | .getstatic _ => 3 | .ldc_w _ => 3 | .ldc2_w _ => 3 | .ifCond _ _ => 3 | .if_icmp _ _ => 3 | .if_acmp _ _ => 3 | .goto _ => 3 | .invokevirtual _ => 3 | .invokestatic _ => 3
  | _ => 1
def z_dec (cc : ByteArray) (pc : Nat) (i : Instr) (len : Nat) : Bool := match decode cc pc with
  | .ok (j, k) => decide (j = i) && Nat.beq k len
  | _ => false
theorem z_dec_ok {cc : ByteArray} {pc len : Nat} {i : Instr} (h : z_dec cc pc i len = true) : decode cc pc = .ok (i, len) := by
  unfold z_dec at h
  split at h
  · rename_i j k e
    simp only [Bool.and_eq_true, decide_eq_true_eq, Nat.beq_eq] at h
    rw [e, h.1, h.2]
  · cases h
noncomputable def z_inT (w : Cond) (ti : Nat) : Bool := decide (lw_tbl[ti]? = some w) && goodWord w
noncomputable def z_inN (w : Cond) (ti : Nat) : Bool := decide (lw_tbl[ti]? = some w) && z_isN w
theorem z_inT_ok {w : Cond} {ti : Nat} (h : z_inT w ti = true) : w ∈ z_tb := by
  simp only [z_inT, Bool.and_eq_true, decide_eq_true_eq] at h
  exact List.mem_filter.mpr ⟨List.mem_of_getElem? h.1, h.2⟩
theorem z_inN_ok {w : Cond} {ti : Nat} (h : z_inN w ti = true) : w ∈ z_nw := by
  simp only [z_inN, Bool.and_eq_true, decide_eq_true_eq] at h
  exact List.mem_filter.mpr ⟨List.mem_of_getElem? h.1, h.2⟩
def z_TT (c : Nat) : u_T := (z_cls.getD c ("", z_T0, 0)).2.1
noncomputable def z_okF (own : String) (i c k nest ti : Nat) : Bool := cond (Nat.beq nest 0) (z_inT (.fieldLink own i (z_TT c k).1 (z_TT c k).2.1 (z_TT c k).2.2.1) ti) (z_inN (.fieldLinkNest own i (z_TT c k).1 (z_TT c k).2.1 (z_TT c k).2.2.1 "SlipRoom") ti)
noncomputable def z_okW (own : String) (i : Nat) (n d : String) (nest ti : Nat) : Bool := cond (Nat.beq nest 0) (z_inT (.fieldLink own i "SlipRoom$Word" n d) ti) (z_inN (.fieldLinkNest own i "SlipRoom$Word" n d "SlipRoom") ti)
/-- what a field's descriptor says -/
def z_tyk (t v : Nat) : FieldType := match t with
  | 0 => match v with | 0 => .int | _ => .boolean
  | _ => .object "x"
noncomputable def z_okO (own : String) (i : Instr) (ops : List Nat) : Bool := match i with
  | .iconst n => decide (Int32.ofInt n = z_cn n)
  | .bipush n => decide ((Int8.ofInt n).toInt32 = z_cn n)
  | .sipush n => decide ((Int16.ofInt n).toInt32 = z_cn n)
  | .iinc _ n => decide (Int32.ofInt n = z_cn n)
  | .getfield ix => match ops with
    | [c, k, t, v, nest, ti] => cond (Nat.beq c 10) (cond (Nat.beq t 4) (z_okW own ix "letters" "Ljava/lang/String;" nest ti) (Nat.beq t 5 && z_okW own ix "value" "I" nest ti)) (Nat.blt c 10 && Nat.blt k (z_nf c) && decide (z_ftg c k = (t, v)) && z_okF own ix c k nest ti)
    | _ => false
  | .putfield ix => match ops with
    | [c, k, t, v, nest, ti] => Nat.blt c 10 && Nat.blt k (z_nf c) && decide (z_ftg c k = (t, v)) && z_okF own ix c k nest ti && !(z_TT c k).2.2.2 && (cond (Nat.beq t 0) (decide (parseFieldDescriptor (z_TT c k).2.2.1 = some (z_tyk t v))) (decide (((parseFieldDescriptor (z_TT c k).2.2.1).map fun f => match f with | .object _ => true | _ => false) = some true)))
    | _ => false
  | .getstatic ix => match ops with
    | [v, nest, ti] => cond (Nat.beq v 1100) (z_okW own ix "ALL" "[LSlipRoom$Word;" nest ti) (Nat.ble 1000 v && Nat.blt v 1017 && z_okW own ix (z_wn.getD (v - 1000) "") "LSlipRoom$Word;" nest ti)
    | _ => false
  | .ldc ix => match ops with
    | [0, v, ti] => z_inT (.constant own ix (nI v)) ti
    | [1, v, _] => decide (own = "SlipRoomModel") && z_strs.any (fun q => Nat.beq q.1 ix && Nat.beq q.2.2 v)
    | _ => false
  | .ldc_w ix => match ops with
    | [0, v, ti] => z_inT (.constant own ix (nI v)) ti
    | [1, v, _] => decide (own = "SlipRoomModel") && z_strs.any (fun q => Nat.beq q.1 ix && Nat.beq q.2.2 v)
    | _ => false
  | .ldc2_w ix => match ops with
    | [v, ti] => z_inT (.constantLong own ix (lN v)) ti
    | _ => false
  | .invokevirtual ix => match ops with
    | [m, n, kind, rc, _, ti] => cond (Nat.beq kind 7 || Nat.beq kind 8) true (Nat.blt m 211 && Nat.beq n ((z_mi.getD m (0, 0, 0, 0, 0)).2.2.2.2 + 1) && Nat.blt rc 10 && decide ((z_m m).1.cls = z_own.getD rc "") && decide ((z_cls.getD rc ("", z_T0, 0)).1 = z_own.getD rc "") && !(z_isw m) &&
        (cond (Nat.beq kind 2) (z_inT (.methodLink own ix (z_m m).1) ti) (Nat.beq kind 3 && z_inN (.methodLinkNest own ix (z_m m).1 "SlipRoom") ti)) && z_inT (.instanceMethod (z_m m).1) (z_mi.getD m (0, 0, 0, 0, 0)).2.1 && z_inT (.selects (z_m m).1.cls (z_m m).1 (z_m m).1) (z_mi.getD m (0, 0, 0, 0, 0)).2.2.1)
    | _ => false
  | .invokestatic ix => match ops with
    | [m, n, kind, _, _, ti] => cond (Nat.beq kind 6) (z_inT (.methodLink own ix arraycopyName) ti && Nat.beq n 5) (Nat.blt m 211 && Nat.beq n (z_mi.getD m (0, 0, 0, 0, 0)).2.2.2.2 &&
        (cond (Nat.beq kind 0) (!(z_isw m) && z_inT (.methodLink own ix (z_m m).1) ti) (cond (Nat.beq kind 1) (!(z_isw m) && z_inN (.methodLinkNest own ix (z_m m).1 "SlipRoom") ti) (Nat.beq kind 4 && z_isw m && z_inT (.methodLink own ix (z_m m).1) ti))) && z_inT (.static (z_m m).1) (z_mi.getD m (0, 0, 0, 0, 0)).2.1)
    | _ => false
  | .if_acmp _ _ => true
  | _ => true
def z_okP (pc : Nat) (o : Int) : Bool := decide (0 ≤ (pc : Int) + o)
theorem z_okP_ok {pc : Nat} {o : Int} (h : z_okP pc o = true) : (pc : Int) + o = (z_tg pc o : Int) := by
  simp only [z_okP, decide_eq_true_eq] at h
  simp only [z_tg]; omega
def z_okJ (pc : Nat) (i : Instr) : Bool := match i with
  | .ifCond _ o => z_okP pc o
  | .if_icmp _ o => z_okP pc o
  | .if_acmp _ o => z_okP pc o
  | .goto o => z_okP pc o
  | .tableswitch d _ _ offs => z_okP pc d && offs.toList.all (z_okP pc)
  | .lookupswitch d ps => z_okP pc d && ps.toList.all (fun q => z_okP pc q.2) && (ps.toList.zip (ps.toList.drop 1)).all (fun (a, next) => a.1 < next.1)
  | _ => true
def z_isSw : Instr → Bool
  | .tableswitch _ _ _ _ => true
  | .lookupswitch _ _ => true
  | _ => false
/-- a throw: its five instructions -/
noncomputable def z_okT (cc : ByteArray) (own : String) (pc len : Nat) (ops : List Nat) : Bool := match ops with
  | [e, ik, isx, ic, w, ti, _] => Nat.blt e 2 && decide (own = "SlipRoom") && z_dec cc pc (.new ik) 3 && z_dec cc (pc + 3) .dup 1 && z_inT (.classLink own ik (z_en e)) ti && z_msgs.any (fun q => Nat.beq q.1 isx) && Nat.beq ic (cond (Nat.beq e 0) 153 91) &&
      (cond (Nat.beq w 0) (Nat.beq len 10 && z_dec cc (pc + 4) (.ldc isx) 2 && z_dec cc (pc + 6) (.invokespecial ic) 3 && z_dec cc (pc + 9) .athrow 1) (Nat.beq len 11 && z_dec cc (pc + 4) (.ldc_w isx) 3 && z_dec cc (pc + 7) (.invokespecial ic) 3 && z_dec cc (pc + 10) .athrow 1))
  | _ => false
noncomputable def z_okE (cc : ByteArray) (own : String) (pc : Nat) (x : z_I) : Bool := match x.1 with
  | .athrow => z_okT cc own pc x.2.1 x.2.2
  | i => z_dec cc pc i x.2.1 && (z_isSw i || Nat.beq x.2.1 (z_il i)) && z_okJ pc i && z_okO own i x.2.2
noncomputable def z_okL (cc : ByteArray) (own : String) : Nat → List z_I → Bool
  | _, [] => true
  | pc, x :: is => z_okE cc own pc x && z_okL cc own (pc + x.2.1) is
noncomputable def z_okB (cc : ByteArray) (own : String) (b : z_B) : Bool := b.all (fun q => z_okL cc own q.1 q.2.2)
/-- a method's own words -/
noncomputable def z_okM (m : Nat) : Bool := z_inT (.initialized (z_m m).1.cls) (z_mi.getD m (0, 0, 0, 0, 0)).2.2.2.1 && (plainName (z_m m).1.cls || Nat.beq m 187 || Nat.beq m 188) && decide ((z_m m).1.cls ≠ "java/lang/invoke/MethodHandle" ∧ (z_m m).1.cls ≠ "java/lang/invoke/VarHandle") && decide ((parseMethodDescriptor (z_m m).1.desc).map (fun d => d.parameters.length) = some (z_mi.getD m (0, 0, 0, 0, 0)).2.2.2.2) && decide ((z_m m).2.2.1 ≤ 30) && decide ((z_m m).1.cls = z_own.getD (z_m m).2.2.2.2.1 "")
theorem z_okB_of {cc : ByteArray} {own : String} {b : z_B} (k n : Nat) (hk : 0 < k) (hn : b.length ≤ k * n) (h : ∀ i, i < n → z_okB cc own ((b.drop (k * i)).take k) = true) : z_okB cc own b = true := by
  unfold z_okB
  rw [List.all_eq_true]
  intro q hq
  obtain ⟨j, hj⟩ := List.getElem?_of_mem hq
  have hjl : j < b.length := (List.getElem?_eq_some_iff.mp hj).1
  have hdm := Nat.div_add_mod j k
  have hml := Nat.mod_lt j hk
  have hi : j / k < n := by
    apply Nat.div_lt_of_lt_mul
    omega
  have h1 := h (j / k) hi
  unfold z_okB at h1
  rw [List.all_eq_true] at h1
  apply h1
  apply List.mem_of_getElem? (i := j % k)
  rw [List.getElem?_take, if_pos hml, List.getElem?_drop, hdm]
  exact hj
end
section
theorem z_good_code {y : MethodName} {b : ByteArray} {n : Nat} {r : Option FieldType} : goodWord (.code y b n r) = true := rfl
theorem z_good_codeW {y : MethodName} {b : ByteArray} {n : Nat} {r : Option FieldType} {h : List (Nat × Nat × Nat × Nat)} : goodWord (.codeWith y b n r h) = true := rfl
set_option maxRecDepth 100000 in
theorem z_cwm_0 : Cond.code ⟨"SlipRoom$Law", "holds", "([III)Z"⟩ prog_2_method_2_code 5 (some .boolean) ∈ lw_tbl := (List.mem_append_right _ (List.mem_append_right _ (List.mem_append_right _ (List.mem_append_right _ (List.mem_append_left _ (List.mem_of_getElem? (i := 75) rfl))))))
set_option maxRecDepth 100000 in
theorem z_cwm_1 : Cond.code ⟨"SlipRoom$Law", "obey", "(I)V"⟩ prog_2_method_3_code 4 none ∈ lw_tbl := (List.mem_append_right _ (List.mem_append_right _ (List.mem_append_right _ (List.mem_append_right _ (List.mem_append_left _ (List.mem_of_getElem? (i := 80) rfl))))))
set_option maxRecDepth 100000 in
theorem z_cwm_2 : Cond.code ⟨"SlipRoom$Law", "apply", "(III)I"⟩ prog_2_method_4_code 3 (some .int) ∈ lw_tbl := (List.mem_append_right _ (List.mem_append_right _ (List.mem_append_right _ (List.mem_append_right _ (List.mem_append_left _ (List.mem_of_getElem? (i := 91) rfl))))))
set_option maxRecDepth 100000 in
theorem z_cwm_3 : Cond.code ⟨"SlipRoom$Law", "push", "(I)V"⟩ prog_2_method_5_code 2 none ∈ lw_tbl := (List.mem_append_right _ (List.mem_append_right _ (List.mem_append_right _ (List.mem_append_right _ (List.mem_append_left _ (List.mem_of_getElem? (i := 88) rfl))))))
set_option maxRecDepth 100000 in
theorem z_cwm_4 : Cond.code ⟨"SlipRoom$Law", "pop", "()I"⟩ prog_2_method_6_code 1 (some .int) ∈ lw_tbl := (List.mem_append_right _ (List.mem_append_right _ (List.mem_append_right _ (List.mem_append_right _ (List.mem_append_left _ (List.mem_of_getElem? (i := 84) rfl))))))
set_option maxRecDepth 100000 in
theorem z_cwm_5 : Cond.code ⟨"SlipRoom$Ledger", "clear", "()V"⟩ prog_3_method_2_code 1 none ∈ lw_tbl := (List.mem_append_right _ (List.mem_append_right _ (List.mem_append_right _ (List.mem_append_left _ (List.mem_of_getElem? (i := 188) rfl)))))
set_option maxRecDepth 100000 in
theorem z_cwm_6 : Cond.code ⟨"SlipRoom$Ledger", "copy", "(LSlipRoom$Ledger;)V"⟩ prog_3_method_3_code 2 none ∈ lw_tbl := (List.mem_append_right _ (List.mem_append_right _ (List.mem_append_left _ (List.mem_of_getElem? (i := 166) rfl))))
set_option maxRecDepth 100000 in
theorem z_cwm_7 : Cond.code ⟨"SlipRoom$Ledger", "isRead", "(II)Z"⟩ prog_3_method_4_code 3 (some .boolean) ∈ lw_tbl := (List.mem_append_right _ (List.mem_append_right _ (List.mem_append_right _ (List.mem_append_right _ (List.mem_append_left _ (List.mem_of_getElem? (i := 59) rfl))))))
set_option maxRecDepth 100000 in
theorem z_cwm_8 : Cond.code ⟨"SlipRoom$Ledger", "mark", "(IIII)V"⟩ prog_3_method_5_code 5 none ∈ lw_tbl := (List.mem_append_right _ (List.mem_append_right _ (List.mem_append_right _ (List.mem_append_right _ (List.mem_append_left _ (List.mem_of_getElem? (i := 55) rfl))))))
set_option maxRecDepth 100000 in
theorem z_cwm_9 : Cond.code ⟨"SlipRoom$Ledger", "openedPages", "(I)I"⟩ prog_3_method_6_code 7 (some .int) ∈ lw_tbl := (List.mem_append_right _ (List.mem_append_right _ (List.mem_append_right _ (List.mem_append_right _ (List.mem_append_left _ (List.mem_of_getElem? (i := 2) rfl))))))
set_option maxRecDepth 100000 in
theorem z_cwm_10 : Cond.code ⟨"SlipRoom$Ledger", "pagesInARow", "(II)I"⟩ prog_3_method_7_code 4 (some .int) ∈ lw_tbl := (List.mem_append_right _ (List.mem_append_right _ (List.mem_append_right _ (List.mem_append_right _ (List.mem_append_left _ (List.mem_of_getElem? (i := 132) rfl))))))
set_option maxRecDepth 100000 in
theorem z_cwm_11 : Cond.code ⟨"SlipRoom$Ledger", "onlyTheEnds", "(II)Z"⟩ prog_3_method_8_code 3 (some .boolean) ∈ lw_tbl := (List.mem_append_right _ (List.mem_append_right _ (List.mem_append_right _ (List.mem_append_right _ (List.mem_append_left _ (List.mem_of_getElem? (i := 136) rfl))))))
set_option maxRecDepth 100000 in
theorem z_cwm_12 : Cond.code ⟨"SlipRoom$Ledger", "enterLoan", "(IIIIII)V"⟩ prog_3_method_9_code 8 none ∈ lw_tbl := (List.mem_append_right _ (List.mem_append_right _ (List.mem_append_right _ (List.mem_append_right _ (List.mem_append_left _ (List.mem_of_getElem? (i := 95) rfl))))))
set_option maxRecDepth 100000 in
theorem z_cwm_13 : Cond.code ⟨"SlipRoom$Ledger", "slipsIn", "(I)I"⟩ prog_3_method_10_code 4 (some .int) ∈ lw_tbl := (List.mem_append_right _ (List.mem_append_right _ (List.mem_append_right _ (List.mem_append_right _ (List.mem_append_left _ (List.mem_of_getElem? (i := 15) rfl))))))
set_option maxRecDepth 100000 in
theorem z_cwm_14 : Cond.code ⟨"SlipRoom$Ledger", "moveSlips", "(III)I"⟩ prog_3_method_11_code 8 (some .int) ∈ lw_tbl := (List.mem_append_right _ (List.mem_append_right _ (List.mem_append_right _ (List.mem_append_right _ (List.mem_append_left _ (List.mem_of_getElem? (i := 114) rfl))))))
set_option maxRecDepth 100000 in
theorem z_cwm_15 : Cond.code ⟨"SlipRoom$Ledger", "enterLook", "(IIII)I"⟩ prog_3_method_12_code 6 (some .int) ∈ lw_tbl := (List.mem_append_right _ (List.mem_append_right _ (List.mem_append_right _ (List.mem_append_right _ (List.mem_append_left _ (List.mem_of_getElem? (i := 173) rfl))))))
set_option maxRecDepth 100000 in
theorem z_cwm_16 : Cond.code ⟨"SlipRoom$Ledger", "looksIn", "(I)I"⟩ prog_3_method_13_code 4 (some .int) ∈ lw_tbl := (List.mem_append_right _ (List.mem_append_right _ (List.mem_append_right _ (List.mem_append_right _ (List.mem_append_left _ (List.mem_of_getElem? (i := 165) rfl))))))
set_option maxRecDepth 100000 in
theorem z_cwm_17 : Cond.code ⟨"SlipRoom$Ledger", "lookBook", "(I)I"⟩ prog_3_method_14_code 2 (some .int) ∈ lw_tbl := (List.mem_append_right _ (List.mem_append_right _ (List.mem_append_right _ (List.mem_append_right _ (List.mem_append_left _ (List.mem_of_getElem? (i := 169) rfl))))))
set_option maxRecDepth 100000 in
theorem z_cwm_18 : Cond.code ⟨"SlipRoom$Ledger", "lookHour", "(I)I"⟩ prog_3_method_15_code 2 (some .int) ∈ lw_tbl := (List.mem_append_right _ (List.mem_append_right _ (List.mem_append_right _ (List.mem_append_right _ (List.mem_append_left _ (List.mem_of_getElem? (i := 193) rfl))))))
set_option maxRecDepth 100000 in
theorem z_cwm_19 : Cond.code ⟨"SlipRoom$Ledger", "lookColour", "(I)I"⟩ prog_3_method_16_code 2 (some .int) ∈ lw_tbl := (List.mem_append_right _ (List.mem_append_right _ (List.mem_append_right _ (List.mem_append_right _ (List.mem_append_left _ (List.mem_of_getElem? (i := 197) rfl))))))
set_option maxRecDepth 100000 in
theorem z_cwm_20 : Cond.code ⟨"SlipRoom$Ledger", "lookPage", "(I)I"⟩ prog_3_method_17_code 2 (some .int) ∈ lw_tbl := (List.mem_append_right _ (List.mem_append_right _ (List.mem_append_right _ (List.mem_append_right _ (List.mem_append_left _ (List.mem_of_getElem? (i := 201) rfl))))))
set_option maxRecDepth 100000 in
theorem z_cwm_21 : Cond.code ⟨"SlipRoom$Ledger", "enterWish", "(II)I"⟩ prog_3_method_18_code 3 (some .int) ∈ lw_tbl := (List.mem_append_right _ (List.mem_append_right _ (List.mem_append_right _ (List.mem_append_right _ (List.mem_append_right _ (List.mem_append_left _ (List.mem_of_getElem? (i := 61) rfl)))))))
set_option maxRecDepth 100000 in
theorem z_cwm_22 : Cond.code ⟨"SlipRoom$Parser", "parse", "(ILSlipRoom$Plan;)I"⟩ prog_4_method_2_code 4 (some .int) ∈ lw_tbl := (List.mem_append_right _ (List.mem_append_right _ (List.mem_append_right _ (List.mem_append_left _ (List.mem_of_getElem? (i := 9) rfl)))))
set_option maxRecDepth 100000 in
theorem z_cwm_23 : Cond.code ⟨"SlipRoom$Parser", "faultPlace", "()I"⟩ prog_4_method_3_code 1 (some .int) ∈ lw_tbl := (List.mem_append_right _ (List.mem_append_right _ (List.mem_append_right _ (List.mem_append_left _ (List.mem_of_getElem? (i := 184) rfl)))))
set_option maxRecDepth 100000 in
theorem z_cwm_24 : Cond.code ⟨"SlipRoom$Parser", "fail", "(I)V"⟩ prog_4_method_4_code 2 none ∈ lw_tbl := (List.mem_append_right _ (List.mem_append_right _ (List.mem_append_right _ (List.mem_append_left _ (List.mem_of_getElem? (i := 109) rfl)))))
set_option maxRecDepth 100000 in
theorem z_cwm_25 : Cond.code ⟨"SlipRoom$Parser", "bookClause", "()V"⟩ prog_4_method_5_code 2 none ∈ lw_tbl := (List.mem_append_right _ (List.mem_append_right _ (List.mem_append_right _ (List.mem_append_left _ (List.mem_of_getElem? (i := 105) rfl)))))
set_option maxRecDepth 100000 in
theorem z_cwm_26 : Cond.code ⟨"SlipRoom$Parser", "readerClause", "()V"⟩ prog_4_method_6_code 2 none ∈ lw_tbl := (List.mem_append_right _ (List.mem_append_right _ (List.mem_append_right _ (List.mem_append_left _ (List.mem_of_getElem? (i := 134) rfl)))))
set_option maxRecDepth 100000 in
theorem z_cwm_27 : Cond.code ⟨"SlipRoom$Parser", "passWord", "(LSlipRoom$Word;)Z"⟩ prog_4_method_7_code 3 (some .boolean) ∈ lw_tbl := (List.mem_append_right _ (List.mem_append_right _ (List.mem_append_right _ (List.mem_append_left _ (List.mem_of_getElem? (i := 124) rfl)))))
set_option maxRecDepth 100000 in
theorem z_cwm_28 : Cond.code ⟨"SlipRoom$Parser", "passSign", "(I)V"⟩ prog_4_method_8_code 2 none ∈ lw_tbl := (List.mem_append_right _ (List.mem_append_right _ (List.mem_append_right _ (List.mem_append_left _ (List.mem_of_getElem? (i := 128) rfl)))))
set_option maxRecDepth 100000 in
theorem z_cwm_29 : Cond.code ⟨"SlipRoom$Parser", "takeNumber", "(II)I"⟩ prog_4_method_9_code 4 (some .int) ∈ lw_tbl := (List.mem_append_right _ (List.mem_append_right _ (List.mem_append_right _ (List.mem_append_left _ (List.mem_of_getElem? (i := 118) rfl)))))
set_option maxRecDepth 100000 in
theorem z_cwm_30 : Cond.code ⟨"SlipRoom$Parser", "level", "(II)V"⟩ prog_4_method_10_code 7 none ∈ lw_tbl := (List.mem_append_right _ (List.mem_append_right _ (List.mem_append_right _ (List.mem_append_left _ (List.mem_of_getElem? (i := 146) rfl)))))
set_option maxRecDepth 100000 in
theorem z_cwm_31 : Cond.code ⟨"SlipRoom$Parser", "operand", "(II)V"⟩ prog_4_method_11_code 3 none ∈ lw_tbl := (List.mem_append_right _ (List.mem_append_right _ (List.mem_append_right _ (List.mem_append_left _ (List.mem_of_getElem? (i := 156) rfl)))))
set_option maxRecDepth 100000 in
theorem z_cwm_32 : Cond.code ⟨"SlipRoom$Parser", "exprWithin", "(I)V"⟩ prog_4_method_12_code 2 none ∈ lw_tbl := (List.mem_append_right _ (List.mem_append_right _ (List.mem_append_right _ (List.mem_append_left _ (List.mem_of_getElem? (i := 160) rfl)))))
set_option maxRecDepth 100000 in
theorem z_cwm_33 : Cond.code ⟨"SlipRoom$Parser", "passNots", "()I"⟩ prog_4_method_13_code 2 (some .int) ∈ lw_tbl := (List.mem_append_right _ (List.mem_append_right _ (List.mem_append_right _ (List.mem_append_left _ (List.mem_of_getElem? (i := 150) rfl)))))
set_option maxRecDepth 100000 in
theorem z_cwm_34 : Cond.code ⟨"SlipRoom$Parser", "takePart", "()V"⟩ prog_4_method_14_code 1 none ∈ lw_tbl := (List.mem_append_right _ (List.mem_append_right _ (List.mem_append_right _ (List.mem_append_left _ (List.mem_of_getElem? (i := 164) rfl)))))
set_option maxRecDepth 100000 in
theorem z_cwm_35 : Cond.code ⟨"SlipRoom$Plan", "clear", "()V"⟩ prog_5_method_2_code 1 none ∈ lw_tbl := (List.mem_append_right _ (List.mem_append_right _ (List.mem_append_right _ (List.mem_append_left _ (List.mem_of_getElem? (i := 13) rfl)))))
set_option maxRecDepth 100000 in
theorem z_cwm_36 : Cond.code ⟨"SlipRoom$Plan", "putCode", "(I)V"⟩ prog_5_method_3_code 2 none ∈ lw_tbl := (List.mem_append_right _ (List.mem_append_right _ (List.mem_append_right _ (List.mem_append_left _ (List.mem_of_getElem? (i := 168) rfl)))))
set_option maxRecDepth 100000 in
theorem z_cwm_37 : Cond.code ⟨"SlipRoom$Plan", "partBegin", "(II)I"⟩ prog_5_method_4_code 4 (some .int) ∈ lw_tbl := (List.mem_append_right _ (List.mem_append_right _ (List.mem_append_right _ (List.mem_append_right _ (List.mem_append_left _ (List.mem_of_getElem? (i := 51) rfl))))))
set_option maxRecDepth 100000 in
theorem z_cwm_38 : Cond.code ⟨"SlipRoom$Settling", "weigh", "([III)V"⟩ prog_6_method_2_code 5 none ∈ lw_tbl := (List.mem_append_right _ (List.mem_append_right _ (List.mem_append_right _ (List.mem_append_right _ (List.mem_append_right _ (List.mem_append_left _ (List.mem_of_getElem? (i := 89) rfl)))))))
set_option maxRecDepth 100000 in
theorem z_cwm_39 : Cond.code ⟨"SlipRoom$Settling", "weighSet", "([III)V"⟩ prog_6_method_3_code 6 none ∈ lw_tbl := (List.mem_append_right _ (List.mem_append_right _ (List.mem_append_right _ (List.mem_append_right _ (List.mem_append_right _ (List.mem_append_left _ (List.mem_of_getElem? (i := 93) rfl)))))))
set_option maxRecDepth 100000 in
theorem z_cwm_40 : Cond.code ⟨"SlipRoom$Settling", "looksFrom", "([III)I"⟩ prog_6_method_4_code 7 (some .int) ∈ lw_tbl := (List.mem_append_right _ (List.mem_append_right _ (List.mem_append_right _ (List.mem_append_right _ (List.mem_append_right _ (List.mem_append_left _ (List.mem_of_getElem? (i := 103) rfl)))))))
set_option maxRecDepth 100000 in
theorem z_cwm_41 : Cond.code ⟨"SlipRoom$Settling", "leftBy", "([IIII)I"⟩ prog_6_method_5_code 6 (some .int) ∈ lw_tbl := (List.mem_append_right _ (List.mem_append_right _ (List.mem_append_right _ (List.mem_append_right _ (List.mem_append_right _ (List.mem_append_left _ (List.mem_of_getElem? (i := 106) rfl)))))))
set_option maxRecDepth 100000 in
theorem z_cwm_42 : Cond.code ⟨"SlipRoom$Sharing", "gather", "(LSlipRoom$Plan;LSlipRoom$Ledger;I)V"⟩ prog_7_method_2_code 6 none ∈ lw_tbl := (List.mem_append_right _ (List.mem_append_right _ (List.mem_append_right _ (List.mem_append_right _ (List.mem_append_left _ (List.mem_of_getElem? (i := 184) rfl))))))
set_option maxRecDepth 100000 in
theorem z_cwm_43 : Cond.code ⟨"SlipRoom$Sharing", "waysInAll", "()I"⟩ prog_7_method_3_code 1 (some .int) ∈ lw_tbl := (List.mem_append_right _ (List.mem_append_right _ (List.mem_append_right _ (List.mem_append_right _ (List.mem_append_left _ (List.mem_of_getElem? (i := 230) rfl))))))
set_option maxRecDepth 100000 in
theorem z_cwm_44 : Cond.code ⟨"SlipRoom$Sharing", "readersOf", "(I)I"⟩ prog_7_method_4_code 4 (some .int) ∈ lw_tbl := (List.mem_append_right _ (List.mem_append_right _ (List.mem_append_right _ (List.mem_append_right _ (List.mem_append_right _ (List.mem_append_left _ (List.mem_of_getElem? (i := 11) rfl)))))))
set_option maxRecDepth 100000 in
theorem z_cwm_45 : Cond.code ⟨"SlipRoom$Sharing", "endOf", "(IZ)I"⟩ prog_7_method_5_code 7 (some .int) ∈ lw_tbl := (List.mem_append_right _ (List.mem_append_right _ (List.mem_append_right _ (List.mem_append_right _ (List.mem_append_right _ (List.mem_append_left _ (List.mem_of_getElem? (i := 38) rfl)))))))
set_option maxRecDepth 100000 in
theorem z_cwm_46 : Cond.code ⟨"SlipRoom$Sharing", "movedLooks", "()I"⟩ prog_7_method_6_code 3 (some .int) ∈ lw_tbl := (List.mem_append_right _ (List.mem_append_right _ (List.mem_append_right _ (List.mem_append_right _ (List.mem_append_right _ (List.mem_append_left _ (List.mem_of_getElem? (i := 49) rfl)))))))
set_option maxRecDepth 100000 in
theorem z_cwm_47 : Cond.code ⟨"SlipRoom$Sharing", "allLooks", "()I"⟩ prog_7_method_7_code 1 (some .int) ∈ lw_tbl := (List.mem_append_right _ (List.mem_append_right _ (List.mem_append_right _ (List.mem_append_right _ (List.mem_append_left _ (List.mem_of_getElem? (i := 215) rfl))))))
set_option maxRecDepth 100000 in
theorem z_cwm_48 : Cond.code ⟨"SlipRoom$Sharing", "enter", "(LSlipRoom$Ledger;I)V"⟩ prog_7_method_8_code 4 none ∈ lw_tbl := (List.mem_append_right _ (List.mem_append_right _ (List.mem_append_right _ (List.mem_append_right _ (List.mem_append_left _ (List.mem_of_getElem? (i := 189) rfl))))))
set_option maxRecDepth 100000 in
theorem z_cwm_49 : Cond.code ⟨"SlipRoom$Sharing", "addLoan", "(III)V"⟩ prog_7_method_9_code 6 none ∈ lw_tbl := (List.mem_append_right _ (List.mem_append_right _ (List.mem_append_right _ (List.mem_append_right _ (List.mem_append_left _ (List.mem_of_getElem? (i := 206) rfl))))))
set_option maxRecDepth 100000 in
theorem z_cwm_50 : Cond.code ⟨"SlipRoom$Sharing", "findFits", "(I)V"⟩ prog_7_method_10_code 6 none ∈ lw_tbl := (List.mem_append_right _ (List.mem_append_right _ (List.mem_append_right _ (List.mem_append_right _ (List.mem_append_left _ (List.mem_of_getElem? (i := 211) rfl))))))
set_option maxRecDepth 100000 in
theorem z_cwm_51 : Cond.code ⟨"SlipRoom$Sharing", "mayBeFirst", "(II)Z"⟩ prog_7_method_11_code 3 (some .boolean) ∈ lw_tbl := (List.mem_append_right _ (List.mem_append_right _ (List.mem_append_right _ (List.mem_append_right _ (List.mem_append_left _ (List.mem_of_getElem? (i := 222) rfl))))))
set_option maxRecDepth 100000 in
theorem z_cwm_52 : Cond.code ⟨"SlipRoom$Sharing", "mayFollow", "(III)Z"⟩ prog_7_method_12_code 8 (some .boolean) ∈ lw_tbl := (List.mem_append_right _ (List.mem_append_right _ (List.mem_append_right _ (List.mem_append_right _ (List.mem_append_left _ (List.mem_of_getElem? (i := 226) rfl))))))
set_option maxRecDepth 100000 in
theorem z_cwm_53 : Cond.code ⟨"SlipRoom$Sharing", "lastIn", "(I)I"⟩ prog_7_method_13_code 3 (some .int) ∈ lw_tbl := (List.mem_append_right _ (List.mem_append_right _ (List.mem_append_right _ (List.mem_append_right _ (List.mem_append_left _ (List.mem_of_getElem? (i := 218) rfl))))))
set_option maxRecDepth 100000 in
theorem z_cwm_54 : Cond.code ⟨"SlipRoom$Sharing", "split", "(I)V"⟩ prog_7_method_14_code 3 none ∈ lw_tbl := (List.mem_append_right _ (List.mem_append_right _ (List.mem_append_right _ (List.mem_append_right _ (List.mem_append_left _ (List.mem_of_getElem? (i := 234) rfl))))))
set_option maxRecDepth 100000 in
theorem z_cwm_55 : Cond.code ⟨"SlipRoom$Sharing", "addSharer", "(I)V"⟩ prog_7_method_15_code 5 none ∈ lw_tbl := (List.mem_append_right _ (List.mem_append_right _ (List.mem_append_right _ (List.mem_append_right _ (List.mem_append_left _ (List.mem_of_getElem? (i := 238) rfl))))))
set_option maxRecDepth 100000 in
theorem z_cwm_56 : Cond.code ⟨"SlipRoom$Sharing", "happens", "(II)Z"⟩ prog_7_method_16_code 3 (some .boolean) ∈ lw_tbl := (List.mem_append_right _ (List.mem_append_right _ (List.mem_append_right _ (List.mem_append_right _ (List.mem_append_right _ (List.mem_append_left _ (List.mem_of_getElem? (i := 23) rfl)))))))
set_option maxRecDepth 100000 in
theorem z_cwm_57 : Cond.code ⟨"SlipRoom$Sharing", "mayHave", "(II)Z"⟩ prog_7_method_17_code 5 (some .boolean) ∈ lw_tbl := (List.mem_append_right _ (List.mem_append_right _ (List.mem_append_right _ (List.mem_append_right _ (List.mem_append_right _ (List.mem_append_left _ (List.mem_of_getElem? (i := 15) rfl)))))))
set_option maxRecDepth 100000 in
theorem z_cwm_58 : Cond.code ⟨"SlipRoom$Sharing", "holds", "(II)Z"⟩ prog_7_method_18_code 5 (some .boolean) ∈ lw_tbl := (List.mem_append_right _ (List.mem_append_right _ (List.mem_append_right _ (List.mem_append_right _ (List.mem_append_right _ (List.mem_append_left _ (List.mem_of_getElem? (i := 19) rfl)))))))
set_option maxRecDepth 100000 in
theorem z_cwm_59 : Cond.code ⟨"SlipRoom$Tokens", "begin", "(I)V"⟩ prog_8_method_2_code 2 none ∈ lw_tbl := (List.mem_append_right _ (List.mem_append_right _ (List.mem_append_right _ (List.mem_append_left _ (List.mem_of_getElem? (i := 17) rfl)))))
set_option maxRecDepth 100000 in
theorem z_cwm_60 : Cond.code ⟨"SlipRoom$Tokens", "stop", "()V"⟩ prog_8_method_3_code 1 none ∈ lw_tbl := (List.mem_append_right _ (List.mem_append_right _ (List.mem_append_right _ (List.mem_append_left _ (List.mem_of_getElem? (i := 113) rfl)))))
set_option maxRecDepth 100000 in
theorem z_cwm_61 : Cond.code ⟨"SlipRoom$Tokens", "advance", "()V"⟩ prog_8_method_4_code 1 none ∈ lw_tbl := (List.mem_append_right _ (List.mem_append_right _ (List.mem_append_right _ (List.mem_append_left _ (List.mem_of_getElem? (i := 24) rfl)))))
set_option maxRecDepth 100000 in
theorem z_cwm_62 : Cond.code ⟨"SlipRoom$Tokens", "joins", "()I"⟩ prog_8_method_5_code 1 (some .int) ∈ lw_tbl := (List.mem_append_right _ (List.mem_append_right _ (List.mem_append_right _ (List.mem_append_left _ (List.mem_of_getElem? (i := 172) rfl)))))
set_option maxRecDepth 100000 in
theorem z_cwm_63 : Cond.code ⟨"SlipRoom$Tokens", "operation", "()I"⟩ prog_8_method_6_code 1 (some .int) ∈ lw_tbl := (List.mem_append_right _ (List.mem_append_right _ (List.mem_append_right _ (List.mem_append_left _ (List.mem_of_getElem? (i := 180) rfl)))))
set_option maxRecDepth 100000 in
theorem z_cwm_64 : Cond.code ⟨"SlipRoom$Tokens", "behindBlanks", "()I"⟩ prog_8_method_7_code 2 (some .int) ∈ lw_tbl := (List.mem_append_right _ (List.mem_append_right _ (List.mem_append_right _ (List.mem_append_left _ (List.mem_of_getElem? (i := 28) rfl)))))
set_option maxRecDepth 100000 in
theorem z_cwm_65 : Cond.code ⟨"SlipRoom$Tokens", "passLetters", "()V"⟩ prog_8_method_8_code 1 none ∈ lw_tbl := (List.mem_append_right _ (List.mem_append_right _ (List.mem_append_right _ (List.mem_append_left _ (List.mem_of_getElem? (i := 35) rfl)))))
set_option maxRecDepth 100000 in
theorem z_cwm_66 : Cond.code ⟨"SlipRoom$Tokens", "passDigits", "()V"⟩ prog_8_method_9_code 1 none ∈ lw_tbl := (List.mem_append_right _ (List.mem_append_right _ (List.mem_append_right _ (List.mem_append_left _ (List.mem_of_getElem? (i := 96) rfl)))))
set_option maxRecDepth 100000 in
theorem z_cwm_67 : Cond.code ⟨"SlipRoom$Tokens", "isLetter", "(I)Z"⟩ prog_8_method_10_code 1 (some .boolean) ∈ lw_tbl := (List.mem_append_right _ (List.mem_append_right _ (List.mem_append_right _ (List.mem_append_left _ (List.mem_of_getElem? (i := 31) rfl)))))
set_option maxRecDepth 100000 in
theorem z_cwm_68 : Cond.code ⟨"SlipRoom$Tokens", "isDigit", "(I)Z"⟩ prog_8_method_11_code 1 (some .boolean) ∈ lw_tbl := (List.mem_append_right _ (List.mem_append_right _ (List.mem_append_right _ (List.mem_append_left _ (List.mem_of_getElem? (i := 92) rfl)))))
set_option maxRecDepth 100000 in
theorem z_cwm_69 : Cond.code ⟨"SlipRoom$Tokens", "isSign", "(I)Z"⟩ prog_8_method_12_code 1 (some .boolean) ∈ lw_tbl := (List.mem_append_right _ (List.mem_append_right _ (List.mem_append_right _ (List.mem_append_left _ (List.mem_of_getElem? (i := 99) rfl)))))
set_option maxRecDepth 100000 in
theorem z_cwm_70 : Cond.code ⟨"SlipRoom$Turns", "clear", "()V"⟩ prog_9_method_2_code 1 none ∈ lw_tbl := (List.mem_append_right _ (List.mem_append_right _ (List.mem_append_right _ (List.mem_append_left _ (List.mem_of_getElem? (i := 198) rfl)))))
set_option maxRecDepth 100000 in
theorem z_cwm_71 : Cond.code ⟨"SlipRoom$Turns", "arrange", "(LSlipRoom$Ledger;)I"⟩ prog_9_method_3_code 2 (some .int) ∈ lw_tbl := (List.mem_append_right _ (List.mem_append_right _ (List.mem_append_left _ (List.mem_of_getElem? (i := 147) rfl))))
set_option maxRecDepth 100000 in
theorem z_cwm_72 : Cond.code ⟨"SlipRoom$Turns", "place", "(LSlipRoom$Ledger;IIII)V"⟩ prog_9_method_4_code 9 none ∈ lw_tbl := (List.mem_append_right _ (List.mem_append_right _ (List.mem_append_left _ (List.mem_of_getElem? (i := 152) rfl))))
set_option maxRecDepth 100000 in
theorem z_cwm_73 : Cond.code ⟨"SlipRoom$Word", "find", "([BII)LSlipRoom$Word;"⟩ prog_10_method_4_code 6 (some (.object "SlipRoom$Word")) ∈ lw_tbl := (List.mem_append_right _ (List.mem_append_right _ (List.mem_append_right _ (List.mem_append_left _ (List.mem_of_getElem? (i := 38) rfl)))))
set_option maxRecDepth 100000 in
theorem z_cwm_74 : Cond.code ⟨"SlipRoom", "feed", "(IIIII)I"⟩ prog_1_method_2_code 6 (some .int) ∈ lw_tbl := (List.mem_append_right _ (List.mem_append_right _ (List.mem_append_left _ (List.mem_of_getElem? (i := 131) rfl))))
set_option maxRecDepth 100000 in
theorem z_cwm_75 : Cond.code ⟨"SlipRoom", "room", "(I)I"⟩ prog_1_method_3_code 4 (some .int) ∈ lw_tbl := (List.mem_append_right _ (List.mem_append_right _ (List.mem_append_left _ (List.mem_of_getElem? (i := 179) rfl))))
set_option maxRecDepth 100000 in
theorem z_cwm_76 : Cond.code ⟨"SlipRoom", "fault", "()I"⟩ prog_1_method_4_code 1 (some .int) ∈ lw_tbl := (List.mem_append_right _ (List.mem_append_right _ (List.mem_append_left _ (List.mem_of_getElem? (i := 139) rfl))))
set_option maxRecDepth 100000 in
theorem z_cwm_77 : Cond.code ⟨"SlipRoom", "count", "(I)I"⟩ prog_1_method_5_code 2 (some .int) ∈ lw_tbl := (List.mem_append_right _ (List.mem_append_right _ (List.mem_append_right _ (List.mem_append_left _ (List.mem_of_getElem? (i := 206) rfl)))))
set_option maxRecDepth 100000 in
theorem z_cwm_78 : Cond.code ⟨"SlipRoom", "book", "(II)I"⟩ prog_1_method_6_code 3 (some .int) ∈ lw_tbl := (List.mem_append_right _ (List.mem_append_right _ (List.mem_append_right _ (List.mem_append_left _ (List.mem_of_getElem? (i := 233) rfl)))))
set_option maxRecDepth 100000 in
theorem z_cwm_79 : Cond.code ⟨"SlipRoom", "reader", "(II)I"⟩ prog_1_method_7_code 3 (some .int) ∈ lw_tbl := (List.mem_append_right _ (List.mem_append_right _ (List.mem_append_right _ (List.mem_append_right _ (List.mem_append_left _ (List.mem_of_getElem? (i := 23) rfl))))))
set_option maxRecDepth 100000 in
theorem z_cwm_80 : Cond.code ⟨"SlipRoom", "loan", "(IIII)I"⟩ prog_1_method_8_code 8 (some .int) ∈ lw_tbl := (List.mem_append_right _ (List.mem_append_right _ (List.mem_append_right _ (List.mem_append_right _ (List.mem_append_left _ (List.mem_of_getElem? (i := 36) rfl))))))
set_option maxRecDepth 100000 in
theorem z_cwm_81 : Cond.code ⟨"SlipRoom", "lent", "(II)I"⟩ prog_1_method_9_code 3 (some .int) ∈ lw_tbl := (List.mem_append_right _ (List.mem_append_right _ (List.mem_append_right _ (List.mem_append_right _ (List.mem_append_left _ (List.mem_of_getElem? (i := 102) rfl))))))
set_option maxRecDepth 100000 in
theorem z_cwm_82 : Cond.code ⟨"SlipRoom", "drop", "(III)I"⟩ prog_1_method_10_code 4 (some .int) ∈ lw_tbl := (List.mem_append_right _ (List.mem_append_right _ (List.mem_append_right _ (List.mem_append_right _ (List.mem_append_left _ (List.mem_of_getElem? (i := 110) rfl))))))
set_option maxRecDepth 100000 in
theorem z_cwm_83 : Cond.code ⟨"SlipRoom", "slip", "(II)I"⟩ prog_1_method_11_code 3 (some .int) ∈ lw_tbl := (List.mem_append_right _ (List.mem_append_right _ (List.mem_append_right _ (List.mem_append_right _ (List.mem_append_left _ (List.mem_of_getElem? (i := 121) rfl))))))
set_option maxRecDepth 100000 in
theorem z_cwm_84 : Cond.code ⟨"SlipRoom", "read", "(III)I"⟩ prog_1_method_12_code 5 (some .int) ∈ lw_tbl := (List.mem_append_right _ (List.mem_append_right _ (List.mem_append_right _ (List.mem_append_right _ (List.mem_append_left _ (List.mem_of_getElem? (i := 128) rfl))))))
set_option maxRecDepth 100000 in
theorem z_cwm_85 : Cond.code ⟨"SlipRoom", "has", "(III)Z"⟩ prog_1_method_13_code 4 (some .boolean) ∈ lw_tbl := (List.mem_append_right _ (List.mem_append_right _ (List.mem_append_right _ (List.mem_append_right _ (List.mem_append_left _ (List.mem_of_getElem? (i := 144) rfl))))))
set_option maxRecDepth 100000 in
theorem z_cwm_86 : Cond.code ⟨"SlipRoom", "ahead", "(III)I"⟩ prog_1_method_14_code 6 (some .int) ∈ lw_tbl := (List.mem_append_right _ (List.mem_append_right _ (List.mem_append_right _ (List.mem_append_right _ (List.mem_append_left _ (List.mem_of_getElem? (i := 153) rfl))))))
set_option maxRecDepth 100000 in
theorem z_cwm_87 : Cond.code ⟨"SlipRoom", "look", "(IIII)I"⟩ prog_1_method_15_code 6 (some .int) ∈ lw_tbl := (List.mem_append_right _ (List.mem_append_right _ (List.mem_append_right _ (List.mem_append_right _ (List.mem_append_left _ (List.mem_of_getElem? (i := 161) rfl))))))
set_option maxRecDepth 100000 in
theorem z_cwm_88 : Cond.code ⟨"SlipRoom", "ways", "(I)I"⟩ prog_1_method_16_code 2 (some .int) ∈ lw_tbl := (List.mem_append_right _ (List.mem_append_right _ (List.mem_append_right _ (List.mem_append_right _ (List.mem_append_left _ (List.mem_of_getElem? (i := 180) rfl))))))
set_option maxRecDepth 100000 in
theorem z_cwm_89 : Cond.code ⟨"SlipRoom", "whose", "(II)I"⟩ prog_1_method_17_code 4 (some .int) ∈ lw_tbl := (List.mem_append_right _ (List.mem_append_right _ (List.mem_append_right _ (List.mem_append_right _ (List.mem_append_right _ (List.mem_append_left _ (List.mem_of_getElem? (i := 5) rfl)))))))
set_option maxRecDepth 100000 in
theorem z_cwm_90 : Cond.code ⟨"SlipRoom", "ends", "(III)I"⟩ prog_1_method_18_code 4 (some .int) ∈ lw_tbl := (List.mem_append_right _ (List.mem_append_right _ (List.mem_append_right _ (List.mem_append_right _ (List.mem_append_right _ (List.mem_append_left _ (List.mem_of_getElem? (i := 33) rfl)))))))
set_option maxRecDepth 100000 in
theorem z_cwm_91 : Cond.code ⟨"SlipRoom", "moved", "(I)I"⟩ prog_1_method_19_code 2 (some .int) ∈ lw_tbl := (List.mem_append_right _ (List.mem_append_right _ (List.mem_append_right _ (List.mem_append_right _ (List.mem_append_right _ (List.mem_append_left _ (List.mem_of_getElem? (i := 45) rfl)))))))
set_option maxRecDepth 100000 in
theorem z_cwm_92 : Cond.code ⟨"SlipRoom", "wish", "(III)I"⟩ prog_1_method_20_code 4 (some .int) ∈ lw_tbl := (List.mem_append_right _ (List.mem_append_right _ (List.mem_append_right _ (List.mem_append_right _ (List.mem_append_right _ (List.mem_append_left _ (List.mem_of_getElem? (i := 57) rfl)))))))
set_option maxRecDepth 100000 in
theorem z_cwm_93 : Cond.code ⟨"SlipRoom", "waiting", "()I"⟩ prog_1_method_21_code 1 (some .int) ∈ lw_tbl := (List.mem_append_right _ (List.mem_append_right _ (List.mem_append_left _ (List.mem_of_getElem? (i := 143) rfl))))
set_option maxRecDepth 100000 in
theorem z_cwm_94 : Cond.code ⟨"SlipRoom", "turn", "(I)I"⟩ prog_1_method_22_code 2 (some .int) ∈ lw_tbl := (List.mem_append_right _ (List.mem_append_right _ (List.mem_append_right _ (List.mem_append_right _ (List.mem_append_right _ (List.mem_append_left _ (List.mem_of_getElem? (i := 68) rfl)))))))
set_option maxRecDepth 100000 in
theorem z_cwm_95 : Cond.code ⟨"SlipRoom", "tale", "(III)Z"⟩ prog_1_method_23_code 4 (some .boolean) ∈ lw_tbl := (List.mem_append_right _ (List.mem_append_right _ (List.mem_append_right _ (List.mem_append_right _ (List.mem_append_right _ (List.mem_append_left _ (List.mem_of_getElem? (i := 76) rfl)))))))
set_option maxRecDepth 100000 in
theorem z_cwm_96 : Cond.code ⟨"SlipRoom", "settle", "(II)I"⟩ prog_1_method_24_code 3 (some .int) ∈ lw_tbl := (List.mem_append_right _ (List.mem_append_right _ (List.mem_append_right _ (List.mem_append_right _ (List.mem_append_right _ (List.mem_append_left _ (List.mem_of_getElem? (i := 83) rfl)))))))
set_option maxRecDepth 100000 in
theorem z_cwm_97 : Cond.code ⟨"SlipRoom", "image", "()V"⟩ prog_1_method_25_code 1 none ∈ lw_tbl := (List.mem_append_right _ (List.mem_append_right _ (List.mem_append_left _ (List.mem_of_getElem? (i := 162) rfl))))
set_option maxRecDepth 100000 in
theorem z_cwm_98 : Cond.code ⟨"SlipRoom", "restore", "()Z"⟩ prog_1_method_26_code 1 (some .boolean) ∈ lw_tbl := (List.mem_append_right _ (List.mem_append_right _ (List.mem_append_left _ (List.mem_of_getElem? (i := 171) rfl))))
set_option maxRecDepth 100000 in
theorem z_cwm_99 : Cond.code ⟨"SlipRoom", "putBytes", "(I)V"⟩ prog_1_method_27_code 3 none ∈ lw_tbl := (List.mem_append_right _ (List.mem_append_right _ (List.mem_append_left _ (List.mem_of_getElem? (i := 135) rfl))))
set_option maxRecDepth 100000 in
theorem z_cwm_100 : Cond.code ⟨"SlipRoom", "requireBook", "(I)V"⟩ prog_1_method_28_code 2 none ∈ lw_tbl := (List.mem_append_right _ (List.mem_append_right _ (List.mem_append_right _ (List.mem_append_left _ (List.mem_of_getElem? (i := 237) rfl)))))
set_option maxRecDepth 100000 in
theorem z_cwm_101 : Cond.code ⟨"SlipRoom", "requireReader", "(I)V"⟩ prog_1_method_29_code 2 none ∈ lw_tbl := (List.mem_append_right _ (List.mem_append_right _ (List.mem_append_right _ (List.mem_append_right _ (List.mem_append_left _ (List.mem_of_getElem? (i := 27) rfl))))))
set_option maxRecDepth 100000 in
theorem z_cwm_102 : Cond.code ⟨"SlipRoom", "refused", "(I)I"⟩ prog_1_method_30_code 2 (some .int) ∈ lw_tbl := (List.mem_append_right _ (List.mem_append_right _ (List.mem_append_right _ (List.mem_append_left _ (List.mem_of_getElem? (i := 210) rfl)))))
set_option maxRecDepth 100000 in
theorem z_cwm_103 : Cond.code ⟨"SlipRoom", "cellOf", "(II)I"⟩ prog_1_method_31_code 2 (some .int) ∈ lw_tbl := (List.mem_append_right _ (List.mem_append_right _ (List.mem_append_right _ (List.mem_append_right _ (List.mem_append_left _ (List.mem_of_getElem? (i := 5) rfl))))))
set_option maxRecDepth 100000 in
theorem z_cwm_104 : Cond.code ⟨"SlipRoom", "onlyOne", "(I)I"⟩ prog_1_method_32_code 3 (some .int) ∈ lw_tbl := (List.mem_append_right _ (List.mem_append_right _ (List.mem_append_right _ (List.mem_append_right _ (List.mem_append_right _ (List.mem_append_left _ (List.mem_of_getElem? (i := 26) rfl)))))))
set_option maxRecDepth 100000 in
theorem z_cwm_105 : Cond.code ⟨"SlipRoom", "mayLend", "(IIII)Z"⟩ prog_1_method_33_code 5 (some .boolean) ∈ lw_tbl := (List.mem_append_right _ (List.mem_append_right _ (List.mem_append_right _ (List.mem_append_right _ (List.mem_append_left _ (List.mem_of_getElem? (i := 40) rfl))))))
set_option maxRecDepth 100000 in
theorem z_cwm_106 : Cond.code ⟨"SlipRoom", "beginOf", "(II)I"⟩ prog_1_method_34_code 4 (some .int) ∈ lw_tbl := (List.mem_append_right _ (List.mem_append_right _ (List.mem_append_right _ (List.mem_append_right _ (List.mem_append_left _ (List.mem_of_getElem? (i := 45) rfl))))))
set_option maxRecDepth 100000 in
theorem z_cwm_107 : Cond.code ⟨"SlipRoom", "readLoan", "(IIIII)I"⟩ prog_1_method_35_code 8 (some .int) ∈ lw_tbl := (List.mem_append_right _ (List.mem_append_right _ (List.mem_append_right _ (List.mem_append_right _ (List.mem_append_left _ (List.mem_of_getElem? (i := 63) rfl))))))
set_option maxRecDepth 100000 in
theorem z_cwm_108 : Cond.code ⟨"SlipRoom", "readHour", "(IIIII)I"⟩ prog_1_method_36_code 11 (some .int) ∈ lw_tbl := (List.mem_append_right _ (List.mem_append_right _ (List.mem_append_right _ (List.mem_append_right _ (List.mem_append_left _ (List.mem_of_getElem? (i := 67) rfl))))))
set_option maxRecDepth 100000 in
theorem z_cwm_109 : Cond.code ⟨"SlipRoom", "stopsBehind", "(IIIII)Z"⟩ prog_1_method_37_code 6 (some .boolean) ∈ lw_tbl := (List.mem_append_right _ (List.mem_append_right _ (List.mem_append_right _ (List.mem_append_right _ (List.mem_append_left _ (List.mem_of_getElem? (i := 71) rfl))))))
set_option maxRecDepth 100000 in
theorem z_cwm_110 : Cond.code ⟨"SlipRoomModel", "thrown", "()I"⟩ prog_12_method_2_code 1 (some .int) ∈ lw_tbl := (List.mem_append_right _ (List.mem_append_right _ (List.mem_append_right _ (List.mem_append_right _ (List.mem_append_right _ (List.mem_append_right _ (List.mem_append_left _ (List.mem_of_getElem? (i := 100) rfl))))))))
set_option maxRecDepth 100000 in
theorem z_cwm_111 : Cond.code ⟨"SlipRoomModel", "fail", "(I)I"⟩ prog_12_method_3_code 2 (some .int) ∈ lw_tbl := (List.mem_append_right _ (List.mem_append_right _ (List.mem_append_right _ (List.mem_append_right _ (List.mem_append_right _ (List.mem_append_right _ (List.mem_append_left _ (List.mem_of_getElem? (i := 112) rfl))))))))
set_option maxRecDepth 100000 in
theorem z_cwm_112 : Cond.code ⟨"SlipRoomModel", "isIn", "(III)Z"⟩ prog_12_method_4_code 3 (some .boolean) ∈ lw_tbl := (List.mem_append_right _ (List.mem_append_right _ (List.mem_append_right _ (List.mem_append_right _ (List.mem_append_right _ (List.mem_append_right _ (List.mem_append_left _ (List.mem_of_getElem? (i := 221) rfl))))))))
set_option maxRecDepth 100000 in
theorem z_cwm_113 : Cond.code ⟨"SlipRoomModel", "isBook", "(I)Z"⟩ prog_12_method_5_code 2 (some .boolean) ∈ lw_tbl := (List.mem_append_right _ (List.mem_append_right _ (List.mem_append_right _ (List.mem_append_right _ (List.mem_append_right _ (List.mem_append_right _ (List.mem_append_left _ (List.mem_of_getElem? (i := 229) rfl))))))))
set_option maxRecDepth 100000 in
theorem z_cwm_114 : Cond.code ⟨"SlipRoomModel", "isReader", "(I)Z"⟩ prog_12_method_6_code 2 (some .boolean) ∈ lw_tbl := (List.mem_append_right _ (List.mem_append_right _ (List.mem_append_right _ (List.mem_append_right _ (List.mem_append_right _ (List.mem_append_right _ (List.mem_append_right _ (List.mem_of_getElem? (i := 12) rfl))))))))
set_option maxRecDepth 100000 in
theorem z_cwm_115 : Cond.code ⟨"SlipRoomModel", "feed", "(IIIII)I"⟩ prog_12_method_7_code 8 (some .int) ∈ lw_tbl := (List.mem_append_right _ (List.mem_append_right _ (List.mem_append_right _ (List.mem_append_right _ (List.mem_append_right _ (List.mem_append_right _ (List.mem_append_left _ (List.mem_of_getElem? (i := 104) rfl))))))))
set_option maxRecDepth 100000 in
theorem z_cwm_116 : Cond.code ⟨"SlipRoomModel", "byteAt", "(I)I"⟩ prog_12_method_8_code 2 (some .int) ∈ lw_tbl := (List.mem_append_right _ (List.mem_append_right _ (List.mem_append_right _ (List.mem_append_right _ (List.mem_append_right _ (List.mem_append_right _ (List.mem_append_left _ (List.mem_of_getElem? (i := 120) rfl))))))))
set_option maxRecDepth 100000 in
theorem z_cwm_117 : Cond.code ⟨"SlipRoomModel", "isLetter", "(I)Z"⟩ prog_12_method_9_code 1 (some .boolean) ∈ lw_tbl := (List.mem_append_right _ (List.mem_append_right _ (List.mem_append_right _ (List.mem_append_right _ (List.mem_append_right _ (List.mem_append_right _ (List.mem_append_left _ (List.mem_of_getElem? (i := 123) rfl))))))))
set_option maxRecDepth 100000 in
theorem z_cwm_118 : Cond.code ⟨"SlipRoomModel", "isDigit", "(I)Z"⟩ prog_12_method_10_code 1 (some .boolean) ∈ lw_tbl := (List.mem_append_right _ (List.mem_append_right _ (List.mem_append_right _ (List.mem_append_right _ (List.mem_append_right _ (List.mem_append_right _ (List.mem_append_left _ (List.mem_of_getElem? (i := 126) rfl))))))))
set_option maxRecDepth 100000 in
theorem z_cwm_119 : Cond.code ⟨"SlipRoomModel", "isMark", "(I)Z"⟩ prog_12_method_11_code 1 (some .boolean) ∈ lw_tbl := (List.mem_append_right _ (List.mem_append_right _ (List.mem_append_right _ (List.mem_append_right _ (List.mem_append_right _ (List.mem_append_right _ (List.mem_append_left _ (List.mem_of_getElem? (i := 131) rfl))))))))
set_option maxRecDepth 100000 in
theorem z_cwm_120 : Cond.code ⟨"SlipRoomModel", "stepOn", "()V"⟩ prog_12_method_12_code 2 none ∈ lw_tbl := (List.mem_append_right _ (List.mem_append_right _ (List.mem_append_right _ (List.mem_append_right _ (List.mem_append_right _ (List.mem_append_right _ (List.mem_append_left _ (List.mem_of_getElem? (i := 116) rfl))))))))
set_option maxRecDepth 100000 in
theorem z_cwm_121 : Cond.code ⟨"SlipRoomModel", "wrong", "(I)V"⟩ prog_12_method_13_code 2 none ∈ lw_tbl := (List.mem_append_right _ (List.mem_append_right _ (List.mem_append_right _ (List.mem_append_right _ (List.mem_append_right _ (List.mem_append_right _ (List.mem_append_left _ (List.mem_of_getElem? (i := 145) rfl))))))))
set_option maxRecDepth 100000 in
theorem z_cwm_122 : Cond.code ⟨"SlipRoomModel", "is", "(Ljava/lang/String;)Z"⟩ prog_12_method_14_code 4 (some .boolean) ∈ lw_tbl := (List.mem_append_right _ (List.mem_append_right _ (List.mem_append_right _ (List.mem_append_right _ (List.mem_append_right _ (List.mem_append_right _ (List.mem_append_left _ (List.mem_of_getElem? (i := 135) rfl))))))))
set_option maxRecDepth 100000 in
theorem z_cwm_123 : Cond.code ⟨"SlipRoomModel", "isMarked", "(I)Z"⟩ prog_12_method_15_code 2 (some .boolean) ∈ lw_tbl := (List.mem_append_right _ (List.mem_append_right _ (List.mem_append_right _ (List.mem_append_right _ (List.mem_append_right _ (List.mem_append_right _ (List.mem_append_left _ (List.mem_of_getElem? (i := 171) rfl))))))))
set_option maxRecDepth 100000 in
theorem z_cwm_124 : Cond.code ⟨"SlipRoomModel", "which", "([Ljava/lang/String;)I"⟩ prog_12_method_16_code 3 (some .int) ∈ lw_tbl := (List.mem_append_right _ (List.mem_append_right _ (List.mem_append_right _ (List.mem_append_right _ (List.mem_append_right _ (List.mem_append_right _ (List.mem_append_left _ (List.mem_of_getElem? (i := 200) rfl))))))))
set_option maxRecDepth 100000 in
theorem z_cwm_125 : Cond.code ⟨"SlipRoomModel", "passes", "(Ljava/lang/String;)Z"⟩ prog_12_method_17_code 3 (some .boolean) ∈ lw_tbl := (List.mem_append_right _ (List.mem_append_right _ (List.mem_append_right _ (List.mem_append_right _ (List.mem_append_right _ (List.mem_append_right _ (List.mem_append_left _ (List.mem_of_getElem? (i := 154) rfl))))))))
set_option maxRecDepth 100000 in
theorem z_cwm_126 : Cond.code ⟨"SlipRoomModel", "mark", "(I)V"⟩ prog_12_method_18_code 2 none ∈ lw_tbl := (List.mem_append_right _ (List.mem_append_right _ (List.mem_append_right _ (List.mem_append_right _ (List.mem_append_right _ (List.mem_append_right _ (List.mem_append_left _ (List.mem_of_getElem? (i := 204) rfl))))))))
set_option maxRecDepth 100000 in
theorem z_cwm_127 : Cond.code ⟨"SlipRoomModel", "readNumber", "(II)I"⟩ prog_12_method_19_code 4 (some .int) ∈ lw_tbl := (List.mem_append_right _ (List.mem_append_right _ (List.mem_append_right _ (List.mem_append_right _ (List.mem_append_right _ (List.mem_append_right _ (List.mem_append_left _ (List.mem_of_getElem? (i := 149) rfl))))))))
set_option maxRecDepth 100000 in
theorem z_cwm_128 : Cond.code ⟨"SlipRoomModel", "lay", "(I)V"⟩ prog_12_method_20_code 2 none ∈ lw_tbl := (List.mem_append_right _ (List.mem_append_right _ (List.mem_append_right _ (List.mem_append_right _ (List.mem_append_right _ (List.mem_append_right _ (List.mem_append_left _ (List.mem_of_getElem? (i := 196) rfl))))))))
set_option maxRecDepth 100000 in
theorem z_cwm_129 : Cond.code ⟨"SlipRoomModel", "readPart", "(I)V"⟩ prog_12_method_21_code 3 none ∈ lw_tbl := (List.mem_append_right _ (List.mem_append_right _ (List.mem_append_right _ (List.mem_append_right _ (List.mem_append_right _ (List.mem_append_right _ (List.mem_append_left _ (List.mem_of_getElem? (i := 192) rfl))))))))
set_option maxRecDepth 100000 in
theorem z_cwm_130 : Cond.code ⟨"SlipRoomModel", "readProduct", "(I)V"⟩ prog_12_method_22_code 3 none ∈ lw_tbl := (List.mem_append_right _ (List.mem_append_right _ (List.mem_append_right _ (List.mem_append_right _ (List.mem_append_right _ (List.mem_append_right _ (List.mem_append_left _ (List.mem_of_getElem? (i := 188) rfl))))))))
set_option maxRecDepth 100000 in
theorem z_cwm_131 : Cond.code ⟨"SlipRoomModel", "readSum", "(I)V"⟩ prog_12_method_23_code 3 none ∈ lw_tbl := (List.mem_append_right _ (List.mem_append_right _ (List.mem_append_right _ (List.mem_append_right _ (List.mem_append_right _ (List.mem_append_right _ (List.mem_append_left _ (List.mem_of_getElem? (i := 184) rfl))))))))
set_option maxRecDepth 100000 in
theorem z_cwm_132 : Cond.code ⟨"SlipRoomModel", "readNot", "(I)V"⟩ prog_12_method_24_code 4 none ∈ lw_tbl := (List.mem_append_right _ (List.mem_append_right _ (List.mem_append_right _ (List.mem_append_right _ (List.mem_append_right _ (List.mem_append_right _ (List.mem_append_left _ (List.mem_of_getElem? (i := 179) rfl))))))))
set_option maxRecDepth 100000 in
theorem z_cwm_133 : Cond.code ⟨"SlipRoomModel", "readAnd", "(I)V"⟩ prog_12_method_25_code 2 none ∈ lw_tbl := (List.mem_append_right _ (List.mem_append_right _ (List.mem_append_right _ (List.mem_append_right _ (List.mem_append_right _ (List.mem_append_right _ (List.mem_append_left _ (List.mem_of_getElem? (i := 175) rfl))))))))
set_option maxRecDepth 100000 in
theorem z_cwm_134 : Cond.code ⟨"SlipRoomModel", "readExpression", "(I)V"⟩ prog_12_method_26_code 3 none ∈ lw_tbl := (List.mem_append_right _ (List.mem_append_right _ (List.mem_append_right _ (List.mem_append_right _ (List.mem_append_right _ (List.mem_append_right _ (List.mem_append_left _ (List.mem_of_getElem? (i := 167) rfl))))))))
set_option maxRecDepth 100000 in
theorem z_cwm_135 : Cond.code ⟨"SlipRoomModel", "readBook", "()V"⟩ prog_12_method_27_code 2 none ∈ lw_tbl := (List.mem_append_right _ (List.mem_append_right _ (List.mem_append_right _ (List.mem_append_right _ (List.mem_append_right _ (List.mem_append_right _ (List.mem_append_left _ (List.mem_of_getElem? (i := 141) rfl))))))))
set_option maxRecDepth 100000 in
theorem z_cwm_136 : Cond.code ⟨"SlipRoomModel", "readReader", "()V"⟩ prog_12_method_28_code 2 none ∈ lw_tbl := (List.mem_append_right _ (List.mem_append_right _ (List.mem_append_right _ (List.mem_append_right _ (List.mem_append_right _ (List.mem_append_right _ (List.mem_append_left _ (List.mem_of_getElem? (i := 159) rfl))))))))
set_option maxRecDepth 100000 in
theorem z_cwm_137 : Cond.code ⟨"SlipRoomModel", "room", "(I)I"⟩ prog_12_method_29_code 2 (some .int) ∈ lw_tbl := (List.mem_append_right _ (List.mem_append_right _ (List.mem_append_right _ (List.mem_append_right _ (List.mem_append_right _ (List.mem_append_right _ (List.mem_append_left _ (List.mem_of_getElem? (i := 108) rfl))))))))
set_option maxRecDepth 100000 in
theorem z_cwm_138 : Cond.code ⟨"SlipRoomModel", "take", "()V"⟩ prog_12_method_30_code 2 none ∈ lw_tbl := (List.mem_append_right _ (List.mem_append_right _ (List.mem_append_right _ (List.mem_append_right _ (List.mem_append_right _ (List.mem_append_right _ (List.mem_append_left _ (List.mem_of_getElem? (i := 210) rfl))))))))
set_option maxRecDepth 100000 in
theorem z_cwm_139 : Cond.code ⟨"SlipRoomModel", "fault", "()I"⟩ prog_12_method_31_code 1 (some .int) ∈ lw_tbl := (List.mem_append_right _ (List.mem_append_right _ (List.mem_append_right _ (List.mem_append_right _ (List.mem_append_right _ (List.mem_append_right _ (List.mem_append_left _ (List.mem_of_getElem? (i := 214) rfl))))))))
set_option maxRecDepth 100000 in
theorem z_cwm_140 : Cond.code ⟨"SlipRoomModel", "count", "(I)I"⟩ prog_12_method_32_code 2 (some .int) ∈ lw_tbl := (List.mem_append_right _ (List.mem_append_right _ (List.mem_append_right _ (List.mem_append_right _ (List.mem_append_right _ (List.mem_append_right _ (List.mem_append_left _ (List.mem_of_getElem? (i := 218) rfl))))))))
set_option maxRecDepth 100000 in
theorem z_cwm_141 : Cond.code ⟨"SlipRoomModel", "pair", "(II)I"⟩ prog_12_method_33_code 2 (some .int) ∈ lw_tbl := (List.mem_append_right _ (List.mem_append_right _ (List.mem_append_right _ (List.mem_append_right _ (List.mem_append_right _ (List.mem_append_right _ (List.mem_append_right _ (List.mem_of_getElem? (i := 0) rfl))))))))
set_option maxRecDepth 100000 in
theorem z_cwm_142 : Cond.code ⟨"SlipRoomModel", "hasRead", "(III)Z"⟩ prog_12_method_34_code 4 (some .boolean) ∈ lw_tbl := (List.mem_append_right _ (List.mem_append_right _ (List.mem_append_right _ (List.mem_append_right _ (List.mem_append_right _ (List.mem_append_right _ (List.mem_append_left _ (List.mem_of_getElem? (i := 237) rfl))))))))
set_option maxRecDepth 100000 in
theorem z_cwm_143 : Cond.code ⟨"SlipRoomModel", "unopened", "(I)I"⟩ prog_12_method_35_code 6 (some .int) ∈ lw_tbl := (List.mem_append_right _ (List.mem_append_right _ (List.mem_append_right _ (List.mem_append_right _ (List.mem_append_right _ (List.mem_append_right _ (List.mem_append_left _ (List.mem_of_getElem? (i := 233) rfl))))))))
set_option maxRecDepth 100000 in
theorem z_cwm_144 : Cond.code ⟨"SlipRoomModel", "slipsIn", "(I)I"⟩ prog_12_method_36_code 4 (some .int) ∈ lw_tbl := (List.mem_append_right _ (List.mem_append_right _ (List.mem_append_right _ (List.mem_append_right _ (List.mem_append_right _ (List.mem_append_right _ (List.mem_append_right _ (List.mem_of_getElem? (i := 4) rfl))))))))
set_option maxRecDepth 100000 in
theorem z_cwm_145 : Cond.code ⟨"SlipRoomModel", "book", "(II)I"⟩ prog_12_method_37_code 3 (some .int) ∈ lw_tbl := (List.mem_append_right _ (List.mem_append_right _ (List.mem_append_right _ (List.mem_append_right _ (List.mem_append_right _ (List.mem_append_right _ (List.mem_append_left _ (List.mem_of_getElem? (i := 225) rfl))))))))
set_option maxRecDepth 100000 in
theorem z_cwm_146 : Cond.code ⟨"SlipRoomModel", "reader", "(II)I"⟩ prog_12_method_38_code 3 (some .int) ∈ lw_tbl := (List.mem_append_right _ (List.mem_append_right _ (List.mem_append_right _ (List.mem_append_right _ (List.mem_append_right _ (List.mem_append_right _ (List.mem_append_right _ (List.mem_of_getElem? (i := 8) rfl))))))))
set_option maxRecDepth 100000 in
theorem z_cwm_147 : Cond.code ⟨"SlipRoomModel", "reckon", "(III)I"⟩ prog_12_method_39_code 3 (some .int) ∈ lw_tbl := (List.mem_append_right _ (List.mem_append_right _ (List.mem_append_right _ (List.mem_append_right _ (List.mem_append_right _ (List.mem_append_right _ (List.mem_append_right _ (List.mem_of_getElem? (i := 36) rfl))))))))
set_option maxRecDepth 100000 in
theorem z_cwm_148 : Cond.code ⟨"SlipRoomModel", "stops", "(IIIII)Z"⟩ prog_12_method_40_code 9 (some .boolean) ∈ lw_tbl := (List.mem_append_right _ (List.mem_append_right _ (List.mem_append_right _ (List.mem_append_right _ (List.mem_append_right _ (List.mem_append_right _ (List.mem_append_right _ (List.mem_of_getElem? (i := 33) rfl))))))))
set_option maxRecDepth 100000 in
theorem z_cwm_149 : Cond.code ⟨"SlipRoomModel", "turnPage", "(IIII)V"⟩ prog_12_method_41_code 5 none ∈ lw_tbl := (List.mem_append_right _ (List.mem_append_right _ (List.mem_append_right _ (List.mem_append_right _ (List.mem_append_right _ (List.mem_append_right _ (List.mem_append_right _ (List.mem_of_getElem? (i := 20) rfl))))))))
set_option maxRecDepth 100000 in
theorem z_cwm_150 : Cond.code ⟨"SlipRoomModel", "readOf", "(II)I"⟩ prog_12_method_42_code 5 (some .int) ∈ lw_tbl := (List.mem_append_right _ (List.mem_append_right _ (List.mem_append_right _ (List.mem_append_right _ (List.mem_append_right _ (List.mem_append_right _ (List.mem_append_right _ (List.mem_of_getElem? (i := 24) rfl))))))))
set_option maxRecDepth 100000 in
theorem z_cwm_151 : Cond.code ⟨"SlipRoomModel", "beginOf", "(II)I"⟩ prog_12_method_43_code 5 (some .int) ∈ lw_tbl := (List.mem_append_right _ (List.mem_append_right _ (List.mem_append_right _ (List.mem_append_right _ (List.mem_append_right _ (List.mem_append_right _ (List.mem_append_right _ (List.mem_of_getElem? (i := 28) rfl))))))))
set_option maxRecDepth 100000 in
theorem z_cwm_152 : Cond.code ⟨"SlipRoomModel", "loan", "(IIII)I"⟩ prog_12_method_44_code 11 (some .int) ∈ lw_tbl := (List.mem_append_right _ (List.mem_append_right _ (List.mem_append_right _ (List.mem_append_right _ (List.mem_append_right _ (List.mem_append_right _ (List.mem_append_right _ (List.mem_of_getElem? (i := 16) rfl))))))))
set_option maxRecDepth 100000 in
theorem z_cwm_153 : Cond.code ⟨"SlipRoomModel", "lent", "(II)I"⟩ prog_12_method_45_code 3 (some .int) ∈ lw_tbl := (List.mem_append_right _ (List.mem_append_right _ (List.mem_append_right _ (List.mem_append_right _ (List.mem_append_right _ (List.mem_append_right _ (List.mem_append_right _ (List.mem_of_getElem? (i := 40) rfl))))))))
set_option maxRecDepth 100000 in
theorem z_cwm_154 : Cond.code ⟨"SlipRoomModel", "drop", "(III)I"⟩ prog_12_method_46_code 9 (some .int) ∈ lw_tbl := (List.mem_append_right _ (List.mem_append_right _ (List.mem_append_right _ (List.mem_append_right _ (List.mem_append_right _ (List.mem_append_right _ (List.mem_append_right _ (List.mem_of_getElem? (i := 44) rfl))))))))
set_option maxRecDepth 100000 in
theorem z_cwm_155 : Cond.code ⟨"SlipRoomModel", "slip", "(II)I"⟩ prog_12_method_47_code 3 (some .int) ∈ lw_tbl := (List.mem_append_right _ (List.mem_append_right _ (List.mem_append_right _ (List.mem_append_right _ (List.mem_append_right _ (List.mem_append_right _ (List.mem_append_right _ (List.mem_of_getElem? (i := 48) rfl))))))))
set_option maxRecDepth 100000 in
theorem z_cwm_156 : Cond.code ⟨"SlipRoomModel", "inARow", "(II)I"⟩ prog_12_method_48_code 4 (some .int) ∈ lw_tbl := (List.mem_append_right _ (List.mem_append_right _ (List.mem_append_right _ (List.mem_append_right _ (List.mem_append_right _ (List.mem_append_right _ (List.mem_append_right _ (List.mem_of_getElem? (i := 56) rfl))))))))
set_option maxRecDepth 100000 in
theorem z_cwm_157 : Cond.code ⟨"SlipRoomModel", "read", "(III)I"⟩ prog_12_method_49_code 4 (some .int) ∈ lw_tbl := (List.mem_append_right _ (List.mem_append_right _ (List.mem_append_right _ (List.mem_append_right _ (List.mem_append_right _ (List.mem_append_right _ (List.mem_append_right _ (List.mem_of_getElem? (i := 52) rfl))))))))
set_option maxRecDepth 100000 in
theorem z_cwm_158 : Cond.code ⟨"SlipRoomModel", "has", "(III)Z"⟩ prog_12_method_50_code 4 (some .boolean) ∈ lw_tbl := (List.mem_append_right _ (List.mem_append_right _ (List.mem_append_right _ (List.mem_append_right _ (List.mem_append_right _ (List.mem_append_right _ (List.mem_append_right _ (List.mem_of_getElem? (i := 60) rfl))))))))
set_option maxRecDepth 100000 in
theorem z_cwm_159 : Cond.code ⟨"SlipRoomModel", "ahead", "(III)I"⟩ prog_12_method_51_code 4 (some .int) ∈ lw_tbl := (List.mem_append_right _ (List.mem_append_right _ (List.mem_append_right _ (List.mem_append_right _ (List.mem_append_right _ (List.mem_append_right _ (List.mem_append_right _ (List.mem_of_getElem? (i := 64) rfl))))))))
set_option maxRecDepth 100000 in
theorem z_cwm_160 : Cond.code ⟨"SlipRoomModel", "looksOf", "(I)I"⟩ prog_12_method_52_code 4 (some .int) ∈ lw_tbl := (List.mem_append_right _ (List.mem_append_right _ (List.mem_append_right _ (List.mem_append_right _ (List.mem_append_right _ (List.mem_append_right _ (List.mem_append_right _ (List.mem_of_getElem? (i := 72) rfl))))))))
set_option maxRecDepth 100000 in
theorem z_cwm_161 : Cond.code ⟨"SlipRoomModel", "look", "(IIII)I"⟩ prog_12_method_53_code 5 (some .int) ∈ lw_tbl := (List.mem_append_right _ (List.mem_append_right _ (List.mem_append_right _ (List.mem_append_right _ (List.mem_append_right _ (List.mem_append_right _ (List.mem_append_right _ (List.mem_of_getElem? (i := 68) rfl))))))))
set_option maxRecDepth 100000 in
theorem z_cwm_162 : Cond.code ⟨"SlipRoomModel", "lentBetween", "(IIII)I"⟩ prog_12_method_54_code 7 (some .int) ∈ lw_tbl := (List.mem_append_right _ (List.mem_append_right _ (List.mem_append_right _ (List.mem_append_right _ (List.mem_append_right _ (List.mem_append_right _ (List.mem_append_right _ (List.mem_of_getElem? (i := 100) rfl))))))))
set_option maxRecDepth 100000 in
theorem z_cwm_163 : Cond.code ⟨"SlipRoomModel", "begunBetween", "(IIII)I"⟩ prog_12_method_55_code 7 (some .int) ∈ lw_tbl := (List.mem_append_right _ (List.mem_append_right _ (List.mem_append_right _ (List.mem_append_right _ (List.mem_append_right _ (List.mem_append_right _ (List.mem_append_right _ (List.mem_of_getElem? (i := 104) rfl))))))))
set_option maxRecDepth 100000 in
theorem z_cwm_164 : Cond.code ⟨"SlipRoomModel", "layLooks", "(II)V"⟩ prog_12_method_56_code 5 none ∈ lw_tbl := (List.mem_append_right _ (List.mem_append_right _ (List.mem_append_right _ (List.mem_append_right _ (List.mem_append_right _ (List.mem_append_right _ (List.mem_append_right _ (List.mem_of_getElem? (i := 84) rfl))))))))
set_option maxRecDepth 100000 in
theorem z_cwm_165 : Cond.code ⟨"SlipRoomModel", "mayHave", "(III)Z"⟩ prog_12_method_57_code 9 (some .boolean) ∈ lw_tbl := (List.mem_append_right _ (List.mem_append_right _ (List.mem_append_right _ (List.mem_append_right _ (List.mem_append_right _ (List.mem_append_right _ (List.mem_append_right _ (List.mem_of_getElem? (i := 96) rfl))))))))
set_option maxRecDepth 100000 in
theorem z_cwm_166 : Cond.code ⟨"SlipRoomModel", "tellWay", "()V"⟩ prog_12_method_58_code 4 none ∈ lw_tbl := (List.mem_append_right _ (List.mem_append_right _ (List.mem_append_right _ (List.mem_append_right _ (List.mem_append_right _ (List.mem_append_right _ (List.mem_append_right _ (List.mem_of_getElem? (i := 92) rfl))))))))
set_option maxRecDepth 100000 in
theorem z_cwm_167 : Cond.code ⟨"SlipRoomModel", "wayOn", "(II)V"⟩ prog_12_method_59_code 4 none ∈ lw_tbl := (List.mem_append_right _ (List.mem_append_right _ (List.mem_append_right _ (List.mem_append_right _ (List.mem_append_right _ (List.mem_append_right _ (List.mem_append_right _ (List.mem_of_getElem? (i := 88) rfl))))))))
set_option maxRecDepth 100000 in
theorem z_cwm_168 : Cond.code ⟨"SlipRoomModel", "tellWays", "(II)V"⟩ prog_12_method_60_code 4 none ∈ lw_tbl := (List.mem_append_right _ (List.mem_append_right _ (List.mem_append_right _ (List.mem_append_right _ (List.mem_append_right _ (List.mem_append_right _ (List.mem_append_right _ (List.mem_of_getElem? (i := 80) rfl))))))))
set_option maxRecDepth 100000 in
theorem z_cwm_169 : Cond.code ⟨"SlipRoomModel", "ways", "(I)I"⟩ prog_12_method_61_code 2 (some .int) ∈ lw_tbl := (List.mem_append_right _ (List.mem_append_right _ (List.mem_append_right _ (List.mem_append_right _ (List.mem_append_right _ (List.mem_append_right _ (List.mem_append_right _ (List.mem_of_getElem? (i := 76) rfl))))))))
set_option maxRecDepth 100000 in
theorem z_cwm_170 : Cond.code ⟨"SlipRoomModel", "whose", "(II)I"⟩ prog_12_method_62_code 4 (some .int) ∈ lw_tbl := (List.mem_append_right _ (List.mem_append_right _ (List.mem_append_right _ (List.mem_append_right _ (List.mem_append_right _ (List.mem_append_right _ (List.mem_append_right _ (List.mem_of_getElem? (i := 108) rfl))))))))
set_option maxRecDepth 100000 in
theorem z_cwm_171 : Cond.code ⟨"SlipRoomModel", "ends", "(III)I"⟩ prog_12_method_63_code 4 (some .int) ∈ lw_tbl := (List.mem_append_right _ (List.mem_append_right _ (List.mem_append_right _ (List.mem_append_right _ (List.mem_append_right _ (List.mem_append_right _ (List.mem_append_right _ (List.mem_of_getElem? (i := 112) rfl))))))))
set_option maxRecDepth 100000 in
theorem z_cwm_172 : Cond.code ⟨"SlipRoomModel", "moved", "(I)I"⟩ prog_12_method_64_code 4 (some .int) ∈ lw_tbl := (List.mem_append_right _ (List.mem_append_right _ (List.mem_append_right _ (List.mem_append_right _ (List.mem_append_right _ (List.mem_append_right _ (List.mem_append_right _ (List.mem_of_getElem? (i := 116) rfl))))))))
set_option maxRecDepth 100000 in
theorem z_cwm_173 : Cond.code ⟨"SlipRoomModel", "wish", "(III)I"⟩ prog_12_method_65_code 4 (some .int) ∈ lw_tbl := (List.mem_append_right _ (List.mem_append_right _ (List.mem_append_right _ (List.mem_append_right _ (List.mem_append_right _ (List.mem_append_right _ (List.mem_append_right _ (List.mem_of_getElem? (i := 120) rfl))))))))
set_option maxRecDepth 100000 in
theorem z_cwm_174 : Cond.code ⟨"SlipRoomModel", "orderOn", "(IIII)V"⟩ prog_12_method_66_code 7 none ∈ lw_tbl := (List.mem_append_right _ (List.mem_append_right _ (List.mem_append_right _ (List.mem_append_right _ (List.mem_append_right _ (List.mem_append_right _ (List.mem_append_right _ (List.mem_of_getElem? (i := 128) rfl))))))))
set_option maxRecDepth 100000 in
theorem z_cwm_175 : Cond.code ⟨"SlipRoomModel", "waiting", "()I"⟩ prog_12_method_67_code 1 (some .int) ∈ lw_tbl := (List.mem_append_right _ (List.mem_append_right _ (List.mem_append_right _ (List.mem_append_right _ (List.mem_append_right _ (List.mem_append_right _ (List.mem_append_right _ (List.mem_of_getElem? (i := 124) rfl))))))))
set_option maxRecDepth 100000 in
theorem z_cwm_176 : Cond.code ⟨"SlipRoomModel", "turn", "(I)I"⟩ prog_12_method_68_code 2 (some .int) ∈ lw_tbl := (List.mem_append_right _ (List.mem_append_right _ (List.mem_append_right _ (List.mem_append_right _ (List.mem_append_right _ (List.mem_append_right _ (List.mem_append_right _ (List.mem_of_getElem? (i := 132) rfl))))))))
set_option maxRecDepth 100000 in
theorem z_cwm_177 : Cond.code ⟨"SlipRoomModel", "tale", "(III)Z"⟩ prog_12_method_69_code 4 (some .boolean) ∈ lw_tbl := (List.mem_append_right _ (List.mem_append_right _ (List.mem_append_right _ (List.mem_append_right _ (List.mem_append_right _ (List.mem_append_right _ (List.mem_append_right _ (List.mem_of_getElem? (i := 136) rfl))))))))
set_option maxRecDepth 100000 in
theorem z_cwm_178 : Cond.code ⟨"SlipRoomModel", "bitsOf", "(I)I"⟩ prog_12_method_70_code 3 (some .int) ∈ lw_tbl := (List.mem_append_right _ (List.mem_append_right _ (List.mem_append_right _ (List.mem_append_right _ (List.mem_append_right _ (List.mem_append_right _ (List.mem_append_right _ (List.mem_of_getElem? (i := 143) rfl))))))))
set_option maxRecDepth 100000 in
theorem z_cwm_179 : Cond.code ⟨"SlipRoomModel", "settlesBy", "(II)I"⟩ prog_12_method_71_code 7 (some .int) ∈ lw_tbl := (List.mem_append_right _ (List.mem_append_right _ (List.mem_append_right _ (List.mem_append_right _ (List.mem_append_right _ (List.mem_append_right _ (List.mem_append_right _ (List.mem_of_getElem? (i := 147) rfl))))))))
set_option maxRecDepth 100000 in
theorem z_cwm_180 : Cond.code ⟨"SlipRoomModel", "settle", "(II)I"⟩ prog_12_method_72_code 7 (some .int) ∈ lw_tbl := (List.mem_append_right _ (List.mem_append_right _ (List.mem_append_right _ (List.mem_append_right _ (List.mem_append_right _ (List.mem_append_right _ (List.mem_append_right _ (List.mem_of_getElem? (i := 140) rfl))))))))
set_option maxRecDepth 100000 in
theorem z_cwm_181 : Cond.code ⟨"SlipRoomModel", "keep", "([I)V"⟩ prog_12_method_73_code 3 none ∈ lw_tbl := (List.mem_append_right _ (List.mem_append_right _ (List.mem_append_right _ (List.mem_append_right _ (List.mem_append_right _ (List.mem_append_right _ (List.mem_append_right _ (List.mem_of_getElem? (i := 155) rfl))))))))
set_option maxRecDepth 100000 in
theorem z_cwm_182 : Cond.code ⟨"SlipRoomModel", "giveBack", "([I)V"⟩ prog_12_method_74_code 3 none ∈ lw_tbl := (List.mem_append_right _ (List.mem_append_right _ (List.mem_append_right _ (List.mem_append_right _ (List.mem_append_right _ (List.mem_append_right _ (List.mem_append_right _ (List.mem_of_getElem? (i := 163) rfl))))))))
set_option maxRecDepth 100000 in
theorem z_cwm_183 : Cond.code ⟨"SlipRoomModel", "image", "()V"⟩ prog_12_method_75_code 2 none ∈ lw_tbl := (List.mem_append_right _ (List.mem_append_right _ (List.mem_append_right _ (List.mem_append_right _ (List.mem_append_right _ (List.mem_append_right _ (List.mem_append_right _ (List.mem_of_getElem? (i := 151) rfl))))))))
set_option maxRecDepth 100000 in
theorem z_cwm_184 : Cond.code ⟨"SlipRoomModel", "restore", "()Z"⟩ prog_12_method_76_code 2 (some .boolean) ∈ lw_tbl := (List.mem_append_right _ (List.mem_append_right _ (List.mem_append_right _ (List.mem_append_right _ (List.mem_append_right _ (List.mem_append_right _ (List.mem_append_right _ (List.mem_of_getElem? (i := 159) rfl))))))))
set_option maxRecDepth 100000 in
theorem z_cwm_185 : Cond.code ⟨"java/lang/Integer", "bitCount", "(I)I"⟩ prog_19_method_49_code 1 (some .int) ∈ lw_tbl := (List.mem_append_right _ (List.mem_append_right _ (List.mem_append_right _ (List.mem_append_right _ (List.mem_append_right _ (List.mem_append_left _ (List.mem_of_getElem? (i := 96) rfl)))))))
set_option maxRecDepth 100000 in
theorem z_cwm_186 : Cond.code ⟨"java/lang/Long", "bitCount", "(J)I"⟩ prog_20_method_50_code 2 (some .int) ∈ lw_tbl := (List.mem_append_right _ (List.mem_append_right _ (List.mem_append_right _ (List.mem_append_right _ (List.mem_append_left _ (List.mem_of_getElem? (i := 8) rfl))))))
set_option maxRecDepth 100000 in
theorem z_cwm_187 : Cond.code ⟨"java/lang/Math", "max", "(II)I"⟩ prog_21_method_65_code 2 (some .int) ∈ lw_tbl := (List.mem_append_right _ (List.mem_append_right _ (List.mem_append_left _ (List.mem_of_getElem? (i := 158) rfl))))
set_option maxRecDepth 100000 in
theorem z_cwm_188 : Cond.code ⟨"java/lang/Math", "min", "(II)I"⟩ prog_21_method_69_code 2 (some .int) ∈ lw_tbl := (List.mem_append_right _ (List.mem_append_right _ (List.mem_append_right _ (List.mem_append_left _ (List.mem_of_getElem? (i := 20) rfl)))))
set_option maxRecDepth 100000 in
theorem z_cwm_189 : Cond.code ⟨"java/util/Arrays", "fill", "([JJ)V"⟩ prog_30_method_101_code 5 none ∈ lw_tbl := (List.mem_append_right _ (List.mem_append_right _ (List.mem_append_right _ (List.mem_append_left _ (List.mem_of_getElem? (i := 194) rfl)))))
set_option maxRecDepth 100000 in
theorem z_cwm_190 : Cond.code ⟨"java/util/Arrays", "fill", "([II)V"⟩ prog_30_method_103_code 4 none ∈ lw_tbl := (List.mem_append_right _ (List.mem_append_right _ (List.mem_append_right _ (List.mem_append_left _ (List.mem_of_getElem? (i := 191) rfl)))))
set_option maxRecDepth 100000 in
theorem z_cwm_191 : Cond.codeWith ⟨"SlipRoomLaw", "room", "(LSlipRoom;I[J)I"⟩ method_3_code 4 (some .int) [((0), (9), (12), (13))] ∈ lw_tbl := (List.mem_append_right _ (List.mem_append_right _ (List.mem_append_left _ (List.mem_of_getElem? (i := 174) rfl))))
set_option maxRecDepth 100000 in
theorem z_cwm_192 : Cond.codeWith ⟨"SlipRoomLaw", "count", "(LSlipRoom;I[J)I"⟩ method_4_code 4 (some .int) [((0), (9), (12), (18))] ∈ lw_tbl := (List.mem_append_right _ (List.mem_append_right _ (List.mem_append_right _ (List.mem_append_left _ (List.mem_of_getElem? (i := 201) rfl)))))
set_option maxRecDepth 100000 in
theorem z_cwm_193 : Cond.codeWith ⟨"SlipRoomLaw", "book", "(LSlipRoom;II[J)I"⟩ method_5_code 5 (some .int) [((0), (10), (13), (18))] ∈ lw_tbl := (List.mem_append_right _ (List.mem_append_right _ (List.mem_append_right _ (List.mem_append_left _ (List.mem_of_getElem? (i := 229) rfl)))))
set_option maxRecDepth 100000 in
theorem z_cwm_194 : Cond.codeWith ⟨"SlipRoomLaw", "reader", "(LSlipRoom;II[J)I"⟩ method_6_code 5 (some .int) [((0), (10), (13), (18))] ∈ lw_tbl := (List.mem_append_right _ (List.mem_append_right _ (List.mem_append_right _ (List.mem_append_right _ (List.mem_append_left _ (List.mem_of_getElem? (i := 19) rfl))))))
set_option maxRecDepth 100000 in
theorem z_cwm_195 : Cond.codeWith ⟨"SlipRoomLaw", "loan", "(LSlipRoom;IIII[J)I"⟩ method_7_code 7 (some .int) [((0), (14), (17), (18))] ∈ lw_tbl := (List.mem_append_right _ (List.mem_append_right _ (List.mem_append_right _ (List.mem_append_right _ (List.mem_append_left _ (List.mem_of_getElem? (i := 32) rfl))))))
set_option maxRecDepth 100000 in
theorem z_cwm_196 : Cond.codeWith ⟨"SlipRoomLaw", "lent", "(LSlipRoom;II[J)I"⟩ method_8_code 5 (some .int) [((0), (10), (13), (18))] ∈ lw_tbl := (List.mem_append_right _ (List.mem_append_right _ (List.mem_append_right _ (List.mem_append_right _ (List.mem_append_left _ (List.mem_of_getElem? (i := 98) rfl))))))
set_option maxRecDepth 100000 in
theorem z_cwm_197 : Cond.codeWith ⟨"SlipRoomLaw", "drop", "(LSlipRoom;III[J)I"⟩ method_9_code 6 (some .int) [((0), (12), (15), (18))] ∈ lw_tbl := (List.mem_append_right _ (List.mem_append_right _ (List.mem_append_right _ (List.mem_append_right _ (List.mem_append_left _ (List.mem_of_getElem? (i := 106) rfl))))))
set_option maxRecDepth 100000 in
theorem z_cwm_198 : Cond.codeWith ⟨"SlipRoomLaw", "slip", "(LSlipRoom;II[J)I"⟩ method_10_code 5 (some .int) [((0), (10), (13), (18))] ∈ lw_tbl := (List.mem_append_right _ (List.mem_append_right _ (List.mem_append_right _ (List.mem_append_right _ (List.mem_append_left _ (List.mem_of_getElem? (i := 117) rfl))))))
set_option maxRecDepth 100000 in
theorem z_cwm_199 : Cond.codeWith ⟨"SlipRoomLaw", "read", "(LSlipRoom;III[J)I"⟩ method_11_code 6 (some .int) [((0), (12), (15), (18))] ∈ lw_tbl := (List.mem_append_right _ (List.mem_append_right _ (List.mem_append_right _ (List.mem_append_right _ (List.mem_append_left _ (List.mem_of_getElem? (i := 124) rfl))))))
set_option maxRecDepth 100000 in
theorem z_cwm_200 : Cond.codeWith ⟨"SlipRoomLaw", "has", "(LSlipRoom;III[J)I"⟩ method_12_code 6 (some .int) [((0), (19), (22), (18))] ∈ lw_tbl := (List.mem_append_right _ (List.mem_append_right _ (List.mem_append_right _ (List.mem_append_right _ (List.mem_append_left _ (List.mem_of_getElem? (i := 140) rfl))))))
set_option maxRecDepth 100000 in
theorem z_cwm_201 : Cond.codeWith ⟨"SlipRoomLaw", "ahead", "(LSlipRoom;III[J)I"⟩ method_13_code 6 (some .int) [((0), (12), (15), (18))] ∈ lw_tbl := (List.mem_append_right _ (List.mem_append_right _ (List.mem_append_right _ (List.mem_append_right _ (List.mem_append_left _ (List.mem_of_getElem? (i := 149) rfl))))))
set_option maxRecDepth 100000 in
theorem z_cwm_202 : Cond.codeWith ⟨"SlipRoomLaw", "look", "(LSlipRoom;IIII[J)I"⟩ method_14_code 7 (some .int) [((0), (14), (17), (18))] ∈ lw_tbl := (List.mem_append_right _ (List.mem_append_right _ (List.mem_append_right _ (List.mem_append_right _ (List.mem_append_left _ (List.mem_of_getElem? (i := 157) rfl))))))
set_option maxRecDepth 100000 in
theorem z_cwm_203 : Cond.codeWith ⟨"SlipRoomLaw", "ways", "(LSlipRoom;I[J)I"⟩ method_15_code 4 (some .int) [((0), (9), (12), (18))] ∈ lw_tbl := (List.mem_append_right _ (List.mem_append_right _ (List.mem_append_right _ (List.mem_append_right _ (List.mem_append_left _ (List.mem_of_getElem? (i := 176) rfl))))))
set_option maxRecDepth 100000 in
theorem z_cwm_204 : Cond.codeWith ⟨"SlipRoomLaw", "whose", "(LSlipRoom;II[J)I"⟩ method_16_code 5 (some .int) [((0), (10), (13), (18))] ∈ lw_tbl := (List.mem_append_right _ (List.mem_append_right _ (List.mem_append_right _ (List.mem_append_right _ (List.mem_append_right _ (List.mem_append_left _ (List.mem_of_getElem? (i := 1) rfl)))))))
set_option maxRecDepth 100000 in
theorem z_cwm_205 : Cond.codeWith ⟨"SlipRoomLaw", "ends", "(LSlipRoom;III[J)I"⟩ method_17_code 6 (some .int) [((0), (12), (15), (18))] ∈ lw_tbl := (List.mem_append_right _ (List.mem_append_right _ (List.mem_append_right _ (List.mem_append_right _ (List.mem_append_right _ (List.mem_append_left _ (List.mem_of_getElem? (i := 29) rfl)))))))
set_option maxRecDepth 100000 in
theorem z_cwm_206 : Cond.codeWith ⟨"SlipRoomLaw", "moved", "(LSlipRoom;I[J)I"⟩ method_18_code 4 (some .int) [((0), (9), (12), (18))] ∈ lw_tbl := (List.mem_append_right _ (List.mem_append_right _ (List.mem_append_right _ (List.mem_append_right _ (List.mem_append_right _ (List.mem_append_left _ (List.mem_of_getElem? (i := 41) rfl)))))))
set_option maxRecDepth 100000 in
theorem z_cwm_207 : Cond.codeWith ⟨"SlipRoomLaw", "wish", "(LSlipRoom;III[J)I"⟩ method_19_code 6 (some .int) [((0), (12), (15), (18))] ∈ lw_tbl := (List.mem_append_right _ (List.mem_append_right _ (List.mem_append_right _ (List.mem_append_right _ (List.mem_append_right _ (List.mem_append_left _ (List.mem_of_getElem? (i := 53) rfl)))))))
set_option maxRecDepth 100000 in
theorem z_cwm_208 : Cond.codeWith ⟨"SlipRoomLaw", "turn", "(LSlipRoom;I[J)I"⟩ method_20_code 4 (some .int) [((0), (9), (12), (18))] ∈ lw_tbl := (List.mem_append_right _ (List.mem_append_right _ (List.mem_append_right _ (List.mem_append_right _ (List.mem_append_right _ (List.mem_append_left _ (List.mem_of_getElem? (i := 64) rfl)))))))
set_option maxRecDepth 100000 in
theorem z_cwm_209 : Cond.codeWith ⟨"SlipRoomLaw", "tale", "(LSlipRoom;III[J)I"⟩ method_21_code 6 (some .int) [((0), (19), (22), (18))] ∈ lw_tbl := (List.mem_append_right _ (List.mem_append_right _ (List.mem_append_right _ (List.mem_append_right _ (List.mem_append_right _ (List.mem_append_left _ (List.mem_of_getElem? (i := 72) rfl)))))))
set_option maxRecDepth 100000 in
theorem z_cwm_210 : Cond.codeWith ⟨"SlipRoomLaw", "settle", "(LSlipRoom;II[J)I"⟩ method_22_code 5 (some .int) [((0), (10), (13), (18)), ((0), (10), (17), (13))] ∈ lw_tbl := (List.mem_append_right _ (List.mem_append_right _ (List.mem_append_right _ (List.mem_append_right _ (List.mem_append_right _ (List.mem_append_left _ (List.mem_of_getElem? (i := 79) rfl)))))))
theorem z_cwt {m : Nat} {w : Cond} (h : w ∈ lw_tbl) (hg : goodWord w = true) (e : z_cw m = w) : z_cw m ∈ z_tb := by rw [e]; exact List.mem_filter.mpr ⟨h, hg⟩
set_option maxRecDepth 100000 in
theorem z_cwA_0 (m : Nat) (h1 : 0 ≤ m) (h2 : m < 10) : z_cw m ∈ z_tb := by
  have hc : m = 0 ∨ m = 1 ∨ m = 2 ∨ m = 3 ∨ m = 4 ∨ m = 5 ∨ m = 6 ∨ m = 7 ∨ m = 8 ∨ m = 9 := by omega
  rcases hc with rfl | rfl | rfl | rfl | rfl | rfl | rfl | rfl | rfl | rfl
  · exact z_cwt z_cwm_0 z_good_code rfl
  · exact z_cwt z_cwm_1 z_good_code rfl
  · exact z_cwt z_cwm_2 z_good_code rfl
  · exact z_cwt z_cwm_3 z_good_code rfl
  · exact z_cwt z_cwm_4 z_good_code rfl
  · exact z_cwt z_cwm_5 z_good_code rfl
  · exact z_cwt z_cwm_6 z_good_code rfl
  · exact z_cwt z_cwm_7 z_good_code rfl
  · exact z_cwt z_cwm_8 z_good_code rfl
  · exact z_cwt z_cwm_9 z_good_code rfl
set_option maxRecDepth 100000 in
theorem z_cwA_10 (m : Nat) (h1 : 10 ≤ m) (h2 : m < 20) : z_cw m ∈ z_tb := by
  have hc : m = 10 ∨ m = 11 ∨ m = 12 ∨ m = 13 ∨ m = 14 ∨ m = 15 ∨ m = 16 ∨ m = 17 ∨ m = 18 ∨ m = 19 := by omega
  rcases hc with rfl | rfl | rfl | rfl | rfl | rfl | rfl | rfl | rfl | rfl
  · exact z_cwt z_cwm_10 z_good_code rfl
  · exact z_cwt z_cwm_11 z_good_code rfl
  · exact z_cwt z_cwm_12 z_good_code rfl
  · exact z_cwt z_cwm_13 z_good_code rfl
  · exact z_cwt z_cwm_14 z_good_code rfl
  · exact z_cwt z_cwm_15 z_good_code rfl
  · exact z_cwt z_cwm_16 z_good_code rfl
  · exact z_cwt z_cwm_17 z_good_code rfl
  · exact z_cwt z_cwm_18 z_good_code rfl
  · exact z_cwt z_cwm_19 z_good_code rfl
set_option maxRecDepth 100000 in
theorem z_cwA_20 (m : Nat) (h1 : 20 ≤ m) (h2 : m < 30) : z_cw m ∈ z_tb := by
  have hc : m = 20 ∨ m = 21 ∨ m = 22 ∨ m = 23 ∨ m = 24 ∨ m = 25 ∨ m = 26 ∨ m = 27 ∨ m = 28 ∨ m = 29 := by omega
  rcases hc with rfl | rfl | rfl | rfl | rfl | rfl | rfl | rfl | rfl | rfl
  · exact z_cwt z_cwm_20 z_good_code rfl
  · exact z_cwt z_cwm_21 z_good_code rfl
  · exact z_cwt z_cwm_22 z_good_code rfl
  · exact z_cwt z_cwm_23 z_good_code rfl
  · exact z_cwt z_cwm_24 z_good_code rfl
  · exact z_cwt z_cwm_25 z_good_code rfl
  · exact z_cwt z_cwm_26 z_good_code rfl
  · exact z_cwt z_cwm_27 z_good_code rfl
  · exact z_cwt z_cwm_28 z_good_code rfl
  · exact z_cwt z_cwm_29 z_good_code rfl
set_option maxRecDepth 100000 in
theorem z_cwA_30 (m : Nat) (h1 : 30 ≤ m) (h2 : m < 40) : z_cw m ∈ z_tb := by
  have hc : m = 30 ∨ m = 31 ∨ m = 32 ∨ m = 33 ∨ m = 34 ∨ m = 35 ∨ m = 36 ∨ m = 37 ∨ m = 38 ∨ m = 39 := by omega
  rcases hc with rfl | rfl | rfl | rfl | rfl | rfl | rfl | rfl | rfl | rfl
  · exact z_cwt z_cwm_30 z_good_code rfl
  · exact z_cwt z_cwm_31 z_good_code rfl
  · exact z_cwt z_cwm_32 z_good_code rfl
  · exact z_cwt z_cwm_33 z_good_code rfl
  · exact z_cwt z_cwm_34 z_good_code rfl
  · exact z_cwt z_cwm_35 z_good_code rfl
  · exact z_cwt z_cwm_36 z_good_code rfl
  · exact z_cwt z_cwm_37 z_good_code rfl
  · exact z_cwt z_cwm_38 z_good_code rfl
  · exact z_cwt z_cwm_39 z_good_code rfl
set_option maxRecDepth 100000 in
theorem z_cwA_40 (m : Nat) (h1 : 40 ≤ m) (h2 : m < 50) : z_cw m ∈ z_tb := by
  have hc : m = 40 ∨ m = 41 ∨ m = 42 ∨ m = 43 ∨ m = 44 ∨ m = 45 ∨ m = 46 ∨ m = 47 ∨ m = 48 ∨ m = 49 := by omega
  rcases hc with rfl | rfl | rfl | rfl | rfl | rfl | rfl | rfl | rfl | rfl
  · exact z_cwt z_cwm_40 z_good_code rfl
  · exact z_cwt z_cwm_41 z_good_code rfl
  · exact z_cwt z_cwm_42 z_good_code rfl
  · exact z_cwt z_cwm_43 z_good_code rfl
  · exact z_cwt z_cwm_44 z_good_code rfl
  · exact z_cwt z_cwm_45 z_good_code rfl
  · exact z_cwt z_cwm_46 z_good_code rfl
  · exact z_cwt z_cwm_47 z_good_code rfl
  · exact z_cwt z_cwm_48 z_good_code rfl
  · exact z_cwt z_cwm_49 z_good_code rfl
set_option maxRecDepth 100000 in
theorem z_cwA_50 (m : Nat) (h1 : 50 ≤ m) (h2 : m < 60) : z_cw m ∈ z_tb := by
  have hc : m = 50 ∨ m = 51 ∨ m = 52 ∨ m = 53 ∨ m = 54 ∨ m = 55 ∨ m = 56 ∨ m = 57 ∨ m = 58 ∨ m = 59 := by omega
  rcases hc with rfl | rfl | rfl | rfl | rfl | rfl | rfl | rfl | rfl | rfl
  · exact z_cwt z_cwm_50 z_good_code rfl
  · exact z_cwt z_cwm_51 z_good_code rfl
  · exact z_cwt z_cwm_52 z_good_code rfl
  · exact z_cwt z_cwm_53 z_good_code rfl
  · exact z_cwt z_cwm_54 z_good_code rfl
  · exact z_cwt z_cwm_55 z_good_code rfl
  · exact z_cwt z_cwm_56 z_good_code rfl
  · exact z_cwt z_cwm_57 z_good_code rfl
  · exact z_cwt z_cwm_58 z_good_code rfl
  · exact z_cwt z_cwm_59 z_good_code rfl
set_option maxRecDepth 100000 in
theorem z_cwA_60 (m : Nat) (h1 : 60 ≤ m) (h2 : m < 70) : z_cw m ∈ z_tb := by
  have hc : m = 60 ∨ m = 61 ∨ m = 62 ∨ m = 63 ∨ m = 64 ∨ m = 65 ∨ m = 66 ∨ m = 67 ∨ m = 68 ∨ m = 69 := by omega
  rcases hc with rfl | rfl | rfl | rfl | rfl | rfl | rfl | rfl | rfl | rfl
  · exact z_cwt z_cwm_60 z_good_code rfl
  · exact z_cwt z_cwm_61 z_good_code rfl
  · exact z_cwt z_cwm_62 z_good_code rfl
  · exact z_cwt z_cwm_63 z_good_code rfl
  · exact z_cwt z_cwm_64 z_good_code rfl
  · exact z_cwt z_cwm_65 z_good_code rfl
  · exact z_cwt z_cwm_66 z_good_code rfl
  · exact z_cwt z_cwm_67 z_good_code rfl
  · exact z_cwt z_cwm_68 z_good_code rfl
  · exact z_cwt z_cwm_69 z_good_code rfl
set_option maxRecDepth 100000 in
theorem z_cwA_70 (m : Nat) (h1 : 70 ≤ m) (h2 : m < 80) : z_cw m ∈ z_tb := by
  have hc : m = 70 ∨ m = 71 ∨ m = 72 ∨ m = 73 ∨ m = 74 ∨ m = 75 ∨ m = 76 ∨ m = 77 ∨ m = 78 ∨ m = 79 := by omega
  rcases hc with rfl | rfl | rfl | rfl | rfl | rfl | rfl | rfl | rfl | rfl
  · exact z_cwt z_cwm_70 z_good_code rfl
  · exact z_cwt z_cwm_71 z_good_code rfl
  · exact z_cwt z_cwm_72 z_good_code rfl
  · exact z_cwt z_cwm_73 z_good_code rfl
  · exact z_cwt z_cwm_74 z_good_code rfl
  · exact z_cwt z_cwm_75 z_good_code rfl
  · exact z_cwt z_cwm_76 z_good_code rfl
  · exact z_cwt z_cwm_77 z_good_code rfl
  · exact z_cwt z_cwm_78 z_good_code rfl
  · exact z_cwt z_cwm_79 z_good_code rfl
set_option maxRecDepth 100000 in
theorem z_cwA_80 (m : Nat) (h1 : 80 ≤ m) (h2 : m < 90) : z_cw m ∈ z_tb := by
  have hc : m = 80 ∨ m = 81 ∨ m = 82 ∨ m = 83 ∨ m = 84 ∨ m = 85 ∨ m = 86 ∨ m = 87 ∨ m = 88 ∨ m = 89 := by omega
  rcases hc with rfl | rfl | rfl | rfl | rfl | rfl | rfl | rfl | rfl | rfl
  · exact z_cwt z_cwm_80 z_good_code rfl
  · exact z_cwt z_cwm_81 z_good_code rfl
  · exact z_cwt z_cwm_82 z_good_code rfl
  · exact z_cwt z_cwm_83 z_good_code rfl
  · exact z_cwt z_cwm_84 z_good_code rfl
  · exact z_cwt z_cwm_85 z_good_code rfl
  · exact z_cwt z_cwm_86 z_good_code rfl
  · exact z_cwt z_cwm_87 z_good_code rfl
  · exact z_cwt z_cwm_88 z_good_code rfl
  · exact z_cwt z_cwm_89 z_good_code rfl
set_option maxRecDepth 100000 in
theorem z_cwA_90 (m : Nat) (h1 : 90 ≤ m) (h2 : m < 100) : z_cw m ∈ z_tb := by
  have hc : m = 90 ∨ m = 91 ∨ m = 92 ∨ m = 93 ∨ m = 94 ∨ m = 95 ∨ m = 96 ∨ m = 97 ∨ m = 98 ∨ m = 99 := by omega
  rcases hc with rfl | rfl | rfl | rfl | rfl | rfl | rfl | rfl | rfl | rfl
  · exact z_cwt z_cwm_90 z_good_code rfl
  · exact z_cwt z_cwm_91 z_good_code rfl
  · exact z_cwt z_cwm_92 z_good_code rfl
  · exact z_cwt z_cwm_93 z_good_code rfl
  · exact z_cwt z_cwm_94 z_good_code rfl
  · exact z_cwt z_cwm_95 z_good_code rfl
  · exact z_cwt z_cwm_96 z_good_code rfl
  · exact z_cwt z_cwm_97 z_good_code rfl
  · exact z_cwt z_cwm_98 z_good_code rfl
  · exact z_cwt z_cwm_99 z_good_code rfl
set_option maxRecDepth 100000 in
theorem z_cwA_100 (m : Nat) (h1 : 100 ≤ m) (h2 : m < 110) : z_cw m ∈ z_tb := by
  have hc : m = 100 ∨ m = 101 ∨ m = 102 ∨ m = 103 ∨ m = 104 ∨ m = 105 ∨ m = 106 ∨ m = 107 ∨ m = 108 ∨ m = 109 := by omega
  rcases hc with rfl | rfl | rfl | rfl | rfl | rfl | rfl | rfl | rfl | rfl
  · exact z_cwt z_cwm_100 z_good_code rfl
  · exact z_cwt z_cwm_101 z_good_code rfl
  · exact z_cwt z_cwm_102 z_good_code rfl
  · exact z_cwt z_cwm_103 z_good_code rfl
  · exact z_cwt z_cwm_104 z_good_code rfl
  · exact z_cwt z_cwm_105 z_good_code rfl
  · exact z_cwt z_cwm_106 z_good_code rfl
  · exact z_cwt z_cwm_107 z_good_code rfl
  · exact z_cwt z_cwm_108 z_good_code rfl
  · exact z_cwt z_cwm_109 z_good_code rfl
set_option maxRecDepth 100000 in
theorem z_cwA_110 (m : Nat) (h1 : 110 ≤ m) (h2 : m < 120) : z_cw m ∈ z_tb := by
  have hc : m = 110 ∨ m = 111 ∨ m = 112 ∨ m = 113 ∨ m = 114 ∨ m = 115 ∨ m = 116 ∨ m = 117 ∨ m = 118 ∨ m = 119 := by omega
  rcases hc with rfl | rfl | rfl | rfl | rfl | rfl | rfl | rfl | rfl | rfl
  · exact z_cwt z_cwm_110 z_good_code rfl
  · exact z_cwt z_cwm_111 z_good_code rfl
  · exact z_cwt z_cwm_112 z_good_code rfl
  · exact z_cwt z_cwm_113 z_good_code rfl
  · exact z_cwt z_cwm_114 z_good_code rfl
  · exact z_cwt z_cwm_115 z_good_code rfl
  · exact z_cwt z_cwm_116 z_good_code rfl
  · exact z_cwt z_cwm_117 z_good_code rfl
  · exact z_cwt z_cwm_118 z_good_code rfl
  · exact z_cwt z_cwm_119 z_good_code rfl
set_option maxRecDepth 100000 in
theorem z_cwA_120 (m : Nat) (h1 : 120 ≤ m) (h2 : m < 130) : z_cw m ∈ z_tb := by
  have hc : m = 120 ∨ m = 121 ∨ m = 122 ∨ m = 123 ∨ m = 124 ∨ m = 125 ∨ m = 126 ∨ m = 127 ∨ m = 128 ∨ m = 129 := by omega
  rcases hc with rfl | rfl | rfl | rfl | rfl | rfl | rfl | rfl | rfl | rfl
  · exact z_cwt z_cwm_120 z_good_code rfl
  · exact z_cwt z_cwm_121 z_good_code rfl
  · exact z_cwt z_cwm_122 z_good_code rfl
  · exact z_cwt z_cwm_123 z_good_code rfl
  · exact z_cwt z_cwm_124 z_good_code rfl
  · exact z_cwt z_cwm_125 z_good_code rfl
  · exact z_cwt z_cwm_126 z_good_code rfl
  · exact z_cwt z_cwm_127 z_good_code rfl
  · exact z_cwt z_cwm_128 z_good_code rfl
  · exact z_cwt z_cwm_129 z_good_code rfl
set_option maxRecDepth 100000 in
theorem z_cwA_130 (m : Nat) (h1 : 130 ≤ m) (h2 : m < 140) : z_cw m ∈ z_tb := by
  have hc : m = 130 ∨ m = 131 ∨ m = 132 ∨ m = 133 ∨ m = 134 ∨ m = 135 ∨ m = 136 ∨ m = 137 ∨ m = 138 ∨ m = 139 := by omega
  rcases hc with rfl | rfl | rfl | rfl | rfl | rfl | rfl | rfl | rfl | rfl
  · exact z_cwt z_cwm_130 z_good_code rfl
  · exact z_cwt z_cwm_131 z_good_code rfl
  · exact z_cwt z_cwm_132 z_good_code rfl
  · exact z_cwt z_cwm_133 z_good_code rfl
  · exact z_cwt z_cwm_134 z_good_code rfl
  · exact z_cwt z_cwm_135 z_good_code rfl
  · exact z_cwt z_cwm_136 z_good_code rfl
  · exact z_cwt z_cwm_137 z_good_code rfl
  · exact z_cwt z_cwm_138 z_good_code rfl
  · exact z_cwt z_cwm_139 z_good_code rfl
set_option maxRecDepth 100000 in
theorem z_cwA_140 (m : Nat) (h1 : 140 ≤ m) (h2 : m < 150) : z_cw m ∈ z_tb := by
  have hc : m = 140 ∨ m = 141 ∨ m = 142 ∨ m = 143 ∨ m = 144 ∨ m = 145 ∨ m = 146 ∨ m = 147 ∨ m = 148 ∨ m = 149 := by omega
  rcases hc with rfl | rfl | rfl | rfl | rfl | rfl | rfl | rfl | rfl | rfl
  · exact z_cwt z_cwm_140 z_good_code rfl
  · exact z_cwt z_cwm_141 z_good_code rfl
  · exact z_cwt z_cwm_142 z_good_code rfl
  · exact z_cwt z_cwm_143 z_good_code rfl
  · exact z_cwt z_cwm_144 z_good_code rfl
  · exact z_cwt z_cwm_145 z_good_code rfl
  · exact z_cwt z_cwm_146 z_good_code rfl
  · exact z_cwt z_cwm_147 z_good_code rfl
  · exact z_cwt z_cwm_148 z_good_code rfl
  · exact z_cwt z_cwm_149 z_good_code rfl
set_option maxRecDepth 100000 in
theorem z_cwA_150 (m : Nat) (h1 : 150 ≤ m) (h2 : m < 160) : z_cw m ∈ z_tb := by
  have hc : m = 150 ∨ m = 151 ∨ m = 152 ∨ m = 153 ∨ m = 154 ∨ m = 155 ∨ m = 156 ∨ m = 157 ∨ m = 158 ∨ m = 159 := by omega
  rcases hc with rfl | rfl | rfl | rfl | rfl | rfl | rfl | rfl | rfl | rfl
  · exact z_cwt z_cwm_150 z_good_code rfl
  · exact z_cwt z_cwm_151 z_good_code rfl
  · exact z_cwt z_cwm_152 z_good_code rfl
  · exact z_cwt z_cwm_153 z_good_code rfl
  · exact z_cwt z_cwm_154 z_good_code rfl
  · exact z_cwt z_cwm_155 z_good_code rfl
  · exact z_cwt z_cwm_156 z_good_code rfl
  · exact z_cwt z_cwm_157 z_good_code rfl
  · exact z_cwt z_cwm_158 z_good_code rfl
  · exact z_cwt z_cwm_159 z_good_code rfl
set_option maxRecDepth 100000 in
theorem z_cwA_160 (m : Nat) (h1 : 160 ≤ m) (h2 : m < 170) : z_cw m ∈ z_tb := by
  have hc : m = 160 ∨ m = 161 ∨ m = 162 ∨ m = 163 ∨ m = 164 ∨ m = 165 ∨ m = 166 ∨ m = 167 ∨ m = 168 ∨ m = 169 := by omega
  rcases hc with rfl | rfl | rfl | rfl | rfl | rfl | rfl | rfl | rfl | rfl
  · exact z_cwt z_cwm_160 z_good_code rfl
  · exact z_cwt z_cwm_161 z_good_code rfl
  · exact z_cwt z_cwm_162 z_good_code rfl
  · exact z_cwt z_cwm_163 z_good_code rfl
  · exact z_cwt z_cwm_164 z_good_code rfl
  · exact z_cwt z_cwm_165 z_good_code rfl
  · exact z_cwt z_cwm_166 z_good_code rfl
  · exact z_cwt z_cwm_167 z_good_code rfl
  · exact z_cwt z_cwm_168 z_good_code rfl
  · exact z_cwt z_cwm_169 z_good_code rfl
set_option maxRecDepth 100000 in
theorem z_cwA_170 (m : Nat) (h1 : 170 ≤ m) (h2 : m < 180) : z_cw m ∈ z_tb := by
  have hc : m = 170 ∨ m = 171 ∨ m = 172 ∨ m = 173 ∨ m = 174 ∨ m = 175 ∨ m = 176 ∨ m = 177 ∨ m = 178 ∨ m = 179 := by omega
  rcases hc with rfl | rfl | rfl | rfl | rfl | rfl | rfl | rfl | rfl | rfl
  · exact z_cwt z_cwm_170 z_good_code rfl
  · exact z_cwt z_cwm_171 z_good_code rfl
  · exact z_cwt z_cwm_172 z_good_code rfl
  · exact z_cwt z_cwm_173 z_good_code rfl
  · exact z_cwt z_cwm_174 z_good_code rfl
  · exact z_cwt z_cwm_175 z_good_code rfl
  · exact z_cwt z_cwm_176 z_good_code rfl
  · exact z_cwt z_cwm_177 z_good_code rfl
  · exact z_cwt z_cwm_178 z_good_code rfl
  · exact z_cwt z_cwm_179 z_good_code rfl
set_option maxRecDepth 100000 in
theorem z_cwA_180 (m : Nat) (h1 : 180 ≤ m) (h2 : m < 190) : z_cw m ∈ z_tb := by
  have hc : m = 180 ∨ m = 181 ∨ m = 182 ∨ m = 183 ∨ m = 184 ∨ m = 185 ∨ m = 186 ∨ m = 187 ∨ m = 188 ∨ m = 189 := by omega
  rcases hc with rfl | rfl | rfl | rfl | rfl | rfl | rfl | rfl | rfl | rfl
  · exact z_cwt z_cwm_180 z_good_code rfl
  · exact z_cwt z_cwm_181 z_good_code rfl
  · exact z_cwt z_cwm_182 z_good_code rfl
  · exact z_cwt z_cwm_183 z_good_code rfl
  · exact z_cwt z_cwm_184 z_good_code rfl
  · exact z_cwt z_cwm_185 z_good_code rfl
  · exact z_cwt z_cwm_186 z_good_code rfl
  · exact z_cwt z_cwm_187 z_good_code rfl
  · exact z_cwt z_cwm_188 z_good_code rfl
  · exact z_cwt z_cwm_189 z_good_code rfl
set_option maxRecDepth 100000 in
theorem z_cwA_190 (m : Nat) (h1 : 190 ≤ m) (h2 : m < 200) : z_cw m ∈ z_tb := by
  have hc : m = 190 ∨ m = 191 ∨ m = 192 ∨ m = 193 ∨ m = 194 ∨ m = 195 ∨ m = 196 ∨ m = 197 ∨ m = 198 ∨ m = 199 := by omega
  rcases hc with rfl | rfl | rfl | rfl | rfl | rfl | rfl | rfl | rfl | rfl
  · exact z_cwt z_cwm_190 z_good_code rfl
  · exact z_cwt z_cwm_191 z_good_codeW rfl
  · exact z_cwt z_cwm_192 z_good_codeW rfl
  · exact z_cwt z_cwm_193 z_good_codeW rfl
  · exact z_cwt z_cwm_194 z_good_codeW rfl
  · exact z_cwt z_cwm_195 z_good_codeW rfl
  · exact z_cwt z_cwm_196 z_good_codeW rfl
  · exact z_cwt z_cwm_197 z_good_codeW rfl
  · exact z_cwt z_cwm_198 z_good_codeW rfl
  · exact z_cwt z_cwm_199 z_good_codeW rfl
set_option maxRecDepth 100000 in
theorem z_cwA_200 (m : Nat) (h1 : 200 ≤ m) (h2 : m < 210) : z_cw m ∈ z_tb := by
  have hc : m = 200 ∨ m = 201 ∨ m = 202 ∨ m = 203 ∨ m = 204 ∨ m = 205 ∨ m = 206 ∨ m = 207 ∨ m = 208 ∨ m = 209 := by omega
  rcases hc with rfl | rfl | rfl | rfl | rfl | rfl | rfl | rfl | rfl | rfl
  · exact z_cwt z_cwm_200 z_good_codeW rfl
  · exact z_cwt z_cwm_201 z_good_codeW rfl
  · exact z_cwt z_cwm_202 z_good_codeW rfl
  · exact z_cwt z_cwm_203 z_good_codeW rfl
  · exact z_cwt z_cwm_204 z_good_codeW rfl
  · exact z_cwt z_cwm_205 z_good_codeW rfl
  · exact z_cwt z_cwm_206 z_good_codeW rfl
  · exact z_cwt z_cwm_207 z_good_codeW rfl
  · exact z_cwt z_cwm_208 z_good_codeW rfl
  · exact z_cwt z_cwm_209 z_good_codeW rfl
set_option maxRecDepth 100000 in
theorem z_cwA_210 (m : Nat) (h1 : 210 ≤ m) (h2 : m < 211) : z_cw m ∈ z_tb := by
  have hc : m = 210 := by omega
  rcases hc with rfl
  · exact z_cwt z_cwm_210 z_good_codeW rfl
theorem z_cwA (m : Nat) (h : m < 211) : z_cw m ∈ z_tb := by
  have hc : (0 ≤ m ∧ m < 10) ∨ (10 ≤ m ∧ m < 20) ∨ (20 ≤ m ∧ m < 30) ∨ (30 ≤ m ∧ m < 40) ∨ (40 ≤ m ∧ m < 50) ∨ (50 ≤ m ∧ m < 60) ∨ (60 ≤ m ∧ m < 70) ∨ (70 ≤ m ∧ m < 80) ∨ (80 ≤ m ∧ m < 90) ∨ (90 ≤ m ∧ m < 100) ∨ (100 ≤ m ∧ m < 110) ∨ (110 ≤ m ∧ m < 120) ∨ (120 ≤ m ∧ m < 130) ∨ (130 ≤ m ∧ m < 140) ∨ (140 ≤ m ∧ m < 150) ∨ (150 ≤ m ∧ m < 160) ∨ (160 ≤ m ∧ m < 170) ∨ (170 ≤ m ∧ m < 180) ∨ (180 ≤ m ∧ m < 190) ∨ (190 ≤ m ∧ m < 200) ∨ (200 ≤ m ∧ m < 210) ∨ (210 ≤ m ∧ m < 211) := by omega
  rcases hc with ⟨h1, h2⟩ | ⟨h1, h2⟩ | ⟨h1, h2⟩ | ⟨h1, h2⟩ | ⟨h1, h2⟩ | ⟨h1, h2⟩ | ⟨h1, h2⟩ | ⟨h1, h2⟩ | ⟨h1, h2⟩ | ⟨h1, h2⟩ | ⟨h1, h2⟩ | ⟨h1, h2⟩ | ⟨h1, h2⟩ | ⟨h1, h2⟩ | ⟨h1, h2⟩ | ⟨h1, h2⟩ | ⟨h1, h2⟩ | ⟨h1, h2⟩ | ⟨h1, h2⟩ | ⟨h1, h2⟩ | ⟨h1, h2⟩ | ⟨h1, h2⟩
  · exact z_cwA_0 m h1 h2
  · exact z_cwA_10 m h1 h2
  · exact z_cwA_20 m h1 h2
  · exact z_cwA_30 m h1 h2
  · exact z_cwA_40 m h1 h2
  · exact z_cwA_50 m h1 h2
  · exact z_cwA_60 m h1 h2
  · exact z_cwA_70 m h1 h2
  · exact z_cwA_80 m h1 h2
  · exact z_cwA_90 m h1 h2
  · exact z_cwA_100 m h1 h2
  · exact z_cwA_110 m h1 h2
  · exact z_cwA_120 m h1 h2
  · exact z_cwA_130 m h1 h2
  · exact z_cwA_140 m h1 h2
  · exact z_cwA_150 m h1 h2
  · exact z_cwA_160 m h1 h2
  · exact z_cwA_170 m h1 h2
  · exact z_cwA_180 m h1 h2
  · exact z_cwA_190 m h1 h2
  · exact z_cwA_200 m h1 h2
  · exact z_cwA_210 m h1 h2
theorem z_okm_0 : ((List.range 10).all fun j => z_okM (0 + j)) = true := by decide +kernel
theorem z_okm_10 : ((List.range 10).all fun j => z_okM (10 + j)) = true := by decide +kernel
theorem z_okm_20 : ((List.range 10).all fun j => z_okM (20 + j)) = true := by decide +kernel
theorem z_okm_30 : ((List.range 10).all fun j => z_okM (30 + j)) = true := by decide +kernel
theorem z_okm_40 : ((List.range 10).all fun j => z_okM (40 + j)) = true := by decide +kernel
theorem z_okm_50 : ((List.range 10).all fun j => z_okM (50 + j)) = true := by decide +kernel
theorem z_okm_60 : ((List.range 10).all fun j => z_okM (60 + j)) = true := by decide +kernel
theorem z_okm_70 : ((List.range 10).all fun j => z_okM (70 + j)) = true := by decide +kernel
theorem z_okm_80 : ((List.range 10).all fun j => z_okM (80 + j)) = true := by decide +kernel
theorem z_okm_90 : ((List.range 10).all fun j => z_okM (90 + j)) = true := by decide +kernel
theorem z_okm_100 : ((List.range 10).all fun j => z_okM (100 + j)) = true := by decide +kernel
theorem z_okm_110 : ((List.range 10).all fun j => z_okM (110 + j)) = true := by decide +kernel
theorem z_okm_120 : ((List.range 10).all fun j => z_okM (120 + j)) = true := by decide +kernel
theorem z_okm_130 : ((List.range 10).all fun j => z_okM (130 + j)) = true := by decide +kernel
theorem z_okm_140 : ((List.range 10).all fun j => z_okM (140 + j)) = true := by decide +kernel
theorem z_okm_150 : ((List.range 10).all fun j => z_okM (150 + j)) = true := by decide +kernel
theorem z_okm_160 : ((List.range 10).all fun j => z_okM (160 + j)) = true := by decide +kernel
theorem z_okm_170 : ((List.range 10).all fun j => z_okM (170 + j)) = true := by decide +kernel
theorem z_okm_180 : ((List.range 10).all fun j => z_okM (180 + j)) = true := by decide +kernel
theorem z_okm_190 : ((List.range 10).all fun j => z_okM (190 + j)) = true := by decide +kernel
theorem z_okm_200 : ((List.range 10).all fun j => z_okM (200 + j)) = true := by decide +kernel
theorem z_okm_210 : ((List.range 1).all fun j => z_okM (210 + j)) = true := by decide +kernel
theorem z_okMA (m : Nat) (h : m < 211) : z_okM m = true := by
  have hc : (0 ≤ m ∧ m < 10) ∨ (10 ≤ m ∧ m < 20) ∨ (20 ≤ m ∧ m < 30) ∨ (30 ≤ m ∧ m < 40) ∨ (40 ≤ m ∧ m < 50) ∨ (50 ≤ m ∧ m < 60) ∨ (60 ≤ m ∧ m < 70) ∨ (70 ≤ m ∧ m < 80) ∨ (80 ≤ m ∧ m < 90) ∨ (90 ≤ m ∧ m < 100) ∨ (100 ≤ m ∧ m < 110) ∨ (110 ≤ m ∧ m < 120) ∨ (120 ≤ m ∧ m < 130) ∨ (130 ≤ m ∧ m < 140) ∨ (140 ≤ m ∧ m < 150) ∨ (150 ≤ m ∧ m < 160) ∨ (160 ≤ m ∧ m < 170) ∨ (170 ≤ m ∧ m < 180) ∨ (180 ≤ m ∧ m < 190) ∨ (190 ≤ m ∧ m < 200) ∨ (200 ≤ m ∧ m < 210) ∨ (210 ≤ m ∧ m < 211) := by omega
  rcases hc with ⟨h1, h2⟩ | ⟨h1, h2⟩ | ⟨h1, h2⟩ | ⟨h1, h2⟩ | ⟨h1, h2⟩ | ⟨h1, h2⟩ | ⟨h1, h2⟩ | ⟨h1, h2⟩ | ⟨h1, h2⟩ | ⟨h1, h2⟩ | ⟨h1, h2⟩ | ⟨h1, h2⟩ | ⟨h1, h2⟩ | ⟨h1, h2⟩ | ⟨h1, h2⟩ | ⟨h1, h2⟩ | ⟨h1, h2⟩ | ⟨h1, h2⟩ | ⟨h1, h2⟩ | ⟨h1, h2⟩ | ⟨h1, h2⟩ | ⟨h1, h2⟩
  · have h9 := List.all_eq_true.mp z_okm_0 (m - 0) (List.mem_range.mpr (by omega)); rw [show 0 + (m - 0) = m by omega] at h9; exact h9
  · have h9 := List.all_eq_true.mp z_okm_10 (m - 10) (List.mem_range.mpr (by omega)); rw [show 10 + (m - 10) = m by omega] at h9; exact h9
  · have h9 := List.all_eq_true.mp z_okm_20 (m - 20) (List.mem_range.mpr (by omega)); rw [show 20 + (m - 20) = m by omega] at h9; exact h9
  · have h9 := List.all_eq_true.mp z_okm_30 (m - 30) (List.mem_range.mpr (by omega)); rw [show 30 + (m - 30) = m by omega] at h9; exact h9
  · have h9 := List.all_eq_true.mp z_okm_40 (m - 40) (List.mem_range.mpr (by omega)); rw [show 40 + (m - 40) = m by omega] at h9; exact h9
  · have h9 := List.all_eq_true.mp z_okm_50 (m - 50) (List.mem_range.mpr (by omega)); rw [show 50 + (m - 50) = m by omega] at h9; exact h9
  · have h9 := List.all_eq_true.mp z_okm_60 (m - 60) (List.mem_range.mpr (by omega)); rw [show 60 + (m - 60) = m by omega] at h9; exact h9
  · have h9 := List.all_eq_true.mp z_okm_70 (m - 70) (List.mem_range.mpr (by omega)); rw [show 70 + (m - 70) = m by omega] at h9; exact h9
  · have h9 := List.all_eq_true.mp z_okm_80 (m - 80) (List.mem_range.mpr (by omega)); rw [show 80 + (m - 80) = m by omega] at h9; exact h9
  · have h9 := List.all_eq_true.mp z_okm_90 (m - 90) (List.mem_range.mpr (by omega)); rw [show 90 + (m - 90) = m by omega] at h9; exact h9
  · have h9 := List.all_eq_true.mp z_okm_100 (m - 100) (List.mem_range.mpr (by omega)); rw [show 100 + (m - 100) = m by omega] at h9; exact h9
  · have h9 := List.all_eq_true.mp z_okm_110 (m - 110) (List.mem_range.mpr (by omega)); rw [show 110 + (m - 110) = m by omega] at h9; exact h9
  · have h9 := List.all_eq_true.mp z_okm_120 (m - 120) (List.mem_range.mpr (by omega)); rw [show 120 + (m - 120) = m by omega] at h9; exact h9
  · have h9 := List.all_eq_true.mp z_okm_130 (m - 130) (List.mem_range.mpr (by omega)); rw [show 130 + (m - 130) = m by omega] at h9; exact h9
  · have h9 := List.all_eq_true.mp z_okm_140 (m - 140) (List.mem_range.mpr (by omega)); rw [show 140 + (m - 140) = m by omega] at h9; exact h9
  · have h9 := List.all_eq_true.mp z_okm_150 (m - 150) (List.mem_range.mpr (by omega)); rw [show 150 + (m - 150) = m by omega] at h9; exact h9
  · have h9 := List.all_eq_true.mp z_okm_160 (m - 160) (List.mem_range.mpr (by omega)); rw [show 160 + (m - 160) = m by omega] at h9; exact h9
  · have h9 := List.all_eq_true.mp z_okm_170 (m - 170) (List.mem_range.mpr (by omega)); rw [show 170 + (m - 170) = m by omega] at h9; exact h9
  · have h9 := List.all_eq_true.mp z_okm_180 (m - 180) (List.mem_range.mpr (by omega)); rw [show 180 + (m - 180) = m by omega] at h9; exact h9
  · have h9 := List.all_eq_true.mp z_okm_190 (m - 190) (List.mem_range.mpr (by omega)); rw [show 190 + (m - 190) = m by omega] at h9; exact h9
  · have h9 := List.all_eq_true.mp z_okm_200 (m - 200) (List.mem_range.mpr (by omega)); rw [show 200 + (m - 200) = m by omega] at h9; exact h9
  · have h9 := List.all_eq_true.mp z_okm_210 (m - 210) (List.mem_range.mpr (by omega)); rw [show 210 + (m - 210) = m by omega] at h9; exact h9
end
section
theorem z_okb_0 : z_okB (z_m 0).2.1 "SlipRoom$Law" z_b0 = true := by decide +kernel
theorem z_okb_1 : z_okB (z_m 1).2.1 "SlipRoom$Law" z_b1 = true := by decide +kernel
theorem z_okb_2 : z_okB (z_m 2).2.1 "SlipRoom$Law" z_b2 = true := by decide +kernel
theorem z_okb_3 : z_okB (z_m 3).2.1 "SlipRoom$Law" z_b3 = true := by decide +kernel
theorem z_okb_4 : z_okB (z_m 4).2.1 "SlipRoom$Law" z_b4 = true := by decide +kernel
theorem z_okb_5 : z_okB (z_m 5).2.1 "SlipRoom$Ledger" z_b5 = true := by decide +kernel
theorem z_okb_6 : z_okB (z_m 6).2.1 "SlipRoom$Ledger" z_b6 = true := by decide +kernel
theorem z_okb_7 : z_okB (z_m 7).2.1 "SlipRoom$Ledger" z_b7 = true := by decide +kernel
theorem z_okb_8 : z_okB (z_m 8).2.1 "SlipRoom$Ledger" z_b8 = true := by decide +kernel
theorem z_okb_9 : z_okB (z_m 9).2.1 "SlipRoom$Ledger" z_b9 = true := by decide +kernel
theorem z_okb_10 : z_okB (z_m 10).2.1 "SlipRoom$Ledger" z_b10 = true := by decide +kernel
theorem z_okb_11 : z_okB (z_m 11).2.1 "SlipRoom$Ledger" z_b11 = true := by decide +kernel
theorem z_okb_12 : z_okB (z_m 12).2.1 "SlipRoom$Ledger" z_b12 = true := by decide +kernel
theorem z_okb_13 : z_okB (z_m 13).2.1 "SlipRoom$Ledger" z_b13 = true := by decide +kernel
theorem z_okb_14 : z_okB (z_m 14).2.1 "SlipRoom$Ledger" z_b14 = true := by decide +kernel
theorem z_okb_15 : z_okB (z_m 15).2.1 "SlipRoom$Ledger" z_b15 = true := by decide +kernel
theorem z_okb_16 : z_okB (z_m 16).2.1 "SlipRoom$Ledger" z_b16 = true := by decide +kernel
theorem z_okb_17 : z_okB (z_m 17).2.1 "SlipRoom$Ledger" z_b17 = true := by decide +kernel
theorem z_okb_18 : z_okB (z_m 18).2.1 "SlipRoom$Ledger" z_b18 = true := by decide +kernel
theorem z_okb_19 : z_okB (z_m 19).2.1 "SlipRoom$Ledger" z_b19 = true := by decide +kernel
theorem z_okb_20 : z_okB (z_m 20).2.1 "SlipRoom$Ledger" z_b20 = true := by decide +kernel
theorem z_okb_21 : z_okB (z_m 21).2.1 "SlipRoom$Ledger" z_b21 = true := by decide +kernel
theorem z_okb_22 : z_okB (z_m 22).2.1 "SlipRoom$Parser" z_b22 = true := by decide +kernel
theorem z_okb_23 : z_okB (z_m 23).2.1 "SlipRoom$Parser" z_b23 = true := by decide +kernel
theorem z_okb_24 : z_okB (z_m 24).2.1 "SlipRoom$Parser" z_b24 = true := by decide +kernel
theorem z_okb_25 : z_okB (z_m 25).2.1 "SlipRoom$Parser" z_b25 = true := by decide +kernel
theorem z_okb_26 : z_okB (z_m 26).2.1 "SlipRoom$Parser" z_b26 = true := by decide +kernel
theorem z_okb_27 : z_okB (z_m 27).2.1 "SlipRoom$Parser" z_b27 = true := by decide +kernel
theorem z_okb_28 : z_okB (z_m 28).2.1 "SlipRoom$Parser" z_b28 = true := by decide +kernel
theorem z_okb_29 : z_okB (z_m 29).2.1 "SlipRoom$Parser" z_b29 = true := by decide +kernel
theorem z_okb_30 : z_okB (z_m 30).2.1 "SlipRoom$Parser" z_b30 = true := by decide +kernel
theorem z_okb_31 : z_okB (z_m 31).2.1 "SlipRoom$Parser" z_b31 = true := by decide +kernel
theorem z_okb_32 : z_okB (z_m 32).2.1 "SlipRoom$Parser" z_b32 = true := by decide +kernel
theorem z_okb_33 : z_okB (z_m 33).2.1 "SlipRoom$Parser" z_b33 = true := by decide +kernel
theorem z_okb_34 : z_okB (z_m 34).2.1 "SlipRoom$Parser" z_b34 = true := by decide +kernel
theorem z_okb_35 : z_okB (z_m 35).2.1 "SlipRoom$Plan" z_b35 = true := by decide +kernel
theorem z_okb_36 : z_okB (z_m 36).2.1 "SlipRoom$Plan" z_b36 = true := by decide +kernel
theorem z_okb_37 : z_okB (z_m 37).2.1 "SlipRoom$Plan" z_b37 = true := by decide +kernel
theorem z_okb_38 : z_okB (z_m 38).2.1 "SlipRoom$Settling" z_b38 = true := by decide +kernel
theorem z_okb_39 : z_okB (z_m 39).2.1 "SlipRoom$Settling" z_b39 = true := by decide +kernel
theorem z_okb_40 : z_okB (z_m 40).2.1 "SlipRoom$Settling" z_b40 = true := by decide +kernel
theorem z_okb_41 : z_okB (z_m 41).2.1 "SlipRoom$Settling" z_b41 = true := by decide +kernel
theorem z_okb_42 : z_okB (z_m 42).2.1 "SlipRoom$Sharing" z_b42 = true := by decide +kernel
theorem z_okb_43 : z_okB (z_m 43).2.1 "SlipRoom$Sharing" z_b43 = true := by decide +kernel
theorem z_okb_44 : z_okB (z_m 44).2.1 "SlipRoom$Sharing" z_b44 = true := by decide +kernel
theorem z_okb_45 : z_okB (z_m 45).2.1 "SlipRoom$Sharing" z_b45 = true := by decide +kernel
theorem z_okb_46 : z_okB (z_m 46).2.1 "SlipRoom$Sharing" z_b46 = true := by decide +kernel
theorem z_okb_47 : z_okB (z_m 47).2.1 "SlipRoom$Sharing" z_b47 = true := by decide +kernel
theorem z_okb_48 : z_okB (z_m 48).2.1 "SlipRoom$Sharing" z_b48 = true := by decide +kernel
theorem z_okb_49 : z_okB (z_m 49).2.1 "SlipRoom$Sharing" z_b49 = true := by decide +kernel
theorem z_okb_50 : z_okB (z_m 50).2.1 "SlipRoom$Sharing" z_b50 = true := by decide +kernel
theorem z_okb_51 : z_okB (z_m 51).2.1 "SlipRoom$Sharing" z_b51 = true := by decide +kernel
theorem z_okb_52 : z_okB (z_m 52).2.1 "SlipRoom$Sharing" z_b52 = true := by decide +kernel
theorem z_okb_53 : z_okB (z_m 53).2.1 "SlipRoom$Sharing" z_b53 = true := by decide +kernel
theorem z_okb_54 : z_okB (z_m 54).2.1 "SlipRoom$Sharing" z_b54 = true := by decide +kernel
theorem z_okb_55 : z_okB (z_m 55).2.1 "SlipRoom$Sharing" z_b55 = true := by decide +kernel
theorem z_okb_56 : z_okB (z_m 56).2.1 "SlipRoom$Sharing" z_b56 = true := by decide +kernel
theorem z_okb_57 : z_okB (z_m 57).2.1 "SlipRoom$Sharing" z_b57 = true := by decide +kernel
theorem z_okb_58 : z_okB (z_m 58).2.1 "SlipRoom$Sharing" z_b58 = true := by decide +kernel
theorem z_okb_59 : z_okB (z_m 59).2.1 "SlipRoom$Tokens" z_b59 = true := by decide +kernel
theorem z_okb_60 : z_okB (z_m 60).2.1 "SlipRoom$Tokens" z_b60 = true := by decide +kernel
theorem z_okb_61 : z_okB (z_m 61).2.1 "SlipRoom$Tokens" z_b61 = true := by decide +kernel
theorem z_okb_62 : z_okB (z_m 62).2.1 "SlipRoom$Tokens" z_b62 = true := by decide +kernel
theorem z_okb_63 : z_okB (z_m 63).2.1 "SlipRoom$Tokens" z_b63 = true := by decide +kernel
theorem z_okb_64 : z_okB (z_m 64).2.1 "SlipRoom$Tokens" z_b64 = true := by decide +kernel
theorem z_okb_65 : z_okB (z_m 65).2.1 "SlipRoom$Tokens" z_b65 = true := by decide +kernel
theorem z_okb_66 : z_okB (z_m 66).2.1 "SlipRoom$Tokens" z_b66 = true := by decide +kernel
theorem z_okb_67 : z_okB (z_m 67).2.1 "SlipRoom$Tokens" z_b67 = true := by decide +kernel
theorem z_okb_68 : z_okB (z_m 68).2.1 "SlipRoom$Tokens" z_b68 = true := by decide +kernel
theorem z_okb_69 : z_okB (z_m 69).2.1 "SlipRoom$Tokens" z_b69 = true := by decide +kernel
theorem z_okb_70 : z_okB (z_m 70).2.1 "SlipRoom$Turns" z_b70 = true := by decide +kernel
theorem z_okb_71 : z_okB (z_m 71).2.1 "SlipRoom$Turns" z_b71 = true := by decide +kernel
theorem z_okb_72 : z_okB (z_m 72).2.1 "SlipRoom$Turns" z_b72 = true := by decide +kernel
theorem z_okb_73 : z_okB (z_m 73).2.1 "SlipRoom$Word" z_b73 = true := by decide +kernel
theorem z_okb_74 : z_okB (z_m 74).2.1 "SlipRoom" z_b74 = true := by decide +kernel
theorem z_okb_75 : z_okB (z_m 75).2.1 "SlipRoom" z_b75 = true := by decide +kernel
theorem z_okb_76 : z_okB (z_m 76).2.1 "SlipRoom" z_b76 = true := by decide +kernel
theorem z_okb_77 : z_okB (z_m 77).2.1 "SlipRoom" z_b77 = true := by decide +kernel
theorem z_okb_78 : z_okB (z_m 78).2.1 "SlipRoom" z_b78 = true := by decide +kernel
theorem z_okb_79 : z_okB (z_m 79).2.1 "SlipRoom" z_b79 = true := by decide +kernel
theorem z_okb_80 : z_okB (z_m 80).2.1 "SlipRoom" z_b80 = true := by decide +kernel
theorem z_okb_81 : z_okB (z_m 81).2.1 "SlipRoom" z_b81 = true := by decide +kernel
theorem z_okb_82 : z_okB (z_m 82).2.1 "SlipRoom" z_b82 = true := by decide +kernel
theorem z_okb_83 : z_okB (z_m 83).2.1 "SlipRoom" z_b83 = true := by decide +kernel
theorem z_okb_84 : z_okB (z_m 84).2.1 "SlipRoom" z_b84 = true := by decide +kernel
theorem z_okb_85 : z_okB (z_m 85).2.1 "SlipRoom" z_b85 = true := by decide +kernel
theorem z_okb_86 : z_okB (z_m 86).2.1 "SlipRoom" z_b86 = true := by decide +kernel
theorem z_okb_87 : z_okB (z_m 87).2.1 "SlipRoom" z_b87 = true := by decide +kernel
theorem z_okb_88 : z_okB (z_m 88).2.1 "SlipRoom" z_b88 = true := by decide +kernel
theorem z_okb_89 : z_okB (z_m 89).2.1 "SlipRoom" z_b89 = true := by decide +kernel
theorem z_okb_90 : z_okB (z_m 90).2.1 "SlipRoom" z_b90 = true := by decide +kernel
theorem z_okb_91 : z_okB (z_m 91).2.1 "SlipRoom" z_b91 = true := by decide +kernel
theorem z_okb_92 : z_okB (z_m 92).2.1 "SlipRoom" z_b92 = true := by decide +kernel
theorem z_okb_93 : z_okB (z_m 93).2.1 "SlipRoom" z_b93 = true := by decide +kernel
theorem z_okb_94 : z_okB (z_m 94).2.1 "SlipRoom" z_b94 = true := by decide +kernel
theorem z_okb_95 : z_okB (z_m 95).2.1 "SlipRoom" z_b95 = true := by decide +kernel
theorem z_okb_96 : z_okB (z_m 96).2.1 "SlipRoom" z_b96 = true := by decide +kernel
theorem z_okb_97 : z_okB (z_m 97).2.1 "SlipRoom" z_b97 = true := by decide +kernel
theorem z_okb_98 : z_okB (z_m 98).2.1 "SlipRoom" z_b98 = true := by decide +kernel
theorem z_okb_99 : z_okB (z_m 99).2.1 "SlipRoom" z_b99 = true := by decide +kernel
theorem z_okb_100 : z_okB (z_m 100).2.1 "SlipRoom" z_b100 = true := by decide +kernel
theorem z_okb_101 : z_okB (z_m 101).2.1 "SlipRoom" z_b101 = true := by decide +kernel
theorem z_okb_102 : z_okB (z_m 102).2.1 "SlipRoom" z_b102 = true := by decide +kernel
theorem z_okb_103 : z_okB (z_m 103).2.1 "SlipRoom" z_b103 = true := by decide +kernel
theorem z_okb_104 : z_okB (z_m 104).2.1 "SlipRoom" z_b104 = true := by decide +kernel
theorem z_okb_105 : z_okB (z_m 105).2.1 "SlipRoom" z_b105 = true := by decide +kernel
theorem z_okb_106 : z_okB (z_m 106).2.1 "SlipRoom" z_b106 = true := by decide +kernel
theorem z_okb_107 : z_okB (z_m 107).2.1 "SlipRoom" z_b107 = true := by decide +kernel
theorem z_okb_108 : z_okB (z_m 108).2.1 "SlipRoom" z_b108 = true := by decide +kernel
theorem z_okb_109 : z_okB (z_m 109).2.1 "SlipRoom" z_b109 = true := by decide +kernel
theorem z_okb_110 : z_okB (z_m 110).2.1 "SlipRoomModel" z_b110 = true := by decide +kernel
theorem z_okb_111 : z_okB (z_m 111).2.1 "SlipRoomModel" z_b111 = true := by decide +kernel
theorem z_okb_112 : z_okB (z_m 112).2.1 "SlipRoomModel" z_b112 = true := by decide +kernel
theorem z_okb_113 : z_okB (z_m 113).2.1 "SlipRoomModel" z_b113 = true := by decide +kernel
theorem z_okb_114 : z_okB (z_m 114).2.1 "SlipRoomModel" z_b114 = true := by decide +kernel
theorem z_okb_115 : z_okB (z_m 115).2.1 "SlipRoomModel" z_b115 = true := by decide +kernel
theorem z_okb_116 : z_okB (z_m 116).2.1 "SlipRoomModel" z_b116 = true := by decide +kernel
theorem z_okb_117 : z_okB (z_m 117).2.1 "SlipRoomModel" z_b117 = true := by decide +kernel
theorem z_okb_118 : z_okB (z_m 118).2.1 "SlipRoomModel" z_b118 = true := by decide +kernel
theorem z_okb_119 : z_okB (z_m 119).2.1 "SlipRoomModel" z_b119 = true := by decide +kernel
theorem z_okb_120 : z_okB (z_m 120).2.1 "SlipRoomModel" z_b120 = true := by decide +kernel
theorem z_okb_121 : z_okB (z_m 121).2.1 "SlipRoomModel" z_b121 = true := by decide +kernel
theorem z_okb_122 : z_okB (z_m 122).2.1 "SlipRoomModel" z_b122 = true := by decide +kernel
theorem z_okb_123 : z_okB (z_m 123).2.1 "SlipRoomModel" z_b123 = true := by decide +kernel
theorem z_okb_124 : z_okB (z_m 124).2.1 "SlipRoomModel" z_b124 = true := by decide +kernel
theorem z_okb_125 : z_okB (z_m 125).2.1 "SlipRoomModel" z_b125 = true := by decide +kernel
theorem z_okb_126 : z_okB (z_m 126).2.1 "SlipRoomModel" z_b126 = true := by decide +kernel
theorem z_okb_127 : z_okB (z_m 127).2.1 "SlipRoomModel" z_b127 = true := by decide +kernel
theorem z_okb_128 : z_okB (z_m 128).2.1 "SlipRoomModel" z_b128 = true := by decide +kernel
theorem z_okb_129 : z_okB (z_m 129).2.1 "SlipRoomModel" z_b129 = true := by decide +kernel
theorem z_okb_130 : z_okB (z_m 130).2.1 "SlipRoomModel" z_b130 = true := by decide +kernel
theorem z_okb_131 : z_okB (z_m 131).2.1 "SlipRoomModel" z_b131 = true := by decide +kernel
theorem z_okb_132 : z_okB (z_m 132).2.1 "SlipRoomModel" z_b132 = true := by decide +kernel
theorem z_okb_133 : z_okB (z_m 133).2.1 "SlipRoomModel" z_b133 = true := by decide +kernel
theorem z_okb_134 : z_okB (z_m 134).2.1 "SlipRoomModel" z_b134 = true := by decide +kernel
theorem z_okb_135 : z_okB (z_m 135).2.1 "SlipRoomModel" z_b135 = true := by decide +kernel
theorem z_okb_136 : z_okB (z_m 136).2.1 "SlipRoomModel" z_b136 = true := by decide +kernel
theorem z_okb_137 : z_okB (z_m 137).2.1 "SlipRoomModel" z_b137 = true := by decide +kernel
theorem z_okb_138_0 : z_okB (z_m 138).2.1 "SlipRoomModel" ((z_b138.drop (3 * 0)).take 3) = true := by decide +kernel
theorem z_okb_138_1 : z_okB (z_m 138).2.1 "SlipRoomModel" ((z_b138.drop (3 * 1)).take 3) = true := by decide +kernel
theorem z_okb_138_2 : z_okB (z_m 138).2.1 "SlipRoomModel" ((z_b138.drop (3 * 2)).take 3) = true := by decide +kernel
theorem z_okb_138_3 : z_okB (z_m 138).2.1 "SlipRoomModel" ((z_b138.drop (3 * 3)).take 3) = true := by decide +kernel
theorem z_okb_138_4 : z_okB (z_m 138).2.1 "SlipRoomModel" ((z_b138.drop (3 * 4)).take 3) = true := by decide +kernel
theorem z_okb_138_5 : z_okB (z_m 138).2.1 "SlipRoomModel" ((z_b138.drop (3 * 5)).take 3) = true := by decide +kernel
theorem z_okb_138 : z_okB (z_m 138).2.1 "SlipRoomModel" z_b138 = true := by
  refine z_okB_of 3 6 (by decide) (by decide +kernel) (fun i hi => ?_)
  have hc : i = 0 ∨ i = 1 ∨ i = 2 ∨ i = 3 ∨ i = 4 ∨ i = 5 := by omega
  rcases hc with rfl | rfl | rfl | rfl | rfl | rfl
  · exact z_okb_138_0
  · exact z_okb_138_1
  · exact z_okb_138_2
  · exact z_okb_138_3
  · exact z_okb_138_4
  · exact z_okb_138_5
theorem z_okb_139 : z_okB (z_m 139).2.1 "SlipRoomModel" z_b139 = true := by decide +kernel
theorem z_okb_140 : z_okB (z_m 140).2.1 "SlipRoomModel" z_b140 = true := by decide +kernel
theorem z_okb_141 : z_okB (z_m 141).2.1 "SlipRoomModel" z_b141 = true := by decide +kernel
theorem z_okb_142 : z_okB (z_m 142).2.1 "SlipRoomModel" z_b142 = true := by decide +kernel
theorem z_okb_143 : z_okB (z_m 143).2.1 "SlipRoomModel" z_b143 = true := by decide +kernel
theorem z_okb_144 : z_okB (z_m 144).2.1 "SlipRoomModel" z_b144 = true := by decide +kernel
theorem z_okb_145 : z_okB (z_m 145).2.1 "SlipRoomModel" z_b145 = true := by decide +kernel
theorem z_okb_146 : z_okB (z_m 146).2.1 "SlipRoomModel" z_b146 = true := by decide +kernel
theorem z_okb_147 : z_okB (z_m 147).2.1 "SlipRoomModel" z_b147 = true := by decide +kernel
theorem z_okb_148 : z_okB (z_m 148).2.1 "SlipRoomModel" z_b148 = true := by decide +kernel
theorem z_okb_149 : z_okB (z_m 149).2.1 "SlipRoomModel" z_b149 = true := by decide +kernel
theorem z_okb_150 : z_okB (z_m 150).2.1 "SlipRoomModel" z_b150 = true := by decide +kernel
theorem z_okb_151 : z_okB (z_m 151).2.1 "SlipRoomModel" z_b151 = true := by decide +kernel
theorem z_okb_152_0 : z_okB (z_m 152).2.1 "SlipRoomModel" ((z_b152.drop (3 * 0)).take 3) = true := by decide +kernel
theorem z_okb_152_1 : z_okB (z_m 152).2.1 "SlipRoomModel" ((z_b152.drop (3 * 1)).take 3) = true := by decide +kernel
theorem z_okb_152_2 : z_okB (z_m 152).2.1 "SlipRoomModel" ((z_b152.drop (3 * 2)).take 3) = true := by decide +kernel
theorem z_okb_152_3 : z_okB (z_m 152).2.1 "SlipRoomModel" ((z_b152.drop (3 * 3)).take 3) = true := by decide +kernel
theorem z_okb_152_4 : z_okB (z_m 152).2.1 "SlipRoomModel" ((z_b152.drop (3 * 4)).take 3) = true := by decide +kernel
theorem z_okb_152 : z_okB (z_m 152).2.1 "SlipRoomModel" z_b152 = true := by
  refine z_okB_of 3 5 (by decide) (by decide +kernel) (fun i hi => ?_)
  have hc : i = 0 ∨ i = 1 ∨ i = 2 ∨ i = 3 ∨ i = 4 := by omega
  rcases hc with rfl | rfl | rfl | rfl | rfl
  · exact z_okb_152_0
  · exact z_okb_152_1
  · exact z_okb_152_2
  · exact z_okb_152_3
  · exact z_okb_152_4
theorem z_okb_153 : z_okB (z_m 153).2.1 "SlipRoomModel" z_b153 = true := by decide +kernel
theorem z_okb_154 : z_okB (z_m 154).2.1 "SlipRoomModel" z_b154 = true := by decide +kernel
theorem z_okb_155 : z_okB (z_m 155).2.1 "SlipRoomModel" z_b155 = true := by decide +kernel
theorem z_okb_156 : z_okB (z_m 156).2.1 "SlipRoomModel" z_b156 = true := by decide +kernel
theorem z_okb_157 : z_okB (z_m 157).2.1 "SlipRoomModel" z_b157 = true := by decide +kernel
theorem z_okb_158 : z_okB (z_m 158).2.1 "SlipRoomModel" z_b158 = true := by decide +kernel
theorem z_okb_159 : z_okB (z_m 159).2.1 "SlipRoomModel" z_b159 = true := by decide +kernel
theorem z_okb_160 : z_okB (z_m 160).2.1 "SlipRoomModel" z_b160 = true := by decide +kernel
theorem z_okb_161 : z_okB (z_m 161).2.1 "SlipRoomModel" z_b161 = true := by decide +kernel
theorem z_okb_162 : z_okB (z_m 162).2.1 "SlipRoomModel" z_b162 = true := by decide +kernel
theorem z_okb_163 : z_okB (z_m 163).2.1 "SlipRoomModel" z_b163 = true := by decide +kernel
theorem z_okb_164 : z_okB (z_m 164).2.1 "SlipRoomModel" z_b164 = true := by decide +kernel
theorem z_okb_165 : z_okB (z_m 165).2.1 "SlipRoomModel" z_b165 = true := by decide +kernel
theorem z_okb_166 : z_okB (z_m 166).2.1 "SlipRoomModel" z_b166 = true := by decide +kernel
theorem z_okb_167 : z_okB (z_m 167).2.1 "SlipRoomModel" z_b167 = true := by decide +kernel
theorem z_okb_168 : z_okB (z_m 168).2.1 "SlipRoomModel" z_b168 = true := by decide +kernel
theorem z_okb_169 : z_okB (z_m 169).2.1 "SlipRoomModel" z_b169 = true := by decide +kernel
theorem z_okb_170 : z_okB (z_m 170).2.1 "SlipRoomModel" z_b170 = true := by decide +kernel
theorem z_okb_171 : z_okB (z_m 171).2.1 "SlipRoomModel" z_b171 = true := by decide +kernel
theorem z_okb_172 : z_okB (z_m 172).2.1 "SlipRoomModel" z_b172 = true := by decide +kernel
theorem z_okb_173 : z_okB (z_m 173).2.1 "SlipRoomModel" z_b173 = true := by decide +kernel
theorem z_okb_174 : z_okB (z_m 174).2.1 "SlipRoomModel" z_b174 = true := by decide +kernel
theorem z_okb_175 : z_okB (z_m 175).2.1 "SlipRoomModel" z_b175 = true := by decide +kernel
theorem z_okb_176 : z_okB (z_m 176).2.1 "SlipRoomModel" z_b176 = true := by decide +kernel
theorem z_okb_177 : z_okB (z_m 177).2.1 "SlipRoomModel" z_b177 = true := by decide +kernel
theorem z_okb_178 : z_okB (z_m 178).2.1 "SlipRoomModel" z_b178 = true := by decide +kernel
theorem z_okb_179 : z_okB (z_m 179).2.1 "SlipRoomModel" z_b179 = true := by decide +kernel
theorem z_okb_180 : z_okB (z_m 180).2.1 "SlipRoomModel" z_b180 = true := by decide +kernel
theorem z_okb_181 : z_okB (z_m 181).2.1 "SlipRoomModel" z_b181 = true := by decide +kernel
theorem z_okb_182 : z_okB (z_m 182).2.1 "SlipRoomModel" z_b182 = true := by decide +kernel
theorem z_okb_183 : z_okB (z_m 183).2.1 "SlipRoomModel" z_b183 = true := by decide +kernel
theorem z_okb_184 : z_okB (z_m 184).2.1 "SlipRoomModel" z_b184 = true := by decide +kernel
theorem z_okb_185 : z_okB (z_m 185).2.1 "java/lang/Integer" z_b185 = true := by decide +kernel
theorem z_okb_186 : z_okB (z_m 186).2.1 "java/lang/Long" z_b186 = true := by decide +kernel
theorem z_okb_187 : z_okB (z_m 187).2.1 "java/lang/Math" z_b187 = true := by decide +kernel
theorem z_okb_188 : z_okB (z_m 188).2.1 "java/lang/Math" z_b188 = true := by decide +kernel
theorem z_okb_189 : z_okB (z_m 189).2.1 "java/util/Arrays" z_b189 = true := by decide +kernel
theorem z_okb_190 : z_okB (z_m 190).2.1 "java/util/Arrays" z_b190 = true := by decide +kernel
theorem z_okb_191 : z_okB (z_m 191).2.1 "SlipRoomLaw" z_b191 = true := by decide +kernel
theorem z_okb_192 : z_okB (z_m 192).2.1 "SlipRoomLaw" z_b192 = true := by decide +kernel
theorem z_okb_193 : z_okB (z_m 193).2.1 "SlipRoomLaw" z_b193 = true := by decide +kernel
theorem z_okb_194 : z_okB (z_m 194).2.1 "SlipRoomLaw" z_b194 = true := by decide +kernel
theorem z_okb_195 : z_okB (z_m 195).2.1 "SlipRoomLaw" z_b195 = true := by decide +kernel
theorem z_okb_196 : z_okB (z_m 196).2.1 "SlipRoomLaw" z_b196 = true := by decide +kernel
theorem z_okb_197 : z_okB (z_m 197).2.1 "SlipRoomLaw" z_b197 = true := by decide +kernel
theorem z_okb_198 : z_okB (z_m 198).2.1 "SlipRoomLaw" z_b198 = true := by decide +kernel
theorem z_okb_199 : z_okB (z_m 199).2.1 "SlipRoomLaw" z_b199 = true := by decide +kernel
theorem z_okb_200 : z_okB (z_m 200).2.1 "SlipRoomLaw" z_b200 = true := by decide +kernel
theorem z_okb_201 : z_okB (z_m 201).2.1 "SlipRoomLaw" z_b201 = true := by decide +kernel
theorem z_okb_202 : z_okB (z_m 202).2.1 "SlipRoomLaw" z_b202 = true := by decide +kernel
theorem z_okb_203 : z_okB (z_m 203).2.1 "SlipRoomLaw" z_b203 = true := by decide +kernel
theorem z_okb_204 : z_okB (z_m 204).2.1 "SlipRoomLaw" z_b204 = true := by decide +kernel
theorem z_okb_205 : z_okB (z_m 205).2.1 "SlipRoomLaw" z_b205 = true := by decide +kernel
theorem z_okb_206 : z_okB (z_m 206).2.1 "SlipRoomLaw" z_b206 = true := by decide +kernel
theorem z_okb_207 : z_okB (z_m 207).2.1 "SlipRoomLaw" z_b207 = true := by decide +kernel
theorem z_okb_208 : z_okB (z_m 208).2.1 "SlipRoomLaw" z_b208 = true := by decide +kernel
theorem z_okb_209 : z_okB (z_m 209).2.1 "SlipRoomLaw" z_b209 = true := by decide +kernel
theorem z_okb_210 : z_okB (z_m 210).2.1 "SlipRoomLaw" z_b210 = true := by decide +kernel
end
section
theorem z_okb_211_0 : z_okB (z_m 211).2.1 "SlipRoomLaw" ((z_b211.drop (3 * 0)).take 3) = true := by decide +kernel
theorem z_okb_211_1 : z_okB (z_m 211).2.1 "SlipRoomLaw" ((z_b211.drop (3 * 1)).take 3) = true := by decide +kernel
theorem z_okb_211_2 : z_okB (z_m 211).2.1 "SlipRoomLaw" ((z_b211.drop (3 * 2)).take 3) = true := by decide +kernel
theorem z_okb_211_3 : z_okB (z_m 211).2.1 "SlipRoomLaw" ((z_b211.drop (3 * 3)).take 3) = true := by decide +kernel
theorem z_okb_211_4 : z_okB (z_m 211).2.1 "SlipRoomLaw" ((z_b211.drop (3 * 4)).take 3) = true := by decide +kernel
theorem z_okb_211_5 : z_okB (z_m 211).2.1 "SlipRoomLaw" ((z_b211.drop (3 * 5)).take 3) = true := by decide +kernel
theorem z_okb_211_6 : z_okB (z_m 211).2.1 "SlipRoomLaw" ((z_b211.drop (3 * 6)).take 3) = true := by decide +kernel
theorem z_okb_211_7 : z_okB (z_m 211).2.1 "SlipRoomLaw" ((z_b211.drop (3 * 7)).take 3) = true := by decide +kernel
theorem z_okb_211_8 : z_okB (z_m 211).2.1 "SlipRoomLaw" ((z_b211.drop (3 * 8)).take 3) = true := by decide +kernel
theorem z_okb_211_9 : z_okB (z_m 211).2.1 "SlipRoomLaw" ((z_b211.drop (3 * 9)).take 3) = true := by decide +kernel
theorem z_okb_211_10 : z_okB (z_m 211).2.1 "SlipRoomLaw" ((z_b211.drop (3 * 10)).take 3) = true := by decide +kernel
theorem z_okb_211_11 : z_okB (z_m 211).2.1 "SlipRoomLaw" ((z_b211.drop (3 * 11)).take 3) = true := by decide +kernel
theorem z_okb_211_12 : z_okB (z_m 211).2.1 "SlipRoomLaw" ((z_b211.drop (3 * 12)).take 3) = true := by decide +kernel
theorem z_okb_211_13 : z_okB (z_m 211).2.1 "SlipRoomLaw" ((z_b211.drop (3 * 13)).take 3) = true := by decide +kernel
theorem z_okb_211_14 : z_okB (z_m 211).2.1 "SlipRoomLaw" ((z_b211.drop (3 * 14)).take 3) = true := by decide +kernel
theorem z_okb_211_15 : z_okB (z_m 211).2.1 "SlipRoomLaw" ((z_b211.drop (3 * 15)).take 3) = true := by decide +kernel
theorem z_okb_211_16 : z_okB (z_m 211).2.1 "SlipRoomLaw" ((z_b211.drop (3 * 16)).take 3) = true := by decide +kernel
theorem z_okb_211_17 : z_okB (z_m 211).2.1 "SlipRoomLaw" ((z_b211.drop (3 * 17)).take 3) = true := by decide +kernel
theorem z_okb_211_18 : z_okB (z_m 211).2.1 "SlipRoomLaw" ((z_b211.drop (3 * 18)).take 3) = true := by decide +kernel
theorem z_okb_211_19 : z_okB (z_m 211).2.1 "SlipRoomLaw" ((z_b211.drop (3 * 19)).take 3) = true := by decide +kernel
theorem z_okb_211_20 : z_okB (z_m 211).2.1 "SlipRoomLaw" ((z_b211.drop (3 * 20)).take 3) = true := by decide +kernel
theorem z_okb_211_21 : z_okB (z_m 211).2.1 "SlipRoomLaw" ((z_b211.drop (3 * 21)).take 3) = true := by decide +kernel
theorem z_okb_211_22 : z_okB (z_m 211).2.1 "SlipRoomLaw" ((z_b211.drop (3 * 22)).take 3) = true := by decide +kernel
theorem z_okb_211_23 : z_okB (z_m 211).2.1 "SlipRoomLaw" ((z_b211.drop (3 * 23)).take 3) = true := by decide +kernel
theorem z_okb_211 : z_okB (z_m 211).2.1 "SlipRoomLaw" z_b211 = true := by
  refine z_okB_of 3 24 (by decide) (by decide +kernel) (fun i hi => ?_)
  have hc : i = 0 ∨ i = 1 ∨ i = 2 ∨ i = 3 ∨ i = 4 ∨ i = 5 ∨ i = 6 ∨ i = 7 ∨ i = 8 ∨ i = 9 ∨ i = 10 ∨ i = 11 ∨ i = 12 ∨ i = 13 ∨ i = 14 ∨ i = 15 ∨ i = 16 ∨ i = 17 ∨ i = 18 ∨ i = 19 ∨ i = 20 ∨ i = 21 ∨ i = 22 ∨ i = 23 := by omega
  rcases hc with rfl | rfl | rfl | rfl | rfl | rfl | rfl | rfl | rfl | rfl | rfl | rfl | rfl | rfl | rfl | rfl | rfl | rfl | rfl | rfl | rfl | rfl | rfl | rfl
  · exact z_okb_211_0
  · exact z_okb_211_1
  · exact z_okb_211_2
  · exact z_okb_211_3
  · exact z_okb_211_4
  · exact z_okb_211_5
  · exact z_okb_211_6
  · exact z_okb_211_7
  · exact z_okb_211_8
  · exact z_okb_211_9
  · exact z_okb_211_10
  · exact z_okb_211_11
  · exact z_okb_211_12
  · exact z_okb_211_13
  · exact z_okb_211_14
  · exact z_okb_211_15
  · exact z_okb_211_16
  · exact z_okb_211_17
  · exact z_okb_211_18
  · exact z_okb_211_19
  · exact z_okb_211_20
  · exact z_okb_211_21
  · exact z_okb_211_22
  · exact z_okb_211_23
end
section
/-! the abstract memory seen in the heap -/
def z_v (ρ : Nat → Nat) : Value → Value
  | .ref a => .ref (ρ a)
  | v => v
def z_rv (ρ : Nat → Nat) (x : Int32) : Value := if x = -1 then .null else .ref (ρ x.toNatClampNeg)
def z_fv (ρ : Nat → Nat) (M : z_Mi) (a c k : Nat) : Value := match (z_ftg c k).1 with
  | 0 => .int (M a k)
  | 1 => z_rv ρ (M a k)
  | 2 => .ref (ρ (a + (z_ftg c k).2))
  | _ => .ref (ρ (z_ftg c k).2)
def z_fs (ρ : Nat → Nat) (M : z_Mi) (a : Nat) : List Value := (List.range (z_nf (z_oc a))).map (z_fv ρ M a (z_oc a))
def z_ce (ρ : Nat → Nat) (cA : Nat → ClassId) (S : z_St) (a : Nat) : va_E := match z_at a with
  | 0 => .inr (z_oc a, z_fs ρ S.1 a)
  | 4 => .inl (cA 4, z_ln a, .inr (.inl (S.2 a)))
  | 5 => .inl (cA 5, z_ln a, .inr (.inr (.inr (.inr (fun i => some (ρ (z_vs.getD i 0)))))))
  | t => .inl (cA t, z_ln a, .inl (S.1 a))
def z_wl (ρ : Nat → Nat) (cA : Nat → ClassId) (S : z_St) : va_W := (List.range z_n).map (fun a => (ρ a, z_ce ρ cA S a))
def z_tys (cA : Nat → ClassId) : List (ClassId × FieldType) := [(cA 1, .int), (cA 2, .byte), (cA 3, .boolean), (cA 4, .long), (cA 5, .object "java/lang/String")]
section ZW
variable {ρ : Nat → Nat} {cA : Nat → ClassId} {S S' : z_St}
theorem z_wl_len : (z_wl ρ cA S).length = z_n := by simp [z_wl]
theorem z_wl_get {a : Nat} (h : a < z_n) : (z_wl ρ cA S)[a]? = some (ρ a, z_ce ρ cA S a) := by
  simp [z_wl, h]
theorem z_wl_set {a : Nat} {e : va_E} (h : a < z_n) (he : z_ce ρ cA S' a = e) (ho : ∀ b, b < z_n → b ≠ a → z_ce ρ cA S' b = z_ce ρ cA S b) : (z_wl ρ cA S).set a (ρ a, e) = z_wl ρ cA S' := by
  apply List.ext_getElem?
  intro b
  rw [List.getElem?_set]
  by_cases hb : b < z_n
  · by_cases hab : a = b
    · subst hab
      rw [if_pos rfl, if_pos (by rw [z_wl_len]; exact h), z_wl_get h, he]
    · rw [if_neg hab, z_wl_get hb, z_wl_get hb, ho b hb (fun q => hab q.symm)]
  · have h1 : (z_wl ρ cA S)[b]? = none := List.getElem?_eq_none (by rw [z_wl_len]; omega)
    have h2 : (z_wl ρ cA S')[b]? = none := List.getElem?_eq_none (by rw [z_wl_len]; omega)
    by_cases hab : a = b
    · subst hab; exact absurd h hb
    · rw [if_neg hab, h1, h2]
theorem z_w1_at {M : z_Mi} {a i : Nat} {v : Int32} : z_w1 M a i v a = upd (M a) i v := by simp [z_w1]
theorem z_w1_ne {M : z_Mi} {a b i : Nat} {v : Int32} (h : b ≠ a) : z_w1 M a i v b = M b := by simp [z_w1, h]
theorem z_w2_at {M : z_Ml} {a i : Nat} {v : Int64} : z_w2 M a i v a = vp_updL (M a) i v := by simp [z_w2]
theorem z_w2_ne {M : z_Ml} {a b i : Nat} {v : Int64} (h : b ≠ a) : z_w2 M a i v b = M b := by simp [z_w2, h]
theorem z_c1_at {M : z_Mi} {a b i j k : Nat} : z_c1 M a b i j k b = va_cpy (M a) (M b) i j k := by simp [z_c1]
theorem z_c1_ne {M : z_Mi} {a b c i j k : Nat} (h : c ≠ b) : z_c1 M a b i j k c = M c := by simp [z_c1, h]
theorem z_c2_at {M : z_Ml} {a b i j k : Nat} : z_c2 M a b i j k b = va_cpy (M a) (M b) i j k := by simp [z_c2]
theorem z_c2_ne {M : z_Ml} {a b c i j k : Nat} (h : c ≠ b) : z_c2 M a b i j k c = M c := by simp [z_c2, h]
theorem z_fs_eq {M M' : z_Mi} {a : Nat} (h : M a = M' a) : z_fs ρ M a = z_fs ρ M' a := by
  have : z_fv ρ M a (z_oc a) = z_fv ρ M' a (z_oc a) := by funext k; simp [z_fv, h]
  simp [z_fs, this]
theorem z_ce_eq {a : Nat} (h1 : S.1 a = S'.1 a) (h2 : S.2 a = S'.2 a) : z_ce ρ cA S a = z_ce ρ cA S' a := by
  unfold z_ce; rw [z_fs_eq h1, h1, h2]
theorem z_ce_n {a t : Nat} (ht : z_at a = t) (h : t = 1 ∨ t = 2 ∨ t = 3) : z_ce ρ cA S a = .inl (cA t, z_ln a, .inl (S.1 a)) := by
  unfold z_ce; rw [ht]; rcases h with rfl | rfl | rfl <;> rfl
theorem z_ce_l {a : Nat} (ht : z_at a = 4) : z_ce ρ cA S a = .inl (cA 4, z_ln a, .inr (.inl (S.2 a))) := by unfold z_ce; rw [ht]; rfl
theorem z_ce_q {a : Nat} (ht : z_at a = 5) : z_ce ρ cA S a = .inl (cA 5, z_ln a, .inr (.inr (.inr (.inr (fun i => some (ρ (z_vs.getD i 0))))))) := by unfold z_ce; rw [ht]; rfl
theorem z_ce_o {a : Nat} (ht : z_at a = 0) : z_ce ρ cA S a = .inr (z_oc a, z_fs ρ S.1 a) := by unfold z_ce; rw [ht]; rfl
theorem z_set1 {a t i : Nat} {v : Int32} (ha : a < z_n) (ht : z_at a = t) (h : t = 1 ∨ t = 2 ∨ t = 3) : (z_wl ρ cA S).set a (ρ a, .inl (cA t, z_ln a, .inl (upd (S.1 a) i v))) = z_wl ρ cA (z_w1 S.1 a i v, S.2) :=
  z_wl_set ha (by rw [z_ce_n ht h]; dsimp only; rw [z_w1_at]) (fun b _ hb => z_ce_eq (z_w1_ne hb) rfl)
theorem z_set2 {a i : Nat} {v : Int64} (ha : a < z_n) (ht : z_at a = 4) : (z_wl ρ cA S).set a (ρ a, .inl (cA 4, z_ln a, .inr (.inl (vp_updL (S.2 a) i v)))) = z_wl ρ cA (S.1, z_w2 S.2 a i v) :=
  z_wl_set ha (by rw [z_ce_l ht]; dsimp only; rw [z_w2_at]) (fun b _ hb => z_ce_eq rfl (z_w2_ne hb))
theorem z_setc1 {a b i j k : Nat} (ha : b < z_n) (ht : z_at b = 1) : (z_wl ρ cA S).set b (ρ b, .inl (cA 1, z_ln b, .inl (va_cpy (S.1 a) (S.1 b) i j k))) = z_wl ρ cA (z_c1 S.1 a b i j k, S.2) :=
  z_wl_set ha (by rw [z_ce_n ht (Or.inl rfl)]; dsimp only; rw [z_c1_at]) (fun c _ hc => z_ce_eq (z_c1_ne hc) rfl)
theorem z_setc2 {a b i j k : Nat} (ha : b < z_n) (ht : z_at b = 4) : (z_wl ρ cA S).set b (ρ b, .inl (cA 4, z_ln b, .inr (.inl (va_cpy (S.2 a) (S.2 b) i j k)))) = z_wl ρ cA (S.1, z_c2 S.2 a b i j k) :=
  z_wl_set ha (by rw [z_ce_l ht]; dsimp only; rw [z_c2_at]) (fun c _ hc => z_ce_eq rfl (z_c2_ne hc))
theorem z_fs_get {M : z_Mi} {a k : Nat} (hk : k < z_nf (z_oc a)) : (z_fs ρ M a)[k]? = some (z_fv ρ M a (z_oc a) k) := by simp [z_fs, hk]
theorem z_fs_len {M : z_Mi} {a : Nat} : (z_fs ρ M a).length = z_nf (z_oc a) := by simp [z_fs]
theorem z_setf {a k : Nat} {x : Int32} {v : Value} (ha : a < z_n) (ht : z_at a = 0) (hk : k < z_nf (z_oc a)) (hv : z_fv ρ (z_w1 S.1 a k x) a (z_oc a) k = v) : (z_wl ρ cA S).set a (ρ a, .inr (z_oc a, (z_fs ρ S.1 a).set k v)) = z_wl ρ cA (z_w1 S.1 a k x, S.2) := by
  refine z_wl_set ha ?_ (fun b _ hb => z_ce_eq (z_w1_ne hb) rfl)
  rw [z_ce_o ht]
  congr 2
  apply List.ext_getElem?
  intro j
  rw [List.getElem?_set]
  by_cases hj : k = j
  · subst hj
    rw [if_pos rfl, if_pos (by rw [z_fs_len]; exact hk), z_fs_get hk, hv]
  · rw [if_neg hj]
    by_cases hjn : j < z_nf (z_oc a)
    · rw [z_fs_get hjn, z_fs_get hjn]
      have : z_w1 S.1 a k x a j = S.1 a j := by rw [z_w1_at]; simp [upd, Ne.symm hj]
      simp [z_fv, this]
    · rw [List.getElem?_eq_none (by rw [z_fs_len]; omega), List.getElem?_eq_none (by rw [z_fs_len]; omega)]
end ZW
theorem z_isO_ok : ∀ {c a : Nat}, c < 10 → z_isO c a = true → a < z_n ∧ z_at a = 0 ∧ z_oc a = c := by
  intro c a hc h
  have hc2 : c = 0 ∨ c = 1 ∨ c = 2 ∨ c = 3 ∨ c = 4 ∨ c = 5 ∨ c = 6 ∨ c = 7 ∨ c = 8 ∨ c = 9 := by omega
  rcases hc2 with rfl | rfl | rfl | rfl | rfl | rfl | rfl | rfl | rfl | rfl <;>
    (simp only [z_isO, Bool.or_eq_true, Nat.beq_eq] at h
     first
     | (rcases h with rfl | rfl <;> decide +kernel)
     | (subst h; decide +kernel))
theorem z_at_lt {a : Nat} (h : z_at a ≠ 0) : a < z_n := by
  apply Classical.byContradiction
  intro hn
  apply h
  have h1 : 117 ≤ a := by simpa [z_n] using hn
  have e : ∀ k, k ≤ 117 → Nat.blt a k = false := fun k hk => by
    cases hb : Nat.blt a k with
    | false => rfl
    | true => have := Nat.blt_eq.mp hb; omega
  simp [z_at, e]
theorem z_cls_get {c : Nat} (h : c < 10) : ∃ C T, z_cls[c]? = some (C, T, z_nf c) := by
  have hc2 : c = 0 ∨ c = 1 ∨ c = 2 ∨ c = 3 ∨ c = 4 ∨ c = 5 ∨ c = 6 ∨ c = 7 ∨ c = 8 ∨ c = 9 := by omega
  rcases hc2 with rfl | rfl | rfl | rfl | rfl | rfl | rfl | rfl | rfl | rfl <;> exact ⟨_, _, rfl⟩
end
section
/-! the locals -/
theorem z_lg_lt : ∀ {L : z_Lo} {i : Nat} {v : Value}, z_lg L i = some v → i < L.length
  | [], _, _, h => by cases h
  | _ :: _, 0, _, _ => Nat.zero_lt_succ _
  | _ :: L, i + 1, _, h => Nat.succ_lt_succ (z_lg_lt (L := L) h)
theorem z_ls_len : ∀ (L : z_Lo) (i : Nat) (o : Option Value), (z_ls L i o).length = L.length
  | [], _, _ => rfl
  | _ :: _, 0, _ => rfl
  | _ :: L, i + 1, o => congrArg (· + 1) (z_ls_len L i o)
theorem z_lg_at : ∀ (L : z_Lo) (i : Nat) (o : Option Value), i < L.length → z_lg (z_ls L i o) i = o
  | [], _, _, h => absurd h (Nat.not_lt_zero _)
  | _ :: _, 0, _, _ => rfl
  | _ :: L, i + 1, o, h => z_lg_at L i o (Nat.lt_of_succ_lt_succ h)
theorem z_lg_ne : ∀ (L : z_Lo) (i j : Nat) (o : Option Value), j ≠ i → z_lg (z_ls L i o) j = z_lg L j
  | [], _, _, _, _ => rfl
  | _ :: _, 0, 0, _, h => absurd rfl h
  | _ :: _, 0, _ + 1, _, _ => rfl
  | _ :: _, _ + 1, 0, _, _ => rfl
  | _ :: L, i + 1, j + 1, o, h => z_lg_ne L i j o (fun q => h (by rw [q]))
theorem z_fx_len (L : z_Lo) (i : Nat) : (z_fx L i).length = L.length := by
  unfold z_fx
  split
  · rfl
  · split
    · exact z_ls_len _ _ _
    · exact z_ls_len _ _ _
    · rfl
theorem z_fx_sub {L : z_Lo} {i j : Nat} {v : Value} (h : z_lg (z_fx L i) j = some v) : z_lg L j = some v ∧ ¬ (j + 1 = i ∧ v.category = 2) := by
  unfold z_fx at h
  split at h
  · exact ⟨h, fun q => by omega⟩
  · rename_i k
    split at h
    · rename_i x hx
      by_cases hj : j = k
      · subst hj; rw [z_lg_at _ _ _ (z_lg_lt hx)] at h; cases h
      · rw [z_lg_ne _ _ _ _ hj] at h; exact ⟨h, fun q => by omega⟩
    · rename_i x hx
      by_cases hj : j = k
      · subst hj; rw [z_lg_at _ _ _ (z_lg_lt hx)] at h; cases h
      · rw [z_lg_ne _ _ _ _ hj] at h; exact ⟨h, fun q => by omega⟩
    · rename_i h1 h2
      refine ⟨h, fun q => ?_⟩
      have hj : j = k := by omega
      subst hj
      cases v with
      | long x => exact h1 x h
      | double x => exact h2 x h
      | _ => simp [Value.category] at q
def z_lr (ρ : Nat → Nat) (ls : Array Slot) (nL : Nat) (L : z_Lo) : Prop := ls.size = nL ∧ lv_wf ls ∧ L.length ≤ nL ∧ ∀ (i : Nat) (v : Value), z_lg L i = some v → ls[i]? = some (.val (z_v ρ v))
def z_lv (ρ : Nat → Nat) (L : z_Lo) : List (Nat × Value) := (List.range L.length).filterMap (fun i => (z_lg L i).map (fun v => (i, z_v ρ v)))
theorem z_lv_mem {ρ : Nat → Nat} {L : z_Lo} {i : Nat} {v : Value} (h : z_lg L i = some v) : (i, z_v ρ v) ∈ z_lv ρ L :=
  List.mem_filterMap.mpr ⟨i, List.mem_range.mpr (z_lg_lt h), by rw [h]; rfl⟩
theorem z_lr_has {ρ : Nat → Nat} {ls : Array Slot} {nL : Nat} {L : z_Lo} (h : z_lr ρ ls nL L) : lv_has ls nL (z_lv ρ L) := by
  refine ⟨h.1, h.2.1, fun q hq => ?_⟩
  obtain ⟨i, -, hi⟩ := List.mem_filterMap.mp hq
  cases hg : z_lg L i with
  | none => rw [hg] at hi; cases hi
  | some v =>
    rw [hg] at hi
    cases hi
    exact h.2.2.2 i v hg
theorem z_vcat (ρ : Nat → Nat) (v : Value) : (z_v ρ v).category = v.category := by cases v <;> rfl
theorem z_lr_s1 {ρ : Nat → Nat} {ls : Array Slot} {nL i : Nat} {L : z_Lo} {v : Value} (hL : L.length ≤ nL) (h : lv_has ls nL ((i, z_v ρ v) :: (z_lv ρ L).filter (fun q => !(q.1 == i) && !(q.1 + 1 == i && q.2.category == 2)))) : z_lr ρ ls nL (z_s1 L i v) := by
  refine ⟨h.1, h.2.1, by unfold z_s1; rw [z_ls_len, z_fx_len]; exact hL, fun j w hj => ?_⟩
  by_cases hji : j = i
  · subst hji
    have hlt := z_lg_lt hj
    unfold z_s1 at hj hlt
    rw [z_ls_len] at hlt
    rw [z_lg_at _ _ _ hlt] at hj
    cases hj
    exact h.2.2 _ List.mem_cons_self
  · unfold z_s1 at hj
    rw [z_lg_ne _ _ _ _ hji] at hj
    obtain ⟨h1, h2⟩ := z_fx_sub hj
    refine h.2.2 (j, z_v ρ w) (List.mem_cons_of_mem _ (List.mem_filter.mpr ⟨z_lv_mem h1, ?_⟩))
    simp only [z_vcat]
    simp only [Bool.and_eq_true, Bool.not_eq_true', beq_eq_false_iff_ne, ne_eq, Bool.and_eq_false_iff]
    refine ⟨hji, ?_⟩
    by_cases hq : j + 1 = i
    · right; intro hc; exact h2 ⟨hq, hc⟩
    · left; exact hq
theorem z_lr_s2 {ρ : Nat → Nat} {ls : Array Slot} {nL i : Nat} {L : z_Lo} {v : Value} (hL : L.length ≤ nL) (hi : i + 1 < L.length) (h : lv_has ls nL ((i, z_v ρ v) :: (z_lv ρ L).filter (fun q => !(q.1 == i) && (!(q.1 == i + 1) && !(q.1 + 1 == i && q.2.category == 2))))) : z_lr ρ ls nL (z_s2 L i v) := by
  refine ⟨h.1, h.2.1, by unfold z_s2; rw [z_ls_len, z_ls_len, z_fx_len]; exact hL, fun j w hj => ?_⟩
  unfold z_s2 at hj
  by_cases hj1 : j = i + 1
  · subst hj1
    rw [z_lg_at _ _ _ (by rw [z_ls_len, z_fx_len]; exact hi)] at hj
    cases hj
  · rw [z_lg_ne _ _ _ _ hj1] at hj
    by_cases hji : j = i
    · subst hji
      rw [z_lg_at _ _ _ (by rw [z_fx_len]; omega)] at hj
      cases hj
      exact h.2.2 _ List.mem_cons_self
    · rw [z_lg_ne _ _ _ _ hji] at hj
      obtain ⟨h1, h2⟩ := z_fx_sub hj
      refine h.2.2 (j, z_v ρ w) (List.mem_cons_of_mem _ (List.mem_filter.mpr ⟨z_lv_mem h1, ?_⟩))
      simp only [z_vcat]
      simp only [Bool.and_eq_true, Bool.not_eq_true', beq_eq_false_iff_ne, ne_eq, Bool.and_eq_false_iff]
      refine ⟨hji, hj1, ?_⟩
      by_cases hq : j + 1 = i
      · right; intro hc; exact h2 ⟨hq, hc⟩
      · left; exact hq
theorem z_mk_sub : ∀ (mk : List Bool) (L : z_Lo) (i : Nat) (v : Value), z_lg (z_mk mk L) i = some v → z_lg L i = some v
  | [], L, i, v, h => by cases L <;> cases h
  | true :: bs, [], i, v, h => by cases h
  | false :: bs, [], i, v, h => by cases h
  | true :: bs, a :: L, 0, v, h => h
  | true :: bs, a :: L, i + 1, v, h => z_mk_sub bs L i v h
  | false :: bs, a :: L, 0, v, h => by cases h
  | false :: bs, a :: L, i + 1, v, h => z_mk_sub bs L i v h
theorem z_mk_len : ∀ (mk : List Bool) (L : z_Lo), (z_mk mk L).length ≤ L.length
  | [], L => by cases L <;> simp [z_mk]
  | true :: bs, [] => Nat.le_refl _
  | false :: bs, [] => Nat.le_refl _
  | true :: bs, a :: L => Nat.succ_le_succ (z_mk_len bs L)
  | false :: bs, a :: L => Nat.succ_le_succ (z_mk_len bs L)
theorem z_lr_mk {ρ : Nat → Nat} {ls : Array Slot} {nL : Nat} {L : z_Lo} (mk : List Bool) (h : z_lr ρ ls nL L) : z_lr ρ ls nL (z_mk mk L) :=
  ⟨h.1, h.2.1, Nat.le_trans (z_mk_len mk L) h.2.2.1, fun i v hv => h.2.2.2 i v (z_mk_sub mk L i v hv)⟩
/-! the entry -/
theorem z_sl_args (ρ : Nat → Nat) : ∀ (as : List Value) (o i : Nat) (v : Value), z_lg (z_sl as) i = some v → (o + i, z_v ρ v) ∈ lv_args o (as.map (z_v ρ))
  | [], _, _, _, h => by cases h
  | a :: as, o, i, v, h => by
    have e1 : (z_v ρ a).category = a.category := z_vcat ρ a
    rcases lv_cat a with hc | hc
    · have hs : z_sl (a :: as) = some a :: z_sl as := by cases a <;> first | rfl | (simp [Value.category] at hc)
      rw [hs] at h
      cases i with
      | zero => cases h; exact List.mem_cons_self
      | succ i =>
        have := z_sl_args ρ as (o + 1) i v h
        simp only [List.map_cons, lv_args, e1, hc]
        refine List.mem_cons_of_mem _ ?_
        rw [if_neg (by omega), show o + (i + 1) = o + 1 + i by omega]; exact this
    · have hs : z_sl (a :: as) = some a :: none :: z_sl as := by cases a <;> first | rfl | (simp [Value.category] at hc)
      rw [hs] at h
      cases i with
      | zero => cases h; exact List.mem_cons_self
      | succ i =>
        cases i with
        | zero => cases h
        | succ i =>
          have := z_sl_args ρ as (o + 2) i v h
          simp only [List.map_cons, lv_args, e1, hc]
          refine List.mem_cons_of_mem _ ?_
          rw [if_pos trivial, show o + (i + 1 + 1) = o + 2 + i by omega]; exact this
theorem z_lg_take : ∀ (n : Nat) (L : z_Lo) (i : Nat) (v : Value), z_lg (L.take n) i = some v → z_lg L i = some v
  | 0, L, i, v, h => by simp [z_lg] at h
  | n + 1, [], i, v, h => by cases h
  | n + 1, a :: L, 0, v, h => h
  | n + 1, a :: L, i + 1, v, h => z_lg_take n L i v h
theorem z_lg_app : ∀ (L : z_Lo) (k i : Nat) (v : Value), z_lg (L ++ List.replicate k none) i = some v → z_lg L i = some v
  | [], k, i, v, h => by
    have : ∀ (k i : Nat), z_lg (List.replicate k none) i ≠ some v := by
      intro k
      induction k with
      | zero => intro i h; cases h
      | succ k ih =>
        intro i h
        cases i with
        | zero => cases h
        | succ i => exact ih i h
    exact absurd h (this k i)
  | a :: L, k, 0, v, h => h
  | a :: L, k, i + 1, v, h => z_lg_app L k i v h
theorem z_in_lr {ρ : Nat → Nat} {n : Nat} {as : List Value} {ls : Array Slot} (h : lv_has ls n (lv_args 0 (as.map (z_v ρ)))) : z_lr ρ ls n (z_in n as) := by
  refine ⟨h.1, h.2.1, by unfold z_in; exact List.length_take_le _ _, fun i v hv => ?_⟩
  have h1 := z_lg_app _ _ _ _ (z_lg_take _ _ _ _ hv)
  have h2 := z_sl_args ρ as 0 i v h1
  rw [Nat.zero_add] at h2
  exact h.2.2 _ h2
end
section
/-! the machine at a point of a method: any locals and any heap that hold what the abstract machine has there -/
def z_Wd (B : Nat) (D : va_G) (ρ : Nat → Nat) (cA : Nat → ClassId) (S : z_St) (s : State) (H : Heap) (locs : List Loc) : Prop := va_P D z_cls (z_wl ρ cA S) H ∧ va_S (fun q => B ≤ q) s.heap H locs
def z_J (p : Program) (l : Launch) (e : Env) (R : Room) (s : State) (m : MethodId) (args : Array Value) (below : List Frame) (meth : Method) (c : Code) (Q : State → Prop) (B : Nat) (D : va_G) (ρ : Nat → Nat) (cA : Nat → ClassId) (nL : Nat) (pc z : Nat) (L : z_Lo) (st : List Value) (S : z_St) : Prop :=
  ∀ (ls : Array Slot) (H : Heap) (locs : List Loc), z_lr ρ ls nL L → z_Wd B D ρ cA S s H locs → W p l e R s m args below meth c H locs z (6 * z) Q (F0 m pc ls (st.map (z_v ρ)))
/-- the objects are apart, and behind the base -/
def z_Ap (B : Nat) (ρ : Nat → Nat) : Prop := (∀ i j : Nat, i < z_n → j < z_n → ρ i = ρ j → i = j) ∧ ∀ i : Nat, i < z_n → B ≤ ρ i
theorem z_Ap.D {B : Nat} {ρ : Nat → Nat} (h : z_Ap B ρ) (cA : Nat → ClassId) (S : z_St) : va_D (fun q => B ≤ q) (z_wl ρ cA S) := by
  have key : ∀ (i : Nat) (q : Nat × va_E), (z_wl ρ cA S)[i]? = some q → i < z_n ∧ q.1 = ρ i := by
    intro i q hq
    have hi : i < z_n := by
      have := (List.getElem?_eq_some_iff.mp hq).1
      rwa [z_wl_len] at this
    rw [z_wl_get hi] at hq
    cases hq
    exact ⟨hi, rfl⟩
  refine ⟨fun i j x y hx hy hxy => ?_, fun k q hq => ?_⟩
  · obtain ⟨h1, h2⟩ := key i x hx
    obtain ⟨h3, h4⟩ := key j y hy
    exact h.1 i j h1 h3 (by rw [← h2, ← h4]; exact hxy)
  · obtain ⟨h1, h2⟩ := key k q hq
    rw [h2]; exact h.2 k h1
section ZJ
variable {p : Program} {l : Launch} {e : Env} {R : Room} {s : State} {m : MethodId} {args : Array Value} {below : List Frame} {meth : Method} {c : Code} {Q : State → Prop} {B : Nat} {D : va_G} {ρ : Nat → Nat} {cA : Nat → ClassId} {nL : Nat}
variable {cc : ByteArray} {pc z : Nat} {L : z_Lo} {st r : List Value} {S : z_St}
theorem zj_iconst (hx : p.tables.exec = Jvm.exec) (hb : c.code = cc) {n : Int} (hd : decode cc pc = .ok (.iconst n, 1)) (hv : Int32.ofInt n = z_cn n) (h : z_J p l e R s m args below meth c Q B D ρ cA nL (pc + 1) z L (.int (z_cn n) :: st) S) : z_J p l e R s m args below meth c Q B D ρ cA nL pc z L st S := fun ls H locs hl hw => lv_iconst hx hb hd hv (h ls H locs hl hw)
theorem zj_bipush (hx : p.tables.exec = Jvm.exec) (hb : c.code = cc) {n : Int} (hd : decode cc pc = .ok (.bipush n, 2)) (hv : (Int8.ofInt n).toInt32 = z_cn n) (h : z_J p l e R s m args below meth c Q B D ρ cA nL (pc + 2) z L (.int (z_cn n) :: st) S) : z_J p l e R s m args below meth c Q B D ρ cA nL pc z L st S := fun ls H locs hl hw => lv_bipush hx hb hd hv (h ls H locs hl hw)
theorem zj_sipush (hx : p.tables.exec = Jvm.exec) (hb : c.code = cc) {n : Int} (hd : decode cc pc = .ok (.sipush n, 3)) (hv : (Int16.ofInt n).toInt32 = z_cn n) (h : z_J p l e R s m args below meth c Q B D ρ cA nL (pc + 3) z L (.int (z_cn n) :: st) S) : z_J p l e R s m args below meth c Q B D ρ cA nL pc z L st S := fun ls H locs hl hw => lv_sipush hx hb hd hv (h ls H locs hl hw)
theorem zj_lconst (hx : p.tables.exec = Jvm.exec) (hb : c.code = cc) {n : Fin 2} (hd : decode cc pc = .ok (.lconst n, 1)) (h : z_J p l e R s m args below meth c Q B D ρ cA nL (pc + 1) z L (.long (lN n) :: st) S) : z_J p l e R s m args below meth c Q B D ρ cA nL pc z L st S := fun ls H locs hl hw => lv_lconst hx hb hd rfl (h ls H locs hl hw)
theorem zj_aload_n (hx : p.tables.exec = Jvm.exec) (hb : c.code = cc) {k : Fin 4} {a : Nat} (hd : decode cc pc = .ok (.aload_n k, 1)) (hg : z_lg L k = some (.ref a)) (h : z_J p l e R s m args below meth c Q B D ρ cA nL (pc + 1) z L (.ref a :: st) S) : z_J p l e R s m args below meth c Q B D ρ cA nL pc z L st S := fun ls H locs hl hw => lv_aload_n hx hb hd rfl (hl.2.2.2 _ _ hg) (h ls H locs hl hw)
theorem zj_aload (hx : p.tables.exec = Jvm.exec) (hb : c.code = cc) {k : Nat} {a : Nat} (hd : decode cc pc = .ok (.aload k, 2)) (hg : z_lg L k = some (.ref a)) (h : z_J p l e R s m args below meth c Q B D ρ cA nL (pc + 2) z L (.ref a :: st) S) : z_J p l e R s m args below meth c Q B D ρ cA nL pc z L st S := fun ls H locs hl hw => lv_aload hx hb hd (hl.2.2.2 _ _ hg) (h ls H locs hl hw)
theorem zj_iload_n (hx : p.tables.exec = Jvm.exec) (hb : c.code = cc) {k : Fin 4} {a : Int32} (hd : decode cc pc = .ok (.iload_n k, 1)) (hg : z_lg L k = some (.int a)) (h : z_J p l e R s m args below meth c Q B D ρ cA nL (pc + 1) z L (.int a :: st) S) : z_J p l e R s m args below meth c Q B D ρ cA nL pc z L st S := fun ls H locs hl hw => lv_iload_n hx hb hd rfl (hl.2.2.2 _ _ hg) (h ls H locs hl hw)
theorem zj_iload (hx : p.tables.exec = Jvm.exec) (hb : c.code = cc) {k : Nat} {a : Int32} (hd : decode cc pc = .ok (.iload k, 2)) (hg : z_lg L k = some (.int a)) (h : z_J p l e R s m args below meth c Q B D ρ cA nL (pc + 2) z L (.int a :: st) S) : z_J p l e R s m args below meth c Q B D ρ cA nL pc z L st S := fun ls H locs hl hw => lv_iload hx hb hd (hl.2.2.2 _ _ hg) (h ls H locs hl hw)
theorem zj_lload_n (hx : p.tables.exec = Jvm.exec) (hb : c.code = cc) {k : Fin 4} {a : Int64} (hd : decode cc pc = .ok (.lload_n k, 1)) (hg : z_lg L k = some (.long a)) (h : z_J p l e R s m args below meth c Q B D ρ cA nL (pc + 1) z L (.long a :: st) S) : z_J p l e R s m args below meth c Q B D ρ cA nL pc z L st S := fun ls H locs hl hw => lv_lload_n hx hb hd rfl (hl.2.2.2 _ _ hg) (h ls H locs hl hw)
theorem zj_lload (hx : p.tables.exec = Jvm.exec) (hb : c.code = cc) {k : Nat} {a : Int64} (hd : decode cc pc = .ok (.lload k, 2)) (hg : z_lg L k = some (.long a)) (h : z_J p l e R s m args below meth c Q B D ρ cA nL (pc + 2) z L (.long a :: st) S) : z_J p l e R s m args below meth c Q B D ρ cA nL pc z L st S := fun ls H locs hl hw => lv_lload hx hb hd (hl.2.2.2 _ _ hg) (h ls H locs hl hw)
theorem zj_istore_n (hx : p.tables.exec = Jvm.exec) (hb : c.code = cc) {k : Fin 4} {x : Int32} (hd : decode cc pc = .ok (.istore_n k, 1)) (hk : k.val < L.length) (h : z_J p l e R s m args below meth c Q B D ρ cA nL (pc + 1) z (z_s1 L k (.int x)) r S) : z_J p l e R s m args below meth c Q B D ρ cA nL pc z L (.int x :: r) S := fun ls H locs hl hw => lv_istore_n hx hb hd rfl (z_lr_has hl) (Nat.lt_of_lt_of_le hk hl.2.2.1) rfl (fun ls' h' => h ls' H locs (z_lr_s1 hl.2.2.1 h') hw)
theorem zj_istore (hx : p.tables.exec = Jvm.exec) (hb : c.code = cc) {k : Nat} {x : Int32} (hd : decode cc pc = .ok (.istore k, 2)) (hk : k < L.length) (h : z_J p l e R s m args below meth c Q B D ρ cA nL (pc + 2) z (z_s1 L k (.int x)) r S) : z_J p l e R s m args below meth c Q B D ρ cA nL pc z L (.int x :: r) S := fun ls H locs hl hw => lv_istore hx hb hd (z_lr_has hl) (Nat.lt_of_lt_of_le hk hl.2.2.1) rfl (fun ls' h' => h ls' H locs (z_lr_s1 hl.2.2.1 h') hw)
theorem zj_astore_n (hx : p.tables.exec = Jvm.exec) (hb : c.code = cc) {k : Fin 4} {x : Nat} (hd : decode cc pc = .ok (.astore_n k, 1)) (hk : k.val < L.length) (h : z_J p l e R s m args below meth c Q B D ρ cA nL (pc + 1) z (z_s1 L k (.ref x)) r S) : z_J p l e R s m args below meth c Q B D ρ cA nL pc z L (.ref x :: r) S := fun ls H locs hl hw => lv_astore_n hx hb hd rfl (z_lr_has hl) (Nat.lt_of_lt_of_le hk hl.2.2.1) rfl (fun ls' h' => h ls' H locs (z_lr_s1 hl.2.2.1 h') hw)
theorem zj_astore (hx : p.tables.exec = Jvm.exec) (hb : c.code = cc) {k : Nat} {x : Nat} (hd : decode cc pc = .ok (.astore k, 2)) (hk : k < L.length) (h : z_J p l e R s m args below meth c Q B D ρ cA nL (pc + 2) z (z_s1 L k (.ref x)) r S) : z_J p l e R s m args below meth c Q B D ρ cA nL pc z L (.ref x :: r) S := fun ls H locs hl hw => lv_astore hx hb hd (z_lr_has hl) (Nat.lt_of_lt_of_le hk hl.2.2.1) rfl (fun ls' h' => h ls' H locs (z_lr_s1 hl.2.2.1 h') hw)
theorem zj_lstore_n (hx : p.tables.exec = Jvm.exec) (hb : c.code = cc) {k : Fin 4} {x : Int64} (hd : decode cc pc = .ok (.lstore_n k, 1)) (hk : k.val + 1 < L.length) (h : z_J p l e R s m args below meth c Q B D ρ cA nL (pc + 1) z (z_s2 L k (.long x)) r S) : z_J p l e R s m args below meth c Q B D ρ cA nL pc z L (.long x :: r) S := fun ls H locs hl hw => lv_lstore_n hx hb hd rfl (z_lr_has hl) (Nat.lt_of_lt_of_le hk hl.2.2.1) rfl (fun ls' h' => h ls' H locs (z_lr_s2 hl.2.2.1 hk h') hw)
theorem zj_lstore (hx : p.tables.exec = Jvm.exec) (hb : c.code = cc) {k : Nat} {x : Int64} (hd : decode cc pc = .ok (.lstore k, 2)) (hk : k + 1 < L.length) (h : z_J p l e R s m args below meth c Q B D ρ cA nL (pc + 2) z (z_s2 L k (.long x)) r S) : z_J p l e R s m args below meth c Q B D ρ cA nL pc z L (.long x :: r) S := fun ls H locs hl hw => lv_lstore hx hb hd (z_lr_has hl) (Nat.lt_of_lt_of_le hk hl.2.2.1) rfl (fun ls' h' => h ls' H locs (z_lr_s2 hl.2.2.1 hk h') hw)
theorem zj_iinc (hx : p.tables.exec = Jvm.exec) (hb : c.code = cc) {k : Nat} {n : Int} {x : Int32} (hd : decode cc pc = .ok (.iinc k n, 3)) (hv : Int32.ofInt n = z_cn n) (hg : z_lg L k = some (.int x)) (h : z_J p l e R s m args below meth c Q B D ρ cA nL (pc + 3) z (z_s1 L k (.int (x + z_cn n))) st S) : z_J p l e R s m args below meth c Q B D ρ cA nL pc z L st S := fun ls H locs hl hw => by
  obtain ⟨i, hi⟩ := List.getElem?_of_mem (z_lv_mem (ρ := ρ) hg)
  exact lv_iinc hx hb hd (z_lr_has hl) hi (by rw [hv]) (Nat.lt_of_lt_of_le (z_lg_lt hg) hl.2.2.1) rfl (fun ls' h' => h ls' H locs (z_lr_s1 hl.2.2.1 h') hw)
theorem zj_iadd (hx : p.tables.exec = Jvm.exec) (hb : c.code = cc) {x y : Int32} (hd : decode cc pc = .ok (.iadd, 1)) (h : z_J p l e R s m args below meth c Q B D ρ cA nL (pc + 1) z L (.int (x + y) :: r) S) : z_J p l e R s m args below meth c Q B D ρ cA nL pc z L (.int y :: .int x :: r) S := fun ls H locs hl hw => lv_iadd hx hb hd (h ls H locs hl hw)
theorem zj_isub (hx : p.tables.exec = Jvm.exec) (hb : c.code = cc) {x y : Int32} (hd : decode cc pc = .ok (.isub, 1)) (h : z_J p l e R s m args below meth c Q B D ρ cA nL (pc + 1) z L (.int (x - y) :: r) S) : z_J p l e R s m args below meth c Q B D ρ cA nL pc z L (.int y :: .int x :: r) S := fun ls H locs hl hw => lv_isub hx hb hd (h ls H locs hl hw)
theorem zj_imul (hx : p.tables.exec = Jvm.exec) (hb : c.code = cc) {x y : Int32} (hd : decode cc pc = .ok (.imul, 1)) (h : z_J p l e R s m args below meth c Q B D ρ cA nL (pc + 1) z L (.int (x * y) :: r) S) : z_J p l e R s m args below meth c Q B D ρ cA nL pc z L (.int y :: .int x :: r) S := fun ls H locs hl hw => lv_imul hx hb hd (h ls H locs hl hw)
theorem zj_iand (hx : p.tables.exec = Jvm.exec) (hb : c.code = cc) {x y : Int32} (hd : decode cc pc = .ok (.iand, 1)) (h : z_J p l e R s m args below meth c Q B D ρ cA nL (pc + 1) z L (.int (x &&& y) :: r) S) : z_J p l e R s m args below meth c Q B D ρ cA nL pc z L (.int y :: .int x :: r) S := fun ls H locs hl hw => lv_iand hx hb hd (h ls H locs hl hw)
theorem zj_ior (hx : p.tables.exec = Jvm.exec) (hb : c.code = cc) {x y : Int32} (hd : decode cc pc = .ok (.ior, 1)) (h : z_J p l e R s m args below meth c Q B D ρ cA nL (pc + 1) z L (.int (x ||| y) :: r) S) : z_J p l e R s m args below meth c Q B D ρ cA nL pc z L (.int y :: .int x :: r) S := fun ls H locs hl hw => lv_ior hx hb hd (h ls H locs hl hw)
theorem zj_ixor (hx : p.tables.exec = Jvm.exec) (hb : c.code = cc) {x y : Int32} (hd : decode cc pc = .ok (.ixor, 1)) (h : z_J p l e R s m args below meth c Q B D ρ cA nL (pc + 1) z L (.int (x ^^^ y) :: r) S) : z_J p l e R s m args below meth c Q B D ρ cA nL pc z L (.int y :: .int x :: r) S := fun ls H locs hl hw => lv_ixor hx hb hd (h ls H locs hl hw)
theorem zj_ishl (hx : p.tables.exec = Jvm.exec) (hb : c.code = cc) {x y : Int32} (hd : decode cc pc = .ok (.ishl, 1)) (h : z_J p l e R s m args below meth c Q B D ρ cA nL (pc + 1) z L (.int (x <<< (y &&& 31)) :: r) S) : z_J p l e R s m args below meth c Q B D ρ cA nL pc z L (.int y :: .int x :: r) S := fun ls H locs hl hw => lv_ishl hx hb hd (h ls H locs hl hw)
theorem zj_ishr (hx : p.tables.exec = Jvm.exec) (hb : c.code = cc) {x y : Int32} (hd : decode cc pc = .ok (.ishr, 1)) (h : z_J p l e R s m args below meth c Q B D ρ cA nL (pc + 1) z L (.int (x >>> (y &&& 31)) :: r) S) : z_J p l e R s m args below meth c Q B D ρ cA nL pc z L (.int y :: .int x :: r) S := fun ls H locs hl hw => lv_ishr hx hb hd (h ls H locs hl hw)
theorem zj_iushr (hx : p.tables.exec = Jvm.exec) (hb : c.code = cc) {x y : Int32} (hd : decode cc pc = .ok (.iushr, 1)) (h : z_J p l e R s m args below meth c Q B D ρ cA nL (pc + 1) z L (.int (x.toUInt32 >>> (y.toUInt32 &&& Int32.toUInt32 31)).toInt32 :: r) S) : z_J p l e R s m args below meth c Q B D ρ cA nL pc z L (.int y :: .int x :: r) S := fun ls H locs hl hw => lv_iushr hx hb hd rfl (h ls H locs hl hw)
theorem zj_idiv (hx : p.tables.exec = Jvm.exec) (hb : c.code = cc) {x y : Int32} (hd : decode cc pc = .ok (.idiv, 1)) (hy : ¬ y = 0) (h : z_J p l e R s m args below meth c Q B D ρ cA nL (pc + 1) z L (.int (x / y) :: r) S) : z_J p l e R s m args below meth c Q B D ρ cA nL pc z L (.int y :: .int x :: r) S := fun ls H locs hl hw => lv_idiv hx hb hd hy (h ls H locs hl hw)
theorem zj_irem (hx : p.tables.exec = Jvm.exec) (hb : c.code = cc) {x y : Int32} (hd : decode cc pc = .ok (.irem, 1)) (hy : ¬ y = 0) (h : z_J p l e R s m args below meth c Q B D ρ cA nL (pc + 1) z L (.int (x - x / y * y) :: r) S) : z_J p l e R s m args below meth c Q B D ρ cA nL pc z L (.int y :: .int x :: r) S := fun ls H locs hl hw => lv_irem hx hb hd hy (h ls H locs hl hw)
theorem zj_ineg (hx : p.tables.exec = Jvm.exec) (hb : c.code = cc) {x : Int32} (hd : decode cc pc = .ok (.ineg, 1)) (h : z_J p l e R s m args below meth c Q B D ρ cA nL (pc + 1) z L (.int (-x) :: r) S) : z_J p l e R s m args below meth c Q B D ρ cA nL pc z L (.int x :: r) S := fun ls H locs hl hw => lv_ineg hx hb hd (h ls H locs hl hw)
theorem zj_ladd (hx : p.tables.exec = Jvm.exec) (hb : c.code = cc) {x y : Int64} (hd : decode cc pc = .ok (.ladd, 1)) (h : z_J p l e R s m args below meth c Q B D ρ cA nL (pc + 1) z L (.long (x + y) :: r) S) : z_J p l e R s m args below meth c Q B D ρ cA nL pc z L (.long y :: .long x :: r) S := fun ls H locs hl hw => lv_ladd hx hb hd (h ls H locs hl hw)
theorem zj_lsub (hx : p.tables.exec = Jvm.exec) (hb : c.code = cc) {x y : Int64} (hd : decode cc pc = .ok (.lsub, 1)) (h : z_J p l e R s m args below meth c Q B D ρ cA nL (pc + 1) z L (.long (x - y) :: r) S) : z_J p l e R s m args below meth c Q B D ρ cA nL pc z L (.long y :: .long x :: r) S := fun ls H locs hl hw => lv_lsub hx hb hd (h ls H locs hl hw)
theorem zj_land (hx : p.tables.exec = Jvm.exec) (hb : c.code = cc) {x y : Int64} (hd : decode cc pc = .ok (.land, 1)) (h : z_J p l e R s m args below meth c Q B D ρ cA nL (pc + 1) z L (.long (x &&& y) :: r) S) : z_J p l e R s m args below meth c Q B D ρ cA nL pc z L (.long y :: .long x :: r) S := fun ls H locs hl hw => lv_land hx hb hd (h ls H locs hl hw)
theorem zj_lor (hx : p.tables.exec = Jvm.exec) (hb : c.code = cc) {x y : Int64} (hd : decode cc pc = .ok (.lor, 1)) (h : z_J p l e R s m args below meth c Q B D ρ cA nL (pc + 1) z L (.long (x ||| y) :: r) S) : z_J p l e R s m args below meth c Q B D ρ cA nL pc z L (.long y :: .long x :: r) S := fun ls H locs hl hw => lv_lor hx hb hd (h ls H locs hl hw)
theorem zj_lshl (hx : p.tables.exec = Jvm.exec) (hb : c.code = cc) {x : Int64} {y : Int32} (hd : decode cc pc = .ok (.lshl, 1)) (h : z_J p l e R s m args below meth c Q B D ρ cA nL (pc + 1) z L (.long (x <<< (y.toInt64 &&& 63)) :: r) S) : z_J p l e R s m args below meth c Q B D ρ cA nL pc z L (.int y :: .long x :: r) S := fun ls H locs hl hw => lv_lshl hx hb hd rfl (h ls H locs hl hw)
theorem zj_lushr (hx : p.tables.exec = Jvm.exec) (hb : c.code = cc) {x : Int64} {y : Int32} (hd : decode cc pc = .ok (.lushr, 1)) (h : z_J p l e R s m args below meth c Q B D ρ cA nL (pc + 1) z L (.long (x.toUInt64 >>> (y.toInt64.toUInt64 &&& Int64.toUInt64 63)).toInt64 :: r) S) : z_J p l e R s m args below meth c Q B D ρ cA nL pc z L (.int y :: .long x :: r) S := fun ls H locs hl hw => lv_lushr hx hb hd rfl (h ls H locs hl hw)
theorem zj_lcmp (hx : p.tables.exec = Jvm.exec) (hb : c.code = cc) {x y : Int64} (hd : decode cc pc = .ok (.lcmp, 1)) (h : z_J p l e R s m args below meth c Q B D ρ cA nL (pc + 1) z L (.int (lg_cmp x y) :: r) S) : z_J p l e R s m args below meth c Q B D ρ cA nL pc z L (.long y :: .long x :: r) S := fun ls H locs hl hw => W.lcmp hx hb hd (h ls H locs hl hw)
theorem zj_i2l (hx : p.tables.exec = Jvm.exec) (hb : c.code = cc) {x : Int32} (hd : decode cc pc = .ok (.i2l, 1)) (h : z_J p l e R s m args below meth c Q B D ρ cA nL (pc + 1) z L (.long x.toInt64 :: r) S) : z_J p l e R s m args below meth c Q B D ρ cA nL pc z L (.int x :: r) S := fun ls H locs hl hw => lv_i2l hx hb hd rfl (h ls H locs hl hw)
theorem zj_l2i (hx : p.tables.exec = Jvm.exec) (hb : c.code = cc) {x : Int64} (hd : decode cc pc = .ok (.l2i, 1)) (h : z_J p l e R s m args below meth c Q B D ρ cA nL (pc + 1) z L (.int x.toInt32 :: r) S) : z_J p l e R s m args below meth c Q B D ρ cA nL pc z L (.long x :: r) S := fun ls H locs hl hw => lv_l2i hx hb hd rfl (h ls H locs hl hw)
theorem zj_i2b (hx : p.tables.exec = Jvm.exec) (hb : c.code = cc) {x : Int32} (hd : decode cc pc = .ok (.i2b, 1)) (h : z_J p l e R s m args below meth c Q B D ρ cA nL (pc + 1) z L (.int x.toInt8.toInt32 :: r) S) : z_J p l e R s m args below meth c Q B D ρ cA nL pc z L (.int x :: r) S := fun ls H locs hl hw => lv_i2b hx hb hd rfl (h ls H locs hl hw)
theorem zj_dup (hx : p.tables.exec = Jvm.exec) (hb : c.code = cc) {v : Value} (hd : decode cc pc = .ok (.dup, 1)) (hc : v.category = 1) (h : z_J p l e R s m args below meth c Q B D ρ cA nL (pc + 1) z L (v :: v :: r) S) : z_J p l e R s m args below meth c Q B D ρ cA nL pc z L (v :: r) S := fun ls H locs hl hw => lv_dup hx hb hd (by rw [z_vcat]; exact hc) (h ls H locs hl hw)
theorem zj_dup2 (hx : p.tables.exec = Jvm.exec) (hb : c.code = cc) {v w : Value} (hd : decode cc pc = .ok (.dup2, 1)) (hc : v.category = 1) (hw' : w.category = 1) (h : z_J p l e R s m args below meth c Q B D ρ cA nL (pc + 1) z L (v :: w :: v :: w :: r) S) : z_J p l e R s m args below meth c Q B D ρ cA nL pc z L (v :: w :: r) S := fun ls H locs hl hw => lv_dup2_11 hx hb hd (by rw [z_vcat]; exact hc) (by rw [z_vcat]; exact hw') (h ls H locs hl hw)
theorem zj_if_eq (hx : p.tables.exec = Jvm.exec) (hb : c.code = cc) {x : Int32} {o : Int} {t : Nat} (hd : decode cc pc = .ok (.ifCond .eq o, 3)) (ht : (pc : Int) + o = (t : Int)) (h1 : x = 0 → z_J p l e R s m args below meth c Q B D ρ cA nL t z L r S) (h2 : ¬ x = 0 → z_J p l e R s m args below meth c Q B D ρ cA nL (pc + 3) z L r S) : z_J p l e R s m args below meth c Q B D ρ cA nL pc z L (.int x :: r) S := fun ls H locs hl hw => lv_if_eq hx hb hd ht (fun q => h1 q ls H locs hl hw) (fun q => h2 q ls H locs hl hw)
theorem zj_if_ne (hx : p.tables.exec = Jvm.exec) (hb : c.code = cc) {x : Int32} {o : Int} {t : Nat} (hd : decode cc pc = .ok (.ifCond .ne o, 3)) (ht : (pc : Int) + o = (t : Int)) (h1 : ¬ x = 0 → z_J p l e R s m args below meth c Q B D ρ cA nL t z L r S) (h2 : x = 0 → z_J p l e R s m args below meth c Q B D ρ cA nL (pc + 3) z L r S) : z_J p l e R s m args below meth c Q B D ρ cA nL pc z L (.int x :: r) S := fun ls H locs hl hw => lv_if_ne hx hb hd ht (fun q => h1 q ls H locs hl hw) (fun q => h2 q ls H locs hl hw)
theorem zj_if_lt (hx : p.tables.exec = Jvm.exec) (hb : c.code = cc) {x : Int32} {o : Int} {t : Nat} (hd : decode cc pc = .ok (.ifCond .lt o, 3)) (ht : (pc : Int) + o = (t : Int)) (h1 : x < 0 → z_J p l e R s m args below meth c Q B D ρ cA nL t z L r S) (h2 : ¬ x < 0 → z_J p l e R s m args below meth c Q B D ρ cA nL (pc + 3) z L r S) : z_J p l e R s m args below meth c Q B D ρ cA nL pc z L (.int x :: r) S := fun ls H locs hl hw => lv_if_lt hx hb hd ht (fun q => h1 q ls H locs hl hw) (fun q => h2 q ls H locs hl hw)
theorem zj_if_ge (hx : p.tables.exec = Jvm.exec) (hb : c.code = cc) {x : Int32} {o : Int} {t : Nat} (hd : decode cc pc = .ok (.ifCond .ge o, 3)) (ht : (pc : Int) + o = (t : Int)) (h1 : 0 ≤ x → z_J p l e R s m args below meth c Q B D ρ cA nL t z L r S) (h2 : ¬ 0 ≤ x → z_J p l e R s m args below meth c Q B D ρ cA nL (pc + 3) z L r S) : z_J p l e R s m args below meth c Q B D ρ cA nL pc z L (.int x :: r) S := fun ls H locs hl hw => lv_if_ge hx hb hd ht (fun q => h1 q ls H locs hl hw) (fun q => h2 q ls H locs hl hw)
theorem zj_if_gt (hx : p.tables.exec = Jvm.exec) (hb : c.code = cc) {x : Int32} {o : Int} {t : Nat} (hd : decode cc pc = .ok (.ifCond .gt o, 3)) (ht : (pc : Int) + o = (t : Int)) (h1 : 0 < x → z_J p l e R s m args below meth c Q B D ρ cA nL t z L r S) (h2 : ¬ 0 < x → z_J p l e R s m args below meth c Q B D ρ cA nL (pc + 3) z L r S) : z_J p l e R s m args below meth c Q B D ρ cA nL pc z L (.int x :: r) S := fun ls H locs hl hw => lv_if_gt hx hb hd ht (fun q => h1 q ls H locs hl hw) (fun q => h2 q ls H locs hl hw)
theorem zj_if_le (hx : p.tables.exec = Jvm.exec) (hb : c.code = cc) {x : Int32} {o : Int} {t : Nat} (hd : decode cc pc = .ok (.ifCond .le o, 3)) (ht : (pc : Int) + o = (t : Int)) (h1 : x ≤ 0 → z_J p l e R s m args below meth c Q B D ρ cA nL t z L r S) (h2 : ¬ x ≤ 0 → z_J p l e R s m args below meth c Q B D ρ cA nL (pc + 3) z L r S) : z_J p l e R s m args below meth c Q B D ρ cA nL pc z L (.int x :: r) S := fun ls H locs hl hw => lv_if_le hx hb hd ht (fun q => h1 q ls H locs hl hw) (fun q => h2 q ls H locs hl hw)
theorem zj_ic_eq (hx : p.tables.exec = Jvm.exec) (hb : c.code = cc) {x y : Int32} {o : Int} {t : Nat} (hd : decode cc pc = .ok (.if_icmp .eq o, 3)) (ht : (pc : Int) + o = (t : Int)) (h1 : x = y → z_J p l e R s m args below meth c Q B D ρ cA nL t z L r S) (h2 : ¬ x = y → z_J p l e R s m args below meth c Q B D ρ cA nL (pc + 3) z L r S) : z_J p l e R s m args below meth c Q B D ρ cA nL pc z L (.int y :: .int x :: r) S := fun ls H locs hl hw => lv_icmp_eq hx hb hd ht (fun q => h1 q ls H locs hl hw) (fun q => h2 q ls H locs hl hw)
theorem zj_ic_ne (hx : p.tables.exec = Jvm.exec) (hb : c.code = cc) {x y : Int32} {o : Int} {t : Nat} (hd : decode cc pc = .ok (.if_icmp .ne o, 3)) (ht : (pc : Int) + o = (t : Int)) (h1 : ¬ x = y → z_J p l e R s m args below meth c Q B D ρ cA nL t z L r S) (h2 : x = y → z_J p l e R s m args below meth c Q B D ρ cA nL (pc + 3) z L r S) : z_J p l e R s m args below meth c Q B D ρ cA nL pc z L (.int y :: .int x :: r) S := fun ls H locs hl hw => lv_icmp_ne hx hb hd ht (fun q => h1 q ls H locs hl hw) (fun q => h2 q ls H locs hl hw)
theorem zj_ic_lt (hx : p.tables.exec = Jvm.exec) (hb : c.code = cc) {x y : Int32} {o : Int} {t : Nat} (hd : decode cc pc = .ok (.if_icmp .lt o, 3)) (ht : (pc : Int) + o = (t : Int)) (h1 : x < y → z_J p l e R s m args below meth c Q B D ρ cA nL t z L r S) (h2 : ¬ x < y → z_J p l e R s m args below meth c Q B D ρ cA nL (pc + 3) z L r S) : z_J p l e R s m args below meth c Q B D ρ cA nL pc z L (.int y :: .int x :: r) S := fun ls H locs hl hw => lv_icmp_lt hx hb hd ht (fun q => h1 q ls H locs hl hw) (fun q => h2 q ls H locs hl hw)
theorem zj_ic_ge (hx : p.tables.exec = Jvm.exec) (hb : c.code = cc) {x y : Int32} {o : Int} {t : Nat} (hd : decode cc pc = .ok (.if_icmp .ge o, 3)) (ht : (pc : Int) + o = (t : Int)) (h1 : y ≤ x → z_J p l e R s m args below meth c Q B D ρ cA nL t z L r S) (h2 : ¬ y ≤ x → z_J p l e R s m args below meth c Q B D ρ cA nL (pc + 3) z L r S) : z_J p l e R s m args below meth c Q B D ρ cA nL pc z L (.int y :: .int x :: r) S := fun ls H locs hl hw => lv_icmp_ge hx hb hd ht (fun q => h1 q ls H locs hl hw) (fun q => h2 q ls H locs hl hw)
theorem zj_ic_gt (hx : p.tables.exec = Jvm.exec) (hb : c.code = cc) {x y : Int32} {o : Int} {t : Nat} (hd : decode cc pc = .ok (.if_icmp .gt o, 3)) (ht : (pc : Int) + o = (t : Int)) (h1 : y < x → z_J p l e R s m args below meth c Q B D ρ cA nL t z L r S) (h2 : ¬ y < x → z_J p l e R s m args below meth c Q B D ρ cA nL (pc + 3) z L r S) : z_J p l e R s m args below meth c Q B D ρ cA nL pc z L (.int y :: .int x :: r) S := fun ls H locs hl hw => lv_icmp_gt hx hb hd ht (fun q => h1 q ls H locs hl hw) (fun q => h2 q ls H locs hl hw)
theorem zj_ic_le (hx : p.tables.exec = Jvm.exec) (hb : c.code = cc) {x y : Int32} {o : Int} {t : Nat} (hd : decode cc pc = .ok (.if_icmp .le o, 3)) (ht : (pc : Int) + o = (t : Int)) (h1 : x ≤ y → z_J p l e R s m args below meth c Q B D ρ cA nL t z L r S) (h2 : ¬ x ≤ y → z_J p l e R s m args below meth c Q B D ρ cA nL (pc + 3) z L r S) : z_J p l e R s m args below meth c Q B D ρ cA nL pc z L (.int y :: .int x :: r) S := fun ls H locs hl hw => lv_icmp_le hx hb hd ht (fun q => h1 q ls H locs hl hw) (fun q => h2 q ls H locs hl hw)
theorem zj_goto (hx : p.tables.exec = Jvm.exec) (hb : c.code = cc) {o : Int} {t : Nat} (hd : decode cc pc = .ok (.goto o, 3)) (ht : (pc : Int) + o = (t : Int)) (h : z_J p l e R s m args below meth c Q B D ρ cA nL t z L st S) : z_J p l e R s m args below meth c Q B D ρ cA nL pc z L st S := fun ls H locs hl hw => lv_goto hx hb hd ht (h ls H locs hl hw)
theorem zj_lookup (hx : p.tables.exec = Jvm.exec) (hb : c.code = cc) {d o : Int} {ps : Array (Int × Int)} {len t : Nat} {x : Int32} (hd : decode cc pc = .ok (.lookupswitch d ps, len)) (hp : (ps.toList.zip (ps.toList.drop 1)).all (fun (a, next) => a.1 < next.1) = true) (ho : Op.lookupswitch.offset ps.toList d x.toInt = o) (ht : (pc : Int) + o = (t : Int)) (h : z_J p l e R s m args below meth c Q B D ρ cA nL t z L r S) : z_J p l e R s m args below meth c Q B D ρ cA nL pc z L (.int x :: r) S := fun ls H locs hl hw => lv_lookup hx hb hd hp ho ht (h ls H locs hl hw)
theorem zj_tableOut (hx : p.tables.exec = Jvm.exec) (hb : c.code = cc) {d lo hi : Int} {offs : Array Int} {len t : Nat} {x : Int32} (hd : decode cc pc = .ok (.tableswitch d lo hi offs, len)) (h0 : x.toInt < lo ∨ hi < x.toInt) (ht : (pc : Int) + d = (t : Int)) (h : z_J p l e R s m args below meth c Q B D ρ cA nL t z L r S) : z_J p l e R s m args below meth c Q B D ρ cA nL pc z L (.int x :: r) S := fun ls H locs hl hw => lv_tableOut hx hb hd h0 ht (h ls H locs hl hw)
theorem zj_tableIn (hx : p.tables.exec = Jvm.exec) (hb : c.code = cc) {d lo hi o : Int} {offs : Array Int} {len t : Nat} {x : Int32} (hd : decode cc pc = .ok (.tableswitch d lo hi offs, len)) (h1 : ¬ x.toInt < lo) (h2 : ¬ hi < x.toInt) (ho : offs[(x.toInt - lo).toNat]? = some o) (ht : (pc : Int) + o = (t : Int)) (h : z_J p l e R s m args below meth c Q B D ρ cA nL t z L r S) : z_J p l e R s m args below meth c Q B D ρ cA nL pc z L (.int x :: r) S := fun ls H locs hl hw => lv_tableIn hx hb hd h1 h2 ho ht (h ls H locs hl hw)
theorem zj_ldc (hx : p.tables.exec = Jvm.exec) (hb : c.code = cc) {own : String} {i : Nat} {v : Int32} (hown : s.vm.findClass own = some m.cls) (hk : (Jvm.Cond.constant own i v).before args s = true) (hd : decode cc pc = .ok (.ldc i, 2)) (h : z_J p l e R s m args below meth c Q B D ρ cA nL (pc + 2) z L (.int v :: st) S) : z_J p l e R s m args below meth c Q B D ρ cA nL pc z L st S := fun ls H locs hl hw => lv_ldc hx hb hown hk hd (h ls H locs hl hw)
theorem zj_ldc2 (hx : p.tables.exec = Jvm.exec) (hb : c.code = cc) {own : String} {i : Nat} {v : Int64} (hown : s.vm.findClass own = some m.cls) (hk : (Jvm.Cond.constantLong own i v).before args s = true) (hd : decode cc pc = .ok (.ldc2_w i, 3)) (h : z_J p l e R s m args below meth c Q B D ρ cA nL (pc + 3) z L (.long v :: st) S) : z_J p l e R s m args below meth c Q B D ρ cA nL pc z L st S := fun ls H locs hl hw => lv_ldc2 hx hb hown hk hd (h ls H locs hl hw)
/-- a field is read: the value that the world has -/
theorem zj_get (hx : p.tables.exec = Jvm.exec) (hb : c.code = cc) {own C : String} {T : u_T} {ci k i a : Nat} {Ts : List Cond} {v : Value} (hts : ∀ w ∈ Ts, w.before args s = true) (hcl : z_cls[ci]? = some (C, T, z_nf ci)) (hin : ∀ w ∈ u_ws C T (z_nf ci), w ∈ Ts) (hown : s.vm.findClass own = some m.cls) (hK : va_K D z_cls (z_tys cA) s) (hci : ci < 10) (hO : z_isO ci a = true) (hk : k < z_nf ci)
    (hd : decode cc pc = .ok (.getfield i, 3)) (hlink : (Cond.fieldLink own i (T k).1 (T k).2.1 (T k).2.2.1).before args s = true ∨ ∃ host, (Cond.fieldLinkNest own i (T k).1 (T k).2.1 (T k).2.2.1 host).before args s = true) (hv : z_fv ρ S.1 a ci k = z_v ρ v) (h : z_J p l e R s m args below meth c Q B D ρ cA nL (pc + 3) z L (v :: r) S) : z_J p l e R s m args below meth c Q B D ρ cA nL pc z L (.ref a :: r) S := fun ls H locs hl hw => by
  obtain ⟨ha, h0, hoc⟩ := z_isO_ok hci hO
  have he : (z_wl ρ cA S)[a]? = some (ρ a, .inr (ci, z_fs ρ S.1 a)) := by rw [z_wl_get ha, z_ce_o h0, hoc]
  have hf : (z_fs ρ S.1 a)[k]? = some (z_v ρ v) := by rw [z_fs_get (by rw [hoc]; exact hk), hoc, hv]
  rcases hlink with hlink | ⟨host, hlink⟩
  · exact va_get hx hb hts hin hown hK hw.1 a he hcl k hk hlink (fun _ h9 => h9) hf hd (h ls H locs hl hw)
  · exact va_getN hx hb hts hin hown hK hw.1 a he hcl k hk hlink (fun _ h9 => h9) hf hd (h ls H locs hl hw)
/-- a field is written -/
theorem zj_put (hx : p.tables.exec = Jvm.exec) (hb : c.code = cc) {own C : String} {T : u_T} {ci k i a : Nat} {Ts : List Cond} {v : Value} {x : Int32} {ty : Nat → FieldType} (hts : ∀ w ∈ Ts, w.before args s = true) (hcl : z_cls[ci]? = some (C, T, z_nf ci)) (hin : ∀ w ∈ u_ws C T (z_nf ci), w ∈ Ts) (hty : ∀ k, k < z_nf ci → parseFieldDescriptor (T k).2.2.1 = some (ty k)) (hnm : ∀ a, a < z_nf ci → ∀ b, b < z_nf ci → a ≠ b → (T a).2.1 ≠ (T b).2.1)
    (hown : s.vm.findClass own = some m.cls) (hK : va_K D z_cls (z_tys cA) s) (hAp : z_Ap B ρ) (hci : ci < 10) (hO : z_isO ci a = true) (hk : k < z_nf ci)
    (hd : decode cc pc = .ok (.putfield i, 3)) (hlink : (Cond.fieldLink own i (T k).1 (T k).2.1 (T k).2.2.1).before args s = true ∨ ∃ host, (Cond.fieldLinkNest own i (T k).1 (T k).2.1 (T k).2.2.1 host).before args s = true) (hfin : (T k).2.2.2 = false)
    (hv : z_fv ρ (z_w1 S.1 a k x) a ci k = z_v ρ v) (hn : narrow (ty k) (z_v ρ v) = z_v ρ v) (hfit : fits (ty k) (z_v ρ v) = true) (h : z_J p l e R s m args below meth c Q B D ρ cA nL (pc + 3) z L r (z_w1 S.1 a k x, S.2)) : z_J p l e R s m args below meth c Q B D ρ cA nL pc z L (v :: .ref a :: r) S := fun ls H locs hl hw => by
  obtain ⟨ha, h0, hoc⟩ := z_isO_ok hci hO
  have he : (z_wl ρ cA S)[a]? = some (ρ a, .inr (ci, z_fs ρ S.1 a)) := by rw [z_wl_get ha, z_ce_o h0, hoc]
  have hl9 : k < (z_fs ρ S.1 a).length := by rw [z_fs_len, hoc]; exact hk
  have hset : (z_wl ρ cA S).set a (ρ a, .inr (ci, (z_fs ρ S.1 a).set k (z_v ρ v))) = z_wl ρ cA (z_w1 S.1 a k x, S.2) := by
    rw [← hoc]; exact z_setf ha h0 (by rw [hoc]; exact hk) (by rw [hoc]; exact hv)
  rcases hlink with hlink | ⟨host, hlink⟩
  · refine va_put hx hb hts hin ty hty hnm hown hK hw.1 (hAp.D cA S) hw.2 a he hcl k hk hlink (fun _ h9 => h9) hfin (hty k hk) hn hfit hl9 hd (fun H1 locs1 hP hD hS => ?_)
    rw [hset] at hP
    exact h ls H1 locs1 hl ⟨hP, hS⟩
  · refine va_putN hx hb hts hin ty hty hnm hown hK hw.1 (hAp.D cA S) hw.2 a he hcl k hk hlink (fun _ h9 => h9) hfin (hty k hk) hn hfit hl9 hd (fun H1 locs1 hP hD hS => ?_)
    rw [hset] at hP
    exact h ls H1 locs1 hl ⟨hP, hS⟩
theorem z_ixin {x : Int32} {n : Nat} (h : z_ix x n = true) : vp_in x n := by
  simp only [z_ix, Bool.and_eq_true, Bool.not_eq_true', decide_eq_false_iff_not, decide_eq_true_eq] at h
  intro q
  rcases q with q | q
  · exact h.1 q
  · omega
theorem zj_ia1 (hx : p.tables.exec = Jvm.exec) (hb : c.code = cc) (hK : va_K D z_cls (z_tys cA) s) {x : Int32} {a : Nat} (hd : decode cc pc = .ok (.iaload, 1)) (ht : z_at a = 1) (hi : z_ix x (z_ln a) = true) (h : z_J p l e R s m args below meth c Q B D ρ cA nL (pc + 1) z L (.int (S.1 a x.toNatClampNeg) :: r) S) : z_J p l e R s m args below meth c Q B D ρ cA nL pc z L (.int x :: .ref a :: r) S := fun ls H locs hl hw =>
  va_iald hx hb hK hw.1 a 0 (by rw [z_wl_get (z_at_lt (by rw [ht]; decide)), z_ce_n ht (Or.inl rfl)]) rfl (z_ixin hi) hd (h ls H locs hl hw)
theorem zj_ba2 (hx : p.tables.exec = Jvm.exec) (hb : c.code = cc) (hK : va_K D z_cls (z_tys cA) s) {x : Int32} {a : Nat} (hd : decode cc pc = .ok (.baload, 1)) (ht : z_at a = 2) (hi : z_ix x (z_ln a) = true) (h : z_J p l e R s m args below meth c Q B D ρ cA nL (pc + 1) z L (.int (S.1 a x.toNatClampNeg) :: r) S) : z_J p l e R s m args below meth c Q B D ρ cA nL pc z L (.int x :: .ref a :: r) S := fun ls H locs hl hw =>
  va_bald hx hb hK hw.1 a 1 (by rw [z_wl_get (z_at_lt (by rw [ht]; decide)), z_ce_n ht (Or.inr (Or.inl rfl))]) rfl (z_ixin hi) hd (h ls H locs hl hw)
theorem zj_ba3 (hx : p.tables.exec = Jvm.exec) (hb : c.code = cc) (hK : va_K D z_cls (z_tys cA) s) {x : Int32} {a : Nat} (hd : decode cc pc = .ok (.baload, 1)) (ht : z_at a = 3) (hi : z_ix x (z_ln a) = true) (h : z_J p l e R s m args below meth c Q B D ρ cA nL (pc + 1) z L (.int (S.1 a x.toNatClampNeg) :: r) S) : z_J p l e R s m args below meth c Q B D ρ cA nL pc z L (.int x :: .ref a :: r) S := fun ls H locs hl hw =>
  va_zald hx hb hK hw.1 a 2 (by rw [z_wl_get (z_at_lt (by rw [ht]; decide)), z_ce_n ht (Or.inr (Or.inr rfl))]) rfl (z_ixin hi) hd (h ls H locs hl hw)
theorem zj_la (hx : p.tables.exec = Jvm.exec) (hb : c.code = cc) (hK : va_K D z_cls (z_tys cA) s) {x : Int32} {a : Nat} (hd : decode cc pc = .ok (.laload, 1)) (ht : z_at a = 4) (hi : z_ix x (z_ln a) = true) (h : z_J p l e R s m args below meth c Q B D ρ cA nL (pc + 1) z L (.long (S.2 a x.toNatClampNeg) :: r) S) : z_J p l e R s m args below meth c Q B D ρ cA nL pc z L (.int x :: .ref a :: r) S := fun ls H locs hl hw =>
  va_lald hx hb hK hw.1 a 3 (by rw [z_wl_get (z_at_lt (by rw [ht]; decide)), z_ce_l ht]) rfl (z_ixin hi) hd (h ls H locs hl hw)
theorem zj_ias (hx : p.tables.exec = Jvm.exec) (hb : c.code = cc) (hK : va_K D z_cls (z_tys cA) s) (hAp : z_Ap B ρ) {x v : Int32} {a : Nat} (hd : decode cc pc = .ok (.iastore, 1)) (ht : z_at a = 1) (hi : z_ix x (z_ln a) = true) (h : z_J p l e R s m args below meth c Q B D ρ cA nL (pc + 1) z L r (z_w1 S.1 a x.toNatClampNeg v, S.2)) : z_J p l e R s m args below meth c Q B D ρ cA nL pc z L (.int v :: .int x :: .ref a :: r) S := fun ls H locs hl hw => by
  refine va_iast hx hb hK hw.1 (hAp.D cA S) hw.2 a 0 (by rw [z_wl_get (z_at_lt (by rw [ht]; decide)), z_ce_n ht (Or.inl rfl)]) rfl (z_ixin hi) hd (fun H1 locs1 hP hD hS => ?_)
  rw [z_set1 (z_at_lt (by rw [ht]; decide)) ht (Or.inl rfl)] at hP
  exact h ls H1 locs1 hl ⟨hP, hS⟩
theorem zj_bas2 (hx : p.tables.exec = Jvm.exec) (hb : c.code = cc) (hK : va_K D z_cls (z_tys cA) s) (hAp : z_Ap B ρ) {x v : Int32} {a : Nat} (hd : decode cc pc = .ok (.bastore, 1)) (ht : z_at a = 2) (hi : z_ix x (z_ln a) = true) (h : z_J p l e R s m args below meth c Q B D ρ cA nL (pc + 1) z L r (z_w1 S.1 a x.toNatClampNeg (vp_nar .byte v), S.2)) : z_J p l e R s m args below meth c Q B D ρ cA nL pc z L (.int v :: .int x :: .ref a :: r) S := fun ls H locs hl hw => by
  refine va_bast hx hb hK hw.1 (hAp.D cA S) hw.2 a 1 (by rw [z_wl_get (z_at_lt (by rw [ht]; decide)), z_ce_n ht (Or.inr (Or.inl rfl))]) rfl (z_ixin hi) hd (fun H1 locs1 hP hD hS => ?_)
  rw [z_set1 (z_at_lt (by rw [ht]; decide)) ht (Or.inr (Or.inl rfl))] at hP
  exact h ls H1 locs1 hl ⟨hP, hS⟩
theorem zj_bas3 (hx : p.tables.exec = Jvm.exec) (hb : c.code = cc) (hK : va_K D z_cls (z_tys cA) s) (hAp : z_Ap B ρ) {x v : Int32} {a : Nat} (hd : decode cc pc = .ok (.bastore, 1)) (ht : z_at a = 3) (hi : z_ix x (z_ln a) = true) (h : z_J p l e R s m args below meth c Q B D ρ cA nL (pc + 1) z L r (z_w1 S.1 a x.toNatClampNeg (vp_nar .boolean v), S.2)) : z_J p l e R s m args below meth c Q B D ρ cA nL pc z L (.int v :: .int x :: .ref a :: r) S := fun ls H locs hl hw => by
  refine va_zast hx hb hK hw.1 (hAp.D cA S) hw.2 a 2 (by rw [z_wl_get (z_at_lt (by rw [ht]; decide)), z_ce_n ht (Or.inr (Or.inr rfl))]) rfl (z_ixin hi) hd (fun H1 locs1 hP hD hS => ?_)
  rw [z_set1 (z_at_lt (by rw [ht]; decide)) ht (Or.inr (Or.inr rfl))] at hP
  exact h ls H1 locs1 hl ⟨hP, hS⟩
theorem zj_las (hx : p.tables.exec = Jvm.exec) (hb : c.code = cc) (hK : va_K D z_cls (z_tys cA) s) (hAp : z_Ap B ρ) {x : Int32} {v : Int64} {a : Nat} (hd : decode cc pc = .ok (.lastore, 1)) (ht : z_at a = 4) (hi : z_ix x (z_ln a) = true) (h : z_J p l e R s m args below meth c Q B D ρ cA nL (pc + 1) z L r (S.1, z_w2 S.2 a x.toNatClampNeg v)) : z_J p l e R s m args below meth c Q B D ρ cA nL pc z L (.long v :: .int x :: .ref a :: r) S := fun ls H locs hl hw => by
  refine va_last hx hb hK hw.1 (hAp.D cA S) hw.2 a 3 (by rw [z_wl_get (z_at_lt (by rw [ht]; decide)), z_ce_l ht]) rfl (z_ixin hi) hd (fun H1 locs1 hP hD hS => ?_)
  rw [z_set2 (z_at_lt (by rw [ht]; decide)) ht] at hP
  exact h ls H1 locs1 hl ⟨hP, hS⟩
theorem zj_al (hx : p.tables.exec = Jvm.exec) (hb : c.code = cc) (hK : va_K D z_cls (z_tys cA) s) {a : Nat} (hd : decode cc pc = .ok (.arraylength, 1)) (ht : z_at a ≠ 0) (h6 : z_at a < 6) (h : z_J p l e R s m args below meth c Q B D ρ cA nL (pc + 1) z L (.int (nI (z_ln a)) :: r) S) : z_J p l e R s m args below meth c Q B D ρ cA nL pc z L (.ref a :: r) S := fun ls H locs hl hw => by
  have hg := z_wl_get (ρ := ρ) (cA := cA) (S := S) (z_at_lt ht)
  have hc : z_at a = 1 ∨ z_at a = 2 ∨ z_at a = 3 ∨ z_at a = 4 ∨ z_at a = 5 := by omega
  rcases hc with hc | hc | hc | hc | hc
  · rw [z_ce_n hc (Or.inl rfl)] at hg; exact va_alen hx hb hK hw.1 a 0 hg rfl rfl hd (h ls H locs hl hw)
  · rw [z_ce_n hc (Or.inr (Or.inl rfl))] at hg; exact va_alen hx hb hK hw.1 a 1 hg rfl rfl hd (h ls H locs hl hw)
  · rw [z_ce_n hc (Or.inr (Or.inr rfl))] at hg; exact va_alen hx hb hK hw.1 a 2 hg rfl rfl hd (h ls H locs hl hw)
  · rw [z_ce_l hc] at hg; exact va_alen hx hb hK hw.1 a 3 hg rfl rfl hd (h ls H locs hl hw)
  · rw [z_ce_q hc] at hg; exact va_alen hx hb hK hw.1 a 4 hg rfl rfl hd (h ls H locs hl hw)
end ZJ
end
section
/-! what holds around the program: its tables, and the things that are there from the start and never change -/
def z_RO (B : Nat) (ρ : Nat → Nat) (U : State) (H : Heap) : Prop :=
  vx_Zq Bundle.tN "UNASSIGNED_STACK" Bundle.steD (fun q => B ≤ q) U H ∧ vx_Zq Bundle.tN "SUPPRESSED_SENTINEL" Bundle.listD (fun q => B ≤ q) U H ∧
  (∀ j, j < 17 → va_Z "SlipRoom$Word" (z_wn.getD j "") "LSlipRoom$Word;" (.ref (ρ (1000 + j))) (fun q => B ≤ q) U H) ∧
  va_Z "SlipRoom$Word" "ALL" "[LSlipRoom$Word;" (.ref (ρ 1100)) (fun q => B ≤ q) U H ∧
  va_T (.object "SlipRoom$Word") (ρ 1100) 17 (fun j => .ref (ρ (1000 + j))) (fun q => B ≤ q) U H ∧
  (∀ j, j < 17 → va_OF "SlipRoom$Word" "letters" "Ljava/lang/String;" (.ref (ρ (1200 + j))) (ρ (1000 + j)) (fun q => B ≤ q) U H) ∧
  (∀ j, j < 17 → va_OF "SlipRoom$Word" "value" "I" (.int (z_wv.getD j 0)) (ρ (1000 + j)) (fun q => B ≤ q) U H) ∧
  vk_S 17 (z_tx.map List.length) z_tx (fun i => ρ (1200 + i)) (fun i => ρ (1250 + i)) (fun q => B ≤ q) U H ∧
  va_Z "java/lang/String" "COMPACT_STRINGS" "Z" (.int 1) (fun q => B ≤ q) U H ∧
  (va_Z "jdk/internal/util/Preconditions" "SIOOBE_FORMATTER" "Ljava/util/function/BiFunction;" .null (fun q => B ≤ q) U H ∨ va_Z "jdk/internal/util/Preconditions" "SIOOBE_FORMATTER" "Ljava/util/function/BiFunction;" (.ref (ρ 1299)) (fun q => B ≤ q) U H)
theorem z_RO.next {B : Nat} {ρ : Nat → Nat} {u U : State} {H H1 : Heap} (hvm : u.vm.Alike U.vm) (hq : ∀ a : Nat, a < H.size → ¬ B ≤ a → H1[a]? = H[a]?) (h : z_RO B ρ u H) : z_RO B ρ U H1 := by
  obtain ⟨h1, h2, h3, h4, h5, h6, h7, h8, h9, h10⟩ := h
  exact ⟨(vx_Zq.moved hvm h1).kept hq, (vx_Zq.moved hvm h2).kept hq, fun j hj => (va_Z.moved hvm (h3 j hj)).kept hq, (va_Z.moved hvm h4).kept hq, (va_T.moved hvm h5).kept hq, fun j hj => (va_OF.moved hvm (h6 j hj)).kept hq, fun j hj => (va_OF.moved hvm (h7 j hj)).kept hq, (vk_S.moved hvm h8).kept hq, (va_Z.moved hvm h9).kept hq, h10.elim (fun h => Or.inl ((va_Z.moved hvm h).kept hq)) (fun h => Or.inr ((va_Z.moved hvm h).kept hq))⟩
/-- the text constants by their entries -/
def z_SR (ρ : Nat → Nat) (U : State) : Prop := (∀ q ∈ z_msgs, ∃ sa, vk_R "SlipRoom" q.1 q.2 sa U) ∧ ∀ q ∈ z_strs, vk_R "SlipRoomModel" q.1 q.2.1 (ρ q.2.2) U
theorem z_SR.warm {ρ : Nat → Nat} {s U : State} (hW : s.WarmedH U.vm) (h : z_SR ρ s) : z_SR ρ U := ⟨fun q hq => by obtain ⟨sa, h1⟩ := h.1 q hq; exact ⟨sa, vk_R.warm hW h1⟩, fun q hq => vk_R.warm hW (h.2 q hq)⟩
def z_isD : Cond → Bool
  | .declares _ => true
  | .castable _ _ => true
  | _ => false
noncomputable def z_dw : List Cond := lw_tbl.filter z_isD
def z_Env (B : Nat) (D : va_G) (cA : Nat → ClassId) (ρ : Nat → Nat) (U : State) : Prop :=
  va_K D z_cls (z_tys cA) U ∧ (∀ w ∈ z_nw, va_Nw w U) ∧ z_RO B ρ U U.heap ∧ z_SR ρ U ∧ (∀ i j : Nat, i < 17 → j < 17 → ρ (1000 + i) = ρ (1000 + j) → i = j) ∧ va_Nc "java/lang/IllegalArgumentException" "java/util/NoSuchElementException" U ∧ ∀ w ∈ z_dw, va_Nw w U
theorem z_Env.next {B : Nat} {D : va_G} {cA : Nat → ClassId} {ρ : Nat → Nat} {s U : State} (hW : s.WarmedH U.vm) (hq : ∀ a : Nat, a < s.heap.size → ¬ B ≤ a → U.heap[a]? = s.heap[a]?) (h : z_Env B D cA ρ s) : z_Env B D cA ρ U := by
  obtain ⟨h1, h2, h3, h4, h5, h6, h7⟩ := h
  have hd7 : ∀ w ∈ z_dw, va_Nw w U := fun w hw => by
    have h9 := h7 w hw
    have hn : z_isD w = true := (List.mem_filter.mp hw).2
    cases w with
    | declares x => exact va_Nw.warmD hW h9
    | castable a b => exact va_Nw.warmC hW h9
    | _ => cases hn
  refine ⟨va_K.moved hW.alike h1, fun w hw => ?_, h3.next hW.alike hq, h4.warm hW, h5, va_Nc.moved hW.alike h6, hd7⟩
  have h9 := h2 w hw
  have hn : z_isN w = true := (List.mem_filter.mp hw).2
  cases w with
  | fieldLinkNest a i b n d h => exact va_Nw.warmF hW h9
  | methodLinkNest a i x h => exact va_Nw.warmM hW h9
  | _ => cases hn
theorem z_Env.calls {B : Nat} {D : va_G} {cA : Nat → ClassId} {ρ : Nat → Nat} {U : State} (g : JFrame) (mk : MethodId) (a : Array Value) (h : z_Env B D cA ρ U) : z_Env B D cA ρ (U.calling g mk a) :=
  h.next (U := U.calling g mk a) (State.WarmedH.refl U) (fun _ _ _ => rfl)
/-! contracts -/
def z_mcz (w : Bool) (o : z_Out) : Nat := match o with
  | .inr _ => 1
  | .inl _ => cond w 1 0
def z_rm (d k : Nat) : Room := { frames := d + 10, cells := k, slots := 6 * k, locals := 60 * d + 200 }
def z_Qr (B : Nat) (D : va_G) (ρ : Nat → Nat) (cA : Nat → ClassId) (o : z_Out) (S' : z_St) : Array Value → State → Outcome → State → Prop := fun _ st oc t => (∃ v, o = .inl v ∧ oc = .returned (v.map (z_v ρ))) ∧ va_P D z_cls (z_wl ρ cA S') t.heap ∧ va_F (fun q => B ≤ q) st t
def z_Qx (B : Nat) (D : va_G) (ρ : Nat → Nat) (cA : Nat → ClassId) (o : z_Out) (S' : z_St) : String → State → State → Prop := fun En st t => (∃ e, o = .inr e ∧ En = z_en e) ∧ va_P D z_cls (z_wl ρ cA S') t.heap ∧ va_F (fun q => B ≤ q) st t
def z_Pc (B : Nat) (D : va_G) (ρ : Nat → Nat) (cA : Nat → ClassId) (as : List Value) (S : z_St) : Array Value → State → Prop := va_Pc (as.map (z_v ρ)) (fun U => z_Env B D cA ρ U ∧ va_P D z_cls (z_wl ρ cA S) U.heap)
/-- what a method's answer in the abstract machine means: its contract -/
def z_C (l : Launch) (B : Nat) (D : va_G) (ρ : Nat → Nat) (cA : Nat → ClassId) (d m : Nat) (as : List Value) (S : z_St) (o : z_Out) (S' : z_St) : Prop :=
  vx_Met l (z_m m).1 (z_ws m) (z_rm d (z_mcz (z_isw m) o)) (z_Pc B D ρ cA as S) (z_Qr B D ρ cA o S') (z_Qx B D ρ cA o S') (z_mcz (z_isw m) o) (6 * z_mcz (z_isw m) o) (fun q => B ≤ q)
theorem z_Pc.blind {B : Nat} {D : va_G} {ρ : Nat → Nat} {cA : Nat → ClassId} {as : List Value} {S : z_St} : FrameBlind (z_Pc B D ρ cA as S) := fun a U g mk q => ⟨q.1, q.2.1.calls g mk a, q.2.2⟩
section ZJC
variable {p : Program} {l : Launch} {e : Env} {R : Room} {s : State} {m : MethodId} {args : Array Value} {below : List Frame} {meth : Method} {c : Code} {Q : State → Prop} {B : Nat} {D : va_G} {ρ : Nat → Nat} {cA : Nat → ClassId} {nL : Nat}
variable {cc : ByteArray} {pc z : Nat} {L : z_Lo} {st r : List Value} {S : z_St}
theorem z_Wd.pre {H : Heap} {locs : List Loc} {as : List Value} (hE : z_Env B D cA ρ s) (hw : z_Wd B D ρ cA S s H locs) (U : State) (hU : U.heap = H) (hW : s.WarmedH U.vm) : z_Pc B D ρ cA as S (as.map (z_v ρ)).toArray U :=
  ⟨rfl, hE.next hW (fun a h1 h2 => by rw [hU]; exact hw.2.2.1 a h1 h2), by rw [hU]; exact hw.1⟩
/-- behind a call -/
theorem zj_call {mc : Nat} {o : z_Out} {S' : z_St} {a : Array Value} {rest : List Value}
    (hr : ∀ (ls : Array Slot) (H : Heap) (locs : List Loc), z_lr ρ ls nL L → z_Wd B D ρ cA S s H locs → vx_Run p l e R s m args below meth c H locs z (6 * z) mc (6 * mc) (F0 m pc ls (st.map (z_v ρ))) (rest.map (z_v ρ)) (z_Qr B D ρ cA o S' a) (z_Qx B D ρ cA o S') (fun q => B ≤ q))
    (h1 : ∀ v, o = .inl v → z_J p l e R s m args below meth c Q B D ρ cA nL (pc + 3) (z + mc) L (v.toList ++ rest) S')
    (h2 : ∀ ee, o = .inr ee → ∀ (ls : Array Slot) (H : Heap) (locs : List Loc) (q : Addr) (ce : Cell), z_lr ρ ls nL L → z_Wd B D ρ cA S' s H locs → H[q]? = some ce → ce.vm = .none → s.vm.findClass (z_en ee) = some ce.cls → vx_W p l e R s m args below meth c H locs (z + mc) (6 * (z + mc)) Q (F0 m pc ls (rest.map (z_v ρ))) q) : z_J p l e R s m args below meth c Q B D ρ cA nL pc z L st S := by
  intro ls H locs hl hw T hT X
  rcases hr ls H locs hl hw T hT X with ⟨v, st₀, t, T', Lx, h0, X', hL, e1, e2, ⟨⟨w, ho, hv⟩, hP, hF⟩, stp⟩ | ⟨q, st₀, t, T', Lx, E, ce, h0, X', hL, e1, e2, ⟨⟨ee, ho, hE⟩, hP, hF⟩, hce, hcv, hcl, stp⟩
  · obtain ⟨k1, k2, k3⟩ := vx_keep (A1 := fun q => B ≤ q) h0 e1 hw.2 (fun q _ h => h) (fun q h => h) hL hF
    have hv2 : v = w.map (z_v ρ) := by cases hv; rfl
    subst hv2
    have e3 : (w.map (z_v ρ)).toList ++ rest.map (z_v ρ) = (w.toList ++ rest).map (z_v ρ) := by cases w <;> simp
    rw [← Nat.mul_add] at X'
    obtain ⟨t2, a1, b1⟩ := h1 w ho ls T'.heap (locs ++ Lx) hl ⟨by rw [e1]; exact hP, k3⟩ T' rfl X'
    refine ⟨t2, stp t2 ?_, b1⟩
    rw [e3]; exact a1
  · obtain ⟨k1, k2, k3⟩ := vx_keep (A1 := fun q => B ≤ q) h0 e1 hw.2 (fun q _ h => h) (fun q h => h) hL hF
    rw [← Nat.mul_add] at X'
    subst hE
    obtain ⟨t2, a1, b1⟩ := h2 ee ho ls T'.heap (locs ++ Lx) q ce hl ⟨by rw [e1]; exact hP, k3⟩ (by rw [e1]; exact hce) hcv hcl T' rfl X'
    exact ⟨t2, stp.trans a1, b1⟩
theorem z_rmap {as : List Value} : as.reverse.map (z_v ρ) = (as.map (z_v ρ)).reverse := by simp
theorem z_csum : ∀ (r : List Value), ((r.map (z_v ρ)).map fun v => v.category).sum = z_cs r
  | [] => rfl
  | v :: r => by
    have := z_csum r
    simp only [List.map_cons, List.sum_cons, z_cs, z_vcat] at this ⊢
    rw [this]
end ZJC
/-! a nest mate's methods, returning or throwing -/
section ZN
variable {p : Program} {l : Launch} {e : Env} {R : Room} {s : State} {m : MethodId} {args : Array Value} {below : List Frame} {meth : Method} {c : Code} {H : Heap} {locs : List Loc} {cells slots : Nat}
variable {y : MethodName} {bytes cc : ByteArray} {maxL nL mc ms n index : Nat} {ret : Option FieldType} {ws : List Cond} {rm : Room} {Pc : Array Value → State → Prop} {Qc : Array Value → State → Outcome → State → Prop} {XC : String → State → State → Prop} {free : Addr → Prop} {Ts : List Cond} {own C host : String} {b : Addr} {As rest : List Value} {g : JFrame}
theorem zn_runVN (S : CallFix p m c cc nL s args Ts own) (hM : vx_Met l y ws rm Pc Qc XC mc ms free) (cw : va_CN R s args own index y host bytes maxL ret ws rm mc ms n ∧ (Cond.instanceMethod y).before args s = true ∧ (Cond.selects C y y).before args s = true) (hp : PreV s H C b Pc As)
    (hg : g.method = m) (hn : As.length = n) (hsize : g.locals.size = nL) (hstack : g.stack = As.reverse ++ .ref b :: rest) (hW : 2 * g.monitorRoom + (rest.map fun v => v.category).sum ≤ 8) (hdg : decode cc g.pc = .ok (.invokevirtual index, 3)) (hf : cells + mc ≤ R.cells ∧ slots + ms ≤ R.slots) :
    vx_Run p l e R s m args below meth c H locs cells slots mc ms g rest (Qc (Value.ref b :: As).toArray) XC free := by
  obtain ⟨⟨⟨hrc, hrs, hfr, hlo, hws, hcw⟩, hcode, hini, hy, hlen, hl⟩, hx1, hx2⟩ := cw
  have hK : vx_Back l R p e below s args y 3 8 (PreOf R mc ms Pc) (PostOf Qc mc ms free) (vx_Post XC mc ms free) := vx_back (bytes := bytes) (maxL := maxL) (ret := ret) hM hp.1 hrc hrs hfr hlo hws hcw (fun a' U hW => word_at hW (Or.inl (by first | rfl | simp [Cond.onTables, Cond.keeps, Cond.steady])) hini)
  obtain ⟨hx, hb, hml, ho, -⟩ := S
  obtain ⟨-, ⟨cellB, hcB, hoB, hclB⟩, hPc⟩ := hp
  intro T hT X
  obtain ⟨mk, methM, hnamed, hmethM, hstM, habM⟩ := Cond.instanceMethod_spec hx1
  obtain ⟨methM', cM, hmethM', -, -, -, -, -, -, hsigM⟩ := Cond.code_spec hnamed hcode
  cases hmethM.symm.trans hmethM'
  obtain ⟨c2, r2, m2, q1, q2, q3, q4, kP, hkP, hkPi⟩ := Cond.selects_spec hx2
  cases hclB.symm.trans q1
  cases (State.methodFound?_of_named hnamed hy).symm.trans q2
  cases hnamed.symm.trans q3
  have hselP : selectMethod e.platform s.vm cellB.cls mk = .method mk := by rw [Launch.admits_selectMethod X.admits]; exact q4
  obtain ⟨vm₁, X₁, hstep₁⟩ := X.invokevirtualNest hx ho hl hnamed hmethM hstM hkP hkPi hy (a := b) (cell := cellB) (by rw [hT]; exact hcB)
    (fun z h => by rw [h] at hoB; cases hoB) hselP hmethM habM hkP hkPi (g := g) hg (argsL := As) (rest := rest) (hn.trans (hlen _ hsigM)) hstack (by rw [hb]; exact hdg)
  rcases hK m meth c ⟨T.setVm vm₁, locs, cells, slots⟩ { g with stack := rest } (.invokevirtual index) mk (Value.ref b :: As).toArray X₁ hg (hsize.trans hml.symm) (by rw [hb]; exact hdg) hW (X₁.named hnamed) ⟨hf.1, hf.2, hPc (T.setVm vm₁) hT X₁.warmed⟩ with ⟨v, ⟨U', l2, c2, s2⟩, X', ⟨g', mk', t, L, e1, e2, hq, h1, hL, h2, h3⟩, hsteps⟩ | ⟨q, ⟨U', l2, c2, s2⟩, X', ⟨g', mk', t, L, E, ce, e1, e2, hq, hce, hcv, hcl, h1, hL, h2, h3⟩, hsteps⟩
  · dsimp only [Pt.U, Pt.locs, Pt.cells, Pt.slots] at X' e1 e2 h1 h2 h3 hsteps
    subst h1; subst h2; subst h3
    exact Or.inl ⟨v, (T.setVm vm₁).calling g' mk' (Value.ref b :: As).toArray, t, U', L, hT, X', hL, e1, e2, hq, fun target h => hstep₁ _ fun acts => by rw [doInvoke_state]; exact hsteps.trans h⟩
  · dsimp only [Pt.U, Pt.locs, Pt.cells, Pt.slots] at X' e1 e2 h1 h2 h3 hsteps hcl
    subst h1; subst h2; subst h3
    exact Or.inr ⟨q, (T.setVm vm₁).calling g' mk' (Value.ref b :: As).toArray, t, U', L, E, ce, hT, X', hL, e1, e2, hq, hce, hcv, vx_cls X₁.warmed hcl, hstep₁ _ fun acts => by rw [doInvoke_state]; exact hsteps⟩
theorem zn_runSN (S : CallFix p m c cc nL s args Ts own) (hM : vx_Met l y ws rm Pc Qc XC mc ms free) (cw : va_CN R s args own index y host bytes maxL ret ws rm mc ms n ∧ (Cond.static y).before args s = true) (hp : PreS s H Pc As)
    (hg : g.method = m) (hn : As.length = n) (hsize : g.locals.size = nL) (hstack : g.stack = As.reverse ++ rest) (hW : 2 * g.monitorRoom + (rest.map fun v => v.category).sum ≤ 8) (hdg : decode cc g.pc = .ok (.invokestatic index, 3)) (hf : cells + mc ≤ R.cells ∧ slots + ms ≤ R.slots) :
    vx_Run p l e R s m args below meth c H locs cells slots mc ms g rest (Qc As.toArray) XC free := by
  obtain ⟨⟨⟨hrc, hrs, hfr, hlo, hws, hcw⟩, hcode, hini, hy, hlen, hl⟩, hx1⟩ := cw
  have hK : vx_Back l R p e below s args y 3 8 (PreOf R mc ms Pc) (PostOf Qc mc ms free) (vx_Post XC mc ms free) := vx_back (bytes := bytes) (maxL := maxL) (ret := ret) hM hp.1 hrc hrs hfr hlo hws hcw (fun a' U hW => word_at hW (Or.inl (by first | rfl | simp [Cond.onTables, Cond.keeps, Cond.steady])) hini)
  obtain ⟨hx, hb, hml, ho, -⟩ := S
  intro T hT X
  obtain ⟨mk, hnamed⟩ := Cond.code_named hcode
  obtain ⟨methM, cM, hmethM, -, -, -, -, -, -, hsigM⟩ := Cond.code_spec hnamed hcode
  have hstatic : methM.isStatic = true := Cond.static_spec hnamed hmethM hx1
  obtain ⟨kP, hkP, -⟩ := className_of_methodNamed hnamed
  have hinitP : kP.init = .initialized := Cond.initialized_spec (findClass_of_methodNamed hnamed) hkP hini
  obtain ⟨vm₁, X₁, hstep₁⟩ := X.invokestaticNest hx ho hl hnamed hmethM hstatic hkP hinitP hy (g := g) hg (argsL := As) (rest := rest) (hn.trans (hlen _ hsigM)) hstack (by rw [hb]; exact hdg)
  rcases hK m meth c ⟨T.setVm vm₁, locs, cells, slots⟩ { g with stack := rest } (.invokestatic index) mk As.toArray X₁ hg (hsize.trans hml.symm) (by rw [hb]; exact hdg) hW (X₁.named hnamed) ⟨hf.1, hf.2, hp.2 (T.setVm vm₁) hT X₁.warmed⟩ with ⟨v, ⟨U', l2, c2, s2⟩, X', ⟨g', mk', t, L, e1, e2, hq, h1, hL, h2, h3⟩, hsteps⟩ | ⟨q, ⟨U', l2, c2, s2⟩, X', ⟨g', mk', t, L, E, ce, e1, e2, hq, hce, hcv, hcl, h1, hL, h2, h3⟩, hsteps⟩
  · dsimp only [Pt.U, Pt.locs, Pt.cells, Pt.slots] at X' e1 e2 h1 h2 h3 hsteps
    subst h1; subst h2; subst h3
    exact Or.inl ⟨v, (T.setVm vm₁).calling g' mk' As.toArray, t, U', L, hT, X', hL, e1, e2, hq, fun target h => hstep₁ _ fun acts => by rw [doInvoke_state]; exact hsteps.trans h⟩
  · dsimp only [Pt.U, Pt.locs, Pt.cells, Pt.slots] at X' e1 e2 h1 h2 h3 hsteps hcl
    subst h1; subst h2; subst h3
    exact Or.inr ⟨q, (T.setVm vm₁).calling g' mk' As.toArray, t, U', L, E, ce, hT, X', hL, e1, e2, hq, hce, hcv, vx_cls X₁.warmed hcl, hstep₁ _ fun acts => by rw [doInvoke_state]; exact hsteps⟩
end ZN
end
section
/-! rows on the things that are there from the start -/
section ZJR
variable {p : Program} {l : Launch} {e : Env} {R : Room} {s : State} {m : MethodId} {args : Array Value} {below : List Frame} {meth : Method} {c : Code} {Q : State → Prop} {B : Nat} {D : va_G} {ρ : Nat → Nat} {cA : Nat → ClassId} {nL : Nat}
variable {cc : ByteArray} {pc z : Nat} {L : z_Lo} {st r : List Value} {S : z_St}
theorem zj_getstatic (hx : p.tables.exec = Jvm.exec) (hb : c.code = cc) {own n d : String} {i v : Nat} (hZ : va_Z "SlipRoom$Word" n d (.ref (ρ v)) (fun q => B ≤ q) s s.heap) (hown : s.vm.findClass own = some m.cls) (hlink : (Cond.fieldLink own i "SlipRoom$Word" n d).before args s = true ∨ ∃ host, (Cond.fieldLinkNest own i "SlipRoom$Word" n d host).before args s = true) (hd : decode cc pc = .ok (.getstatic i, 3)) (h : z_J p l e R s m args below meth c Q B D ρ cA nL (pc + 3) z L (.ref v :: st) S) : z_J p l e R s m args below meth c Q B D ρ cA nL pc z L st S := fun ls H locs hl hw => by
  rcases hlink with hlink | ⟨host, hlink⟩
  · exact va_gets hx hb hZ hw.2 hown hlink (fun _ h9 => h9) hd (h ls H locs hl hw)
  · exact va_getsN hx hb hZ hw.2 hown hlink (fun _ h9 => h9) hd (h ls H locs hl hw)
theorem zj_getW (hx : p.tables.exec = Jvm.exec) (hb : c.code = cc) {own n d : String} {i a : Nat} {v : Value} (hF : va_OF "SlipRoom$Word" n d (z_v ρ v) (ρ a) (fun q => B ≤ q) s s.heap) (hown : s.vm.findClass own = some m.cls) (hlink : (Cond.fieldLink own i "SlipRoom$Word" n d).before args s = true ∨ ∃ host, (Cond.fieldLinkNest own i "SlipRoom$Word" n d host).before args s = true) (hd : decode cc pc = .ok (.getfield i, 3)) (h : z_J p l e R s m args below meth c Q B D ρ cA nL (pc + 3) z L (v :: r) S) : z_J p l e R s m args below meth c Q B D ρ cA nL pc z L (.ref a :: r) S := fun ls H locs hl hw => by
  rcases hlink with hlink | ⟨host, hlink⟩
  · exact vk_getf hx hb hF hw.2 hown hlink (fun _ h9 => h9) hd (h ls H locs hl hw)
  · obtain ⟨cf, k, fi, f, cell, h1, h2, h3, h4, h5, h6⟩ := hF.kept hw.2.2.1
    exact va_Wgetf hx hb hown hlink h1 h2 h3 h4 (v := z_v ρ v) h5 rfl rfl hd (h ls H locs hl hw)
theorem zj_aaA (hx : p.tables.exec = Jvm.exec) (hb : c.code = cc) {x : Int32} (hT : va_T (.object "SlipRoom$Word") (ρ 1100) 17 (fun j => .ref (ρ (1000 + j))) (fun q => B ≤ q) s s.heap) (hd : decode cc pc = .ok (.aaload, 1)) (hi : z_ix x 17 = true) (h : z_J p l e R s m args below meth c Q B D ρ cA nL (pc + 1) z L (.ref (1000 + x.toNatClampNeg) :: r) S) : z_J p l e R s m args below meth c Q B D ρ cA nL pc z L (.int x :: .ref 1100 :: r) S := fun ls H locs hl hw =>
  vb_tq hx hb hT hw.2 (z_ixin hi) rfl hd (h ls H locs hl hw)
theorem zj_alA (hx : p.tables.exec = Jvm.exec) (hb : c.code = cc) (hT : va_T (.object "SlipRoom$Word") (ρ 1100) 17 (fun j => .ref (ρ (1000 + j))) (fun q => B ≤ q) s s.heap) (hd : decode cc pc = .ok (.arraylength, 1)) (h : z_J p l e R s m args below meth c Q B D ρ cA nL (pc + 1) z L (.int (nI 17) :: r) S) : z_J p l e R s m args below meth c Q B D ρ cA nL pc z L (.ref 1100 :: r) S := fun ls H locs hl hw =>
  va_tlen hx hb hT hw.2 rfl hd (h ls H locs hl hw)
theorem zj_aa (hx : p.tables.exec = Jvm.exec) (hb : c.code = cc) (hK : va_K D z_cls (z_tys cA) s) {x : Int32} {a : Nat} (hd : decode cc pc = .ok (.aaload, 1)) (ht : z_at a = 5) (hi : z_ix x (z_ln a) = true) (h : z_J p l e R s m args below meth c Q B D ρ cA nL (pc + 1) z L (.ref (z_vs.getD x.toNatClampNeg 0) :: r) S) : z_J p l e R s m args below meth c Q B D ρ cA nL pc z L (.int x :: .ref a :: r) S := fun ls H locs hl hw =>
  va_aldq (f := fun i => some (ρ (z_vs.getD i 0))) hx hb hK hw.1 a 4 (by rw [z_wl_get (z_at_lt (by rw [ht]; decide)), z_ce_q ht]) rfl (z_ixin hi) hd (h ls H locs hl hw)
theorem zj_ac_eq (hx : p.tables.exec = Jvm.exec) (hb : c.code = cc) {x y : Nat} {o : Int} {t : Nat} (hi : ρ x = ρ y → x = y) (hd : decode cc pc = .ok (.if_acmp .eq o, 3)) (ht : (pc : Int) + o = (t : Int)) (h1 : x = y → z_J p l e R s m args below meth c Q B D ρ cA nL t z L r S) (h2 : ¬ x = y → z_J p l e R s m args below meth c Q B D ρ cA nL (pc + 3) z L r S) : z_J p l e R s m args below meth c Q B D ρ cA nL pc z L (.ref y :: .ref x :: r) S := fun ls H locs hl hw =>
  lv_acmp_eq (rx := some (ρ x)) (ry := some (ρ y)) hx hb hd ht (fun q => h1 (hi (Option.some.inj q)) ls H locs hl hw) (fun q => h2 (fun h9 => q (by rw [h9])) ls H locs hl hw)
theorem zj_ac_ne (hx : p.tables.exec = Jvm.exec) (hb : c.code = cc) {x y : Nat} {o : Int} {t : Nat} (hi : ρ x = ρ y → x = y) (hd : decode cc pc = .ok (.if_acmp .ne o, 3)) (ht : (pc : Int) + o = (t : Int)) (h1 : ¬ x = y → z_J p l e R s m args below meth c Q B D ρ cA nL t z L r S) (h2 : x = y → z_J p l e R s m args below meth c Q B D ρ cA nL (pc + 3) z L r S) : z_J p l e R s m args below meth c Q B D ρ cA nL pc z L (.ref y :: .ref x :: r) S := fun ls H locs hl hw =>
  lv_acmp_ne (rx := some (ρ x)) (ry := some (ρ y)) hx hb hd ht (fun q => h1 (fun h9 => q (by rw [h9])) ls H locs hl hw) (fun q => h2 (hi (Option.some.inj q)) ls H locs hl hw)
theorem zj_ldcw (hx : p.tables.exec = Jvm.exec) (hb : c.code = cc) {own : String} {i : Nat} {v : Int32} (hown : s.vm.findClass own = some m.cls) (hk : (Jvm.Cond.constant own i v).before args s = true) (hd : decode cc pc = .ok (.ldc_w i, 3)) (h : z_J p l e R s m args below meth c Q B D ρ cA nL (pc + 3) z L (.int v :: st) S) : z_J p l e R s m args below meth c Q B D ρ cA nL pc z L st S := fun ls H locs hl hw => lv_ldcw hx hb hown hk hd (h ls H locs hl hw)
theorem zj_ldcs (hx : p.tables.exec = Jvm.exec) (hb : c.code = cc) {own tx : String} {i v : Nat} (hown : s.vm.findClass own = some m.cls) (hk : vk_R own i tx (ρ v) s) (hd : decode cc pc = .ok (.ldc i, 2)) (h : z_J p l e R s m args below meth c Q B D ρ cA nL (pc + 2) z L (.ref v :: st) S) : z_J p l e R s m args below meth c Q B D ρ cA nL pc z L st S := fun ls H locs hl hw T hT X => by
  obtain ⟨t, a1, b1⟩ := h ls H locs hl hw T hT X
  subst hb
  exact ⟨t, X.ldcString hx (text := tx) hown hk.1 hk.2 (g := F0 m pc ls (st.map (z_v ρ))) rfl hd t a1, b1⟩
theorem zj_ldcsw (hx : p.tables.exec = Jvm.exec) (hb : c.code = cc) {own tx : String} {i v : Nat} (hown : s.vm.findClass own = some m.cls) (hk : vk_R own i tx (ρ v) s) (hd : decode cc pc = .ok (.ldc_w i, 3)) (h : z_J p l e R s m args below meth c Q B D ρ cA nL (pc + 3) z L (.ref v :: st) S) : z_J p l e R s m args below meth c Q B D ρ cA nL pc z L st S := fun ls H locs hl hw T hT X => by
  obtain ⟨t, a1, b1⟩ := h ls H locs hl hw T hT X
  subst hb
  exact ⟨t, X.ldcStringW hx (text := tx) hown hk.1 hk.2 (g := F0 m pc ls (st.map (z_v ρ))) rfl hd t a1, b1⟩
/-- rows copied -/
theorem zj_cp1 (hx : p.tables.exec = Jvm.exec) (hb : c.code = cc) (hml : c.maxLocals = nL) (hK : va_K D z_cls (z_tys cA) s) (hAp : z_Ap B ρ) {own : String} {i a b : Nat} {x y k : Int32} (hown : s.vm.findClass own = some m.cls) (hlink : (Cond.methodLink own i arraycopyName).before args s = true) (hnat : (Cond.native arraycopyName).before args s = true) (hstat : (Cond.static arraycopyName).before args s = true) (hini : (Cond.initialized "java/lang/System").before args s = true)
    (ha : z_at a = 1) (hbb : z_at b = 1) (h1 : ¬ x < 0) (h2 : ¬ y < 0) (h3 : ¬ k < 0) (h4 : x.toNatClampNeg + k.toNatClampNeg ≤ z_ln a) (h5 : y.toNatClampNeg + k.toNatClampNeg ≤ z_ln b) (hRf : 1 ≤ R.frames) (hc : z_cs r ≤ 8) (hRl : 200 ≤ R.locals)
    (hd : decode cc pc = .ok (.invokestatic i, 3)) (h : z_J p l e R s m args below meth c Q B D ρ cA nL (pc + 3) z L r (z_c1 S.1 a b x.toNatClampNeg y.toNatClampNeg k.toNatClampNeg, S.2)) : z_J p l e R s m args below meth c Q B D ρ cA nL pc z L (.int k :: .int y :: .ref b :: .int x :: .ref a :: r) S := fun ls H locs hl hw => by
  refine va_copyi hx hb (by rw [hml]; exact hl.1.symm) hown hlink hnat hstat hini hK hw.1 (hAp.D cA S) hw.2 a b 0 0 (by rw [z_wl_get (z_at_lt (by rw [ha]; decide)), z_ce_n ha (Or.inl rfl)]) (by rw [z_wl_get (z_at_lt (by rw [hbb]; decide)), z_ce_n hbb (Or.inl rfl)]) rfl rfl rfl h1 h2 h3 h4 h5 (fun _ _ => rfl) hRf ?_ hd (fun H1 locs1 hP hD hS => ?_)
  · rw [z_csum]
    have : nativeFrameWords "java/lang/System" "arraycopy" 5 + 11 ≤ 100 := by decide +kernel
    omega
  · rw [z_setc1 (z_at_lt (by rw [hbb]; decide)) hbb] at hP
    exact h ls H1 locs1 hl ⟨hP, hS⟩
theorem zj_cp2 (hx : p.tables.exec = Jvm.exec) (hb : c.code = cc) (hml : c.maxLocals = nL) (hK : va_K D z_cls (z_tys cA) s) (hAp : z_Ap B ρ) {own : String} {i a b : Nat} {x y k : Int32} (hown : s.vm.findClass own = some m.cls) (hlink : (Cond.methodLink own i arraycopyName).before args s = true) (hnat : (Cond.native arraycopyName).before args s = true) (hstat : (Cond.static arraycopyName).before args s = true) (hini : (Cond.initialized "java/lang/System").before args s = true)
    (ha : z_at a = 4) (hbb : z_at b = 4) (h1 : ¬ x < 0) (h2 : ¬ y < 0) (h3 : ¬ k < 0) (h4 : x.toNatClampNeg + k.toNatClampNeg ≤ z_ln a) (h5 : y.toNatClampNeg + k.toNatClampNeg ≤ z_ln b) (hRf : 1 ≤ R.frames) (hc : z_cs r ≤ 8) (hRl : 200 ≤ R.locals)
    (hd : decode cc pc = .ok (.invokestatic i, 3)) (h : z_J p l e R s m args below meth c Q B D ρ cA nL (pc + 3) z L r (S.1, z_c2 S.2 a b x.toNatClampNeg y.toNatClampNeg k.toNatClampNeg)) : z_J p l e R s m args below meth c Q B D ρ cA nL pc z L (.int k :: .int y :: .ref b :: .int x :: .ref a :: r) S := fun ls H locs hl hw => by
  refine va_copyl hx hb (by rw [hml]; exact hl.1.symm) hown hlink hnat hstat hini hK hw.1 (hAp.D cA S) hw.2 a b 3 3 (by rw [z_wl_get (z_at_lt (by rw [ha]; decide)), z_ce_l ha]) (by rw [z_wl_get (z_at_lt (by rw [hbb]; decide)), z_ce_l hbb]) rfl rfl rfl h1 h2 h3 h4 h5 (fun _ _ => rfl) hRf ?_ hd (fun H1 locs1 hP hD hS => ?_)
  · rw [z_csum]
    have : nativeFrameWords "java/lang/System" "arraycopy" 5 + 11 ≤ 100 := by decide +kernel
    omega
  · rw [z_setc2 (z_at_lt (by rw [hbb]; decide)) hbb] at hP
    exact h ls H1 locs1 hl ⟨hP, hS⟩
end ZJR
end
section
/-! a call, by its kind -/
def z_Ctx (p : Program) (l : Launch) (R : Room) (s : State) (m : MethodId) (args : Array Value) (c : Code) (B : Nat) (D : va_G) (ρ : Nat → Nat) (cA : Nat → ClassId) (nL : Nat) (cc : ByteArray) (own : String) (dd : Nat) : Prop :=
  p.tables.exec = Jvm.exec ∧ c.code = cc ∧ c.maxLocals = nL ∧ s.vm.findClass own = some m.cls ∧ (∀ w ∈ z_tb, w.before args s = true) ∧ z_Env B D cA ρ s ∧ z_Ap B ρ ∧ dd + 11 ≤ R.frames ∧ 60 * dd + 260 ≤ R.locals
theorem z_pop_ok : ∀ (n : Nat) (acc st as rest : List Value), z_pop n acc st = some (as, rest) → ∃ u, as = u ++ acc ∧ st = u.reverse ++ rest ∧ u.length = n
  | 0, acc, st, as, rest, h => by cases h; exact ⟨[], rfl, rfl, rfl⟩
  | n + 1, acc, [], as, rest, h => by cases h
  | n + 1, acc, v :: st, as, rest, h => by
    obtain ⟨u, h1, h2, h3⟩ := z_pop_ok n (v :: acc) st as rest h
    refine ⟨u ++ [v], by rw [h1]; simp, by rw [h2]; simp, by simp [h3]⟩
theorem z_pop_nil {n : Nat} {st as rest : List Value} (h : z_pop n [] st = some (as, rest)) : st = as.reverse ++ rest ∧ as.length = n := by
  obtain ⟨u, h1, h2, h3⟩ := z_pop_ok n [] st as rest h
  rw [List.append_nil] at h1
  subst h1
  exact ⟨h2, h3⟩
theorem z_goodIn {ws : List Cond} (h : ∀ w ∈ ws, w ∈ z_tb) : GoodIn z_tb ws := fun w hw => ⟨h w hw, good_of_word (List.mem_filter.mp (h w hw)).2⟩
theorem z_ws_tb {m : Nat} (hm : m < 211) : ∀ w ∈ z_ws m, w ∈ z_tb := fun w hw => (List.mem_cons.mp hw).elim (fun e => by rw [e]; exact z_cwA m hm) (fun h => h)
theorem z_okM_ok {m : Nat} (hm : m < 211) : (Cond.initialized (z_m m).1.cls ∈ z_tb) ∧ ((z_m m).1.cls ≠ "java/lang/invoke/MethodHandle" ∧ (z_m m).1.cls ≠ "java/lang/invoke/VarHandle") ∧ (parseMethodDescriptor (z_m m).1.desc).map (fun d => d.parameters.length) = some (z_mi.getD m (0, 0, 0, 0, 0)).2.2.2.2 ∧ (z_m m).2.2.1 ≤ 30 ∧ (plainName (z_m m).1.cls = true ∨ m = 187 ∨ m = 188) := by
  have h := z_okMA m hm
  simp only [z_okM, Bool.and_eq_true, Bool.or_eq_true, decide_eq_true_eq, Nat.beq_eq] at h
  obtain ⟨⟨⟨⟨⟨h1, h2⟩, h3⟩, h4⟩, h5⟩, h6⟩ := h
  refine ⟨z_inT_ok h1, h3, h4, h5, ?_⟩
  rcases h2 with (h2 | h2) | h2
  · exact Or.inl h2
  · exact Or.inr (Or.inl h2)
  · exact Or.inr (Or.inr h2)
theorem z_ws_code {m : Nat} (h : z_isw m = false) : z_ws m = Cond.code (z_m m).1 (z_m m).2.1 (z_m m).2.2.1 (z_m m).2.2.2.1 :: z_tb := by simp [z_ws, z_cw, h]
theorem z_ws_codeW {m : Nat} (h : z_isw m = true) : z_ws m = Cond.codeWith (z_m m).1 (z_m m).2.1 (z_m m).2.2.1 (z_m m).2.2.2.1 (z_hh.getD m []) :: z_tb := by simp [z_ws, z_cw, h]
section ZC
variable {p : Program} {l : Launch} {e : Env} {R : Room} {s : State} {m : MethodId} {args : Array Value} {below : List Frame} {meth : Method} {c : Code} {Q : State → Prop} {B : Nat} {D : va_G} {ρ : Nat → Nat} {cA : Nat → ClassId} {nL : Nat}
variable {cc : ByteArray} {pc z : Nat} {L : z_Lo} {st r : List Value} {S : z_St} {own : String} {dd : Nat}
theorem z_hWs {ls : Array Slot} {q : List Value} (h : z_cs r ≤ 8) : 2 * (F0 m pc ls q).monitorRoom + ((r.map (z_v ρ)).map fun v => v.category).sum ≤ 8 := lv_room (by rw [z_csum]; exact h)
/-- an ordinary static call -/
theorem zm_run0 (hctx : z_Ctx p l R s m args c B D ρ cA nL cc own dd) {m' i : Nat} {as : List Value} {o : z_Out} {S1 : z_St} (hm : m' < 211) (hC : z_C l B D ρ cA dd m' as S o S1) (hiw : z_isw m' = false) (hn : as.length = (z_mi.getD m' (0, 0, 0, 0, 0)).2.2.2.2) (hl : Cond.methodLink own i (z_m m').1 ∈ z_tb) (hs : Cond.static (z_m m').1 ∈ z_tb) (hr8 : z_cs r ≤ 8) (hd : decode cc pc = .ok (.invokestatic i, 3)) (hcell : z + z_mcz (z_isw m') o ≤ R.cells ∧ 6 * z + 6 * z_mcz (z_isw m') o ≤ R.slots)
    (ls : Array Slot) (H : Heap) (locs : List Loc) (hls : z_lr ρ ls nL L) (hw : z_Wd B D ρ cA S s H locs) : vx_Run p l e R s m args below meth c H locs z (6 * z) (z_mcz (z_isw m') o) (6 * z_mcz (z_isw m') o) (F0 m pc ls ((as.reverse ++ r).map (z_v ρ))) (r.map (z_v ρ)) (z_Qr B D ρ cA o S1 (as.map (z_v ρ)).toArray) (z_Qx B D ρ cA o S1) (fun q => B ≤ q) := by
  obtain ⟨hx, hb, hml, hown, hts, hE, hAp, hRf, hRl⟩ := hctx
  obtain ⟨hin, hy, hpar, hL30, -⟩ := z_okM_ok hm
  refine vx_runS (As := as.map (z_v ρ)) (Ts := z_tb) (own := own) (index := i) (y := (z_m m').1) (bytes := (z_m m').2.1) (maxL := (z_m m').2.2.1) (ret := (z_m m').2.2.2.1) (ws := z_ws m') ⟨hx, hb, hml, hown, hts⟩ hC ⟨callB_of ((z_mi.getD m' (0, 0, 0, 0, 0)).2.2.2.2) hts (z_goodIn (z_ws_tb hm)) (z_ws_code hiw) rfl rfl (hts _ hin) (hts _ hl) ⟨hy.1, hy.2, hpar⟩ ⟨by simp only [z_rm]; omega, by simp only [z_rm]; omega⟩, hts _ hs⟩ ⟨z_Pc.blind, hw.pre hE⟩ rfl (by simp [hn]) hls.1 (by simp) (z_hWs hr8) hd hcell
/-- a nest mate's static method -/
theorem zm_run1 (hctx : z_Ctx p l R s m args c B D ρ cA nL cc own dd) {m' i : Nat} {as : List Value} {o : z_Out} {S1 : z_St} (hm : m' < 211) (hC : z_C l B D ρ cA dd m' as S o S1) (hiw : z_isw m' = false) (hn : as.length = (z_mi.getD m' (0, 0, 0, 0, 0)).2.2.2.2) (hl : Cond.methodLinkNest own i (z_m m').1 "SlipRoom" ∈ z_nw) (hs : Cond.static (z_m m').1 ∈ z_tb) (hr8 : z_cs r ≤ 8) (hd : decode cc pc = .ok (.invokestatic i, 3)) (hcell : z + z_mcz (z_isw m') o ≤ R.cells ∧ 6 * z + 6 * z_mcz (z_isw m') o ≤ R.slots)
    (ls : Array Slot) (H : Heap) (locs : List Loc) (hls : z_lr ρ ls nL L) (hw : z_Wd B D ρ cA S s H locs) : vx_Run p l e R s m args below meth c H locs z (6 * z) (z_mcz (z_isw m') o) (6 * z_mcz (z_isw m') o) (F0 m pc ls ((as.reverse ++ r).map (z_v ρ))) (r.map (z_v ρ)) (z_Qr B D ρ cA o S1 (as.map (z_v ρ)).toArray) (z_Qx B D ρ cA o S1) (fun q => B ≤ q) := by
  obtain ⟨hx, hb, hml, hown, hts, hE, hAp, hRf, hRl⟩ := hctx
  obtain ⟨hin, hy, hpar, hL30, -⟩ := z_okM_ok hm
  refine zn_runSN (As := as.map (z_v ρ)) (Ts := z_tb) (own := own) (index := i) (host := "SlipRoom") (y := (z_m m').1) (bytes := (z_m m').2.1) (maxL := (z_m m').2.2.1) (ret := (z_m m').2.2.2.1) (ws := z_ws m') ⟨hx, hb, hml, hown, hts⟩ hC ⟨va_cnB ((z_mi.getD m' (0, 0, 0, 0, 0)).2.2.2.2) hts (z_goodIn (z_ws_tb hm)) (z_ws_code hiw) rfl rfl (hE.2.1 _ hl) (hts _ hin) ⟨hy.1, hy.2, hpar⟩ ⟨by simp only [z_rm]; omega, by simp only [z_rm]; omega⟩, hts _ hs⟩ ⟨z_Pc.blind, hw.pre hE⟩ rfl (by simp [hn]) hls.1 (by simp) (z_hWs hr8) hd hcell
/-- the law's own small methods -/
theorem zm_run4 (hctx : z_Ctx p l R s m args c B D ρ cA nL cc own dd) {m' i : Nat} {as : List Value} {o : z_Out} {S1 : z_St} (hm : m' < 211) (hC : z_C l B D ρ cA dd m' as S o S1) (hiw : z_isw m' = true) (hn : as.length = (z_mi.getD m' (0, 0, 0, 0, 0)).2.2.2.2) (hl : Cond.methodLink own i (z_m m').1 ∈ z_tb) (hs : Cond.static (z_m m').1 ∈ z_tb) (hr8 : z_cs r ≤ 8) (hd : decode cc pc = .ok (.invokestatic i, 3)) (hcell : z + z_mcz (z_isw m') o ≤ R.cells ∧ 6 * z + 6 * z_mcz (z_isw m') o ≤ R.slots)
    (ls : Array Slot) (H : Heap) (locs : List Loc) (hls : z_lr ρ ls nL L) (hw : z_Wd B D ρ cA S s H locs) : vx_Run p l e R s m args below meth c H locs z (6 * z) (z_mcz (z_isw m') o) (6 * z_mcz (z_isw m') o) (F0 m pc ls ((as.reverse ++ r).map (z_v ρ))) (r.map (z_v ρ)) (z_Qr B D ρ cA o S1 (as.map (z_v ρ)).toArray) (z_Qx B D ρ cA o S1) (fun q => B ≤ q) := by
  obtain ⟨hx, hb, hml, hown, hts, hE, hAp, hRf, hRl⟩ := hctx
  obtain ⟨hin, hy, hpar, hL30, -⟩ := z_okM_ok hm
  refine vx_runSX (As := as.map (z_v ρ)) (Ts := z_tb) (own := own) (index := i) (y := (z_m m').1) (bytes := (z_m m').2.1) (maxL := (z_m m').2.2.1) (ret := (z_m m').2.2.2.1) (hh := z_hh.getD m' []) (ws := z_ws m') ⟨hx, hb, hml, hown, hts⟩ hC (vx_cwSW ((z_mi.getD m' (0, 0, 0, 0, 0)).2.2.2.2) hts (z_goodIn (fun w hw => ?_)) (z_ws_codeW hiw) rfl rfl ⟨hy.1, hy.2, hpar⟩ ⟨by simp only [z_rm]; omega, by simp only [z_rm]; omega⟩) ⟨z_Pc.blind, hw.pre hE⟩ rfl (by simp [hn]) hls.1 (by simp) (z_hWs hr8) hd hcell
  unfold va_wsS at hw
  rcases List.mem_append.mp hw with h | h
  · simp only [List.mem_cons, List.not_mem_nil, or_false] at h
    rcases h with rfl | rfl | rfl
    · exact hl
    · exact hs
    · exact hin
  · exact z_ws_tb hm w h
theorem z_recv {a ci : Nat} {C : String} {H : Heap} {locs : List Loc} (hE : z_Env B D cA ρ s) (hw : z_Wd B D ρ cA S s H locs) (hci : ci < 10) (hO : z_isO ci a = true) (hC : (z_cls.getD ci ("", z_T0, 0)).1 = C) : ∃ cellB : Cell, H[ρ a]? = some cellB ∧ cellB.vm.isStatics = false ∧ s.vm.findClass C = some cellB.cls := by
  obtain ⟨ha, h0, hoc⟩ := z_isO_ok hci hO
  obtain ⟨C', T, hcl⟩ := z_cls_get hci
  have he : (z_wl ρ cA S)[a]? = some (ρ a, .inr (ci, z_fs ρ S.1 a)) := by rw [z_wl_get ha, z_ce_o h0, hoc]
  have hC' : C' = C := by
    rw [← hC, List.getD_eq_getElem?_getD, hcl]; rfl
  subst hC'
  exact va_recv hE.1 hw.1 hcl he
/-- a method of an object -/
theorem zm_run2 (hctx : z_Ctx p l R s m args c B D ρ cA nL cc own dd) {m' i a ci : Nat} {as : List Value} {o : z_Out} {S1 : z_St} (hm : m' < 211) (hC : z_C l B D ρ cA dd m' (.ref a :: as) S o S1) (hiw : z_isw m' = false) (hn : as.length = (z_mi.getD m' (0, 0, 0, 0, 0)).2.2.2.2) (hci : ci < 10) (hO : z_isO ci a = true) (hcl : (z_m m').1.cls = z_own.getD ci "") (hcl2 : (z_cls.getD ci ("", z_T0, 0)).1 = z_own.getD ci "") (hl : Cond.methodLink own i (z_m m').1 ∈ z_tb) (hs : Cond.instanceMethod (z_m m').1 ∈ z_tb) (hse : Cond.selects (z_m m').1.cls (z_m m').1 (z_m m').1 ∈ z_tb) (hr8 : z_cs r ≤ 8) (hd : decode cc pc = .ok (.invokevirtual i, 3)) (hcell : z + z_mcz (z_isw m') o ≤ R.cells ∧ 6 * z + 6 * z_mcz (z_isw m') o ≤ R.slots)
    (ls : Array Slot) (H : Heap) (locs : List Loc) (hls : z_lr ρ ls nL L) (hw : z_Wd B D ρ cA S s H locs) : vx_Run p l e R s m args below meth c H locs z (6 * z) (z_mcz (z_isw m') o) (6 * z_mcz (z_isw m') o) (F0 m pc ls (((.ref a :: as).reverse ++ r).map (z_v ρ))) (r.map (z_v ρ)) (z_Qr B D ρ cA o S1 ((.ref a :: as).map (z_v ρ)).toArray) (z_Qx B D ρ cA o S1) (fun q => B ≤ q) := by
  obtain ⟨hx, hb, hml, hown, hts, hE, hAp, hRf, hRl⟩ := hctx
  obtain ⟨hin, hy, hpar, hL30, -⟩ := z_okM_ok hm
  refine vx_runV (As := as.map (z_v ρ)) (b := ρ a) (C := (z_m m').1.cls) (Ts := z_tb) (own := own) (index := i) (y := (z_m m').1) (bytes := (z_m m').2.1) (maxL := (z_m m').2.2.1) (ret := (z_m m').2.2.2.1) (ws := z_ws m') ⟨hx, hb, hml, hown, hts⟩ hC (cwV ((z_mi.getD m' (0, 0, 0, 0, 0)).2.2.2.2) hts (z_goodIn (fun w hw => ?_)) (z_ws_code hiw) rfl rfl ⟨rfl, hy.1, hy.2, hpar⟩ ⟨by simp only [z_rm]; omega, by simp only [z_rm]; omega⟩) ⟨z_Pc.blind, z_recv hE hw hci hO (hcl2.trans hcl.symm), hw.pre hE⟩ rfl (by simp [hn]) hls.1 (by simp [z_v]) (z_hWs hr8) hd hcell
  unfold wsV at hw
  rcases List.mem_append.mp hw with h | h
  · simp only [List.mem_cons, List.not_mem_nil, or_false] at h
    rcases h with rfl | rfl | rfl | rfl
    · exact hl
    · exact hs
    · exact hse
    · exact hin
  · exact z_ws_tb hm w h
theorem zm_run3 (hctx : z_Ctx p l R s m args c B D ρ cA nL cc own dd) {m' i a ci : Nat} {as : List Value} {o : z_Out} {S1 : z_St} (hm : m' < 211) (hC : z_C l B D ρ cA dd m' (.ref a :: as) S o S1) (hiw : z_isw m' = false) (hn : as.length = (z_mi.getD m' (0, 0, 0, 0, 0)).2.2.2.2) (hci : ci < 10) (hO : z_isO ci a = true) (hcl : (z_m m').1.cls = z_own.getD ci "") (hcl2 : (z_cls.getD ci ("", z_T0, 0)).1 = z_own.getD ci "") (hl : Cond.methodLinkNest own i (z_m m').1 "SlipRoom" ∈ z_nw) (hs : Cond.instanceMethod (z_m m').1 ∈ z_tb) (hse : Cond.selects (z_m m').1.cls (z_m m').1 (z_m m').1 ∈ z_tb) (hr8 : z_cs r ≤ 8) (hd : decode cc pc = .ok (.invokevirtual i, 3)) (hcell : z + z_mcz (z_isw m') o ≤ R.cells ∧ 6 * z + 6 * z_mcz (z_isw m') o ≤ R.slots)
    (ls : Array Slot) (H : Heap) (locs : List Loc) (hls : z_lr ρ ls nL L) (hw : z_Wd B D ρ cA S s H locs) : vx_Run p l e R s m args below meth c H locs z (6 * z) (z_mcz (z_isw m') o) (6 * z_mcz (z_isw m') o) (F0 m pc ls (((.ref a :: as).reverse ++ r).map (z_v ρ))) (r.map (z_v ρ)) (z_Qr B D ρ cA o S1 ((.ref a :: as).map (z_v ρ)).toArray) (z_Qx B D ρ cA o S1) (fun q => B ≤ q) := by
  obtain ⟨hx, hb, hml, hown, hts, hE, hAp, hRf, hRl⟩ := hctx
  obtain ⟨hin, hy, hpar, hL30, -⟩ := z_okM_ok hm
  exact zn_runVN (As := as.map (z_v ρ)) (b := ρ a) (C := (z_m m').1.cls) (Ts := z_tb) (own := own) (index := i) (host := "SlipRoom") (y := (z_m m').1) (bytes := (z_m m').2.1) (maxL := (z_m m').2.2.1) (ret := (z_m m').2.2.2.1) (ws := z_ws m') ⟨hx, hb, hml, hown, hts⟩ hC ⟨va_cnB ((z_mi.getD m' (0, 0, 0, 0, 0)).2.2.2.2) hts (z_goodIn (z_ws_tb hm)) (z_ws_code hiw) rfl rfl (hE.2.1 _ hl) (hts _ hin) ⟨hy.1, hy.2, hpar⟩ ⟨by simp only [z_rm]; omega, by simp only [z_rm]; omega⟩, hts _ hs, hts _ hse⟩ ⟨z_Pc.blind, z_recv hE hw hci hO (hcl2.trans hcl.symm), hw.pre hE⟩ rfl (by simp [hn]) hls.1 (by simp [z_v]) (z_hWs hr8) hd hcell
end ZC
end
section
/-! facts on the classes' tables, decided -/
theorem z_ftg_le : ∀ c, c < 10 → ∀ k, k < z_nf c → (z_ftg c k).1 ≤ 3 := by decide +kernel
def z_ty (c k : Nat) : FieldType := (parseFieldDescriptor (z_TT c k).2.2.1).getD .int
theorem z_ty_ok : ∀ c, c < 10 → ∀ k, k < z_nf c → parseFieldDescriptor (z_TT c k).2.2.1 = some (z_ty c k) := by decide +kernel
theorem z_nm_ok : ∀ c, c < 10 → ∀ a, a < z_nf c → ∀ b, b < z_nf c → a ≠ b → (z_TT c a).2.1 ≠ (z_TT c b).2.1 := by decide +kernel
theorem z_cls_TT : ∀ c, c < 10 → z_cls[c]? = some (z_own.getD c "", z_TT c, z_nf c) := by
  intro c h
  have hc2 : c = 0 ∨ c = 1 ∨ c = 2 ∨ c = 3 ∨ c = 4 ∨ c = 5 ∨ c = 6 ∨ c = 7 ∨ c = 8 ∨ c = 9 := by omega
  rcases hc2 with rfl | rfl | rfl | rfl | rfl | rfl | rfl | rfl | rfl | rfl <;> rfl
theorem z_uw_0 : ((u_ws (z_own.getD 0 "") (z_TT 0) (z_nf 0)).zip ([330, 332, 334] : List Nat)).all (fun q => z_inT q.1 q.2) = true := by decide +kernel
theorem z_uw_1 : ((u_ws (z_own.getD 1 "") (z_TT 1) (z_nf 1)).zip ([284, 286, 288, 290, 292, 294, 296, 298, 300, 302, 304, 306, 308, 310, 312, 314, 316] : List Nat)).all (fun q => z_inT q.1 q.2) = true := by decide +kernel
theorem z_uw_2 : ((u_ws (z_own.getD 2 "") (z_TT 2) (z_nf 2)).zip ([233, 235, 237, 239] : List Nat)).all (fun q => z_inT q.1 q.2) = true := by decide +kernel
theorem z_uw_3 : ((u_ws (z_own.getD 3 "") (z_TT 3) (z_nf 3)).zip ([162, 164, 166, 168, 170, 172, 174, 176, 178, 180, 182, 184] : List Nat)).all (fun q => z_inT q.1 q.2) = true := by decide +kernel
theorem z_uw_4 : ((u_ws (z_own.getD 4 "") (z_TT 4) (z_nf 4)).zip ([406, 408] : List Nat)).all (fun q => z_inT q.1 q.2) = true := by decide +kernel
theorem z_uw_5 : ((u_ws (z_own.getD 5 "") (z_TT 5) (z_nf 5)).zip ([353, 355, 357, 359, 361, 363, 365, 367, 369, 371] : List Nat)).all (fun q => z_inT q.1 q.2) = true := by decide +kernel
theorem z_uw_6 : ((u_ws (z_own.getD 6 "") (z_TT 6) (z_nf 6)).zip ([214, 216, 218, 220, 222, 224, 226] : List Nat)).all (fun q => z_inT q.1 q.2) = true := by decide +kernel
theorem z_uw_7 : ((u_ws (z_own.getD 7 "") (z_TT 7) (z_nf 7)).zip ([387, 389, 391, 393] : List Nat)).all (fun q => z_inT q.1 q.2) = true := by decide +kernel
theorem z_uw_8 : ((u_ws (z_own.getD 8 "") (z_TT 8) (z_nf 8)).zip ([424, 426, 428, 430, 432, 434, 436, 438, 440, 442, 444, 446, 448] : List Nat)).all (fun q => z_inT q.1 q.2) = true := by decide +kernel
theorem z_uw_9 : ((u_ws (z_own.getD 9 "") (z_TT 9) (z_nf 9)).zip ([1237, 1239, 1241, 1243, 1245, 1247, 1249, 1251, 1253, 1255, 1257, 1259, 1261, 1263, 1265, 1267, 1269, 1271, 1273, 1275, 1277, 1279, 1281, 1283, 1285, 1287, 1289, 1291, 1293, 1295, 1297, 1299, 1301, 1303, 1305, 1307, 1309, 1311, 1313, 1315, 1317, 1319, 1321, 1323, 1325, 1327, 1329, 1331, 1333, 1335, 1337, 1339, 1341, 1343, 1345, 1347, 1349, 1351, 1353, 1355, 1357, 1359, 1361, 1363, 1365, 1367, 1369, 1371, 1373, 1375, 1377] : List Nat)).all (fun q => z_inT q.1 q.2) = true := by decide +kernel
theorem z_uw_of {l : List Cond} {ix : List Nat} (hl : l.length = ix.length) (h : (l.zip ix).all (fun q => z_inT q.1 q.2) = true) : ∀ w ∈ l, w ∈ z_tb := by
  intro w hw
  obtain ⟨j, hj⟩ := List.getElem?_of_mem hw
  have hjl : j < l.length := (List.getElem?_eq_some_iff.mp hj).1
  have hx : ix[j]? = some (ix[j]'(by omega)) := List.getElem?_eq_getElem _
  have hz : (l.zip ix)[j]? = some (w, ix[j]'(by omega)) := by
    rw [List.getElem?_zip_eq_some]; exact ⟨hj, hx⟩
  exact z_inT_ok (List.all_eq_true.mp h _ (List.mem_of_getElem? hz))
theorem z_uw (c : Nat) (h : c < 10) : ∀ w ∈ u_ws (z_own.getD c "") (z_TT c) (z_nf c), w ∈ z_tb := by
  have hc2 : c = 0 ∨ c = 1 ∨ c = 2 ∨ c = 3 ∨ c = 4 ∨ c = 5 ∨ c = 6 ∨ c = 7 ∨ c = 8 ∨ c = 9 := by omega
  rcases hc2 with rfl | rfl | rfl | rfl | rfl | rfl | rfl | rfl | rfl | rfl
  · exact z_uw_of (by decide +kernel) z_uw_0
  · exact z_uw_of (by decide +kernel) z_uw_1
  · exact z_uw_of (by decide +kernel) z_uw_2
  · exact z_uw_of (by decide +kernel) z_uw_3
  · exact z_uw_of (by decide +kernel) z_uw_4
  · exact z_uw_of (by decide +kernel) z_uw_5
  · exact z_uw_of (by decide +kernel) z_uw_6
  · exact z_uw_of (by decide +kernel) z_uw_7
  · exact z_uw_of (by decide +kernel) z_uw_8
  · exact z_uw_of (by decide +kernel) z_uw_9
theorem z_acN : Cond.native arraycopyName ∈ z_tb := z_inT_ok (ti := 478) (by decide +kernel)
theorem z_acS : Cond.static arraycopyName ∈ z_tb := z_inT_ok (ti := 477) (by decide +kernel)
theorem z_acI : Cond.initialized "java/lang/System" ∈ z_tb := z_inT_ok (ti := 108) (by decide +kernel)
end
section
/-! one instruction: what the abstract machine does, the machine does -/
theorem z_okE_ok {cc : ByteArray} {own : String} {pc len : Nat} {i : Instr} {ops : List Nat} (h : z_okE cc own pc (i, len, ops) = true) (hi : i ≠ .athrow) : decode cc pc = .ok (i, len) ∧ (z_isSw i || Nat.beq len (z_il i)) = true ∧ z_okJ pc i = true ∧ z_okO own i ops = true := by
  unfold z_okE at h
  dsimp only at h
  split at h
  · exact absurd rfl hi
  · simp only [Bool.and_eq_true] at h
    exact ⟨z_dec_ok h.1.1.1, h.1.1.2, h.1.2, h.2⟩
theorem z_cnd {c : Bool} {A : z_Res} {o : z_Out × z_St} (h : cond c A none = some o) : c = true ∧ A = some o := by
  cases c with
  | true => exact ⟨rfl, h⟩
  | false => cases h
theorem z_cnd2 {c : Bool} {A : z_Res} {o : z_Out × z_St} (h : cond c none A = some o) : c = false ∧ A = some o := by
  cases c with
  | false => exact ⟨rfl, h⟩
  | true => cases h
theorem z_okO_get {own : String} {ix : Nat} {ops : List Nat} (h : z_okO own (.getfield ix) ops = true) : ∃ c k t v nest ti, ops = [c, k, t, v, nest, ti] ∧ ((c = 10 ∧ ((t = 4 ∧ z_okW own ix "letters" "Ljava/lang/String;" nest ti = true) ∨ (t = 5 ∧ z_okW own ix "value" "I" nest ti = true))) ∨ (c < 10 ∧ k < z_nf c ∧ z_ftg c k = (t, v) ∧ z_okF own ix c k nest ti = true)) := by
  unfold z_okO at h
  dsimp only at h
  split at h
  · rename_i c k t v nest ti
    refine ⟨c, k, t, v, nest, ti, rfl, ?_⟩
    cases hc : Nat.beq c 10 with
    | true =>
      rw [hc] at h
      refine Or.inl ⟨Nat.eq_of_beq_eq_true hc, ?_⟩
      cases ht : Nat.beq t 4 with
      | true => rw [ht] at h; exact Or.inl ⟨Nat.eq_of_beq_eq_true ht, h⟩
      | false =>
        rw [ht] at h
        simp only [cond_true, cond_false, Bool.and_eq_true] at h
        exact Or.inr ⟨Nat.eq_of_beq_eq_true h.1, h.2⟩
    | false =>
      rw [hc] at h
      simp only [cond_false, Bool.and_eq_true, decide_eq_true_eq] at h
      exact Or.inr ⟨Nat.blt_eq.mp h.1.1.1, Nat.blt_eq.mp h.1.1.2, h.1.2, h.2⟩
  · cases h
theorem z_okO_put {own : String} {ix : Nat} {ops : List Nat} (h : z_okO own (.putfield ix) ops = true) : ∃ c k t v nest ti, ops = [c, k, t, v, nest, ti] ∧ c < 10 ∧ k < z_nf c ∧ z_ftg c k = (t, v) ∧ z_okF own ix c k nest ti = true ∧ (z_TT c k).2.2.2 = false ∧ (t = 0 → parseFieldDescriptor (z_TT c k).2.2.1 = some (z_tyk t v)) ∧ (t ≠ 0 → ((parseFieldDescriptor (z_TT c k).2.2.1).map fun f => match f with | .object _ => true | _ => false) = some true) := by
  unfold z_okO at h
  dsimp only at h
  split at h
  · rename_i c k t v nest ti
    simp only [Bool.and_eq_true, decide_eq_true_eq, Bool.not_eq_true'] at h
    obtain ⟨⟨⟨⟨⟨h1, h2⟩, h3⟩, h4⟩, h5⟩, h6⟩ := h
    refine ⟨c, k, t, v, nest, ti, rfl, Nat.blt_eq.mp h1, Nat.blt_eq.mp h2, h3, h4, h5, ?_, ?_⟩
    · intro ht; subst ht; simpa using h6
    · intro ht
      have hb : Nat.beq t 0 = false := by
        cases hq : Nat.beq t 0 with
        | false => rfl
        | true => exact absurd (Nat.eq_of_beq_eq_true hq) ht
      rw [hb] at h6
      exact of_decide_eq_true h6
  · cases h
section ZM
variable {p : Program} {l : Launch} {e : Env} {R : Room} {s : State} {m : MethodId} {args : Array Value} {below : List Frame} {meth : Method} {c : Code} {Q : State → Prop} {B : Nat} {D : va_G} {ρ : Nat → Nat} {cA : Nat → ClassId} {nL : Nat}
variable {cc : ByteArray} {pc z : Nat} {L : z_Lo} {st r : List Value} {S : z_St} {own : String} {dd : Nat} {lm : Bool} {rt : Option FieldType} {hd0 : List (Nat × Int32)} {E : z_Ev} {K go : z_K} {out : z_Out × z_St}
theorem z_okF_link {i c k nest ti : Nat} (hts : ∀ w ∈ z_tb, w.before args s = true) (hnw : ∀ w ∈ z_nw, va_Nw w s) (h : z_okF own i c k nest ti = true) : (Cond.fieldLink own i (z_TT c k).1 (z_TT c k).2.1 (z_TT c k).2.2.1).before args s = true ∨ ∃ host, (Cond.fieldLinkNest own i (z_TT c k).1 (z_TT c k).2.1 (z_TT c k).2.2.1 host).before args s = true := by
  unfold z_okF at h
  cases hn : Nat.beq nest 0 with
  | true => rw [hn] at h; exact Or.inl (hts _ (z_inT_ok h))
  | false => rw [hn] at h; exact Or.inr ⟨_, va_Nw.use rfl (hnw _ (z_inN_ok h))⟩
theorem z_okW_link {i nest ti : Nat} {n d : String} (hts : ∀ w ∈ z_tb, w.before args s = true) (hnw : ∀ w ∈ z_nw, va_Nw w s) (h : z_okW own i n d nest ti = true) : (Cond.fieldLink own i "SlipRoom$Word" n d).before args s = true ∨ ∃ host, (Cond.fieldLinkNest own i "SlipRoom$Word" n d host).before args s = true := by
  unfold z_okW at h
  cases hn : Nat.beq nest 0 with
  | true => rw [hn] at h; exact Or.inl (hts _ (z_inT_ok h))
  | false => rw [hn] at h; exact Or.inr ⟨_, va_Nw.use rfl (hnw _ (z_inN_ok h))⟩
theorem zm_get (hctx : z_Ctx p l R s m args c B D ρ cA nL cc own dd) {ix len : Nat} {ops : List Nat} (hd : decode cc pc = .ok (.getfield ix, 3)) (ho : z_okO own (.getfield ix) ops = true) (h : z_o_getfield ops go pc z L st S = some out)
    (hgo : ∀ st', go (pc + 3) z L st' S = some out → z_J p l e R s m args below meth c Q B D ρ cA nL (pc + 3) z L st' S) : z_J p l e R s m args below meth c Q B D ρ cA nL pc z L st S := by
  obtain ⟨hx, hb, hml, hown, hts, hE, hAp, hRf, hRl⟩ := hctx
  obtain ⟨cc0, k, t, v, nest, ti, rfl, hcase⟩ := z_okO_get ho
  unfold z_o_getfield at h
  split at h
  · dsimp only at h
    rename_i a r0
    have hz9 := z_cnd h
    clear h
    obtain ⟨hO, h⟩ := hz9
    rcases hcase with ⟨rfl, hW⟩ | ⟨hc, hk, hf, hF⟩
    · obtain ⟨j, hj, rfl⟩ : ∃ j : Nat, j < 17 ∧ a = 1000 + j := by
        simp only [z_isO, Bool.and_eq_true] at hO
        have h1 : (1000 : Nat) ≤ a := Nat.le_of_ble_eq_true hO.1
        have h2 : Nat.lt a 1017 := Nat.blt_eq.mp hO.2
        exact ⟨a - 1000, Nat.sub_lt_left_of_lt_add h1 h2, (Nat.add_sub_cancel' h1).symm⟩
      obtain ⟨-, -, -, -, -, hlet, hval, -⟩ := hE.2.2.1
      rcases hW with ⟨rfl, hW⟩ | ⟨rfl, hW⟩
      · refine zj_getW hx hb (v := .ref (1000 + j + 200)) ?_ hown (z_okW_link hts hE.2.1 hW) hd (hgo _ h)
        have h9 := hlet j hj
        rw [show 1200 + j = 1000 + j + 200 by omega] at h9
        exact h9
      · refine zj_getW hx hb (v := .int (z_wv.getD (1000 + j - 1000) 0)) ?_ hown (z_okW_link hts hE.2.1 hW) hd (hgo _ h)
        have h9 := hval j hj
        rw [Nat.add_sub_cancel_left]
        exact h9
    · have ht := z_ftg_le cc0 hc k hk
      rw [hf] at ht
      have ht4 : t = 0 ∨ t = 1 ∨ t = 2 ∨ t = 3 := by have h9 : t ≤ 3 := ht; omega
      have hg : ∀ {w : Value}, z_fv ρ S.1 a cc0 k = z_v ρ w → z_J p l e R s m args below meth c Q B D ρ cA nL (pc + 3) z L (w :: r0) S → z_J p l e R s m args below meth c Q B D ρ cA nL pc z L (.ref a :: r0) S := fun hv hj => zj_get hx hb hts (z_cls_TT cc0 hc) (z_uw cc0 hc) hown hE.1 hc hO hk hd (z_okF_link hts hE.2.1 hF) hv hj
      rcases ht4 with rfl | rfl | rfl | rfl
      · exact hg (w := .int (S.1 a k)) (by simp [z_fv, hf, z_v]) (hgo _ h)
      · have hz9 := z_cnd2 h
        clear h
        obtain ⟨hne, h⟩ := hz9
        have hne2 : ¬ S.1 a k = -1 := by simpa using hne
        exact hg (w := .ref (S.1 a k).toNatClampNeg) (by simp [z_fv, hf, z_v, z_rv, hne2]) (hgo _ h)
      · exact hg (w := .ref (a + v)) (by simp [z_fv, hf, z_v]) (hgo _ h)
      · exact hg (w := .ref v) (by simp [z_fv, hf, z_v]) (hgo _ h)
  · cases h
theorem zm_put (hctx : z_Ctx p l R s m args c B D ρ cA nL cc own dd) {ix : Nat} {ops : List Nat} (hd : decode cc pc = .ok (.putfield ix, 3)) (ho : z_okO own (.putfield ix) ops = true) (h : z_o_putfield ops go pc z L st S = some out)
    (hgo : ∀ st' a k x, a < z_n → go (pc + 3) z L st' (z_w1 S.1 a k x, S.2) = some out → z_J p l e R s m args below meth c Q B D ρ cA nL (pc + 3) z L st' (z_w1 S.1 a k x, S.2)) : z_J p l e R s m args below meth c Q B D ρ cA nL pc z L st S := by
  obtain ⟨hx, hb, hml, hown, hts, hE, hAp, hRf, hRl⟩ := hctx
  obtain ⟨cc0, k, t, v, nest, ti, rfl, hc, hk, hf, hF, hfin, hp0, hp1⟩ := z_okO_put ho
  unfold z_o_putfield at h
  dsimp only at h
  split at h
  · rename_i x a r0
    have hz9 := z_cnd h
    clear h
    obtain ⟨hO, h⟩ := hz9
    simp only [Bool.and_eq_true] at hO
    obtain ⟨⟨hO, ht⟩, hnb⟩ := hO
    obtain rfl := Nat.eq_of_beq_eq_true ht
    have hty : z_ty cc0 k = z_tyk 0 v := Option.some.inj ((z_ty_ok cc0 hc k hk).symm.trans (hp0 rfl))
    refine zj_put hx hb (v := .int x) (x := x) (ty := z_ty cc0) hts (z_cls_TT cc0 hc) (z_uw cc0 hc) (z_ty_ok cc0 hc) (z_nm_ok cc0 hc) hown hE.1 hAp hc hO hk hd (z_okF_link hts hE.2.1 hF) hfin ?_ ?_ ?_ (hgo _ _ _ _ (z_isO_ok hc hO).1 h)
    · simp [z_fv, hf, z_v, z_w1_at, upd]
    · rw [hty]
      cases v with
      | zero => rfl
      | succ v =>
        simp only [z_nb, Bool.or_eq_true, decide_eq_true_eq] at hnb
        rcases hnb with rfl | rfl <;> rfl
    · rw [hty]
      cases v with
      | zero => rfl
      | succ v =>
        simp only [z_nb, Bool.or_eq_true, decide_eq_true_eq] at hnb
        rcases hnb with rfl | rfl <;> rfl
  · rename_i b a r0
    have hz9 := z_cnd h
    clear h
    obtain ⟨hO, h⟩ := hz9
    simp only [Bool.and_eq_true] at hO
    obtain ⟨⟨hO, ht⟩, hnb⟩ := hO
    obtain rfl := Nat.eq_of_beq_eq_true ht
    have hb2 : Nat.lt b 2000 := Nat.blt_eq.mp hnb
    have hb3 : Nat.lt b (2 ^ 31) := Nat.lt_trans hb2 (by decide)
    have hty := z_ty_ok cc0 hc k hk
    have hp := hp1 (by decide)
    rw [hty] at hp
    have hcl : (nI b).toNatClampNeg = b := nI_clamp hb3
    have hne : ¬ nI b = -1 := by
      intro q
      have := congrArg Int32.toInt q
      rw [nI_toInt hb3] at this
      have h2 : (-1 : Int32).toInt = -1 := by decide
      rw [h2] at this
      omega
    refine zj_put hx hb (v := .ref b) (x := nI b) (ty := z_ty cc0) hts (z_cls_TT cc0 hc) (z_uw cc0 hc) (z_ty_ok cc0 hc) (z_nm_ok cc0 hc) hown hE.1 hAp hc hO hk hd (z_okF_link hts hE.2.1 hF) hfin ?_ ?_ ?_ (hgo _ _ _ _ (z_isO_ok hc hO).1 h)
    · simp [z_fv, hf, z_v, z_w1_at, upd, z_rv, hne, hcl]
    · cases hq : z_ty cc0 k with
      | object n => rfl
      | _ => rw [hq] at hp; cases hp
    · cases hq : z_ty cc0 k with
      | object n => rfl
      | _ => rw [hq] at hp; cases hp
  · cases h
end ZM
end
section
/-! a call instruction -/
/-- what lies behind the program's own objects stays -/
def z_fr (S S' : z_St) : Prop := ∀ a, z_n ≤ a → S'.1 a = S.1 a
theorem z_fr.rf (S : z_St) : z_fr S S := fun _ _ => rfl
theorem z_fr.tr {S S' S2 : z_St} (h : z_fr S S') (h2 : z_fr S' S2) : z_fr S S2 := fun a ha => (h2 a ha).trans (h a ha)
theorem z_fr_w1 {S : z_St} {a i : Nat} {v : Int32} (h : a < z_n) : z_fr S (z_w1 S.1 a i v, S.2) := fun b hb => z_w1_ne (fun q => by rw [q] at hb; omega)
theorem z_fr_c1 {S : z_St} {a b i j k : Nat} (h : b < z_n) : z_fr S (z_c1 S.1 a b i j k, S.2) := fun x hx => by
  show z_c1 S.1 a b i j k x = S.1 x
  unfold z_c1
  rw [if_neg (fun q => by rw [q] at hx; omega)]
def z_zk (lm : Bool) (z : Nat) : Prop := (lm = false → z = 0) ∧ z ≤ 1000
theorem z_clv_ok {r : z_Res} {f : z_St → z_Res} {g : Nat → z_St → z_Res} {o : z_Out × z_St} (h : z_clv r f g = some o) : (∃ S1, r = some (.inl none, S1) ∧ f S1 = some o) ∨ ∃ ee S1, r = some (.inr ee, S1) ∧ g ee S1 = some o := by
  unfold z_clv at h
  split at h
  · exact Or.inl ⟨_, rfl, h⟩
  · exact Or.inr ⟨_, _, rfl, h⟩
  · cases h
theorem z_cli_ok {r : z_Res} {f : Int32 → z_St → z_Res} {g : Nat → z_St → z_Res} {o : z_Out × z_St} (h : z_cli r f g = some o) : (∃ x S1, r = some (.inl (some (.int x)), S1) ∧ f x S1 = some o) ∨ ∃ ee S1, r = some (.inr ee, S1) ∧ g ee S1 = some o := by
  unfold z_cli at h
  split at h
  · exact Or.inl ⟨_, _, rfl, h⟩
  · exact Or.inr ⟨_, _, rfl, h⟩
  · cases h
theorem z_clr_ok {r : z_Res} {f : Nat → z_St → z_Res} {g : Nat → z_St → z_Res} {o : z_Out × z_St} (h : z_clr r f g = some o) : (∃ x S1, r = some (.inl (some (.ref x)), S1) ∧ f x S1 = some o) ∨ ∃ ee S1, r = some (.inr ee, S1) ∧ g ee S1 = some o := by
  unfold z_clr at h
  split at h
  · exact Or.inl ⟨_, _, rfl, h⟩
  · exact Or.inr ⟨_, _, rfl, h⟩
  · cases h
section ZQ
variable {lm : Bool} {hd0 : List (Nat × Int32)} {E : z_Ev} {go : z_K} {m n rc rt ti pc z : Nat} {L : z_Lo} {st : List Value} {S : z_St}
def z_cb (lm : Bool) (hd0 : List (Nat × Int32)) (E : z_Ev) (go : z_K) (m rt pc z : Nat) (L : z_Lo) (as rest : List Value) (S : z_St) : z_Res := match rt with
  | 0 => z_clv (E m as S) (fun S1 => go (pc + 3) z L rest S1) (fun e S1 => cond lm none (z_hnd hd0 e S1))
  | 1 => z_cli (E m as S) (fun x S1 => go (pc + 3) z L (.int x :: rest) S1) (fun e S1 => cond lm none (z_hnd hd0 e S1))
  | 3 => z_clr (E m as S) (fun x S1 => go (pc + 3) z L (.ref x :: rest) S1) (fun e S1 => cond lm none (z_hnd hd0 e S1))
  | _ => none
def z_o1 (rc : Nat) (as : List Value) : Bool := match as with
  | .ref a :: _ => z_isO rc a
  | _ => false
def z_cB (k : List Value → List Value → z_Res) (n : Nat) (st : List Value) : z_Res := match z_pop n [] st with
  | some (as, rest) => cond (Nat.ble (z_cs rest) 8) (k as rest) none
  | none => none
theorem z_cB_ok {k : List Value → List Value → z_Res} {n : Nat} {st : List Value} {o : z_Out × z_St} (h : z_cB k n st = some o) : ∃ as rest, st = as.reverse ++ rest ∧ as.length = n ∧ z_cs rest ≤ 8 ∧ k as rest = some o := by
  unfold z_cB at h
  split at h
  · rename_i as rest hp
    obtain ⟨h1, h2⟩ := z_pop_nil hp
    obtain ⟨h3, h4⟩ := z_cnd h
    exact ⟨as, rest, h1, h2, Nat.le_of_ble_eq_true h3, h4⟩
  · cases h
theorem z_call0 : z_call lm hd0 E go [m, n, 0, rc, rt, ti] pc z L st S = z_cB (fun as rest => z_cb lm hd0 E go m rt pc z L as rest S) n st := rfl
theorem z_call1 : z_call lm hd0 E go [m, n, 1, rc, rt, ti] pc z L st S = z_cB (fun as rest => z_cb lm hd0 E go m rt pc z L as rest S) n st := rfl
theorem z_call2 : z_call lm hd0 E go [m, n, 2, rc, rt, ti] pc z L st S = z_cB (fun as rest => cond (z_o1 rc as) (z_cb lm hd0 E go m rt pc z L as rest S) none) n st := rfl
theorem z_call3 : z_call lm hd0 E go [m, n, 3, rc, rt, ti] pc z L st S = z_cB (fun as rest => cond (z_o1 rc as) (z_cb lm hd0 E go m rt pc z L as rest S) none) n st := rfl
theorem z_call4 : z_call lm hd0 E go [m, n, 4, rc, rt, ti] pc z L st S = z_cB (fun as rest => cond (lm && Nat.blt z 1000) (z_cli (E m as S) (fun x S1 => go (pc + 3) (z + 1) L (.int x :: rest) S1) (fun _ _ => none)) none) n st := rfl
def z_k6 (go : z_K) (pc z : Nat) (L : z_Lo) (S : z_St) (as rest : List Value) : z_Res := match as with
  | [.ref a, .int i, .ref b, .int j, .int k] =>
    cond (Nat.beq (z_at a) (z_at b) && !(Nat.beq a b) && !(decide (i < 0)) && !(decide (j < 0)) && !(decide (k < 0)) && decide (i.toNatClampNeg + k.toNatClampNeg ≤ z_ln a) && decide (j.toNatClampNeg + k.toNatClampNeg ≤ z_ln b)) (
      match z_at a with
      | 1 => go (pc + 3) z L rest (z_c1 S.1 a b i.toNatClampNeg j.toNatClampNeg k.toNatClampNeg, S.2)
      | 4 => go (pc + 3) z L rest (S.1, z_c2 S.2 a b i.toNatClampNeg j.toNatClampNeg k.toNatClampNeg)
      | _ => none) none
  | _ => none
theorem z_call6 : z_call lm hd0 E go [m, n, 6, rc, rt, ti] pc z L st S = z_cB (fun as rest => z_k6 go pc z L S as rest) n st := rfl
def z_k7 (go : z_K) (pc z : Nat) (L : z_Lo) (S : z_St) (as rest : List Value) : z_Res := match as with
  | [.ref a] => cond (Nat.ble 1200 a && Nat.blt a 1217) (go (pc + 3) z L (.int (nI ((z_tx.getD (a - 1200) []).length)) :: rest) S) none
  | _ => none
theorem z_call7 : z_call lm hd0 E go [m, n, 7, rc, rt, ti] pc z L st S = z_cB (fun as rest => z_k7 go pc z L S as rest) n st := rfl
def z_k8 (go : z_K) (pc z : Nat) (L : z_Lo) (S : z_St) (as rest : List Value) : z_Res := match as with
  | [.ref a, .int i] => cond (Nat.ble 1200 a && Nat.blt a 1217 && z_ix i (z_tx.getD (a - 1200) []).length) (go (pc + 3) z L (.int ((z_tx.getD (a - 1200) []).getD i.toNatClampNeg 0) :: rest) S) none
  | _ => none
theorem z_call8 : z_call lm hd0 E go [m, n, 8, rc, rt, ti] pc z L st S = z_cB (fun as rest => z_k8 go pc z L S as rest) n st := rfl
end ZQ
/-- what a call comes to: an answer and how it goes on -/
theorem z_cany {lm : Bool} {hd0 : List (Nat × Int32)} {E : z_Ev} {go : z_K} {m' pc z rt : Nat} {L : z_Lo} {as rest : List Value} {S : z_St} {out : z_Out × z_St}
    (h : z_cb lm hd0 E go m' rt pc z L as rest S = some out) :
    ∃ o S1, E m' as S = some (o, S1) ∧ ((∃ v : Option Value, o = .inl v ∧ go (pc + 3) z L (v.toList ++ rest) S1 = some out) ∨ ∃ ee, o = .inr ee ∧ lm = false ∧ z_hnd hd0 ee S1 = some out) := by
  have fin : ∀ {ee : Nat} {S1 : z_St}, cond lm none (z_hnd hd0 ee S1) = some out → lm = false ∧ z_hnd hd0 ee S1 = some out := fun h => z_cnd2 h
  unfold z_cb at h
  split at h
  · rcases z_clv_ok h with ⟨S1, h1, h2⟩ | ⟨ee, S1, h1, h2⟩
    · exact ⟨_, S1, h1, Or.inl ⟨none, rfl, h2⟩⟩
    · exact ⟨_, S1, h1, Or.inr ⟨ee, rfl, fin h2⟩⟩
  · rcases z_cli_ok h with ⟨x, S1, h1, h2⟩ | ⟨ee, S1, h1, h2⟩
    · exact ⟨_, S1, h1, Or.inl ⟨some (.int x), rfl, h2⟩⟩
    · exact ⟨_, S1, h1, Or.inr ⟨ee, rfl, fin h2⟩⟩
  · rcases z_clr_ok h with ⟨x, S1, h1, h2⟩ | ⟨ee, S1, h1, h2⟩
    · exact ⟨_, S1, h1, Or.inl ⟨some (.ref x), rfl, h2⟩⟩
    · exact ⟨_, S1, h1, Or.inr ⟨ee, rfl, fin h2⟩⟩
  · cases h
theorem z_okO_iv {own : String} {ix : Nat} {ops : List Nat} (h : z_okO own (.invokevirtual ix) ops = true) : ∃ m n kind rc rt ti, ops = [m, n, kind, rc, rt, ti] ∧ (kind = 7 ∨ kind = 8 ∨ (m < 211 ∧ n = (z_mi.getD m (0, 0, 0, 0, 0)).2.2.2.2 + 1 ∧ rc < 10 ∧ (z_m m).1.cls = z_own.getD rc "" ∧ (z_cls.getD rc ("", z_T0, 0)).1 = z_own.getD rc "" ∧ z_isw m = false ∧ ((kind = 2 ∧ Cond.methodLink own ix (z_m m).1 ∈ z_tb) ∨ (kind = 3 ∧ Cond.methodLinkNest own ix (z_m m).1 "SlipRoom" ∈ z_nw)) ∧ Cond.instanceMethod (z_m m).1 ∈ z_tb ∧ Cond.selects (z_m m).1.cls (z_m m).1 (z_m m).1 ∈ z_tb)) := by
  unfold z_okO at h
  dsimp only at h
  split at h
  · rename_i m n kind rc rt ti
    refine ⟨m, n, kind, rc, rt, ti, rfl, ?_⟩
    by_cases h7 : kind = 7
    · exact Or.inl h7
    · by_cases h8 : kind = 8
      · exact Or.inr (Or.inl h8)
      · have e7 : Nat.beq kind 7 = false := by
          cases hq : Nat.beq kind 7 with
          | false => rfl
          | true => exact absurd (Nat.eq_of_beq_eq_true hq) h7
        have e8 : Nat.beq kind 8 = false := by
          cases hq : Nat.beq kind 8 with
          | false => rfl
          | true => exact absurd (Nat.eq_of_beq_eq_true hq) h8
        rw [e7, e8] at h
        simp only [Bool.or_self, cond_false, Bool.and_eq_true, decide_eq_true_eq, Bool.not_eq_true'] at h
        obtain ⟨⟨⟨⟨⟨⟨⟨⟨h1, h2⟩, h3⟩, h4⟩, h5⟩, h6⟩, h9⟩, h10⟩, h11⟩ := h
        refine Or.inr (Or.inr ⟨Nat.blt_eq.mp h1, Nat.eq_of_beq_eq_true h2, Nat.blt_eq.mp h3, h4, h5, h6, ?_, z_inT_ok h10, z_inT_ok h11⟩)
        cases hk : Nat.beq kind 2 with
        | true => rw [hk] at h9; exact Or.inl ⟨Nat.eq_of_beq_eq_true hk, z_inT_ok h9⟩
        | false =>
          rw [hk] at h9
          simp only [cond_false, Bool.and_eq_true] at h9
          exact Or.inr ⟨Nat.eq_of_beq_eq_true h9.1, z_inN_ok h9.2⟩
  · cases h
theorem z_okO_is {own : String} {ix : Nat} {ops : List Nat} (h : z_okO own (.invokestatic ix) ops = true) : ∃ m n kind rc rt ti, ops = [m, n, kind, rc, rt, ti] ∧ ((kind = 6 ∧ Cond.methodLink own ix arraycopyName ∈ z_tb ∧ n = 5) ∨ (m < 211 ∧ n = (z_mi.getD m (0, 0, 0, 0, 0)).2.2.2.2 ∧ ((kind = 0 ∧ z_isw m = false ∧ Cond.methodLink own ix (z_m m).1 ∈ z_tb) ∨ (kind = 1 ∧ z_isw m = false ∧ Cond.methodLinkNest own ix (z_m m).1 "SlipRoom" ∈ z_nw) ∨ (kind = 4 ∧ z_isw m = true ∧ Cond.methodLink own ix (z_m m).1 ∈ z_tb)) ∧ Cond.static (z_m m).1 ∈ z_tb)) := by
  unfold z_okO at h
  dsimp only at h
  split at h
  · rename_i m n kind rc rt ti
    refine ⟨m, n, kind, rc, rt, ti, rfl, ?_⟩
    cases hk6 : Nat.beq kind 6 with
    | true =>
      rw [hk6] at h
      simp only [cond_true, Bool.and_eq_true] at h
      exact Or.inl ⟨Nat.eq_of_beq_eq_true hk6, z_inT_ok h.1, Nat.eq_of_beq_eq_true h.2⟩
    | false =>
      rw [hk6] at h
      simp only [cond_false, Bool.and_eq_true] at h
      obtain ⟨⟨⟨h1, h2⟩, h3⟩, h4⟩ := h
      refine Or.inr ⟨Nat.blt_eq.mp h1, Nat.eq_of_beq_eq_true h2, ?_, z_inT_ok h4⟩
      cases hk : Nat.beq kind 0 with
      | true =>
        rw [hk] at h3
        simp only [cond_true, Bool.and_eq_true, Bool.not_eq_true'] at h3
        exact Or.inl ⟨Nat.eq_of_beq_eq_true hk, h3.1, z_inT_ok h3.2⟩
      | false =>
        rw [hk] at h3
        cases hk1 : Nat.beq kind 1 with
        | true =>
          rw [hk1] at h3
          simp only [cond_true, cond_false, Bool.and_eq_true, Bool.not_eq_true'] at h3
          exact Or.inr (Or.inl ⟨Nat.eq_of_beq_eq_true hk1, h3.1, z_inN_ok h3.2⟩)
        | false =>
          rw [hk1] at h3
          simp only [cond_false, Bool.and_eq_true] at h3
          exact Or.inr (Or.inr ⟨Nat.eq_of_beq_eq_true h3.1.1, h3.1.2, z_inT_ok h3.2⟩)
  · cases h
def z_nwm (w : Cond) : Bool := match w with
  | .methodLinkNest _ _ y _ => !(decide (y.cls = "java/lang/Math"))
  | _ => true
theorem z_nwA : z_nw.all z_nwm = true := by decide +kernel
theorem z_nwM {own : String} {ix : Nat} {y : MethodName} {nm : String} (h : Cond.methodLinkNest own ix y nm ∈ z_nw) : y.cls ≠ "java/lang/Math" := by
  have := List.all_eq_true.mp z_nwA _ h
  simpa [z_nwm] using this
section ZD
variable {p : Program} {l : Launch} {e : Env} {R : Room} {s : State} {m : MethodId} {args : Array Value} {below : List Frame} {meth : Method} {c : Code} {Q : State → Prop} {B : Nat} {D : va_G} {ρ : Nat → Nat} {cA : Nat → ClassId} {nL : Nat}
variable {cc : ByteArray} {pc z : Nat} {L : z_Lo} {st r : List Value} {S : z_St} {own : String} {dd : Nat} {lm : Bool} {rt : Option FieldType} {hd0 : List (Nat × Int32)} {E : z_Ev} {K go : z_K} {out : z_Out × z_St}
/-- what is owed where a callee throws: room for the thing thrown, and the way on -/
def z_Xo (p : Program) (l : Launch) (e : Env) (R : Room) (s : State) (m : MethodId) (args : Array Value) (below : List Frame) (meth : Method) (c : Code) (Q : State → Prop) (B : Nat) (D : va_G) (ρ : Nat → Nat) (cA : Nat → ClassId) (nL : Nat) (hd0 : List (Nat × Int32)) (out : z_Out × z_St) (pc : Nat) (L : z_Lo) : Prop :=
  ∀ ee S1, z_hnd hd0 ee S1 = some out → 1 ≤ R.cells ∧ 6 ≤ R.slots ∧ ∀ (ls : Array Slot) (H : Heap) (locs : List Loc) (q : Addr) (ce : Cell) (rest : List Value), z_lr ρ ls nL L → z_Wd B D ρ cA S1 s H locs → H[q]? = some ce → ce.vm = .none → s.vm.findClass (z_en ee) = some ce.cls → vx_W p l e R s m args below meth c H locs 1 6 Q (F0 m pc ls rest) q
theorem zm_after {m' : Nat} {as rest : List Value} {o : z_Out} {S1 : z_St} (hfr : z_fr S S1) (hiw : z_isw m' = false) (hzk : z_zk lm z) (hstk : st = as.reverse ++ rest) (hRl : lm = true → 1001 ≤ R.cells ∧ 6006 ≤ R.slots)
    (hrun : (z + z_mcz (z_isw m') o ≤ R.cells ∧ 6 * z + 6 * z_mcz (z_isw m') o ≤ R.slots) → ∀ (ls : Array Slot) (H : Heap) (locs : List Loc), z_lr ρ ls nL L → z_Wd B D ρ cA S s H locs → vx_Run p l e R s m args below meth c H locs z (6 * z) (z_mcz (z_isw m') o) (6 * z_mcz (z_isw m') o) (F0 m pc ls ((as.reverse ++ rest).map (z_v ρ))) (rest.map (z_v ρ)) (z_Qr B D ρ cA o S1 (as.map (z_v ρ)).toArray) (z_Qx B D ρ cA o S1) (fun q => B ≤ q))
    (hres : (∃ v : Option Value, o = .inl v ∧ go (pc + 3) z L (v.toList ++ rest) S1 = some out) ∨ ∃ ee, o = .inr ee ∧ lm = false ∧ z_hnd hd0 ee S1 = some out)
    (hgo : ∀ z' st' S', z_zk lm z' → z_fr S S' → go (pc + 3) z' L st' S' = some out → z_J p l e R s m args below meth c Q B D ρ cA nL (pc + 3) z' L st' S') (hX : lm = false → z_Xo p l e R s m args below meth c Q B D ρ cA nL hd0 out pc L) : z_J p l e R s m args below meth c Q B D ρ cA nL pc z L st S := by
  subst hstk
  rw [hiw] at hrun
  rcases hres with ⟨v, rfl, hg⟩ | ⟨ee, rfl, hlm, hh⟩
  · have hcell : z + z_mcz false (.inl v : z_Out) ≤ R.cells ∧ 6 * z + 6 * z_mcz false (.inl v : z_Out) ≤ R.slots := by
      simp only [z_mcz, cond_false]
      cases hlm : lm with
      | false => rw [hzk.1 hlm]; omega
      | true => have := hRl hlm; have := hzk.2; omega
    refine zj_call (hrun hcell) (fun w hw => ?_) (fun ee he => by cases he)
    cases hw
    exact hgo z _ _ hzk hfr hg
  · obtain ⟨k1, k2, k3⟩ := hX hlm ee S1 hh
    obtain rfl := hzk.1 hlm
    have hcell : 0 + z_mcz false (.inr ee : z_Out) ≤ R.cells ∧ 6 * 0 + 6 * z_mcz false (.inr ee : z_Out) ≤ R.slots := by
      simp only [z_mcz]; omega
    refine zj_call (hrun hcell) (fun w hw => by cases hw) (fun e2 he => ?_)
    cases he
    intro ls H locs q ce h1 h2 h3 h4 h5
    exact k3 ls H locs q ce _ h1 h2 h3 h4 h5
/-- calls that the program's texts have: both of strings -/
def z_So1 (p : Program) (l : Launch) (e : Env) (R : Room) (s : State) (m : MethodId) (args : Array Value) (below : List Frame) (meth : Method) (c : Code) (Q : State → Prop) (B : Nat) (D : va_G) (ρ : Nat → Nat) (cA : Nat → ClassId) (nL : Nat) (pc : Nat) : Prop :=
  ∀ (z : Nat) (L : z_Lo) (rest : List Value) (S : z_St) (a : Nat), Nat.ble 1200 a = true → Nat.blt a 1217 = true → z_cs rest ≤ 8 → z ≤ R.cells ∧ 6 * z ≤ R.slots → z_J p l e R s m args below meth c Q B D ρ cA nL (pc + 3) z L (.int (nI ((z_tx.getD (a - 1200) []).length)) :: rest) S → z_J p l e R s m args below meth c Q B D ρ cA nL pc z L (.ref a :: rest) S
def z_So2 (p : Program) (l : Launch) (e : Env) (R : Room) (s : State) (m : MethodId) (args : Array Value) (below : List Frame) (meth : Method) (c : Code) (Q : State → Prop) (B : Nat) (D : va_G) (ρ : Nat → Nat) (cA : Nat → ClassId) (nL : Nat) (pc : Nat) : Prop :=
  ∀ (z : Nat) (L : z_Lo) (rest : List Value) (S : z_St) (a : Nat) (x : Int32), Nat.ble 1200 a = true → Nat.blt a 1217 = true → z_ix x (z_tx.getD (a - 1200) []).length = true → z_cs rest ≤ 8 → z ≤ R.cells ∧ 6 * z ≤ R.slots → z_J p l e R s m args below meth c Q B D ρ cA nL (pc + 3) z L (.int ((z_tx.getD (a - 1200) []).getD x.toNatClampNeg 0) :: rest) S → z_J p l e R s m args below meth c Q B D ρ cA nL pc z L (.int x :: .ref a :: rest) S
theorem zm_callV (hctx : z_Ctx p l R s m args c B D ρ cA nL cc own dd) {ix : Nat} {ops : List Nat} (hd : decode cc pc = .ok (.invokevirtual ix, 3)) (ho : z_okO own (.invokevirtual ix) ops = true) (hzk : z_zk lm z) (h : z_call lm hd0 E go ops pc z L st S = some out) (hRl : lm = true → 1001 ≤ R.cells ∧ 6006 ≤ R.slots)
    (hgo : ∀ z' st' S', z_zk lm z' → z_fr S S' → go (pc + 3) z' L st' S' = some out → z_J p l e R s m args below meth c Q B D ρ cA nL (pc + 3) z' L st' S')
    (hC : ∀ m' as S o S1, m' < 211 → m' ≠ 187 → m' ≠ 188 → (z_isw m' = true → ∃ v, o = .inl v) → E m' as S = some (o, S1) → z_C l B D ρ cA dd m' as S o S1) (hst : ∀ m', m' = 187 ∨ m' = 188 → Cond.instanceMethod (z_m m').1 ∉ z_tb)
    (hF : ∀ m' as S o S1, m' < 211 → E m' as S = some (o, S1) → z_fr S S1) (hX : lm = false → z_Xo p l e R s m args below meth c Q B D ρ cA nL hd0 out pc L) (hS : ∀ kind (q : ∃ m' n rc rt ti, ops = [m', n, kind, rc, rt, ti]), (kind = 7 → z_So1 p l e R s m args below meth c Q B D ρ cA nL pc) ∧ (kind = 8 → z_So2 p l e R s m args below meth c Q B D ρ cA nL pc)) : z_J p l e R s m args below meth c Q B D ρ cA nL pc z L st S := by
  obtain ⟨m', n, kind, rc, rt0, ti, rfl, hcase⟩ := z_okO_iv ho
  have hcz : z ≤ R.cells ∧ 6 * z ≤ R.slots := by
    cases hlm : lm with
    | false => rw [hzk.1 hlm]; omega
    | true => have := hRl hlm; have := hzk.2; omega
  rcases hcase with rfl | rfl | ⟨hm, hn, hrc, hcl, hcl2, hiw, hk, hin, hse⟩
  · rw [z_call7] at h
    obtain ⟨as, rest, hst0, hlen, hr8, h⟩ := z_cB_ok h
    unfold z_k7 at h
    split at h
    · obtain ⟨ha, h⟩ := z_cnd h
      simp only [Bool.and_eq_true] at ha
      rw [hst0]
      exact (hS 7 ⟨_, _, _, _, _, rfl⟩).1 rfl z L rest S _ ha.1 ha.2 hr8 hcz (hgo z _ _ hzk (z_fr.rf _) h)
    · cases h
  · rw [z_call8] at h
    obtain ⟨as, rest, hst0, hlen, hr8, h⟩ := z_cB_ok h
    unfold z_k8 at h
    split at h
    · obtain ⟨ha, h⟩ := z_cnd h
      simp only [Bool.and_eq_true] at ha
      rw [hst0]
      exact (hS 8 ⟨_, _, _, _, _, rfl⟩).2 rfl z L rest S _ _ ha.1.1 ha.1.2 ha.2 hr8 hcz (hgo z _ _ hzk (z_fr.rf _) h)
    · cases h
  · have hne1 : m' ≠ 187 := fun q => hst m' (Or.inl q) hin
    have hne2 : m' ≠ 188 := fun q => hst m' (Or.inr q) hin
    rcases hk with ⟨rfl, hl⟩ | ⟨rfl, hl⟩
    · rw [z_call2] at h
      obtain ⟨as, rest, hst0, hlen, hr8, h⟩ := z_cB_ok h
      obtain ⟨hb1, h⟩ := z_cnd h
      obtain ⟨o, S1, hE1, hres⟩ := z_cany h
      unfold z_o1 at hb1
      split at hb1
      · rename_i a tl
        refine zm_after (hF m' _ S o S1 hm hE1) hiw hzk hst0 hRl (fun hcell ls H locs h1 h2 => zm_run2 hctx hm (hC m' _ S o S1 hm hne1 hne2 (fun q => absurd (hiw.symm.trans q) (by decide)) hE1) hiw (by simp at hlen; omega) hrc hb1 hcl hcl2 hl hin hse hr8 hd hcell ls H locs h1 h2) hres hgo hX
      · cases hb1
    · rw [z_call3] at h
      obtain ⟨as, rest, hst0, hlen, hr8, h⟩ := z_cB_ok h
      obtain ⟨hb1, h⟩ := z_cnd h
      obtain ⟨o, S1, hE1, hres⟩ := z_cany h
      unfold z_o1 at hb1
      split at hb1
      · rename_i a tl
        refine zm_after (hF m' _ S o S1 hm hE1) hiw hzk hst0 hRl (fun hcell ls H locs h1 h2 => zm_run3 hctx hm (hC m' _ S o S1 hm hne1 hne2 (fun q => absurd (hiw.symm.trans q) (by decide)) hE1) hiw (by simp at hlen; omega) hrc hb1 hcl hcl2 hl hin hse hr8 hd hcell ls H locs h1 h2) hres hgo hX
      · cases hb1
theorem zm_callS (hctx : z_Ctx p l R s m args c B D ρ cA nL cc own dd) {ix : Nat} {ops : List Nat} (hd : decode cc pc = .ok (.invokestatic ix, 3)) (ho : z_okO own (.invokestatic ix) ops = true) (hzk : z_zk lm z) (h : z_call lm hd0 E go ops pc z L st S = some out) (hRl : lm = true → 1001 ≤ R.cells ∧ 6006 ≤ R.slots)
    (hgo : ∀ z' st' S', z_zk lm z' → z_fr S S' → go (pc + 3) z' L st' S' = some out → z_J p l e R s m args below meth c Q B D ρ cA nL (pc + 3) z' L st' S')
    (hC : ∀ m' as S o S1, m' < 211 → m' ≠ 187 → m' ≠ 188 → (z_isw m' = true → ∃ v, o = .inl v) → E m' as S = some (o, S1) → z_C l B D ρ cA dd m' as S o S1)
    (hM7 : ∀ as S o S1, as.length = 2 → E 187 as S = some (o, S1) → ∃ x y, as = [.int x, .int y] ∧ o = .inl (some (.int (if x < y then y else x))) ∧ S1 = S) (hM8 : ∀ as S o S1, as.length = 2 → E 188 as S = some (o, S1) → ∃ x y, as = [.int x, .int y] ∧ o = .inl (some (.int (if y < x then y else x))) ∧ S1 = S)
    (hF : ∀ m' as S o S1, m' < 211 → E m' as S = some (o, S1) → z_fr S S1) (hX : lm = false → z_Xo p l e R s m args below meth c Q B D ρ cA nL hd0 out pc L) : z_J p l e R s m args below meth c Q B D ρ cA nL pc z L st S := by
  obtain ⟨m', n, kind, rc, rt0, ti, rfl, hcase⟩ := z_okO_is ho
  have hcz : z ≤ R.cells ∧ 6 * z ≤ R.slots := by
    cases hlm : lm with
    | false => rw [hzk.1 hlm]; omega
    | true => have := hRl hlm; have := hzk.2; omega
  rcases hcase with ⟨rfl, hl, -⟩ | ⟨hm, hn, hk, hs⟩
  · rw [z_call6] at h
    obtain ⟨as, rest, hst0, hlen, hr8, h⟩ := z_cB_ok h
    unfold z_k6 at h
    obtain ⟨hx, hb, hml, hown, hts, hE, hAp, hRf, hRl⟩ := hctx
    split at h
    · obtain ⟨ha, h⟩ := z_cnd h
      simp only [Bool.and_eq_true, Bool.not_eq_true', decide_eq_true_eq, decide_eq_false_iff_not] at ha
      obtain ⟨⟨⟨⟨⟨⟨a1, a2⟩, a3⟩, a4⟩, a5⟩, a6⟩, a7⟩ := ha
      have a1' := Nat.eq_of_beq_eq_true a1
      rw [hst0]
      split at h
      · rename_i he
        exact zj_cp1 hx hb hml hE.1 hAp hown (hts _ hl) (hts _ z_acN) (hts _ z_acS) (hts _ z_acI) he (a1'.symm.trans he) a3 a4 a5 a6 a7 (by omega) hr8 (by omega) hd (hgo z _ _ hzk (z_fr_c1 (z_at_lt (by rw [← a1', he]; decide))) h)
      · rename_i he
        exact zj_cp2 hx hb hml hE.1 hAp hown (hts _ hl) (hts _ z_acN) (hts _ z_acS) (hts _ z_acI) he (a1'.symm.trans he) a3 a4 a5 a6 a7 (by omega) hr8 (by omega) hd (hgo z _ _ hzk (z_fr.rf _) h)
      · cases h
    · cases h
  · rcases hk with ⟨rfl, hiw, hl⟩ | ⟨rfl, hiw, hl⟩ | ⟨rfl, hiw, hl⟩
    · rw [z_call0] at h
      obtain ⟨as, rest, hst0, hlen, hr8, h⟩ := z_cB_ok h
      obtain ⟨o, S1, hE1, hres⟩ := z_cany h
      by_cases h7 : m' = 187
      · subst h7
        obtain ⟨x, y, rfl, rfl, rfl⟩ := hM7 _ _ _ _ (hlen.trans (hn.trans rfl)) hE1
        rcases hres with ⟨v, hv, hg⟩ | ⟨ee, he, -⟩
        · cases hv
          obtain ⟨hx, hb, hml, hown, hts, hE, hAp, hRf, hRl⟩ := hctx
          have hst1 : st = .int y :: .int x :: rest := hst0
          rw [hst1]
          intro ls H locs h1 h2
          exact va_mmax hx hb (by rw [hml]; exact h1.1.symm) hown (hts _ hl) (hts _ hs) (hts _ (z_okM_ok hm).1) (hts _ (z_cwA 187 hm)) (by omega) (by rw [z_csum]; omega) hcz.1 hcz.2 hd (hgo z _ _ hzk (z_fr.rf _) hg ls H locs h1 h2)
        · cases he
      · by_cases h8 : m' = 188
        · subst h8
          obtain ⟨x, y, rfl, rfl, rfl⟩ := hM8 _ _ _ _ (hlen.trans (hn.trans rfl)) hE1
          rcases hres with ⟨v, hv, hg⟩ | ⟨ee, he, -⟩
          · cases hv
            obtain ⟨hx, hb, hml, hown, hts, hE, hAp, hRf, hRl⟩ := hctx
            have hst1 : st = .int y :: .int x :: rest := hst0
            rw [hst1]
            intro ls H locs h1 h2
            exact va_mmin hx hb (by rw [hml]; exact h1.1.symm) hown (hts _ hl) (hts _ hs) (hts _ (z_okM_ok hm).1) (hts _ (z_cwA 188 hm)) (by omega) (by rw [z_csum]; omega) hcz.1 hcz.2 hd (hgo z _ _ hzk (z_fr.rf _) hg ls H locs h1 h2)
          · cases he
        · exact zm_after (hF m' _ S o S1 hm hE1) hiw hzk hst0 hRl (fun hcell ls H locs h1 h2 => zm_run0 hctx hm (hC m' _ S o S1 hm h7 h8 (fun q => absurd (hiw.symm.trans q) (by decide)) hE1) hiw (hlen.trans hn) hl hs hr8 hd hcell ls H locs h1 h2) hres hgo hX
    · rw [z_call1] at h
      obtain ⟨as, rest, hst0, hlen, hr8, h⟩ := z_cB_ok h
      obtain ⟨o, S1, hE1, hres⟩ := z_cany h
      by_cases h7 : m' = 187
      · subst h7
        exact absurd rfl (z_nwM hl)
      · by_cases h8 : m' = 188
        · subst h8
          exact absurd rfl (z_nwM hl)
        · exact zm_after (hF m' _ S o S1 hm hE1) hiw hzk hst0 hRl (fun hcell ls H locs h1 h2 => zm_run1 hctx hm (hC m' _ S o S1 hm h7 h8 (fun q => absurd (hiw.symm.trans q) (by decide)) hE1) hiw (hlen.trans hn) hl hs hr8 hd hcell ls H locs h1 h2) hres hgo hX
    · rw [z_call4] at h
      obtain ⟨as, rest, hst0, hlen, hr8, h⟩ := z_cB_ok h
      obtain ⟨hb1, h⟩ := z_cnd h
      simp only [Bool.and_eq_true] at hb1
      obtain ⟨hlm, hz1⟩ := hb1
      have hz2 : z < 1000 := Nat.blt_eq.mp hz1
      have hR := hRl hlm
      have hne : m' ≠ 187 ∧ m' ≠ 188 := by
        constructor
        · intro q; subst q; exact absurd hiw (by decide +kernel)
        · intro q; subst q; exact absurd hiw (by decide +kernel)
      rcases z_cli_ok h with ⟨x, S1, h1, h2⟩ | ⟨ee, S1, h1, h2⟩
      · have hC1 := hC m' _ S _ S1 hm hne.1 hne.2 (fun _ => ⟨_, rfl⟩) h1
        have hcell : z + z_mcz (z_isw m') (.inl (some (.int x)) : z_Out) ≤ R.cells ∧ 6 * z + 6 * z_mcz (z_isw m') (.inl (some (.int x)) : z_Out) ≤ R.slots := by
          rw [hiw]; simp only [z_mcz, cond_true]; omega
        rw [hst0]
        refine zj_call (fun ls H locs q1 q2 => zm_run4 hctx hm hC1 hiw (hlen.trans hn) hl hs hr8 hd hcell ls H locs q1 q2) (fun w hw => ?_) (fun ee he => by cases he)
        cases hw
        rw [hiw]
        exact hgo (z + 1) _ _ ⟨fun q => absurd (hlm.symm.trans q) (by decide), by omega⟩ (hF m' _ S _ S1 hm h1) h2
      · cases h2
end ZD
end
section
/-! a thing thrown by a callee and caught here: behind rows of the table that it passes -/
section ZK
variable {p : Program} {l : Launch} {e : Env} {R : Room} {s : State} {m : MethodId} {args : Array Value} {below : List Frame} {meth : Method} {c : Code} {H : Heap} {locs : List Loc} {cells slots : Nat} {Q : State → Prop} {ls : Array Slot} {rest : List Value}
/-- one row that covers the place and whose class is known: by whether the thing is of it -/
theorem z_goL {Qh : Handler → Pre} {Ec : CtlPost} {d : Bool} {acts : List Action} {S : State} {f : JFrame} {a : Addr} {x : ExceptionTableEntry} {t : List ExceptionTableEntry} {k : ClassId} {cell : Cell} {b : Bool} (hx : covers x f.pc = true) (h0 : x.catchType ≠ 0)
    (hl : S.vm.ClassLinks e.platform f.method.cls x.catchType k) (hcell : S.heap[a]? = some cell) (hobj : ∀ z, cell.vm ≠ .statics z) (hk : ∃ z, S.vm.classes[cell.cls]? = some z) (hc : ∃ z, S.vm.classes[k]? = some z) (hb : S.vm.assignable cell.cls k = b) :
    wp (findHandler.go f a (x :: t)) Qh Ec e d acts S ↔ cond b (Qh (.found x.handlerPc) d acts (S.setVm (S.vm.noted f.method.cls x.catchType (.cls k)))) (wp (findHandler.go f a t) Qh Ec e d acts (S.setVm (S.vm.noted f.method.cls x.catchType (.cls k)))) := by
  simp only [covers] at hx
  obtain ⟨ha, ht⟩ := (resolveClass_links e.toSetting hl).op (op := VmOp.resolveClass f.method.cls x.catchType) rfl
  have hal : S.vm.Alike (S.vm.noted f.method.cls x.catchType (.cls k)) := (Vm.Alike.refl S.vm).noted _ _ _
  obtain ⟨k1, hk1⟩ := hk
  obtain ⟨k2, hk2⟩ := hc
  obtain ⟨k1', hk1', -⟩ := hal.2.2 _ _ hk1
  obtain ⟨k2', hk2', -⟩ := hal.2.2 _ _ hk2
  have hb' : (S.vm.noted f.method.cls x.catchType (.cls k)).assignable cell.cls k = b := by rw [hal.assignable]; exact hb
  cases b with
  | true => simp [findHandler.go, hx, h0, ha, ht, hcell, hobj, hk1', hk2', hb', VmOp.dirties, VmOp.acts]
  | false => simp [findHandler.go, hx, h0, ha, ht, hcell, hobj, hk1', hk2', hb', VmOp.dirties, VmOp.acts]
/-- a row of the table with its class, and whether the thing is of it -/
def z_Row (own : String) (E : String) (args : Array Value) (s : State) (pc : Nat) (b : Bool) (x : ExceptionTableEntry) : Prop :=
  covers x pc = true ∧ x.catchType ≠ 0 ∧ ∃ nm : String, (Cond.classLink own x.catchType nm).before args s = true ∧ ∃ k t : ClassId, s.vm.findClass E = some k ∧ s.vm.findClass nm = some t ∧ s.vm.assignable k t = b
theorem z_goT {own E : String} {f : JFrame} {a : Addr} {cell : Cell} (hpl : e.platform.magicAccessors = ({} : Platform).magicAccessors) (hown : s.vm.findClass own = some f.method.cls) (hobj : ∀ z, cell.vm ≠ .statics z) (hcl : s.vm.findClass E = some cell.cls)
    (x : ExceptionTableEntry) (suf : List ExceptionTableEntry) (hx : z_Row own E args s f.pc true x) : ∀ (pre : List ExceptionTableEntry) (S : State), s.WarmedH S.vm → S.heap[a]? = some cell → (∀ y ∈ pre, z_Row own E args s f.pc false y) →
      ∃ vm', s.WarmedH vm' ∧ ∀ (Qh : Handler → Pre) (Ec : CtlPost) (d : Bool) (acts : List Action), wp (findHandler.go f a (pre ++ x :: suf)) Qh Ec e d acts S ↔ Qh (.found x.handlerPc) d acts (S.setVm vm') := by
  obtain ⟨k0, hk0, -⟩ := Vm.findClass_spec hcl
  have one : ∀ (b : Bool) (y : ExceptionTableEntry) (t : List ExceptionTableEntry) (S : State), s.WarmedH S.vm → S.heap[a]? = some cell → z_Row own E args s f.pc b y →
      ∃ vm', s.WarmedH vm' ∧ ∀ (Qh : Handler → Pre) (Ec : CtlPost) (d : Bool) (acts : List Action), wp (findHandler.go f a (y :: t)) Qh Ec e d acts S ↔ cond b (Qh (.found y.handlerPc) d acts (S.setVm vm')) (wp (findHandler.go f a t) Qh Ec e d acts (S.setVm vm')) := by
    intro b y t S hW hcell hy
    obtain ⟨h1, h2, nm, h3, k, t9, h4, h5, h6⟩ := hy
    cases Option.some.inj (h4.symm.trans hcl)
    obtain ⟨c6, hc6, hcl6⟩ := Cond.classLink_spec hown h3 e.platform hpl
    cases Option.some.inj (h5.symm.trans hc6)
    obtain ⟨dk, _, _, kt, hd, _, _, _, _, hkt, _, hopen⟩ := hcl6.here
    obtain ⟨k0', hk0', -⟩ := hW.alike.2.2 _ _ hk0
    obtain ⟨kt', hkt', -⟩ := hW.alike.2.2 _ _ hkt
    exact ⟨_, hW.noted hd hopen (State.rightAt_cls hcl6), fun Qh Ec d acts => z_goL h1 h2 (hW.classLinks hcl6) hcell hobj ⟨k0', hk0'⟩ ⟨kt', hkt'⟩ (by rw [hW.alike.assignable]; exact h6)⟩
  intro pre
  induction pre with
  | nil =>
    intro S hW hcell _
    obtain ⟨vm', h1, h2⟩ := one true x suf S hW hcell hx
    exact ⟨vm', h1, fun Qh Ec d acts => h2 Qh Ec d acts⟩
  | cons y ys ih =>
    intro S hW hcell hp
    obtain ⟨vm1, h1, h2⟩ := one false y (ys ++ x :: suf) S hW hcell (hp y List.mem_cons_self)
    obtain ⟨vm2, h3, h4⟩ := ih (S.setVm vm1) h1 hcell (fun z hz => hp z (List.mem_cons_of_mem _ hz))
    exact ⟨vm2, h3, fun Qh Ec d acts => (h2 Qh Ec d acts).trans (h4 Qh Ec d acts)⟩
theorem z_catch {pc : Nat} {own E : String} {ce : Cell} {q : Addr} (hown : s.vm.findClass own = some m.cls) (pre : List ExceptionTableEntry) (x : ExceptionTableEntry) (suf : List ExceptionTableEntry) (hsplit : c.exceptionTable.toList = pre ++ x :: suf)
    (hpass : ∀ y ∈ pre, z_Row own E args s pc false y) (hx : z_Row own E args s pc true x) (hcell : H[q]? = some ce) (hv : ce.vm = .none) (hcl : s.vm.findClass E = some ce.cls)
    (kk : W p l e R s m args below meth c H locs cells slots Q (F0 m x.handlerPc ls [.ref q])) : vx_W p l e R s m args below meth c H locs cells slots Q (F0 m pc ls rest) q := by
  intro T hT X
  have hpl : e.platform.magicAccessors = ({} : Platform).magicAccessors := by rw [X.admits.platform]
  obtain ⟨vm', hW', hq⟩ := z_goT (e := e) (f := F0 m pc ls rest) (a := q) (cell := ce) hpl hown (fun z h => by rw [hv] at h; cases h) hcl x suf hx pre ((T.setTop (F0 m pc ls rest)).pushFrame (.throwing q)) X.warmed (by show T.heap[q]? = some ce; rw [hT]; exact hcell) hpass
  obtain ⟨t, a1, b1⟩ := kk (T.setVm vm') hT (X.noted hW')
  refine ⟨t, ?_, b1⟩
  obtain ⟨hgo, hw⟩ := At.throwing (g := F0 m pc ls rest) X.here q
  refine Steps.head hgo hw ?_
  have hfind : ∀ (Qh : Handler → Pre) (Ec : CtlPost) (d : Bool) (acts : List Action), wp (findHandler (F0 m pc ls rest) q) Qh Ec e d acts ((T.setTop (F0 m pc ls rest)).pushFrame (.throwing q)) ↔ Qh (.found x.handlerPc) d acts (((T.setTop (F0 m pc ls rest)).pushFrame (.throwing q)).setVm vm') := by
    intro Qh Ec d acts
    rw [Jvm.W.findHandler_eq (meth := meth) (code := c) X.method' X.code, hsplit]
    exact hq Qh Ec d acts
  have hst : (stepThrowing e ((T.setTop (F0 m pc ls rest)).pushFrame (.throwing q)) q (.java (F0 m pc ls rest) :: T.frames.tail)).Is ((((T.setTop (F0 m pc ls rest)).pushFrame (.throwing q)).setVm vm').setFrames (.java { F0 m pc ls rest with pc := x.handlerPc, stack := [.ref q] } :: T.frames.tail)) [] := by
    simp only [stepThrowing, searchFrame, vmDo]
    generalize hr : Sem.go _ e false [] ((T.setTop (F0 m pc ls rest)).pushFrame (.throwing q)) = res
    obtain ⟨as, rfl, ha⟩ := Sem.eq_ok_of hr (a := Handler.found x.handlerPc) (s' := ((T.setTop (F0 m pc ls rest)).pushFrame (.throwing q)).setVm vm') (acts' := []) (by simp [hfind _ _ _ _])
    exact ⟨rfl, ha⟩
  rw [stepThread_throwing (frames_entered X.here.top _), hst.1]
  obtain ⟨g₀, hg⟩ := Option.isSome_iff_exists.mp X.here.top
  obtain ⟨r, hr⟩ := State.topJava?_eq_some.mp hg
  have hr' : (T.setVm vm').frames = .java g₀ :: r := hr
  rw [State.setTop_of_frames _ hr'] at a1
  have hsf : ∀ (u : State) (F G : List Frame), ((u.setFrames F).setVm vm').setFrames G = (u.setVm vm').setFrames G := by
    intro u F G
    have h1 : (u.setFrames F).setVm vm' = (u.setVm vm').setFrames F := rfl
    rw [h1, State.setFrames_setFrames]
  rw [hr, List.tail_cons, State.pushFrame, hsf, State.setTop_of_frames _ hr, hsf]
  exact a1
end ZK
end
section
/-! 'throw new E("text")' of the program's own, the class's own constructor calling its parent's by any entry (after the library's proofs for entry 7) -/
def z_ch (X : String) (ix : Nat) (rx : ByteArray) (Y : String) (r : List String) : List Cond := Bundle.passSAtoms X Y ix rx ++ Bundle.chainSAtoms Y r
def z_oa (own : String) (ic : Nat) (X : String) (ix : Nat) (rx : ByteArray) (Y : String) (r : List String) : List Cond :=
  Bundle.throwableAtoms ++ Bundle.throwableSAtoms ++ z_ch X ix rx Y r ++
  [.methodLink own ic (Bundle.initS X), .instantiable X 6, .castable X X, .selects X Bundle.tFill0 Bundle.tFill0, .selects X Bundle.tFill Bundle.tFill,
   .lays X Bundle.tN "cause" "Ljava/lang/Throwable;", .lays X Bundle.tN "stackTrace" Bundle.steD, .lays X Bundle.tN "suppressedExceptions" Bundle.listD, .lays X Bundle.tN "detailMessage" "Ljava/lang/String;",
   .isRef (.static Bundle.tN "UNASSIGNED_STACK" Bundle.steD), .isRef (.static Bundle.tN "SUPPRESSED_SENTINEL" Bundle.listD),
   .fieldLink Bundle.tN 198 Bundle.tN "backtrace" "Ljava/lang/Object;", .lays Bundle.tN Bundle.tN "backtrace" "Ljava/lang/Object;", .lays X Bundle.tN "backtrace" "Ljava/lang/Object;"]
section ZT
variable {p : Program} {l : Launch} {e : Env} {R : Room} {s : State} {m : MethodId} {args : Array Value} {below : List Frame} {meth : Method} {c : Code} {H : Heap} {locs : List Loc} {cells slots : Nat}
theorem z_chain {pl : Platform} (hpl : pl.magicAccessors = ({} : Platform).magicAccessors) {top : MethodId} (htop : s.methodNamed? (Bundle.initS Bundle.tN) = some top) {ix : Nat} {rx : ByteArray} (x0 : decode rx 0 = .ok (.aload_n 0, 1)) (x1 : decode rx 1 = .ok (.aload_n 1, 1)) (x2 : decode rx 2 = .ok (.invokespecial ix, 3)) (x5 : decode rx 5 = .ok (.return_, 1))
    {X Y : String} {r : List String} (hX : Bundle.fit X = true) (hY : Bundle.fit Y = true) (hr : ∀ n ∈ r, Bundle.fit n = true) (h : ∀ w ∈ z_ch X ix rx Y r, w.before args s = true) :
    ∃ (P1 : PassC) (Ps : List PassC), Ps.length = (Y :: r).length ∧ P1.LinksS pl s ∧ (∀ P, P ∈ Ps → P.LinksS pl s) ∧ s.methodNamed? (Bundle.initS X) = some P1.m ∧ P1.sup = firstOf top (Ps.map (·.toPassT)) ∧ PassesOn top (Ps.map (·.toPassT)) := by
  obtain ⟨P, L, hm, hs⟩ := PassC.ofS_atoms (args := args) (s := s) hpl (X := X) (Y := Y) (Bundle.fit_spec hX).1 (Bundle.fit_spec hY).2 x0 x1 x2 x5 (fun w hw => h w (List.mem_append_left _ hw))
  obtain ⟨P', Ps, hlen, L', hL, hm', hsup, hpass⟩ := Bundle.chainS (args := args) hpl htop r Y hY hr (fun w hw => h w (List.mem_append_right _ hw))
  refine ⟨P, P' :: Ps, by simp [hlen], L, ?_, hm, Option.some.inj (hs.symm.trans hm'), hsup, hpass⟩
  intro Q hQ
  rcases List.mem_cons.mp hQ with rfl | hQ
  · exact L'
  · exact hL Q hQ
set_option maxHeartbeats 1000000 in
theorem z_ctor {Z0 : State} (X : Stand p l e R s m args below meth c Z0 locs cells slots) (hexec : p.tables.exec = Jvm.exec) (htr : e.platform.stackTraces = false) {own cls Y0 : String} {names : List String} {ic ix : Nat} {rx : ByteArray} (x0 : decode rx 0 = .ok (.aload_n 0, 1)) (x1 : decode rx 1 = .ok (.aload_n 1, 1)) (x2 : decode rx 2 = .ok (.invokespecial ix, 3)) (x5 : decode rx 5 = .ok (.return_, 1))
    (hown : s.vm.findClass own = some m.cls) (hcls : Bundle.fit cls = true) (hY0 : Bundle.fit Y0 = true) (hnames : ∀ n ∈ names, Bundle.fit n = true)
    (h : ∀ a ∈ z_oa own ic cls ix rx Y0 names, a.before args s = true)
    (hlocs : ∀ x ∈ locs, ∀ cell, s.heap[x.base]? = some cell → cell.vm.isStatics = false)
    {a : Addr} {cX : ClassId} {kX : Class} (hfoundX : s.vm.findClass cls = some cX) (hkX : s.vm.classes[cX]? = some kX) (hcell : Z0.heap[a]? = some (freshCell cX kX)) (hnew : s.heap.size ≤ a)
    {msg : Value} (hmsg : msg.isRef = true)
    {g : JFrame} (hg : g.method = m) (hsize : g.locals.size = c.maxLocals) (hlocked : g.locked = none) (hentered : g.entered = []) {rest : List Value} (hstack : g.stack = msg :: .ref a :: .ref a :: rest)
    (hd6 : decode c.code g.pc = .ok (.invokespecial ic, 3)) (hd9 : decode c.code (g.pc + 3) = .ok (.athrow, 1)) (hout : ∀ x ∈ c.exceptionTable.toList, covers x (g.pc + 3) = false)
    (hRframes : names.length + 4 < R.frames) (hRlocals : 2 * g.monitorRoom + ((Value.ref a :: rest).map fun v => v.category).sum + (13 * (names.length + 2) + 42) ≤ R.locals) (hlocks : meth.locks = false) :
    ∃ U : State, Steps p.tables e below (Z0.setTop g) U ∧ U.status = .running ∧ Ended U below (.threw a) ∧ s.WarmedH U.vm ∧ s.sameButNew ({ U with vm := s.vm } : State) locs cells slots ∧
      ∃ ce, U.heap[a]? = some ce ∧ s.vm.findClass cls = some ce.cls ∧ ce.vm = .none := by
  have howns : e.platform.frameOwnsMonitors = true := by rw [X.admits.platform]
  have hfin : e.platform.finalization = false := by rw [X.admits.platform]
  have hpl : e.platform.magicAccessors = ({} : Platform).magicAccessors := by rw [X.admits.platform]
  have a' : ∀ x, x ∈ z_oa own ic cls ix rx Y0 names → x.holds args s none s [] = true := fun x hx => h x hx
  obtain ⟨T, Zt, L, -, Y⟩ := ThrowableC.of_atoms (args := args) howns hfin hpl (fun x hx => h x (by simp [z_oa, hx]))
  obtain ⟨Z, M, LZ, LM, hnZ⟩ := Init0T.ofS_atoms (args := args) hpl L Y (fun x hx => h x (by simp [z_oa, hx]))
  obtain ⟨P1, Ps, hlen, L1, hL, hP1m, hlink1, hlink⟩ := z_chain (args := args) hpl hnZ x0 x1 x2 x5 hcls hY0 hnames (fun x hx => h x (by simp [z_oa, hx]))
  have hfound : s.vm.findClass cls = some P1.m.cls := findClass_of_methodNamed hP1m
  cases Option.some.inj (hfoundX.symm.trans hfound)
  obtain ⟨c1, kX', hc1, hk, hord, -, -, hn6⟩ := Cond.instantiable_spec (a' (.instantiable cls 6) (by simp [z_oa]))
  cases Option.some.inj (hc1.symm.trans hfound)
  cases Option.some.inj (hkX.symm.trans hk)
  have hsel0 : selectMethod e.platform s.vm P1.m.cls T.fill0 = .method T.fill0 := by
    obtain ⟨c2, r2, m2, q1, q2, q3, q4, -⟩ := Cond.selects_spec (a' (.selects cls Bundle.tFill0 Bundle.tFill0) (by simp [z_oa]))
    cases Option.some.inj (q1.symm.trans hfound)
    cases Option.some.inj (q2.symm.trans (State.methodFound?_of_named Y.fill0 (by decide)))
    cases Option.some.inj (q3.symm.trans Y.fill0)
    rw [Launch.admits_selectMethod X.admits]; exact q4
  have hselF : selectMethod e.platform s.vm P1.m.cls T.fill = .method T.fill := by
    obtain ⟨c2, r2, m2, q1, q2, q3, q4, -⟩ := Cond.selects_spec (a' (.selects cls Bundle.tFill Bundle.tFill) (by simp [z_oa]))
    cases Option.some.inj (q1.symm.trans hfound)
    cases Option.some.inj (q2.symm.trans (State.methodFound?_of_named Y.fill (by decide)))
    cases Option.some.inj (q3.symm.trans Y.fill)
    rw [Launch.admits_selectMethod X.admits]; exact q4
  obtain ⟨cellS0, hcS0, hiss⟩ := Y.statics
  obtain ⟨u0, hu0⟩ := Cond.staticRefV Y.unassigned L.unassignedStatic L.statics hcS0 hiss (a' (.isRef (.static Bundle.tN "UNASSIGNED_STACK" Bundle.steD)) (by simp [z_oa]))
  obtain ⟨sen, hsen⟩ := Cond.staticRefV Y.sentinel L.sentinelStatic L.statics hcS0 hiss (a' (.isRef (.static Bundle.tN "SUPPRESSED_SENTINEL" Bundle.listD)) (by simp [z_oa]))
  obtain ⟨ci198, i198, fB, hk198, hg198, ha198, hsB, -, hnB, htB, hffB⟩ := Cond.ownField (t := .object "java/lang/Object") Y.found L.cls (by decide +kernel) (a' (.fieldLink Bundle.tN 198 Bundle.tN "backtrace" "Ljava/lang/Object;") (by simp [z_oa])) (a' (.lays Bundle.tN Bundle.tN "backtrace" "Ljava/lang/Object;") (by simp [z_oa])) e.platform hpl
  obtain ⟨cellS, hcS', heS, -, hkeep⟩ := X.same.2.2.2.2.2 T.aS cellS0 hcS0
  have hcellS : Z0.heap[T.aS]? = some cellS := hcS'
  have hout' : ∀ i, (⟨T.aS, i⟩ : Loc) ∉ locs := fun i hmem => by
    have := hlocs _ hmem cellS0 hcS0
    rw [hiss] at this; cases this
  have hknownS : cellS.vm ≠ .unknown := by
    rw [heS]; intro hu
    rw [show cellS0.vm = .unknown from hu] at hiss
    cases hiss
  have hneS : T.aS ≠ a := Nat.ne_of_lt (Nat.lt_of_lt_of_le (Array.getElem?_eq_some_iff.mp hcS0).1 hnew)
  obtain ⟨iM, hffM⟩ := Y.msg
  obtain ⟨tyC, dC, hdC, hdnC⟩ := Cond.laysAt hfound hk Y.cause (a' (.lays cls Bundle.tN "cause" "Ljava/lang/Throwable;") (by simp [z_oa]))
  obtain ⟨tyS, dS, hdS, hdnS⟩ := Cond.laysAt hfound hk Y.stack (a' (.lays cls Bundle.tN "stackTrace" Bundle.steD) (by simp [z_oa]))
  obtain ⟨tyP, dP, hdP, hdnP⟩ := Cond.laysAt hfound hk Y.supp (a' (.lays cls Bundle.tN "suppressedExceptions" Bundle.listD) (by simp [z_oa]))
  obtain ⟨tyM, dM, hdM, hdnM⟩ := Cond.laysAt hfound hk hffM (a' (.lays cls Bundle.tN "detailMessage" "Ljava/lang/String;") (by simp [z_oa]))
  obtain ⟨tyB, dB, hdB, hdnB⟩ := Cond.laysAt hfound hk hffB (a' (.lays cls Bundle.tN "backtrace" "Ljava/lang/Object;") (by simp [z_oa]))
  have bC := Cond.laysApart hdB hdC hdnB hdnC (by rw [hnB, Y.causeName]; decide)
  have bS := Cond.laysApart hdB hdS hdnB hdnS (by rw [hnB, Y.stackName]; decide)
  have bP := Cond.laysApart hdB hdP hdnB hdnP (by rw [hnB, Y.suppName]; decide)
  have hskip : SkipFacts T e.platform s (fun u => u) u0 ((preparedCellV T.toThrowableT (freshCell P1.m.cls kX) a u0 sen).withEntry Z0.cur) :=
    ⟨{ ci198 := ci198, i198 := i198, fBack := fB }, ⟨hk198, hg198, ha198, hsB⟩, by
      have := fresh_default (c := P1.m.cls) tyB
      rw [htB] at this
      simpa [preparedCellV, Cell.setSlot, Cell.withEntry, Array.getElem?_setIfInBounds, bC, bS, bP, bC.symm, bS.symm, bP.symm, defaultValue] using this, fun _ _ => rfl⟩
  obtain ⟨tm, methC, cdC, kC, vm₁, hnC, -, -, -, -, -, -, -, hW₁, st1⟩ := Steps.initColdS (tb := p.tables) (e := e) (below := below) (s := s) (U := Z0) X.here hexec X.warmed hpl hown (t := Bundle.initS cls) rfl rfl (Bundle.fit_spec hcls).2
    (a' (.methodLink own ic (Bundle.initS cls)) (by simp [z_oa])) (h (.instanceMethod (Bundle.initS cls)) (by simp [z_oa, z_ch, Bundle.passSAtoms])) (bytes := rx) (maxL := 2) (h (.code (Bundle.initS cls) rx 2 none) (by simp [z_oa, z_ch, Bundle.passSAtoms]))
    (f := g) hg (a := a) (msg := msg) (rest := .ref a :: rest) hstack hd6
  cases Option.some.inj (hnC.symm.trans hP1m)
  have X₁ := X.noted hW₁
  obtain ⟨vm₂, X₂, st2⟩ := X₁.ctorMessageOffV hexec (g := { g with stack := .ref a :: rest }) hg hsize T L Z LZ M LM (P1 :: Ps)
    (fun P hP => by rcases List.mem_cons.mp hP with rfl | hP; exact L1; exact hL P hP) ⟨hlink1, hlink⟩ (u0 := u0) (sen := sen) (self := a) hmsg (cell := freshCell P1.m.cls kX) (cellS := cellS)
    hcell (fun _ => by simp) (by simp) rfl rfl hsel0 hselF hcellS hneS hknownS (by rw [hkeep _ (hout' _)]; exact hu0) (by rw [hkeep _ (hout' _)]; exact hsen)
    (Takes.of_laid hk hord tyC (by rw [Y.causeType]; rfl)) (Takes.of_laid hk hord tyS (by rw [Y.stackType]; exact fits_refV_array _ u0)) (Takes.of_laid hk hord tyP (by rw [Y.suppType]; exact fits_refV_object _ sen))
    (Takes.of_laid hk hord tyM (by rw [Y.msgType]; exact fits_refV_object _ ⟨msg, hmsg⟩)) Y.objLocals hskip htr [] hd6
    (by simp only [List.length_cons, hlen]; omega) (by simp only [List.length_cons, hlen]; omega)
  obtain ⟨hwalk, hrun, hended, hWU, hsame⟩ := X₂.athrowLeaves hexec (g := { g with stack := .ref a :: rest, pc := g.pc + 3 }) hg hlocked hentered hout (a := a) (rest := rest) rfl hd9
  have hlt : a < ((Z0.setVm vm₁).setVm vm₂).heap.size := (Array.getElem?_eq_some_iff.mp hcell).1
  have hU := heapAt_setCell_self (s := (Z0.setVm vm₁).setVm vm₂) (plainBareV T.toThrowableT (freshCell P1.m.cls kX) a u0 sen msg) hlt
  refine ⟨_, st1 _ (fun acts => ?_), hrun, hended, hWU, hsame.weaken (fun y hy hlt' => ?_) (Nat.le_refl _) (Nat.le_refl _), _, hU, hfound, rfl⟩
  · rw [doInvoke_state]
    exact st2 _ hwalk
  · rcases List.mem_append.mp hy with h1 | h1
    · exact h1
    · exfalso
      have hb : y.base = a := by
        simp only [List.mem_cons, List.not_mem_nil, or_false] at h1
        rcases h1 with rfl | rfl | rfl | rfl | rfl <;> rfl
      rw [hb] at hlt'
      exact Nat.not_lt.mpr hnew hlt'
end ZT
end
section
/-! the program's throws, by their numbers -/
def z_xi (ee : Nat) : Nat × Nat × ByteArray := match ee with
  | 0 => (153, 13, prog_31_method_4_code)
  | _ => (91, 7, Bundle.six)
def z_xo (ee : Nat) : List Cond := z_oa "SlipRoom" (z_xi ee).1 (z_en ee) (z_xi ee).2.1 (z_xi ee).2.2 "java/lang/RuntimeException" ["java/lang/Exception"]
noncomputable def z_isT (w : Cond) : Bool := decide (w ∈ lw_tbl) && (goodWord w || z_isD w) && vx_ot w
theorem z_xt0 : (Cond.initialized (z_en 0) :: (z_xo 0).filter vx_no).all z_isT = true := by decide +kernel
theorem z_xt1 : (Cond.initialized (z_en 1) :: (z_xo 1).filter vx_no).all z_isT = true := by decide +kernel
theorem z_xf : Bundle.fit (z_en 0) = true ∧ Bundle.fit (z_en 1) = true ∧ Bundle.fit "java/lang/RuntimeException" = true ∧ Bundle.fit "java/lang/Exception" = true := by decide +kernel
theorem z_xd (ee : Nat) : decode (z_xi ee).2.2 0 = .ok (.aload_n 0, 1) ∧ decode (z_xi ee).2.2 1 = .ok (.aload_n 1, 1) ∧ decode (z_xi ee).2.2 2 = .ok (.invokespecial (z_xi ee).2.1, 3) ∧ decode (z_xi ee).2.2 5 = .ok (.return_, 1) := by
  cases ee with
  | zero => exact ⟨by decide +kernel, by decide +kernel, by decide +kernel, by decide +kernel⟩
  | succ n =>
    rw [show z_xi (n + 1) = z_xi 1 from rfl]
    exact ⟨by decide +kernel, by decide +kernel, by decide +kernel, by decide +kernel⟩
theorem z_isT_ok {w : Cond} {args : Array Value} {s : State} (hts : ∀ w ∈ z_tb, w.before args s = true) (hdw : ∀ w ∈ z_dw, va_Nw w s) (h : z_isT w = true) : w.before args s = true ∧ vx_ot w = true := by
  simp only [z_isT, Bool.and_eq_true, Bool.or_eq_true, decide_eq_true_eq] at h
  refine ⟨?_, h.2⟩
  rcases h.1.2 with h1 | h1
  · exact hts _ (List.mem_filter.mpr ⟨h.1.1, h1⟩)
  · have h2 := hdw w (List.mem_filter.mpr ⟨h.1.1, h1⟩)
    cases w with
    | declares x => exact va_Nw.use rfl h2
    | castable a b => exact va_Nw.use rfl h2
    | _ => cases h1
theorem z_xw {ee : Nat} (he : ee < 2) {args : Array Value} {s : State} (hts : ∀ w ∈ z_tb, w.before args s = true) (hdw : ∀ w ∈ z_dw, va_Nw w s) : ∀ w ∈ Cond.initialized (z_en ee) :: (z_xo ee).filter vx_no, w.before args s = true ∧ vx_ot w = true := by
  have h2 : ee = 0 ∨ ee = 1 := by omega
  rcases h2 with rfl | rfl
  · exact fun w hw => z_isT_ok hts hdw (List.all_eq_true.mp z_xt0 w hw)
  · exact fun w hw => z_isT_ok hts hdw (List.all_eq_true.mp z_xt1 w hw)
theorem z_fit {ee : Nat} (he : ee < 2) : Bundle.fit (z_en ee) = true := by
  have h2 : ee = 0 ∨ ee = 1 := by omega
  rcases h2 with rfl | rfl
  · exact z_xf.1
  · exact z_xf.2.1
section ZX
variable {p : Program} {l : Launch} {e : Env} {R : Room} {s : State} {m : MethodId} {args : Array Value} {below : List Frame} {meth : Method} {c : Code} {H : Heap} {locs : List Loc} {cells slots : Nat} {free : Addr → Prop} {ls : Array Slot} {rest : List Value}
variable {Qc : Array Value → State → Outcome → State → Prop} {XC : String → State → State → Prop}
theorem z_thr {cc : ByteArray} {pc : Nat} (hexec : p.tables.exec = Jvm.exec) (hb : c.code = cc) (hl : l.stackTraces = false) {text : String} {ee ik is k mc ms sa : Nat} {A : Nat → Prop} (hee : ee < 2)
    (hown : s.vm.findClass "SlipRoom" = some m.cls) (hts : ∀ w ∈ z_tb, w.before args s = true) (hdw : ∀ w ∈ z_dw, va_Nw w s)
    (hk : Cond.classLink "SlipRoom" ik (z_en ee) ∈ z_tb) (hstr : vk_R "SlipRoom" is text sa s)
    (hU : vx_Zq Bundle.tN "UNASSIGNED_STACK" Bundle.steD A s s.heap) (hN : vx_Zq Bundle.tN "SUPPRESSED_SENTINEL" Bundle.listD A s s.heap) (hS : va_S A s.heap H locs) (hsize : ls.size = c.maxLocals)
    (d0 : decode cc pc = .ok (.new ik, 3)) (d3 : decode cc (pc + 3) = .ok (.dup, 1)) (d4 : (decode cc (pc + 4) = .ok (.ldc is, 2) ∧ k = 6) ∨ (decode cc (pc + 4) = .ok (.ldc_w is, 3) ∧ k = 7)) (d6 : decode cc (pc + k) = .ok (.invokespecial (z_xi ee).1, 3)) (d9 : decode cc (pc + k + 3) = .ok (.athrow, 1))
    (hout : ∀ x ∈ c.exceptionTable.toList, False)
    (hRframes : 10 ≤ R.frames) (hRlocals : (rest.map fun v => v.category).sum + 100 ≤ R.locals) (hRcells : cells + 1 ≤ R.cells) (hRslots : slots + 6 ≤ R.slots) (hlocks : meth.locks = false)
    (hx : ∀ t : State, s.vm.Alike t.vm → H.size ≤ t.heap.size → (∀ q : Nat, q < H.size → t.heap[q]? = H[q]?) → XC (z_en ee) s t)
    (hf : ∀ z ∈ locs, free z.base) (hc : cells + 1 ≤ mc) (hs : slots + 6 ≤ ms) :
    W p l e R s m args below meth c H locs cells slots (vx_MQ below Qc XC args s mc ms free) (F0 m pc ls rest) := by
  intro T hT X
  have htr : e.platform.stackTraces = false := (show e.platform.stackTraces = l.stackTraces by rw [X.admits.platform]).trans hl
  have Y := vx_rebase X (R' := { frames := R.frames, locals := R.locals, cells := 1, slots := 6 }) (Nat.le_refl _) (Nat.le_refl _) hRcells hRslots
  obtain ⟨s', hA⟩ : ∃ z, z = (T.setVm s.vm).setFrames (.invoking m args :: below) := ⟨_, rfl⟩
  rw [← hA] at Y
  have hvm : s'.vm = s.vm := by rw [hA]; rfl
  have hhp : s'.heap = H := by rw [hA]; exact hT
  have hW0 : s.WarmedH s'.vm := by rw [hvm]; exact State.WarmedH.refl s
  have hxw := z_xw hee hts hdw
  have hat' : ∀ w ∈ (z_xo ee).filter vx_no, w.before args s' = true := fun w hw => vx_ot_at hW0 hvm.symm (hxw w (List.mem_cons_of_mem _ hw)).2 (hxw w (List.mem_cons_of_mem _ hw)).1
  have hk' : (Cond.classLink "SlipRoom" ik (z_en ee)).before args s' = true := word_at hW0 (good_of_word (List.mem_filter.mp hk).2) (hts _ hk)
  have hini' : (Cond.initialized (z_en ee)).before args s' = true := vx_ot_at hW0 hvm.symm (hxw _ List.mem_cons_self).2 (hxw _ List.mem_cons_self).1
  have hU' : vx_Zq Bundle.tN "UNASSIGNED_STACK" Bundle.steD A s' s'.heap := by rw [hhp]; exact vx_Zq.moved hW0.alike (hU.kept hS.2.1)
  have hN' : vx_Zq Bundle.tN "SUPPRESSED_SENTINEL" Bundle.listD A s' s'.heap := by rw [hhp]; exact vx_Zq.moved hW0.alike (hN.kept hS.2.1)
  have h : ∀ w ∈ z_xo ee, w.before args s' = true := vx_own hat' (vx_isRefq hU'.1) (vx_isRefq hN'.1) hU'.2.word hN'.2.word
  have hown' : s'.vm.findClass "SlipRoom" = some m.cls := by rw [hvm]; exact hown
  have hins : (Cond.instantiable (z_en ee) 6).before args s' = true := h _ (by simp [z_xo, z_oa])
  obtain ⟨vm₁, cX, kX, hfX, hkX, -, -, X₁, st1⟩ := Y.newCold hexec (own := "SlipRoom") (C := z_en ee) (index := ik) (n := 6) hown' hk' hins hini'
    (g := F0 m pc ls rest) rfl (by rw [hb]; exact d0) (Nat.le_refl _) (Nat.le_refl _)
  generalize hT1 : (T.setVm vm₁).pushCell { cls := cX, slots := kX.instanceTypes.map defaultValue, vm := .none } = T1 at X₁ st1
  have hcat : (Value.ref T.heap.size).category = 1 := rfl
  have hcellA : T1.heap[T.heap.size]? = some (freshCell cX kX) := by rw [← hT1]; exact State.heap_pushCell_size _ _
  have d3' : decode c.code (pc + 3) = .ok (.dup, 1) := by rw [hb]; exact d3
  have hstr' : vk_R "SlipRoom" is text sa s' := vk_R.warm hW0 hstr
  obtain ⟨x0, x1, x2, x5⟩ := z_xd ee
  obtain ⟨U, hsteps, hrun, hend, hW, hsame, ce, hce, hOc, hOv⟩ := z_ctor X₁ hexec htr (own := "SlipRoom") (cls := z_en ee) (Y0 := "java/lang/RuntimeException") (names := ["java/lang/Exception"]) (ic := (z_xi ee).1) x0 x1 x2 x5 hown' (z_fit hee) z_xf.2.2.1 (fun n hn => by rw [List.mem_singleton.mp hn]; exact z_xf.2.2.2) h (fun x hx => nomatch hx) hfX hkX hcellA (by rw [hhp, hT]; exact Nat.le_refl _) (msg := .ref sa) rfl
    (g := { method := m, pc := pc + k, locals := ls, stack := .ref sa :: .ref T.heap.size :: .ref T.heap.size :: rest, locked := none }) rfl hsize rfl rfl (rest := rest) rfl
    (by rw [hb]; exact d6) (by rw [hb]; exact d9) (fun x hx => (hout x hx).elim) (by show 1 + 4 < R.frames; omega) (by show 2 * _ + _ + (13 * (1 + 2) + 42) ≤ R.locals; simp only [List.map_cons, List.sum_cons, hcat]; first | omega | (simp [JFrame.monitorRoom]; omega)) hlocks
  obtain ⟨f1, f2⟩ := vx_frame hsame
  rw [hhp] at f1 f2
  have hWs : s.WarmedH U.vm := State.WarmedH.trans hW0 hW
  have hcl : s.vm.findClass (z_en ee) = some ce.cls := by rw [← hvm]; exact hOc
  have hall : s.sameButNew ({ U with vm := s.vm } : State) locs mc ms := by
    subst hA
    obtain ⟨e1, e2⟩ := hsame
    rw [State.setFrames_setFrames] at e1
    have h2 : (T.setVm s.vm).sameButNew ({ U with vm := s.vm } : State) [] (0 + 1) (0 + 6) := ⟨e1, e2⟩
    have h3 := X.same.trans h2
    rw [List.append_nil] at h3
    exact h3.mono hc hs
  refine ⟨U, ?_, .threw T.heap.size, hrun, hend, Or.inr ⟨T.heap.size, rfl, z_en ee, ce, locs, hx U hWs.alike f1 (fun q hq => f2 q hq (fun z hz => nomatch hz)), hce, hOv, hcl, hWs, hall, hf⟩⟩
  refine st1 _ ?_
  show Steps p.tables e below (T1.setTop { method := m, pc := pc + 3, locals := ls, stack := .ref T.heap.size :: rest, locked := none }) _
  jvm_step X₁.here [X₁.here.top, hexec, d3', Value.category]
  rcases d4 with ⟨d4, rfl⟩ | ⟨d4, rfl⟩
  · exact X₁.ldcString hexec (own := "SlipRoom") (text := text) (index := is) (a := sa) hown' hstr'.1 hstr'.2
      (g := { method := m, pc := pc + 4, locals := ls, stack := .ref T.heap.size :: .ref T.heap.size :: rest, locked := none }) rfl (by rw [hb]; exact d4) _ hsteps
  · exact X₁.ldcStringW hexec (own := "SlipRoom") (text := text) (index := is) (a := sa) hown' hstr'.1 hstr'.2
      (g := { method := m, pc := pc + 4, locals := ls, stack := .ref T.heap.size :: .ref T.heap.size :: rest, locked := none }) rfl (by rw [hb]; exact d4) _ hsteps
end ZX
end
section
/-! more checks, decided: where calls stand in a method with a table of handlers; which entries are the texts' own methods -/
def z_sLen : MethodName := ⟨"java/lang/String", "length", "()I"⟩
def z_sCh : MethodName := ⟨"java/lang/String", "charAt", "(I)C"⟩
def z_vb (vb : Option Nat) (pc : Nat) : Bool := match vb with
  | none => true
  | some b => Nat.blt pc b
noncomputable def z_xk (own : String) (ix : Nat) (ops : List Nat) : Bool := match ops with
  | [_, _, kind, _, _, ti] => cond (Nat.beq kind 7) (z_inT (.methodLink own ix z_sLen) ti) (cond (Nat.beq kind 8) (z_inT (.methodLink own ix z_sCh) ti) true)
  | _ => true
/-- an answer that is a thing -/
def z_rf (rt : Option FieldType) : Bool := match rt with
  | some (.object _) => true
  | some (.array _) => true
  | _ => false
noncomputable def z_xE (own : String) (vb : Option Nat) (rt : Option FieldType) (pc : Nat) (x : z_I) : Bool := match x.1 with
  | .invokevirtual ix => z_vb vb pc && z_xk own ix x.2.2
  | .invokestatic _ => z_vb vb pc
  | .areturn => z_rf rt
  | .return_ => rt.isNone
  | _ => true
noncomputable def z_xL (own : String) (vb : Option Nat) (rt : Option FieldType) : Nat → List z_I → Bool
  | _, [] => true
  | pc, x :: is => z_xE own vb rt pc x && z_xL own vb rt (pc + x.2.1) is
noncomputable def z_xB (own : String) (vb : Option Nat) (rt : Option FieldType) (b : z_B) : Bool := b.all (fun q => z_xL own vb rt q.1 q.2.2)
/-- the first handler's first row: all calls stand ahead of it -/
noncomputable def z_vbm (m : Nat) : Option Nat := match z_hh.getD m [] with
  | [] => none
  | q :: _ => some q.2.1
noncomputable def z_xM (m : Nat) : Bool := z_xB (z_own.getD (z_m m).2.2.2.2.1 "") (z_vbm m) (z_m m).2.2.2.1 (z_bs.getD m [])
theorem z_xMA : (List.range 212).all z_xM = true := by decide +kernel
theorem z_xM_ok {m : Nat} (h : m < 212) : z_xM m = true := List.all_eq_true.mp z_xMA m (List.mem_range.mpr h)
theorem z_vb_ok {vb : Option Nat} {pc : Nat} (h : z_vb vb pc = true) : ∀ b, vb = some b → pc < b := by
  intro b hb
  subst hb
  exact Nat.blt_eq.mp h
theorem z_xE_v {own : String} {vb : Option Nat} {rt : Option FieldType} {pc ix len : Nat} {ops : List Nat} (h : z_xE own vb rt pc (.invokevirtual ix, len, ops) = true) : ∀ b, vb = some b → pc < b := by
  have h1 : (z_vb vb pc && z_xk own ix ops) = true := h
  simp only [Bool.and_eq_true] at h1
  exact z_vb_ok h1.1
theorem z_xE_w {own : String} {vb : Option Nat} {rt : Option FieldType} {pc ix len : Nat} {ops : List Nat} (h : z_xE own vb rt pc (.invokestatic ix, len, ops) = true) : ∀ b, vb = some b → pc < b := z_vb_ok (show z_vb vb pc = true from h)
theorem z_xE_s {own : String} {vb : Option Nat} {rt : Option FieldType} {pc ix len : Nat} {ops : List Nat} (h : z_xE own vb rt pc (.invokevirtual ix, len, ops) = true) (kind : Nat) (q : ∃ m' n rc rt ti, ops = [m', n, kind, rc, rt, ti]) : (kind = 7 → Cond.methodLink own ix z_sLen ∈ z_tb) ∧ (kind = 8 → Cond.methodLink own ix z_sCh ∈ z_tb) := by
  have h1 : (z_vb vb pc && z_xk own ix ops) = true := h
  simp only [Bool.and_eq_true] at h1
  have h2 := h1.2
  obtain ⟨m', n, rc, rt, ti, rfl⟩ := q
  constructor
  · rintro rfl; exact z_inT_ok h2
  · rintro rfl; exact z_inT_ok h2
def z_mim (w : Cond) : Bool := match w with
  | .instanceMethod y => !(decide (y.cls = "java/lang/Math"))
  | _ => true
theorem z_mstA : lw_tbl.all z_mim = true := by decide +kernel
theorem z_mst : ∀ m', m' = 187 ∨ m' = 188 → Cond.instanceMethod (z_m m').1 ∉ z_tb := by
  intro m' hm hq
  have h1 := List.all_eq_true.mp z_mstA _ (List.mem_filter.mp hq).1
  have h2 : (z_m m').1.cls = "java/lang/Math" := by rcases hm with rfl | rfl <;> rfl
  simp [z_mim, h2] at h1
theorem z_at6A : (List.range 117).all (fun a => Nat.blt (z_at a) 6) = true := by decide +kernel
theorem z_at6 (a : Nat) : z_at a < 6 := by
  by_cases h : z_at a = 0
  · omega
  · exact Nat.blt_eq.mp (List.all_eq_true.mp z_at6A a (List.mem_range.mpr (z_at_lt h)))
/-- the script, where the law itself runs -/
def z_sc (lm : Bool) (n : Nat) (xs : Nat → Int32) (S : z_St) : Prop := lm = true → (∀ j, j < n → S.1 1300 j = xs j) ∧ S.1 1301 0 = nI n ∧ n ≤ 384
theorem z_sc.fr {lm : Bool} {n : Nat} {xs : Nat → Int32} {S S' : z_St} (h : z_sc lm n xs S) (hf : z_fr S S') : z_sc lm n xs S' := fun q => by
  obtain ⟨h1, h2, h3⟩ := h q
  have e1 : S'.1 1300 = S.1 1300 := hf 1300 (by decide)
  have e2 : S'.1 1301 = S.1 1301 := hf 1301 (by decide)
  exact ⟨fun j hj => by rw [e1]; exact h1 j hj, by rw [e2]; exact h2, h3⟩
theorem z_wInj {B : Nat} {D : va_G} {cA : Nat → ClassId} {ρ : Nat → Nat} {s : State} (hE : z_Env B D cA ρ s) {x y : Nat} (h1 : Nat.ble 1000 x = true) (h2 : Nat.blt x 1017 = true) (h3 : Nat.ble 1000 y = true) (h4 : Nat.blt y 1017 = true) : ρ x = ρ y → x = y := by
  intro q
  have a1 : 1000 ≤ x := Nat.le_of_ble_eq_true h1
  have a2 : x < 1017 := Nat.blt_eq.mp h2
  have a3 : 1000 ≤ y := Nat.le_of_ble_eq_true h3
  have a4 : y < 1017 := Nat.blt_eq.mp h4
  have := hE.2.2.2.2.1 (x - 1000) (y - 1000) (by omega) (by omega) (by rw [Nat.add_sub_cancel' a1, Nat.add_sub_cancel' a3]; exact q)
  omega
theorem z_lookOff (P : Int → Prop) : ∀ (ps : List (Int × Int)) (d k : Int), P d → (∀ q ∈ ps, P q.2) → P (Op.lookupswitch.offset ps d k)
  | [], d, k, hd, _ => hd
  | (a, o) :: r, d, k, hd, h => by
    rw [Op.lookupswitch.offset_cons]
    split
    · exact h (a, o) List.mem_cons_self
    · exact z_lookOff P r d k hd (fun q hq => h q (List.mem_cons_of_mem _ hq))
section ZO
variable {p : Program} {l : Launch} {e : Env} {R : Room} {s : State} {m : MethodId} {args : Array Value} {below : List Frame} {meth : Method} {c : Code} {Q : State → Prop} {B : Nat} {D : va_G} {ρ : Nat → Nat} {cA : Nat → ClassId} {nL : Nat}
variable {cc : ByteArray} {pc z : Nat} {L : z_Lo} {st r : List Value} {S : z_St} {own : String} {dd : Nat} {lm : Bool} {rt : Option FieldType} {hd0 : List (Nat × Int32)} {E : z_Ev} {K go : z_K} {out : z_Out × z_St}
theorem z_okO_gs {ix : Nat} {ops : List Nat} (h : z_okO own (.getstatic ix) ops = true) : ∃ v nest ti, ops = [v, nest, ti] ∧ ((v = 1100 ∧ z_okW own ix "ALL" "[LSlipRoom$Word;" nest ti = true) ∨ ∃ j, j < 17 ∧ v = 1000 + j ∧ z_okW own ix (z_wn.getD j "") "LSlipRoom$Word;" nest ti = true) := by
  unfold z_okO at h
  dsimp only at h
  split at h
  · rename_i v nest ti
    refine ⟨v, nest, ti, rfl, ?_⟩
    cases hv : Nat.beq v 1100 with
    | true => rw [hv] at h; exact Or.inl ⟨Nat.eq_of_beq_eq_true hv, h⟩
    | false =>
      rw [hv] at h
      simp only [cond_false, Bool.and_eq_true] at h
      have a1 : 1000 ≤ v := Nat.le_of_ble_eq_true h.1.1
      have a2 : v < 1017 := Nat.blt_eq.mp h.1.2
      exact Or.inr ⟨v - 1000, by omega, by omega, h.2⟩
  · cases h
theorem zm_gs (hctx : z_Ctx p l R s m args c B D ρ cA nL cc own dd) {ix : Nat} {ops : List Nat} (hd : decode cc pc = .ok (.getstatic ix, 3)) (ho : z_okO own (.getstatic ix) ops = true) (h : z_o_getstatic ops go pc z L st S = some out)
    (hgo : ∀ st', go (pc + 3) z L st' S = some out → z_J p l e R s m args below meth c Q B D ρ cA nL (pc + 3) z L st' S) : z_J p l e R s m args below meth c Q B D ρ cA nL pc z L st S := by
  obtain ⟨hx, hb, hml, hown, hts, hE, hAp, hRf, hRl⟩ := hctx
  obtain ⟨v, nest, ti, rfl, hcase⟩ := z_okO_gs ho
  have h : go (pc + 3) z L (.ref v :: st) S = some out := h
  rcases hcase with ⟨rfl, hW⟩ | ⟨j, hj, rfl, hW⟩
  · exact zj_getstatic hx hb hE.2.2.1.2.2.2.1 hown (z_okW_link hts hE.2.1 hW) hd (hgo _ h)
  · exact zj_getstatic hx hb (hE.2.2.1.2.2.1 j hj) hown (z_okW_link hts hE.2.1 hW) hd (hgo _ h)
theorem zm_ldc (hctx : z_Ctx p l R s m args c B D ρ cA nL cc own dd) {ix : Nat} {ops : List Nat} (hd : decode cc pc = .ok (.ldc ix, 2)) (ho : z_okO own (.ldc ix) ops = true) (h : z_o_ldc ops go pc z L st S = some out)
    (hgo : ∀ st', go (pc + 2) z L st' S = some out → z_J p l e R s m args below meth c Q B D ρ cA nL (pc + 2) z L st' S) : z_J p l e R s m args below meth c Q B D ρ cA nL pc z L st S := by
  obtain ⟨hx, hb, hml, hown, hts, hE, hAp, hRf, hRl⟩ := hctx
  unfold z_okO at ho
  dsimp only at ho
  split at ho
  · have h : go (pc + 2) z L (.int (nI _) :: st) S = some out := h
    exact zj_ldc hx hb hown (hts _ (z_inT_ok ho)) hd (hgo _ h)
  · simp only [Bool.and_eq_true, decide_eq_true_eq, List.any_eq_true] at ho
    obtain ⟨ho1, q, hq, h1, h2⟩ := ho
    have h : go (pc + 2) z L (.ref _ :: st) S = some out := h
    have hR := hE.2.2.2.1.2 q hq
    rw [Nat.eq_of_beq_eq_true h1, Nat.eq_of_beq_eq_true h2, ← ho1] at hR
    exact zj_ldcs hx hb hown hR hd (hgo _ h)
  · cases ho
theorem zm_ldcw (hctx : z_Ctx p l R s m args c B D ρ cA nL cc own dd) {ix : Nat} {ops : List Nat} (hd : decode cc pc = .ok (.ldc_w ix, 3)) (ho : z_okO own (.ldc_w ix) ops = true) (h : z_o_ldc_w ops go pc z L st S = some out)
    (hgo : ∀ st', go (pc + 3) z L st' S = some out → z_J p l e R s m args below meth c Q B D ρ cA nL (pc + 3) z L st' S) : z_J p l e R s m args below meth c Q B D ρ cA nL pc z L st S := by
  obtain ⟨hx, hb, hml, hown, hts, hE, hAp, hRf, hRl⟩ := hctx
  unfold z_okO at ho
  dsimp only at ho
  split at ho
  · have h : go (pc + 3) z L (.int (nI _) :: st) S = some out := h
    exact zj_ldcw hx hb hown (hts _ (z_inT_ok ho)) hd (hgo _ h)
  · simp only [Bool.and_eq_true, decide_eq_true_eq, List.any_eq_true] at ho
    obtain ⟨ho1, q, hq, h1, h2⟩ := ho
    have h : go (pc + 3) z L (.ref _ :: st) S = some out := h
    have hR := hE.2.2.2.1.2 q hq
    rw [Nat.eq_of_beq_eq_true h1, Nat.eq_of_beq_eq_true h2, ← ho1] at hR
    exact zj_ldcsw hx hb hown hR hd (hgo _ h)
  · cases ho
theorem zm_ldc2 (hctx : z_Ctx p l R s m args c B D ρ cA nL cc own dd) {ix : Nat} {ops : List Nat} (hd : decode cc pc = .ok (.ldc2_w ix, 3)) (ho : z_okO own (.ldc2_w ix) ops = true) (h : z_o_ldc2_w ops go pc z L st S = some out)
    (hgo : ∀ st', go (pc + 3) z L st' S = some out → z_J p l e R s m args below meth c Q B D ρ cA nL (pc + 3) z L st' S) : z_J p l e R s m args below meth c Q B D ρ cA nL pc z L st S := by
  obtain ⟨hx, hb, hml, hown, hts, hE, hAp, hRf, hRl⟩ := hctx
  unfold z_okO at ho
  dsimp only at ho
  split at ho
  · have h : go (pc + 3) z L (.long (lN _) :: st) S = some out := h
    exact zj_ldc2 hx hb hown (hts _ (z_inT_ok ho)) hd (hgo _ h)
  · cases ho
def z_SX (lm : Bool) (n : Nat) (xs : Nat → Int32) (B : Nat) (ρ : Nat → Nat) (s : State) : Prop := lm = true → va_X (ρ 1300) n xs s s.heap ∧ ρ 1300 < s.heap.size ∧ ¬ B ≤ ρ 1300
theorem zm_iald (hctx : z_Ctx p l R s m args c B D ρ cA nL cc own dd) {n : Nat} {xs : Nat → Int32} (hd : decode cc pc = .ok (.iaload, 1)) (hsc : z_sc lm n xs S) (hSX : z_SX lm n xs B ρ s) (h : z_o_iaload lm go pc z L st S = some out)
    (hgo : ∀ st', go (pc + 1) z L st' S = some out → z_J p l e R s m args below meth c Q B D ρ cA nL (pc + 1) z L st' S) : z_J p l e R s m args below meth c Q B D ρ cA nL pc z L st S := by
  obtain ⟨hx, hb, hml, hown, hts, hE, hAp, hRf, hRl⟩ := hctx
  unfold z_o_iaload at h
  split at h
  · rename_i x a r0
    cases ha : (lm && Nat.beq a 1300) with
    | true =>
      rw [ha] at h
      simp only [Bool.and_eq_true] at ha
      obtain rfl := Nat.eq_of_beq_eq_true ha.2
      have hz9 := z_cnd (show cond (z_ix x (S.1 1301 0).toNatClampNeg) (go (pc + 1) z L (.int (S.1 1300 x.toNatClampNeg) :: r0) S) none = some out from h)
      clear h
      obtain ⟨hi, h⟩ := hz9
      obtain ⟨s1, s2, s3⟩ := hsc ha.1
      obtain ⟨q1, q2, q3⟩ := hSX ha.1
      have hn : n < 2 ^ 31 := Nat.lt_of_le_of_lt s3 (by decide)
      rw [s2, nI_clamp hn] at hi
      have hlt : x.toNatClampNeg < n := by
        simp only [z_ix, Bool.and_eq_true, decide_eq_true_eq] at hi
        exact hi.2
      intro ls H locs hl hw
      have h9 := hgo _ h ls H locs hl hw
      rw [s1 _ hlt] at h9
      exact va_sld hx hb q1 q2 q3 hw.2 (z_ixin hi) hd h9
    | false =>
      rw [ha] at h
      have hz9 := z_cnd (show cond (Nat.beq (z_at a) 1 && z_ix x (z_ln a)) (go (pc + 1) z L (.int (S.1 a x.toNatClampNeg) :: r0) S) none = some out from h)
      clear h
      obtain ⟨hk, h⟩ := hz9
      simp only [Bool.and_eq_true] at hk
      exact zj_ia1 hx hb hE.1 hd (Nat.eq_of_beq_eq_true hk.1) hk.2 (hgo _ h)
  · cases h
theorem zm_alen (hctx : z_Ctx p l R s m args c B D ρ cA nL cc own dd) {n : Nat} {xs : Nat → Int32} (hd : decode cc pc = .ok (.arraylength, 1)) (hsc : z_sc lm n xs S) (hSX : z_SX lm n xs B ρ s) (h : z_o_arraylength lm go pc z L st S = some out)
    (hgo : ∀ st', go (pc + 1) z L st' S = some out → z_J p l e R s m args below meth c Q B D ρ cA nL (pc + 1) z L st' S) : z_J p l e R s m args below meth c Q B D ρ cA nL pc z L st S := by
  obtain ⟨hx, hb, hml, hown, hts, hE, hAp, hRf, hRl⟩ := hctx
  unfold z_o_arraylength at h
  split at h
  · rename_i a r0
    cases ha : (lm && Nat.beq a 1300) with
    | true =>
      rw [ha] at h
      simp only [Bool.and_eq_true] at ha
      obtain rfl := Nat.eq_of_beq_eq_true ha.2
      have h : go (pc + 1) z L (.int (S.1 1301 0) :: r0) S = some out := h
      obtain ⟨s1, s2, s3⟩ := hsc ha.1
      obtain ⟨q1, q2, q3⟩ := hSX ha.1
      intro ls H locs hl hw
      have h9 := hgo _ h ls H locs hl hw
      rw [s2] at h9
      exact va_slen hx hb q1 q2 q3 hw.2 hd h9
    | false =>
      rw [ha] at h
      cases hA : Nat.beq a 1100 with
      | true =>
        rw [hA] at h
        obtain rfl := Nat.eq_of_beq_eq_true hA
        have h : go (pc + 1) z L (.int (nI 17) :: r0) S = some out := h
        exact zj_alA hx hb hE.2.2.1.2.2.2.2.1 hd (hgo _ h)
      | false =>
        rw [hA] at h
        have hz9 := z_cnd (show cond (Nat.blt 0 (z_at a)) (go (pc + 1) z L (.int (nI (z_ln a)) :: r0) S) none = some out from h)
        clear h
        obtain ⟨hk, h⟩ := hz9
        have hk2 : 0 < z_at a := Nat.blt_eq.mp hk
        exact zj_al hx hb hE.1 hd (by omega) (z_at6 a) (hgo _ h)
  · cases h
theorem zm_tsw (hctx : z_Ctx p l R s m args c B D ρ cA nL cc own dd) {d lo hi : Int} {offs : Array Int} {len : Nat} (hd : decode cc pc = .ok (.tableswitch d lo hi offs, len)) (hj : z_okJ pc (.tableswitch d lo hi offs) = true) (h : z_o_tableswitch K d lo hi offs pc z L st S = some out)
    (hgo : ∀ t st', K t z L st' S = some out → z_J p l e R s m args below meth c Q B D ρ cA nL t z L st' S) : z_J p l e R s m args below meth c Q B D ρ cA nL pc z L st S := by
  obtain ⟨hx, hb, hml, hown, hts, hE, hAp, hRf, hRl⟩ := hctx
  have hj2 : (z_okP pc d && offs.toList.all (z_okP pc)) = true := hj
  simp only [Bool.and_eq_true] at hj2
  unfold z_o_tableswitch at h
  split at h
  · rename_i x r0
    unfold z_sw at h
    split at h
    · rename_i h0
      exact zj_tableOut hx hb hd h0 (z_okP_ok hj2.1) (hgo _ _ h)
    · rename_i h0
      split at h
      · rename_i o ho
        have hm : o ∈ offs.toList := by
          rw [← Array.getElem?_toList] at ho
          exact List.mem_of_getElem? ho
        exact zj_tableIn hx hb hd (fun q => h0 (Or.inl q)) (fun q => h0 (Or.inr q)) ho (z_okP_ok (List.all_eq_true.mp hj2.2 o hm)) (hgo _ _ h)
      · cases h
  · cases h
theorem zm_lsw (hctx : z_Ctx p l R s m args c B D ρ cA nL cc own dd) {d : Int} {ps : Array (Int × Int)} {len : Nat} (hd : decode cc pc = .ok (.lookupswitch d ps, len)) (hj : z_okJ pc (.lookupswitch d ps) = true) (h : z_o_lookupswitch K d ps pc z L st S = some out)
    (hgo : ∀ t st', K t z L st' S = some out → z_J p l e R s m args below meth c Q B D ρ cA nL t z L st' S) : z_J p l e R s m args below meth c Q B D ρ cA nL pc z L st S := by
  obtain ⟨hx, hb, hml, hown, hts, hE, hAp, hRf, hRl⟩ := hctx
  have hj2 : (z_okP pc d && ps.toList.all (fun q => z_okP pc q.2) && (ps.toList.zip (ps.toList.drop 1)).all (fun (a, next) => a.1 < next.1)) = true := hj
  simp only [Bool.and_eq_true] at hj2
  unfold z_o_lookupswitch at h
  split at h
  · rename_i x r0
    exact zj_lookup hx hb hd hj2.2 rfl (z_okP_ok (z_lookOff (fun o => z_okP pc o = true) ps.toList d x.toInt hj2.1.1 (fun q hq => List.all_eq_true.mp hj2.1.2 q hq))) (hgo _ _ h)
  · cases h
end ZO
end
section
/-! what a run leaves as it was: all that lies behind the program's own objects -/
section ZF
variable {cc : ByteArray} {pc z len : Nat} {L : z_Lo} {st : List Value} {S : z_St} {own : String} {lm : Bool} {rt : Option FieldType} {hd0 : List (Nat × Int32)} {E : z_Ev} {K go : z_K} {out : z_Out × z_St}
theorem z_fr_2 {S : z_St} (M : z_Ml) : z_fr S (S.1, M) := fun _ _ => rfl
theorem z_hnd_S {hd0 : List (Nat × Int32)} {ee : Nat} {S : z_St} {out : z_Out × z_St} (h : z_hnd hd0 ee S = some out) : out.2 = S := by
  unfold z_hnd at h
  split at h <;> (cases h; rfl)
theorem z_fr_cb {m' : Nat} {as rest : List Value} {rt0 : Nat} (h : z_cb lm hd0 E go m' rt0 pc z L as rest S = some out) (hm : m' < 211) (hgo : ∀ z' st' S', go (pc + 3) z' L st' S' = some out → z_fr S' out.2) (hF : ∀ m' as S o S1, m' < 211 → E m' as S = some (o, S1) → z_fr S S1) : z_fr S out.2 := by
  obtain ⟨o, S1, hE1, hres⟩ := z_cany h
  have h1 := hF m' as S o S1 hm hE1
  rcases hres with ⟨v, rfl, hg⟩ | ⟨ee, rfl, -, hg⟩
  · exact h1.tr (hgo _ _ _ hg)
  · rw [z_hnd_S hg]; exact h1
theorem z_fr_cv {ix : Nat} {ops : List Nat} (ho : z_okO own (.invokevirtual ix) ops = true) (h : z_call lm hd0 E go ops pc z L st S = some out) (hgo : ∀ z' st' S', go (pc + 3) z' L st' S' = some out → z_fr S' out.2) (hF : ∀ m' as S o S1, m' < 211 → E m' as S = some (o, S1) → z_fr S S1) : z_fr S out.2 := by
  obtain ⟨m', n, kind, rc, rt0, ti, rfl, hcase⟩ := z_okO_iv ho
  rcases hcase with rfl | rfl | ⟨hm, hn, hrc, hcl, hcl2, hiw, hk, hin, hse⟩
  · rw [z_call7] at h
    obtain ⟨as, rest, hst0, hlen, hr8, h⟩ := z_cB_ok h
    unfold z_k7 at h
    split at h
    · exact hgo _ _ _ (z_cnd h).2
    · cases h
  · rw [z_call8] at h
    obtain ⟨as, rest, hst0, hlen, hr8, h⟩ := z_cB_ok h
    unfold z_k8 at h
    split at h
    · exact hgo _ _ _ (z_cnd h).2
    · cases h
  · rcases hk with ⟨rfl, hl⟩ | ⟨rfl, hl⟩
    · rw [z_call2] at h
      obtain ⟨as, rest, hst0, hlen, hr8, h⟩ := z_cB_ok h
      exact z_fr_cb (z_cnd h).2 hm hgo hF
    · rw [z_call3] at h
      obtain ⟨as, rest, hst0, hlen, hr8, h⟩ := z_cB_ok h
      exact z_fr_cb (z_cnd h).2 hm hgo hF
theorem z_fr_cs {ix : Nat} {ops : List Nat} (ho : z_okO own (.invokestatic ix) ops = true) (h : z_call lm hd0 E go ops pc z L st S = some out) (hgo : ∀ z' st' S', go (pc + 3) z' L st' S' = some out → z_fr S' out.2) (hF : ∀ m' as S o S1, m' < 211 → E m' as S = some (o, S1) → z_fr S S1) : z_fr S out.2 := by
  obtain ⟨m', n, kind, rc, rt0, ti, rfl, hcase⟩ := z_okO_is ho
  rcases hcase with ⟨rfl, hl, -⟩ | ⟨hm, hn, hk, hs⟩
  · rw [z_call6] at h
    obtain ⟨as, rest, hst0, hlen, hr8, h⟩ := z_cB_ok h
    unfold z_k6 at h
    split at h
    · have hz9 := z_cnd h
      clear h
      obtain ⟨ha, h⟩ := hz9
      simp only [Bool.and_eq_true, Bool.not_eq_true', decide_eq_true_eq, decide_eq_false_iff_not] at ha
      have a1 := Nat.eq_of_beq_eq_true ha.1.1.1.1.1.1
      split at h
      · rename_i he
        exact (z_fr_c1 (z_at_lt (by rw [← a1, he]; decide))).tr (hgo _ _ _ h)
      · exact (z_fr_2 _).tr (hgo _ _ _ h)
      · cases h
    · cases h
  · rcases hk with ⟨rfl, hiw, hl⟩ | ⟨rfl, hiw, hl⟩ | ⟨rfl, hiw, hl⟩
    · rw [z_call0] at h
      obtain ⟨as, rest, hst0, hlen, hr8, h⟩ := z_cB_ok h
      exact z_fr_cb h hm hgo hF
    · rw [z_call1] at h
      obtain ⟨as, rest, hst0, hlen, hr8, h⟩ := z_cB_ok h
      exact z_fr_cb h hm hgo hF
    · rw [z_call4] at h
      obtain ⟨as, rest, hst0, hlen, hr8, h⟩ := z_cB_ok h
      rcases z_cli_ok (z_cnd h).2 with ⟨x, S1, h1, h2⟩ | ⟨ee, S1, h1, h2⟩
      · exact (hF _ _ _ _ _ hm h1).tr (hgo _ _ _ h2)
      · cases h2
theorem z_fr_st {i : Instr} {ops : List Nat} (hE : z_okE cc own pc (i, len, ops) = true) (h : z_st lm rt hd0 E K go i ops pc z L st S = some out)
    (hgo : ∀ z' L' st' S', go (pc + len) z' L' st' S' = some out → z_fr S' out.2) (hK : ∀ t z' L' st' S', K t z' L' st' S' = some out → z_fr S' out.2) (hF : ∀ m' as S o S1, m' < 211 → E m' as S = some (o, S1) → z_fr S S1) : z_fr S out.2 := by
  cases i with
  | iconst n =>
    obtain ⟨hd, hl, hj, ho⟩ := z_okE_ok hE (by intro q; cases q)
    obtain rfl : len = 1 := Nat.eq_of_beq_eq_true hl
    change z_o_iconst go n pc z L st S = some out at h
    unfold z_o_iconst at h
    repeat' split at h
    all_goals first | exact hgo _ _ _ _ h | exact hK _ _ _ _ _ h | (cases h; done) | exact hgo _ _ _ _ (z_cnd h).2
  | bipush n =>
    obtain ⟨hd, hl, hj, ho⟩ := z_okE_ok hE (by intro q; cases q)
    obtain rfl : len = 2 := Nat.eq_of_beq_eq_true hl
    change z_o_bipush go n pc z L st S = some out at h
    unfold z_o_bipush at h
    repeat' split at h
    all_goals first | exact hgo _ _ _ _ h | exact hK _ _ _ _ _ h | (cases h; done) | exact hgo _ _ _ _ (z_cnd h).2
  | sipush n =>
    obtain ⟨hd, hl, hj, ho⟩ := z_okE_ok hE (by intro q; cases q)
    obtain rfl : len = 3 := Nat.eq_of_beq_eq_true hl
    change z_o_sipush go n pc z L st S = some out at h
    unfold z_o_sipush at h
    repeat' split at h
    all_goals first | exact hgo _ _ _ _ h | exact hK _ _ _ _ _ h | (cases h; done) | exact hgo _ _ _ _ (z_cnd h).2
  | lconst n =>
    obtain ⟨hd, hl, hj, ho⟩ := z_okE_ok hE (by intro q; cases q)
    obtain rfl : len = 1 := Nat.eq_of_beq_eq_true hl
    change z_o_lconst go n pc z L st S = some out at h
    unfold z_o_lconst at h
    repeat' split at h
    all_goals first | exact hgo _ _ _ _ h | exact hK _ _ _ _ _ h | (cases h; done) | exact hgo _ _ _ _ (z_cnd h).2
  | aload_n k =>
    obtain ⟨hd, hl, hj, ho⟩ := z_okE_ok hE (by intro q; cases q)
    obtain rfl : len = 1 := Nat.eq_of_beq_eq_true hl
    change z_o_aload_n go k pc z L st S = some out at h
    unfold z_o_aload_n at h
    repeat' split at h
    all_goals first | exact hgo _ _ _ _ h | exact hK _ _ _ _ _ h | (cases h; done) | exact hgo _ _ _ _ (z_cnd h).2
  | aload k =>
    obtain ⟨hd, hl, hj, ho⟩ := z_okE_ok hE (by intro q; cases q)
    obtain rfl : len = 2 := Nat.eq_of_beq_eq_true hl
    change z_o_aload go k pc z L st S = some out at h
    unfold z_o_aload at h
    repeat' split at h
    all_goals first | exact hgo _ _ _ _ h | exact hK _ _ _ _ _ h | (cases h; done) | exact hgo _ _ _ _ (z_cnd h).2
  | iload_n k =>
    obtain ⟨hd, hl, hj, ho⟩ := z_okE_ok hE (by intro q; cases q)
    obtain rfl : len = 1 := Nat.eq_of_beq_eq_true hl
    change z_o_iload_n go k pc z L st S = some out at h
    unfold z_o_iload_n at h
    repeat' split at h
    all_goals first | exact hgo _ _ _ _ h | exact hK _ _ _ _ _ h | (cases h; done) | exact hgo _ _ _ _ (z_cnd h).2
  | iload k =>
    obtain ⟨hd, hl, hj, ho⟩ := z_okE_ok hE (by intro q; cases q)
    obtain rfl : len = 2 := Nat.eq_of_beq_eq_true hl
    change z_o_iload go k pc z L st S = some out at h
    unfold z_o_iload at h
    repeat' split at h
    all_goals first | exact hgo _ _ _ _ h | exact hK _ _ _ _ _ h | (cases h; done) | exact hgo _ _ _ _ (z_cnd h).2
  | lload_n k =>
    obtain ⟨hd, hl, hj, ho⟩ := z_okE_ok hE (by intro q; cases q)
    obtain rfl : len = 1 := Nat.eq_of_beq_eq_true hl
    change z_o_lload_n go k pc z L st S = some out at h
    unfold z_o_lload_n at h
    repeat' split at h
    all_goals first | exact hgo _ _ _ _ h | exact hK _ _ _ _ _ h | (cases h; done) | exact hgo _ _ _ _ (z_cnd h).2
  | lload k =>
    obtain ⟨hd, hl, hj, ho⟩ := z_okE_ok hE (by intro q; cases q)
    obtain rfl : len = 2 := Nat.eq_of_beq_eq_true hl
    change z_o_lload go k pc z L st S = some out at h
    unfold z_o_lload at h
    repeat' split at h
    all_goals first | exact hgo _ _ _ _ h | exact hK _ _ _ _ _ h | (cases h; done) | exact hgo _ _ _ _ (z_cnd h).2
  | istore_n k =>
    obtain ⟨hd, hl, hj, ho⟩ := z_okE_ok hE (by intro q; cases q)
    obtain rfl : len = 1 := Nat.eq_of_beq_eq_true hl
    change z_o_istore_n go k pc z L st S = some out at h
    unfold z_o_istore_n at h
    repeat' split at h
    all_goals first | exact hgo _ _ _ _ h | exact hK _ _ _ _ _ h | (cases h; done) | exact hgo _ _ _ _ (z_cnd h).2
  | istore k =>
    obtain ⟨hd, hl, hj, ho⟩ := z_okE_ok hE (by intro q; cases q)
    obtain rfl : len = 2 := Nat.eq_of_beq_eq_true hl
    change z_o_istore go k pc z L st S = some out at h
    unfold z_o_istore at h
    repeat' split at h
    all_goals first | exact hgo _ _ _ _ h | exact hK _ _ _ _ _ h | (cases h; done) | exact hgo _ _ _ _ (z_cnd h).2
  | astore_n k =>
    obtain ⟨hd, hl, hj, ho⟩ := z_okE_ok hE (by intro q; cases q)
    obtain rfl : len = 1 := Nat.eq_of_beq_eq_true hl
    change z_o_astore_n go k pc z L st S = some out at h
    unfold z_o_astore_n at h
    repeat' split at h
    all_goals first | exact hgo _ _ _ _ h | exact hK _ _ _ _ _ h | (cases h; done) | exact hgo _ _ _ _ (z_cnd h).2
  | astore k =>
    obtain ⟨hd, hl, hj, ho⟩ := z_okE_ok hE (by intro q; cases q)
    obtain rfl : len = 2 := Nat.eq_of_beq_eq_true hl
    change z_o_astore go k pc z L st S = some out at h
    unfold z_o_astore at h
    repeat' split at h
    all_goals first | exact hgo _ _ _ _ h | exact hK _ _ _ _ _ h | (cases h; done) | exact hgo _ _ _ _ (z_cnd h).2
  | lstore_n k =>
    obtain ⟨hd, hl, hj, ho⟩ := z_okE_ok hE (by intro q; cases q)
    obtain rfl : len = 1 := Nat.eq_of_beq_eq_true hl
    change z_o_lstore_n go k pc z L st S = some out at h
    unfold z_o_lstore_n at h
    repeat' split at h
    all_goals first | exact hgo _ _ _ _ h | exact hK _ _ _ _ _ h | (cases h; done) | exact hgo _ _ _ _ (z_cnd h).2
  | lstore k =>
    obtain ⟨hd, hl, hj, ho⟩ := z_okE_ok hE (by intro q; cases q)
    obtain rfl : len = 2 := Nat.eq_of_beq_eq_true hl
    change z_o_lstore go k pc z L st S = some out at h
    unfold z_o_lstore at h
    repeat' split at h
    all_goals first | exact hgo _ _ _ _ h | exact hK _ _ _ _ _ h | (cases h; done) | exact hgo _ _ _ _ (z_cnd h).2
  | iinc k n =>
    obtain ⟨hd, hl, hj, ho⟩ := z_okE_ok hE (by intro q; cases q)
    obtain rfl : len = 3 := Nat.eq_of_beq_eq_true hl
    change z_o_iinc go k n pc z L st S = some out at h
    unfold z_o_iinc at h
    repeat' split at h
    all_goals first | exact hgo _ _ _ _ h | exact hK _ _ _ _ _ h | (cases h; done) | exact hgo _ _ _ _ (z_cnd h).2
  | iadd =>
    obtain ⟨hd, hl, hj, ho⟩ := z_okE_ok hE (by intro q; cases q)
    obtain rfl : len = 1 := Nat.eq_of_beq_eq_true hl
    change z_o_iadd go pc z L st S = some out at h
    unfold z_o_iadd at h
    repeat' split at h
    all_goals first | exact hgo _ _ _ _ h | exact hK _ _ _ _ _ h | (cases h; done) | exact hgo _ _ _ _ (z_cnd h).2
  | isub =>
    obtain ⟨hd, hl, hj, ho⟩ := z_okE_ok hE (by intro q; cases q)
    obtain rfl : len = 1 := Nat.eq_of_beq_eq_true hl
    change z_o_isub go pc z L st S = some out at h
    unfold z_o_isub at h
    repeat' split at h
    all_goals first | exact hgo _ _ _ _ h | exact hK _ _ _ _ _ h | (cases h; done) | exact hgo _ _ _ _ (z_cnd h).2
  | imul =>
    obtain ⟨hd, hl, hj, ho⟩ := z_okE_ok hE (by intro q; cases q)
    obtain rfl : len = 1 := Nat.eq_of_beq_eq_true hl
    change z_o_imul go pc z L st S = some out at h
    unfold z_o_imul at h
    repeat' split at h
    all_goals first | exact hgo _ _ _ _ h | exact hK _ _ _ _ _ h | (cases h; done) | exact hgo _ _ _ _ (z_cnd h).2
  | iand =>
    obtain ⟨hd, hl, hj, ho⟩ := z_okE_ok hE (by intro q; cases q)
    obtain rfl : len = 1 := Nat.eq_of_beq_eq_true hl
    change z_o_iand go pc z L st S = some out at h
    unfold z_o_iand at h
    repeat' split at h
    all_goals first | exact hgo _ _ _ _ h | exact hK _ _ _ _ _ h | (cases h; done) | exact hgo _ _ _ _ (z_cnd h).2
  | ior =>
    obtain ⟨hd, hl, hj, ho⟩ := z_okE_ok hE (by intro q; cases q)
    obtain rfl : len = 1 := Nat.eq_of_beq_eq_true hl
    change z_o_ior go pc z L st S = some out at h
    unfold z_o_ior at h
    repeat' split at h
    all_goals first | exact hgo _ _ _ _ h | exact hK _ _ _ _ _ h | (cases h; done) | exact hgo _ _ _ _ (z_cnd h).2
  | ixor =>
    obtain ⟨hd, hl, hj, ho⟩ := z_okE_ok hE (by intro q; cases q)
    obtain rfl : len = 1 := Nat.eq_of_beq_eq_true hl
    change z_o_ixor go pc z L st S = some out at h
    unfold z_o_ixor at h
    repeat' split at h
    all_goals first | exact hgo _ _ _ _ h | exact hK _ _ _ _ _ h | (cases h; done) | exact hgo _ _ _ _ (z_cnd h).2
  | ishl =>
    obtain ⟨hd, hl, hj, ho⟩ := z_okE_ok hE (by intro q; cases q)
    obtain rfl : len = 1 := Nat.eq_of_beq_eq_true hl
    change z_o_ishl go pc z L st S = some out at h
    unfold z_o_ishl at h
    repeat' split at h
    all_goals first | exact hgo _ _ _ _ h | exact hK _ _ _ _ _ h | (cases h; done) | exact hgo _ _ _ _ (z_cnd h).2
  | ishr =>
    obtain ⟨hd, hl, hj, ho⟩ := z_okE_ok hE (by intro q; cases q)
    obtain rfl : len = 1 := Nat.eq_of_beq_eq_true hl
    change z_o_ishr go pc z L st S = some out at h
    unfold z_o_ishr at h
    repeat' split at h
    all_goals first | exact hgo _ _ _ _ h | exact hK _ _ _ _ _ h | (cases h; done) | exact hgo _ _ _ _ (z_cnd h).2
  | iushr =>
    obtain ⟨hd, hl, hj, ho⟩ := z_okE_ok hE (by intro q; cases q)
    obtain rfl : len = 1 := Nat.eq_of_beq_eq_true hl
    change z_o_iushr go pc z L st S = some out at h
    unfold z_o_iushr at h
    repeat' split at h
    all_goals first | exact hgo _ _ _ _ h | exact hK _ _ _ _ _ h | (cases h; done) | exact hgo _ _ _ _ (z_cnd h).2
  | idiv =>
    obtain ⟨hd, hl, hj, ho⟩ := z_okE_ok hE (by intro q; cases q)
    obtain rfl : len = 1 := Nat.eq_of_beq_eq_true hl
    change z_o_idiv go pc z L st S = some out at h
    unfold z_o_idiv at h
    repeat' split at h
    all_goals first | exact hgo _ _ _ _ h | exact hK _ _ _ _ _ h | (cases h; done) | exact hgo _ _ _ _ (z_cnd h).2
  | irem =>
    obtain ⟨hd, hl, hj, ho⟩ := z_okE_ok hE (by intro q; cases q)
    obtain rfl : len = 1 := Nat.eq_of_beq_eq_true hl
    change z_o_irem go pc z L st S = some out at h
    unfold z_o_irem at h
    repeat' split at h
    all_goals first | exact hgo _ _ _ _ h | exact hK _ _ _ _ _ h | (cases h; done) | exact hgo _ _ _ _ (z_cnd h).2
  | ineg =>
    obtain ⟨hd, hl, hj, ho⟩ := z_okE_ok hE (by intro q; cases q)
    obtain rfl : len = 1 := Nat.eq_of_beq_eq_true hl
    change z_o_ineg go pc z L st S = some out at h
    unfold z_o_ineg at h
    repeat' split at h
    all_goals first | exact hgo _ _ _ _ h | exact hK _ _ _ _ _ h | (cases h; done) | exact hgo _ _ _ _ (z_cnd h).2
  | ladd =>
    obtain ⟨hd, hl, hj, ho⟩ := z_okE_ok hE (by intro q; cases q)
    obtain rfl : len = 1 := Nat.eq_of_beq_eq_true hl
    change z_o_ladd go pc z L st S = some out at h
    unfold z_o_ladd at h
    repeat' split at h
    all_goals first | exact hgo _ _ _ _ h | exact hK _ _ _ _ _ h | (cases h; done) | exact hgo _ _ _ _ (z_cnd h).2
  | lsub =>
    obtain ⟨hd, hl, hj, ho⟩ := z_okE_ok hE (by intro q; cases q)
    obtain rfl : len = 1 := Nat.eq_of_beq_eq_true hl
    change z_o_lsub go pc z L st S = some out at h
    unfold z_o_lsub at h
    repeat' split at h
    all_goals first | exact hgo _ _ _ _ h | exact hK _ _ _ _ _ h | (cases h; done) | exact hgo _ _ _ _ (z_cnd h).2
  | land =>
    obtain ⟨hd, hl, hj, ho⟩ := z_okE_ok hE (by intro q; cases q)
    obtain rfl : len = 1 := Nat.eq_of_beq_eq_true hl
    change z_o_land go pc z L st S = some out at h
    unfold z_o_land at h
    repeat' split at h
    all_goals first | exact hgo _ _ _ _ h | exact hK _ _ _ _ _ h | (cases h; done) | exact hgo _ _ _ _ (z_cnd h).2
  | lor =>
    obtain ⟨hd, hl, hj, ho⟩ := z_okE_ok hE (by intro q; cases q)
    obtain rfl : len = 1 := Nat.eq_of_beq_eq_true hl
    change z_o_lor go pc z L st S = some out at h
    unfold z_o_lor at h
    repeat' split at h
    all_goals first | exact hgo _ _ _ _ h | exact hK _ _ _ _ _ h | (cases h; done) | exact hgo _ _ _ _ (z_cnd h).2
  | lshl =>
    obtain ⟨hd, hl, hj, ho⟩ := z_okE_ok hE (by intro q; cases q)
    obtain rfl : len = 1 := Nat.eq_of_beq_eq_true hl
    change z_o_lshl go pc z L st S = some out at h
    unfold z_o_lshl at h
    repeat' split at h
    all_goals first | exact hgo _ _ _ _ h | exact hK _ _ _ _ _ h | (cases h; done) | exact hgo _ _ _ _ (z_cnd h).2
  | lushr =>
    obtain ⟨hd, hl, hj, ho⟩ := z_okE_ok hE (by intro q; cases q)
    obtain rfl : len = 1 := Nat.eq_of_beq_eq_true hl
    change z_o_lushr go pc z L st S = some out at h
    unfold z_o_lushr at h
    repeat' split at h
    all_goals first | exact hgo _ _ _ _ h | exact hK _ _ _ _ _ h | (cases h; done) | exact hgo _ _ _ _ (z_cnd h).2
  | lcmp =>
    obtain ⟨hd, hl, hj, ho⟩ := z_okE_ok hE (by intro q; cases q)
    obtain rfl : len = 1 := Nat.eq_of_beq_eq_true hl
    change z_o_lcmp go pc z L st S = some out at h
    unfold z_o_lcmp at h
    repeat' split at h
    all_goals first | exact hgo _ _ _ _ h | exact hK _ _ _ _ _ h | (cases h; done) | exact hgo _ _ _ _ (z_cnd h).2
  | i2l =>
    obtain ⟨hd, hl, hj, ho⟩ := z_okE_ok hE (by intro q; cases q)
    obtain rfl : len = 1 := Nat.eq_of_beq_eq_true hl
    change z_o_i2l go pc z L st S = some out at h
    unfold z_o_i2l at h
    repeat' split at h
    all_goals first | exact hgo _ _ _ _ h | exact hK _ _ _ _ _ h | (cases h; done) | exact hgo _ _ _ _ (z_cnd h).2
  | l2i =>
    obtain ⟨hd, hl, hj, ho⟩ := z_okE_ok hE (by intro q; cases q)
    obtain rfl : len = 1 := Nat.eq_of_beq_eq_true hl
    change z_o_l2i go pc z L st S = some out at h
    unfold z_o_l2i at h
    repeat' split at h
    all_goals first | exact hgo _ _ _ _ h | exact hK _ _ _ _ _ h | (cases h; done) | exact hgo _ _ _ _ (z_cnd h).2
  | i2b =>
    obtain ⟨hd, hl, hj, ho⟩ := z_okE_ok hE (by intro q; cases q)
    obtain rfl : len = 1 := Nat.eq_of_beq_eq_true hl
    change z_o_i2b go pc z L st S = some out at h
    unfold z_o_i2b at h
    repeat' split at h
    all_goals first | exact hgo _ _ _ _ h | exact hK _ _ _ _ _ h | (cases h; done) | exact hgo _ _ _ _ (z_cnd h).2
  | dup =>
    obtain ⟨hd, hl, hj, ho⟩ := z_okE_ok hE (by intro q; cases q)
    obtain rfl : len = 1 := Nat.eq_of_beq_eq_true hl
    change z_o_dup go pc z L st S = some out at h
    unfold z_o_dup at h
    repeat' split at h
    all_goals first | exact hgo _ _ _ _ h | exact hK _ _ _ _ _ h | (cases h; done) | exact hgo _ _ _ _ (z_cnd h).2
  | dup2 =>
    obtain ⟨hd, hl, hj, ho⟩ := z_okE_ok hE (by intro q; cases q)
    obtain rfl : len = 1 := Nat.eq_of_beq_eq_true hl
    change z_o_dup2 go pc z L st S = some out at h
    unfold z_o_dup2 at h
    repeat' split at h
    all_goals first | exact hgo _ _ _ _ h | exact hK _ _ _ _ _ h | (cases h; done) | exact hgo _ _ _ _ (z_cnd h).2
  | baload =>
    obtain ⟨hd, hl, hj, ho⟩ := z_okE_ok hE (by intro q; cases q)
    obtain rfl : len = 1 := Nat.eq_of_beq_eq_true hl
    change z_o_baload go pc z L st S = some out at h
    unfold z_o_baload at h
    repeat' split at h
    all_goals first | exact hgo _ _ _ _ h | exact hK _ _ _ _ _ h | (cases h; done) | exact hgo _ _ _ _ (z_cnd h).2
  | laload =>
    obtain ⟨hd, hl, hj, ho⟩ := z_okE_ok hE (by intro q; cases q)
    obtain rfl : len = 1 := Nat.eq_of_beq_eq_true hl
    change z_o_laload go pc z L st S = some out at h
    unfold z_o_laload at h
    repeat' split at h
    all_goals first | exact hgo _ _ _ _ h | exact hK _ _ _ _ _ h | (cases h; done) | exact hgo _ _ _ _ (z_cnd h).2
  | getstatic ix =>
    obtain ⟨hd, hl, hj, ho⟩ := z_okE_ok hE (by intro q; cases q)
    obtain rfl : len = 3 := Nat.eq_of_beq_eq_true hl
    change z_o_getstatic ops go pc z L st S = some out at h
    unfold z_o_getstatic at h
    repeat' split at h
    all_goals first | exact hgo _ _ _ _ h | exact hK _ _ _ _ _ h | (cases h; done) | exact hgo _ _ _ _ (z_cnd h).2
  | ldc ix =>
    obtain ⟨hd, hl, hj, ho⟩ := z_okE_ok hE (by intro q; cases q)
    obtain rfl : len = 2 := Nat.eq_of_beq_eq_true hl
    change z_o_ldc ops go pc z L st S = some out at h
    unfold z_o_ldc at h
    repeat' split at h
    all_goals first | exact hgo _ _ _ _ h | exact hK _ _ _ _ _ h | (cases h; done) | exact hgo _ _ _ _ (z_cnd h).2
  | ldc_w ix =>
    obtain ⟨hd, hl, hj, ho⟩ := z_okE_ok hE (by intro q; cases q)
    obtain rfl : len = 3 := Nat.eq_of_beq_eq_true hl
    change z_o_ldc_w ops go pc z L st S = some out at h
    unfold z_o_ldc_w at h
    repeat' split at h
    all_goals first | exact hgo _ _ _ _ h | exact hK _ _ _ _ _ h | (cases h; done) | exact hgo _ _ _ _ (z_cnd h).2
  | ldc2_w ix =>
    obtain ⟨hd, hl, hj, ho⟩ := z_okE_ok hE (by intro q; cases q)
    obtain rfl : len = 3 := Nat.eq_of_beq_eq_true hl
    change z_o_ldc2_w ops go pc z L st S = some out at h
    unfold z_o_ldc2_w at h
    repeat' split at h
    all_goals first | exact hgo _ _ _ _ h | exact hK _ _ _ _ _ h | (cases h; done) | exact hgo _ _ _ _ (z_cnd h).2
  | getfield ix =>
    obtain ⟨hd, hl, hj, ho⟩ := z_okE_ok hE (by intro q; cases q)
    obtain rfl : len = 3 := Nat.eq_of_beq_eq_true hl
    change z_o_getfield ops go pc z L st S = some out at h
    unfold z_o_getfield at h
    split at h
    · split at h
      · have h := (z_cnd h).2
        split at h
        all_goals first | exact hgo _ _ _ _ h | exact hgo _ _ _ _ (z_cnd2 h).2 | (cases h; done)
      · cases h
    · cases h
  | putfield ix =>
    obtain ⟨hd, hl, hj, ho⟩ := z_okE_ok hE (by intro q; cases q)
    obtain rfl : len = 3 := Nat.eq_of_beq_eq_true hl
    change z_o_putfield ops go pc z L st S = some out at h
    obtain ⟨c0, k, t, v, nest, ti, rfl, hc, -⟩ := z_okO_put ho
    unfold z_o_putfield at h
    dsimp only at h
    split at h
    · have hk := (z_cnd h).1
      simp only [Bool.and_eq_true] at hk
      exact (z_fr_w1 (z_isO_ok hc hk.1.1).1).tr (hgo _ _ _ _ (z_cnd h).2)
    · have hk := (z_cnd h).1
      simp only [Bool.and_eq_true] at hk
      exact (z_fr_w1 (z_isO_ok hc hk.1.1).1).tr (hgo _ _ _ _ (z_cnd h).2)
    · cases h
  | iaload =>
    obtain ⟨hd, hl, hj, ho⟩ := z_okE_ok hE (by intro q; cases q)
    obtain rfl : len = 1 := Nat.eq_of_beq_eq_true hl
    change z_o_iaload lm go pc z L st S = some out at h
    unfold z_o_iaload at h
    split at h
    · rename_i x a r0
      cases ha : (lm && Nat.beq a 1300) with
      | true => rw [ha] at h; exact hgo _ _ _ _ (z_cnd h).2
      | false => rw [ha] at h; exact hgo _ _ _ _ (z_cnd h).2
    · cases h
  | aaload =>
    obtain ⟨hd, hl, hj, ho⟩ := z_okE_ok hE (by intro q; cases q)
    obtain rfl : len = 1 := Nat.eq_of_beq_eq_true hl
    change z_o_aaload go pc z L st S = some out at h
    unfold z_o_aaload at h
    split at h
    · rename_i x a r0
      cases ha : Nat.beq a 1100 with
      | true => rw [ha] at h; exact hgo _ _ _ _ (z_cnd h).2
      | false => rw [ha] at h; exact hgo _ _ _ _ (z_cnd h).2
    · cases h
  | arraylength =>
    obtain ⟨hd, hl, hj, ho⟩ := z_okE_ok hE (by intro q; cases q)
    obtain rfl : len = 1 := Nat.eq_of_beq_eq_true hl
    change z_o_arraylength lm go pc z L st S = some out at h
    unfold z_o_arraylength at h
    split at h
    · rename_i a r0
      cases ha : (lm && Nat.beq a 1300) with
      | true => rw [ha] at h; exact hgo _ _ _ _ h
      | false =>
        rw [ha] at h
        cases hA : Nat.beq a 1100 with
        | true => rw [hA] at h; exact hgo _ _ _ _ h
        | false => rw [hA] at h; exact hgo _ _ _ _ (z_cnd h).2
    · cases h
  | iastore =>
    obtain ⟨hd, hl, hj, ho⟩ := z_okE_ok hE (by intro q; cases q)
    obtain rfl : len = 1 := Nat.eq_of_beq_eq_true hl
    change z_o_iastore go pc z L st S = some out at h
    unfold z_o_iastore at h
    split at h
    · have hk := (z_cnd h).1
      simp only [Bool.and_eq_true] at hk
      exact (z_fr_w1 (z_at_lt (by rw [Nat.eq_of_beq_eq_true hk.1]; decide))).tr (hgo _ _ _ _ (z_cnd h).2)
    · cases h
  | lastore =>
    obtain ⟨hd, hl, hj, ho⟩ := z_okE_ok hE (by intro q; cases q)
    obtain rfl : len = 1 := Nat.eq_of_beq_eq_true hl
    change z_o_lastore go pc z L st S = some out at h
    unfold z_o_lastore at h
    split at h
    · exact (z_fr_2 _).tr (hgo _ _ _ _ (z_cnd h).2)
    · cases h
  | bastore =>
    obtain ⟨hd, hl, hj, ho⟩ := z_okE_ok hE (by intro q; cases q)
    obtain rfl : len = 1 := Nat.eq_of_beq_eq_true hl
    change z_o_bastore go pc z L st S = some out at h
    unfold z_o_bastore at h
    split at h
    · have h := (z_cnd h).2
      split at h
      · rename_i ht
        exact (z_fr_w1 (z_at_lt (by rw [ht]; decide))).tr (hgo _ _ _ _ h)
      · rename_i ht
        exact (z_fr_w1 (z_at_lt (by rw [ht]; decide))).tr (hgo _ _ _ _ h)
      · cases h
    · cases h
  | ifCond c9 off =>
    obtain ⟨hd, hl, hj, ho⟩ := z_okE_ok hE (by intro q; cases q)
    obtain rfl : len = 3 := Nat.eq_of_beq_eq_true hl
    change z_o_ifCond K go c9 off pc z L st S = some out at h
    unfold z_o_ifCond at h
    repeat' split at h
    all_goals first | exact hgo _ _ _ _ h | exact hK _ _ _ _ _ h | (cases h; done) | exact hgo _ _ _ _ (z_cnd h).2
  | if_icmp c9 off =>
    obtain ⟨hd, hl, hj, ho⟩ := z_okE_ok hE (by intro q; cases q)
    obtain rfl : len = 3 := Nat.eq_of_beq_eq_true hl
    change z_o_if_icmp K go c9 off pc z L st S = some out at h
    unfold z_o_if_icmp at h
    repeat' split at h
    all_goals first | exact hgo _ _ _ _ h | exact hK _ _ _ _ _ h | (cases h; done) | exact hgo _ _ _ _ (z_cnd h).2
  | if_acmp c9 off =>
    obtain ⟨hd, hl, hj, ho⟩ := z_okE_ok hE (by intro q; cases q)
    obtain rfl : len = 3 := Nat.eq_of_beq_eq_true hl
    change z_o_if_acmp K go c9 off pc z L st S = some out at h
    unfold z_o_if_acmp at h
    split at h
    · have h := (z_cnd h).2
      repeat' split at h
      all_goals first | exact hgo _ _ _ _ h | exact hK _ _ _ _ _ h
    · cases h
  | goto off =>
    obtain ⟨hd, hl, hj, ho⟩ := z_okE_ok hE (by intro q; cases q)
    obtain rfl : len = 3 := Nat.eq_of_beq_eq_true hl
    change z_o_goto K off pc z L st S = some out at h
    exact hK _ _ _ _ _ h
  | tableswitch d lo hi offs =>
    obtain ⟨hd, hl, hj, ho⟩ := z_okE_ok hE (by intro q; cases q)
    change z_o_tableswitch K d lo hi offs pc z L st S = some out at h
    unfold z_o_tableswitch at h
    split at h
    · unfold z_sw at h
      split at h
      · exact hK _ _ _ _ _ h
      · split at h
        · exact hK _ _ _ _ _ h
        · cases h
    · cases h
  | lookupswitch d ps =>
    obtain ⟨hd, hl, hj, ho⟩ := z_okE_ok hE (by intro q; cases q)
    change z_o_lookupswitch K d ps pc z L st S = some out at h
    unfold z_o_lookupswitch at h
    split at h
    · exact hK _ _ _ _ _ h
    · cases h
  | invokevirtual ix =>
    obtain ⟨hd, hl, hj, ho⟩ := z_okE_ok hE (by intro q; cases q)
    obtain rfl : len = 3 := Nat.eq_of_beq_eq_true hl
    change z_call lm hd0 E go ops pc z L st S = some out at h
    exact z_fr_cv ho h (fun z' st' S' h' => hgo _ _ _ _ h') hF
  | invokestatic ix =>
    obtain ⟨hd, hl, hj, ho⟩ := z_okE_ok hE (by intro q; cases q)
    obtain rfl : len = 3 := Nat.eq_of_beq_eq_true hl
    change z_call lm hd0 E go ops pc z L st S = some out at h
    exact z_fr_cs ho h (fun z' st' S' h' => hgo _ _ _ _ h') hF
  | ireturn =>
    obtain ⟨hd, hl, hj, ho⟩ := z_okE_ok hE (by intro q; cases q)
    obtain rfl : len = 1 := Nat.eq_of_beq_eq_true hl
    change z_o_ireturn rt pc z L st S = some out at h
    unfold z_o_ireturn at h
    split at h
    · cases (z_cnd h).2
      exact z_fr.rf _
    · cases h
  | areturn =>
    obtain ⟨hd, hl, hj, ho⟩ := z_okE_ok hE (by intro q; cases q)
    obtain rfl : len = 1 := Nat.eq_of_beq_eq_true hl
    change z_o_areturn lm pc z L st S = some out at h
    unfold z_o_areturn at h
    split at h
    · cases (z_cnd h).2
      exact z_fr.rf _
    · cases h
  | return_ =>
    obtain ⟨hd, hl, hj, ho⟩ := z_okE_ok hE (by intro q; cases q)
    obtain rfl : len = 1 := Nat.eq_of_beq_eq_true hl
    change z_o_return_ lm pc z L st S = some out at h
    unfold z_o_return_ at h
    split at h
    · cases (z_cnd h).2
      exact z_fr.rf _
    · cases h
  | athrow =>
    change z_o_athrow lm ops pc z L st S = some out at h
    unfold z_o_athrow at h
    split at h
    · split at h
      · cases (z_cnd2 h).2
        exact z_fr.rf _
      · cases h
    · cases h
  | _ => cases h
theorem z_fr_ex (hK : ∀ t z' L' st' S', K t z' L' st' S' = some out → z_fr S' out.2) (hF : ∀ m' as S o S1, m' < 211 → E m' as S = some (o, S1) → z_fr S S1) : ∀ (is : List z_I) (pc z : Nat) (L : z_Lo) (st : List Value) (S : z_St), z_okL cc own pc is = true → z_ex lm rt hd0 E K is pc z L st S = some out → z_fr S out.2
  | [], pc, z, L, st, S, _, h => hK pc z L st S h
  | x :: is, pc, z, L, st, S, ho, h => by
    obtain ⟨i, len, ops⟩ := x
    have ho2 : (z_okE cc own pc (i, len, ops) && z_okL cc own (pc + len) is) = true := ho
    simp only [Bool.and_eq_true] at ho2
    exact z_fr_st ho2.1 h (fun z' L' st' S' h3 => z_fr_ex hK hF is (pc + len) z' L' st' S' ho2.2 h3) hK hF
theorem z_fnd_mem {α : Type} : ∀ (l : List (Nat × α)) (k : Nat) (q : α), z_fnd l k = some q → (k, q) ∈ l
  | [], k, q, h => by cases h
  | a :: l, k, q, h => by
    unfold z_fnd at h
    cases hb : Nat.beq a.1 k with
    | true =>
      rw [hb] at h
      obtain rfl := Nat.eq_of_beq_eq_true hb
      cases h
      exact List.mem_cons_self
    | false => rw [hb] at h; exact List.mem_cons_of_mem _ (z_fnd_mem l k q h)
theorem z_fr_run {b : z_B} (hob : z_okB cc own b = true) (hF : ∀ m' as S o S1, m' < 211 → E m' as S = some (o, S1) → z_fr S S1) : ∀ (n pc z : Nat) (L : z_Lo) (st : List Value) (S : z_St), z_run lm rt hd0 E b n pc z L st S = some out → z_fr S out.2
  | 0, pc, z, L, st, S, h => by cases h
  | n + 1, pc, z, L, st, S, h => by
    unfold z_run at h
    split at h
    · rename_i q hq
      have hm := z_fnd_mem _ _ _ hq
      exact z_fr_ex (fun t z' L' st' S' h3 => z_fr_run hob hF n t z' L' st' S' h3) hF q.2 pc z (z_mk q.1 L) st S (List.all_eq_true.mp hob _ hm) h
    · cases h
end ZF
theorem z_okb_of {m : Nat} {own : String} {b : z_B} (h : z_okB (z_m m).2.1 own b = true) (h1 : z_own.getD (z_m m).2.2.2.2.1 "" = own) (h2 : z_bs.getD m [] = b) : z_okB (z_m m).2.1 (z_own.getD (z_m m).2.2.2.2.1 "") (z_bs.getD m []) = true := by rw [h1, h2]; exact h
set_option maxRecDepth 100000 in
theorem z_okb_d0 (m : Nat) (h1 : 0 ≤ m) (h2 : m < 10) : z_okB (z_m m).2.1 (z_own.getD (z_m m).2.2.2.2.1 "") (z_bs.getD m []) = true := by
  have hc : m = 0 ∨ m = 1 ∨ m = 2 ∨ m = 3 ∨ m = 4 ∨ m = 5 ∨ m = 6 ∨ m = 7 ∨ m = 8 ∨ m = 9 := by omega
  rcases hc with rfl | rfl | rfl | rfl | rfl | rfl | rfl | rfl | rfl | rfl
  · exact z_okb_of z_okb_0 rfl rfl
  · exact z_okb_of z_okb_1 rfl rfl
  · exact z_okb_of z_okb_2 rfl rfl
  · exact z_okb_of z_okb_3 rfl rfl
  · exact z_okb_of z_okb_4 rfl rfl
  · exact z_okb_of z_okb_5 rfl rfl
  · exact z_okb_of z_okb_6 rfl rfl
  · exact z_okb_of z_okb_7 rfl rfl
  · exact z_okb_of z_okb_8 rfl rfl
  · exact z_okb_of z_okb_9 rfl rfl
set_option maxRecDepth 100000 in
theorem z_okb_d10 (m : Nat) (h1 : 10 ≤ m) (h2 : m < 20) : z_okB (z_m m).2.1 (z_own.getD (z_m m).2.2.2.2.1 "") (z_bs.getD m []) = true := by
  have hc : m = 10 ∨ m = 11 ∨ m = 12 ∨ m = 13 ∨ m = 14 ∨ m = 15 ∨ m = 16 ∨ m = 17 ∨ m = 18 ∨ m = 19 := by omega
  rcases hc with rfl | rfl | rfl | rfl | rfl | rfl | rfl | rfl | rfl | rfl
  · exact z_okb_of z_okb_10 rfl rfl
  · exact z_okb_of z_okb_11 rfl rfl
  · exact z_okb_of z_okb_12 rfl rfl
  · exact z_okb_of z_okb_13 rfl rfl
  · exact z_okb_of z_okb_14 rfl rfl
  · exact z_okb_of z_okb_15 rfl rfl
  · exact z_okb_of z_okb_16 rfl rfl
  · exact z_okb_of z_okb_17 rfl rfl
  · exact z_okb_of z_okb_18 rfl rfl
  · exact z_okb_of z_okb_19 rfl rfl
set_option maxRecDepth 100000 in
theorem z_okb_d20 (m : Nat) (h1 : 20 ≤ m) (h2 : m < 30) : z_okB (z_m m).2.1 (z_own.getD (z_m m).2.2.2.2.1 "") (z_bs.getD m []) = true := by
  have hc : m = 20 ∨ m = 21 ∨ m = 22 ∨ m = 23 ∨ m = 24 ∨ m = 25 ∨ m = 26 ∨ m = 27 ∨ m = 28 ∨ m = 29 := by omega
  rcases hc with rfl | rfl | rfl | rfl | rfl | rfl | rfl | rfl | rfl | rfl
  · exact z_okb_of z_okb_20 rfl rfl
  · exact z_okb_of z_okb_21 rfl rfl
  · exact z_okb_of z_okb_22 rfl rfl
  · exact z_okb_of z_okb_23 rfl rfl
  · exact z_okb_of z_okb_24 rfl rfl
  · exact z_okb_of z_okb_25 rfl rfl
  · exact z_okb_of z_okb_26 rfl rfl
  · exact z_okb_of z_okb_27 rfl rfl
  · exact z_okb_of z_okb_28 rfl rfl
  · exact z_okb_of z_okb_29 rfl rfl
set_option maxRecDepth 100000 in
theorem z_okb_d30 (m : Nat) (h1 : 30 ≤ m) (h2 : m < 40) : z_okB (z_m m).2.1 (z_own.getD (z_m m).2.2.2.2.1 "") (z_bs.getD m []) = true := by
  have hc : m = 30 ∨ m = 31 ∨ m = 32 ∨ m = 33 ∨ m = 34 ∨ m = 35 ∨ m = 36 ∨ m = 37 ∨ m = 38 ∨ m = 39 := by omega
  rcases hc with rfl | rfl | rfl | rfl | rfl | rfl | rfl | rfl | rfl | rfl
  · exact z_okb_of z_okb_30 rfl rfl
  · exact z_okb_of z_okb_31 rfl rfl
  · exact z_okb_of z_okb_32 rfl rfl
  · exact z_okb_of z_okb_33 rfl rfl
  · exact z_okb_of z_okb_34 rfl rfl
  · exact z_okb_of z_okb_35 rfl rfl
  · exact z_okb_of z_okb_36 rfl rfl
  · exact z_okb_of z_okb_37 rfl rfl
  · exact z_okb_of z_okb_38 rfl rfl
  · exact z_okb_of z_okb_39 rfl rfl
set_option maxRecDepth 100000 in
theorem z_okb_d40 (m : Nat) (h1 : 40 ≤ m) (h2 : m < 50) : z_okB (z_m m).2.1 (z_own.getD (z_m m).2.2.2.2.1 "") (z_bs.getD m []) = true := by
  have hc : m = 40 ∨ m = 41 ∨ m = 42 ∨ m = 43 ∨ m = 44 ∨ m = 45 ∨ m = 46 ∨ m = 47 ∨ m = 48 ∨ m = 49 := by omega
  rcases hc with rfl | rfl | rfl | rfl | rfl | rfl | rfl | rfl | rfl | rfl
  · exact z_okb_of z_okb_40 rfl rfl
  · exact z_okb_of z_okb_41 rfl rfl
  · exact z_okb_of z_okb_42 rfl rfl
  · exact z_okb_of z_okb_43 rfl rfl
  · exact z_okb_of z_okb_44 rfl rfl
  · exact z_okb_of z_okb_45 rfl rfl
  · exact z_okb_of z_okb_46 rfl rfl
  · exact z_okb_of z_okb_47 rfl rfl
  · exact z_okb_of z_okb_48 rfl rfl
  · exact z_okb_of z_okb_49 rfl rfl
set_option maxRecDepth 100000 in
theorem z_okb_d50 (m : Nat) (h1 : 50 ≤ m) (h2 : m < 60) : z_okB (z_m m).2.1 (z_own.getD (z_m m).2.2.2.2.1 "") (z_bs.getD m []) = true := by
  have hc : m = 50 ∨ m = 51 ∨ m = 52 ∨ m = 53 ∨ m = 54 ∨ m = 55 ∨ m = 56 ∨ m = 57 ∨ m = 58 ∨ m = 59 := by omega
  rcases hc with rfl | rfl | rfl | rfl | rfl | rfl | rfl | rfl | rfl | rfl
  · exact z_okb_of z_okb_50 rfl rfl
  · exact z_okb_of z_okb_51 rfl rfl
  · exact z_okb_of z_okb_52 rfl rfl
  · exact z_okb_of z_okb_53 rfl rfl
  · exact z_okb_of z_okb_54 rfl rfl
  · exact z_okb_of z_okb_55 rfl rfl
  · exact z_okb_of z_okb_56 rfl rfl
  · exact z_okb_of z_okb_57 rfl rfl
  · exact z_okb_of z_okb_58 rfl rfl
  · exact z_okb_of z_okb_59 rfl rfl
set_option maxRecDepth 100000 in
theorem z_okb_d60 (m : Nat) (h1 : 60 ≤ m) (h2 : m < 70) : z_okB (z_m m).2.1 (z_own.getD (z_m m).2.2.2.2.1 "") (z_bs.getD m []) = true := by
  have hc : m = 60 ∨ m = 61 ∨ m = 62 ∨ m = 63 ∨ m = 64 ∨ m = 65 ∨ m = 66 ∨ m = 67 ∨ m = 68 ∨ m = 69 := by omega
  rcases hc with rfl | rfl | rfl | rfl | rfl | rfl | rfl | rfl | rfl | rfl
  · exact z_okb_of z_okb_60 rfl rfl
  · exact z_okb_of z_okb_61 rfl rfl
  · exact z_okb_of z_okb_62 rfl rfl
  · exact z_okb_of z_okb_63 rfl rfl
  · exact z_okb_of z_okb_64 rfl rfl
  · exact z_okb_of z_okb_65 rfl rfl
  · exact z_okb_of z_okb_66 rfl rfl
  · exact z_okb_of z_okb_67 rfl rfl
  · exact z_okb_of z_okb_68 rfl rfl
  · exact z_okb_of z_okb_69 rfl rfl
set_option maxRecDepth 100000 in
theorem z_okb_d70 (m : Nat) (h1 : 70 ≤ m) (h2 : m < 80) : z_okB (z_m m).2.1 (z_own.getD (z_m m).2.2.2.2.1 "") (z_bs.getD m []) = true := by
  have hc : m = 70 ∨ m = 71 ∨ m = 72 ∨ m = 73 ∨ m = 74 ∨ m = 75 ∨ m = 76 ∨ m = 77 ∨ m = 78 ∨ m = 79 := by omega
  rcases hc with rfl | rfl | rfl | rfl | rfl | rfl | rfl | rfl | rfl | rfl
  · exact z_okb_of z_okb_70 rfl rfl
  · exact z_okb_of z_okb_71 rfl rfl
  · exact z_okb_of z_okb_72 rfl rfl
  · exact z_okb_of z_okb_73 rfl rfl
  · exact z_okb_of z_okb_74 rfl rfl
  · exact z_okb_of z_okb_75 rfl rfl
  · exact z_okb_of z_okb_76 rfl rfl
  · exact z_okb_of z_okb_77 rfl rfl
  · exact z_okb_of z_okb_78 rfl rfl
  · exact z_okb_of z_okb_79 rfl rfl
set_option maxRecDepth 100000 in
theorem z_okb_d80 (m : Nat) (h1 : 80 ≤ m) (h2 : m < 90) : z_okB (z_m m).2.1 (z_own.getD (z_m m).2.2.2.2.1 "") (z_bs.getD m []) = true := by
  have hc : m = 80 ∨ m = 81 ∨ m = 82 ∨ m = 83 ∨ m = 84 ∨ m = 85 ∨ m = 86 ∨ m = 87 ∨ m = 88 ∨ m = 89 := by omega
  rcases hc with rfl | rfl | rfl | rfl | rfl | rfl | rfl | rfl | rfl | rfl
  · exact z_okb_of z_okb_80 rfl rfl
  · exact z_okb_of z_okb_81 rfl rfl
  · exact z_okb_of z_okb_82 rfl rfl
  · exact z_okb_of z_okb_83 rfl rfl
  · exact z_okb_of z_okb_84 rfl rfl
  · exact z_okb_of z_okb_85 rfl rfl
  · exact z_okb_of z_okb_86 rfl rfl
  · exact z_okb_of z_okb_87 rfl rfl
  · exact z_okb_of z_okb_88 rfl rfl
  · exact z_okb_of z_okb_89 rfl rfl
set_option maxRecDepth 100000 in
theorem z_okb_d90 (m : Nat) (h1 : 90 ≤ m) (h2 : m < 100) : z_okB (z_m m).2.1 (z_own.getD (z_m m).2.2.2.2.1 "") (z_bs.getD m []) = true := by
  have hc : m = 90 ∨ m = 91 ∨ m = 92 ∨ m = 93 ∨ m = 94 ∨ m = 95 ∨ m = 96 ∨ m = 97 ∨ m = 98 ∨ m = 99 := by omega
  rcases hc with rfl | rfl | rfl | rfl | rfl | rfl | rfl | rfl | rfl | rfl
  · exact z_okb_of z_okb_90 rfl rfl
  · exact z_okb_of z_okb_91 rfl rfl
  · exact z_okb_of z_okb_92 rfl rfl
  · exact z_okb_of z_okb_93 rfl rfl
  · exact z_okb_of z_okb_94 rfl rfl
  · exact z_okb_of z_okb_95 rfl rfl
  · exact z_okb_of z_okb_96 rfl rfl
  · exact z_okb_of z_okb_97 rfl rfl
  · exact z_okb_of z_okb_98 rfl rfl
  · exact z_okb_of z_okb_99 rfl rfl
set_option maxRecDepth 100000 in
theorem z_okb_d100 (m : Nat) (h1 : 100 ≤ m) (h2 : m < 110) : z_okB (z_m m).2.1 (z_own.getD (z_m m).2.2.2.2.1 "") (z_bs.getD m []) = true := by
  have hc : m = 100 ∨ m = 101 ∨ m = 102 ∨ m = 103 ∨ m = 104 ∨ m = 105 ∨ m = 106 ∨ m = 107 ∨ m = 108 ∨ m = 109 := by omega
  rcases hc with rfl | rfl | rfl | rfl | rfl | rfl | rfl | rfl | rfl | rfl
  · exact z_okb_of z_okb_100 rfl rfl
  · exact z_okb_of z_okb_101 rfl rfl
  · exact z_okb_of z_okb_102 rfl rfl
  · exact z_okb_of z_okb_103 rfl rfl
  · exact z_okb_of z_okb_104 rfl rfl
  · exact z_okb_of z_okb_105 rfl rfl
  · exact z_okb_of z_okb_106 rfl rfl
  · exact z_okb_of z_okb_107 rfl rfl
  · exact z_okb_of z_okb_108 rfl rfl
  · exact z_okb_of z_okb_109 rfl rfl
set_option maxRecDepth 100000 in
theorem z_okb_d110 (m : Nat) (h1 : 110 ≤ m) (h2 : m < 120) : z_okB (z_m m).2.1 (z_own.getD (z_m m).2.2.2.2.1 "") (z_bs.getD m []) = true := by
  have hc : m = 110 ∨ m = 111 ∨ m = 112 ∨ m = 113 ∨ m = 114 ∨ m = 115 ∨ m = 116 ∨ m = 117 ∨ m = 118 ∨ m = 119 := by omega
  rcases hc with rfl | rfl | rfl | rfl | rfl | rfl | rfl | rfl | rfl | rfl
  · exact z_okb_of z_okb_110 rfl rfl
  · exact z_okb_of z_okb_111 rfl rfl
  · exact z_okb_of z_okb_112 rfl rfl
  · exact z_okb_of z_okb_113 rfl rfl
  · exact z_okb_of z_okb_114 rfl rfl
  · exact z_okb_of z_okb_115 rfl rfl
  · exact z_okb_of z_okb_116 rfl rfl
  · exact z_okb_of z_okb_117 rfl rfl
  · exact z_okb_of z_okb_118 rfl rfl
  · exact z_okb_of z_okb_119 rfl rfl
set_option maxRecDepth 100000 in
theorem z_okb_d120 (m : Nat) (h1 : 120 ≤ m) (h2 : m < 130) : z_okB (z_m m).2.1 (z_own.getD (z_m m).2.2.2.2.1 "") (z_bs.getD m []) = true := by
  have hc : m = 120 ∨ m = 121 ∨ m = 122 ∨ m = 123 ∨ m = 124 ∨ m = 125 ∨ m = 126 ∨ m = 127 ∨ m = 128 ∨ m = 129 := by omega
  rcases hc with rfl | rfl | rfl | rfl | rfl | rfl | rfl | rfl | rfl | rfl
  · exact z_okb_of z_okb_120 rfl rfl
  · exact z_okb_of z_okb_121 rfl rfl
  · exact z_okb_of z_okb_122 rfl rfl
  · exact z_okb_of z_okb_123 rfl rfl
  · exact z_okb_of z_okb_124 rfl rfl
  · exact z_okb_of z_okb_125 rfl rfl
  · exact z_okb_of z_okb_126 rfl rfl
  · exact z_okb_of z_okb_127 rfl rfl
  · exact z_okb_of z_okb_128 rfl rfl
  · exact z_okb_of z_okb_129 rfl rfl
set_option maxRecDepth 100000 in
theorem z_okb_d130 (m : Nat) (h1 : 130 ≤ m) (h2 : m < 140) : z_okB (z_m m).2.1 (z_own.getD (z_m m).2.2.2.2.1 "") (z_bs.getD m []) = true := by
  have hc : m = 130 ∨ m = 131 ∨ m = 132 ∨ m = 133 ∨ m = 134 ∨ m = 135 ∨ m = 136 ∨ m = 137 ∨ m = 138 ∨ m = 139 := by omega
  rcases hc with rfl | rfl | rfl | rfl | rfl | rfl | rfl | rfl | rfl | rfl
  · exact z_okb_of z_okb_130 rfl rfl
  · exact z_okb_of z_okb_131 rfl rfl
  · exact z_okb_of z_okb_132 rfl rfl
  · exact z_okb_of z_okb_133 rfl rfl
  · exact z_okb_of z_okb_134 rfl rfl
  · exact z_okb_of z_okb_135 rfl rfl
  · exact z_okb_of z_okb_136 rfl rfl
  · exact z_okb_of z_okb_137 rfl rfl
  · exact z_okb_of z_okb_138 rfl rfl
  · exact z_okb_of z_okb_139 rfl rfl
set_option maxRecDepth 100000 in
theorem z_okb_d140 (m : Nat) (h1 : 140 ≤ m) (h2 : m < 150) : z_okB (z_m m).2.1 (z_own.getD (z_m m).2.2.2.2.1 "") (z_bs.getD m []) = true := by
  have hc : m = 140 ∨ m = 141 ∨ m = 142 ∨ m = 143 ∨ m = 144 ∨ m = 145 ∨ m = 146 ∨ m = 147 ∨ m = 148 ∨ m = 149 := by omega
  rcases hc with rfl | rfl | rfl | rfl | rfl | rfl | rfl | rfl | rfl | rfl
  · exact z_okb_of z_okb_140 rfl rfl
  · exact z_okb_of z_okb_141 rfl rfl
  · exact z_okb_of z_okb_142 rfl rfl
  · exact z_okb_of z_okb_143 rfl rfl
  · exact z_okb_of z_okb_144 rfl rfl
  · exact z_okb_of z_okb_145 rfl rfl
  · exact z_okb_of z_okb_146 rfl rfl
  · exact z_okb_of z_okb_147 rfl rfl
  · exact z_okb_of z_okb_148 rfl rfl
  · exact z_okb_of z_okb_149 rfl rfl
set_option maxRecDepth 100000 in
theorem z_okb_d150 (m : Nat) (h1 : 150 ≤ m) (h2 : m < 160) : z_okB (z_m m).2.1 (z_own.getD (z_m m).2.2.2.2.1 "") (z_bs.getD m []) = true := by
  have hc : m = 150 ∨ m = 151 ∨ m = 152 ∨ m = 153 ∨ m = 154 ∨ m = 155 ∨ m = 156 ∨ m = 157 ∨ m = 158 ∨ m = 159 := by omega
  rcases hc with rfl | rfl | rfl | rfl | rfl | rfl | rfl | rfl | rfl | rfl
  · exact z_okb_of z_okb_150 rfl rfl
  · exact z_okb_of z_okb_151 rfl rfl
  · exact z_okb_of z_okb_152 rfl rfl
  · exact z_okb_of z_okb_153 rfl rfl
  · exact z_okb_of z_okb_154 rfl rfl
  · exact z_okb_of z_okb_155 rfl rfl
  · exact z_okb_of z_okb_156 rfl rfl
  · exact z_okb_of z_okb_157 rfl rfl
  · exact z_okb_of z_okb_158 rfl rfl
  · exact z_okb_of z_okb_159 rfl rfl
set_option maxRecDepth 100000 in
theorem z_okb_d160 (m : Nat) (h1 : 160 ≤ m) (h2 : m < 170) : z_okB (z_m m).2.1 (z_own.getD (z_m m).2.2.2.2.1 "") (z_bs.getD m []) = true := by
  have hc : m = 160 ∨ m = 161 ∨ m = 162 ∨ m = 163 ∨ m = 164 ∨ m = 165 ∨ m = 166 ∨ m = 167 ∨ m = 168 ∨ m = 169 := by omega
  rcases hc with rfl | rfl | rfl | rfl | rfl | rfl | rfl | rfl | rfl | rfl
  · exact z_okb_of z_okb_160 rfl rfl
  · exact z_okb_of z_okb_161 rfl rfl
  · exact z_okb_of z_okb_162 rfl rfl
  · exact z_okb_of z_okb_163 rfl rfl
  · exact z_okb_of z_okb_164 rfl rfl
  · exact z_okb_of z_okb_165 rfl rfl
  · exact z_okb_of z_okb_166 rfl rfl
  · exact z_okb_of z_okb_167 rfl rfl
  · exact z_okb_of z_okb_168 rfl rfl
  · exact z_okb_of z_okb_169 rfl rfl
set_option maxRecDepth 100000 in
theorem z_okb_d170 (m : Nat) (h1 : 170 ≤ m) (h2 : m < 180) : z_okB (z_m m).2.1 (z_own.getD (z_m m).2.2.2.2.1 "") (z_bs.getD m []) = true := by
  have hc : m = 170 ∨ m = 171 ∨ m = 172 ∨ m = 173 ∨ m = 174 ∨ m = 175 ∨ m = 176 ∨ m = 177 ∨ m = 178 ∨ m = 179 := by omega
  rcases hc with rfl | rfl | rfl | rfl | rfl | rfl | rfl | rfl | rfl | rfl
  · exact z_okb_of z_okb_170 rfl rfl
  · exact z_okb_of z_okb_171 rfl rfl
  · exact z_okb_of z_okb_172 rfl rfl
  · exact z_okb_of z_okb_173 rfl rfl
  · exact z_okb_of z_okb_174 rfl rfl
  · exact z_okb_of z_okb_175 rfl rfl
  · exact z_okb_of z_okb_176 rfl rfl
  · exact z_okb_of z_okb_177 rfl rfl
  · exact z_okb_of z_okb_178 rfl rfl
  · exact z_okb_of z_okb_179 rfl rfl
set_option maxRecDepth 100000 in
theorem z_okb_d180 (m : Nat) (h1 : 180 ≤ m) (h2 : m < 190) : z_okB (z_m m).2.1 (z_own.getD (z_m m).2.2.2.2.1 "") (z_bs.getD m []) = true := by
  have hc : m = 180 ∨ m = 181 ∨ m = 182 ∨ m = 183 ∨ m = 184 ∨ m = 185 ∨ m = 186 ∨ m = 187 ∨ m = 188 ∨ m = 189 := by omega
  rcases hc with rfl | rfl | rfl | rfl | rfl | rfl | rfl | rfl | rfl | rfl
  · exact z_okb_of z_okb_180 rfl rfl
  · exact z_okb_of z_okb_181 rfl rfl
  · exact z_okb_of z_okb_182 rfl rfl
  · exact z_okb_of z_okb_183 rfl rfl
  · exact z_okb_of z_okb_184 rfl rfl
  · exact z_okb_of z_okb_185 rfl rfl
  · exact z_okb_of z_okb_186 rfl rfl
  · exact z_okb_of z_okb_187 rfl rfl
  · exact z_okb_of z_okb_188 rfl rfl
  · exact z_okb_of z_okb_189 rfl rfl
set_option maxRecDepth 100000 in
theorem z_okb_d190 (m : Nat) (h1 : 190 ≤ m) (h2 : m < 200) : z_okB (z_m m).2.1 (z_own.getD (z_m m).2.2.2.2.1 "") (z_bs.getD m []) = true := by
  have hc : m = 190 ∨ m = 191 ∨ m = 192 ∨ m = 193 ∨ m = 194 ∨ m = 195 ∨ m = 196 ∨ m = 197 ∨ m = 198 ∨ m = 199 := by omega
  rcases hc with rfl | rfl | rfl | rfl | rfl | rfl | rfl | rfl | rfl | rfl
  · exact z_okb_of z_okb_190 rfl rfl
  · exact z_okb_of z_okb_191 rfl rfl
  · exact z_okb_of z_okb_192 rfl rfl
  · exact z_okb_of z_okb_193 rfl rfl
  · exact z_okb_of z_okb_194 rfl rfl
  · exact z_okb_of z_okb_195 rfl rfl
  · exact z_okb_of z_okb_196 rfl rfl
  · exact z_okb_of z_okb_197 rfl rfl
  · exact z_okb_of z_okb_198 rfl rfl
  · exact z_okb_of z_okb_199 rfl rfl
set_option maxRecDepth 100000 in
theorem z_okb_d200 (m : Nat) (h1 : 200 ≤ m) (h2 : m < 210) : z_okB (z_m m).2.1 (z_own.getD (z_m m).2.2.2.2.1 "") (z_bs.getD m []) = true := by
  have hc : m = 200 ∨ m = 201 ∨ m = 202 ∨ m = 203 ∨ m = 204 ∨ m = 205 ∨ m = 206 ∨ m = 207 ∨ m = 208 ∨ m = 209 := by omega
  rcases hc with rfl | rfl | rfl | rfl | rfl | rfl | rfl | rfl | rfl | rfl
  · exact z_okb_of z_okb_200 rfl rfl
  · exact z_okb_of z_okb_201 rfl rfl
  · exact z_okb_of z_okb_202 rfl rfl
  · exact z_okb_of z_okb_203 rfl rfl
  · exact z_okb_of z_okb_204 rfl rfl
  · exact z_okb_of z_okb_205 rfl rfl
  · exact z_okb_of z_okb_206 rfl rfl
  · exact z_okb_of z_okb_207 rfl rfl
  · exact z_okb_of z_okb_208 rfl rfl
  · exact z_okb_of z_okb_209 rfl rfl
set_option maxRecDepth 100000 in
theorem z_okb_d210 (m : Nat) (h1 : 210 ≤ m) (h2 : m < 211) : z_okB (z_m m).2.1 (z_own.getD (z_m m).2.2.2.2.1 "") (z_bs.getD m []) = true := by
  have hc : m = 210 := by omega
  rcases hc with rfl
  · exact z_okb_of z_okb_210 rfl rfl
theorem z_okb (m : Nat) (h : m < 211) : z_okB (z_m m).2.1 (z_own.getD (z_m m).2.2.2.2.1 "") (z_bs.getD m []) = true := by
  have hc : (0 ≤ m ∧ m < 10) ∨ (10 ≤ m ∧ m < 20) ∨ (20 ≤ m ∧ m < 30) ∨ (30 ≤ m ∧ m < 40) ∨ (40 ≤ m ∧ m < 50) ∨ (50 ≤ m ∧ m < 60) ∨ (60 ≤ m ∧ m < 70) ∨ (70 ≤ m ∧ m < 80) ∨ (80 ≤ m ∧ m < 90) ∨ (90 ≤ m ∧ m < 100) ∨ (100 ≤ m ∧ m < 110) ∨ (110 ≤ m ∧ m < 120) ∨ (120 ≤ m ∧ m < 130) ∨ (130 ≤ m ∧ m < 140) ∨ (140 ≤ m ∧ m < 150) ∨ (150 ≤ m ∧ m < 160) ∨ (160 ≤ m ∧ m < 170) ∨ (170 ≤ m ∧ m < 180) ∨ (180 ≤ m ∧ m < 190) ∨ (190 ≤ m ∧ m < 200) ∨ (200 ≤ m ∧ m < 210) ∨ (210 ≤ m ∧ m < 211) := by omega
  rcases hc with ⟨h1, h2⟩ | ⟨h1, h2⟩ | ⟨h1, h2⟩ | ⟨h1, h2⟩ | ⟨h1, h2⟩ | ⟨h1, h2⟩ | ⟨h1, h2⟩ | ⟨h1, h2⟩ | ⟨h1, h2⟩ | ⟨h1, h2⟩ | ⟨h1, h2⟩ | ⟨h1, h2⟩ | ⟨h1, h2⟩ | ⟨h1, h2⟩ | ⟨h1, h2⟩ | ⟨h1, h2⟩ | ⟨h1, h2⟩ | ⟨h1, h2⟩ | ⟨h1, h2⟩ | ⟨h1, h2⟩ | ⟨h1, h2⟩ | ⟨h1, h2⟩
  · exact z_okb_d0 m h1 h2
  · exact z_okb_d10 m h1 h2
  · exact z_okb_d20 m h1 h2
  · exact z_okb_d30 m h1 h2
  · exact z_okb_d40 m h1 h2
  · exact z_okb_d50 m h1 h2
  · exact z_okb_d60 m h1 h2
  · exact z_okb_d70 m h1 h2
  · exact z_okb_d80 m h1 h2
  · exact z_okb_d90 m h1 h2
  · exact z_okb_d100 m h1 h2
  · exact z_okb_d110 m h1 h2
  · exact z_okb_d120 m h1 h2
  · exact z_okb_d130 m h1 h2
  · exact z_okb_d140 m h1 h2
  · exact z_okb_d150 m h1 h2
  · exact z_okb_d160 m h1 h2
  · exact z_okb_d170 m h1 h2
  · exact z_okb_d180 m h1 h2
  · exact z_okb_d190 m h1 h2
  · exact z_okb_d200 m h1 h2
  · exact z_okb_d210 m h1 h2
/-- what a method answers, to a depth of calls; its things fit its locals -/
noncomputable def z_ew : Nat → z_Ev
  | 0 => fun _ _ _ => none
  | d + 1 => fun m as S => cond (Nat.ble (z_sl as).length (z_m m).2.2.1) (z_run false (z_m m).2.2.2.1 (z_m m).2.2.2.2.2 (z_ew d) (z_bs.getD m []) z_fuel 0 0 (z_in (z_m m).2.2.1 as) [] S) none
theorem z_fr_ew : ∀ (d m : Nat) (as : List Value) (S : z_St) (o : z_Out) (S1 : z_St), m < 211 → z_ew d m as S = some (o, S1) → z_fr S S1
  | 0, m, as, S, o, S1, _, h => by cases h
  | d + 1, m, as, S, o, S1, hm, h => by
    unfold z_ew at h
    exact z_fr_run (out := (o, S1)) (z_okb m hm) (fun m' as S o S1 hm' h' => z_fr_ew d m' as S o S1 hm' h') _ _ _ _ _ _ (z_cnd h).2
end
section
/-! one instruction: what the abstract machine does there, the machine does -/
section ZS
variable {p : Program} {l : Launch} {e : Env} {R : Room} {s : State} {m : MethodId} {args : Array Value} {below : List Frame} {meth : Method} {c : Code} {Q : State → Prop} {B : Nat} {D : va_G} {ρ : Nat → Nat} {cA : Nat → ClassId} {nL : Nat}
variable {cc : ByteArray} {pc z len : Nat} {L : z_Lo} {st r : List Value} {S : z_St} {own : String} {dd n9 : Nat} {xs : Nat → Int32} {vb : Option Nat} {lm : Bool} {rt : Option FieldType} {hd0 : List (Nat × Int32)} {E : z_Ev} {K go : z_K} {out : z_Out × z_St}
/-- what holds around a body while it runs: its callees, its ends -/
def z_Rd (p : Program) (l : Launch) (e : Env) (R : Room) (s : State) (m : MethodId) (args : Array Value) (below : List Frame) (meth : Method) (c : Code) (Q : State → Prop) (B : Nat) (D : va_G) (ρ : Nat → Nat) (cA : Nat → ClassId) (nL : Nat) (cc : ByteArray) (own : String) (dd n9 : Nat) (xs : Nat → Int32) (vb : Option Nat) (lm : Bool) (rt : Option FieldType) (hd0 : List (Nat × Int32)) (E : z_Ev) (out : z_Out × z_St) : Prop :=
  (lm = true → 1001 ≤ R.cells ∧ 6006 ≤ R.slots) ∧ z_SX lm n9 xs B ρ s ∧
  (∀ m' as S o S1, m' < 211 → m' ≠ 187 → m' ≠ 188 → (z_isw m' = true → ∃ v, o = .inl v) → E m' as S = some (o, S1) → z_C l B D ρ cA dd m' as S o S1) ∧
  (∀ as S o S1, as.length = 2 → E 187 as S = some (o, S1) → ∃ x y, as = [.int x, .int y] ∧ o = .inl (some (.int (if x < y then y else x))) ∧ S1 = S) ∧
  (∀ as S o S1, as.length = 2 → E 188 as S = some (o, S1) → ∃ x y, as = [.int x, .int y] ∧ o = .inl (some (.int (if y < x then y else x))) ∧ S1 = S) ∧
  (∀ m' as S o S1, m' < 211 → E m' as S = some (o, S1) → z_fr S S1) ∧
  (lm = false → ∀ pc L, (∀ b, vb = some b → pc < b) → z_Xo p l e R s m args below meth c Q B D ρ cA nL hd0 out pc L) ∧
  (∀ pc ix, decode cc pc = .ok (.invokevirtual ix, 3) → (Cond.methodLink own ix z_sLen ∈ z_tb → z_So1 p l e R s m args below meth c Q B D ρ cA nL pc) ∧ (Cond.methodLink own ix z_sCh ∈ z_tb → z_So2 p l e R s m args below meth c Q B D ρ cA nL pc)) ∧
  (∀ pc z L S x, z_zk lm z → decode cc pc = .ok (.ireturn, 1) → z_rb rt x = true → out = (.inl (some (.int x)), S) → z_J p l e R s m args below meth c Q B D ρ cA nL pc z L [.int x] S) ∧
  (lm = false → ∀ pc L S x, decode cc pc = .ok (.areturn, 1) → z_rf rt = true → out = (.inl (some (.ref x)), S) → z_J p l e R s m args below meth c Q B D ρ cA nL pc 0 L [.ref x] S) ∧
  (lm = false → ∀ pc L S, decode cc pc = .ok (.return_, 1) → rt = none → out = (.inl none, S) → z_J p l e R s m args below meth c Q B D ρ cA nL pc 0 L [] S) ∧
  (lm = false → ∀ pc len ee ops L S, z_okT cc own pc len (ee :: ops) = true → out = (.inr ee, S) → z_J p l e R s m args below meth c Q B D ρ cA nL pc 0 L [] S)
theorem z_st_ok {i : Instr} {ops : List Nat} (hctx : z_Ctx p l R s m args c B D ρ cA nL cc own dd) (hRd : z_Rd p l e R s m args below meth c Q B D ρ cA nL cc own dd n9 xs vb lm rt hd0 E out) (hE : z_okE cc own pc (i, len, ops) = true) (hxe : z_xE own vb rt pc (i, len, ops) = true) (hzk : z_zk lm z) (hsc : z_sc lm n9 xs S)
    (h : z_st lm rt hd0 E K go i ops pc z L st S = some out)
    (hgo : ∀ z' L' st' S', z_zk lm z' → z_sc lm n9 xs S' → go (pc + len) z' L' st' S' = some out → z_J p l e R s m args below meth c Q B D ρ cA nL (pc + len) z' L' st' S')
    (hK : ∀ t z' L' st' S', z_zk lm z' → z_sc lm n9 xs S' → K t z' L' st' S' = some out → z_J p l e R s m args below meth c Q B D ρ cA nL t z' L' st' S') : z_J p l e R s m args below meth c Q B D ρ cA nL pc z L st S := by
  obtain ⟨hRl, hSX, hC, hM7, hM8, hF, hX, hS, hRi, hRa, hRv, hTh⟩ := hRd
  obtain ⟨hx, hb, hml, hown, hts, hEE, hAp, hRf, hRl9⟩ := id hctx
  have hKK := hEE.1
  cases i with
  | iconst n =>
    obtain ⟨hd, hl, hj, ho⟩ := z_okE_ok hE (by intro q; cases q)
    obtain rfl : len = 1 := Nat.eq_of_beq_eq_true hl
    change z_o_iconst go n pc z L st S = some out at h
    exact zj_iconst hx hb hd (of_decide_eq_true ho) (hgo _ _ _ _ hzk hsc h)
  | bipush n =>
    obtain ⟨hd, hl, hj, ho⟩ := z_okE_ok hE (by intro q; cases q)
    obtain rfl : len = 2 := Nat.eq_of_beq_eq_true hl
    change z_o_bipush go n pc z L st S = some out at h
    exact zj_bipush hx hb hd (of_decide_eq_true ho) (hgo _ _ _ _ hzk hsc h)
  | sipush n =>
    obtain ⟨hd, hl, hj, ho⟩ := z_okE_ok hE (by intro q; cases q)
    obtain rfl : len = 3 := Nat.eq_of_beq_eq_true hl
    change z_o_sipush go n pc z L st S = some out at h
    exact zj_sipush hx hb hd (of_decide_eq_true ho) (hgo _ _ _ _ hzk hsc h)
  | lconst n =>
    obtain ⟨hd, hl, hj, ho⟩ := z_okE_ok hE (by intro q; cases q)
    obtain rfl : len = 1 := Nat.eq_of_beq_eq_true hl
    change z_o_lconst go n pc z L st S = some out at h
    exact zj_lconst hx hb hd (hgo _ _ _ _ hzk hsc h)
  | aload_n k =>
    obtain ⟨hd, hl, hj, ho⟩ := z_okE_ok hE (by intro q; cases q)
    obtain rfl : len = 1 := Nat.eq_of_beq_eq_true hl
    change z_o_aload_n go k pc z L st S = some out at h
    unfold z_o_aload_n at h
    split at h
    · rename_i hg
      exact zj_aload_n hx hb hd hg (hgo _ _ _ _ hzk hsc h)
    · cases h
  | aload k =>
    obtain ⟨hd, hl, hj, ho⟩ := z_okE_ok hE (by intro q; cases q)
    obtain rfl : len = 2 := Nat.eq_of_beq_eq_true hl
    change z_o_aload go k pc z L st S = some out at h
    unfold z_o_aload at h
    split at h
    · rename_i hg
      exact zj_aload hx hb hd hg (hgo _ _ _ _ hzk hsc h)
    · cases h
  | iload_n k =>
    obtain ⟨hd, hl, hj, ho⟩ := z_okE_ok hE (by intro q; cases q)
    obtain rfl : len = 1 := Nat.eq_of_beq_eq_true hl
    change z_o_iload_n go k pc z L st S = some out at h
    unfold z_o_iload_n at h
    split at h
    · rename_i hg
      exact zj_iload_n hx hb hd hg (hgo _ _ _ _ hzk hsc h)
    · cases h
  | iload k =>
    obtain ⟨hd, hl, hj, ho⟩ := z_okE_ok hE (by intro q; cases q)
    obtain rfl : len = 2 := Nat.eq_of_beq_eq_true hl
    change z_o_iload go k pc z L st S = some out at h
    unfold z_o_iload at h
    split at h
    · rename_i hg
      exact zj_iload hx hb hd hg (hgo _ _ _ _ hzk hsc h)
    · cases h
  | lload_n k =>
    obtain ⟨hd, hl, hj, ho⟩ := z_okE_ok hE (by intro q; cases q)
    obtain rfl : len = 1 := Nat.eq_of_beq_eq_true hl
    change z_o_lload_n go k pc z L st S = some out at h
    unfold z_o_lload_n at h
    split at h
    · rename_i hg
      exact zj_lload_n hx hb hd hg (hgo _ _ _ _ hzk hsc h)
    · cases h
  | lload k =>
    obtain ⟨hd, hl, hj, ho⟩ := z_okE_ok hE (by intro q; cases q)
    obtain rfl : len = 2 := Nat.eq_of_beq_eq_true hl
    change z_o_lload go k pc z L st S = some out at h
    unfold z_o_lload at h
    split at h
    · rename_i hg
      exact zj_lload hx hb hd hg (hgo _ _ _ _ hzk hsc h)
    · cases h
  | istore_n k =>
    obtain ⟨hd, hl, hj, ho⟩ := z_okE_ok hE (by intro q; cases q)
    obtain rfl : len = 1 := Nat.eq_of_beq_eq_true hl
    change z_o_istore_n go k pc z L st S = some out at h
    unfold z_o_istore_n at h
    split at h
    · have hz9 := z_cnd h
      clear h
      obtain ⟨hk, h⟩ := hz9
      exact zj_istore_n hx hb hd (Nat.blt_eq.mp hk) (hgo _ _ _ _ hzk hsc h)
    · cases h
  | istore k =>
    obtain ⟨hd, hl, hj, ho⟩ := z_okE_ok hE (by intro q; cases q)
    obtain rfl : len = 2 := Nat.eq_of_beq_eq_true hl
    change z_o_istore go k pc z L st S = some out at h
    unfold z_o_istore at h
    split at h
    · have hz9 := z_cnd h
      clear h
      obtain ⟨hk, h⟩ := hz9
      exact zj_istore hx hb hd (Nat.blt_eq.mp hk) (hgo _ _ _ _ hzk hsc h)
    · cases h
  | astore_n k =>
    obtain ⟨hd, hl, hj, ho⟩ := z_okE_ok hE (by intro q; cases q)
    obtain rfl : len = 1 := Nat.eq_of_beq_eq_true hl
    change z_o_astore_n go k pc z L st S = some out at h
    unfold z_o_astore_n at h
    split at h
    · have hz9 := z_cnd h
      clear h
      obtain ⟨hk, h⟩ := hz9
      exact zj_astore_n hx hb hd (Nat.blt_eq.mp hk) (hgo _ _ _ _ hzk hsc h)
    · cases h
  | astore k =>
    obtain ⟨hd, hl, hj, ho⟩ := z_okE_ok hE (by intro q; cases q)
    obtain rfl : len = 2 := Nat.eq_of_beq_eq_true hl
    change z_o_astore go k pc z L st S = some out at h
    unfold z_o_astore at h
    split at h
    · have hz9 := z_cnd h
      clear h
      obtain ⟨hk, h⟩ := hz9
      exact zj_astore hx hb hd (Nat.blt_eq.mp hk) (hgo _ _ _ _ hzk hsc h)
    · cases h
  | lstore_n k =>
    obtain ⟨hd, hl, hj, ho⟩ := z_okE_ok hE (by intro q; cases q)
    obtain rfl : len = 1 := Nat.eq_of_beq_eq_true hl
    change z_o_lstore_n go k pc z L st S = some out at h
    unfold z_o_lstore_n at h
    split at h
    · have hz9 := z_cnd h
      clear h
      obtain ⟨hk, h⟩ := hz9
      exact zj_lstore_n hx hb hd (Nat.blt_eq.mp hk) (hgo _ _ _ _ hzk hsc h)
    · cases h
  | lstore k =>
    obtain ⟨hd, hl, hj, ho⟩ := z_okE_ok hE (by intro q; cases q)
    obtain rfl : len = 2 := Nat.eq_of_beq_eq_true hl
    change z_o_lstore go k pc z L st S = some out at h
    unfold z_o_lstore at h
    split at h
    · have hz9 := z_cnd h
      clear h
      obtain ⟨hk, h⟩ := hz9
      exact zj_lstore hx hb hd (Nat.blt_eq.mp hk) (hgo _ _ _ _ hzk hsc h)
    · cases h
  | iinc k n =>
    obtain ⟨hd, hl, hj, ho⟩ := z_okE_ok hE (by intro q; cases q)
    obtain rfl : len = 3 := Nat.eq_of_beq_eq_true hl
    change z_o_iinc go k n pc z L st S = some out at h
    unfold z_o_iinc at h
    split at h
    · rename_i hg
      have hz9 := z_cnd h
      clear h
      obtain ⟨hk, h⟩ := hz9
      exact zj_iinc hx hb hd (of_decide_eq_true ho) hg (hgo _ _ _ _ hzk hsc h)
    · cases h
  | iadd =>
    obtain ⟨hd, hl, hj, ho⟩ := z_okE_ok hE (by intro q; cases q)
    obtain rfl : len = 1 := Nat.eq_of_beq_eq_true hl
    change z_o_iadd go pc z L st S = some out at h
    unfold z_o_iadd at h
    split at h
    · exact zj_iadd hx hb hd (hgo _ _ _ _ hzk hsc h)
    · cases h
  | isub =>
    obtain ⟨hd, hl, hj, ho⟩ := z_okE_ok hE (by intro q; cases q)
    obtain rfl : len = 1 := Nat.eq_of_beq_eq_true hl
    change z_o_isub go pc z L st S = some out at h
    unfold z_o_isub at h
    split at h
    · exact zj_isub hx hb hd (hgo _ _ _ _ hzk hsc h)
    · cases h
  | imul =>
    obtain ⟨hd, hl, hj, ho⟩ := z_okE_ok hE (by intro q; cases q)
    obtain rfl : len = 1 := Nat.eq_of_beq_eq_true hl
    change z_o_imul go pc z L st S = some out at h
    unfold z_o_imul at h
    split at h
    · exact zj_imul hx hb hd (hgo _ _ _ _ hzk hsc h)
    · cases h
  | iand =>
    obtain ⟨hd, hl, hj, ho⟩ := z_okE_ok hE (by intro q; cases q)
    obtain rfl : len = 1 := Nat.eq_of_beq_eq_true hl
    change z_o_iand go pc z L st S = some out at h
    unfold z_o_iand at h
    split at h
    · exact zj_iand hx hb hd (hgo _ _ _ _ hzk hsc h)
    · cases h
  | ior =>
    obtain ⟨hd, hl, hj, ho⟩ := z_okE_ok hE (by intro q; cases q)
    obtain rfl : len = 1 := Nat.eq_of_beq_eq_true hl
    change z_o_ior go pc z L st S = some out at h
    unfold z_o_ior at h
    split at h
    · exact zj_ior hx hb hd (hgo _ _ _ _ hzk hsc h)
    · cases h
  | ixor =>
    obtain ⟨hd, hl, hj, ho⟩ := z_okE_ok hE (by intro q; cases q)
    obtain rfl : len = 1 := Nat.eq_of_beq_eq_true hl
    change z_o_ixor go pc z L st S = some out at h
    unfold z_o_ixor at h
    split at h
    · exact zj_ixor hx hb hd (hgo _ _ _ _ hzk hsc h)
    · cases h
  | ishl =>
    obtain ⟨hd, hl, hj, ho⟩ := z_okE_ok hE (by intro q; cases q)
    obtain rfl : len = 1 := Nat.eq_of_beq_eq_true hl
    change z_o_ishl go pc z L st S = some out at h
    unfold z_o_ishl at h
    split at h
    · exact zj_ishl hx hb hd (hgo _ _ _ _ hzk hsc h)
    · cases h
  | ishr =>
    obtain ⟨hd, hl, hj, ho⟩ := z_okE_ok hE (by intro q; cases q)
    obtain rfl : len = 1 := Nat.eq_of_beq_eq_true hl
    change z_o_ishr go pc z L st S = some out at h
    unfold z_o_ishr at h
    split at h
    · exact zj_ishr hx hb hd (hgo _ _ _ _ hzk hsc h)
    · cases h
  | iushr =>
    obtain ⟨hd, hl, hj, ho⟩ := z_okE_ok hE (by intro q; cases q)
    obtain rfl : len = 1 := Nat.eq_of_beq_eq_true hl
    change z_o_iushr go pc z L st S = some out at h
    unfold z_o_iushr at h
    split at h
    · exact zj_iushr hx hb hd (hgo _ _ _ _ hzk hsc h)
    · cases h
  | ineg =>
    obtain ⟨hd, hl, hj, ho⟩ := z_okE_ok hE (by intro q; cases q)
    obtain rfl : len = 1 := Nat.eq_of_beq_eq_true hl
    change z_o_ineg go pc z L st S = some out at h
    unfold z_o_ineg at h
    split at h
    · exact zj_ineg hx hb hd (hgo _ _ _ _ hzk hsc h)
    · cases h
  | ladd =>
    obtain ⟨hd, hl, hj, ho⟩ := z_okE_ok hE (by intro q; cases q)
    obtain rfl : len = 1 := Nat.eq_of_beq_eq_true hl
    change z_o_ladd go pc z L st S = some out at h
    unfold z_o_ladd at h
    split at h
    · exact zj_ladd hx hb hd (hgo _ _ _ _ hzk hsc h)
    · cases h
  | lsub =>
    obtain ⟨hd, hl, hj, ho⟩ := z_okE_ok hE (by intro q; cases q)
    obtain rfl : len = 1 := Nat.eq_of_beq_eq_true hl
    change z_o_lsub go pc z L st S = some out at h
    unfold z_o_lsub at h
    split at h
    · exact zj_lsub hx hb hd (hgo _ _ _ _ hzk hsc h)
    · cases h
  | land =>
    obtain ⟨hd, hl, hj, ho⟩ := z_okE_ok hE (by intro q; cases q)
    obtain rfl : len = 1 := Nat.eq_of_beq_eq_true hl
    change z_o_land go pc z L st S = some out at h
    unfold z_o_land at h
    split at h
    · exact zj_land hx hb hd (hgo _ _ _ _ hzk hsc h)
    · cases h
  | lor =>
    obtain ⟨hd, hl, hj, ho⟩ := z_okE_ok hE (by intro q; cases q)
    obtain rfl : len = 1 := Nat.eq_of_beq_eq_true hl
    change z_o_lor go pc z L st S = some out at h
    unfold z_o_lor at h
    split at h
    · exact zj_lor hx hb hd (hgo _ _ _ _ hzk hsc h)
    · cases h
  | lshl =>
    obtain ⟨hd, hl, hj, ho⟩ := z_okE_ok hE (by intro q; cases q)
    obtain rfl : len = 1 := Nat.eq_of_beq_eq_true hl
    change z_o_lshl go pc z L st S = some out at h
    unfold z_o_lshl at h
    split at h
    · exact zj_lshl hx hb hd (hgo _ _ _ _ hzk hsc h)
    · cases h
  | lushr =>
    obtain ⟨hd, hl, hj, ho⟩ := z_okE_ok hE (by intro q; cases q)
    obtain rfl : len = 1 := Nat.eq_of_beq_eq_true hl
    change z_o_lushr go pc z L st S = some out at h
    unfold z_o_lushr at h
    split at h
    · exact zj_lushr hx hb hd (hgo _ _ _ _ hzk hsc h)
    · cases h
  | lcmp =>
    obtain ⟨hd, hl, hj, ho⟩ := z_okE_ok hE (by intro q; cases q)
    obtain rfl : len = 1 := Nat.eq_of_beq_eq_true hl
    change z_o_lcmp go pc z L st S = some out at h
    unfold z_o_lcmp at h
    split at h
    · exact zj_lcmp hx hb hd (hgo _ _ _ _ hzk hsc h)
    · cases h
  | i2l =>
    obtain ⟨hd, hl, hj, ho⟩ := z_okE_ok hE (by intro q; cases q)
    obtain rfl : len = 1 := Nat.eq_of_beq_eq_true hl
    change z_o_i2l go pc z L st S = some out at h
    unfold z_o_i2l at h
    split at h
    · exact zj_i2l hx hb hd (hgo _ _ _ _ hzk hsc h)
    · cases h
  | l2i =>
    obtain ⟨hd, hl, hj, ho⟩ := z_okE_ok hE (by intro q; cases q)
    obtain rfl : len = 1 := Nat.eq_of_beq_eq_true hl
    change z_o_l2i go pc z L st S = some out at h
    unfold z_o_l2i at h
    split at h
    · exact zj_l2i hx hb hd (hgo _ _ _ _ hzk hsc h)
    · cases h
  | i2b =>
    obtain ⟨hd, hl, hj, ho⟩ := z_okE_ok hE (by intro q; cases q)
    obtain rfl : len = 1 := Nat.eq_of_beq_eq_true hl
    change z_o_i2b go pc z L st S = some out at h
    unfold z_o_i2b at h
    split at h
    · exact zj_i2b hx hb hd (hgo _ _ _ _ hzk hsc h)
    · cases h
  | idiv =>
    obtain ⟨hd, hl, hj, ho⟩ := z_okE_ok hE (by intro q; cases q)
    obtain rfl : len = 1 := Nat.eq_of_beq_eq_true hl
    change z_o_idiv go pc z L st S = some out at h
    unfold z_o_idiv at h
    split at h
    · split at h
      · cases h
      · rename_i hy
        exact zj_idiv hx hb hd hy (hgo _ _ _ _ hzk hsc h)
    · cases h
  | irem =>
    obtain ⟨hd, hl, hj, ho⟩ := z_okE_ok hE (by intro q; cases q)
    obtain rfl : len = 1 := Nat.eq_of_beq_eq_true hl
    change z_o_irem go pc z L st S = some out at h
    unfold z_o_irem at h
    split at h
    · split at h
      · cases h
      · rename_i hy
        exact zj_irem hx hb hd hy (hgo _ _ _ _ hzk hsc h)
    · cases h
  | dup =>
    obtain ⟨hd, hl, hj, ho⟩ := z_okE_ok hE (by intro q; cases q)
    obtain rfl : len = 1 := Nat.eq_of_beq_eq_true hl
    change z_o_dup go pc z L st S = some out at h
    unfold z_o_dup at h
    split at h
    · exact zj_dup hx hb hd rfl (hgo _ _ _ _ hzk hsc h)
    · exact zj_dup hx hb hd rfl (hgo _ _ _ _ hzk hsc h)
    · cases h
  | dup2 =>
    obtain ⟨hd, hl, hj, ho⟩ := z_okE_ok hE (by intro q; cases q)
    obtain rfl : len = 1 := Nat.eq_of_beq_eq_true hl
    change z_o_dup2 go pc z L st S = some out at h
    unfold z_o_dup2 at h
    split at h
    · exact zj_dup2 hx hb hd rfl rfl (hgo _ _ _ _ hzk hsc h)
    · cases h
  | getfield ix =>
    obtain ⟨hd, hl, hj, ho⟩ := z_okE_ok hE (by intro q; cases q)
    obtain rfl : len = 3 := Nat.eq_of_beq_eq_true hl
    change z_o_getfield ops go pc z L st S = some out at h
    exact zm_get (len := 0) hctx hd ho h (fun st' h' => hgo _ _ _ _ hzk hsc h')
  | putfield ix =>
    obtain ⟨hd, hl, hj, ho⟩ := z_okE_ok hE (by intro q; cases q)
    obtain rfl : len = 3 := Nat.eq_of_beq_eq_true hl
    change z_o_putfield ops go pc z L st S = some out at h
    exact zm_put hctx hd ho h (fun st' a k x ha h' => hgo _ _ _ _ hzk (hsc.fr (z_fr_w1 ha)) h')
  | getstatic ix =>
    obtain ⟨hd, hl, hj, ho⟩ := z_okE_ok hE (by intro q; cases q)
    obtain rfl : len = 3 := Nat.eq_of_beq_eq_true hl
    change z_o_getstatic ops go pc z L st S = some out at h
    exact zm_gs hctx hd ho h (fun st' h' => hgo _ _ _ _ hzk hsc h')
  | ldc ix =>
    obtain ⟨hd, hl, hj, ho⟩ := z_okE_ok hE (by intro q; cases q)
    obtain rfl : len = 2 := Nat.eq_of_beq_eq_true hl
    change z_o_ldc ops go pc z L st S = some out at h
    exact zm_ldc hctx hd ho h (fun st' h' => hgo _ _ _ _ hzk hsc h')
  | ldc_w ix =>
    obtain ⟨hd, hl, hj, ho⟩ := z_okE_ok hE (by intro q; cases q)
    obtain rfl : len = 3 := Nat.eq_of_beq_eq_true hl
    change z_o_ldc_w ops go pc z L st S = some out at h
    exact zm_ldcw hctx hd ho h (fun st' h' => hgo _ _ _ _ hzk hsc h')
  | ldc2_w ix =>
    obtain ⟨hd, hl, hj, ho⟩ := z_okE_ok hE (by intro q; cases q)
    obtain rfl : len = 3 := Nat.eq_of_beq_eq_true hl
    change z_o_ldc2_w ops go pc z L st S = some out at h
    exact zm_ldc2 hctx hd ho h (fun st' h' => hgo _ _ _ _ hzk hsc h')
  | iaload =>
    obtain ⟨hd, hl, hj, ho⟩ := z_okE_ok hE (by intro q; cases q)
    obtain rfl : len = 1 := Nat.eq_of_beq_eq_true hl
    change z_o_iaload lm go pc z L st S = some out at h
    exact zm_iald hctx hd hsc hSX h (fun st' h' => hgo _ _ _ _ hzk hsc h')
  | baload =>
    obtain ⟨hd, hl, hj, ho⟩ := z_okE_ok hE (by intro q; cases q)
    obtain rfl : len = 1 := Nat.eq_of_beq_eq_true hl
    change z_o_baload go pc z L st S = some out at h
    unfold z_o_baload at h
    split at h
    · have hz9 := z_cnd h
      clear h
      obtain ⟨hk, h⟩ := hz9
      simp only [Bool.and_eq_true, Bool.or_eq_true] at hk
      rcases hk with ⟨hk | hk, hi⟩
      · exact zj_ba2 hx hb hKK hd (Nat.eq_of_beq_eq_true hk) hi (hgo _ _ _ _ hzk hsc h)
      · exact zj_ba3 hx hb hKK hd (Nat.eq_of_beq_eq_true hk) hi (hgo _ _ _ _ hzk hsc h)
    · cases h
  | laload =>
    obtain ⟨hd, hl, hj, ho⟩ := z_okE_ok hE (by intro q; cases q)
    obtain rfl : len = 1 := Nat.eq_of_beq_eq_true hl
    change z_o_laload go pc z L st S = some out at h
    unfold z_o_laload at h
    split at h
    · have hz9 := z_cnd h
      clear h
      obtain ⟨hk, h⟩ := hz9
      simp only [Bool.and_eq_true] at hk
      exact zj_la hx hb hKK hd (Nat.eq_of_beq_eq_true hk.1) hk.2 (hgo _ _ _ _ hzk hsc h)
    · cases h
  | iastore =>
    obtain ⟨hd, hl, hj, ho⟩ := z_okE_ok hE (by intro q; cases q)
    obtain rfl : len = 1 := Nat.eq_of_beq_eq_true hl
    change z_o_iastore go pc z L st S = some out at h
    unfold z_o_iastore at h
    split at h
    · have hz9 := z_cnd h
      clear h
      obtain ⟨hk, h⟩ := hz9
      simp only [Bool.and_eq_true] at hk
      exact zj_ias hx hb hKK hAp hd (Nat.eq_of_beq_eq_true hk.1) hk.2 (hgo _ _ _ _ hzk (hsc.fr (z_fr_w1 (z_at_lt (by rw [Nat.eq_of_beq_eq_true hk.1]; decide)))) h)
    · cases h
  | lastore =>
    obtain ⟨hd, hl, hj, ho⟩ := z_okE_ok hE (by intro q; cases q)
    obtain rfl : len = 1 := Nat.eq_of_beq_eq_true hl
    change z_o_lastore go pc z L st S = some out at h
    unfold z_o_lastore at h
    split at h
    · have hz9 := z_cnd h
      clear h
      obtain ⟨hk, h⟩ := hz9
      simp only [Bool.and_eq_true] at hk
      exact zj_las hx hb hKK hAp hd (Nat.eq_of_beq_eq_true hk.1) hk.2 (hgo _ _ _ _ hzk (hsc.fr (fun _ _ => rfl)) h)
    · cases h
  | bastore =>
    obtain ⟨hd, hl, hj, ho⟩ := z_okE_ok hE (by intro q; cases q)
    obtain rfl : len = 1 := Nat.eq_of_beq_eq_true hl
    change z_o_bastore go pc z L st S = some out at h
    unfold z_o_bastore at h
    split at h
    · have hz9 := z_cnd h
      clear h
      obtain ⟨hk, h⟩ := hz9
      split at h
      · rename_i ht
        exact zj_bas2 hx hb hKK hAp hd ht hk (hgo _ _ _ _ hzk (hsc.fr (z_fr_w1 (z_at_lt (by rw [ht]; decide)))) h)
      · rename_i ht
        exact zj_bas3 hx hb hKK hAp hd ht hk (hgo _ _ _ _ hzk (hsc.fr (z_fr_w1 (z_at_lt (by rw [ht]; decide)))) h)
      · cases h
    · cases h
  | aaload =>
    obtain ⟨hd, hl, hj, ho⟩ := z_okE_ok hE (by intro q; cases q)
    obtain rfl : len = 1 := Nat.eq_of_beq_eq_true hl
    change z_o_aaload go pc z L st S = some out at h
    unfold z_o_aaload at h
    split at h
    · rename_i x a r0
      cases ha : Nat.beq a 1100 with
      | true =>
        rw [ha] at h
        obtain rfl := Nat.eq_of_beq_eq_true ha
        have hz9 := z_cnd (show cond (z_ix x 17) (go (pc + 1) z L (.ref (1000 + x.toNatClampNeg) :: r0) S) none = some out from h)
        clear h
        obtain ⟨hi, h⟩ := hz9
        exact zj_aaA hx hb hEE.2.2.1.2.2.2.2.1 hd hi (hgo _ _ _ _ hzk hsc h)
      | false =>
        rw [ha] at h
        have hz9 := z_cnd (show cond (Nat.beq (z_at a) 5 && z_ix x (z_ln a)) (go (pc + 1) z L (.ref (z_vs.getD x.toNatClampNeg 0) :: r0) S) none = some out from h)
        clear h
        obtain ⟨hk, h⟩ := hz9
        simp only [Bool.and_eq_true] at hk
        exact zj_aa hx hb hKK hd (Nat.eq_of_beq_eq_true hk.1) hk.2 (hgo _ _ _ _ hzk hsc h)
    · cases h
  | arraylength =>
    obtain ⟨hd, hl, hj, ho⟩ := z_okE_ok hE (by intro q; cases q)
    obtain rfl : len = 1 := Nat.eq_of_beq_eq_true hl
    change z_o_arraylength lm go pc z L st S = some out at h
    exact zm_alen hctx hd hsc hSX h (fun st' h' => hgo _ _ _ _ hzk hsc h')
  | ifCond c9 off =>
    obtain ⟨hd, hl, hj, ho⟩ := z_okE_ok hE (by intro q; cases q)
    obtain rfl : len = 3 := Nat.eq_of_beq_eq_true hl
    change z_o_ifCond K go c9 off pc z L st S = some out at h
    unfold z_o_ifCond at h
    split at h
    · cases c9 with
      | eq => dsimp only at h; exact zj_if_eq hx hb hd (z_okP_ok hj) (fun q => by rw [if_pos q] at h; exact hK _ _ _ _ _ hzk hsc h) (fun q => by rw [if_neg q] at h; exact hgo _ _ _ _ hzk hsc h)
      | ne => dsimp only at h; exact zj_if_ne hx hb hd (z_okP_ok hj) (fun q => by rw [if_neg q] at h; exact hK _ _ _ _ _ hzk hsc h) (fun q => by rw [if_pos q] at h; exact hgo _ _ _ _ hzk hsc h)
      | lt => dsimp only at h; exact zj_if_lt hx hb hd (z_okP_ok hj) (fun q => by rw [if_pos q] at h; exact hK _ _ _ _ _ hzk hsc h) (fun q => by rw [if_neg q] at h; exact hgo _ _ _ _ hzk hsc h)
      | ge => dsimp only at h; exact zj_if_ge hx hb hd (z_okP_ok hj) (fun q => by rw [if_pos q] at h; exact hK _ _ _ _ _ hzk hsc h) (fun q => by rw [if_neg q] at h; exact hgo _ _ _ _ hzk hsc h)
      | gt => dsimp only at h; exact zj_if_gt hx hb hd (z_okP_ok hj) (fun q => by rw [if_pos q] at h; exact hK _ _ _ _ _ hzk hsc h) (fun q => by rw [if_neg q] at h; exact hgo _ _ _ _ hzk hsc h)
      | le => dsimp only at h; exact zj_if_le hx hb hd (z_okP_ok hj) (fun q => by rw [if_pos q] at h; exact hK _ _ _ _ _ hzk hsc h) (fun q => by rw [if_neg q] at h; exact hgo _ _ _ _ hzk hsc h)
    · cases h
  | if_icmp c9 off =>
    obtain ⟨hd, hl, hj, ho⟩ := z_okE_ok hE (by intro q; cases q)
    obtain rfl : len = 3 := Nat.eq_of_beq_eq_true hl
    change z_o_if_icmp K go c9 off pc z L st S = some out at h
    unfold z_o_if_icmp at h
    split at h
    · cases c9 with
      | eq => dsimp only at h; exact zj_ic_eq hx hb hd (z_okP_ok hj) (fun q => by rw [if_pos q] at h; exact hK _ _ _ _ _ hzk hsc h) (fun q => by rw [if_neg q] at h; exact hgo _ _ _ _ hzk hsc h)
      | ne => dsimp only at h; exact zj_ic_ne hx hb hd (z_okP_ok hj) (fun q => by rw [if_neg q] at h; exact hK _ _ _ _ _ hzk hsc h) (fun q => by rw [if_pos q] at h; exact hgo _ _ _ _ hzk hsc h)
      | lt => dsimp only at h; exact zj_ic_lt hx hb hd (z_okP_ok hj) (fun q => by rw [if_pos q] at h; exact hK _ _ _ _ _ hzk hsc h) (fun q => by rw [if_neg q] at h; exact hgo _ _ _ _ hzk hsc h)
      | ge => dsimp only at h; exact zj_ic_ge hx hb hd (z_okP_ok hj) (fun q => by rw [if_pos q] at h; exact hK _ _ _ _ _ hzk hsc h) (fun q => by rw [if_neg q] at h; exact hgo _ _ _ _ hzk hsc h)
      | gt => dsimp only at h; exact zj_ic_gt hx hb hd (z_okP_ok hj) (fun q => by rw [if_pos q] at h; exact hK _ _ _ _ _ hzk hsc h) (fun q => by rw [if_neg q] at h; exact hgo _ _ _ _ hzk hsc h)
      | le => dsimp only at h; exact zj_ic_le hx hb hd (z_okP_ok hj) (fun q => by rw [if_pos q] at h; exact hK _ _ _ _ _ hzk hsc h) (fun q => by rw [if_neg q] at h; exact hgo _ _ _ _ hzk hsc h)
    · cases h
  | if_acmp c9 off =>
    obtain ⟨hd, hl, hj, ho⟩ := z_okE_ok hE (by intro q; cases q)
    obtain rfl : len = 3 := Nat.eq_of_beq_eq_true hl
    change z_o_if_acmp K go c9 off pc z L st S = some out at h
    unfold z_o_if_acmp at h
    split at h
    · rename_i y x r0
      have hz9 := z_cnd h
      clear h
      obtain ⟨hk, h⟩ := hz9
      simp only [Bool.and_eq_true] at hk
      have hin : ρ x = ρ y → x = y := z_wInj hEE hk.1.1.1 hk.1.1.2 hk.1.2 hk.2
      cases c9 with
      | eq => dsimp only at h; exact zj_ac_eq hx hb hin hd (z_okP_ok hj) (fun q => by rw [if_pos q] at h; exact hK _ _ _ _ _ hzk hsc h) (fun q => by rw [if_neg q] at h; exact hgo _ _ _ _ hzk hsc h)
      | ne => dsimp only at h; exact zj_ac_ne hx hb hin hd (z_okP_ok hj) (fun q => by rw [if_neg q] at h; exact hK _ _ _ _ _ hzk hsc h) (fun q => by rw [if_pos q] at h; exact hgo _ _ _ _ hzk hsc h)
    · cases h
  | goto off =>
    obtain ⟨hd, hl, hj, ho⟩ := z_okE_ok hE (by intro q; cases q)
    obtain rfl : len = 3 := Nat.eq_of_beq_eq_true hl
    change z_o_goto K off pc z L st S = some out at h
    exact zj_goto hx hb hd (z_okP_ok hj) (hK _ _ _ _ _ hzk hsc h)
  | tableswitch d lo hi offs =>
    obtain ⟨hd, hl, hj, ho⟩ := z_okE_ok hE (by intro q; cases q)
    change z_o_tableswitch K d lo hi offs pc z L st S = some out at h
    exact zm_tsw hctx hd hj h (fun t st' h' => hK _ _ _ _ _ hzk hsc h')
  | lookupswitch d ps =>
    obtain ⟨hd, hl, hj, ho⟩ := z_okE_ok hE (by intro q; cases q)
    change z_o_lookupswitch K d ps pc z L st S = some out at h
    exact zm_lsw hctx hd hj h (fun t st' h' => hK _ _ _ _ _ hzk hsc h')
  | invokevirtual ix =>
    obtain ⟨hd, hl, hj, ho⟩ := z_okE_ok hE (by intro q; cases q)
    obtain rfl : len = 3 := Nat.eq_of_beq_eq_true hl
    change z_call lm hd0 E go ops pc z L st S = some out at h
    exact zm_callV hctx hd ho hzk h hRl (fun z' st' S' hz hf h' => hgo _ _ _ _ hz (hsc.fr hf) h') hC z_mst hF (fun q => hX q pc L (z_xE_v hxe)) (fun kind q => ⟨fun k => (hS pc ix hd).1 ((z_xE_s hxe kind q).1 k), fun k => (hS pc ix hd).2 ((z_xE_s hxe kind q).2 k)⟩)
  | invokestatic ix =>
    obtain ⟨hd, hl, hj, ho⟩ := z_okE_ok hE (by intro q; cases q)
    obtain rfl : len = 3 := Nat.eq_of_beq_eq_true hl
    change z_call lm hd0 E go ops pc z L st S = some out at h
    exact zm_callS hctx hd ho hzk h hRl (fun z' st' S' hz hf h' => hgo _ _ _ _ hz (hsc.fr hf) h') hC hM7 hM8 hF (fun q => hX q pc L (z_xE_w hxe))
  | ireturn =>
    obtain ⟨hd, hl, hj, ho⟩ := z_okE_ok hE (by intro q; cases q)
    obtain rfl : len = 1 := Nat.eq_of_beq_eq_true hl
    change z_o_ireturn rt pc z L st S = some out at h
    unfold z_o_ireturn at h
    split at h
    · have hz9 := z_cnd h
      clear h
      obtain ⟨hr, h⟩ := hz9
      exact hRi pc z L S _ hzk hd hr (Option.some.inj h).symm
    · cases h
  | areturn =>
    obtain ⟨hd, hl, hj, ho⟩ := z_okE_ok hE (by intro q; cases q)
    obtain rfl : len = 1 := Nat.eq_of_beq_eq_true hl
    change z_o_areturn lm pc z L st S = some out at h
    unfold z_o_areturn at h
    split at h
    · have hz9 := z_cnd h
      clear h
      obtain ⟨hr, h⟩ := hz9
      have hlm : lm = false := by cases lm; rfl; cases hr
      obtain rfl := hzk.1 hlm
      exact hRa hlm pc L S _ hd hxe (Option.some.inj h).symm
    · cases h
  | return_ =>
    obtain ⟨hd, hl, hj, ho⟩ := z_okE_ok hE (by intro q; cases q)
    obtain rfl : len = 1 := Nat.eq_of_beq_eq_true hl
    change z_o_return_ lm pc z L st S = some out at h
    unfold z_o_return_ at h
    split at h
    · have hz9 := z_cnd h
      clear h
      obtain ⟨hr, h⟩ := hz9
      have hlm : lm = false := by cases lm; rfl; cases hr
      obtain rfl := hzk.1 hlm
      exact hRv hlm pc L S hd (Option.isNone_iff_eq_none.mp hxe) (Option.some.inj h).symm
    · cases h
  | athrow =>
    change z_o_athrow lm ops pc z L st S = some out at h
    unfold z_o_athrow at h
    split at h
    · split at h
      · have hz9 := z_cnd2 h
        clear h
        obtain ⟨hlm, h⟩ := hz9
        obtain rfl := hzk.1 hlm
        exact hTh hlm pc len _ _ L S hE (Option.some.inj h).symm
      · cases h
    · cases h
  | _ => cases h
/-- a block -/
theorem z_ex_ok (hctx : z_Ctx p l R s m args c B D ρ cA nL cc own dd) (hRd : z_Rd p l e R s m args below meth c Q B D ρ cA nL cc own dd n9 xs vb lm rt hd0 E out)
    (hK : ∀ t z' L' st' S', z_zk lm z' → z_sc lm n9 xs S' → K t z' L' st' S' = some out → z_J p l e R s m args below meth c Q B D ρ cA nL t z' L' st' S') : ∀ (is : List z_I) (pc z : Nat) (L : z_Lo) (st : List Value) (S : z_St), z_okL cc own pc is = true → z_xL own vb rt pc is = true → z_zk lm z → z_sc lm n9 xs S → z_ex lm rt hd0 E K is pc z L st S = some out → z_J p l e R s m args below meth c Q B D ρ cA nL pc z L st S
  | [], pc, z, L, st, S, _, _, hzk, hsc, h => hK pc z L st S hzk hsc h
  | x :: is, pc, z, L, st, S, ho, hxl, hzk, hsc, h => by
    obtain ⟨i, len, ops⟩ := x
    have ho2 : (z_okE cc own pc (i, len, ops) && z_okL cc own (pc + len) is) = true := ho
    have hx2 : (z_xE own vb rt pc (i, len, ops) && z_xL own vb rt (pc + len) is) = true := hxl
    simp only [Bool.and_eq_true] at ho2 hx2
    exact z_st_ok hctx hRd ho2.1 hx2.1 hzk hsc h (fun z' L' st' S' h1 h2 h3 => z_ex_ok hctx hRd hK is (pc + len) z' L' st' S' ho2.2 hx2.2 h1 h2 h3) hK
/-- a method from one of its blocks on -/
theorem z_run_ok {b : z_B} (hctx : z_Ctx p l R s m args c B D ρ cA nL cc own dd) (hRd : z_Rd p l e R s m args below meth c Q B D ρ cA nL cc own dd n9 xs vb lm rt hd0 E out) (hob : z_okB cc own b = true) (hxb : z_xB own vb rt b = true) :
    ∀ (n pc z : Nat) (L : z_Lo) (st : List Value) (S : z_St), z_zk lm z → z_sc lm n9 xs S → z_run lm rt hd0 E b n pc z L st S = some out → z_J p l e R s m args below meth c Q B D ρ cA nL pc z L st S
  | 0, pc, z, L, st, S, _, _, h => by cases h
  | n + 1, pc, z, L, st, S, hzk, hsc, h => by
    unfold z_run at h
    split at h
    · rename_i q hq
      have hm := z_fnd_mem _ _ _ hq
      have h9 := z_ex_ok hctx hRd (fun t z' L' st' S' h1 h2 h3 => z_run_ok hctx hRd hob hxb n t z' L' st' S' h1 h2 h3) q.2 pc z (z_mk q.1 L) st S (List.all_eq_true.mp hob _ hm) (List.all_eq_true.mp hxb _ hm) hzk hsc h
      exact fun ls H locs hl hw => h9 ls H locs (z_lr_mk _ hl) hw
    · cases h
end ZS
end
section
/-! a method's answer in the abstract machine is its contract in the machine -/
theorem z_sl_len (ρ : Nat → Nat) : ∀ (as : List Value), (lg_sl (as.map (z_v ρ))).length = (z_sl as).length
  | [] => rfl
  | v :: r => by
    have h := z_sl_len ρ r
    cases v <;> simp [lg_sl, z_sl, z_v, Value.category] at h ⊢ <;> omega
section ZE
variable {p : Program} {l : Launch} {e : Env} {R : Room} {s : State} {m : MethodId} {args : Array Value} {below : List Frame} {meth : Method} {c : Code} {Q : State → Prop} {B : Nat} {D : va_G} {ρ : Nat → Nat} {cA : Nat → ClassId} {nL : Nat}
variable {cc : ByteArray} {pc z len : Nat} {L : z_Lo} {st r : List Value} {S S1 : z_St} {own : String} {dd : Nat} {rt : Option FieldType} {o : z_Out} {mc : Nat}
theorem z_wide {H : Heap} {locs : List Loc} {cells slots k n : Nat} {g : JFrame} (h1 : cells ≤ k) (h2 : slots ≤ n) (kk : W p l e R s m args below meth c H locs k n Q g) : W p l e R s m args below meth c H locs cells slots Q g := fun T hT X => kk T hT (stand_widen X h1 h2)
def z_MQ (B : Nat) (D : va_G) (ρ : Nat → Nat) (cA : Nat → ClassId) (o : z_Out) (S1 : z_St) (below : List Frame) (args : Array Value) (s : State) (mc : Nat) : State → Prop := vx_MQ below (z_Qr B D ρ cA o S1) (z_Qx B D ρ cA o S1) args s mc (6 * mc) (fun q => B ≤ q)
theorem z_Wd.q {v : Option Value} {H : Heap} {locs : List Loc} (hw : z_Wd B D ρ cA S1 s H locs) : ∀ t : State, t.heap = H → s.WarmedH t.vm → z_Qr B D ρ cA (.inl v) S1 args s (.returned (v.map (z_v ρ))) t := fun t ht _ => ⟨⟨v, rfl, rfl⟩, by rw [ht]; exact hw.1, hw.2.F ht⟩
theorem z_endI (hx : p.tables.exec = Jvm.exec) (hb : c.code = cc) (hr : meth.sig.returnType = rt) (hlocks : meth.locks = false) {x : Int32} (hrb : z_rb rt x = true) (hd : decode cc pc = .ok (.ireturn, 1)) : z_J p l e R s m args below meth c (z_MQ B D ρ cA (.inl (some (.int x))) S1 below args s mc) B D ρ cA nL pc 0 L [.int x] S1 := fun ls H locs hl hw => by
  have hn : ∃ ty, rt = some ty ∧ narrow ty (.int x) = .int x := by
    unfold z_rb at hrb
    split at hrb
    · exact ⟨_, rfl, rfl⟩
    · simp only [Bool.or_eq_true, decide_eq_true_eq] at hrb
      rcases hrb with rfl | rfl <;> exact ⟨_, rfl, rfl⟩
    · cases hrb
  obtain ⟨ty, rfl, hn⟩ := hn
  exact vx_ret (z_wide (Nat.zero_le _) (Nat.zero_le _) (W.zret hx hb hr hn hw.q hw.2.2.2 hd hlocks))
theorem z_endA (hx : p.tables.exec = Jvm.exec) (hb : c.code = cc) (hr : meth.sig.returnType = rt) (hlocks : meth.locks = false) {x : Nat} (hrf : z_rf rt = true) (hd : decode cc pc = .ok (.areturn, 1)) : z_J p l e R s m args below meth c (z_MQ B D ρ cA (.inl (some (.ref x))) S1 below args s mc) B D ρ cA nL pc 0 L [.ref x] S1 := fun ls H locs hl hw => by
  unfold z_rf at hrf
  split at hrf
  · exact vx_ret (z_wide (Nat.zero_le _) (Nat.zero_le _) (W.aret hx hb hr (Or.inl ⟨_, rfl⟩) (Or.inr ⟨_, rfl⟩) hw.q hw.2.2.2 hd hlocks))
  · exact vx_ret (z_wide (Nat.zero_le _) (Nat.zero_le _) (W.aret hx hb hr (Or.inr ⟨_, rfl⟩) (Or.inr ⟨_, rfl⟩) hw.q hw.2.2.2 hd hlocks))
  · cases hrf
theorem z_endV (hx : p.tables.exec = Jvm.exec) (hb : c.code = cc) (hr : meth.sig.returnType = none) (hlocks : meth.locks = false) (hd : decode cc pc = .ok (.return_, 1)) : z_J p l e R s m args below meth c (z_MQ B D ρ cA (.inl none) S1 below args s mc) B D ρ cA nL pc 0 L [] S1 := fun ls H locs hl hw =>
  vx_ret (z_wide (Nat.zero_le _) (Nat.zero_le _) (W.vret hx hb hr hw.q hw.2.2.2 hd hlocks))
theorem z_endT (hctx : z_Ctx p l R s m args c B D ρ cA nL cc own dd) (hl0 : l.stackTraces = false) (htab : ∀ x ∈ c.exceptionTable.toList, False) (hlocks : meth.locks = false) {ee : Nat} {ops : List Nat} (hRc : 1 ≤ R.cells ∧ 6 ≤ R.slots) (hmc : 1 ≤ mc) (ht : z_okT cc own pc len (ee :: ops) = true) : z_J p l e R s m args below meth c (z_MQ B D ρ cA (.inr ee) S1 below args s mc) B D ρ cA nL pc 0 L [] S1 := fun ls H locs hl hw => by
  obtain ⟨hx, hb, hml, hown, hts, hE, hAp, hRf, hRl⟩ := hctx
  unfold z_okT at ht
  split at ht
  · rename_i e0 ik isx ic w ti x9 hops
    cases hops
    simp only [Bool.and_eq_true, decide_eq_true_eq, List.any_eq_true] at ht
    obtain ⟨⟨⟨⟨⟨⟨⟨h1, h2⟩, h3⟩, h4⟩, h5⟩, q, hq, h6⟩, h7⟩, h8⟩ := ht
    have hee : ee < 2 := Nat.blt_eq.mp h1
    obtain ⟨sa, hsa⟩ := hE.2.2.2.1.1 q hq
    rw [Nat.eq_of_beq_eq_true h6] at hsa
    rw [h2] at hown h5
    have hic : ic = (z_xi ee).1 := by
      rw [Nat.eq_of_beq_eq_true h7]
      have h2e : ee = 0 ∨ ee = 1 := by omega
      rcases h2e with rfl | rfl <;> rfl
    rw [hic] at h8
    have hd4 : ∃ k, ((decode cc (pc + 4) = .ok (.ldc isx, 2) ∧ k = 6) ∨ (decode cc (pc + 4) = .ok (.ldc_w isx, 3) ∧ k = 7)) ∧ decode cc (pc + k) = .ok (.invokespecial (z_xi ee).1, 3) ∧ decode cc (pc + k + 3) = .ok (.athrow, 1) := by
      cases hw9 : Nat.beq w 0 with
      | true =>
        rw [hw9] at h8
        simp only [cond_true, Bool.and_eq_true] at h8
        exact ⟨6, Or.inl ⟨z_dec_ok h8.1.1.2, rfl⟩, z_dec_ok h8.1.2, z_dec_ok h8.2⟩
      | false =>
        rw [hw9] at h8
        simp only [cond_false, Bool.and_eq_true] at h8
        exact ⟨7, Or.inr ⟨z_dec_ok h8.1.1.2, rfl⟩, z_dec_ok h8.1.2, z_dec_ok h8.2⟩
    obtain ⟨k, d4, d6, d9⟩ := hd4
    refine z_thr (A := fun q => B ≤ q) hx hb hl0 hee hown hts hE.2.2.2.2.2.2 (z_inT_ok h5) hsa hE.2.2.1.1 hE.2.2.1.2.1 hw.2 (by rw [hml]; exact hl.1) (z_dec_ok h3) (z_dec_ok h4) d4 d6 d9 htab (by omega) (by simp; omega) (by omega) (by omega) hlocks (fun t _ hsz hkp => ?_) hw.2.2.2 (by omega) (by omega)
    refine ⟨⟨ee, rfl, rfl⟩, hw.1.kept (fun k q hk => hkp q.1 (vx_lt hw.1 hk)), Nat.le_trans hw.2.1 hsz, fun q hq hB => ?_⟩
    rw [hkp q (Nat.lt_of_lt_of_le hq hw.2.1)]
    exact hw.2.2.1 q hq hB
  · cases ht
/-- not caught: the caller has it -/
theorem z_endX (htab : ∀ x ∈ c.exceptionTable.toList, False) (hlocks : meth.locks = false) (hRc : ∀ ee, o = .inr ee → 1 ≤ R.cells ∧ 6 ≤ R.slots ∧ 1 ≤ mc) : z_Xo p l e R s m args below meth c (z_MQ B D ρ cA o S1 below args s mc) B D ρ cA nL [] (o, S1) pc L := by
  intro ee S2 h
  have h2 : (o, S1) = (.inr ee, S2) := (Option.some.inj h).symm
  cases h2
  obtain ⟨k1, k2, k3⟩ := hRc ee rfl
  refine ⟨k1, k2, fun ls H locs q ce rest hl hw hc hv hcl => ?_⟩
  refine vx_out (fun x hx => (htab x hx).elim) hlocks hc hv hcl (fun t ht _ => ?_) hw.2.2.2 k3 (by omega)
  exact ⟨⟨ee, rfl, rfl⟩, by rw [ht]; exact hw.1, hw.2.F ht⟩
/-- a handler of the law's small methods: the thing is laid away, a number answered -/
def z_hc2 (cc : ByteArray) (h : Nat) (v : Int32) : Bool := match decode cc h with
  | .ok (.iconst n, 1) => decide (Int32.ofInt n = v) && z_dec cc (h + 1) .ireturn 1
  | _ => false
def z_hc (cc : ByteArray) (mL h : Nat) (v : Int32) : Bool := match decode cc h with
  | .ok (.astore k, 2) => Nat.blt k mL && z_hc2 cc (h + 2) v
  | .ok (.astore_n k, 1) => Nat.blt k.val mL && z_hc2 cc (h + 1) v
  | _ => false
theorem z_hc2_ok (hx : p.tables.exec = Jvm.exec) (hb : c.code = cc) (hr : meth.sig.returnType = some .int) (hlocks : meth.locks = false) {h : Nat} {v : Int32} (hh : z_hc2 cc h v = true) {ls : Array Slot} {H : Heap} {locs : List Loc} (hw : z_Wd B D ρ cA S1 s H locs) {cells slots : Nat} (h1 : cells ≤ mc) (h2 : slots ≤ 6 * mc) :
    W p l e R s m args below meth c H locs cells slots (z_MQ B D ρ cA (.inl (some (.int v))) S1 below args s mc) (F0 m h ls []) := by
  unfold z_hc2 at hh
  split at hh
  · rename_i n hd
    simp only [Bool.and_eq_true, decide_eq_true_eq] at hh
    refine lv_iconst hx hb hd hh.1 ?_
    exact vx_ret (z_wide h1 h2 (W.zret hx hb hr rfl hw.q hw.2.2.2 (z_dec_ok hh.2) hlocks))
  · cases hh
theorem z_hc_ok (hx : p.tables.exec = Jvm.exec) (hb : c.code = cc) (hr : meth.sig.returnType = some .int) (hlocks : meth.locks = false) {h mL : Nat} {v : Int32} (hh : z_hc cc mL h v = true) {ls : Array Slot} {H : Heap} {locs : List Loc} {q : Addr} (hl : z_lr ρ ls mL L) (hw : z_Wd B D ρ cA S1 s H locs) {cells slots : Nat} (h1 : cells ≤ mc) (h2 : slots ≤ 6 * mc) :
    W p l e R s m args below meth c H locs cells slots (z_MQ B D ρ cA (.inl (some (.int v))) S1 below args s mc) (F0 m h ls [.ref q]) := by
  unfold z_hc at hh
  split at hh
  · rename_i k hd
    simp only [Bool.and_eq_true] at hh
    exact lv_astore hx hb hd (z_lr_has hl) (Nat.blt_eq.mp hh.1) rfl (fun ls' h' => z_hc2_ok hx hb hr hlocks hh.2 hw h1 h2)
  · rename_i k hd
    simp only [Bool.and_eq_true] at hh
    exact lv_astore_n hx hb hd rfl (z_lr_has hl) (Nat.blt_eq.mp hh.1) rfl (fun ls' h' => z_hc2_ok hx hb hr hlocks hh.2 hw h1 h2)
  · cases hh
end ZE
end
section
/-! the law's small methods: their tables of handlers -/
def z_hA (m b h t ee : Nat) (v : Int32) : Prop := z_own.getD (z_m m).2.2.2.2.1 "" = "SlipRoomLaw" ∧ (z_m m).2.2.2.1 = some .int ∧ z_hh.getD m [] = [(0, b, h, t)] ∧ (z_m m).2.2.2.2.2 = [(ee, v)] ∧ z_hc (z_m m).2.1 (z_m m).2.2.1 h v = true
def z_hC (m b h h2 : Nat) (v v2 : Int32) : Prop := z_own.getD (z_m m).2.2.2.2.1 "" = "SlipRoomLaw" ∧ (z_m m).2.2.2.1 = some .int ∧ z_hh.getD m [] = [(0, b, h, 18), (0, b, h2, 13)] ∧ (z_m m).2.2.2.2.2 = [(0, v), (1, v2)] ∧ z_hc (z_m m).2.1 (z_m m).2.2.1 h v = true ∧ z_hc (z_m m).2.1 (z_m m).2.2.1 h2 v2 = true
set_option maxRecDepth 100000 in
theorem z_hx_191 : z_hA 191 9 12 13 1 1 := ⟨rfl, rfl, rfl, rfl, by decide +kernel⟩
set_option maxRecDepth 100000 in
theorem z_hx_192 : z_hA 192 9 12 18 0 1 := ⟨rfl, rfl, rfl, rfl, by decide +kernel⟩
set_option maxRecDepth 100000 in
theorem z_hx_193 : z_hA 193 10 13 18 0 1 := ⟨rfl, rfl, rfl, rfl, by decide +kernel⟩
set_option maxRecDepth 100000 in
theorem z_hx_194 : z_hA 194 10 13 18 0 1 := ⟨rfl, rfl, rfl, rfl, by decide +kernel⟩
set_option maxRecDepth 100000 in
theorem z_hx_195 : z_hA 195 14 17 18 0 1 := ⟨rfl, rfl, rfl, rfl, by decide +kernel⟩
set_option maxRecDepth 100000 in
theorem z_hx_196 : z_hA 196 10 13 18 0 1 := ⟨rfl, rfl, rfl, rfl, by decide +kernel⟩
set_option maxRecDepth 100000 in
theorem z_hx_197 : z_hA 197 12 15 18 0 1 := ⟨rfl, rfl, rfl, rfl, by decide +kernel⟩
set_option maxRecDepth 100000 in
theorem z_hx_198 : z_hA 198 10 13 18 0 1 := ⟨rfl, rfl, rfl, rfl, by decide +kernel⟩
set_option maxRecDepth 100000 in
theorem z_hx_199 : z_hA 199 12 15 18 0 1 := ⟨rfl, rfl, rfl, rfl, by decide +kernel⟩
set_option maxRecDepth 100000 in
theorem z_hx_200 : z_hA 200 19 22 18 0 1 := ⟨rfl, rfl, rfl, rfl, by decide +kernel⟩
set_option maxRecDepth 100000 in
theorem z_hx_201 : z_hA 201 12 15 18 0 1 := ⟨rfl, rfl, rfl, rfl, by decide +kernel⟩
set_option maxRecDepth 100000 in
theorem z_hx_202 : z_hA 202 14 17 18 0 1 := ⟨rfl, rfl, rfl, rfl, by decide +kernel⟩
set_option maxRecDepth 100000 in
theorem z_hx_203 : z_hA 203 9 12 18 0 1 := ⟨rfl, rfl, rfl, rfl, by decide +kernel⟩
set_option maxRecDepth 100000 in
theorem z_hx_204 : z_hA 204 10 13 18 0 1 := ⟨rfl, rfl, rfl, rfl, by decide +kernel⟩
set_option maxRecDepth 100000 in
theorem z_hx_205 : z_hA 205 12 15 18 0 1 := ⟨rfl, rfl, rfl, rfl, by decide +kernel⟩
set_option maxRecDepth 100000 in
theorem z_hx_206 : z_hA 206 9 12 18 0 1 := ⟨rfl, rfl, rfl, rfl, by decide +kernel⟩
set_option maxRecDepth 100000 in
theorem z_hx_207 : z_hA 207 12 15 18 0 1 := ⟨rfl, rfl, rfl, rfl, by decide +kernel⟩
set_option maxRecDepth 100000 in
theorem z_hx_208 : z_hA 208 9 12 18 0 1 := ⟨rfl, rfl, rfl, rfl, by decide +kernel⟩
set_option maxRecDepth 100000 in
theorem z_hx_209 : z_hA 209 19 22 18 0 1 := ⟨rfl, rfl, rfl, rfl, by decide +kernel⟩
set_option maxRecDepth 100000 in
theorem z_hx_210 : z_hC 210 10 13 17 1 2 := ⟨rfl, rfl, rfl, rfl, by decide +kernel, by decide +kernel⟩
theorem z_iswN : (List.range 191).all (fun m => !(z_isw m)) = true := by decide +kernel
theorem z_shape {m : Nat} (hm : m < 211) (h : z_isw m = true) : (∃ b h v, z_hA m b h 18 0 v) ∨ (∃ b h v, z_hA m b h 13 1 v) ∨ ∃ b h h2 v v2, z_hC m b h h2 v v2 := by
  by_cases hlt : m < 191
  · have h9 := List.all_eq_true.mp z_iswN m (List.mem_range.mpr hlt)
    rw [h] at h9
    cases h9
  · have hc : m = 191 ∨ m = 192 ∨ m = 193 ∨ m = 194 ∨ m = 195 ∨ m = 196 ∨ m = 197 ∨ m = 198 ∨ m = 199 ∨ m = 200 ∨ m = 201 ∨ m = 202 ∨ m = 203 ∨ m = 204 ∨ m = 205 ∨ m = 206 ∨ m = 207 ∨ m = 208 ∨ m = 209 ∨ m = 210 := by omega
    rcases hc with rfl | rfl | rfl | rfl | rfl | rfl | rfl | rfl | rfl | rfl | rfl | rfl | rfl | rfl | rfl | rfl | rfl | rfl | rfl | rfl
    · exact Or.inr (Or.inl ⟨_, _, _, z_hx_191⟩)
    · exact Or.inl ⟨_, _, _, z_hx_192⟩
    · exact Or.inl ⟨_, _, _, z_hx_193⟩
    · exact Or.inl ⟨_, _, _, z_hx_194⟩
    · exact Or.inl ⟨_, _, _, z_hx_195⟩
    · exact Or.inl ⟨_, _, _, z_hx_196⟩
    · exact Or.inl ⟨_, _, _, z_hx_197⟩
    · exact Or.inl ⟨_, _, _, z_hx_198⟩
    · exact Or.inl ⟨_, _, _, z_hx_199⟩
    · exact Or.inl ⟨_, _, _, z_hx_200⟩
    · exact Or.inl ⟨_, _, _, z_hx_201⟩
    · exact Or.inl ⟨_, _, _, z_hx_202⟩
    · exact Or.inl ⟨_, _, _, z_hx_203⟩
    · exact Or.inl ⟨_, _, _, z_hx_204⟩
    · exact Or.inl ⟨_, _, _, z_hx_205⟩
    · exact Or.inl ⟨_, _, _, z_hx_206⟩
    · exact Or.inl ⟨_, _, _, z_hx_207⟩
    · exact Or.inl ⟨_, _, _, z_hx_208⟩
    · exact Or.inl ⟨_, _, _, z_hx_209⟩
    · exact Or.inr (Or.inr ⟨_, _, _, _, _, z_hx_210⟩)
noncomputable def z_tbm (w : Cond) : Bool := decide (w ∈ lw_tbl) && goodWord w
theorem z_tbm_ok {w : Cond} (h : z_tbm w = true) : w ∈ z_tb := by
  simp only [z_tbm, Bool.and_eq_true, decide_eq_true_eq] at h
  exact List.mem_filter.mpr h
theorem z_cl18 : Cond.classLink "SlipRoomLaw" 18 (z_en 0) ∈ z_tb := z_tbm_ok (by decide +kernel)
theorem z_cl13 : Cond.classLink "SlipRoomLaw" 13 (z_en 1) ∈ z_tb := z_tbm_ok (by decide +kernel)
theorem z_ca0 : Cond.castable (z_en 0) (z_en 0) ∈ z_dw := List.mem_filter.mpr ⟨by decide +kernel, rfl⟩
theorem z_ca1 : Cond.castable (z_en 1) (z_en 1) ∈ z_dw := List.mem_filter.mpr ⟨by decide +kernel, rfl⟩
section ZG
variable {p : Program} {l : Launch} {e : Env} {R : Room} {s : State} {m : MethodId} {args : Array Value} {below : List Frame} {meth : Method} {c : Code} {Q : State → Prop} {B : Nat} {D : va_G} {ρ : Nat → Nat} {cA : Nat → ClassId} {nL : Nat}
variable {cc : ByteArray} {pc z len : Nat} {L : z_Lo} {st r : List Value} {S S1 : z_St} {own : String} {dd : Nat} {rt : Option FieldType} {o : z_Out} {mc : Nat}
theorem z_row0 (hctx : z_Ctx p l R s m args c B D ρ cA nL cc own dd) {b h : Nat} (hp : pc < b) : z_Row "SlipRoomLaw" (z_en 0) args s pc true ⟨0, b, h, 18⟩ := by
  obtain ⟨hx, hb, hml, hown, hts, hE, hAp, hRf, hRl⟩ := hctx
  obtain ⟨k, t, h1, h2, h3⟩ := Cond.castable_spec (va_Nw.use (A := args) rfl (hE.2.2.2.2.2.2 _ z_ca0))
  exact ⟨by simp [covers, hp], Nat.succ_ne_zero _, z_en 0, hts _ z_cl18, k, t, h1, h2, h3⟩
theorem z_row1 (hctx : z_Ctx p l R s m args c B D ρ cA nL cc own dd) {b h : Nat} (hp : pc < b) : z_Row "SlipRoomLaw" (z_en 1) args s pc true ⟨0, b, h, 13⟩ := by
  obtain ⟨hx, hb, hml, hown, hts, hE, hAp, hRf, hRl⟩ := hctx
  obtain ⟨k, t, h1, h2, h3⟩ := Cond.castable_spec (va_Nw.use (A := args) rfl (hE.2.2.2.2.2.2 _ z_ca1))
  exact ⟨by simp [covers, hp], Nat.succ_ne_zero _, z_en 1, hts _ z_cl13, k, t, h1, h2, h3⟩
theorem z_row2 (hctx : z_Ctx p l R s m args c B D ρ cA nL cc own dd) {b h : Nat} (hp : pc < b) : z_Row "SlipRoomLaw" (z_en 1) args s pc false ⟨0, b, h, 18⟩ := by
  obtain ⟨hx, hb, hml, hown, hts, hE, hAp, hRf, hRl⟩ := hctx
  exact ⟨by simp [covers, hp], Nat.succ_ne_zero _, z_en 0, hts _ z_cl18, hE.2.2.2.2.2.1⟩
/-- a callee's throw where the small method runs: caught -/
theorem z_xoW {mm : Nat} (hctx : z_Ctx p l R s m args c B D ρ cA (z_m mm).2.2.1 (z_m mm).2.1 "SlipRoomLaw" dd) (htab : c.exceptionTable.toList = tableOf (z_hh.getD mm [])) (hr : meth.sig.returnType = some .int) (hlocks : meth.locks = false) (hRc : 1 ≤ R.cells ∧ 6 ≤ R.slots ∧ 1 ≤ mc)
    (hsh : (∃ b h v, z_hA mm b h 18 0 v) ∨ (∃ b h v, z_hA mm b h 13 1 v) ∨ ∃ b h h2 v v2, z_hC mm b h h2 v v2) {v0 : Option Value} (hpc : ∀ b, z_vbm mm = some b → pc < b) : z_Xo p l e R s m args below meth c (z_MQ B D ρ cA (.inl v0) S1 below args s mc) B D ρ cA (z_m mm).2.2.1 (z_m mm).2.2.2.2.2 (.inl v0, S1) pc L := by
  obtain ⟨hx, hb, hml, hown, hts, hE, hAp, hRf, hRl⟩ := id hctx
  intro ee S2 h
  refine ⟨hRc.1, hRc.2.1, fun ls H locs q ce rest hl hw hc hv hcl => ?_⟩
  rcases hsh with ⟨b, hp, v, -, -, hh, hd, hok⟩ | ⟨b, hp, v, -, -, hh, hd, hok⟩ | ⟨b, hp, hp2, v, v2, -, -, hh, hd, hok, hok2⟩
  · have hpb : pc < b := hpc b (by unfold z_vbm; rw [hh])
    rw [hd] at h
    rw [hh] at htab
    by_cases h0 : ee = 0
    · subst h0
      have h2 : (.inl (some (.int v)), S2) = ((.inl v0 : z_Out), S1) := Option.some.inj h
      cases h2
      exact z_catch hown [] ⟨0, b, hp, 18⟩ [] htab (fun y hy => by cases hy) (z_row0 hctx hpb) hc hv hcl (z_hc_ok hx hb hr hlocks hok hl hw hRc.2.2 (by omega))
    · simp [z_hnd, Ne.symm h0] at h
  · have hpb : pc < b := hpc b (by unfold z_vbm; rw [hh])
    rw [hd] at h
    rw [hh] at htab
    by_cases h0 : ee = 1
    · subst h0
      have h2 : (.inl (some (.int v)), S2) = ((.inl v0 : z_Out), S1) := Option.some.inj h
      cases h2
      exact z_catch hown [] ⟨0, b, hp, 13⟩ [] htab (fun y hy => by cases hy) (z_row1 hctx hpb) hc hv hcl (z_hc_ok hx hb hr hlocks hok hl hw hRc.2.2 (by omega))
    · simp [z_hnd, Ne.symm h0] at h
  · have hpb : pc < b := hpc b (by unfold z_vbm; rw [hh])
    rw [hd] at h
    rw [hh] at htab
    by_cases h0 : ee = 0
    · subst h0
      have h2 : (.inl (some (.int v)), S2) = ((.inl v0 : z_Out), S1) := Option.some.inj h
      cases h2
      exact z_catch hown [] ⟨0, b, hp, 18⟩ [⟨0, b, hp2, 13⟩] htab (fun y hy => by cases hy) (z_row0 hctx hpb) hc hv hcl (z_hc_ok hx hb hr hlocks hok hl hw hRc.2.2 (by omega))
    · by_cases h1 : ee = 1
      · subst h1
        have h2 : (.inl (some (.int v2)), S2) = ((.inl v0 : z_Out), S1) := Option.some.inj h
        cases h2
        exact z_catch hown [⟨0, b, hp, 18⟩] ⟨0, b, hp2, 13⟩ [] htab (fun y hy => by rw [List.mem_singleton.mp hy]; exact z_row2 hctx hpb) (z_row1 hctx hpb) hc hv hcl (z_hc_ok hx hb hr hlocks hok2 hl hw hRc.2.2 (by omega))
      · simp [z_hnd, Ne.symm h0, Ne.symm h1] at h
end ZG
/-- what the texts' own methods owe -/
def z_Str (l : Launch) (B : Nat) (D : va_G) (ρ : Nat → Nat) (cA : Nat → ClassId) : Prop := ∀ (p : Program) (e : Env) (R : Room) (s : State) (m : MethodId) (args : Array Value) (below : List Frame) (meth : Method) (c : Code) (Q : State → Prop) (nL : Nat) (cc : ByteArray) (own : String) (dd : Nat), z_Ctx p l R s m args c B D ρ cA nL cc own dd →
  ∀ pc ix, decode cc pc = .ok (.invokevirtual ix, 3) → (Cond.methodLink own ix z_sLen ∈ z_tb → z_So1 p l e R s m args below meth c Q B D ρ cA nL pc) ∧ (Cond.methodLink own ix z_sCh ∈ z_tb → z_So2 p l e R s m args below meth c Q B D ρ cA nL pc)
def z_IH (l : Launch) (B : Nat) (D : va_G) (ρ : Nat → Nat) (cA : Nat → ClassId) (d : Nat) : Prop := ∀ m' as S o S1, m' < 211 → m' ≠ 187 → m' ≠ 188 → (z_isw m' = true → ∃ v, o = .inl v) → z_ew d m' as S = some (o, S1) → z_C l B D ρ cA d m' as S o S1
def z_Mx (d : Nat) : Prop := (∀ as S o S1, as.length = 2 → z_ew d 187 as S = some (o, S1) → ∃ x y, as = [.int x, .int y] ∧ o = .inl (some (.int (if x < y then y else x))) ∧ S1 = S) ∧ (∀ as S o S1, as.length = 2 → z_ew d 188 as S = some (o, S1) → ∃ x y, as = [.int x, .int y] ∧ o = .inl (some (.int (if y < x then y else x))) ∧ S1 = S)
section ZB
variable {p : Program} {l : Launch} {e : Env} {s s₁ : State} {m0 : MethodId} {args : Array Value} {below : List Frame} {meth : Method} {c : Code} {B : Nat} {D : va_G} {ρ : Nat → Nat} {cA : Nat → ClassId} {d m k : Nat} {as : List Value} {S S1 : z_St} {o : z_Out}
theorem z_body_ctx (hm : m < 211) (hAp : z_Ap B ρ) (Bd : BodyLoose p l (z_m m).1 (headSpec (z_ws m) (z_rm (d + 1) k)) (z_m m).2.1 (z_m m).2.2.1 (z_m m).2.2.2.1 e s m0 args below meth c s₁) (hml : c.maxLocals = (z_m m).2.2.1) (hP : z_Pc B D ρ cA as S args s) :
    z_Ctx p l (z_rm (d + 1) k) s m0 args c B D ρ cA (z_m m).2.2.1 (z_m m).2.1 (z_own.getD (z_m m).2.2.2.2.1 "") d := by
  have h9 := z_okMA m hm
  simp only [z_okM, Bool.and_eq_true, decide_eq_true_eq] at h9
  have hts0 : ∀ w ∈ z_ws m, w.before args s = true := atoms_spec (ws := z_ws m) Bd.pre
  refine ⟨Bd.exec, Bd.bytes, hml, ?_, fun w hw => hts0 w (List.mem_cons_of_mem _ hw), hP.2.1, hAp, by simp only [z_rm]; omega, by simp only [z_rm]; omega⟩
  rw [← h9.2]
  exact findClass_of_methodNamed Bd.named
theorem z_body (hm : m < 211) (hAp : z_Ap B ρ) (hStr : z_Str l B D ρ cA) (hIH : z_IH l B D ρ cA d) (hMx : z_Mx d) (hfit : (z_sl as).length ≤ (z_m m).2.2.1) (hrun : z_run false (z_m m).2.2.2.1 (z_m m).2.2.2.2.2 (z_ew d) (z_bs.getD m []) z_fuel 0 0 (z_in (z_m m).2.2.1 as) [] S = some (o, S1))
    (Bd : BodyLoose p l (z_m m).1 (headSpec (z_ws m) (z_rm (d + 1) k)) (z_m m).2.1 (z_m m).2.2.1 (z_m m).2.2.2.1 e s m0 args below meth c s₁) (hml : c.maxLocals = (z_m m).2.2.1) (hP : z_Pc B D ρ cA as S args s)
    (hXo : ∀ pc L, (∀ b, z_vbm m = some b → pc < b) → z_Xo p l e (z_rm (d + 1) k) s m0 args below meth c (z_MQ B D ρ cA o S1 below args s k) B D ρ cA (z_m m).2.2.1 (z_m m).2.2.2.2.2 (o, S1) pc L)
    (hTh : ∀ pc len ee ops L, z_okT (z_m m).2.1 (z_own.getD (z_m m).2.2.2.2.1 "") pc len (ee :: ops) = true → o = .inr ee → z_J p l e (z_rm (d + 1) k) s m0 args below meth c (z_MQ B D ρ cA o S1 below args s k) B D ρ cA (z_m m).2.2.1 pc 0 L [] S1) :
    W p l e (z_rm (d + 1) k) s m0 args below meth c s.heap [] 0 0 (z_MQ B D ρ cA o S1 below args s k) (entryFrame m0 args (z_m m).2.2.1) := by
  have hctx := z_body_ctx hm hAp Bd hml hP
  obtain ⟨hx, hb, hml, hown, hts, hE, -, hRf, hRl⟩ := id hctx
  have hr : meth.sig.returnType = (z_m m).2.2.2.1 := Bd.returns
  have hlocks : meth.locks = false := Bd.notSynchronized
  have hRd : z_Rd p l e (z_rm (d + 1) k) s m0 args below meth c (z_MQ B D ρ cA o S1 below args s k) B D ρ cA (z_m m).2.2.1 (z_m m).2.1 (z_own.getD (z_m m).2.2.2.2.1 "") d 0 (fun _ => 0) (z_vbm m) false (z_m m).2.2.2.1 (z_m m).2.2.2.2.2 (z_ew d) (o, S1) := by
    refine ⟨fun q => Bool.noConfusion q, fun q => Bool.noConfusion q, hIH, hMx.1, hMx.2, fun m' as S o S1 h1 h2 => z_fr_ew d m' as S o S1 h1 h2, fun _ pc L h => hXo pc L h, hStr p e _ s m0 args below meth c _ _ _ _ d hctx, ?_, ?_, ?_, ?_⟩
    · intro pc z L S2 x hz hd hrb ho
      obtain rfl := hz.1 rfl
      cases ho
      exact z_endI hx hb hr hlocks hrb hd
    · intro _ pc L S2 x hd hrf ho
      cases ho
      exact z_endA hx hb hr hlocks hrf hd
    · intro _ pc L S2 hd hn ho
      cases ho
      exact z_endV hx hb (hr.trans hn) hlocks hd
    · intro _ pc len ee ops L S2 ht ho
      cases ho
      exact hTh pc len ee ops L ht rfl
  have hJ := z_run_ok hctx hRd (z_okb m hm) (z_xM_ok (Nat.lt_succ_of_lt hm)) _ 0 0 _ [] S ⟨fun _ => rfl, Nat.zero_le _⟩ (fun q => by cases q) hrun
  have hargs : args = (as.map (z_v ρ)).toArray := hP.1
  subst hargs
  rw [lg_entry_eq]
  have hl := lv_entry (as.map (z_v ρ)) (n := (z_m m).2.2.1) (by rw [z_sl_len]; exact hfit)
  exact hJ _ s.heap [] (z_in_lr hl) ⟨hP.2.2, va_S.rf⟩
end ZB
theorem z_wNot : (List.range 211).all (fun m => !(z_isw m) || !(decide (z_own.getD (z_m m).2.2.2.2.1 "" = "SlipRoom"))) = true := by decide +kernel
theorem z_okT_own {cc : ByteArray} {own : String} {pc len : Nat} {ops : List Nat} (h : z_okT cc own pc len ops = true) : own = "SlipRoom" := by
  unfold z_okT at h
  split at h
  · simp only [Bool.and_eq_true, decide_eq_true_eq] at h
    exact h.1.1.1.1.1.1.2
  · cases h
theorem z_ew_ok {l : Launch} (hl0 : l.stackTraces = false) {B : Nat} {D : va_G} {ρ : Nat → Nat} {cA : Nat → ClassId} (hAp : z_Ap B ρ) (hStr : z_Str l B D ρ cA) (hMx : ∀ d, z_Mx d) : ∀ d, z_IH l B D ρ cA d
  | 0 => fun m as S o S1 _ _ _ _ h => by cases h
  | d + 1 => fun m as S o S1 hm h7 h8 hw h => by
    have hIH := z_ew_ok hl0 hAp hStr hMx d
    unfold z_ew at h
    have hz9 := z_cnd h
    clear h
    obtain ⟨hfit, h⟩ := hz9
    have hfit2 := Nat.le_of_ble_eq_true hfit
    obtain ⟨hin, hy, hpar, hL30, hpl0⟩ := z_okM_ok hm
    have hpl : plainName (z_m m).1.cls = true := hpl0.elim id (fun q => q.elim (fun q => absurd q h7) (fun q => absurd q h8))
    cases hiw : z_isw m with
    | false =>
      have hd0 : (z_m m).2.2.2.2.2 = [] := by
        unfold z_isw at hiw
        cases hq : (z_m m).2.2.2.2.2 with
        | nil => rfl
        | cons a b => rw [hq] at hiw; cases hiw
      unfold z_C
      rw [hiw]
      refine vx_ofW hpl (z_ws_code hiw) (fun p e s m0 args below meth c s₁ Bd hml htab hP => ?_)
      have hk : ∀ ee, o = .inr ee → 1 ≤ (z_rm (d + 1) (z_mcz false o)).cells ∧ 6 ≤ (z_rm (d + 1) (z_mcz false o)).slots ∧ 1 ≤ z_mcz false o := by
        intro ee he
        subst he
        simp [z_rm, z_mcz]
      refine z_body hm hAp hStr hIH (hMx d) hfit2 h Bd hml hP (fun pc L _ => ?_) (fun pc len ee ops L ht ho => ?_)
      · rw [hd0]
        exact z_endX htab Bd.notSynchronized hk
      · subst ho
        exact z_endT (z_body_ctx hm hAp Bd hml hP) hl0 htab Bd.notSynchronized ⟨(hk ee rfl).1, (hk ee rfl).2.1⟩ (hk ee rfl).2.2 ht
    | true =>
      obtain ⟨v0, rfl⟩ := hw hiw
      have hsh := z_shape hm hiw
      have hoI : z_own.getD (z_m m).2.2.2.2.1 "" = "SlipRoomLaw" ∧ (z_m m).2.2.2.1 = some .int := by
        rcases hsh with ⟨_, _, _, h1, h2, -⟩ | ⟨_, _, _, h1, h2, -⟩ | ⟨_, _, _, _, _, h1, h2, -⟩ <;> exact ⟨h1, h2⟩
      unfold z_C
      rw [hiw]
      refine vx_ofWH hpl (z_ws_codeW hiw) (fun p e s m0 args below meth c s₁ Bd hml hP => ?_)
      have hts0 : ∀ w ∈ z_ws m, w.before args s = true := atoms_spec (ws := z_ws m) Bd.pre
      have htab := vx_table (x := (z_m m).1) Bd (hts0 _ (by rw [z_ws_codeW hiw]; exact List.mem_cons_self))
      have hctx := z_body_ctx hm hAp Bd hml hP
      rw [hoI.1] at hctx
      refine z_body hm hAp hStr hIH (hMx d) hfit2 h Bd hml hP (fun pc L hpc => ?_) (fun pc len ee ops L ht ho => ?_)
      · exact z_xoW hctx htab (Bd.returns.trans hoI.2) Bd.notSynchronized (by simp [z_rm, z_mcz]) hsh hpc
      · have := z_okT_own ht
        rw [hoI.1] at this
        exact absurd this (by decide)
end
section
/-! the texts' own methods: length and the sign at a place -/
noncomputable def z_cj (y : MethodName) (bytes : ByteArray) (maxL : Nat) (ret : Option FieldType) : List Cond := Cond.code y bytes maxL ret :: z_tb
def z_rj (k : Nat) : Room := { frames := k, cells := 0, slots := 0, locals := 50 * k }
def z_CJ (l : Launch) (B : Nat) (D : va_G) (ρ : Nat → Nat) (cA : Nat → ClassId) (d : Nat) (y : MethodName) (bytes : ByteArray) (maxL : Nat) (ret : Option FieldType) (as : List Value) (S : z_St) (o : z_Out) : Prop :=
  vx_Met l y (z_cj y bytes maxL ret) (z_rj d) (z_Pc B D ρ cA as S) (z_Qr B D ρ cA o S) (z_Qx B D ρ cA o S) 0 0 (fun q => B ≤ q)
/-- around a body of theirs -/
def z_Cx (p : Program) (R : Room) (s : State) (m : MethodId) (args : Array Value) (c : Code) (B : Nat) (D : va_G) (ρ : Nat → Nat) (cA : Nat → ClassId) (nL : Nat) (cc : ByteArray) (own : String) (k : Nat) : Prop :=
  p.tables.exec = Jvm.exec ∧ c.code = cc ∧ c.maxLocals = nL ∧ s.vm.findClass own = some m.cls ∧ (∀ w ∈ z_tb, w.before args s = true) ∧ z_Env B D cA ρ s ∧ k + 1 ≤ R.frames ∧ 50 * k + 50 ≤ R.locals
section ZY
variable {p : Program} {l : Launch} {e : Env} {R : Room} {s : State} {m : MethodId} {args : Array Value} {below : List Frame} {meth : Method} {c : Code} {Q : State → Prop} {B : Nat} {D : va_G} {ρ : Nat → Nat} {cA : Nat → ClassId} {nL : Nat}
variable {cc : ByteArray} {pc z : Nat} {L : z_Lo} {st r : List Value} {S : z_St} {own : String} {dd : Nat}
variable {y : MethodName} {bytes : ByteArray} {maxL : Nat} {ret : Option FieldType} {v : Option Value} {as : List Value}
theorem zk_S (hctx : z_Cx p R s m args c B D ρ cA nL cc own dd) (hC : z_CJ l B D ρ cA dd y bytes maxL ret as S (.inl v)) {i : Nat} (hcode : Cond.code y bytes maxL ret ∈ z_tb) (hin : Cond.initialized y.cls ∈ z_tb) (hl : Cond.methodLink own i y ∈ z_tb) (hs : Cond.static y ∈ z_tb)
    (hy : y.cls ≠ "java/lang/invoke/MethodHandle" ∧ y.cls ≠ "java/lang/invoke/VarHandle") (hpar : (parseMethodDescriptor y.desc).map (fun d => d.parameters.length) = some as.length) (hL30 : maxL ≤ 30) (hr8 : z_cs r ≤ 8) (hd : decode cc pc = .ok (.invokestatic i, 3)) (hcell : z ≤ R.cells ∧ 6 * z ≤ R.slots)
    (hgo : z_J p l e R s m args below meth c Q B D ρ cA nL (pc + 3) z L (v.toList ++ r) S) : z_J p l e R s m args below meth c Q B D ρ cA nL pc z L (as.reverse ++ r) S := by
  obtain ⟨hx, hb, hml, hown, hts, hE, hRf, hRl⟩ := hctx
  have hws : ∀ w ∈ z_cj y bytes maxL ret, w ∈ z_tb := fun w hw => (List.mem_cons.mp hw).elim (fun q => by rw [q]; exact hcode) id
  refine zj_call (mc := 0) (o := .inl v) (S' := S) (a := (as.map (z_v ρ)).toArray) (rest := r) (fun ls H locs hls hw => ?_) (fun w hw => ?_) (fun ee he => by cases he)
  · exact vx_runS (As := as.map (z_v ρ)) (Ts := z_tb) (own := own) (index := i) (y := y) (bytes := bytes) (maxL := maxL) (ret := ret) (ws := z_cj y bytes maxL ret) ⟨hx, hb, hml, hown, hts⟩ hC ⟨callB_of as.length hts (z_goodIn hws) rfl rfl rfl (hts _ hin) (hts _ hl) ⟨hy.1, hy.2, hpar⟩ ⟨by simp only [z_rj]; omega, by simp only [z_rj]; omega⟩, hts _ hs⟩ ⟨z_Pc.blind, hw.pre hE⟩ rfl (by simp) hls.1 (by simp) (z_hWs hr8) hd hcell
  · cases hw
    exact hgo
theorem zk_V (hctx : z_Cx p R s m args c B D ρ cA nL cc own dd) {a i : Nat} (hC : z_CJ l B D ρ cA dd y bytes maxL ret (.ref a :: as) S (.inl v)) (hcode : Cond.code y bytes maxL ret ∈ z_tb) (hin : Cond.initialized y.cls ∈ z_tb) (hl : Cond.methodLink own i y ∈ z_tb) (hs : Cond.instanceMethod y ∈ z_tb) (hse : Cond.selects y.cls y y ∈ z_tb) (hcl : y.cls = "java/lang/String")
    (hpar : (parseMethodDescriptor y.desc).map (fun d => d.parameters.length) = some as.length) (hL30 : maxL ≤ 30) {j : Nat} (hj : j < 17) (ha : a = 1200 + j) (hr8 : z_cs r ≤ 8) (hd : decode cc pc = .ok (.invokevirtual i, 3)) (hcell : z ≤ R.cells ∧ 6 * z ≤ R.slots)
    (hgo : z_J p l e R s m args below meth c Q B D ρ cA nL (pc + 3) z L (v.toList ++ r) S) : z_J p l e R s m args below meth c Q B D ρ cA nL pc z L ((.ref a :: as).reverse ++ r) S := by
  obtain ⟨hx, hb, hml, hown, hts, hE, hRf, hRl⟩ := hctx
  subst ha
  have hws : ∀ w ∈ wsV own i y.cls y (z_cj y bytes maxL ret), w ∈ z_tb := by
    intro w hw
    unfold wsV at hw
    rcases List.mem_append.mp hw with h | h
    · simp only [List.mem_cons, List.not_mem_nil, or_false] at h
      rcases h with rfl | rfl | rfl | rfl
      · exact hl
      · exact hs
      · exact hse
      · exact hin
    · exact (List.mem_cons.mp h).elim (fun q => by rw [q]; exact hcode) id
  refine zj_call (mc := 0) (o := .inl v) (S' := S) (a := ((.ref (1200 + j) :: as).map (z_v ρ)).toArray) (rest := r) (fun ls H locs hls hw => ?_) (fun w hw => ?_) (fun ee he => by cases he)
  · exact vx_runV (As := as.map (z_v ρ)) (b := ρ (1200 + j)) (C := y.cls) (Ts := z_tb) (own := own) (index := i) (y := y) (bytes := bytes) (maxL := maxL) (ret := ret) (ws := z_cj y bytes maxL ret) ⟨hx, hb, hml, hown, hts⟩ hC (cwV as.length hts (z_goodIn hws) rfl rfl rfl ⟨rfl, by rw [hcl]; decide, by rw [hcl]; decide, hpar⟩ ⟨by simp only [z_rj]; omega, by simp only [z_rj]; omega⟩) ⟨z_Pc.blind, by rw [hcl]; exact vk_recv (adK := fun i => ρ (1200 + i)) (i := j) hE.2.2.1.2.2.2.2.2.2.2.1 hj hw.2, hw.pre hE⟩ rfl (by simp) hls.1 (by simp [z_v]) (z_hWs hr8) hd hcell
  · cases hw
    exact hgo
/-- fields of texts; statics -/
theorem zj_getO (hx : p.tables.exec = Jvm.exec) (hb : c.code = cc) {n d : String} {i a : Nat} {v : Value} (hF : va_OF "java/lang/String" n d (z_v ρ v) (ρ a) (fun q => B ≤ q) s s.heap) (hown : s.vm.findClass own = some m.cls) (hlink : (Cond.fieldLink own i "java/lang/String" n d).before args s = true) (hd : decode cc pc = .ok (.getfield i, 3)) (h : z_J p l e R s m args below meth c Q B D ρ cA nL (pc + 3) z L (v :: r) S) : z_J p l e R s m args below meth c Q B D ρ cA nL pc z L (.ref a :: r) S := fun ls H locs hl hw =>
  vk_getf hx hb hF hw.2 hown hlink (fun _ h9 => h9) hd (h ls H locs hl hw)
theorem zj_getS (hx : p.tables.exec = Jvm.exec) (hb : c.code = cc) {C n d : String} {i : Nat} {v : Value} (hZ : va_Z C n d (z_v ρ v) (fun q => B ≤ q) s s.heap) (hown : s.vm.findClass own = some m.cls) (hlink : (Cond.fieldLink own i C n d).before args s = true) (hd : decode cc pc = .ok (.getstatic i, 3)) (h : z_J p l e R s m args below meth c Q B D ρ cA nL (pc + 3) z L (v :: st) S) : z_J p l e R s m args below meth c Q B D ρ cA nL pc z L st S := fun ls H locs hl hw =>
  va_gets hx hb hZ hw.2 hown hlink (fun _ h9 => h9) hd (h ls H locs hl hw)
theorem zj_pop (hx : p.tables.exec = Jvm.exec) (hb : c.code = cc) {v : Value} (hc : v.category = 1) (hd : decode cc pc = .ok (.pop, 1)) (h : z_J p l e R s m args below meth c Q B D ρ cA nL (pc + 1) z L r S) : z_J p l e R s m args below meth c Q B D ρ cA nL pc z L (v :: r) S := fun ls H locs hl hw => lv_pop hx hb hd (by rw [z_vcat]; exact hc) (h ls H locs hl hw)
theorem zj_i2c (hx : p.tables.exec = Jvm.exec) (hb : c.code = cc) {x w : Int32} (hv : (x.toUInt32 % 65536).toInt32 = w) (hd : decode cc pc = .ok (.i2c, 1)) (h : z_J p l e R s m args below meth c Q B D ρ cA nL (pc + 1) z L (.int w :: r) S) : z_J p l e R s m args below meth c Q B D ρ cA nL pc z L (.int x :: r) S := fun ls H locs hl hw => lv_i2c hx hb hd hv (h ls H locs hl hw)
/-- the law of a body -/
theorem z_jbody {d : Nat} (hpl : plainName y.cls = true) (hfit : (z_sl as).length ≤ maxL)
    (body : ∀ (p : Program) (e : Env) (s : State) (m : MethodId) (args : Array Value) (below : List Frame) (meth : Method) (c : Code), z_Cx p (z_rj (d + 1)) s m args c B D ρ cA maxL bytes y.cls d → meth.sig.returnType = ret → meth.locks = false → z_J p l e (z_rj (d + 1)) s m args below meth c (z_MQ B D ρ cA (.inl v) S below args s 0) B D ρ cA maxL 0 0 (z_in maxL as) [] S) : z_CJ l B D ρ cA (d + 1) y bytes maxL ret as S (.inl v) := by
  refine vx_ofW hpl rfl (fun p e s m0 args below meth c s₁ Bd hml htab hP => ?_)
  have hts0 : ∀ w ∈ z_cj y bytes maxL ret, w.before args s = true := atoms_spec (ws := z_cj y bytes maxL ret) Bd.pre
  have hctx : z_Cx p (z_rj (d + 1)) s m0 args c B D ρ cA maxL bytes y.cls d := ⟨Bd.exec, Bd.bytes, hml, findClass_of_methodNamed Bd.named, fun w hw => hts0 w (List.mem_cons_of_mem _ hw), hP.2.1, by simp only [z_rj]; omega, by simp only [z_rj]; omega⟩
  have hJ := body p e s m0 args below meth c hctx Bd.returns Bd.notSynchronized
  have hargs : args = (as.map (z_v ρ)).toArray := hP.1
  subst hargs
  rw [lg_entry_eq]
  have hl := lv_entry (as.map (z_v ρ)) (n := maxL) (by rw [z_sl_len]; exact hfit)
  exact hJ _ s.heap [] (z_in_lr hl) ⟨hP.2.2, va_S.rf⟩
/-- an end with a number of any kind -/
theorem z_endN (hx : p.tables.exec = Jvm.exec) (hb : c.code = cc) {ty : FieldType} (hr : meth.sig.returnType = some ty) (hlocks : meth.locks = false) {x : Int32} (hn : narrow ty (.int x) = .int x) (hd : decode cc pc = .ok (.ireturn, 1)) {mc : Nat} : z_J p l e R s m args below meth c (z_MQ B D ρ cA (.inl (some (.int x))) S below args s mc) B D ρ cA nL pc 0 L [.int x] S := fun ls H locs hl hw =>
  vx_ret (z_wide (Nat.zero_le _) (Nat.zero_le _) (W.zret hx hb hr hn hw.q hw.2.2.2 hd hlocks))
theorem zj_tlen (hx : p.tables.exec = Jvm.exec) (hb : c.code = cc) (hE : z_Env B D cA ρ s) {j : Nat} (hj : j < 17) (hd : decode cc pc = .ok (.arraylength, 1)) (h : z_J p l e R s m args below meth c Q B D ρ cA nL (pc + 1) z L (.int (nI ((z_tx.map List.length).getD j 0)) :: r) S) : z_J p l e R s m args below meth c Q B D ρ cA nL pc z L (.ref (1250 + j) :: r) S := fun ls H locs hl hw =>
  va_tlen hx hb (hE.2.2.1.2.2.2.2.2.2.2.1.1 j hj).2.2.2 hw.2 rfl hd (h ls H locs hl hw)
theorem zj_tb (hx : p.tables.exec = Jvm.exec) (hb : c.code = cc) (hE : z_Env B D cA ρ s) {j : Nat} (hj : j < 17) {x : Int32} (hi : z_ix x ((z_tx.map List.length).getD j 0) = true) (hd : decode cc pc = .ok (.baload, 1)) (h : z_J p l e R s m args below meth c Q B D ρ cA nL (pc + 1) z L (.int ((z_tx.getD j []).getD x.toNatClampNeg 0) :: r) S) : z_J p l e R s m args below meth c Q B D ρ cA nL pc z L (.int x :: .ref (1250 + j) :: r) S := fun ls H locs hl hw =>
  va_tb hx hb (hE.2.2.1.2.2.2.2.2.2.2.1.1 j hj).2.2.2 hw.2 (z_ixin hi) rfl hd (h ls H locs hl hw)
end ZY
def z_yc : MethodName := ⟨"java/lang/String", "coder", "()B"⟩
def z_yl : MethodName := ⟨"java/lang/String", "isLatin1", "()Z"⟩
def z_yk : MethodName := ⟨"jdk/internal/util/Preconditions", "checkIndex", "(IILjava/util/function/BiFunction;)I"⟩
def z_yi : MethodName := ⟨"java/lang/String", "checkIndex", "(II)V"⟩
def z_y1 : MethodName := ⟨"java/lang/StringLatin1", "charAt", "([BI)C"⟩
theorem z_jw1 : Cond.fieldLink "java/lang/String" 38 "java/lang/String" "COMPACT_STRINGS" "Z" ∈ z_tb := z_tbm_ok (by decide +kernel)
theorem z_jw2 : Cond.fieldLink "java/lang/String" 15 "java/lang/String" "coder" "B" ∈ z_tb := z_tbm_ok (by decide +kernel)
theorem z_jw3 : Cond.fieldLink "java/lang/String" 9 "java/lang/String" "value" "[B" ∈ z_tb := z_tbm_ok (by decide +kernel)
theorem z_jw4 : Cond.fieldLink "java/lang/String" 1053 "jdk/internal/util/Preconditions" "SIOOBE_FORMATTER" "Ljava/util/function/BiFunction;" ∈ z_tb := z_tbm_ok (by decide +kernel)
theorem z_jwC : Cond.code z_yc prog_23_method_152_code 1 (some .byte) ∈ z_tb ∧ Cond.initialized "java/lang/String" ∈ z_tb ∧ Cond.methodLink "java/lang/String" 335 z_yc ∈ z_tb ∧ Cond.instanceMethod z_yc ∈ z_tb ∧ Cond.selects z_yc.cls z_yc z_yc ∈ z_tb := ⟨z_tbm_ok (by decide +kernel), z_tbm_ok (by decide +kernel), z_tbm_ok (by decide +kernel), z_tbm_ok (by decide +kernel), z_tbm_ok (by decide +kernel)⟩
theorem z_jwL : Cond.code z_yl prog_23_method_154_code 1 (some .boolean) ∈ z_tb ∧ Cond.methodLink "java/lang/String" 492 z_yl ∈ z_tb ∧ Cond.instanceMethod z_yl ∈ z_tb ∧ Cond.selects z_yl.cls z_yl z_yl ∈ z_tb := ⟨z_tbm_ok (by decide +kernel), z_tbm_ok (by decide +kernel), z_tbm_ok (by decide +kernel), z_tbm_ok (by decide +kernel)⟩
theorem z_jwK : Cond.code z_yk prog_32_method_11_code 3 (some .int) ∈ z_tb ∧ Cond.initialized z_yk.cls ∈ z_tb ∧ Cond.methodLink "java/lang/String" 1059 z_yk ∈ z_tb ∧ Cond.static z_yk ∈ z_tb := ⟨z_tbm_ok (by decide +kernel), z_tbm_ok (by decide +kernel), z_tbm_ok (by decide +kernel), z_tbm_ok (by decide +kernel)⟩
theorem z_jwI : Cond.code z_yi prog_23_method_155_code 2 none ∈ z_tb ∧ Cond.methodLink "java/lang/StringLatin1" 9 z_yi ∈ z_tb ∧ Cond.static z_yi ∈ z_tb := ⟨z_tbm_ok (by decide +kernel), z_tbm_ok (by decide +kernel), z_tbm_ok (by decide +kernel)⟩
theorem z_jw5 : Cond.code z_y1 prog_24_method_2_code 2 (some .char) ∈ z_tb ∧ Cond.initialized z_y1.cls ∈ z_tb ∧ Cond.methodLink "java/lang/String" 495 z_y1 ∈ z_tb ∧ Cond.static z_y1 ∈ z_tb := ⟨z_tbm_ok (by decide +kernel), z_tbm_ok (by decide +kernel), z_tbm_ok (by decide +kernel), z_tbm_ok (by decide +kernel)⟩
theorem z_jw6 : Cond.code z_sLen prog_23_method_54_code 1 (some .int) ∈ z_tb ∧ Cond.instanceMethod z_sLen ∈ z_tb ∧ Cond.selects z_sLen.cls z_sLen z_sLen ∈ z_tb := ⟨z_tbm_ok (by decide +kernel), z_tbm_ok (by decide +kernel), z_tbm_ok (by decide +kernel)⟩
theorem z_jw7 : Cond.code z_sCh prog_23_method_56_code 2 (some .char) ∈ z_tb ∧ Cond.instanceMethod z_sCh ∈ z_tb ∧ Cond.selects z_sCh.cls z_sCh z_sCh ∈ z_tb := ⟨z_tbm_ok (by decide +kernel), z_tbm_ok (by decide +kernel), z_tbm_ok (by decide +kernel)⟩
theorem z_pk : (parseMethodDescriptor z_yk.desc).map (fun d => d.parameters.length) = some 3 := by decide +kernel
theorem z_pi : (parseMethodDescriptor z_yi.desc).map (fun d => d.parameters.length) = some 2 := by decide +kernel
theorem z_p1 : (parseMethodDescriptor z_y1.desc).map (fun d => d.parameters.length) = some 2 := by decide +kernel
theorem z_pc : (parseMethodDescriptor z_sCh.desc).map (fun d => d.parameters.length) = some 1 := by decide +kernel
section ZZ
variable {l : Launch} {B : Nat} {D : va_G} {ρ : Nat → Nat} {cA : Nat → ClassId} {S : z_St} {d j : Nat}
theorem z_coder (hj : j < 17) : z_CJ l B D ρ cA (d + 1) z_yc prog_23_method_152_code 1 (some .byte) [.ref (1200 + j)] S (.inl (some (.int 0))) := z_jbody (by decide +kernel) (by simp [z_sl]) (fun p e s m args below meth c hctx hr hlocks => by
  obtain ⟨hx, hb, hml, hown, hts, hE, hRf, hRl⟩ := id hctx
  refine zj_getS hx hb (v := .int 1) (i := 38) hE.2.2.1.2.2.2.2.2.2.2.2.1 hown (hts _ z_jw1) (by decide +kernel) ?_
  refine zj_if_eq hx hb (o := 10) (t := 13) (by decide +kernel) (by decide) (fun q => absurd q (by decide)) (fun _ => ?_)
  refine zj_aload_n hx hb (k := 0) (a := 1200 + j) (by decide +kernel) rfl ?_
  refine zj_getO hx hb (i := 15) (v := .int 0) (hE.2.2.1.2.2.2.2.2.2.2.1.1 j hj).2.1 hown (hts _ z_jw2) (by decide +kernel) ?_
  refine zj_goto hx hb (o := 4) (t := 14) (by decide +kernel) (by decide) ?_
  exact z_endN hx hb hr hlocks rfl (by decide +kernel))
theorem z_lat (hj : j < 17) : z_CJ l B D ρ cA (d + 1) z_yl prog_23_method_154_code 1 (some .boolean) [.ref (1200 + j)] S (.inl (some (.int 1))) := z_jbody (by decide +kernel) (by simp [z_sl]) (fun p e s m args below meth c hctx hr hlocks => by
  obtain ⟨hx, hb, hml, hown, hts, hE, hRf, hRl⟩ := id hctx
  refine zj_getS hx hb (v := .int 1) (i := 38) hE.2.2.1.2.2.2.2.2.2.2.2.1 hown (hts _ z_jw1) (by decide +kernel) ?_
  refine zj_if_eq hx hb (o := 14) (t := 17) (by decide +kernel) (by decide) (fun q => absurd q (by decide)) (fun _ => ?_)
  refine zj_aload_n hx hb (k := 0) (a := 1200 + j) (by decide +kernel) rfl ?_
  refine zj_getO hx hb (i := 15) (v := .int 0) (hE.2.2.1.2.2.2.2.2.2.2.1.1 j hj).2.1 hown (hts _ z_jw2) (by decide +kernel) ?_
  refine zj_if_ne hx hb (o := 7) (t := 17) (by decide +kernel) (by decide) (fun q => absurd rfl q) (fun _ => ?_)
  refine zj_iconst hx hb (n := 1) (by decide +kernel) rfl ?_
  refine zj_goto hx hb (o := 4) (t := 18) (by decide +kernel) (by decide) ?_
  exact z_endN hx hb hr hlocks rfl (by decide +kernel))
theorem z_cki {x n : Int32} {v : Value} (hv : v = .null ∨ v = .ref 1299) (h0 : ¬ x < 0) (h1 : x < n) : z_CJ l B D ρ cA (d + 1) z_yk prog_32_method_11_code 3 (some .int) [.int x, .int n, v] S (.inl (some (.int x))) := z_jbody (by decide +kernel) (by rcases hv with rfl | rfl <;> simp [z_sl]) (fun p e s m args below meth c hctx hr hlocks => by
  obtain ⟨hx, hb, hml, hown, hts, hE, hRf, hRl⟩ := id hctx
  have g0 : z_lg (z_in 3 [.int x, .int n, v]) 0 = some (.int x) := by rcases hv with rfl | rfl <;> rfl
  have g1 : z_lg (z_in 3 [.int x, .int n, v]) 1 = some (.int n) := by rcases hv with rfl | rfl <;> rfl
  refine zj_iload_n hx hb (k := 0) (a := x) (by decide +kernel) g0 ?_
  refine zj_if_lt hx hb (o := 8) (t := 9) (by decide +kernel) (by decide) (fun q => absurd q h0) (fun _ => ?_)
  refine zj_iload_n hx hb (k := 0) (a := x) (by decide +kernel) g0 ?_
  refine zj_iload_n hx hb (k := 1) (a := n) (by decide +kernel) g1 ?_
  refine zj_ic_lt hx hb (o := 10) (t := 16) (by decide +kernel) (by decide) (fun _ => ?_) (fun q => absurd h1 q)
  refine zj_iload_n hx hb (k := 0) (a := x) (by decide +kernel) g0 ?_
  exact z_endN hx hb hr hlocks rfl (by decide +kernel))
theorem z_sci {x n : Int32} (h0 : ¬ x < 0) (h1 : x < n) : z_CJ l B D ρ cA (d + 2) z_yi prog_23_method_155_code 2 none [.int x, .int n] S (.inl none) := z_jbody (by decide +kernel) (by simp [z_sl]) (fun p e s m args below meth c hctx hr hlocks => by
  obtain ⟨hx, hb, hml, hown, hts, hE, hRf, hRl⟩ := id hctx
  refine zj_iload_n hx hb (k := 0) (a := x) (by decide +kernel) rfl ?_
  refine zj_iload_n hx hb (k := 1) (a := n) (by decide +kernel) rfl ?_
  have hz : ∃ v : Value, (v = .null ∨ v = .ref 1299) ∧ va_Z "jdk/internal/util/Preconditions" "SIOOBE_FORMATTER" "Ljava/util/function/BiFunction;" (z_v ρ v) (fun q => B ≤ q) s s.heap := by
    rcases hE.2.2.1.2.2.2.2.2.2.2.2.2 with h | h
    · exact ⟨.null, Or.inl rfl, h⟩
    · exact ⟨.ref 1299, Or.inr rfl, h⟩
  obtain ⟨v, hv, hZ⟩ := hz
  refine zj_getS hx hb (v := v) (i := 1053) hZ hown (hts _ z_jw4) (by decide +kernel) ?_
  refine zk_S hctx (as := [.int x, .int n, v]) (r := []) (z_cki hv h0 h1) z_jwK.1 z_jwK.2.1 z_jwK.2.2.1 z_jwK.2.2.2 ⟨by decide, by decide⟩ z_pk (by decide) (by decide) (by decide +kernel) ⟨Nat.zero_le _, Nat.zero_le _⟩ ?_
  refine zj_pop hx hb rfl (by decide +kernel) ?_
  exact z_endV hx hb hr hlocks (by decide +kernel))
theorem z_txok : ∀ j, j < 17 → ∀ k, k < (z_tx.getD j []).length → ((((z_tx.getD j []).getD k 0) &&& 255).toUInt32 % 65536).toInt32 = (z_tx.getD j []).getD k 0 ∧ narrow .char (.int ((z_tx.getD j []).getD k 0)) = .int ((z_tx.getD j []).getD k 0) := by decide +kernel
theorem z_txlen : ∀ j, j < 17 → (z_tx.map List.length).getD j 0 = (z_tx.getD j []).length ∧ (nI (z_tx.getD j []).length) >>> ((0 : Int32) &&& 31) = nI (z_tx.getD j []).length ∧ (z_tx.getD j []).length < 20 := by decide +kernel
theorem z_ixlt {x : Int32} {n : Nat} (hn : n < 20) (h : z_ix x n = true) : ¬ x < 0 ∧ x < nI n := by
  simp only [z_ix, Bool.and_eq_true, Bool.not_eq_true', decide_eq_false_iff_not, decide_eq_true_eq] at h
  refine ⟨h.1, ?_⟩
  rw [Int32.lt_iff_toInt_lt, nI_toInt (by omega)]
  have h0 : 0 ≤ x.toInt := by
    have := Int32.not_lt.mp h.1
    simpa using Int32.le_iff_toInt_le.mp this
  have h2 : x.toInt.toNat < n := h.2
  omega
theorem z_ch1 (hj : j < 17) {x : Int32} (hi : z_ix x (z_tx.getD j []).length = true) : z_CJ l B D ρ cA (d + 3) z_y1 prog_24_method_2_code 2 (some .char) [.ref (1250 + j), .int x] S (.inl (some (.int ((z_tx.getD j []).getD x.toNatClampNeg 0)))) := z_jbody (by decide +kernel) (by simp [z_sl]) (fun p e s m args below meth c hctx hr hlocks => by
  obtain ⟨hx, hb, hml, hown, hts, hE, hRf, hRl⟩ := id hctx
  obtain ⟨q1, q2, q3⟩ := z_txlen j hj
  obtain ⟨i0, i1⟩ := z_ixlt q3 hi
  have hk : x.toNatClampNeg < (z_tx.getD j []).length := by
    simp only [z_ix, Bool.and_eq_true, decide_eq_true_eq] at hi
    exact hi.2
  obtain ⟨t1, t2⟩ := z_txok j hj x.toNatClampNeg hk
  refine zj_iload_n hx hb (k := 1) (a := x) (by decide +kernel) rfl ?_
  refine zj_aload_n hx hb (k := 0) (a := 1250 + j) (by decide +kernel) rfl ?_
  refine zj_tlen hx hb hE hj (by decide +kernel) ?_
  rw [q1]
  refine zk_S hctx (as := [.int x, .int (nI (z_tx.getD j []).length)]) (r := []) (z_sci i0 i1) z_jwI.1 z_jwC.2.1 z_jwI.2.1 z_jwI.2.2 ⟨by decide, by decide⟩ z_pi (by decide) (by decide) (by decide +kernel) ⟨Nat.zero_le _, Nat.zero_le _⟩ ?_
  refine zj_aload_n hx hb (k := 0) (a := 1250 + j) (by decide +kernel) rfl ?_
  refine zj_iload_n hx hb (k := 1) (a := x) (by decide +kernel) rfl ?_
  refine zj_tb hx hb hE hj (by rw [q1]; exact hi) (by decide +kernel) ?_
  refine zj_sipush hx hb (n := 255) (by decide +kernel) rfl ?_
  refine zj_iand hx hb (by decide +kernel) ?_
  refine zj_i2c hx hb t1 (by decide +kernel) ?_
  exact z_endN hx hb hr hlocks t2 (by decide +kernel))
theorem z_len (hj : j < 17) : z_CJ l B D ρ cA (d + 2) z_sLen prog_23_method_54_code 1 (some .int) [.ref (1200 + j)] S (.inl (some (.int (nI (z_tx.getD j []).length)))) := z_jbody (by decide +kernel) (by simp [z_sl]) (fun p e s m args below meth c hctx hr hlocks => by
  obtain ⟨hx, hb, hml, hown, hts, hE, hRf, hRl⟩ := id hctx
  obtain ⟨q1, q2, q3⟩ := z_txlen j hj
  refine zj_aload_n hx hb (k := 0) (a := 1200 + j) (by decide +kernel) rfl ?_
  refine zj_getO hx hb (i := 9) (v := .ref (1250 + j)) (hE.2.2.1.2.2.2.2.2.2.2.1.1 j hj).2.2.1 hown (hts _ z_jw3) (by decide +kernel) ?_
  refine zj_tlen hx hb hE hj (by decide +kernel) ?_
  rw [q1]
  refine zj_aload_n hx hb (k := 0) (a := 1200 + j) (by decide +kernel) rfl ?_
  refine zk_V hctx (as := []) (r := [.int (nI (z_tx.getD j []).length)]) (z_coder hj) z_jwC.1 z_jwC.2.1 z_jwC.2.2.1 z_jwC.2.2.2.1 z_jwC.2.2.2.2 rfl (by decide +kernel) (by decide) hj rfl (Nat.le_of_ble_eq_true rfl) (by decide +kernel) ⟨Nat.zero_le _, Nat.zero_le _⟩ ?_
  refine zj_ishr hx hb (by decide +kernel) ?_
  rw [q2]
  exact z_endN hx hb hr hlocks rfl (by decide +kernel))
theorem z_chA (hj : j < 17) {x : Int32} (hi : z_ix x (z_tx.getD j []).length = true) : z_CJ l B D ρ cA (d + 4) z_sCh prog_23_method_56_code 2 (some .char) [.ref (1200 + j), .int x] S (.inl (some (.int ((z_tx.getD j []).getD x.toNatClampNeg 0)))) := z_jbody (by decide +kernel) (by simp [z_sl]) (fun p e s m args below meth c hctx hr hlocks => by
  obtain ⟨hx, hb, hml, hown, hts, hE, hRf, hRl⟩ := id hctx
  have hk : x.toNatClampNeg < (z_tx.getD j []).length := by
    simp only [z_ix, Bool.and_eq_true, decide_eq_true_eq] at hi
    exact hi.2
  obtain ⟨t1, t2⟩ := z_txok j hj x.toNatClampNeg hk
  refine zj_aload_n hx hb (k := 0) (a := 1200 + j) (by decide +kernel) rfl ?_
  refine zk_V hctx (as := []) (r := []) (z_lat hj) z_jwL.1 z_jwC.2.1 z_jwL.2.1 z_jwL.2.2.1 z_jwL.2.2.2 rfl (by decide +kernel) (by decide) hj rfl (by decide) (by decide +kernel) ⟨Nat.zero_le _, Nat.zero_le _⟩ ?_
  refine zj_if_eq hx hb (o := 12) (t := 16) (by decide +kernel) (by decide) (fun q => absurd q (by decide)) (fun _ => ?_)
  refine zj_aload_n hx hb (k := 0) (a := 1200 + j) (by decide +kernel) rfl ?_
  refine zj_getO hx hb (i := 9) (v := .ref (1250 + j)) (hE.2.2.1.2.2.2.2.2.2.2.1.1 j hj).2.2.1 hown (hts _ z_jw3) (by decide +kernel) ?_
  refine zj_iload_n hx hb (k := 1) (a := x) (by decide +kernel) rfl ?_
  refine zk_S hctx (as := [.ref (1250 + j), .int x]) (r := []) (z_ch1 hj hi) z_jw5.1 z_jw5.2.1 z_jw5.2.2.1 z_jw5.2.2.2 ⟨by decide, by decide⟩ z_p1 (by decide) (by decide) (by decide +kernel) ⟨Nat.zero_le _, Nat.zero_le _⟩ ?_
  exact z_endN hx hb hr hlocks t2 (by decide +kernel))
theorem z_str (l : Launch) (B : Nat) (D : va_G) (ρ : Nat → Nat) (cA : Nat → ClassId) : z_Str l B D ρ cA := by
  intro p e R s m args below meth c Q nL cc own dd hctx pc ix hd
  obtain ⟨hx, hb, hml, hown, hts, hE, hAp, hRf, hRl⟩ := id hctx
  have hcx : z_Cx p R s m args c B D ρ cA nL cc own 4 := ⟨hx, hb, hml, hown, hts, hE, by omega, by omega⟩
  have hin : ∀ a, Nat.ble 1200 a = true → Nat.blt a 1217 = true → ∃ j, j < 17 ∧ a = 1200 + j := by
    intro a h1 h2
    have a1 : 1200 ≤ a := Nat.le_of_ble_eq_true h1
    have a2 : a < 1217 := Nat.blt_eq.mp h2
    exact ⟨a - 1200, by omega, by omega⟩
  constructor
  · intro hl z L rest S a h1 h2 h3 h4 h5
    obtain ⟨j, hj, rfl⟩ := hin a h1 h2
    rw [Nat.add_sub_cancel_left] at h5
    exact zk_V hcx (as := []) (r := rest) (z_len (d := 2) hj) z_jw6.1 z_jwC.2.1 hl z_jw6.2.1 z_jw6.2.2 rfl (by decide +kernel) (by decide) hj rfl h3 hd h4 h5
  · intro hl z L rest S a x h1 h2 h3 h4 h5 h6
    obtain ⟨j, hj, rfl⟩ := hin a h1 h2
    rw [Nat.add_sub_cancel_left] at h3 h6
    exact zk_V hcx (as := [.int x]) (r := rest) (z_chA (d := 0) hj h3) z_jw7.1 z_jwC.2.1 hl z_jw7.2.1 z_jw7.2.2 rfl z_pc (by decide) hj rfl h4 hd h5 h6
end ZZ
end
section
/-! equations of the program's blocks -/
theorem zs_ew {d m : Nat} {as : List Value} {S : z_St} (h : Nat.ble (z_sl as).length (z_m m).2.2.1 = true) : z_ew (d + 1) m as S = z_run false (z_m m).2.2.2.1 (z_m m).2.2.2.2.2 (z_ew d) (z_bs.getD m []) z_fuel 0 0 (z_in (z_m m).2.2.1 as) [] S := by
  show cond (Nat.ble (z_sl as).length (z_m m).2.2.1) (z_run false (z_m m).2.2.2.1 (z_m m).2.2.2.2.2 (z_ew d) (z_bs.getD m []) z_fuel 0 0 (z_in (z_m m).2.2.1 as) [] S) none = _
  rw [h]
  rfl
/-- java/lang/Integer.bitCount(I)I -/
noncomputable def z_R185 (d : Nat) : Nat → z_K := z_run false (some .int) [] (z_ew d) z_b185
theorem ze_185 (d : Nat) (as : List Value) (S : z_St) (h : Nat.ble (z_sl as).length 1 = true) : z_ew (d + 1) 185 as S = z_R185 d z_fuel 0 0 (z_in 1 as) [] S := zs_ew h
set_option maxRecDepth 100000 in
theorem zq_185_0 (d n z : Nat) (l0 : Int32) (S : z_St) : z_R185 d (n + 1) 0 z [some (.int l0)] [] S = some (.inl (some (.int ((((((((l0 - ((((Int32.toUInt32 l0) >>> (Int32.toUInt32 (nI 1) &&& Int32.toUInt32 31)).toInt32) &&& (nI 1431655765))) &&& (nI 858993459)) + ((((Int32.toUInt32 (l0 - ((((Int32.toUInt32 l0) >>> (Int32.toUInt32 (nI 1) &&& Int32.toUInt32 31)).toInt32) &&& (nI 1431655765)))) >>> (Int32.toUInt32 (nI 2) &&& Int32.toUInt32 31)).toInt32) &&& (nI 858993459))) + (((Int32.toUInt32 (((l0 - ((((Int32.toUInt32 l0) >>> (Int32.toUInt32 (nI 1) &&& Int32.toUInt32 31)).toInt32) &&& (nI 1431655765))) &&& (nI 858993459)) + ((((Int32.toUInt32 (l0 - ((((Int32.toUInt32 l0) >>> (Int32.toUInt32 (nI 1) &&& Int32.toUInt32 31)).toInt32) &&& (nI 1431655765)))) >>> (Int32.toUInt32 (nI 2) &&& Int32.toUInt32 31)).toInt32) &&& (nI 858993459)))) >>> (Int32.toUInt32 (nI 4) &&& Int32.toUInt32 31)).toInt32)) &&& (nI 252645135)) + (((Int32.toUInt32 (((((l0 - ((((Int32.toUInt32 l0) >>> (Int32.toUInt32 (nI 1) &&& Int32.toUInt32 31)).toInt32) &&& (nI 1431655765))) &&& (nI 858993459)) + ((((Int32.toUInt32 (l0 - ((((Int32.toUInt32 l0) >>> (Int32.toUInt32 (nI 1) &&& Int32.toUInt32 31)).toInt32) &&& (nI 1431655765)))) >>> (Int32.toUInt32 (nI 2) &&& Int32.toUInt32 31)).toInt32) &&& (nI 858993459))) + (((Int32.toUInt32 (((l0 - ((((Int32.toUInt32 l0) >>> (Int32.toUInt32 (nI 1) &&& Int32.toUInt32 31)).toInt32) &&& (nI 1431655765))) &&& (nI 858993459)) + ((((Int32.toUInt32 (l0 - ((((Int32.toUInt32 l0) >>> (Int32.toUInt32 (nI 1) &&& Int32.toUInt32 31)).toInt32) &&& (nI 1431655765)))) >>> (Int32.toUInt32 (nI 2) &&& Int32.toUInt32 31)).toInt32) &&& (nI 858993459)))) >>> (Int32.toUInt32 (nI 4) &&& Int32.toUInt32 31)).toInt32)) &&& (nI 252645135))) >>> (Int32.toUInt32 (nI 8) &&& Int32.toUInt32 31)).toInt32)) + (((Int32.toUInt32 ((((((l0 - ((((Int32.toUInt32 l0) >>> (Int32.toUInt32 (nI 1) &&& Int32.toUInt32 31)).toInt32) &&& (nI 1431655765))) &&& (nI 858993459)) + ((((Int32.toUInt32 (l0 - ((((Int32.toUInt32 l0) >>> (Int32.toUInt32 (nI 1) &&& Int32.toUInt32 31)).toInt32) &&& (nI 1431655765)))) >>> (Int32.toUInt32 (nI 2) &&& Int32.toUInt32 31)).toInt32) &&& (nI 858993459))) + (((Int32.toUInt32 (((l0 - ((((Int32.toUInt32 l0) >>> (Int32.toUInt32 (nI 1) &&& Int32.toUInt32 31)).toInt32) &&& (nI 1431655765))) &&& (nI 858993459)) + ((((Int32.toUInt32 (l0 - ((((Int32.toUInt32 l0) >>> (Int32.toUInt32 (nI 1) &&& Int32.toUInt32 31)).toInt32) &&& (nI 1431655765)))) >>> (Int32.toUInt32 (nI 2) &&& Int32.toUInt32 31)).toInt32) &&& (nI 858993459)))) >>> (Int32.toUInt32 (nI 4) &&& Int32.toUInt32 31)).toInt32)) &&& (nI 252645135)) + (((Int32.toUInt32 (((((l0 - ((((Int32.toUInt32 l0) >>> (Int32.toUInt32 (nI 1) &&& Int32.toUInt32 31)).toInt32) &&& (nI 1431655765))) &&& (nI 858993459)) + ((((Int32.toUInt32 (l0 - ((((Int32.toUInt32 l0) >>> (Int32.toUInt32 (nI 1) &&& Int32.toUInt32 31)).toInt32) &&& (nI 1431655765)))) >>> (Int32.toUInt32 (nI 2) &&& Int32.toUInt32 31)).toInt32) &&& (nI 858993459))) + (((Int32.toUInt32 (((l0 - ((((Int32.toUInt32 l0) >>> (Int32.toUInt32 (nI 1) &&& Int32.toUInt32 31)).toInt32) &&& (nI 1431655765))) &&& (nI 858993459)) + ((((Int32.toUInt32 (l0 - ((((Int32.toUInt32 l0) >>> (Int32.toUInt32 (nI 1) &&& Int32.toUInt32 31)).toInt32) &&& (nI 1431655765)))) >>> (Int32.toUInt32 (nI 2) &&& Int32.toUInt32 31)).toInt32) &&& (nI 858993459)))) >>> (Int32.toUInt32 (nI 4) &&& Int32.toUInt32 31)).toInt32)) &&& (nI 252645135))) >>> (Int32.toUInt32 (nI 8) &&& Int32.toUInt32 31)).toInt32))) >>> (Int32.toUInt32 (nI 16) &&& Int32.toUInt32 31)).toInt32)) &&& (nI 63)))), S) := by
  refine zs_run (L' := [some (.int l0)]) rfl rfl ?_
  exact zs_iload_n rfl (zs_iload_n rfl (zs_iconst (v := nI 1) rfl (zs_iushr (zs_ldc_w0 (zs_iand (zs_isub (zs_istore_n (L' := [some (.int (l0 - ((((Int32.toUInt32 l0) >>> (Int32.toUInt32 (nI 1) &&& Int32.toUInt32 31)).toInt32) &&& (nI 1431655765))))]) rfl rfl (zs_iload_n rfl (zs_ldc_w0 (zs_iand (zs_iload_n rfl (zs_iconst (v := nI 2) rfl (zs_iushr (zs_ldc_w0 (zs_iand (zs_iadd (zs_istore_n (L' := [some (.int (((l0 - ((((Int32.toUInt32 l0) >>> (Int32.toUInt32 (nI 1) &&& Int32.toUInt32 31)).toInt32) &&& (nI 1431655765))) &&& (nI 858993459)) + ((((Int32.toUInt32 (l0 - ((((Int32.toUInt32 l0) >>> (Int32.toUInt32 (nI 1) &&& Int32.toUInt32 31)).toInt32) &&& (nI 1431655765)))) >>> (Int32.toUInt32 (nI 2) &&& Int32.toUInt32 31)).toInt32) &&& (nI 858993459))))]) rfl rfl (zs_iload_n rfl (zs_iload_n rfl (zs_iconst (v := nI 4) rfl (zs_iushr (zs_iadd (zs_ldc_w0 (zs_iand (zs_istore_n (L' := [some (.int (((((l0 - ((((Int32.toUInt32 l0) >>> (Int32.toUInt32 (nI 1) &&& Int32.toUInt32 31)).toInt32) &&& (nI 1431655765))) &&& (nI 858993459)) + ((((Int32.toUInt32 (l0 - ((((Int32.toUInt32 l0) >>> (Int32.toUInt32 (nI 1) &&& Int32.toUInt32 31)).toInt32) &&& (nI 1431655765)))) >>> (Int32.toUInt32 (nI 2) &&& Int32.toUInt32 31)).toInt32) &&& (nI 858993459))) + (((Int32.toUInt32 (((l0 - ((((Int32.toUInt32 l0) >>> (Int32.toUInt32 (nI 1) &&& Int32.toUInt32 31)).toInt32) &&& (nI 1431655765))) &&& (nI 858993459)) + ((((Int32.toUInt32 (l0 - ((((Int32.toUInt32 l0) >>> (Int32.toUInt32 (nI 1) &&& Int32.toUInt32 31)).toInt32) &&& (nI 1431655765)))) >>> (Int32.toUInt32 (nI 2) &&& Int32.toUInt32 31)).toInt32) &&& (nI 858993459)))) >>> (Int32.toUInt32 (nI 4) &&& Int32.toUInt32 31)).toInt32)) &&& (nI 252645135)))]) rfl rfl (zs_iload_n rfl (zs_iload_n rfl (zs_bipush (v := nI 8) rfl (zs_iushr (zs_iadd (zs_istore_n (L' := [some (.int ((((((l0 - ((((Int32.toUInt32 l0) >>> (Int32.toUInt32 (nI 1) &&& Int32.toUInt32 31)).toInt32) &&& (nI 1431655765))) &&& (nI 858993459)) + ((((Int32.toUInt32 (l0 - ((((Int32.toUInt32 l0) >>> (Int32.toUInt32 (nI 1) &&& Int32.toUInt32 31)).toInt32) &&& (nI 1431655765)))) >>> (Int32.toUInt32 (nI 2) &&& Int32.toUInt32 31)).toInt32) &&& (nI 858993459))) + (((Int32.toUInt32 (((l0 - ((((Int32.toUInt32 l0) >>> (Int32.toUInt32 (nI 1) &&& Int32.toUInt32 31)).toInt32) &&& (nI 1431655765))) &&& (nI 858993459)) + ((((Int32.toUInt32 (l0 - ((((Int32.toUInt32 l0) >>> (Int32.toUInt32 (nI 1) &&& Int32.toUInt32 31)).toInt32) &&& (nI 1431655765)))) >>> (Int32.toUInt32 (nI 2) &&& Int32.toUInt32 31)).toInt32) &&& (nI 858993459)))) >>> (Int32.toUInt32 (nI 4) &&& Int32.toUInt32 31)).toInt32)) &&& (nI 252645135)) + (((Int32.toUInt32 (((((l0 - ((((Int32.toUInt32 l0) >>> (Int32.toUInt32 (nI 1) &&& Int32.toUInt32 31)).toInt32) &&& (nI 1431655765))) &&& (nI 858993459)) + ((((Int32.toUInt32 (l0 - ((((Int32.toUInt32 l0) >>> (Int32.toUInt32 (nI 1) &&& Int32.toUInt32 31)).toInt32) &&& (nI 1431655765)))) >>> (Int32.toUInt32 (nI 2) &&& Int32.toUInt32 31)).toInt32) &&& (nI 858993459))) + (((Int32.toUInt32 (((l0 - ((((Int32.toUInt32 l0) >>> (Int32.toUInt32 (nI 1) &&& Int32.toUInt32 31)).toInt32) &&& (nI 1431655765))) &&& (nI 858993459)) + ((((Int32.toUInt32 (l0 - ((((Int32.toUInt32 l0) >>> (Int32.toUInt32 (nI 1) &&& Int32.toUInt32 31)).toInt32) &&& (nI 1431655765)))) >>> (Int32.toUInt32 (nI 2) &&& Int32.toUInt32 31)).toInt32) &&& (nI 858993459)))) >>> (Int32.toUInt32 (nI 4) &&& Int32.toUInt32 31)).toInt32)) &&& (nI 252645135))) >>> (Int32.toUInt32 (nI 8) &&& Int32.toUInt32 31)).toInt32)))]) rfl rfl (zs_iload_n rfl (zs_iload_n rfl (zs_bipush (v := nI 16) rfl (zs_iushr (zs_iadd (zs_istore_n (L' := [some (.int (((((((l0 - ((((Int32.toUInt32 l0) >>> (Int32.toUInt32 (nI 1) &&& Int32.toUInt32 31)).toInt32) &&& (nI 1431655765))) &&& (nI 858993459)) + ((((Int32.toUInt32 (l0 - ((((Int32.toUInt32 l0) >>> (Int32.toUInt32 (nI 1) &&& Int32.toUInt32 31)).toInt32) &&& (nI 1431655765)))) >>> (Int32.toUInt32 (nI 2) &&& Int32.toUInt32 31)).toInt32) &&& (nI 858993459))) + (((Int32.toUInt32 (((l0 - ((((Int32.toUInt32 l0) >>> (Int32.toUInt32 (nI 1) &&& Int32.toUInt32 31)).toInt32) &&& (nI 1431655765))) &&& (nI 858993459)) + ((((Int32.toUInt32 (l0 - ((((Int32.toUInt32 l0) >>> (Int32.toUInt32 (nI 1) &&& Int32.toUInt32 31)).toInt32) &&& (nI 1431655765)))) >>> (Int32.toUInt32 (nI 2) &&& Int32.toUInt32 31)).toInt32) &&& (nI 858993459)))) >>> (Int32.toUInt32 (nI 4) &&& Int32.toUInt32 31)).toInt32)) &&& (nI 252645135)) + (((Int32.toUInt32 (((((l0 - ((((Int32.toUInt32 l0) >>> (Int32.toUInt32 (nI 1) &&& Int32.toUInt32 31)).toInt32) &&& (nI 1431655765))) &&& (nI 858993459)) + ((((Int32.toUInt32 (l0 - ((((Int32.toUInt32 l0) >>> (Int32.toUInt32 (nI 1) &&& Int32.toUInt32 31)).toInt32) &&& (nI 1431655765)))) >>> (Int32.toUInt32 (nI 2) &&& Int32.toUInt32 31)).toInt32) &&& (nI 858993459))) + (((Int32.toUInt32 (((l0 - ((((Int32.toUInt32 l0) >>> (Int32.toUInt32 (nI 1) &&& Int32.toUInt32 31)).toInt32) &&& (nI 1431655765))) &&& (nI 858993459)) + ((((Int32.toUInt32 (l0 - ((((Int32.toUInt32 l0) >>> (Int32.toUInt32 (nI 1) &&& Int32.toUInt32 31)).toInt32) &&& (nI 1431655765)))) >>> (Int32.toUInt32 (nI 2) &&& Int32.toUInt32 31)).toInt32) &&& (nI 858993459)))) >>> (Int32.toUInt32 (nI 4) &&& Int32.toUInt32 31)).toInt32)) &&& (nI 252645135))) >>> (Int32.toUInt32 (nI 8) &&& Int32.toUInt32 31)).toInt32)) + (((Int32.toUInt32 ((((((l0 - ((((Int32.toUInt32 l0) >>> (Int32.toUInt32 (nI 1) &&& Int32.toUInt32 31)).toInt32) &&& (nI 1431655765))) &&& (nI 858993459)) + ((((Int32.toUInt32 (l0 - ((((Int32.toUInt32 l0) >>> (Int32.toUInt32 (nI 1) &&& Int32.toUInt32 31)).toInt32) &&& (nI 1431655765)))) >>> (Int32.toUInt32 (nI 2) &&& Int32.toUInt32 31)).toInt32) &&& (nI 858993459))) + (((Int32.toUInt32 (((l0 - ((((Int32.toUInt32 l0) >>> (Int32.toUInt32 (nI 1) &&& Int32.toUInt32 31)).toInt32) &&& (nI 1431655765))) &&& (nI 858993459)) + ((((Int32.toUInt32 (l0 - ((((Int32.toUInt32 l0) >>> (Int32.toUInt32 (nI 1) &&& Int32.toUInt32 31)).toInt32) &&& (nI 1431655765)))) >>> (Int32.toUInt32 (nI 2) &&& Int32.toUInt32 31)).toInt32) &&& (nI 858993459)))) >>> (Int32.toUInt32 (nI 4) &&& Int32.toUInt32 31)).toInt32)) &&& (nI 252645135)) + (((Int32.toUInt32 (((((l0 - ((((Int32.toUInt32 l0) >>> (Int32.toUInt32 (nI 1) &&& Int32.toUInt32 31)).toInt32) &&& (nI 1431655765))) &&& (nI 858993459)) + ((((Int32.toUInt32 (l0 - ((((Int32.toUInt32 l0) >>> (Int32.toUInt32 (nI 1) &&& Int32.toUInt32 31)).toInt32) &&& (nI 1431655765)))) >>> (Int32.toUInt32 (nI 2) &&& Int32.toUInt32 31)).toInt32) &&& (nI 858993459))) + (((Int32.toUInt32 (((l0 - ((((Int32.toUInt32 l0) >>> (Int32.toUInt32 (nI 1) &&& Int32.toUInt32 31)).toInt32) &&& (nI 1431655765))) &&& (nI 858993459)) + ((((Int32.toUInt32 (l0 - ((((Int32.toUInt32 l0) >>> (Int32.toUInt32 (nI 1) &&& Int32.toUInt32 31)).toInt32) &&& (nI 1431655765)))) >>> (Int32.toUInt32 (nI 2) &&& Int32.toUInt32 31)).toInt32) &&& (nI 858993459)))) >>> (Int32.toUInt32 (nI 4) &&& Int32.toUInt32 31)).toInt32)) &&& (nI 252645135))) >>> (Int32.toUInt32 (nI 8) &&& Int32.toUInt32 31)).toInt32))) >>> (Int32.toUInt32 (nI 16) &&& Int32.toUInt32 31)).toInt32)))]) rfl rfl (zs_iload_n rfl (zs_bipush (v := nI 63) rfl (zs_iand (zs_iret rfl)))))))))))))))))))))))))))))))))))))))))
/-- java/lang/Long.bitCount(J)I -/
noncomputable def z_R186 (d : Nat) : Nat → z_K := z_run false (some .int) [] (z_ew d) z_b186
theorem ze_186 (d : Nat) (as : List Value) (S : z_St) (h : Nat.ble (z_sl as).length 2 = true) : z_ew (d + 1) 186 as S = z_R186 d z_fuel 0 0 (z_in 2 as) [] S := zs_ew h
set_option maxRecDepth 100000 in
theorem zq_186_0 (d n z : Nat) (l0 : Int64) (d1 : Option Value) (S : z_St) : z_R186 d (n + 1) 0 z [some (.long l0), d1] [] S = some (.inl (some (.int ((Int64.toInt32 ((((((((l0 - (((Int64.toUInt64 l0 >>> (Int64.toUInt64 (Int32.toInt64 (nI 1)) &&& Int64.toUInt64 63)).toInt64) &&& (lN 6148914691236517205))) &&& (lN 3689348814741910323)) + (((Int64.toUInt64 (l0 - (((Int64.toUInt64 l0 >>> (Int64.toUInt64 (Int32.toInt64 (nI 1)) &&& Int64.toUInt64 63)).toInt64) &&& (lN 6148914691236517205))) >>> (Int64.toUInt64 (Int32.toInt64 (nI 2)) &&& Int64.toUInt64 63)).toInt64) &&& (lN 3689348814741910323))) + ((Int64.toUInt64 (((l0 - (((Int64.toUInt64 l0 >>> (Int64.toUInt64 (Int32.toInt64 (nI 1)) &&& Int64.toUInt64 63)).toInt64) &&& (lN 6148914691236517205))) &&& (lN 3689348814741910323)) + (((Int64.toUInt64 (l0 - (((Int64.toUInt64 l0 >>> (Int64.toUInt64 (Int32.toInt64 (nI 1)) &&& Int64.toUInt64 63)).toInt64) &&& (lN 6148914691236517205))) >>> (Int64.toUInt64 (Int32.toInt64 (nI 2)) &&& Int64.toUInt64 63)).toInt64) &&& (lN 3689348814741910323))) >>> (Int64.toUInt64 (Int32.toInt64 (nI 4)) &&& Int64.toUInt64 63)).toInt64)) &&& (lN 1085102592571150095)) + ((Int64.toUInt64 (((((l0 - (((Int64.toUInt64 l0 >>> (Int64.toUInt64 (Int32.toInt64 (nI 1)) &&& Int64.toUInt64 63)).toInt64) &&& (lN 6148914691236517205))) &&& (lN 3689348814741910323)) + (((Int64.toUInt64 (l0 - (((Int64.toUInt64 l0 >>> (Int64.toUInt64 (Int32.toInt64 (nI 1)) &&& Int64.toUInt64 63)).toInt64) &&& (lN 6148914691236517205))) >>> (Int64.toUInt64 (Int32.toInt64 (nI 2)) &&& Int64.toUInt64 63)).toInt64) &&& (lN 3689348814741910323))) + ((Int64.toUInt64 (((l0 - (((Int64.toUInt64 l0 >>> (Int64.toUInt64 (Int32.toInt64 (nI 1)) &&& Int64.toUInt64 63)).toInt64) &&& (lN 6148914691236517205))) &&& (lN 3689348814741910323)) + (((Int64.toUInt64 (l0 - (((Int64.toUInt64 l0 >>> (Int64.toUInt64 (Int32.toInt64 (nI 1)) &&& Int64.toUInt64 63)).toInt64) &&& (lN 6148914691236517205))) >>> (Int64.toUInt64 (Int32.toInt64 (nI 2)) &&& Int64.toUInt64 63)).toInt64) &&& (lN 3689348814741910323))) >>> (Int64.toUInt64 (Int32.toInt64 (nI 4)) &&& Int64.toUInt64 63)).toInt64)) &&& (lN 1085102592571150095)) >>> (Int64.toUInt64 (Int32.toInt64 (nI 8)) &&& Int64.toUInt64 63)).toInt64)) + ((Int64.toUInt64 ((((((l0 - (((Int64.toUInt64 l0 >>> (Int64.toUInt64 (Int32.toInt64 (nI 1)) &&& Int64.toUInt64 63)).toInt64) &&& (lN 6148914691236517205))) &&& (lN 3689348814741910323)) + (((Int64.toUInt64 (l0 - (((Int64.toUInt64 l0 >>> (Int64.toUInt64 (Int32.toInt64 (nI 1)) &&& Int64.toUInt64 63)).toInt64) &&& (lN 6148914691236517205))) >>> (Int64.toUInt64 (Int32.toInt64 (nI 2)) &&& Int64.toUInt64 63)).toInt64) &&& (lN 3689348814741910323))) + ((Int64.toUInt64 (((l0 - (((Int64.toUInt64 l0 >>> (Int64.toUInt64 (Int32.toInt64 (nI 1)) &&& Int64.toUInt64 63)).toInt64) &&& (lN 6148914691236517205))) &&& (lN 3689348814741910323)) + (((Int64.toUInt64 (l0 - (((Int64.toUInt64 l0 >>> (Int64.toUInt64 (Int32.toInt64 (nI 1)) &&& Int64.toUInt64 63)).toInt64) &&& (lN 6148914691236517205))) >>> (Int64.toUInt64 (Int32.toInt64 (nI 2)) &&& Int64.toUInt64 63)).toInt64) &&& (lN 3689348814741910323))) >>> (Int64.toUInt64 (Int32.toInt64 (nI 4)) &&& Int64.toUInt64 63)).toInt64)) &&& (lN 1085102592571150095)) + ((Int64.toUInt64 (((((l0 - (((Int64.toUInt64 l0 >>> (Int64.toUInt64 (Int32.toInt64 (nI 1)) &&& Int64.toUInt64 63)).toInt64) &&& (lN 6148914691236517205))) &&& (lN 3689348814741910323)) + (((Int64.toUInt64 (l0 - (((Int64.toUInt64 l0 >>> (Int64.toUInt64 (Int32.toInt64 (nI 1)) &&& Int64.toUInt64 63)).toInt64) &&& (lN 6148914691236517205))) >>> (Int64.toUInt64 (Int32.toInt64 (nI 2)) &&& Int64.toUInt64 63)).toInt64) &&& (lN 3689348814741910323))) + ((Int64.toUInt64 (((l0 - (((Int64.toUInt64 l0 >>> (Int64.toUInt64 (Int32.toInt64 (nI 1)) &&& Int64.toUInt64 63)).toInt64) &&& (lN 6148914691236517205))) &&& (lN 3689348814741910323)) + (((Int64.toUInt64 (l0 - (((Int64.toUInt64 l0 >>> (Int64.toUInt64 (Int32.toInt64 (nI 1)) &&& Int64.toUInt64 63)).toInt64) &&& (lN 6148914691236517205))) >>> (Int64.toUInt64 (Int32.toInt64 (nI 2)) &&& Int64.toUInt64 63)).toInt64) &&& (lN 3689348814741910323))) >>> (Int64.toUInt64 (Int32.toInt64 (nI 4)) &&& Int64.toUInt64 63)).toInt64)) &&& (lN 1085102592571150095)) >>> (Int64.toUInt64 (Int32.toInt64 (nI 8)) &&& Int64.toUInt64 63)).toInt64)) >>> (Int64.toUInt64 (Int32.toInt64 (nI 16)) &&& Int64.toUInt64 63)).toInt64)) + ((Int64.toUInt64 (((((((l0 - (((Int64.toUInt64 l0 >>> (Int64.toUInt64 (Int32.toInt64 (nI 1)) &&& Int64.toUInt64 63)).toInt64) &&& (lN 6148914691236517205))) &&& (lN 3689348814741910323)) + (((Int64.toUInt64 (l0 - (((Int64.toUInt64 l0 >>> (Int64.toUInt64 (Int32.toInt64 (nI 1)) &&& Int64.toUInt64 63)).toInt64) &&& (lN 6148914691236517205))) >>> (Int64.toUInt64 (Int32.toInt64 (nI 2)) &&& Int64.toUInt64 63)).toInt64) &&& (lN 3689348814741910323))) + ((Int64.toUInt64 (((l0 - (((Int64.toUInt64 l0 >>> (Int64.toUInt64 (Int32.toInt64 (nI 1)) &&& Int64.toUInt64 63)).toInt64) &&& (lN 6148914691236517205))) &&& (lN 3689348814741910323)) + (((Int64.toUInt64 (l0 - (((Int64.toUInt64 l0 >>> (Int64.toUInt64 (Int32.toInt64 (nI 1)) &&& Int64.toUInt64 63)).toInt64) &&& (lN 6148914691236517205))) >>> (Int64.toUInt64 (Int32.toInt64 (nI 2)) &&& Int64.toUInt64 63)).toInt64) &&& (lN 3689348814741910323))) >>> (Int64.toUInt64 (Int32.toInt64 (nI 4)) &&& Int64.toUInt64 63)).toInt64)) &&& (lN 1085102592571150095)) + ((Int64.toUInt64 (((((l0 - (((Int64.toUInt64 l0 >>> (Int64.toUInt64 (Int32.toInt64 (nI 1)) &&& Int64.toUInt64 63)).toInt64) &&& (lN 6148914691236517205))) &&& (lN 3689348814741910323)) + (((Int64.toUInt64 (l0 - (((Int64.toUInt64 l0 >>> (Int64.toUInt64 (Int32.toInt64 (nI 1)) &&& Int64.toUInt64 63)).toInt64) &&& (lN 6148914691236517205))) >>> (Int64.toUInt64 (Int32.toInt64 (nI 2)) &&& Int64.toUInt64 63)).toInt64) &&& (lN 3689348814741910323))) + ((Int64.toUInt64 (((l0 - (((Int64.toUInt64 l0 >>> (Int64.toUInt64 (Int32.toInt64 (nI 1)) &&& Int64.toUInt64 63)).toInt64) &&& (lN 6148914691236517205))) &&& (lN 3689348814741910323)) + (((Int64.toUInt64 (l0 - (((Int64.toUInt64 l0 >>> (Int64.toUInt64 (Int32.toInt64 (nI 1)) &&& Int64.toUInt64 63)).toInt64) &&& (lN 6148914691236517205))) >>> (Int64.toUInt64 (Int32.toInt64 (nI 2)) &&& Int64.toUInt64 63)).toInt64) &&& (lN 3689348814741910323))) >>> (Int64.toUInt64 (Int32.toInt64 (nI 4)) &&& Int64.toUInt64 63)).toInt64)) &&& (lN 1085102592571150095)) >>> (Int64.toUInt64 (Int32.toInt64 (nI 8)) &&& Int64.toUInt64 63)).toInt64)) + ((Int64.toUInt64 ((((((l0 - (((Int64.toUInt64 l0 >>> (Int64.toUInt64 (Int32.toInt64 (nI 1)) &&& Int64.toUInt64 63)).toInt64) &&& (lN 6148914691236517205))) &&& (lN 3689348814741910323)) + (((Int64.toUInt64 (l0 - (((Int64.toUInt64 l0 >>> (Int64.toUInt64 (Int32.toInt64 (nI 1)) &&& Int64.toUInt64 63)).toInt64) &&& (lN 6148914691236517205))) >>> (Int64.toUInt64 (Int32.toInt64 (nI 2)) &&& Int64.toUInt64 63)).toInt64) &&& (lN 3689348814741910323))) + ((Int64.toUInt64 (((l0 - (((Int64.toUInt64 l0 >>> (Int64.toUInt64 (Int32.toInt64 (nI 1)) &&& Int64.toUInt64 63)).toInt64) &&& (lN 6148914691236517205))) &&& (lN 3689348814741910323)) + (((Int64.toUInt64 (l0 - (((Int64.toUInt64 l0 >>> (Int64.toUInt64 (Int32.toInt64 (nI 1)) &&& Int64.toUInt64 63)).toInt64) &&& (lN 6148914691236517205))) >>> (Int64.toUInt64 (Int32.toInt64 (nI 2)) &&& Int64.toUInt64 63)).toInt64) &&& (lN 3689348814741910323))) >>> (Int64.toUInt64 (Int32.toInt64 (nI 4)) &&& Int64.toUInt64 63)).toInt64)) &&& (lN 1085102592571150095)) + ((Int64.toUInt64 (((((l0 - (((Int64.toUInt64 l0 >>> (Int64.toUInt64 (Int32.toInt64 (nI 1)) &&& Int64.toUInt64 63)).toInt64) &&& (lN 6148914691236517205))) &&& (lN 3689348814741910323)) + (((Int64.toUInt64 (l0 - (((Int64.toUInt64 l0 >>> (Int64.toUInt64 (Int32.toInt64 (nI 1)) &&& Int64.toUInt64 63)).toInt64) &&& (lN 6148914691236517205))) >>> (Int64.toUInt64 (Int32.toInt64 (nI 2)) &&& Int64.toUInt64 63)).toInt64) &&& (lN 3689348814741910323))) + ((Int64.toUInt64 (((l0 - (((Int64.toUInt64 l0 >>> (Int64.toUInt64 (Int32.toInt64 (nI 1)) &&& Int64.toUInt64 63)).toInt64) &&& (lN 6148914691236517205))) &&& (lN 3689348814741910323)) + (((Int64.toUInt64 (l0 - (((Int64.toUInt64 l0 >>> (Int64.toUInt64 (Int32.toInt64 (nI 1)) &&& Int64.toUInt64 63)).toInt64) &&& (lN 6148914691236517205))) >>> (Int64.toUInt64 (Int32.toInt64 (nI 2)) &&& Int64.toUInt64 63)).toInt64) &&& (lN 3689348814741910323))) >>> (Int64.toUInt64 (Int32.toInt64 (nI 4)) &&& Int64.toUInt64 63)).toInt64)) &&& (lN 1085102592571150095)) >>> (Int64.toUInt64 (Int32.toInt64 (nI 8)) &&& Int64.toUInt64 63)).toInt64)) >>> (Int64.toUInt64 (Int32.toInt64 (nI 16)) &&& Int64.toUInt64 63)).toInt64)) >>> (Int64.toUInt64 (Int32.toInt64 (nI 32)) &&& Int64.toUInt64 63)).toInt64))) &&& (nI 127)))), S) := by
  refine zs_run (L' := [some (.long l0), none]) rfl rfl ?_
  exact zs_lload_n rfl (zs_lload_n rfl (zs_iconst (v := nI 1) rfl (zs_lushr (zs_ldc2_w (zs_land (zs_lsub (zs_lstore_n (L' := [some (.long (l0 - (((Int64.toUInt64 l0 >>> (Int64.toUInt64 (Int32.toInt64 (nI 1)) &&& Int64.toUInt64 63)).toInt64) &&& (lN 6148914691236517205)))), none]) rfl rfl (zs_lload_n rfl (zs_ldc2_w (zs_land (zs_lload_n rfl (zs_iconst (v := nI 2) rfl (zs_lushr (zs_ldc2_w (zs_land (zs_ladd (zs_lstore_n (L' := [some (.long (((l0 - (((Int64.toUInt64 l0 >>> (Int64.toUInt64 (Int32.toInt64 (nI 1)) &&& Int64.toUInt64 63)).toInt64) &&& (lN 6148914691236517205))) &&& (lN 3689348814741910323)) + (((Int64.toUInt64 (l0 - (((Int64.toUInt64 l0 >>> (Int64.toUInt64 (Int32.toInt64 (nI 1)) &&& Int64.toUInt64 63)).toInt64) &&& (lN 6148914691236517205))) >>> (Int64.toUInt64 (Int32.toInt64 (nI 2)) &&& Int64.toUInt64 63)).toInt64) &&& (lN 3689348814741910323)))), none]) rfl rfl (zs_lload_n rfl (zs_lload_n rfl (zs_iconst (v := nI 4) rfl (zs_lushr (zs_ladd (zs_ldc2_w (zs_land (zs_lstore_n (L' := [some (.long (((((l0 - (((Int64.toUInt64 l0 >>> (Int64.toUInt64 (Int32.toInt64 (nI 1)) &&& Int64.toUInt64 63)).toInt64) &&& (lN 6148914691236517205))) &&& (lN 3689348814741910323)) + (((Int64.toUInt64 (l0 - (((Int64.toUInt64 l0 >>> (Int64.toUInt64 (Int32.toInt64 (nI 1)) &&& Int64.toUInt64 63)).toInt64) &&& (lN 6148914691236517205))) >>> (Int64.toUInt64 (Int32.toInt64 (nI 2)) &&& Int64.toUInt64 63)).toInt64) &&& (lN 3689348814741910323))) + ((Int64.toUInt64 (((l0 - (((Int64.toUInt64 l0 >>> (Int64.toUInt64 (Int32.toInt64 (nI 1)) &&& Int64.toUInt64 63)).toInt64) &&& (lN 6148914691236517205))) &&& (lN 3689348814741910323)) + (((Int64.toUInt64 (l0 - (((Int64.toUInt64 l0 >>> (Int64.toUInt64 (Int32.toInt64 (nI 1)) &&& Int64.toUInt64 63)).toInt64) &&& (lN 6148914691236517205))) >>> (Int64.toUInt64 (Int32.toInt64 (nI 2)) &&& Int64.toUInt64 63)).toInt64) &&& (lN 3689348814741910323))) >>> (Int64.toUInt64 (Int32.toInt64 (nI 4)) &&& Int64.toUInt64 63)).toInt64)) &&& (lN 1085102592571150095))), none]) rfl rfl (zs_lload_n rfl (zs_lload_n rfl (zs_bipush (v := nI 8) rfl (zs_lushr (zs_ladd (zs_lstore_n (L' := [some (.long ((((((l0 - (((Int64.toUInt64 l0 >>> (Int64.toUInt64 (Int32.toInt64 (nI 1)) &&& Int64.toUInt64 63)).toInt64) &&& (lN 6148914691236517205))) &&& (lN 3689348814741910323)) + (((Int64.toUInt64 (l0 - (((Int64.toUInt64 l0 >>> (Int64.toUInt64 (Int32.toInt64 (nI 1)) &&& Int64.toUInt64 63)).toInt64) &&& (lN 6148914691236517205))) >>> (Int64.toUInt64 (Int32.toInt64 (nI 2)) &&& Int64.toUInt64 63)).toInt64) &&& (lN 3689348814741910323))) + ((Int64.toUInt64 (((l0 - (((Int64.toUInt64 l0 >>> (Int64.toUInt64 (Int32.toInt64 (nI 1)) &&& Int64.toUInt64 63)).toInt64) &&& (lN 6148914691236517205))) &&& (lN 3689348814741910323)) + (((Int64.toUInt64 (l0 - (((Int64.toUInt64 l0 >>> (Int64.toUInt64 (Int32.toInt64 (nI 1)) &&& Int64.toUInt64 63)).toInt64) &&& (lN 6148914691236517205))) >>> (Int64.toUInt64 (Int32.toInt64 (nI 2)) &&& Int64.toUInt64 63)).toInt64) &&& (lN 3689348814741910323))) >>> (Int64.toUInt64 (Int32.toInt64 (nI 4)) &&& Int64.toUInt64 63)).toInt64)) &&& (lN 1085102592571150095)) + ((Int64.toUInt64 (((((l0 - (((Int64.toUInt64 l0 >>> (Int64.toUInt64 (Int32.toInt64 (nI 1)) &&& Int64.toUInt64 63)).toInt64) &&& (lN 6148914691236517205))) &&& (lN 3689348814741910323)) + (((Int64.toUInt64 (l0 - (((Int64.toUInt64 l0 >>> (Int64.toUInt64 (Int32.toInt64 (nI 1)) &&& Int64.toUInt64 63)).toInt64) &&& (lN 6148914691236517205))) >>> (Int64.toUInt64 (Int32.toInt64 (nI 2)) &&& Int64.toUInt64 63)).toInt64) &&& (lN 3689348814741910323))) + ((Int64.toUInt64 (((l0 - (((Int64.toUInt64 l0 >>> (Int64.toUInt64 (Int32.toInt64 (nI 1)) &&& Int64.toUInt64 63)).toInt64) &&& (lN 6148914691236517205))) &&& (lN 3689348814741910323)) + (((Int64.toUInt64 (l0 - (((Int64.toUInt64 l0 >>> (Int64.toUInt64 (Int32.toInt64 (nI 1)) &&& Int64.toUInt64 63)).toInt64) &&& (lN 6148914691236517205))) >>> (Int64.toUInt64 (Int32.toInt64 (nI 2)) &&& Int64.toUInt64 63)).toInt64) &&& (lN 3689348814741910323))) >>> (Int64.toUInt64 (Int32.toInt64 (nI 4)) &&& Int64.toUInt64 63)).toInt64)) &&& (lN 1085102592571150095)) >>> (Int64.toUInt64 (Int32.toInt64 (nI 8)) &&& Int64.toUInt64 63)).toInt64))), none]) rfl rfl (zs_lload_n rfl (zs_lload_n rfl (zs_bipush (v := nI 16) rfl (zs_lushr (zs_ladd (zs_lstore_n (L' := [some (.long (((((((l0 - (((Int64.toUInt64 l0 >>> (Int64.toUInt64 (Int32.toInt64 (nI 1)) &&& Int64.toUInt64 63)).toInt64) &&& (lN 6148914691236517205))) &&& (lN 3689348814741910323)) + (((Int64.toUInt64 (l0 - (((Int64.toUInt64 l0 >>> (Int64.toUInt64 (Int32.toInt64 (nI 1)) &&& Int64.toUInt64 63)).toInt64) &&& (lN 6148914691236517205))) >>> (Int64.toUInt64 (Int32.toInt64 (nI 2)) &&& Int64.toUInt64 63)).toInt64) &&& (lN 3689348814741910323))) + ((Int64.toUInt64 (((l0 - (((Int64.toUInt64 l0 >>> (Int64.toUInt64 (Int32.toInt64 (nI 1)) &&& Int64.toUInt64 63)).toInt64) &&& (lN 6148914691236517205))) &&& (lN 3689348814741910323)) + (((Int64.toUInt64 (l0 - (((Int64.toUInt64 l0 >>> (Int64.toUInt64 (Int32.toInt64 (nI 1)) &&& Int64.toUInt64 63)).toInt64) &&& (lN 6148914691236517205))) >>> (Int64.toUInt64 (Int32.toInt64 (nI 2)) &&& Int64.toUInt64 63)).toInt64) &&& (lN 3689348814741910323))) >>> (Int64.toUInt64 (Int32.toInt64 (nI 4)) &&& Int64.toUInt64 63)).toInt64)) &&& (lN 1085102592571150095)) + ((Int64.toUInt64 (((((l0 - (((Int64.toUInt64 l0 >>> (Int64.toUInt64 (Int32.toInt64 (nI 1)) &&& Int64.toUInt64 63)).toInt64) &&& (lN 6148914691236517205))) &&& (lN 3689348814741910323)) + (((Int64.toUInt64 (l0 - (((Int64.toUInt64 l0 >>> (Int64.toUInt64 (Int32.toInt64 (nI 1)) &&& Int64.toUInt64 63)).toInt64) &&& (lN 6148914691236517205))) >>> (Int64.toUInt64 (Int32.toInt64 (nI 2)) &&& Int64.toUInt64 63)).toInt64) &&& (lN 3689348814741910323))) + ((Int64.toUInt64 (((l0 - (((Int64.toUInt64 l0 >>> (Int64.toUInt64 (Int32.toInt64 (nI 1)) &&& Int64.toUInt64 63)).toInt64) &&& (lN 6148914691236517205))) &&& (lN 3689348814741910323)) + (((Int64.toUInt64 (l0 - (((Int64.toUInt64 l0 >>> (Int64.toUInt64 (Int32.toInt64 (nI 1)) &&& Int64.toUInt64 63)).toInt64) &&& (lN 6148914691236517205))) >>> (Int64.toUInt64 (Int32.toInt64 (nI 2)) &&& Int64.toUInt64 63)).toInt64) &&& (lN 3689348814741910323))) >>> (Int64.toUInt64 (Int32.toInt64 (nI 4)) &&& Int64.toUInt64 63)).toInt64)) &&& (lN 1085102592571150095)) >>> (Int64.toUInt64 (Int32.toInt64 (nI 8)) &&& Int64.toUInt64 63)).toInt64)) + ((Int64.toUInt64 ((((((l0 - (((Int64.toUInt64 l0 >>> (Int64.toUInt64 (Int32.toInt64 (nI 1)) &&& Int64.toUInt64 63)).toInt64) &&& (lN 6148914691236517205))) &&& (lN 3689348814741910323)) + (((Int64.toUInt64 (l0 - (((Int64.toUInt64 l0 >>> (Int64.toUInt64 (Int32.toInt64 (nI 1)) &&& Int64.toUInt64 63)).toInt64) &&& (lN 6148914691236517205))) >>> (Int64.toUInt64 (Int32.toInt64 (nI 2)) &&& Int64.toUInt64 63)).toInt64) &&& (lN 3689348814741910323))) + ((Int64.toUInt64 (((l0 - (((Int64.toUInt64 l0 >>> (Int64.toUInt64 (Int32.toInt64 (nI 1)) &&& Int64.toUInt64 63)).toInt64) &&& (lN 6148914691236517205))) &&& (lN 3689348814741910323)) + (((Int64.toUInt64 (l0 - (((Int64.toUInt64 l0 >>> (Int64.toUInt64 (Int32.toInt64 (nI 1)) &&& Int64.toUInt64 63)).toInt64) &&& (lN 6148914691236517205))) >>> (Int64.toUInt64 (Int32.toInt64 (nI 2)) &&& Int64.toUInt64 63)).toInt64) &&& (lN 3689348814741910323))) >>> (Int64.toUInt64 (Int32.toInt64 (nI 4)) &&& Int64.toUInt64 63)).toInt64)) &&& (lN 1085102592571150095)) + ((Int64.toUInt64 (((((l0 - (((Int64.toUInt64 l0 >>> (Int64.toUInt64 (Int32.toInt64 (nI 1)) &&& Int64.toUInt64 63)).toInt64) &&& (lN 6148914691236517205))) &&& (lN 3689348814741910323)) + (((Int64.toUInt64 (l0 - (((Int64.toUInt64 l0 >>> (Int64.toUInt64 (Int32.toInt64 (nI 1)) &&& Int64.toUInt64 63)).toInt64) &&& (lN 6148914691236517205))) >>> (Int64.toUInt64 (Int32.toInt64 (nI 2)) &&& Int64.toUInt64 63)).toInt64) &&& (lN 3689348814741910323))) + ((Int64.toUInt64 (((l0 - (((Int64.toUInt64 l0 >>> (Int64.toUInt64 (Int32.toInt64 (nI 1)) &&& Int64.toUInt64 63)).toInt64) &&& (lN 6148914691236517205))) &&& (lN 3689348814741910323)) + (((Int64.toUInt64 (l0 - (((Int64.toUInt64 l0 >>> (Int64.toUInt64 (Int32.toInt64 (nI 1)) &&& Int64.toUInt64 63)).toInt64) &&& (lN 6148914691236517205))) >>> (Int64.toUInt64 (Int32.toInt64 (nI 2)) &&& Int64.toUInt64 63)).toInt64) &&& (lN 3689348814741910323))) >>> (Int64.toUInt64 (Int32.toInt64 (nI 4)) &&& Int64.toUInt64 63)).toInt64)) &&& (lN 1085102592571150095)) >>> (Int64.toUInt64 (Int32.toInt64 (nI 8)) &&& Int64.toUInt64 63)).toInt64)) >>> (Int64.toUInt64 (Int32.toInt64 (nI 16)) &&& Int64.toUInt64 63)).toInt64))), none]) rfl rfl (zs_lload_n rfl (zs_lload_n rfl (zs_bipush (v := nI 32) rfl (zs_lushr (zs_ladd (zs_lstore_n (L' := [some (.long ((((((((l0 - (((Int64.toUInt64 l0 >>> (Int64.toUInt64 (Int32.toInt64 (nI 1)) &&& Int64.toUInt64 63)).toInt64) &&& (lN 6148914691236517205))) &&& (lN 3689348814741910323)) + (((Int64.toUInt64 (l0 - (((Int64.toUInt64 l0 >>> (Int64.toUInt64 (Int32.toInt64 (nI 1)) &&& Int64.toUInt64 63)).toInt64) &&& (lN 6148914691236517205))) >>> (Int64.toUInt64 (Int32.toInt64 (nI 2)) &&& Int64.toUInt64 63)).toInt64) &&& (lN 3689348814741910323))) + ((Int64.toUInt64 (((l0 - (((Int64.toUInt64 l0 >>> (Int64.toUInt64 (Int32.toInt64 (nI 1)) &&& Int64.toUInt64 63)).toInt64) &&& (lN 6148914691236517205))) &&& (lN 3689348814741910323)) + (((Int64.toUInt64 (l0 - (((Int64.toUInt64 l0 >>> (Int64.toUInt64 (Int32.toInt64 (nI 1)) &&& Int64.toUInt64 63)).toInt64) &&& (lN 6148914691236517205))) >>> (Int64.toUInt64 (Int32.toInt64 (nI 2)) &&& Int64.toUInt64 63)).toInt64) &&& (lN 3689348814741910323))) >>> (Int64.toUInt64 (Int32.toInt64 (nI 4)) &&& Int64.toUInt64 63)).toInt64)) &&& (lN 1085102592571150095)) + ((Int64.toUInt64 (((((l0 - (((Int64.toUInt64 l0 >>> (Int64.toUInt64 (Int32.toInt64 (nI 1)) &&& Int64.toUInt64 63)).toInt64) &&& (lN 6148914691236517205))) &&& (lN 3689348814741910323)) + (((Int64.toUInt64 (l0 - (((Int64.toUInt64 l0 >>> (Int64.toUInt64 (Int32.toInt64 (nI 1)) &&& Int64.toUInt64 63)).toInt64) &&& (lN 6148914691236517205))) >>> (Int64.toUInt64 (Int32.toInt64 (nI 2)) &&& Int64.toUInt64 63)).toInt64) &&& (lN 3689348814741910323))) + ((Int64.toUInt64 (((l0 - (((Int64.toUInt64 l0 >>> (Int64.toUInt64 (Int32.toInt64 (nI 1)) &&& Int64.toUInt64 63)).toInt64) &&& (lN 6148914691236517205))) &&& (lN 3689348814741910323)) + (((Int64.toUInt64 (l0 - (((Int64.toUInt64 l0 >>> (Int64.toUInt64 (Int32.toInt64 (nI 1)) &&& Int64.toUInt64 63)).toInt64) &&& (lN 6148914691236517205))) >>> (Int64.toUInt64 (Int32.toInt64 (nI 2)) &&& Int64.toUInt64 63)).toInt64) &&& (lN 3689348814741910323))) >>> (Int64.toUInt64 (Int32.toInt64 (nI 4)) &&& Int64.toUInt64 63)).toInt64)) &&& (lN 1085102592571150095)) >>> (Int64.toUInt64 (Int32.toInt64 (nI 8)) &&& Int64.toUInt64 63)).toInt64)) + ((Int64.toUInt64 ((((((l0 - (((Int64.toUInt64 l0 >>> (Int64.toUInt64 (Int32.toInt64 (nI 1)) &&& Int64.toUInt64 63)).toInt64) &&& (lN 6148914691236517205))) &&& (lN 3689348814741910323)) + (((Int64.toUInt64 (l0 - (((Int64.toUInt64 l0 >>> (Int64.toUInt64 (Int32.toInt64 (nI 1)) &&& Int64.toUInt64 63)).toInt64) &&& (lN 6148914691236517205))) >>> (Int64.toUInt64 (Int32.toInt64 (nI 2)) &&& Int64.toUInt64 63)).toInt64) &&& (lN 3689348814741910323))) + ((Int64.toUInt64 (((l0 - (((Int64.toUInt64 l0 >>> (Int64.toUInt64 (Int32.toInt64 (nI 1)) &&& Int64.toUInt64 63)).toInt64) &&& (lN 6148914691236517205))) &&& (lN 3689348814741910323)) + (((Int64.toUInt64 (l0 - (((Int64.toUInt64 l0 >>> (Int64.toUInt64 (Int32.toInt64 (nI 1)) &&& Int64.toUInt64 63)).toInt64) &&& (lN 6148914691236517205))) >>> (Int64.toUInt64 (Int32.toInt64 (nI 2)) &&& Int64.toUInt64 63)).toInt64) &&& (lN 3689348814741910323))) >>> (Int64.toUInt64 (Int32.toInt64 (nI 4)) &&& Int64.toUInt64 63)).toInt64)) &&& (lN 1085102592571150095)) + ((Int64.toUInt64 (((((l0 - (((Int64.toUInt64 l0 >>> (Int64.toUInt64 (Int32.toInt64 (nI 1)) &&& Int64.toUInt64 63)).toInt64) &&& (lN 6148914691236517205))) &&& (lN 3689348814741910323)) + (((Int64.toUInt64 (l0 - (((Int64.toUInt64 l0 >>> (Int64.toUInt64 (Int32.toInt64 (nI 1)) &&& Int64.toUInt64 63)).toInt64) &&& (lN 6148914691236517205))) >>> (Int64.toUInt64 (Int32.toInt64 (nI 2)) &&& Int64.toUInt64 63)).toInt64) &&& (lN 3689348814741910323))) + ((Int64.toUInt64 (((l0 - (((Int64.toUInt64 l0 >>> (Int64.toUInt64 (Int32.toInt64 (nI 1)) &&& Int64.toUInt64 63)).toInt64) &&& (lN 6148914691236517205))) &&& (lN 3689348814741910323)) + (((Int64.toUInt64 (l0 - (((Int64.toUInt64 l0 >>> (Int64.toUInt64 (Int32.toInt64 (nI 1)) &&& Int64.toUInt64 63)).toInt64) &&& (lN 6148914691236517205))) >>> (Int64.toUInt64 (Int32.toInt64 (nI 2)) &&& Int64.toUInt64 63)).toInt64) &&& (lN 3689348814741910323))) >>> (Int64.toUInt64 (Int32.toInt64 (nI 4)) &&& Int64.toUInt64 63)).toInt64)) &&& (lN 1085102592571150095)) >>> (Int64.toUInt64 (Int32.toInt64 (nI 8)) &&& Int64.toUInt64 63)).toInt64)) >>> (Int64.toUInt64 (Int32.toInt64 (nI 16)) &&& Int64.toUInt64 63)).toInt64)) + ((Int64.toUInt64 (((((((l0 - (((Int64.toUInt64 l0 >>> (Int64.toUInt64 (Int32.toInt64 (nI 1)) &&& Int64.toUInt64 63)).toInt64) &&& (lN 6148914691236517205))) &&& (lN 3689348814741910323)) + (((Int64.toUInt64 (l0 - (((Int64.toUInt64 l0 >>> (Int64.toUInt64 (Int32.toInt64 (nI 1)) &&& Int64.toUInt64 63)).toInt64) &&& (lN 6148914691236517205))) >>> (Int64.toUInt64 (Int32.toInt64 (nI 2)) &&& Int64.toUInt64 63)).toInt64) &&& (lN 3689348814741910323))) + ((Int64.toUInt64 (((l0 - (((Int64.toUInt64 l0 >>> (Int64.toUInt64 (Int32.toInt64 (nI 1)) &&& Int64.toUInt64 63)).toInt64) &&& (lN 6148914691236517205))) &&& (lN 3689348814741910323)) + (((Int64.toUInt64 (l0 - (((Int64.toUInt64 l0 >>> (Int64.toUInt64 (Int32.toInt64 (nI 1)) &&& Int64.toUInt64 63)).toInt64) &&& (lN 6148914691236517205))) >>> (Int64.toUInt64 (Int32.toInt64 (nI 2)) &&& Int64.toUInt64 63)).toInt64) &&& (lN 3689348814741910323))) >>> (Int64.toUInt64 (Int32.toInt64 (nI 4)) &&& Int64.toUInt64 63)).toInt64)) &&& (lN 1085102592571150095)) + ((Int64.toUInt64 (((((l0 - (((Int64.toUInt64 l0 >>> (Int64.toUInt64 (Int32.toInt64 (nI 1)) &&& Int64.toUInt64 63)).toInt64) &&& (lN 6148914691236517205))) &&& (lN 3689348814741910323)) + (((Int64.toUInt64 (l0 - (((Int64.toUInt64 l0 >>> (Int64.toUInt64 (Int32.toInt64 (nI 1)) &&& Int64.toUInt64 63)).toInt64) &&& (lN 6148914691236517205))) >>> (Int64.toUInt64 (Int32.toInt64 (nI 2)) &&& Int64.toUInt64 63)).toInt64) &&& (lN 3689348814741910323))) + ((Int64.toUInt64 (((l0 - (((Int64.toUInt64 l0 >>> (Int64.toUInt64 (Int32.toInt64 (nI 1)) &&& Int64.toUInt64 63)).toInt64) &&& (lN 6148914691236517205))) &&& (lN 3689348814741910323)) + (((Int64.toUInt64 (l0 - (((Int64.toUInt64 l0 >>> (Int64.toUInt64 (Int32.toInt64 (nI 1)) &&& Int64.toUInt64 63)).toInt64) &&& (lN 6148914691236517205))) >>> (Int64.toUInt64 (Int32.toInt64 (nI 2)) &&& Int64.toUInt64 63)).toInt64) &&& (lN 3689348814741910323))) >>> (Int64.toUInt64 (Int32.toInt64 (nI 4)) &&& Int64.toUInt64 63)).toInt64)) &&& (lN 1085102592571150095)) >>> (Int64.toUInt64 (Int32.toInt64 (nI 8)) &&& Int64.toUInt64 63)).toInt64)) + ((Int64.toUInt64 ((((((l0 - (((Int64.toUInt64 l0 >>> (Int64.toUInt64 (Int32.toInt64 (nI 1)) &&& Int64.toUInt64 63)).toInt64) &&& (lN 6148914691236517205))) &&& (lN 3689348814741910323)) + (((Int64.toUInt64 (l0 - (((Int64.toUInt64 l0 >>> (Int64.toUInt64 (Int32.toInt64 (nI 1)) &&& Int64.toUInt64 63)).toInt64) &&& (lN 6148914691236517205))) >>> (Int64.toUInt64 (Int32.toInt64 (nI 2)) &&& Int64.toUInt64 63)).toInt64) &&& (lN 3689348814741910323))) + ((Int64.toUInt64 (((l0 - (((Int64.toUInt64 l0 >>> (Int64.toUInt64 (Int32.toInt64 (nI 1)) &&& Int64.toUInt64 63)).toInt64) &&& (lN 6148914691236517205))) &&& (lN 3689348814741910323)) + (((Int64.toUInt64 (l0 - (((Int64.toUInt64 l0 >>> (Int64.toUInt64 (Int32.toInt64 (nI 1)) &&& Int64.toUInt64 63)).toInt64) &&& (lN 6148914691236517205))) >>> (Int64.toUInt64 (Int32.toInt64 (nI 2)) &&& Int64.toUInt64 63)).toInt64) &&& (lN 3689348814741910323))) >>> (Int64.toUInt64 (Int32.toInt64 (nI 4)) &&& Int64.toUInt64 63)).toInt64)) &&& (lN 1085102592571150095)) + ((Int64.toUInt64 (((((l0 - (((Int64.toUInt64 l0 >>> (Int64.toUInt64 (Int32.toInt64 (nI 1)) &&& Int64.toUInt64 63)).toInt64) &&& (lN 6148914691236517205))) &&& (lN 3689348814741910323)) + (((Int64.toUInt64 (l0 - (((Int64.toUInt64 l0 >>> (Int64.toUInt64 (Int32.toInt64 (nI 1)) &&& Int64.toUInt64 63)).toInt64) &&& (lN 6148914691236517205))) >>> (Int64.toUInt64 (Int32.toInt64 (nI 2)) &&& Int64.toUInt64 63)).toInt64) &&& (lN 3689348814741910323))) + ((Int64.toUInt64 (((l0 - (((Int64.toUInt64 l0 >>> (Int64.toUInt64 (Int32.toInt64 (nI 1)) &&& Int64.toUInt64 63)).toInt64) &&& (lN 6148914691236517205))) &&& (lN 3689348814741910323)) + (((Int64.toUInt64 (l0 - (((Int64.toUInt64 l0 >>> (Int64.toUInt64 (Int32.toInt64 (nI 1)) &&& Int64.toUInt64 63)).toInt64) &&& (lN 6148914691236517205))) >>> (Int64.toUInt64 (Int32.toInt64 (nI 2)) &&& Int64.toUInt64 63)).toInt64) &&& (lN 3689348814741910323))) >>> (Int64.toUInt64 (Int32.toInt64 (nI 4)) &&& Int64.toUInt64 63)).toInt64)) &&& (lN 1085102592571150095)) >>> (Int64.toUInt64 (Int32.toInt64 (nI 8)) &&& Int64.toUInt64 63)).toInt64)) >>> (Int64.toUInt64 (Int32.toInt64 (nI 16)) &&& Int64.toUInt64 63)).toInt64)) >>> (Int64.toUInt64 (Int32.toInt64 (nI 32)) &&& Int64.toUInt64 63)).toInt64))), none]) rfl rfl (zs_lload_n rfl (zs_l2i (zs_bipush (v := nI 127) rfl (zs_iand (zs_iret rfl))))))))))))))))))))))))))))))))))))))))))))))))
/-- java/lang/Math.max(II)I -/
noncomputable def z_R187 (d : Nat) : Nat → z_K := z_run false (some .int) [] (z_ew d) z_b187
theorem ze_187 (d : Nat) (as : List Value) (S : z_St) (h : Nat.ble (z_sl as).length 2 = true) : z_ew (d + 1) 187 as S = z_R187 d z_fuel 0 0 (z_in 2 as) [] S := zs_ew h
set_option maxRecDepth 100000 in
theorem zq_187_0 (d n z : Nat) (l0 : Int32) (l1 : Int32) (S : z_St) : z_R187 d (n + 1) 0 z [some (.int l0), some (.int l1)] [] S = if l0 < l1 then (z_R187 d n 9 z [some (.int l0), some (.int l1)] [] S) else (z_R187 d n 10 z [some (.int l0), some (.int l1)] [.int l0] S) := by
  refine zs_run (L' := [some (.int l0), some (.int l1)]) rfl rfl ?_
  exact zs_iload_n rfl (zs_iload_n rfl (zs_ic_lt rfl (zs_iload_n rfl (zs_goto rfl))))
set_option maxRecDepth 100000 in
theorem zq_187_9 (d n z : Nat) (l1 : Int32) (d0 : Option Value) (S : z_St) : z_R187 d (n + 1) 9 z [d0, some (.int l1)] [] S = z_R187 d n 10 z [none, some (.int l1)] [.int l1] S := by
  refine zs_run (L' := [none, some (.int l1)]) rfl rfl ?_
  exact zs_iload_n rfl (zs_nil rfl)
set_option maxRecDepth 100000 in
theorem zq_187_10 (d n z : Nat) (t0 : Int32) (d0 d1 : Option Value) (S : z_St) : z_R187 d (n + 1) 10 z [d0, d1] [.int t0] S = some (.inl (some (.int t0)), S) := by
  refine zs_run (L' := [none, none]) rfl rfl ?_
  exact zs_iret rfl
/-- java/lang/Math.min(II)I -/
noncomputable def z_R188 (d : Nat) : Nat → z_K := z_run false (some .int) [] (z_ew d) z_b188
theorem ze_188 (d : Nat) (as : List Value) (S : z_St) (h : Nat.ble (z_sl as).length 2 = true) : z_ew (d + 1) 188 as S = z_R188 d z_fuel 0 0 (z_in 2 as) [] S := zs_ew h
set_option maxRecDepth 100000 in
theorem zq_188_0 (d n z : Nat) (l0 : Int32) (l1 : Int32) (S : z_St) : z_R188 d (n + 1) 0 z [some (.int l0), some (.int l1)] [] S = if l1 < l0 then (z_R188 d n 9 z [some (.int l0), some (.int l1)] [] S) else (z_R188 d n 10 z [some (.int l0), some (.int l1)] [.int l0] S) := by
  refine zs_run (L' := [some (.int l0), some (.int l1)]) rfl rfl ?_
  exact zs_iload_n rfl (zs_iload_n rfl (zs_ic_gt rfl (zs_iload_n rfl (zs_goto rfl))))
set_option maxRecDepth 100000 in
theorem zq_188_9 (d n z : Nat) (l1 : Int32) (d0 : Option Value) (S : z_St) : z_R188 d (n + 1) 9 z [d0, some (.int l1)] [] S = z_R188 d n 10 z [none, some (.int l1)] [.int l1] S := by
  refine zs_run (L' := [none, some (.int l1)]) rfl rfl ?_
  exact zs_iload_n rfl (zs_nil rfl)
set_option maxRecDepth 100000 in
theorem zq_188_10 (d n z : Nat) (t0 : Int32) (d0 d1 : Option Value) (S : z_St) : z_R188 d (n + 1) 10 z [d0, d1] [.int t0] S = some (.inl (some (.int t0)), S) := by
  refine zs_run (L' := [none, none]) rfl rfl ?_
  exact zs_iret rfl
/-- java/util/Arrays.fill([JJ)V -/
noncomputable def z_R189 (d : Nat) : Nat → z_K := z_run false none [] (z_ew d) z_b189
theorem ze_189 (d : Nat) (as : List Value) (S : z_St) (h : Nat.ble (z_sl as).length 5 = true) : z_ew (d + 1) 189 as S = z_R189 d z_fuel 0 0 (z_in 5 as) [] S := zs_ew h
set_option maxRecDepth 100000 in
theorem zq_189_0 (d n z : Nat) (r0 : Nat) (l1 : Int64) (d2 d3 d4 : Option Value) (S : z_St) : z_R189 d (n + 1) 0 z [some (.ref r0), some (.long l1), d2, d3, d4] [] S = cond (Nat.beq r0 1100) (z_R189 d n 6 z [some (.ref r0), some (.long l1), none, some (.int (nI 0)), some (.int (nI 17))] [] S) (cond (Nat.blt 0 (z_at r0)) (z_R189 d n 6 z [some (.ref r0), some (.long l1), none, some (.int (nI 0)), some (.int (nI (z_ln r0)))] [] S) none) := by
  refine zs_run (L' := [some (.ref r0), some (.long l1), none, none, none]) rfl rfl ?_
  exact zs_iconst (v := nI 0) rfl (zs_istore_n (L' := [some (.ref r0), some (.long l1), none, some (.int (nI 0)), none]) rfl rfl (zs_aload_n rfl (zs_alc rfl (zs_istore (L' := [some (.ref r0), some (.long l1), none, some (.int (nI 0)), some (.int (nI 17))]) rfl rfl (zs_nil rfl)) (zs_istore (L' := [some (.ref r0), some (.long l1), none, some (.int (nI 0)), some (.int (nI (z_ln r0)))]) rfl rfl (zs_nil rfl)))))
set_option maxRecDepth 100000 in
theorem zq_189_6 (d n z : Nat) (r0 : Nat) (l1 : Int64) (l3 : Int32) (l4 : Int32) (d2 : Option Value) (S : z_St) : z_R189 d (n + 1) 6 z [some (.ref r0), some (.long l1), d2, some (.int l3), some (.int l4)] [] S = if l4 ≤ l3 then (z_R189 d n 22 z [some (.ref r0), some (.long l1), none, some (.int l3), some (.int l4)] [] S) else (cond (Nat.beq (z_at r0) 4 && z_ix l3 (z_ln r0)) (z_R189 d n 6 z [some (.ref r0), some (.long l1), none, some (.int (l3 + (nI 1))), some (.int l4)] [] (S.1, (z_w2 S.2 r0 ((l3).toNatClampNeg) l1))) none) := by
  refine zs_run (L' := [some (.ref r0), some (.long l1), none, some (.int l3), some (.int l4)]) rfl rfl ?_
  exact zs_iload_n rfl (zs_iload rfl (zs_ic_ge rfl (zs_aload_n rfl (zs_iload_n rfl (zs_lload_n rfl (zs_lasc (S' := (S.1, (z_w2 S.2 r0 ((l3).toNatClampNeg) l1))) rfl (zs_iinc (v := nI 1) (L' := [some (.ref r0), some (.long l1), none, some (.int (l3 + (nI 1))), some (.int l4)]) rfl rfl rfl rfl (zs_goto rfl))))))))
set_option maxRecDepth 100000 in
theorem zq_189_22 (d n z : Nat)  (d0 d1 d2 d3 d4 : Option Value) (S : z_St) : z_R189 d (n + 1) 22 z [d0, d1, d2, d3, d4] [] S = some (.inl none, S) := by
  refine zs_run (L' := [none, none, none, none, none]) rfl rfl ?_
  exact zs_ret rfl
/-- java/util/Arrays.fill([II)V -/
noncomputable def z_R190 (d : Nat) : Nat → z_K := z_run false none [] (z_ew d) z_b190
theorem ze_190 (d : Nat) (as : List Value) (S : z_St) (h : Nat.ble (z_sl as).length 4 = true) : z_ew (d + 1) 190 as S = z_R190 d z_fuel 0 0 (z_in 4 as) [] S := zs_ew h
set_option maxRecDepth 100000 in
theorem zq_190_0 (d n z : Nat) (r0 : Nat) (l1 : Int32) (d2 d3 : Option Value) (S : z_St) : z_R190 d (n + 1) 0 z [some (.ref r0), some (.int l1), d2, d3] [] S = cond (Nat.beq r0 1100) (z_R190 d n 5 z [some (.ref r0), some (.int l1), some (.int (nI 0)), some (.int (nI 17))] [] S) (cond (Nat.blt 0 (z_at r0)) (z_R190 d n 5 z [some (.ref r0), some (.int l1), some (.int (nI 0)), some (.int (nI (z_ln r0)))] [] S) none) := by
  refine zs_run (L' := [some (.ref r0), some (.int l1), none, none]) rfl rfl ?_
  exact zs_iconst (v := nI 0) rfl (zs_istore_n (L' := [some (.ref r0), some (.int l1), some (.int (nI 0)), none]) rfl rfl (zs_aload_n rfl (zs_alc rfl (zs_istore_n (L' := [some (.ref r0), some (.int l1), some (.int (nI 0)), some (.int (nI 17))]) rfl rfl (zs_nil rfl)) (zs_istore_n (L' := [some (.ref r0), some (.int l1), some (.int (nI 0)), some (.int (nI (z_ln r0)))]) rfl rfl (zs_nil rfl)))))
set_option maxRecDepth 100000 in
theorem zq_190_5 (d n z : Nat) (r0 : Nat) (l1 : Int32) (l2 : Int32) (l3 : Int32) (S : z_St) : z_R190 d (n + 1) 5 z [some (.ref r0), some (.int l1), some (.int l2), some (.int l3)] [] S = if l3 ≤ l2 then (z_R190 d n 20 z [some (.ref r0), some (.int l1), some (.int l2), some (.int l3)] [] S) else (cond (Nat.beq (z_at r0) 1 && z_ix l2 (z_ln r0)) (z_R190 d n 5 z [some (.ref r0), some (.int l1), some (.int (l2 + (nI 1))), some (.int l3)] [] ((z_w1 S.1 r0 ((l2).toNatClampNeg) l1), S.2)) none) := by
  refine zs_run (L' := [some (.ref r0), some (.int l1), some (.int l2), some (.int l3)]) rfl rfl ?_
  exact zs_iload_n rfl (zs_iload_n rfl (zs_ic_ge rfl (zs_aload_n rfl (zs_iload_n rfl (zs_iload_n rfl (zs_iasc (S' := ((z_w1 S.1 r0 ((l2).toNatClampNeg) l1), S.2)) rfl (zs_iinc (v := nI 1) (L' := [some (.ref r0), some (.int l1), some (.int (l2 + (nI 1))), some (.int l3)]) rfl rfl rfl rfl (zs_goto rfl))))))))
set_option maxRecDepth 100000 in
theorem zq_190_20 (d n z : Nat)  (d0 d1 d2 d3 : Option Value) (S : z_St) : z_R190 d (n + 1) 20 z [d0, d1, d2, d3] [] S = some (.inl none, S) := by
  refine zs_run (L' := [none, none, none, none]) rfl rfl ?_
  exact zs_ret rfl
end
section
/-! the greater, the smaller -/
theorem z_fuel_eq (k : Nat) (h : k ≤ 1000000) : z_fuel = (1000000 - k) + k := (Nat.sub_add_cancel h).symm
theorem z_maxv (d : Nat) (x y : Int32) (S : z_St) : z_ew (d + 1) 187 [.int x, .int y] S = some (.inl (some (.int (if x < y then y else x))), S) := by
  rw [ze_187 d _ _ rfl]
  show z_R187 d (999997 + 3) 0 0 [some (.int x), some (.int y)] [] S = _
  rw [zq_187_0]
  by_cases h : x < y
  · rw [if_pos h, zq_187_9, zq_187_10, if_pos h]
  · rw [if_neg h, zq_187_10, if_neg h]
theorem z_minv (d : Nat) (x y : Int32) (S : z_St) : z_ew (d + 1) 188 [.int x, .int y] S = some (.inl (some (.int (if y < x then y else x))), S) := by
  rw [ze_188 d _ _ rfl]
  show z_R188 d (999997 + 3) 0 0 [some (.int x), some (.int y)] [] S = _
  rw [zq_188_0]
  by_cases h : y < x
  · rw [if_pos h, zq_188_9, zq_188_10, if_pos h]
  · rw [if_neg h, zq_188_10, if_neg h]
theorem z_mx (d : Nat) : z_Mx d := by
  cases d with
  | zero => exact ⟨fun as S o S1 _ h => (by cases h), fun as S o S1 _ h => (by cases h)⟩
  | succ d =>
    constructor
    · intro as S o S1 hlen h
      match as, hlen with
      | [a, b], _ =>
        have hI : ∃ x y, a = .int x ∧ b = .int y := by
          cases a <;> cases b <;> first | exact ⟨_, _, rfl, rfl⟩ | cases h
        obtain ⟨x, y, rfl, rfl⟩ := hI
        rw [z_maxv] at h
        cases h
        exact ⟨x, y, rfl, rfl, rfl⟩
    · intro as S o S1 hlen h
      match as, hlen with
      | [a, b], _ =>
        have hI : ∃ x y, a = .int x ∧ b = .int y := by
          cases a <;> cases b <;> first | exact ⟨_, _, rfl, rfl⟩ | cases h
        obtain ⟨x, y, rfl, rfl⟩ := hI
        rw [z_minv] at h
        cases h
        exact ⟨x, y, rfl, rfl, rfl⟩
theorem z_sound {l : Launch} (hl0 : l.stackTraces = false) {B : Nat} {D : va_G} {ρ : Nat → Nat} {cA : Nat → ClassId} (hAp : z_Ap B ρ) (d : Nat) : z_IH l B D ρ cA d := z_ew_ok hl0 hAp (z_str l B D ρ cA) z_mx d
end
