theorem z_good_code {y : MethodName} {b : ByteArray} {n : Nat} {r : Option FieldType} : goodWord (.code y b n r) = true := rfl
theorem z_good_codeW {y : MethodName} {b : ByteArray} {n : Nat} {r : Option FieldType} {h : List (Nat × Nat × Nat × Nat)} : goodWord (.codeWith y b n r h) = true := rfl
set_option maxRecDepth 100000 in
theorem z_cwm_0 : Cond.code ⟨"SlipRoom$Law", "holds", "([III)Z"⟩ prog_2_method_2_code 5 (some .boolean) ∈ lw_tbl := (List.mem_append_right _ (List.mem_append_right _ (List.mem_append_right _ (List.mem_append_right _ (List.mem_append_left _ (List.mem_of_getElem? (i := 75) rfl))))))
set_option maxRecDepth 100000 in
theorem z_cwm_1 : Cond.code ⟨"SlipRoom$Law", "obey", "(I)V"⟩ prog_2_method_3_code 4 none ∈ lw_tbl := (List.mem_append_right _ (List.mem_append_right _ (List.mem_append_right _ (List.mem_append_right _ (List.mem_append_left _ (List.mem_of_getElem? (i := 80) rfl))))))
set_option maxRecDepth 100000 in
theorem z_cwm_2 : Cond.code ⟨"SlipRoom$Law", "apply", "(III)I"⟩ prog_2_method_4_code 3 (some .int) ∈ lw_tbl := (List.mem_append_right _ (List.mem_append_right _ (List.mem_append_right _ (List.mem_append_right _ (List.mem_append_left _ (List.mem_of_getElem? (i := 91) rfl))))))
set_option maxRecDepth 100000 in
theorem z_cwm_3 : Cond.code ⟨"SlipRoom$Law", "push", "(I)V"⟩ prog_2_method_5_code 2 none ∈ lw_tbl := (List.mem_append_right _ (List.mem_append_right _ (List.mem_append_right _ (List.mem_append_right _ (List.mem_append_left _ (List.mem_of_getElem? (i := 88) rfl))))))
set_option maxRecDepth 100000 in
theorem z_cwm_4 : Cond.code ⟨"SlipRoom$Law", "pop", "()I"⟩ prog_2_method_6_code 1 (some .int) ∈ lw_tbl := (List.mem_append_right _ (List.mem_append_right _ (List.mem_append_right _ (List.mem_append_right _ (List.mem_append_left _ (List.mem_of_getElem? (i := 84) rfl))))))
set_option maxRecDepth 100000 in
theorem z_cwm_5 : Cond.code ⟨"SlipRoom$Ledger", "clear", "()V"⟩ prog_3_method_2_code 1 none ∈ lw_tbl := (List.mem_append_right _ (List.mem_append_right _ (List.mem_append_right _ (List.mem_append_left _ (List.mem_of_getElem? (i := 188) rfl)))))
set_option maxRecDepth 100000 in
theorem z_cwm_6 : Cond.code ⟨"SlipRoom$Ledger", "copy", "(LSlipRoom$Ledger;)V"⟩ prog_3_method_3_code 2 none ∈ lw_tbl := (List.mem_append_right _ (List.mem_append_right _ (List.mem_append_left _ (List.mem_of_getElem? (i := 166) rfl))))
set_option maxRecDepth 100000 in
theorem z_cwm_7 : Cond.code ⟨"SlipRoom$Ledger", "isRead", "(II)Z"⟩ prog_3_method_4_code 3 (some .boolean) ∈ lw_tbl := (List.mem_append_right _ (List.mem_append_right _ (List.mem_append_right _ (List.mem_append_right _ (List.mem_append_left _ (List.mem_of_getElem? (i := 59) rfl))))))
set_option maxRecDepth 100000 in
theorem z_cwm_8 : Cond.code ⟨"SlipRoom$Ledger", "mark", "(IIII)V"⟩ prog_3_method_5_code 5 none ∈ lw_tbl := (List.mem_append_right _ (List.mem_append_right _ (List.mem_append_right _ (List.mem_append_right _ (List.mem_append_left _ (List.mem_of_getElem? (i := 55) rfl))))))
set_option maxRecDepth 100000 in
theorem z_cwm_9 : Cond.code ⟨"SlipRoom$Ledger", "openedPages", "(I)I"⟩ prog_3_method_6_code 7 (some .int) ∈ lw_tbl := (List.mem_append_right _ (List.mem_append_right _ (List.mem_append_right _ (List.mem_append_right _ (List.mem_append_left _ (List.mem_of_getElem? (i := 2) rfl))))))
set_option maxRecDepth 100000 in
theorem z_cwm_10 : Cond.code ⟨"SlipRoom$Ledger", "pagesInARow", "(II)I"⟩ prog_3_method_7_code 4 (some .int) ∈ lw_tbl := (List.mem_append_right _ (List.mem_append_right _ (List.mem_append_right _ (List.mem_append_right _ (List.mem_append_left _ (List.mem_of_getElem? (i := 132) rfl))))))
set_option maxRecDepth 100000 in
theorem z_cwm_11 : Cond.code ⟨"SlipRoom$Ledger", "onlyTheEnds", "(II)Z"⟩ prog_3_method_8_code 3 (some .boolean) ∈ lw_tbl := (List.mem_append_right _ (List.mem_append_right _ (List.mem_append_right _ (List.mem_append_right _ (List.mem_append_left _ (List.mem_of_getElem? (i := 136) rfl))))))
set_option maxRecDepth 100000 in
theorem z_cwm_12 : Cond.code ⟨"SlipRoom$Ledger", "enterLoan", "(IIIIII)V"⟩ prog_3_method_9_code 8 none ∈ lw_tbl := (List.mem_append_right _ (List.mem_append_right _ (List.mem_append_right _ (List.mem_append_right _ (List.mem_append_left _ (List.mem_of_getElem? (i := 95) rfl))))))
set_option maxRecDepth 100000 in
theorem z_cwm_13 : Cond.code ⟨"SlipRoom$Ledger", "slipsIn", "(I)I"⟩ prog_3_method_10_code 4 (some .int) ∈ lw_tbl := (List.mem_append_right _ (List.mem_append_right _ (List.mem_append_right _ (List.mem_append_right _ (List.mem_append_left _ (List.mem_of_getElem? (i := 15) rfl))))))
set_option maxRecDepth 100000 in
theorem z_cwm_14 : Cond.code ⟨"SlipRoom$Ledger", "moveSlips", "(III)I"⟩ prog_3_method_11_code 8 (some .int) ∈ lw_tbl := (List.mem_append_right _ (List.mem_append_right _ (List.mem_append_right _ (List.mem_append_right _ (List.mem_append_left _ (List.mem_of_getElem? (i := 114) rfl))))))
set_option maxRecDepth 100000 in
theorem z_cwm_15 : Cond.code ⟨"SlipRoom$Ledger", "enterLook", "(IIII)I"⟩ prog_3_method_12_code 6 (some .int) ∈ lw_tbl := (List.mem_append_right _ (List.mem_append_right _ (List.mem_append_right _ (List.mem_append_right _ (List.mem_append_left _ (List.mem_of_getElem? (i := 173) rfl))))))
set_option maxRecDepth 100000 in
theorem z_cwm_16 : Cond.code ⟨"SlipRoom$Ledger", "looksIn", "(I)I"⟩ prog_3_method_13_code 4 (some .int) ∈ lw_tbl := (List.mem_append_right _ (List.mem_append_right _ (List.mem_append_right _ (List.mem_append_right _ (List.mem_append_left _ (List.mem_of_getElem? (i := 165) rfl))))))
set_option maxRecDepth 100000 in
theorem z_cwm_17 : Cond.code ⟨"SlipRoom$Ledger", "lookBook", "(I)I"⟩ prog_3_method_14_code 2 (some .int) ∈ lw_tbl := (List.mem_append_right _ (List.mem_append_right _ (List.mem_append_right _ (List.mem_append_right _ (List.mem_append_left _ (List.mem_of_getElem? (i := 169) rfl))))))
set_option maxRecDepth 100000 in
theorem z_cwm_18 : Cond.code ⟨"SlipRoom$Ledger", "lookHour", "(I)I"⟩ prog_3_method_15_code 2 (some .int) ∈ lw_tbl := (List.mem_append_right _ (List.mem_append_right _ (List.mem_append_right _ (List.mem_append_right _ (List.mem_append_left _ (List.mem_of_getElem? (i := 193) rfl))))))
set_option maxRecDepth 100000 in
theorem z_cwm_19 : Cond.code ⟨"SlipRoom$Ledger", "lookColour", "(I)I"⟩ prog_3_method_16_code 2 (some .int) ∈ lw_tbl := (List.mem_append_right _ (List.mem_append_right _ (List.mem_append_right _ (List.mem_append_right _ (List.mem_append_left _ (List.mem_of_getElem? (i := 197) rfl))))))
set_option maxRecDepth 100000 in
theorem z_cwm_20 : Cond.code ⟨"SlipRoom$Ledger", "lookPage", "(I)I"⟩ prog_3_method_17_code 2 (some .int) ∈ lw_tbl := (List.mem_append_right _ (List.mem_append_right _ (List.mem_append_right _ (List.mem_append_right _ (List.mem_append_left _ (List.mem_of_getElem? (i := 201) rfl))))))
set_option maxRecDepth 100000 in
theorem z_cwm_21 : Cond.code ⟨"SlipRoom$Ledger", "enterWish", "(II)I"⟩ prog_3_method_18_code 3 (some .int) ∈ lw_tbl := (List.mem_append_right _ (List.mem_append_right _ (List.mem_append_right _ (List.mem_append_right _ (List.mem_append_right _ (List.mem_append_left _ (List.mem_of_getElem? (i := 61) rfl)))))))
set_option maxRecDepth 100000 in
theorem z_cwm_22 : Cond.code ⟨"SlipRoom$Parser", "parse", "(ILSlipRoom$Plan;)I"⟩ prog_4_method_2_code 4 (some .int) ∈ lw_tbl := (List.mem_append_right _ (List.mem_append_right _ (List.mem_append_right _ (List.mem_append_left _ (List.mem_of_getElem? (i := 9) rfl)))))
set_option maxRecDepth 100000 in
theorem z_cwm_23 : Cond.code ⟨"SlipRoom$Parser", "faultPlace", "()I"⟩ prog_4_method_3_code 1 (some .int) ∈ lw_tbl := (List.mem_append_right _ (List.mem_append_right _ (List.mem_append_right _ (List.mem_append_left _ (List.mem_of_getElem? (i := 184) rfl)))))
set_option maxRecDepth 100000 in
theorem z_cwm_24 : Cond.code ⟨"SlipRoom$Parser", "fail", "(I)V"⟩ prog_4_method_4_code 2 none ∈ lw_tbl := (List.mem_append_right _ (List.mem_append_right _ (List.mem_append_right _ (List.mem_append_left _ (List.mem_of_getElem? (i := 109) rfl)))))
set_option maxRecDepth 100000 in
theorem z_cwm_25 : Cond.code ⟨"SlipRoom$Parser", "bookClause", "()V"⟩ prog_4_method_5_code 2 none ∈ lw_tbl := (List.mem_append_right _ (List.mem_append_right _ (List.mem_append_right _ (List.mem_append_left _ (List.mem_of_getElem? (i := 105) rfl)))))
set_option maxRecDepth 100000 in
theorem z_cwm_26 : Cond.code ⟨"SlipRoom$Parser", "readerClause", "()V"⟩ prog_4_method_6_code 2 none ∈ lw_tbl := (List.mem_append_right _ (List.mem_append_right _ (List.mem_append_right _ (List.mem_append_left _ (List.mem_of_getElem? (i := 134) rfl)))))
set_option maxRecDepth 100000 in
theorem z_cwm_27 : Cond.code ⟨"SlipRoom$Parser", "passWord", "(LSlipRoom$Word;)Z"⟩ prog_4_method_7_code 3 (some .boolean) ∈ lw_tbl := (List.mem_append_right _ (List.mem_append_right _ (List.mem_append_right _ (List.mem_append_left _ (List.mem_of_getElem? (i := 124) rfl)))))
set_option maxRecDepth 100000 in
theorem z_cwm_28 : Cond.code ⟨"SlipRoom$Parser", "passSign", "(I)V"⟩ prog_4_method_8_code 2 none ∈ lw_tbl := (List.mem_append_right _ (List.mem_append_right _ (List.mem_append_right _ (List.mem_append_left _ (List.mem_of_getElem? (i := 128) rfl)))))
set_option maxRecDepth 100000 in
theorem z_cwm_29 : Cond.code ⟨"SlipRoom$Parser", "takeNumber", "(II)I"⟩ prog_4_method_9_code 4 (some .int) ∈ lw_tbl := (List.mem_append_right _ (List.mem_append_right _ (List.mem_append_right _ (List.mem_append_left _ (List.mem_of_getElem? (i := 118) rfl)))))
set_option maxRecDepth 100000 in
theorem z_cwm_30 : Cond.code ⟨"SlipRoom$Parser", "level", "(II)V"⟩ prog_4_method_10_code 7 none ∈ lw_tbl := (List.mem_append_right _ (List.mem_append_right _ (List.mem_append_right _ (List.mem_append_left _ (List.mem_of_getElem? (i := 146) rfl)))))
set_option maxRecDepth 100000 in
theorem z_cwm_31 : Cond.code ⟨"SlipRoom$Parser", "operand", "(II)V"⟩ prog_4_method_11_code 3 none ∈ lw_tbl := (List.mem_append_right _ (List.mem_append_right _ (List.mem_append_right _ (List.mem_append_left _ (List.mem_of_getElem? (i := 156) rfl)))))
set_option maxRecDepth 100000 in
theorem z_cwm_32 : Cond.code ⟨"SlipRoom$Parser", "exprWithin", "(I)V"⟩ prog_4_method_12_code 2 none ∈ lw_tbl := (List.mem_append_right _ (List.mem_append_right _ (List.mem_append_right _ (List.mem_append_left _ (List.mem_of_getElem? (i := 160) rfl)))))
set_option maxRecDepth 100000 in
theorem z_cwm_33 : Cond.code ⟨"SlipRoom$Parser", "passNots", "()I"⟩ prog_4_method_13_code 2 (some .int) ∈ lw_tbl := (List.mem_append_right _ (List.mem_append_right _ (List.mem_append_right _ (List.mem_append_left _ (List.mem_of_getElem? (i := 150) rfl)))))
set_option maxRecDepth 100000 in
theorem z_cwm_34 : Cond.code ⟨"SlipRoom$Parser", "takePart", "()V"⟩ prog_4_method_14_code 1 none ∈ lw_tbl := (List.mem_append_right _ (List.mem_append_right _ (List.mem_append_right _ (List.mem_append_left _ (List.mem_of_getElem? (i := 164) rfl)))))
set_option maxRecDepth 100000 in
theorem z_cwm_35 : Cond.code ⟨"SlipRoom$Plan", "clear", "()V"⟩ prog_5_method_2_code 1 none ∈ lw_tbl := (List.mem_append_right _ (List.mem_append_right _ (List.mem_append_right _ (List.mem_append_left _ (List.mem_of_getElem? (i := 13) rfl)))))
set_option maxRecDepth 100000 in
theorem z_cwm_36 : Cond.code ⟨"SlipRoom$Plan", "putCode", "(I)V"⟩ prog_5_method_3_code 2 none ∈ lw_tbl := (List.mem_append_right _ (List.mem_append_right _ (List.mem_append_right _ (List.mem_append_left _ (List.mem_of_getElem? (i := 168) rfl)))))
set_option maxRecDepth 100000 in
theorem z_cwm_37 : Cond.code ⟨"SlipRoom$Plan", "partBegin", "(II)I"⟩ prog_5_method_4_code 4 (some .int) ∈ lw_tbl := (List.mem_append_right _ (List.mem_append_right _ (List.mem_append_right _ (List.mem_append_right _ (List.mem_append_left _ (List.mem_of_getElem? (i := 51) rfl))))))
set_option maxRecDepth 100000 in
theorem z_cwm_38 : Cond.code ⟨"SlipRoom$Settling", "weigh", "([III)V"⟩ prog_6_method_2_code 5 none ∈ lw_tbl := (List.mem_append_right _ (List.mem_append_right _ (List.mem_append_right _ (List.mem_append_right _ (List.mem_append_right _ (List.mem_append_left _ (List.mem_of_getElem? (i := 89) rfl)))))))
set_option maxRecDepth 100000 in
theorem z_cwm_39 : Cond.code ⟨"SlipRoom$Settling", "weighSet", "([III)V"⟩ prog_6_method_3_code 6 none ∈ lw_tbl := (List.mem_append_right _ (List.mem_append_right _ (List.mem_append_right _ (List.mem_append_right _ (List.mem_append_right _ (List.mem_append_left _ (List.mem_of_getElem? (i := 93) rfl)))))))
set_option maxRecDepth 100000 in
theorem z_cwm_40 : Cond.code ⟨"SlipRoom$Settling", "looksFrom", "([III)I"⟩ prog_6_method_4_code 7 (some .int) ∈ lw_tbl := (List.mem_append_right _ (List.mem_append_right _ (List.mem_append_right _ (List.mem_append_right _ (List.mem_append_right _ (List.mem_append_left _ (List.mem_of_getElem? (i := 103) rfl)))))))
set_option maxRecDepth 100000 in
theorem z_cwm_41 : Cond.code ⟨"SlipRoom$Settling", "leftBy", "([IIII)I"⟩ prog_6_method_5_code 6 (some .int) ∈ lw_tbl := (List.mem_append_right _ (List.mem_append_right _ (List.mem_append_right _ (List.mem_append_right _ (List.mem_append_right _ (List.mem_append_left _ (List.mem_of_getElem? (i := 106) rfl)))))))
set_option maxRecDepth 100000 in
theorem z_cwm_42 : Cond.code ⟨"SlipRoom$Sharing", "gather", "(LSlipRoom$Plan;LSlipRoom$Ledger;I)V"⟩ prog_7_method_2_code 6 none ∈ lw_tbl := (List.mem_append_right _ (List.mem_append_right _ (List.mem_append_right _ (List.mem_append_right _ (List.mem_append_left _ (List.mem_of_getElem? (i := 184) rfl))))))
set_option maxRecDepth 100000 in
theorem z_cwm_43 : Cond.code ⟨"SlipRoom$Sharing", "waysInAll", "()I"⟩ prog_7_method_3_code 1 (some .int) ∈ lw_tbl := (List.mem_append_right _ (List.mem_append_right _ (List.mem_append_right _ (List.mem_append_right _ (List.mem_append_left _ (List.mem_of_getElem? (i := 230) rfl))))))
set_option maxRecDepth 100000 in
theorem z_cwm_44 : Cond.code ⟨"SlipRoom$Sharing", "readersOf", "(I)I"⟩ prog_7_method_4_code 4 (some .int) ∈ lw_tbl := (List.mem_append_right _ (List.mem_append_right _ (List.mem_append_right _ (List.mem_append_right _ (List.mem_append_right _ (List.mem_append_left _ (List.mem_of_getElem? (i := 11) rfl)))))))
set_option maxRecDepth 100000 in
theorem z_cwm_45 : Cond.code ⟨"SlipRoom$Sharing", "endOf", "(IZ)I"⟩ prog_7_method_5_code 7 (some .int) ∈ lw_tbl := (List.mem_append_right _ (List.mem_append_right _ (List.mem_append_right _ (List.mem_append_right _ (List.mem_append_right _ (List.mem_append_left _ (List.mem_of_getElem? (i := 38) rfl)))))))
set_option maxRecDepth 100000 in
theorem z_cwm_46 : Cond.code ⟨"SlipRoom$Sharing", "movedLooks", "()I"⟩ prog_7_method_6_code 3 (some .int) ∈ lw_tbl := (List.mem_append_right _ (List.mem_append_right _ (List.mem_append_right _ (List.mem_append_right _ (List.mem_append_right _ (List.mem_append_left _ (List.mem_of_getElem? (i := 49) rfl)))))))
set_option maxRecDepth 100000 in
theorem z_cwm_47 : Cond.code ⟨"SlipRoom$Sharing", "allLooks", "()I"⟩ prog_7_method_7_code 1 (some .int) ∈ lw_tbl := (List.mem_append_right _ (List.mem_append_right _ (List.mem_append_right _ (List.mem_append_right _ (List.mem_append_left _ (List.mem_of_getElem? (i := 215) rfl))))))
set_option maxRecDepth 100000 in
theorem z_cwm_48 : Cond.code ⟨"SlipRoom$Sharing", "enter", "(LSlipRoom$Ledger;I)V"⟩ prog_7_method_8_code 4 none ∈ lw_tbl := (List.mem_append_right _ (List.mem_append_right _ (List.mem_append_right _ (List.mem_append_right _ (List.mem_append_left _ (List.mem_of_getElem? (i := 189) rfl))))))
set_option maxRecDepth 100000 in
theorem z_cwm_49 : Cond.code ⟨"SlipRoom$Sharing", "addLoan", "(III)V"⟩ prog_7_method_9_code 6 none ∈ lw_tbl := (List.mem_append_right _ (List.mem_append_right _ (List.mem_append_right _ (List.mem_append_right _ (List.mem_append_left _ (List.mem_of_getElem? (i := 206) rfl))))))
set_option maxRecDepth 100000 in
theorem z_cwm_50 : Cond.code ⟨"SlipRoom$Sharing", "findFits", "(I)V"⟩ prog_7_method_10_code 6 none ∈ lw_tbl := (List.mem_append_right _ (List.mem_append_right _ (List.mem_append_right _ (List.mem_append_right _ (List.mem_append_left _ (List.mem_of_getElem? (i := 211) rfl))))))
set_option maxRecDepth 100000 in
theorem z_cwm_51 : Cond.code ⟨"SlipRoom$Sharing", "mayBeFirst", "(II)Z"⟩ prog_7_method_11_code 3 (some .boolean) ∈ lw_tbl := (List.mem_append_right _ (List.mem_append_right _ (List.mem_append_right _ (List.mem_append_right _ (List.mem_append_left _ (List.mem_of_getElem? (i := 222) rfl))))))
set_option maxRecDepth 100000 in
theorem z_cwm_52 : Cond.code ⟨"SlipRoom$Sharing", "mayFollow", "(III)Z"⟩ prog_7_method_12_code 8 (some .boolean) ∈ lw_tbl := (List.mem_append_right _ (List.mem_append_right _ (List.mem_append_right _ (List.mem_append_right _ (List.mem_append_left _ (List.mem_of_getElem? (i := 226) rfl))))))
set_option maxRecDepth 100000 in
theorem z_cwm_53 : Cond.code ⟨"SlipRoom$Sharing", "lastIn", "(I)I"⟩ prog_7_method_13_code 3 (some .int) ∈ lw_tbl := (List.mem_append_right _ (List.mem_append_right _ (List.mem_append_right _ (List.mem_append_right _ (List.mem_append_left _ (List.mem_of_getElem? (i := 218) rfl))))))
set_option maxRecDepth 100000 in
theorem z_cwm_54 : Cond.code ⟨"SlipRoom$Sharing", "split", "(I)V"⟩ prog_7_method_14_code 3 none ∈ lw_tbl := (List.mem_append_right _ (List.mem_append_right _ (List.mem_append_right _ (List.mem_append_right _ (List.mem_append_left _ (List.mem_of_getElem? (i := 234) rfl))))))
set_option maxRecDepth 100000 in
theorem z_cwm_55 : Cond.code ⟨"SlipRoom$Sharing", "addSharer", "(I)V"⟩ prog_7_method_15_code 5 none ∈ lw_tbl := (List.mem_append_right _ (List.mem_append_right _ (List.mem_append_right _ (List.mem_append_right _ (List.mem_append_left _ (List.mem_of_getElem? (i := 238) rfl))))))
set_option maxRecDepth 100000 in
theorem z_cwm_56 : Cond.code ⟨"SlipRoom$Sharing", "happens", "(II)Z"⟩ prog_7_method_16_code 3 (some .boolean) ∈ lw_tbl := (List.mem_append_right _ (List.mem_append_right _ (List.mem_append_right _ (List.mem_append_right _ (List.mem_append_right _ (List.mem_append_left _ (List.mem_of_getElem? (i := 23) rfl)))))))
set_option maxRecDepth 100000 in
theorem z_cwm_57 : Cond.code ⟨"SlipRoom$Sharing", "mayHave", "(II)Z"⟩ prog_7_method_17_code 5 (some .boolean) ∈ lw_tbl := (List.mem_append_right _ (List.mem_append_right _ (List.mem_append_right _ (List.mem_append_right _ (List.mem_append_right _ (List.mem_append_left _ (List.mem_of_getElem? (i := 15) rfl)))))))
set_option maxRecDepth 100000 in
theorem z_cwm_58 : Cond.code ⟨"SlipRoom$Sharing", "holds", "(II)Z"⟩ prog_7_method_18_code 5 (some .boolean) ∈ lw_tbl := (List.mem_append_right _ (List.mem_append_right _ (List.mem_append_right _ (List.mem_append_right _ (List.mem_append_right _ (List.mem_append_left _ (List.mem_of_getElem? (i := 19) rfl)))))))
set_option maxRecDepth 100000 in
theorem z_cwm_59 : Cond.code ⟨"SlipRoom$Tokens", "begin", "(I)V"⟩ prog_8_method_2_code 2 none ∈ lw_tbl := (List.mem_append_right _ (List.mem_append_right _ (List.mem_append_right _ (List.mem_append_left _ (List.mem_of_getElem? (i := 17) rfl)))))
set_option maxRecDepth 100000 in
theorem z_cwm_60 : Cond.code ⟨"SlipRoom$Tokens", "stop", "()V"⟩ prog_8_method_3_code 1 none ∈ lw_tbl := (List.mem_append_right _ (List.mem_append_right _ (List.mem_append_right _ (List.mem_append_left _ (List.mem_of_getElem? (i := 113) rfl)))))
set_option maxRecDepth 100000 in
theorem z_cwm_61 : Cond.code ⟨"SlipRoom$Tokens", "advance", "()V"⟩ prog_8_method_4_code 1 none ∈ lw_tbl := (List.mem_append_right _ (List.mem_append_right _ (List.mem_append_right _ (List.mem_append_left _ (List.mem_of_getElem? (i := 24) rfl)))))
set_option maxRecDepth 100000 in
theorem z_cwm_62 : Cond.code ⟨"SlipRoom$Tokens", "joins", "()I"⟩ prog_8_method_5_code 1 (some .int) ∈ lw_tbl := (List.mem_append_right _ (List.mem_append_right _ (List.mem_append_right _ (List.mem_append_left _ (List.mem_of_getElem? (i := 172) rfl)))))
set_option maxRecDepth 100000 in
theorem z_cwm_63 : Cond.code ⟨"SlipRoom$Tokens", "operation", "()I"⟩ prog_8_method_6_code 1 (some .int) ∈ lw_tbl := (List.mem_append_right _ (List.mem_append_right _ (List.mem_append_right _ (List.mem_append_left _ (List.mem_of_getElem? (i := 180) rfl)))))
set_option maxRecDepth 100000 in
theorem z_cwm_64 : Cond.code ⟨"SlipRoom$Tokens", "behindBlanks", "()I"⟩ prog_8_method_7_code 2 (some .int) ∈ lw_tbl := (List.mem_append_right _ (List.mem_append_right _ (List.mem_append_right _ (List.mem_append_left _ (List.mem_of_getElem? (i := 28) rfl)))))
set_option maxRecDepth 100000 in
theorem z_cwm_65 : Cond.code ⟨"SlipRoom$Tokens", "passLetters", "()V"⟩ prog_8_method_8_code 1 none ∈ lw_tbl := (List.mem_append_right _ (List.mem_append_right _ (List.mem_append_right _ (List.mem_append_left _ (List.mem_of_getElem? (i := 35) rfl)))))
set_option maxRecDepth 100000 in
theorem z_cwm_66 : Cond.code ⟨"SlipRoom$Tokens", "passDigits", "()V"⟩ prog_8_method_9_code 1 none ∈ lw_tbl := (List.mem_append_right _ (List.mem_append_right _ (List.mem_append_right _ (List.mem_append_left _ (List.mem_of_getElem? (i := 96) rfl)))))
set_option maxRecDepth 100000 in
theorem z_cwm_67 : Cond.code ⟨"SlipRoom$Tokens", "isLetter", "(I)Z"⟩ prog_8_method_10_code 1 (some .boolean) ∈ lw_tbl := (List.mem_append_right _ (List.mem_append_right _ (List.mem_append_right _ (List.mem_append_left _ (List.mem_of_getElem? (i := 31) rfl)))))
set_option maxRecDepth 100000 in
theorem z_cwm_68 : Cond.code ⟨"SlipRoom$Tokens", "isDigit", "(I)Z"⟩ prog_8_method_11_code 1 (some .boolean) ∈ lw_tbl := (List.mem_append_right _ (List.mem_append_right _ (List.mem_append_right _ (List.mem_append_left _ (List.mem_of_getElem? (i := 92) rfl)))))
set_option maxRecDepth 100000 in
theorem z_cwm_69 : Cond.code ⟨"SlipRoom$Tokens", "isSign", "(I)Z"⟩ prog_8_method_12_code 1 (some .boolean) ∈ lw_tbl := (List.mem_append_right _ (List.mem_append_right _ (List.mem_append_right _ (List.mem_append_left _ (List.mem_of_getElem? (i := 99) rfl)))))
set_option maxRecDepth 100000 in
theorem z_cwm_70 : Cond.code ⟨"SlipRoom$Turns", "clear", "()V"⟩ prog_9_method_2_code 1 none ∈ lw_tbl := (List.mem_append_right _ (List.mem_append_right _ (List.mem_append_right _ (List.mem_append_left _ (List.mem_of_getElem? (i := 198) rfl)))))
set_option maxRecDepth 100000 in
theorem z_cwm_71 : Cond.code ⟨"SlipRoom$Turns", "arrange", "(LSlipRoom$Ledger;)I"⟩ prog_9_method_3_code 2 (some .int) ∈ lw_tbl := (List.mem_append_right _ (List.mem_append_right _ (List.mem_append_left _ (List.mem_of_getElem? (i := 147) rfl))))
set_option maxRecDepth 100000 in
theorem z_cwm_72 : Cond.code ⟨"SlipRoom$Turns", "place", "(LSlipRoom$Ledger;IIII)V"⟩ prog_9_method_4_code 9 none ∈ lw_tbl := (List.mem_append_right _ (List.mem_append_right _ (List.mem_append_left _ (List.mem_of_getElem? (i := 152) rfl))))
set_option maxRecDepth 100000 in
theorem z_cwm_73 : Cond.code ⟨"SlipRoom$Word", "find", "([BII)LSlipRoom$Word;"⟩ prog_10_method_4_code 6 (some (.object "SlipRoom$Word")) ∈ lw_tbl := (List.mem_append_right _ (List.mem_append_right _ (List.mem_append_right _ (List.mem_append_left _ (List.mem_of_getElem? (i := 38) rfl)))))
set_option maxRecDepth 100000 in
theorem z_cwm_74 : Cond.code ⟨"SlipRoom", "feed", "(IIIII)I"⟩ prog_1_method_2_code 6 (some .int) ∈ lw_tbl := (List.mem_append_right _ (List.mem_append_right _ (List.mem_append_left _ (List.mem_of_getElem? (i := 131) rfl))))
set_option maxRecDepth 100000 in
theorem z_cwm_75 : Cond.code ⟨"SlipRoom", "room", "(I)I"⟩ prog_1_method_3_code 4 (some .int) ∈ lw_tbl := (List.mem_append_right _ (List.mem_append_right _ (List.mem_append_left _ (List.mem_of_getElem? (i := 179) rfl))))
set_option maxRecDepth 100000 in
theorem z_cwm_76 : Cond.code ⟨"SlipRoom", "fault", "()I"⟩ prog_1_method_4_code 1 (some .int) ∈ lw_tbl := (List.mem_append_right _ (List.mem_append_right _ (List.mem_append_left _ (List.mem_of_getElem? (i := 139) rfl))))
set_option maxRecDepth 100000 in
theorem z_cwm_77 : Cond.code ⟨"SlipRoom", "count", "(I)I"⟩ prog_1_method_5_code 2 (some .int) ∈ lw_tbl := (List.mem_append_right _ (List.mem_append_right _ (List.mem_append_right _ (List.mem_append_left _ (List.mem_of_getElem? (i := 206) rfl)))))
set_option maxRecDepth 100000 in
theorem z_cwm_78 : Cond.code ⟨"SlipRoom", "book", "(II)I"⟩ prog_1_method_6_code 3 (some .int) ∈ lw_tbl := (List.mem_append_right _ (List.mem_append_right _ (List.mem_append_right _ (List.mem_append_left _ (List.mem_of_getElem? (i := 233) rfl)))))
set_option maxRecDepth 100000 in
theorem z_cwm_79 : Cond.code ⟨"SlipRoom", "reader", "(II)I"⟩ prog_1_method_7_code 3 (some .int) ∈ lw_tbl := (List.mem_append_right _ (List.mem_append_right _ (List.mem_append_right _ (List.mem_append_right _ (List.mem_append_left _ (List.mem_of_getElem? (i := 23) rfl))))))
set_option maxRecDepth 100000 in
theorem z_cwm_80 : Cond.code ⟨"SlipRoom", "loan", "(IIII)I"⟩ prog_1_method_8_code 8 (some .int) ∈ lw_tbl := (List.mem_append_right _ (List.mem_append_right _ (List.mem_append_right _ (List.mem_append_right _ (List.mem_append_left _ (List.mem_of_getElem? (i := 36) rfl))))))
set_option maxRecDepth 100000 in
theorem z_cwm_81 : Cond.code ⟨"SlipRoom", "lent", "(II)I"⟩ prog_1_method_9_code 3 (some .int) ∈ lw_tbl := (List.mem_append_right _ (List.mem_append_right _ (List.mem_append_right _ (List.mem_append_right _ (List.mem_append_left _ (List.mem_of_getElem? (i := 102) rfl))))))
set_option maxRecDepth 100000 in
theorem z_cwm_82 : Cond.code ⟨"SlipRoom", "drop", "(III)I"⟩ prog_1_method_10_code 4 (some .int) ∈ lw_tbl := (List.mem_append_right _ (List.mem_append_right _ (List.mem_append_right _ (List.mem_append_right _ (List.mem_append_left _ (List.mem_of_getElem? (i := 110) rfl))))))
set_option maxRecDepth 100000 in
theorem z_cwm_83 : Cond.code ⟨"SlipRoom", "slip", "(II)I"⟩ prog_1_method_11_code 3 (some .int) ∈ lw_tbl := (List.mem_append_right _ (List.mem_append_right _ (List.mem_append_right _ (List.mem_append_right _ (List.mem_append_left _ (List.mem_of_getElem? (i := 121) rfl))))))
set_option maxRecDepth 100000 in
theorem z_cwm_84 : Cond.code ⟨"SlipRoom", "read", "(III)I"⟩ prog_1_method_12_code 5 (some .int) ∈ lw_tbl := (List.mem_append_right _ (List.mem_append_right _ (List.mem_append_right _ (List.mem_append_right _ (List.mem_append_left _ (List.mem_of_getElem? (i := 128) rfl))))))
set_option maxRecDepth 100000 in
theorem z_cwm_85 : Cond.code ⟨"SlipRoom", "has", "(III)Z"⟩ prog_1_method_13_code 4 (some .boolean) ∈ lw_tbl := (List.mem_append_right _ (List.mem_append_right _ (List.mem_append_right _ (List.mem_append_right _ (List.mem_append_left _ (List.mem_of_getElem? (i := 144) rfl))))))
set_option maxRecDepth 100000 in
theorem z_cwm_86 : Cond.code ⟨"SlipRoom", "ahead", "(III)I"⟩ prog_1_method_14_code 6 (some .int) ∈ lw_tbl := (List.mem_append_right _ (List.mem_append_right _ (List.mem_append_right _ (List.mem_append_right _ (List.mem_append_left _ (List.mem_of_getElem? (i := 153) rfl))))))
set_option maxRecDepth 100000 in
theorem z_cwm_87 : Cond.code ⟨"SlipRoom", "look", "(IIII)I"⟩ prog_1_method_15_code 6 (some .int) ∈ lw_tbl := (List.mem_append_right _ (List.mem_append_right _ (List.mem_append_right _ (List.mem_append_right _ (List.mem_append_left _ (List.mem_of_getElem? (i := 161) rfl))))))
set_option maxRecDepth 100000 in
theorem z_cwm_88 : Cond.code ⟨"SlipRoom", "ways", "(I)I"⟩ prog_1_method_16_code 2 (some .int) ∈ lw_tbl := (List.mem_append_right _ (List.mem_append_right _ (List.mem_append_right _ (List.mem_append_right _ (List.mem_append_left _ (List.mem_of_getElem? (i := 180) rfl))))))
set_option maxRecDepth 100000 in
theorem z_cwm_89 : Cond.code ⟨"SlipRoom", "whose", "(II)I"⟩ prog_1_method_17_code 4 (some .int) ∈ lw_tbl := (List.mem_append_right _ (List.mem_append_right _ (List.mem_append_right _ (List.mem_append_right _ (List.mem_append_right _ (List.mem_append_left _ (List.mem_of_getElem? (i := 5) rfl)))))))
set_option maxRecDepth 100000 in
theorem z_cwm_90 : Cond.code ⟨"SlipRoom", "ends", "(III)I"⟩ prog_1_method_18_code 4 (some .int) ∈ lw_tbl := (List.mem_append_right _ (List.mem_append_right _ (List.mem_append_right _ (List.mem_append_right _ (List.mem_append_right _ (List.mem_append_left _ (List.mem_of_getElem? (i := 33) rfl)))))))
set_option maxRecDepth 100000 in
theorem z_cwm_91 : Cond.code ⟨"SlipRoom", "moved", "(I)I"⟩ prog_1_method_19_code 2 (some .int) ∈ lw_tbl := (List.mem_append_right _ (List.mem_append_right _ (List.mem_append_right _ (List.mem_append_right _ (List.mem_append_right _ (List.mem_append_left _ (List.mem_of_getElem? (i := 45) rfl)))))))
set_option maxRecDepth 100000 in
theorem z_cwm_92 : Cond.code ⟨"SlipRoom", "wish", "(III)I"⟩ prog_1_method_20_code 4 (some .int) ∈ lw_tbl := (List.mem_append_right _ (List.mem_append_right _ (List.mem_append_right _ (List.mem_append_right _ (List.mem_append_right _ (List.mem_append_left _ (List.mem_of_getElem? (i := 57) rfl)))))))
set_option maxRecDepth 100000 in
theorem z_cwm_93 : Cond.code ⟨"SlipRoom", "waiting", "()I"⟩ prog_1_method_21_code 1 (some .int) ∈ lw_tbl := (List.mem_append_right _ (List.mem_append_right _ (List.mem_append_left _ (List.mem_of_getElem? (i := 143) rfl))))
set_option maxRecDepth 100000 in
theorem z_cwm_94 : Cond.code ⟨"SlipRoom", "turn", "(I)I"⟩ prog_1_method_22_code 2 (some .int) ∈ lw_tbl := (List.mem_append_right _ (List.mem_append_right _ (List.mem_append_right _ (List.mem_append_right _ (List.mem_append_right _ (List.mem_append_left _ (List.mem_of_getElem? (i := 68) rfl)))))))
set_option maxRecDepth 100000 in
theorem z_cwm_95 : Cond.code ⟨"SlipRoom", "tale", "(III)Z"⟩ prog_1_method_23_code 4 (some .boolean) ∈ lw_tbl := (List.mem_append_right _ (List.mem_append_right _ (List.mem_append_right _ (List.mem_append_right _ (List.mem_append_right _ (List.mem_append_left _ (List.mem_of_getElem? (i := 76) rfl)))))))
set_option maxRecDepth 100000 in
theorem z_cwm_96 : Cond.code ⟨"SlipRoom", "settle", "(II)I"⟩ prog_1_method_24_code 3 (some .int) ∈ lw_tbl := (List.mem_append_right _ (List.mem_append_right _ (List.mem_append_right _ (List.mem_append_right _ (List.mem_append_right _ (List.mem_append_left _ (List.mem_of_getElem? (i := 83) rfl)))))))
set_option maxRecDepth 100000 in
theorem z_cwm_97 : Cond.code ⟨"SlipRoom", "image", "()V"⟩ prog_1_method_25_code 1 none ∈ lw_tbl := (List.mem_append_right _ (List.mem_append_right _ (List.mem_append_left _ (List.mem_of_getElem? (i := 162) rfl))))
set_option maxRecDepth 100000 in
theorem z_cwm_98 : Cond.code ⟨"SlipRoom", "restore", "()Z"⟩ prog_1_method_26_code 1 (some .boolean) ∈ lw_tbl := (List.mem_append_right _ (List.mem_append_right _ (List.mem_append_left _ (List.mem_of_getElem? (i := 171) rfl))))
set_option maxRecDepth 100000 in
theorem z_cwm_99 : Cond.code ⟨"SlipRoom", "putBytes", "(I)V"⟩ prog_1_method_27_code 3 none ∈ lw_tbl := (List.mem_append_right _ (List.mem_append_right _ (List.mem_append_left _ (List.mem_of_getElem? (i := 135) rfl))))
set_option maxRecDepth 100000 in
theorem z_cwm_100 : Cond.code ⟨"SlipRoom", "requireBook", "(I)V"⟩ prog_1_method_28_code 2 none ∈ lw_tbl := (List.mem_append_right _ (List.mem_append_right _ (List.mem_append_right _ (List.mem_append_left _ (List.mem_of_getElem? (i := 237) rfl)))))
set_option maxRecDepth 100000 in
theorem z_cwm_101 : Cond.code ⟨"SlipRoom", "requireReader", "(I)V"⟩ prog_1_method_29_code 2 none ∈ lw_tbl := (List.mem_append_right _ (List.mem_append_right _ (List.mem_append_right _ (List.mem_append_right _ (List.mem_append_left _ (List.mem_of_getElem? (i := 27) rfl))))))
set_option maxRecDepth 100000 in
theorem z_cwm_102 : Cond.code ⟨"SlipRoom", "refused", "(I)I"⟩ prog_1_method_30_code 2 (some .int) ∈ lw_tbl := (List.mem_append_right _ (List.mem_append_right _ (List.mem_append_right _ (List.mem_append_left _ (List.mem_of_getElem? (i := 210) rfl)))))
set_option maxRecDepth 100000 in
theorem z_cwm_103 : Cond.code ⟨"SlipRoom", "cellOf", "(II)I"⟩ prog_1_method_31_code 2 (some .int) ∈ lw_tbl := (List.mem_append_right _ (List.mem_append_right _ (List.mem_append_right _ (List.mem_append_right _ (List.mem_append_left _ (List.mem_of_getElem? (i := 5) rfl))))))
set_option maxRecDepth 100000 in
theorem z_cwm_104 : Cond.code ⟨"SlipRoom", "onlyOne", "(I)I"⟩ prog_1_method_32_code 3 (some .int) ∈ lw_tbl := (List.mem_append_right _ (List.mem_append_right _ (List.mem_append_right _ (List.mem_append_right _ (List.mem_append_right _ (List.mem_append_left _ (List.mem_of_getElem? (i := 26) rfl)))))))
set_option maxRecDepth 100000 in
theorem z_cwm_105 : Cond.code ⟨"SlipRoom", "mayLend", "(IIII)Z"⟩ prog_1_method_33_code 5 (some .boolean) ∈ lw_tbl := (List.mem_append_right _ (List.mem_append_right _ (List.mem_append_right _ (List.mem_append_right _ (List.mem_append_left _ (List.mem_of_getElem? (i := 40) rfl))))))
set_option maxRecDepth 100000 in
theorem z_cwm_106 : Cond.code ⟨"SlipRoom", "beginOf", "(II)I"⟩ prog_1_method_34_code 4 (some .int) ∈ lw_tbl := (List.mem_append_right _ (List.mem_append_right _ (List.mem_append_right _ (List.mem_append_right _ (List.mem_append_left _ (List.mem_of_getElem? (i := 45) rfl))))))
set_option maxRecDepth 100000 in
theorem z_cwm_107 : Cond.code ⟨"SlipRoom", "readLoan", "(IIIII)I"⟩ prog_1_method_35_code 8 (some .int) ∈ lw_tbl := (List.mem_append_right _ (List.mem_append_right _ (List.mem_append_right _ (List.mem_append_right _ (List.mem_append_left _ (List.mem_of_getElem? (i := 63) rfl))))))
set_option maxRecDepth 100000 in
theorem z_cwm_108 : Cond.code ⟨"SlipRoom", "readHour", "(IIIII)I"⟩ prog_1_method_36_code 11 (some .int) ∈ lw_tbl := (List.mem_append_right _ (List.mem_append_right _ (List.mem_append_right _ (List.mem_append_right _ (List.mem_append_left _ (List.mem_of_getElem? (i := 67) rfl))))))
set_option maxRecDepth 100000 in
theorem z_cwm_109 : Cond.code ⟨"SlipRoom", "stopsBehind", "(IIIII)Z"⟩ prog_1_method_37_code 6 (some .boolean) ∈ lw_tbl := (List.mem_append_right _ (List.mem_append_right _ (List.mem_append_right _ (List.mem_append_right _ (List.mem_append_left _ (List.mem_of_getElem? (i := 71) rfl))))))
set_option maxRecDepth 100000 in
theorem z_cwm_110 : Cond.code ⟨"SlipRoomModel", "thrown", "()I"⟩ prog_12_method_2_code 1 (some .int) ∈ lw_tbl := (List.mem_append_right _ (List.mem_append_right _ (List.mem_append_right _ (List.mem_append_right _ (List.mem_append_right _ (List.mem_append_right _ (List.mem_append_left _ (List.mem_of_getElem? (i := 100) rfl))))))))
set_option maxRecDepth 100000 in
theorem z_cwm_111 : Cond.code ⟨"SlipRoomModel", "fail", "(I)I"⟩ prog_12_method_3_code 2 (some .int) ∈ lw_tbl := (List.mem_append_right _ (List.mem_append_right _ (List.mem_append_right _ (List.mem_append_right _ (List.mem_append_right _ (List.mem_append_right _ (List.mem_append_left _ (List.mem_of_getElem? (i := 112) rfl))))))))
set_option maxRecDepth 100000 in
theorem z_cwm_112 : Cond.code ⟨"SlipRoomModel", "isIn", "(III)Z"⟩ prog_12_method_4_code 3 (some .boolean) ∈ lw_tbl := (List.mem_append_right _ (List.mem_append_right _ (List.mem_append_right _ (List.mem_append_right _ (List.mem_append_right _ (List.mem_append_right _ (List.mem_append_left _ (List.mem_of_getElem? (i := 221) rfl))))))))
set_option maxRecDepth 100000 in
theorem z_cwm_113 : Cond.code ⟨"SlipRoomModel", "isBook", "(I)Z"⟩ prog_12_method_5_code 2 (some .boolean) ∈ lw_tbl := (List.mem_append_right _ (List.mem_append_right _ (List.mem_append_right _ (List.mem_append_right _ (List.mem_append_right _ (List.mem_append_right _ (List.mem_append_left _ (List.mem_of_getElem? (i := 229) rfl))))))))
set_option maxRecDepth 100000 in
theorem z_cwm_114 : Cond.code ⟨"SlipRoomModel", "isReader", "(I)Z"⟩ prog_12_method_6_code 2 (some .boolean) ∈ lw_tbl := (List.mem_append_right _ (List.mem_append_right _ (List.mem_append_right _ (List.mem_append_right _ (List.mem_append_right _ (List.mem_append_right _ (List.mem_append_right _ (List.mem_of_getElem? (i := 12) rfl))))))))
set_option maxRecDepth 100000 in
theorem z_cwm_115 : Cond.code ⟨"SlipRoomModel", "feed", "(IIIII)I"⟩ prog_12_method_7_code 8 (some .int) ∈ lw_tbl := (List.mem_append_right _ (List.mem_append_right _ (List.mem_append_right _ (List.mem_append_right _ (List.mem_append_right _ (List.mem_append_right _ (List.mem_append_left _ (List.mem_of_getElem? (i := 104) rfl))))))))
set_option maxRecDepth 100000 in
theorem z_cwm_116 : Cond.code ⟨"SlipRoomModel", "byteAt", "(I)I"⟩ prog_12_method_8_code 2 (some .int) ∈ lw_tbl := (List.mem_append_right _ (List.mem_append_right _ (List.mem_append_right _ (List.mem_append_right _ (List.mem_append_right _ (List.mem_append_right _ (List.mem_append_left _ (List.mem_of_getElem? (i := 120) rfl))))))))
set_option maxRecDepth 100000 in
theorem z_cwm_117 : Cond.code ⟨"SlipRoomModel", "isLetter", "(I)Z"⟩ prog_12_method_9_code 1 (some .boolean) ∈ lw_tbl := (List.mem_append_right _ (List.mem_append_right _ (List.mem_append_right _ (List.mem_append_right _ (List.mem_append_right _ (List.mem_append_right _ (List.mem_append_left _ (List.mem_of_getElem? (i := 123) rfl))))))))
set_option maxRecDepth 100000 in
theorem z_cwm_118 : Cond.code ⟨"SlipRoomModel", "isDigit", "(I)Z"⟩ prog_12_method_10_code 1 (some .boolean) ∈ lw_tbl := (List.mem_append_right _ (List.mem_append_right _ (List.mem_append_right _ (List.mem_append_right _ (List.mem_append_right _ (List.mem_append_right _ (List.mem_append_left _ (List.mem_of_getElem? (i := 126) rfl))))))))
set_option maxRecDepth 100000 in
theorem z_cwm_119 : Cond.code ⟨"SlipRoomModel", "isMark", "(I)Z"⟩ prog_12_method_11_code 1 (some .boolean) ∈ lw_tbl := (List.mem_append_right _ (List.mem_append_right _ (List.mem_append_right _ (List.mem_append_right _ (List.mem_append_right _ (List.mem_append_right _ (List.mem_append_left _ (List.mem_of_getElem? (i := 131) rfl))))))))
set_option maxRecDepth 100000 in
theorem z_cwm_120 : Cond.code ⟨"SlipRoomModel", "stepOn", "()V"⟩ prog_12_method_12_code 2 none ∈ lw_tbl := (List.mem_append_right _ (List.mem_append_right _ (List.mem_append_right _ (List.mem_append_right _ (List.mem_append_right _ (List.mem_append_right _ (List.mem_append_left _ (List.mem_of_getElem? (i := 116) rfl))))))))
set_option maxRecDepth 100000 in
theorem z_cwm_121 : Cond.code ⟨"SlipRoomModel", "wrong", "(I)V"⟩ prog_12_method_13_code 2 none ∈ lw_tbl := (List.mem_append_right _ (List.mem_append_right _ (List.mem_append_right _ (List.mem_append_right _ (List.mem_append_right _ (List.mem_append_right _ (List.mem_append_left _ (List.mem_of_getElem? (i := 145) rfl))))))))
set_option maxRecDepth 100000 in
theorem z_cwm_122 : Cond.code ⟨"SlipRoomModel", "is", "(Ljava/lang/String;)Z"⟩ prog_12_method_14_code 4 (some .boolean) ∈ lw_tbl := (List.mem_append_right _ (List.mem_append_right _ (List.mem_append_right _ (List.mem_append_right _ (List.mem_append_right _ (List.mem_append_right _ (List.mem_append_left _ (List.mem_of_getElem? (i := 135) rfl))))))))
set_option maxRecDepth 100000 in
theorem z_cwm_123 : Cond.code ⟨"SlipRoomModel", "isMarked", "(I)Z"⟩ prog_12_method_15_code 2 (some .boolean) ∈ lw_tbl := (List.mem_append_right _ (List.mem_append_right _ (List.mem_append_right _ (List.mem_append_right _ (List.mem_append_right _ (List.mem_append_right _ (List.mem_append_left _ (List.mem_of_getElem? (i := 171) rfl))))))))
set_option maxRecDepth 100000 in
theorem z_cwm_124 : Cond.code ⟨"SlipRoomModel", "which", "([Ljava/lang/String;)I"⟩ prog_12_method_16_code 3 (some .int) ∈ lw_tbl := (List.mem_append_right _ (List.mem_append_right _ (List.mem_append_right _ (List.mem_append_right _ (List.mem_append_right _ (List.mem_append_right _ (List.mem_append_left _ (List.mem_of_getElem? (i := 200) rfl))))))))
set_option maxRecDepth 100000 in
theorem z_cwm_125 : Cond.code ⟨"SlipRoomModel", "passes", "(Ljava/lang/String;)Z"⟩ prog_12_method_17_code 3 (some .boolean) ∈ lw_tbl := (List.mem_append_right _ (List.mem_append_right _ (List.mem_append_right _ (List.mem_append_right _ (List.mem_append_right _ (List.mem_append_right _ (List.mem_append_left _ (List.mem_of_getElem? (i := 154) rfl))))))))
set_option maxRecDepth 100000 in
theorem z_cwm_126 : Cond.code ⟨"SlipRoomModel", "mark", "(I)V"⟩ prog_12_method_18_code 2 none ∈ lw_tbl := (List.mem_append_right _ (List.mem_append_right _ (List.mem_append_right _ (List.mem_append_right _ (List.mem_append_right _ (List.mem_append_right _ (List.mem_append_left _ (List.mem_of_getElem? (i := 204) rfl))))))))
set_option maxRecDepth 100000 in
theorem z_cwm_127 : Cond.code ⟨"SlipRoomModel", "readNumber", "(II)I"⟩ prog_12_method_19_code 4 (some .int) ∈ lw_tbl := (List.mem_append_right _ (List.mem_append_right _ (List.mem_append_right _ (List.mem_append_right _ (List.mem_append_right _ (List.mem_append_right _ (List.mem_append_left _ (List.mem_of_getElem? (i := 149) rfl))))))))
set_option maxRecDepth 100000 in
theorem z_cwm_128 : Cond.code ⟨"SlipRoomModel", "lay", "(I)V"⟩ prog_12_method_20_code 2 none ∈ lw_tbl := (List.mem_append_right _ (List.mem_append_right _ (List.mem_append_right _ (List.mem_append_right _ (List.mem_append_right _ (List.mem_append_right _ (List.mem_append_left _ (List.mem_of_getElem? (i := 196) rfl))))))))
set_option maxRecDepth 100000 in
theorem z_cwm_129 : Cond.code ⟨"SlipRoomModel", "readPart", "(I)V"⟩ prog_12_method_21_code 3 none ∈ lw_tbl := (List.mem_append_right _ (List.mem_append_right _ (List.mem_append_right _ (List.mem_append_right _ (List.mem_append_right _ (List.mem_append_right _ (List.mem_append_left _ (List.mem_of_getElem? (i := 192) rfl))))))))
set_option maxRecDepth 100000 in
theorem z_cwm_130 : Cond.code ⟨"SlipRoomModel", "readProduct", "(I)V"⟩ prog_12_method_22_code 3 none ∈ lw_tbl := (List.mem_append_right _ (List.mem_append_right _ (List.mem_append_right _ (List.mem_append_right _ (List.mem_append_right _ (List.mem_append_right _ (List.mem_append_left _ (List.mem_of_getElem? (i := 188) rfl))))))))
set_option maxRecDepth 100000 in
theorem z_cwm_131 : Cond.code ⟨"SlipRoomModel", "readSum", "(I)V"⟩ prog_12_method_23_code 3 none ∈ lw_tbl := (List.mem_append_right _ (List.mem_append_right _ (List.mem_append_right _ (List.mem_append_right _ (List.mem_append_right _ (List.mem_append_right _ (List.mem_append_left _ (List.mem_of_getElem? (i := 184) rfl))))))))
set_option maxRecDepth 100000 in
theorem z_cwm_132 : Cond.code ⟨"SlipRoomModel", "readNot", "(I)V"⟩ prog_12_method_24_code 4 none ∈ lw_tbl := (List.mem_append_right _ (List.mem_append_right _ (List.mem_append_right _ (List.mem_append_right _ (List.mem_append_right _ (List.mem_append_right _ (List.mem_append_left _ (List.mem_of_getElem? (i := 179) rfl))))))))
set_option maxRecDepth 100000 in
theorem z_cwm_133 : Cond.code ⟨"SlipRoomModel", "readAnd", "(I)V"⟩ prog_12_method_25_code 2 none ∈ lw_tbl := (List.mem_append_right _ (List.mem_append_right _ (List.mem_append_right _ (List.mem_append_right _ (List.mem_append_right _ (List.mem_append_right _ (List.mem_append_left _ (List.mem_of_getElem? (i := 175) rfl))))))))
set_option maxRecDepth 100000 in
theorem z_cwm_134 : Cond.code ⟨"SlipRoomModel", "readExpression", "(I)V"⟩ prog_12_method_26_code 3 none ∈ lw_tbl := (List.mem_append_right _ (List.mem_append_right _ (List.mem_append_right _ (List.mem_append_right _ (List.mem_append_right _ (List.mem_append_right _ (List.mem_append_left _ (List.mem_of_getElem? (i := 167) rfl))))))))
set_option maxRecDepth 100000 in
theorem z_cwm_135 : Cond.code ⟨"SlipRoomModel", "readBook", "()V"⟩ prog_12_method_27_code 2 none ∈ lw_tbl := (List.mem_append_right _ (List.mem_append_right _ (List.mem_append_right _ (List.mem_append_right _ (List.mem_append_right _ (List.mem_append_right _ (List.mem_append_left _ (List.mem_of_getElem? (i := 141) rfl))))))))
set_option maxRecDepth 100000 in
theorem z_cwm_136 : Cond.code ⟨"SlipRoomModel", "readReader", "()V"⟩ prog_12_method_28_code 2 none ∈ lw_tbl := (List.mem_append_right _ (List.mem_append_right _ (List.mem_append_right _ (List.mem_append_right _ (List.mem_append_right _ (List.mem_append_right _ (List.mem_append_left _ (List.mem_of_getElem? (i := 159) rfl))))))))
set_option maxRecDepth 100000 in
theorem z_cwm_137 : Cond.code ⟨"SlipRoomModel", "room", "(I)I"⟩ prog_12_method_29_code 2 (some .int) ∈ lw_tbl := (List.mem_append_right _ (List.mem_append_right _ (List.mem_append_right _ (List.mem_append_right _ (List.mem_append_right _ (List.mem_append_right _ (List.mem_append_left _ (List.mem_of_getElem? (i := 108) rfl))))))))
set_option maxRecDepth 100000 in
theorem z_cwm_138 : Cond.code ⟨"SlipRoomModel", "take", "()V"⟩ prog_12_method_30_code 2 none ∈ lw_tbl := (List.mem_append_right _ (List.mem_append_right _ (List.mem_append_right _ (List.mem_append_right _ (List.mem_append_right _ (List.mem_append_right _ (List.mem_append_left _ (List.mem_of_getElem? (i := 210) rfl))))))))
set_option maxRecDepth 100000 in
theorem z_cwm_139 : Cond.code ⟨"SlipRoomModel", "fault", "()I"⟩ prog_12_method_31_code 1 (some .int) ∈ lw_tbl := (List.mem_append_right _ (List.mem_append_right _ (List.mem_append_right _ (List.mem_append_right _ (List.mem_append_right _ (List.mem_append_right _ (List.mem_append_left _ (List.mem_of_getElem? (i := 214) rfl))))))))
set_option maxRecDepth 100000 in
theorem z_cwm_140 : Cond.code ⟨"SlipRoomModel", "count", "(I)I"⟩ prog_12_method_32_code 2 (some .int) ∈ lw_tbl := (List.mem_append_right _ (List.mem_append_right _ (List.mem_append_right _ (List.mem_append_right _ (List.mem_append_right _ (List.mem_append_right _ (List.mem_append_left _ (List.mem_of_getElem? (i := 218) rfl))))))))
set_option maxRecDepth 100000 in
theorem z_cwm_141 : Cond.code ⟨"SlipRoomModel", "pair", "(II)I"⟩ prog_12_method_33_code 2 (some .int) ∈ lw_tbl := (List.mem_append_right _ (List.mem_append_right _ (List.mem_append_right _ (List.mem_append_right _ (List.mem_append_right _ (List.mem_append_right _ (List.mem_append_right _ (List.mem_of_getElem? (i := 0) rfl))))))))
set_option maxRecDepth 100000 in
theorem z_cwm_142 : Cond.code ⟨"SlipRoomModel", "hasRead", "(III)Z"⟩ prog_12_method_34_code 4 (some .boolean) ∈ lw_tbl := (List.mem_append_right _ (List.mem_append_right _ (List.mem_append_right _ (List.mem_append_right _ (List.mem_append_right _ (List.mem_append_right _ (List.mem_append_left _ (List.mem_of_getElem? (i := 237) rfl))))))))
set_option maxRecDepth 100000 in
theorem z_cwm_143 : Cond.code ⟨"SlipRoomModel", "unopened", "(I)I"⟩ prog_12_method_35_code 6 (some .int) ∈ lw_tbl := (List.mem_append_right _ (List.mem_append_right _ (List.mem_append_right _ (List.mem_append_right _ (List.mem_append_right _ (List.mem_append_right _ (List.mem_append_left _ (List.mem_of_getElem? (i := 233) rfl))))))))
set_option maxRecDepth 100000 in
theorem z_cwm_144 : Cond.code ⟨"SlipRoomModel", "slipsIn", "(I)I"⟩ prog_12_method_36_code 4 (some .int) ∈ lw_tbl := (List.mem_append_right _ (List.mem_append_right _ (List.mem_append_right _ (List.mem_append_right _ (List.mem_append_right _ (List.mem_append_right _ (List.mem_append_right _ (List.mem_of_getElem? (i := 4) rfl))))))))
set_option maxRecDepth 100000 in
theorem z_cwm_145 : Cond.code ⟨"SlipRoomModel", "book", "(II)I"⟩ prog_12_method_37_code 3 (some .int) ∈ lw_tbl := (List.mem_append_right _ (List.mem_append_right _ (List.mem_append_right _ (List.mem_append_right _ (List.mem_append_right _ (List.mem_append_right _ (List.mem_append_left _ (List.mem_of_getElem? (i := 225) rfl))))))))
set_option maxRecDepth 100000 in
theorem z_cwm_146 : Cond.code ⟨"SlipRoomModel", "reader", "(II)I"⟩ prog_12_method_38_code 3 (some .int) ∈ lw_tbl := (List.mem_append_right _ (List.mem_append_right _ (List.mem_append_right _ (List.mem_append_right _ (List.mem_append_right _ (List.mem_append_right _ (List.mem_append_right _ (List.mem_of_getElem? (i := 8) rfl))))))))
set_option maxRecDepth 100000 in
theorem z_cwm_147 : Cond.code ⟨"SlipRoomModel", "reckon", "(III)I"⟩ prog_12_method_39_code 3 (some .int) ∈ lw_tbl := (List.mem_append_right _ (List.mem_append_right _ (List.mem_append_right _ (List.mem_append_right _ (List.mem_append_right _ (List.mem_append_right _ (List.mem_append_right _ (List.mem_of_getElem? (i := 36) rfl))))))))
set_option maxRecDepth 100000 in
theorem z_cwm_148 : Cond.code ⟨"SlipRoomModel", "stops", "(IIIII)Z"⟩ prog_12_method_40_code 9 (some .boolean) ∈ lw_tbl := (List.mem_append_right _ (List.mem_append_right _ (List.mem_append_right _ (List.mem_append_right _ (List.mem_append_right _ (List.mem_append_right _ (List.mem_append_right _ (List.mem_of_getElem? (i := 33) rfl))))))))
set_option maxRecDepth 100000 in
theorem z_cwm_149 : Cond.code ⟨"SlipRoomModel", "turnPage", "(IIII)V"⟩ prog_12_method_41_code 5 none ∈ lw_tbl := (List.mem_append_right _ (List.mem_append_right _ (List.mem_append_right _ (List.mem_append_right _ (List.mem_append_right _ (List.mem_append_right _ (List.mem_append_right _ (List.mem_of_getElem? (i := 20) rfl))))))))
set_option maxRecDepth 100000 in
theorem z_cwm_150 : Cond.code ⟨"SlipRoomModel", "readOf", "(II)I"⟩ prog_12_method_42_code 5 (some .int) ∈ lw_tbl := (List.mem_append_right _ (List.mem_append_right _ (List.mem_append_right _ (List.mem_append_right _ (List.mem_append_right _ (List.mem_append_right _ (List.mem_append_right _ (List.mem_of_getElem? (i := 24) rfl))))))))
set_option maxRecDepth 100000 in
theorem z_cwm_151 : Cond.code ⟨"SlipRoomModel", "beginOf", "(II)I"⟩ prog_12_method_43_code 5 (some .int) ∈ lw_tbl := (List.mem_append_right _ (List.mem_append_right _ (List.mem_append_right _ (List.mem_append_right _ (List.mem_append_right _ (List.mem_append_right _ (List.mem_append_right _ (List.mem_of_getElem? (i := 28) rfl))))))))
set_option maxRecDepth 100000 in
theorem z_cwm_152 : Cond.code ⟨"SlipRoomModel", "loan", "(IIII)I"⟩ prog_12_method_44_code 11 (some .int) ∈ lw_tbl := (List.mem_append_right _ (List.mem_append_right _ (List.mem_append_right _ (List.mem_append_right _ (List.mem_append_right _ (List.mem_append_right _ (List.mem_append_right _ (List.mem_of_getElem? (i := 16) rfl))))))))
set_option maxRecDepth 100000 in
theorem z_cwm_153 : Cond.code ⟨"SlipRoomModel", "lent", "(II)I"⟩ prog_12_method_45_code 3 (some .int) ∈ lw_tbl := (List.mem_append_right _ (List.mem_append_right _ (List.mem_append_right _ (List.mem_append_right _ (List.mem_append_right _ (List.mem_append_right _ (List.mem_append_right _ (List.mem_of_getElem? (i := 40) rfl))))))))
set_option maxRecDepth 100000 in
theorem z_cwm_154 : Cond.code ⟨"SlipRoomModel", "drop", "(III)I"⟩ prog_12_method_46_code 9 (some .int) ∈ lw_tbl := (List.mem_append_right _ (List.mem_append_right _ (List.mem_append_right _ (List.mem_append_right _ (List.mem_append_right _ (List.mem_append_right _ (List.mem_append_right _ (List.mem_of_getElem? (i := 44) rfl))))))))
set_option maxRecDepth 100000 in
theorem z_cwm_155 : Cond.code ⟨"SlipRoomModel", "slip", "(II)I"⟩ prog_12_method_47_code 3 (some .int) ∈ lw_tbl := (List.mem_append_right _ (List.mem_append_right _ (List.mem_append_right _ (List.mem_append_right _ (List.mem_append_right _ (List.mem_append_right _ (List.mem_append_right _ (List.mem_of_getElem? (i := 48) rfl))))))))
set_option maxRecDepth 100000 in
theorem z_cwm_156 : Cond.code ⟨"SlipRoomModel", "inARow", "(II)I"⟩ prog_12_method_48_code 4 (some .int) ∈ lw_tbl := (List.mem_append_right _ (List.mem_append_right _ (List.mem_append_right _ (List.mem_append_right _ (List.mem_append_right _ (List.mem_append_right _ (List.mem_append_right _ (List.mem_of_getElem? (i := 56) rfl))))))))
set_option maxRecDepth 100000 in
theorem z_cwm_157 : Cond.code ⟨"SlipRoomModel", "read", "(III)I"⟩ prog_12_method_49_code 4 (some .int) ∈ lw_tbl := (List.mem_append_right _ (List.mem_append_right _ (List.mem_append_right _ (List.mem_append_right _ (List.mem_append_right _ (List.mem_append_right _ (List.mem_append_right _ (List.mem_of_getElem? (i := 52) rfl))))))))
set_option maxRecDepth 100000 in
theorem z_cwm_158 : Cond.code ⟨"SlipRoomModel", "has", "(III)Z"⟩ prog_12_method_50_code 4 (some .boolean) ∈ lw_tbl := (List.mem_append_right _ (List.mem_append_right _ (List.mem_append_right _ (List.mem_append_right _ (List.mem_append_right _ (List.mem_append_right _ (List.mem_append_right _ (List.mem_of_getElem? (i := 60) rfl))))))))
set_option maxRecDepth 100000 in
theorem z_cwm_159 : Cond.code ⟨"SlipRoomModel", "ahead", "(III)I"⟩ prog_12_method_51_code 4 (some .int) ∈ lw_tbl := (List.mem_append_right _ (List.mem_append_right _ (List.mem_append_right _ (List.mem_append_right _ (List.mem_append_right _ (List.mem_append_right _ (List.mem_append_right _ (List.mem_of_getElem? (i := 64) rfl))))))))
set_option maxRecDepth 100000 in
theorem z_cwm_160 : Cond.code ⟨"SlipRoomModel", "looksOf", "(I)I"⟩ prog_12_method_52_code 4 (some .int) ∈ lw_tbl := (List.mem_append_right _ (List.mem_append_right _ (List.mem_append_right _ (List.mem_append_right _ (List.mem_append_right _ (List.mem_append_right _ (List.mem_append_right _ (List.mem_of_getElem? (i := 72) rfl))))))))
set_option maxRecDepth 100000 in
theorem z_cwm_161 : Cond.code ⟨"SlipRoomModel", "look", "(IIII)I"⟩ prog_12_method_53_code 5 (some .int) ∈ lw_tbl := (List.mem_append_right _ (List.mem_append_right _ (List.mem_append_right _ (List.mem_append_right _ (List.mem_append_right _ (List.mem_append_right _ (List.mem_append_right _ (List.mem_of_getElem? (i := 68) rfl))))))))
set_option maxRecDepth 100000 in
theorem z_cwm_162 : Cond.code ⟨"SlipRoomModel", "lentBetween", "(IIII)I"⟩ prog_12_method_54_code 7 (some .int) ∈ lw_tbl := (List.mem_append_right _ (List.mem_append_right _ (List.mem_append_right _ (List.mem_append_right _ (List.mem_append_right _ (List.mem_append_right _ (List.mem_append_right _ (List.mem_of_getElem? (i := 100) rfl))))))))
set_option maxRecDepth 100000 in
theorem z_cwm_163 : Cond.code ⟨"SlipRoomModel", "begunBetween", "(IIII)I"⟩ prog_12_method_55_code 7 (some .int) ∈ lw_tbl := (List.mem_append_right _ (List.mem_append_right _ (List.mem_append_right _ (List.mem_append_right _ (List.mem_append_right _ (List.mem_append_right _ (List.mem_append_right _ (List.mem_of_getElem? (i := 104) rfl))))))))
set_option maxRecDepth 100000 in
theorem z_cwm_164 : Cond.code ⟨"SlipRoomModel", "layLooks", "(II)V"⟩ prog_12_method_56_code 5 none ∈ lw_tbl := (List.mem_append_right _ (List.mem_append_right _ (List.mem_append_right _ (List.mem_append_right _ (List.mem_append_right _ (List.mem_append_right _ (List.mem_append_right _ (List.mem_of_getElem? (i := 84) rfl))))))))
set_option maxRecDepth 100000 in
theorem z_cwm_165 : Cond.code ⟨"SlipRoomModel", "mayHave", "(III)Z"⟩ prog_12_method_57_code 9 (some .boolean) ∈ lw_tbl := (List.mem_append_right _ (List.mem_append_right _ (List.mem_append_right _ (List.mem_append_right _ (List.mem_append_right _ (List.mem_append_right _ (List.mem_append_right _ (List.mem_of_getElem? (i := 96) rfl))))))))
set_option maxRecDepth 100000 in
theorem z_cwm_166 : Cond.code ⟨"SlipRoomModel", "tellWay", "()V"⟩ prog_12_method_58_code 4 none ∈ lw_tbl := (List.mem_append_right _ (List.mem_append_right _ (List.mem_append_right _ (List.mem_append_right _ (List.mem_append_right _ (List.mem_append_right _ (List.mem_append_right _ (List.mem_of_getElem? (i := 92) rfl))))))))
set_option maxRecDepth 100000 in
theorem z_cwm_167 : Cond.code ⟨"SlipRoomModel", "wayOn", "(II)V"⟩ prog_12_method_59_code 4 none ∈ lw_tbl := (List.mem_append_right _ (List.mem_append_right _ (List.mem_append_right _ (List.mem_append_right _ (List.mem_append_right _ (List.mem_append_right _ (List.mem_append_right _ (List.mem_of_getElem? (i := 88) rfl))))))))
set_option maxRecDepth 100000 in
theorem z_cwm_168 : Cond.code ⟨"SlipRoomModel", "tellWays", "(II)V"⟩ prog_12_method_60_code 4 none ∈ lw_tbl := (List.mem_append_right _ (List.mem_append_right _ (List.mem_append_right _ (List.mem_append_right _ (List.mem_append_right _ (List.mem_append_right _ (List.mem_append_right _ (List.mem_of_getElem? (i := 80) rfl))))))))
set_option maxRecDepth 100000 in
theorem z_cwm_169 : Cond.code ⟨"SlipRoomModel", "ways", "(I)I"⟩ prog_12_method_61_code 2 (some .int) ∈ lw_tbl := (List.mem_append_right _ (List.mem_append_right _ (List.mem_append_right _ (List.mem_append_right _ (List.mem_append_right _ (List.mem_append_right _ (List.mem_append_right _ (List.mem_of_getElem? (i := 76) rfl))))))))
set_option maxRecDepth 100000 in
theorem z_cwm_170 : Cond.code ⟨"SlipRoomModel", "whose", "(II)I"⟩ prog_12_method_62_code 4 (some .int) ∈ lw_tbl := (List.mem_append_right _ (List.mem_append_right _ (List.mem_append_right _ (List.mem_append_right _ (List.mem_append_right _ (List.mem_append_right _ (List.mem_append_right _ (List.mem_of_getElem? (i := 108) rfl))))))))
set_option maxRecDepth 100000 in
theorem z_cwm_171 : Cond.code ⟨"SlipRoomModel", "ends", "(III)I"⟩ prog_12_method_63_code 4 (some .int) ∈ lw_tbl := (List.mem_append_right _ (List.mem_append_right _ (List.mem_append_right _ (List.mem_append_right _ (List.mem_append_right _ (List.mem_append_right _ (List.mem_append_right _ (List.mem_of_getElem? (i := 112) rfl))))))))
set_option maxRecDepth 100000 in
theorem z_cwm_172 : Cond.code ⟨"SlipRoomModel", "moved", "(I)I"⟩ prog_12_method_64_code 4 (some .int) ∈ lw_tbl := (List.mem_append_right _ (List.mem_append_right _ (List.mem_append_right _ (List.mem_append_right _ (List.mem_append_right _ (List.mem_append_right _ (List.mem_append_right _ (List.mem_of_getElem? (i := 116) rfl))))))))
set_option maxRecDepth 100000 in
theorem z_cwm_173 : Cond.code ⟨"SlipRoomModel", "wish", "(III)I"⟩ prog_12_method_65_code 4 (some .int) ∈ lw_tbl := (List.mem_append_right _ (List.mem_append_right _ (List.mem_append_right _ (List.mem_append_right _ (List.mem_append_right _ (List.mem_append_right _ (List.mem_append_right _ (List.mem_of_getElem? (i := 120) rfl))))))))
set_option maxRecDepth 100000 in
theorem z_cwm_174 : Cond.code ⟨"SlipRoomModel", "orderOn", "(IIII)V"⟩ prog_12_method_66_code 7 none ∈ lw_tbl := (List.mem_append_right _ (List.mem_append_right _ (List.mem_append_right _ (List.mem_append_right _ (List.mem_append_right _ (List.mem_append_right _ (List.mem_append_right _ (List.mem_of_getElem? (i := 128) rfl))))))))
set_option maxRecDepth 100000 in
theorem z_cwm_175 : Cond.code ⟨"SlipRoomModel", "waiting", "()I"⟩ prog_12_method_67_code 1 (some .int) ∈ lw_tbl := (List.mem_append_right _ (List.mem_append_right _ (List.mem_append_right _ (List.mem_append_right _ (List.mem_append_right _ (List.mem_append_right _ (List.mem_append_right _ (List.mem_of_getElem? (i := 124) rfl))))))))
set_option maxRecDepth 100000 in
theorem z_cwm_176 : Cond.code ⟨"SlipRoomModel", "turn", "(I)I"⟩ prog_12_method_68_code 2 (some .int) ∈ lw_tbl := (List.mem_append_right _ (List.mem_append_right _ (List.mem_append_right _ (List.mem_append_right _ (List.mem_append_right _ (List.mem_append_right _ (List.mem_append_right _ (List.mem_of_getElem? (i := 132) rfl))))))))
set_option maxRecDepth 100000 in
theorem z_cwm_177 : Cond.code ⟨"SlipRoomModel", "tale", "(III)Z"⟩ prog_12_method_69_code 4 (some .boolean) ∈ lw_tbl := (List.mem_append_right _ (List.mem_append_right _ (List.mem_append_right _ (List.mem_append_right _ (List.mem_append_right _ (List.mem_append_right _ (List.mem_append_right _ (List.mem_of_getElem? (i := 136) rfl))))))))
set_option maxRecDepth 100000 in
theorem z_cwm_178 : Cond.code ⟨"SlipRoomModel", "bitsOf", "(I)I"⟩ prog_12_method_70_code 3 (some .int) ∈ lw_tbl := (List.mem_append_right _ (List.mem_append_right _ (List.mem_append_right _ (List.mem_append_right _ (List.mem_append_right _ (List.mem_append_right _ (List.mem_append_right _ (List.mem_of_getElem? (i := 143) rfl))))))))
set_option maxRecDepth 100000 in
theorem z_cwm_179 : Cond.code ⟨"SlipRoomModel", "settlesBy", "(II)I"⟩ prog_12_method_71_code 7 (some .int) ∈ lw_tbl := (List.mem_append_right _ (List.mem_append_right _ (List.mem_append_right _ (List.mem_append_right _ (List.mem_append_right _ (List.mem_append_right _ (List.mem_append_right _ (List.mem_of_getElem? (i := 147) rfl))))))))
set_option maxRecDepth 100000 in
theorem z_cwm_180 : Cond.code ⟨"SlipRoomModel", "settle", "(II)I"⟩ prog_12_method_72_code 7 (some .int) ∈ lw_tbl := (List.mem_append_right _ (List.mem_append_right _ (List.mem_append_right _ (List.mem_append_right _ (List.mem_append_right _ (List.mem_append_right _ (List.mem_append_right _ (List.mem_of_getElem? (i := 140) rfl))))))))
set_option maxRecDepth 100000 in
theorem z_cwm_181 : Cond.code ⟨"SlipRoomModel", "keep", "([I)V"⟩ prog_12_method_73_code 3 none ∈ lw_tbl := (List.mem_append_right _ (List.mem_append_right _ (List.mem_append_right _ (List.mem_append_right _ (List.mem_append_right _ (List.mem_append_right _ (List.mem_append_right _ (List.mem_of_getElem? (i := 155) rfl))))))))
set_option maxRecDepth 100000 in
theorem z_cwm_182 : Cond.code ⟨"SlipRoomModel", "giveBack", "([I)V"⟩ prog_12_method_74_code 3 none ∈ lw_tbl := (List.mem_append_right _ (List.mem_append_right _ (List.mem_append_right _ (List.mem_append_right _ (List.mem_append_right _ (List.mem_append_right _ (List.mem_append_right _ (List.mem_of_getElem? (i := 163) rfl))))))))
set_option maxRecDepth 100000 in
theorem z_cwm_183 : Cond.code ⟨"SlipRoomModel", "image", "()V"⟩ prog_12_method_75_code 2 none ∈ lw_tbl := (List.mem_append_right _ (List.mem_append_right _ (List.mem_append_right _ (List.mem_append_right _ (List.mem_append_right _ (List.mem_append_right _ (List.mem_append_right _ (List.mem_of_getElem? (i := 151) rfl))))))))
set_option maxRecDepth 100000 in
theorem z_cwm_184 : Cond.code ⟨"SlipRoomModel", "restore", "()Z"⟩ prog_12_method_76_code 2 (some .boolean) ∈ lw_tbl := (List.mem_append_right _ (List.mem_append_right _ (List.mem_append_right _ (List.mem_append_right _ (List.mem_append_right _ (List.mem_append_right _ (List.mem_append_right _ (List.mem_of_getElem? (i := 159) rfl))))))))
set_option maxRecDepth 100000 in
theorem z_cwm_185 : Cond.code ⟨"java/lang/Integer", "bitCount", "(I)I"⟩ prog_19_method_49_code 1 (some .int) ∈ lw_tbl := (List.mem_append_right _ (List.mem_append_right _ (List.mem_append_right _ (List.mem_append_right _ (List.mem_append_right _ (List.mem_append_left _ (List.mem_of_getElem? (i := 96) rfl)))))))
set_option maxRecDepth 100000 in
theorem z_cwm_186 : Cond.code ⟨"java/lang/Long", "bitCount", "(J)I"⟩ prog_20_method_50_code 2 (some .int) ∈ lw_tbl := (List.mem_append_right _ (List.mem_append_right _ (List.mem_append_right _ (List.mem_append_right _ (List.mem_append_left _ (List.mem_of_getElem? (i := 8) rfl))))))
set_option maxRecDepth 100000 in
theorem z_cwm_187 : Cond.code ⟨"java/lang/Math", "max", "(II)I"⟩ prog_21_method_65_code 2 (some .int) ∈ lw_tbl := (List.mem_append_right _ (List.mem_append_right _ (List.mem_append_left _ (List.mem_of_getElem? (i := 158) rfl))))
set_option maxRecDepth 100000 in
theorem z_cwm_188 : Cond.code ⟨"java/lang/Math", "min", "(II)I"⟩ prog_21_method_69_code 2 (some .int) ∈ lw_tbl := (List.mem_append_right _ (List.mem_append_right _ (List.mem_append_right _ (List.mem_append_left _ (List.mem_of_getElem? (i := 20) rfl)))))
set_option maxRecDepth 100000 in
theorem z_cwm_189 : Cond.code ⟨"java/util/Arrays", "fill", "([JJ)V"⟩ prog_30_method_101_code 5 none ∈ lw_tbl := (List.mem_append_right _ (List.mem_append_right _ (List.mem_append_right _ (List.mem_append_left _ (List.mem_of_getElem? (i := 194) rfl)))))
set_option maxRecDepth 100000 in
theorem z_cwm_190 : Cond.code ⟨"java/util/Arrays", "fill", "([II)V"⟩ prog_30_method_103_code 4 none ∈ lw_tbl := (List.mem_append_right _ (List.mem_append_right _ (List.mem_append_right _ (List.mem_append_left _ (List.mem_of_getElem? (i := 191) rfl)))))
set_option maxRecDepth 100000 in
theorem z_cwm_191 : Cond.codeWith ⟨"SlipRoomLaw", "room", "(LSlipRoom;I[J)I"⟩ method_3_code 4 (some .int) [((0), (9), (12), (13))] ∈ lw_tbl := (List.mem_append_right _ (List.mem_append_right _ (List.mem_append_left _ (List.mem_of_getElem? (i := 174) rfl))))
set_option maxRecDepth 100000 in
theorem z_cwm_192 : Cond.codeWith ⟨"SlipRoomLaw", "count", "(LSlipRoom;I[J)I"⟩ method_4_code 4 (some .int) [((0), (9), (12), (18))] ∈ lw_tbl := (List.mem_append_right _ (List.mem_append_right _ (List.mem_append_right _ (List.mem_append_left _ (List.mem_of_getElem? (i := 201) rfl)))))
set_option maxRecDepth 100000 in
theorem z_cwm_193 : Cond.codeWith ⟨"SlipRoomLaw", "book", "(LSlipRoom;II[J)I"⟩ method_5_code 5 (some .int) [((0), (10), (13), (18))] ∈ lw_tbl := (List.mem_append_right _ (List.mem_append_right _ (List.mem_append_right _ (List.mem_append_left _ (List.mem_of_getElem? (i := 229) rfl)))))
set_option maxRecDepth 100000 in
theorem z_cwm_194 : Cond.codeWith ⟨"SlipRoomLaw", "reader", "(LSlipRoom;II[J)I"⟩ method_6_code 5 (some .int) [((0), (10), (13), (18))] ∈ lw_tbl := (List.mem_append_right _ (List.mem_append_right _ (List.mem_append_right _ (List.mem_append_right _ (List.mem_append_left _ (List.mem_of_getElem? (i := 19) rfl))))))
set_option maxRecDepth 100000 in
theorem z_cwm_195 : Cond.codeWith ⟨"SlipRoomLaw", "loan", "(LSlipRoom;IIII[J)I"⟩ method_7_code 7 (some .int) [((0), (14), (17), (18))] ∈ lw_tbl := (List.mem_append_right _ (List.mem_append_right _ (List.mem_append_right _ (List.mem_append_right _ (List.mem_append_left _ (List.mem_of_getElem? (i := 32) rfl))))))
set_option maxRecDepth 100000 in
theorem z_cwm_196 : Cond.codeWith ⟨"SlipRoomLaw", "lent", "(LSlipRoom;II[J)I"⟩ method_8_code 5 (some .int) [((0), (10), (13), (18))] ∈ lw_tbl := (List.mem_append_right _ (List.mem_append_right _ (List.mem_append_right _ (List.mem_append_right _ (List.mem_append_left _ (List.mem_of_getElem? (i := 98) rfl))))))
set_option maxRecDepth 100000 in
theorem z_cwm_197 : Cond.codeWith ⟨"SlipRoomLaw", "drop", "(LSlipRoom;III[J)I"⟩ method_9_code 6 (some .int) [((0), (12), (15), (18))] ∈ lw_tbl := (List.mem_append_right _ (List.mem_append_right _ (List.mem_append_right _ (List.mem_append_right _ (List.mem_append_left _ (List.mem_of_getElem? (i := 106) rfl))))))
set_option maxRecDepth 100000 in
theorem z_cwm_198 : Cond.codeWith ⟨"SlipRoomLaw", "slip", "(LSlipRoom;II[J)I"⟩ method_10_code 5 (some .int) [((0), (10), (13), (18))] ∈ lw_tbl := (List.mem_append_right _ (List.mem_append_right _ (List.mem_append_right _ (List.mem_append_right _ (List.mem_append_left _ (List.mem_of_getElem? (i := 117) rfl))))))
set_option maxRecDepth 100000 in
theorem z_cwm_199 : Cond.codeWith ⟨"SlipRoomLaw", "read", "(LSlipRoom;III[J)I"⟩ method_11_code 6 (some .int) [((0), (12), (15), (18))] ∈ lw_tbl := (List.mem_append_right _ (List.mem_append_right _ (List.mem_append_right _ (List.mem_append_right _ (List.mem_append_left _ (List.mem_of_getElem? (i := 124) rfl))))))
set_option maxRecDepth 100000 in
theorem z_cwm_200 : Cond.codeWith ⟨"SlipRoomLaw", "has", "(LSlipRoom;III[J)I"⟩ method_12_code 6 (some .int) [((0), (19), (22), (18))] ∈ lw_tbl := (List.mem_append_right _ (List.mem_append_right _ (List.mem_append_right _ (List.mem_append_right _ (List.mem_append_left _ (List.mem_of_getElem? (i := 140) rfl))))))
set_option maxRecDepth 100000 in
theorem z_cwm_201 : Cond.codeWith ⟨"SlipRoomLaw", "ahead", "(LSlipRoom;III[J)I"⟩ method_13_code 6 (some .int) [((0), (12), (15), (18))] ∈ lw_tbl := (List.mem_append_right _ (List.mem_append_right _ (List.mem_append_right _ (List.mem_append_right _ (List.mem_append_left _ (List.mem_of_getElem? (i := 149) rfl))))))
set_option maxRecDepth 100000 in
theorem z_cwm_202 : Cond.codeWith ⟨"SlipRoomLaw", "look", "(LSlipRoom;IIII[J)I"⟩ method_14_code 7 (some .int) [((0), (14), (17), (18))] ∈ lw_tbl := (List.mem_append_right _ (List.mem_append_right _ (List.mem_append_right _ (List.mem_append_right _ (List.mem_append_left _ (List.mem_of_getElem? (i := 157) rfl))))))
set_option maxRecDepth 100000 in
theorem z_cwm_203 : Cond.codeWith ⟨"SlipRoomLaw", "ways", "(LSlipRoom;I[J)I"⟩ method_15_code 4 (some .int) [((0), (9), (12), (18))] ∈ lw_tbl := (List.mem_append_right _ (List.mem_append_right _ (List.mem_append_right _ (List.mem_append_right _ (List.mem_append_left _ (List.mem_of_getElem? (i := 176) rfl))))))
set_option maxRecDepth 100000 in
theorem z_cwm_204 : Cond.codeWith ⟨"SlipRoomLaw", "whose", "(LSlipRoom;II[J)I"⟩ method_16_code 5 (some .int) [((0), (10), (13), (18))] ∈ lw_tbl := (List.mem_append_right _ (List.mem_append_right _ (List.mem_append_right _ (List.mem_append_right _ (List.mem_append_right _ (List.mem_append_left _ (List.mem_of_getElem? (i := 1) rfl)))))))
set_option maxRecDepth 100000 in
theorem z_cwm_205 : Cond.codeWith ⟨"SlipRoomLaw", "ends", "(LSlipRoom;III[J)I"⟩ method_17_code 6 (some .int) [((0), (12), (15), (18))] ∈ lw_tbl := (List.mem_append_right _ (List.mem_append_right _ (List.mem_append_right _ (List.mem_append_right _ (List.mem_append_right _ (List.mem_append_left _ (List.mem_of_getElem? (i := 29) rfl)))))))
set_option maxRecDepth 100000 in
theorem z_cwm_206 : Cond.codeWith ⟨"SlipRoomLaw", "moved", "(LSlipRoom;I[J)I"⟩ method_18_code 4 (some .int) [((0), (9), (12), (18))] ∈ lw_tbl := (List.mem_append_right _ (List.mem_append_right _ (List.mem_append_right _ (List.mem_append_right _ (List.mem_append_right _ (List.mem_append_left _ (List.mem_of_getElem? (i := 41) rfl)))))))
set_option maxRecDepth 100000 in
theorem z_cwm_207 : Cond.codeWith ⟨"SlipRoomLaw", "wish", "(LSlipRoom;III[J)I"⟩ method_19_code 6 (some .int) [((0), (12), (15), (18))] ∈ lw_tbl := (List.mem_append_right _ (List.mem_append_right _ (List.mem_append_right _ (List.mem_append_right _ (List.mem_append_right _ (List.mem_append_left _ (List.mem_of_getElem? (i := 53) rfl)))))))
set_option maxRecDepth 100000 in
theorem z_cwm_208 : Cond.codeWith ⟨"SlipRoomLaw", "turn", "(LSlipRoom;I[J)I"⟩ method_20_code 4 (some .int) [((0), (9), (12), (18))] ∈ lw_tbl := (List.mem_append_right _ (List.mem_append_right _ (List.mem_append_right _ (List.mem_append_right _ (List.mem_append_right _ (List.mem_append_left _ (List.mem_of_getElem? (i := 64) rfl)))))))
set_option maxRecDepth 100000 in
theorem z_cwm_209 : Cond.codeWith ⟨"SlipRoomLaw", "tale", "(LSlipRoom;III[J)I"⟩ method_21_code 6 (some .int) [((0), (19), (22), (18))] ∈ lw_tbl := (List.mem_append_right _ (List.mem_append_right _ (List.mem_append_right _ (List.mem_append_right _ (List.mem_append_right _ (List.mem_append_left _ (List.mem_of_getElem? (i := 72) rfl)))))))
set_option maxRecDepth 100000 in
theorem z_cwm_210 : Cond.codeWith ⟨"SlipRoomLaw", "settle", "(LSlipRoom;II[J)I"⟩ method_22_code 5 (some .int) [((0), (10), (13), (18)), ((0), (10), (17), (13))] ∈ lw_tbl := (List.mem_append_right _ (List.mem_append_right _ (List.mem_append_right _ (List.mem_append_right _ (List.mem_append_right _ (List.mem_append_left _ (List.mem_of_getElem? (i := 79) rfl)))))))
theorem z_cwt {m : Nat} {w : Cond} (h : w ∈ lw_tbl) (hg : goodWord w = true) (e : z_cw m = w) : z_cw m ∈ z_tb := by rw [e]; exact List.mem_filter.mpr ⟨h, hg⟩
set_option maxRecDepth 100000 in
theorem z_cwA_0 (m : Nat) (h1 : 0 ≤ m) (h2 : m < 10) : z_cw m ∈ z_tb := by
  have hc : m = 0 ∨ m = 1 ∨ m = 2 ∨ m = 3 ∨ m = 4 ∨ m = 5 ∨ m = 6 ∨ m = 7 ∨ m = 8 ∨ m = 9 := by omega
  rcases hc with rfl | rfl | rfl | rfl | rfl | rfl | rfl | rfl | rfl | rfl
  · exact z_cwt z_cwm_0 z_good_code rfl
  · exact z_cwt z_cwm_1 z_good_code rfl
  · exact z_cwt z_cwm_2 z_good_code rfl
  · exact z_cwt z_cwm_3 z_good_code rfl
  · exact z_cwt z_cwm_4 z_good_code rfl
  · exact z_cwt z_cwm_5 z_good_code rfl
  · exact z_cwt z_cwm_6 z_good_code rfl
  · exact z_cwt z_cwm_7 z_good_code rfl
  · exact z_cwt z_cwm_8 z_good_code rfl
  · exact z_cwt z_cwm_9 z_good_code rfl
set_option maxRecDepth 100000 in
theorem z_cwA_10 (m : Nat) (h1 : 10 ≤ m) (h2 : m < 20) : z_cw m ∈ z_tb := by
  have hc : m = 10 ∨ m = 11 ∨ m = 12 ∨ m = 13 ∨ m = 14 ∨ m = 15 ∨ m = 16 ∨ m = 17 ∨ m = 18 ∨ m = 19 := by omega
  rcases hc with rfl | rfl | rfl | rfl | rfl | rfl | rfl | rfl | rfl | rfl
  · exact z_cwt z_cwm_10 z_good_code rfl
  · exact z_cwt z_cwm_11 z_good_code rfl
  · exact z_cwt z_cwm_12 z_good_code rfl
  · exact z_cwt z_cwm_13 z_good_code rfl
  · exact z_cwt z_cwm_14 z_good_code rfl
  · exact z_cwt z_cwm_15 z_good_code rfl
  · exact z_cwt z_cwm_16 z_good_code rfl
  · exact z_cwt z_cwm_17 z_good_code rfl
  · exact z_cwt z_cwm_18 z_good_code rfl
  · exact z_cwt z_cwm_19 z_good_code rfl
set_option maxRecDepth 100000 in
theorem z_cwA_20 (m : Nat) (h1 : 20 ≤ m) (h2 : m < 30) : z_cw m ∈ z_tb := by
  have hc : m = 20 ∨ m = 21 ∨ m = 22 ∨ m = 23 ∨ m = 24 ∨ m = 25 ∨ m = 26 ∨ m = 27 ∨ m = 28 ∨ m = 29 := by omega
  rcases hc with rfl | rfl | rfl | rfl | rfl | rfl | rfl | rfl | rfl | rfl
  · exact z_cwt z_cwm_20 z_good_code rfl
  · exact z_cwt z_cwm_21 z_good_code rfl
  · exact z_cwt z_cwm_22 z_good_code rfl
  · exact z_cwt z_cwm_23 z_good_code rfl
  · exact z_cwt z_cwm_24 z_good_code rfl
  · exact z_cwt z_cwm_25 z_good_code rfl
  · exact z_cwt z_cwm_26 z_good_code rfl
  · exact z_cwt z_cwm_27 z_good_code rfl
  · exact z_cwt z_cwm_28 z_good_code rfl
  · exact z_cwt z_cwm_29 z_good_code rfl
set_option maxRecDepth 100000 in
theorem z_cwA_30 (m : Nat) (h1 : 30 ≤ m) (h2 : m < 40) : z_cw m ∈ z_tb := by
  have hc : m = 30 ∨ m = 31 ∨ m = 32 ∨ m = 33 ∨ m = 34 ∨ m = 35 ∨ m = 36 ∨ m = 37 ∨ m = 38 ∨ m = 39 := by omega
  rcases hc with rfl | rfl | rfl | rfl | rfl | rfl | rfl | rfl | rfl | rfl
  · exact z_cwt z_cwm_30 z_good_code rfl
  · exact z_cwt z_cwm_31 z_good_code rfl
  · exact z_cwt z_cwm_32 z_good_code rfl
  · exact z_cwt z_cwm_33 z_good_code rfl
  · exact z_cwt z_cwm_34 z_good_code rfl
  · exact z_cwt z_cwm_35 z_good_code rfl
  · exact z_cwt z_cwm_36 z_good_code rfl
  · exact z_cwt z_cwm_37 z_good_code rfl
  · exact z_cwt z_cwm_38 z_good_code rfl
  · exact z_cwt z_cwm_39 z_good_code rfl
set_option maxRecDepth 100000 in
theorem z_cwA_40 (m : Nat) (h1 : 40 ≤ m) (h2 : m < 50) : z_cw m ∈ z_tb := by
  have hc : m = 40 ∨ m = 41 ∨ m = 42 ∨ m = 43 ∨ m = 44 ∨ m = 45 ∨ m = 46 ∨ m = 47 ∨ m = 48 ∨ m = 49 := by omega
  rcases hc with rfl | rfl | rfl | rfl | rfl | rfl | rfl | rfl | rfl | rfl
  · exact z_cwt z_cwm_40 z_good_code rfl
  · exact z_cwt z_cwm_41 z_good_code rfl
  · exact z_cwt z_cwm_42 z_good_code rfl
  · exact z_cwt z_cwm_43 z_good_code rfl
  · exact z_cwt z_cwm_44 z_good_code rfl
  · exact z_cwt z_cwm_45 z_good_code rfl
  · exact z_cwt z_cwm_46 z_good_code rfl
  · exact z_cwt z_cwm_47 z_good_code rfl
  · exact z_cwt z_cwm_48 z_good_code rfl
  · exact z_cwt z_cwm_49 z_good_code rfl
set_option maxRecDepth 100000 in
theorem z_cwA_50 (m : Nat) (h1 : 50 ≤ m) (h2 : m < 60) : z_cw m ∈ z_tb := by
  have hc : m = 50 ∨ m = 51 ∨ m = 52 ∨ m = 53 ∨ m = 54 ∨ m = 55 ∨ m = 56 ∨ m = 57 ∨ m = 58 ∨ m = 59 := by omega
  rcases hc with rfl | rfl | rfl | rfl | rfl | rfl | rfl | rfl | rfl | rfl
  · exact z_cwt z_cwm_50 z_good_code rfl
  · exact z_cwt z_cwm_51 z_good_code rfl
  · exact z_cwt z_cwm_52 z_good_code rfl
  · exact z_cwt z_cwm_53 z_good_code rfl
  · exact z_cwt z_cwm_54 z_good_code rfl
  · exact z_cwt z_cwm_55 z_good_code rfl
  · exact z_cwt z_cwm_56 z_good_code rfl
  · exact z_cwt z_cwm_57 z_good_code rfl
  · exact z_cwt z_cwm_58 z_good_code rfl
  · exact z_cwt z_cwm_59 z_good_code rfl
set_option maxRecDepth 100000 in
theorem z_cwA_60 (m : Nat) (h1 : 60 ≤ m) (h2 : m < 70) : z_cw m ∈ z_tb := by
  have hc : m = 60 ∨ m = 61 ∨ m = 62 ∨ m = 63 ∨ m = 64 ∨ m = 65 ∨ m = 66 ∨ m = 67 ∨ m = 68 ∨ m = 69 := by omega
  rcases hc with rfl | rfl | rfl | rfl | rfl | rfl | rfl | rfl | rfl | rfl
  · exact z_cwt z_cwm_60 z_good_code rfl
  · exact z_cwt z_cwm_61 z_good_code rfl
  · exact z_cwt z_cwm_62 z_good_code rfl
  · exact z_cwt z_cwm_63 z_good_code rfl
  · exact z_cwt z_cwm_64 z_good_code rfl
  · exact z_cwt z_cwm_65 z_good_code rfl
  · exact z_cwt z_cwm_66 z_good_code rfl
  · exact z_cwt z_cwm_67 z_good_code rfl
  · exact z_cwt z_cwm_68 z_good_code rfl
  · exact z_cwt z_cwm_69 z_good_code rfl
set_option maxRecDepth 100000 in
theorem z_cwA_70 (m : Nat) (h1 : 70 ≤ m) (h2 : m < 80) : z_cw m ∈ z_tb := by
  have hc : m = 70 ∨ m = 71 ∨ m = 72 ∨ m = 73 ∨ m = 74 ∨ m = 75 ∨ m = 76 ∨ m = 77 ∨ m = 78 ∨ m = 79 := by omega
  rcases hc with rfl | rfl | rfl | rfl | rfl | rfl | rfl | rfl | rfl | rfl
  · exact z_cwt z_cwm_70 z_good_code rfl
  · exact z_cwt z_cwm_71 z_good_code rfl
  · exact z_cwt z_cwm_72 z_good_code rfl
  · exact z_cwt z_cwm_73 z_good_code rfl
  · exact z_cwt z_cwm_74 z_good_code rfl
  · exact z_cwt z_cwm_75 z_good_code rfl
  · exact z_cwt z_cwm_76 z_good_code rfl
  · exact z_cwt z_cwm_77 z_good_code rfl
  · exact z_cwt z_cwm_78 z_good_code rfl
  · exact z_cwt z_cwm_79 z_good_code rfl
set_option maxRecDepth 100000 in
theorem z_cwA_80 (m : Nat) (h1 : 80 ≤ m) (h2 : m < 90) : z_cw m ∈ z_tb := by
  have hc : m = 80 ∨ m = 81 ∨ m = 82 ∨ m = 83 ∨ m = 84 ∨ m = 85 ∨ m = 86 ∨ m = 87 ∨ m = 88 ∨ m = 89 := by omega
  rcases hc with rfl | rfl | rfl | rfl | rfl | rfl | rfl | rfl | rfl | rfl
  · exact z_cwt z_cwm_80 z_good_code rfl
  · exact z_cwt z_cwm_81 z_good_code rfl
  · exact z_cwt z_cwm_82 z_good_code rfl
  · exact z_cwt z_cwm_83 z_good_code rfl
  · exact z_cwt z_cwm_84 z_good_code rfl
  · exact z_cwt z_cwm_85 z_good_code rfl
  · exact z_cwt z_cwm_86 z_good_code rfl
  · exact z_cwt z_cwm_87 z_good_code rfl
  · exact z_cwt z_cwm_88 z_good_code rfl
  · exact z_cwt z_cwm_89 z_good_code rfl
set_option maxRecDepth 100000 in
theorem z_cwA_90 (m : Nat) (h1 : 90 ≤ m) (h2 : m < 100) : z_cw m ∈ z_tb := by
  have hc : m = 90 ∨ m = 91 ∨ m = 92 ∨ m = 93 ∨ m = 94 ∨ m = 95 ∨ m = 96 ∨ m = 97 ∨ m = 98 ∨ m = 99 := by omega
  rcases hc with rfl | rfl | rfl | rfl | rfl | rfl | rfl | rfl | rfl | rfl
  · exact z_cwt z_cwm_90 z_good_code rfl
  · exact z_cwt z_cwm_91 z_good_code rfl
  · exact z_cwt z_cwm_92 z_good_code rfl
  · exact z_cwt z_cwm_93 z_good_code rfl
  · exact z_cwt z_cwm_94 z_good_code rfl
  · exact z_cwt z_cwm_95 z_good_code rfl
  · exact z_cwt z_cwm_96 z_good_code rfl
  · exact z_cwt z_cwm_97 z_good_code rfl
  · exact z_cwt z_cwm_98 z_good_code rfl
  · exact z_cwt z_cwm_99 z_good_code rfl
set_option maxRecDepth 100000 in
theorem z_cwA_100 (m : Nat) (h1 : 100 ≤ m) (h2 : m < 110) : z_cw m ∈ z_tb := by
  have hc : m = 100 ∨ m = 101 ∨ m = 102 ∨ m = 103 ∨ m = 104 ∨ m = 105 ∨ m = 106 ∨ m = 107 ∨ m = 108 ∨ m = 109 := by omega
  rcases hc with rfl | rfl | rfl | rfl | rfl | rfl | rfl | rfl | rfl | rfl
  · exact z_cwt z_cwm_100 z_good_code rfl
  · exact z_cwt z_cwm_101 z_good_code rfl
  · exact z_cwt z_cwm_102 z_good_code rfl
  · exact z_cwt z_cwm_103 z_good_code rfl
  · exact z_cwt z_cwm_104 z_good_code rfl
  · exact z_cwt z_cwm_105 z_good_code rfl
  · exact z_cwt z_cwm_106 z_good_code rfl
  · exact z_cwt z_cwm_107 z_good_code rfl
  · exact z_cwt z_cwm_108 z_good_code rfl
  · exact z_cwt z_cwm_109 z_good_code rfl
set_option maxRecDepth 100000 in
theorem z_cwA_110 (m : Nat) (h1 : 110 ≤ m) (h2 : m < 120) : z_cw m ∈ z_tb := by
  have hc : m = 110 ∨ m = 111 ∨ m = 112 ∨ m = 113 ∨ m = 114 ∨ m = 115 ∨ m = 116 ∨ m = 117 ∨ m = 118 ∨ m = 119 := by omega
  rcases hc with rfl | rfl | rfl | rfl | rfl | rfl | rfl | rfl | rfl | rfl
  · exact z_cwt z_cwm_110 z_good_code rfl
  · exact z_cwt z_cwm_111 z_good_code rfl
  · exact z_cwt z_cwm_112 z_good_code rfl
  · exact z_cwt z_cwm_113 z_good_code rfl
  · exact z_cwt z_cwm_114 z_good_code rfl
  · exact z_cwt z_cwm_115 z_good_code rfl
  · exact z_cwt z_cwm_116 z_good_code rfl
  · exact z_cwt z_cwm_117 z_good_code rfl
  · exact z_cwt z_cwm_118 z_good_code rfl
  · exact z_cwt z_cwm_119 z_good_code rfl
set_option maxRecDepth 100000 in
theorem z_cwA_120 (m : Nat) (h1 : 120 ≤ m) (h2 : m < 130) : z_cw m ∈ z_tb := by
  have hc : m = 120 ∨ m = 121 ∨ m = 122 ∨ m = 123 ∨ m = 124 ∨ m = 125 ∨ m = 126 ∨ m = 127 ∨ m = 128 ∨ m = 129 := by omega
  rcases hc with rfl | rfl | rfl | rfl | rfl | rfl | rfl | rfl | rfl | rfl
  · exact z_cwt z_cwm_120 z_good_code rfl
  · exact z_cwt z_cwm_121 z_good_code rfl
  · exact z_cwt z_cwm_122 z_good_code rfl
  · exact z_cwt z_cwm_123 z_good_code rfl
  · exact z_cwt z_cwm_124 z_good_code rfl
  · exact z_cwt z_cwm_125 z_good_code rfl
  · exact z_cwt z_cwm_126 z_good_code rfl
  · exact z_cwt z_cwm_127 z_good_code rfl
  · exact z_cwt z_cwm_128 z_good_code rfl
  · exact z_cwt z_cwm_129 z_good_code rfl
set_option maxRecDepth 100000 in
theorem z_cwA_130 (m : Nat) (h1 : 130 ≤ m) (h2 : m < 140) : z_cw m ∈ z_tb := by
  have hc : m = 130 ∨ m = 131 ∨ m = 132 ∨ m = 133 ∨ m = 134 ∨ m = 135 ∨ m = 136 ∨ m = 137 ∨ m = 138 ∨ m = 139 := by omega
  rcases hc with rfl | rfl | rfl | rfl | rfl | rfl | rfl | rfl | rfl | rfl
  · exact z_cwt z_cwm_130 z_good_code rfl
  · exact z_cwt z_cwm_131 z_good_code rfl
  · exact z_cwt z_cwm_132 z_good_code rfl
  · exact z_cwt z_cwm_133 z_good_code rfl
  · exact z_cwt z_cwm_134 z_good_code rfl
  · exact z_cwt z_cwm_135 z_good_code rfl
  · exact z_cwt z_cwm_136 z_good_code rfl
  · exact z_cwt z_cwm_137 z_good_code rfl
  · exact z_cwt z_cwm_138 z_good_code rfl
  · exact z_cwt z_cwm_139 z_good_code rfl
set_option maxRecDepth 100000 in
theorem z_cwA_140 (m : Nat) (h1 : 140 ≤ m) (h2 : m < 150) : z_cw m ∈ z_tb := by
  have hc : m = 140 ∨ m = 141 ∨ m = 142 ∨ m = 143 ∨ m = 144 ∨ m = 145 ∨ m = 146 ∨ m = 147 ∨ m = 148 ∨ m = 149 := by omega
  rcases hc with rfl | rfl | rfl | rfl | rfl | rfl | rfl | rfl | rfl | rfl
  · exact z_cwt z_cwm_140 z_good_code rfl
  · exact z_cwt z_cwm_141 z_good_code rfl
  · exact z_cwt z_cwm_142 z_good_code rfl
  · exact z_cwt z_cwm_143 z_good_code rfl
  · exact z_cwt z_cwm_144 z_good_code rfl
  · exact z_cwt z_cwm_145 z_good_code rfl
  · exact z_cwt z_cwm_146 z_good_code rfl
  · exact z_cwt z_cwm_147 z_good_code rfl
  · exact z_cwt z_cwm_148 z_good_code rfl
  · exact z_cwt z_cwm_149 z_good_code rfl
set_option maxRecDepth 100000 in
theorem z_cwA_150 (m : Nat) (h1 : 150 ≤ m) (h2 : m < 160) : z_cw m ∈ z_tb := by
  have hc : m = 150 ∨ m = 151 ∨ m = 152 ∨ m = 153 ∨ m = 154 ∨ m = 155 ∨ m = 156 ∨ m = 157 ∨ m = 158 ∨ m = 159 := by omega
  rcases hc with rfl | rfl | rfl | rfl | rfl | rfl | rfl | rfl | rfl | rfl
  · exact z_cwt z_cwm_150 z_good_code rfl
  · exact z_cwt z_cwm_151 z_good_code rfl
  · exact z_cwt z_cwm_152 z_good_code rfl
  · exact z_cwt z_cwm_153 z_good_code rfl
  · exact z_cwt z_cwm_154 z_good_code rfl
  · exact z_cwt z_cwm_155 z_good_code rfl
  · exact z_cwt z_cwm_156 z_good_code rfl
  · exact z_cwt z_cwm_157 z_good_code rfl
  · exact z_cwt z_cwm_158 z_good_code rfl
  · exact z_cwt z_cwm_159 z_good_code rfl
set_option maxRecDepth 100000 in
theorem z_cwA_160 (m : Nat) (h1 : 160 ≤ m) (h2 : m < 170) : z_cw m ∈ z_tb := by
  have hc : m = 160 ∨ m = 161 ∨ m = 162 ∨ m = 163 ∨ m = 164 ∨ m = 165 ∨ m = 166 ∨ m = 167 ∨ m = 168 ∨ m = 169 := by omega
  rcases hc with rfl | rfl | rfl | rfl | rfl | rfl | rfl | rfl | rfl | rfl
  · exact z_cwt z_cwm_160 z_good_code rfl
  · exact z_cwt z_cwm_161 z_good_code rfl
  · exact z_cwt z_cwm_162 z_good_code rfl
  · exact z_cwt z_cwm_163 z_good_code rfl
  · exact z_cwt z_cwm_164 z_good_code rfl
  · exact z_cwt z_cwm_165 z_good_code rfl
  · exact z_cwt z_cwm_166 z_good_code rfl
  · exact z_cwt z_cwm_167 z_good_code rfl
  · exact z_cwt z_cwm_168 z_good_code rfl
  · exact z_cwt z_cwm_169 z_good_code rfl
set_option maxRecDepth 100000 in
theorem z_cwA_170 (m : Nat) (h1 : 170 ≤ m) (h2 : m < 180) : z_cw m ∈ z_tb := by
  have hc : m = 170 ∨ m = 171 ∨ m = 172 ∨ m = 173 ∨ m = 174 ∨ m = 175 ∨ m = 176 ∨ m = 177 ∨ m = 178 ∨ m = 179 := by omega
  rcases hc with rfl | rfl | rfl | rfl | rfl | rfl | rfl | rfl | rfl | rfl
  · exact z_cwt z_cwm_170 z_good_code rfl
  · exact z_cwt z_cwm_171 z_good_code rfl
  · exact z_cwt z_cwm_172 z_good_code rfl
  · exact z_cwt z_cwm_173 z_good_code rfl
  · exact z_cwt z_cwm_174 z_good_code rfl
  · exact z_cwt z_cwm_175 z_good_code rfl
  · exact z_cwt z_cwm_176 z_good_code rfl
  · exact z_cwt z_cwm_177 z_good_code rfl
  · exact z_cwt z_cwm_178 z_good_code rfl
  · exact z_cwt z_cwm_179 z_good_code rfl
set_option maxRecDepth 100000 in
theorem z_cwA_180 (m : Nat) (h1 : 180 ≤ m) (h2 : m < 190) : z_cw m ∈ z_tb := by
  have hc : m = 180 ∨ m = 181 ∨ m = 182 ∨ m = 183 ∨ m = 184 ∨ m = 185 ∨ m = 186 ∨ m = 187 ∨ m = 188 ∨ m = 189 := by omega
  rcases hc with rfl | rfl | rfl | rfl | rfl | rfl | rfl | rfl | rfl | rfl
  · exact z_cwt z_cwm_180 z_good_code rfl
  · exact z_cwt z_cwm_181 z_good_code rfl
  · exact z_cwt z_cwm_182 z_good_code rfl
  · exact z_cwt z_cwm_183 z_good_code rfl
  · exact z_cwt z_cwm_184 z_good_code rfl
  · exact z_cwt z_cwm_185 z_good_code rfl
  · exact z_cwt z_cwm_186 z_good_code rfl
  · exact z_cwt z_cwm_187 z_good_code rfl
  · exact z_cwt z_cwm_188 z_good_code rfl
  · exact z_cwt z_cwm_189 z_good_code rfl
set_option maxRecDepth 100000 in
theorem z_cwA_190 (m : Nat) (h1 : 190 ≤ m) (h2 : m < 200) : z_cw m ∈ z_tb := by
  have hc : m = 190 ∨ m = 191 ∨ m = 192 ∨ m = 193 ∨ m = 194 ∨ m = 195 ∨ m = 196 ∨ m = 197 ∨ m = 198 ∨ m = 199 := by omega
  rcases hc with rfl | rfl | rfl | rfl | rfl | rfl | rfl | rfl | rfl | rfl
  · exact z_cwt z_cwm_190 z_good_code rfl
  · exact z_cwt z_cwm_191 z_good_codeW rfl
  · exact z_cwt z_cwm_192 z_good_codeW rfl
  · exact z_cwt z_cwm_193 z_good_codeW rfl
  · exact z_cwt z_cwm_194 z_good_codeW rfl
  · exact z_cwt z_cwm_195 z_good_codeW rfl
  · exact z_cwt z_cwm_196 z_good_codeW rfl
  · exact z_cwt z_cwm_197 z_good_codeW rfl
  · exact z_cwt z_cwm_198 z_good_codeW rfl
  · exact z_cwt z_cwm_199 z_good_codeW rfl
set_option maxRecDepth 100000 in
theorem z_cwA_200 (m : Nat) (h1 : 200 ≤ m) (h2 : m < 210) : z_cw m ∈ z_tb := by
  have hc : m = 200 ∨ m = 201 ∨ m = 202 ∨ m = 203 ∨ m = 204 ∨ m = 205 ∨ m = 206 ∨ m = 207 ∨ m = 208 ∨ m = 209 := by omega
  rcases hc with rfl | rfl | rfl | rfl | rfl | rfl | rfl | rfl | rfl | rfl
  · exact z_cwt z_cwm_200 z_good_codeW rfl
  · exact z_cwt z_cwm_201 z_good_codeW rfl
  · exact z_cwt z_cwm_202 z_good_codeW rfl
  · exact z_cwt z_cwm_203 z_good_codeW rfl
  · exact z_cwt z_cwm_204 z_good_codeW rfl
  · exact z_cwt z_cwm_205 z_good_codeW rfl
  · exact z_cwt z_cwm_206 z_good_codeW rfl
  · exact z_cwt z_cwm_207 z_good_codeW rfl
  · exact z_cwt z_cwm_208 z_good_codeW rfl
  · exact z_cwt z_cwm_209 z_good_codeW rfl
set_option maxRecDepth 100000 in
theorem z_cwA_210 (m : Nat) (h1 : 210 ≤ m) (h2 : m < 211) : z_cw m ∈ z_tb := by
  have hc : m = 210 := by omega
  rcases hc with rfl
  · exact z_cwt z_cwm_210 z_good_codeW rfl
theorem z_cwA (m : Nat) (h : m < 211) : z_cw m ∈ z_tb := by
  have hc : (0 ≤ m ∧ m < 10) ∨ (10 ≤ m ∧ m < 20) ∨ (20 ≤ m ∧ m < 30) ∨ (30 ≤ m ∧ m < 40) ∨ (40 ≤ m ∧ m < 50) ∨ (50 ≤ m ∧ m < 60) ∨ (60 ≤ m ∧ m < 70) ∨ (70 ≤ m ∧ m < 80) ∨ (80 ≤ m ∧ m < 90) ∨ (90 ≤ m ∧ m < 100) ∨ (100 ≤ m ∧ m < 110) ∨ (110 ≤ m ∧ m < 120) ∨ (120 ≤ m ∧ m < 130) ∨ (130 ≤ m ∧ m < 140) ∨ (140 ≤ m ∧ m < 150) ∨ (150 ≤ m ∧ m < 160) ∨ (160 ≤ m ∧ m < 170) ∨ (170 ≤ m ∧ m < 180) ∨ (180 ≤ m ∧ m < 190) ∨ (190 ≤ m ∧ m < 200) ∨ (200 ≤ m ∧ m < 210) ∨ (210 ≤ m ∧ m < 211) := by omega
  rcases hc with ⟨h1, h2⟩ | ⟨h1, h2⟩ | ⟨h1, h2⟩ | ⟨h1, h2⟩ | ⟨h1, h2⟩ | ⟨h1, h2⟩ | ⟨h1, h2⟩ | ⟨h1, h2⟩ | ⟨h1, h2⟩ | ⟨h1, h2⟩ | ⟨h1, h2⟩ | ⟨h1, h2⟩ | ⟨h1, h2⟩ | ⟨h1, h2⟩ | ⟨h1, h2⟩ | ⟨h1, h2⟩ | ⟨h1, h2⟩ | ⟨h1, h2⟩ | ⟨h1, h2⟩ | ⟨h1, h2⟩ | ⟨h1, h2⟩ | ⟨h1, h2⟩
  · exact z_cwA_0 m h1 h2
  · exact z_cwA_10 m h1 h2
  · exact z_cwA_20 m h1 h2
  · exact z_cwA_30 m h1 h2
  · exact z_cwA_40 m h1 h2
  · exact z_cwA_50 m h1 h2
  · exact z_cwA_60 m h1 h2
  · exact z_cwA_70 m h1 h2
  · exact z_cwA_80 m h1 h2
  · exact z_cwA_90 m h1 h2
  · exact z_cwA_100 m h1 h2
  · exact z_cwA_110 m h1 h2
  · exact z_cwA_120 m h1 h2
  · exact z_cwA_130 m h1 h2
  · exact z_cwA_140 m h1 h2
  · exact z_cwA_150 m h1 h2
  · exact z_cwA_160 m h1 h2
  · exact z_cwA_170 m h1 h2
  · exact z_cwA_180 m h1 h2
  · exact z_cwA_190 m h1 h2
  · exact z_cwA_200 m h1 h2
  · exact z_cwA_210 m h1 h2
theorem z_okm_0 : ((List.range 10).all fun j => z_okM (0 + j)) = true := by decide +kernel
theorem z_okm_10 : ((List.range 10).all fun j => z_okM (10 + j)) = true := by decide +kernel
theorem z_okm_20 : ((List.range 10).all fun j => z_okM (20 + j)) = true := by decide +kernel
theorem z_okm_30 : ((List.range 10).all fun j => z_okM (30 + j)) = true := by decide +kernel
theorem z_okm_40 : ((List.range 10).all fun j => z_okM (40 + j)) = true := by decide +kernel
theorem z_okm_50 : ((List.range 10).all fun j => z_okM (50 + j)) = true := by decide +kernel
theorem z_okm_60 : ((List.range 10).all fun j => z_okM (60 + j)) = true := by decide +kernel
theorem z_okm_70 : ((List.range 10).all fun j => z_okM (70 + j)) = true := by decide +kernel
theorem z_okm_80 : ((List.range 10).all fun j => z_okM (80 + j)) = true := by decide +kernel
theorem z_okm_90 : ((List.range 10).all fun j => z_okM (90 + j)) = true := by decide +kernel
theorem z_okm_100 : ((List.range 10).all fun j => z_okM (100 + j)) = true := by decide +kernel
theorem z_okm_110 : ((List.range 10).all fun j => z_okM (110 + j)) = true := by decide +kernel
theorem z_okm_120 : ((List.range 10).all fun j => z_okM (120 + j)) = true := by decide +kernel
theorem z_okm_130 : ((List.range 10).all fun j => z_okM (130 + j)) = true := by decide +kernel
theorem z_okm_140 : ((List.range 10).all fun j => z_okM (140 + j)) = true := by decide +kernel
theorem z_okm_150 : ((List.range 10).all fun j => z_okM (150 + j)) = true := by decide +kernel
theorem z_okm_160 : ((List.range 10).all fun j => z_okM (160 + j)) = true := by decide +kernel
theorem z_okm_170 : ((List.range 10).all fun j => z_okM (170 + j)) = true := by decide +kernel
theorem z_okm_180 : ((List.range 10).all fun j => z_okM (180 + j)) = true := by decide +kernel
theorem z_okm_190 : ((List.range 10).all fun j => z_okM (190 + j)) = true := by decide +kernel
theorem z_okm_200 : ((List.range 10).all fun j => z_okM (200 + j)) = true := by decide +kernel
theorem z_okm_210 : ((List.range 1).all fun j => z_okM (210 + j)) = true := by decide +kernel
theorem z_okMA (m : Nat) (h : m < 211) : z_okM m = true := by
  have hc : (0 ≤ m ∧ m < 10) ∨ (10 ≤ m ∧ m < 20) ∨ (20 ≤ m ∧ m < 30) ∨ (30 ≤ m ∧ m < 40) ∨ (40 ≤ m ∧ m < 50) ∨ (50 ≤ m ∧ m < 60) ∨ (60 ≤ m ∧ m < 70) ∨ (70 ≤ m ∧ m < 80) ∨ (80 ≤ m ∧ m < 90) ∨ (90 ≤ m ∧ m < 100) ∨ (100 ≤ m ∧ m < 110) ∨ (110 ≤ m ∧ m < 120) ∨ (120 ≤ m ∧ m < 130) ∨ (130 ≤ m ∧ m < 140) ∨ (140 ≤ m ∧ m < 150) ∨ (150 ≤ m ∧ m < 160) ∨ (160 ≤ m ∧ m < 170) ∨ (170 ≤ m ∧ m < 180) ∨ (180 ≤ m ∧ m < 190) ∨ (190 ≤ m ∧ m < 200) ∨ (200 ≤ m ∧ m < 210) ∨ (210 ≤ m ∧ m < 211) := by omega
  rcases hc with ⟨h1, h2⟩ | ⟨h1, h2⟩ | ⟨h1, h2⟩ | ⟨h1, h2⟩ | ⟨h1, h2⟩ | ⟨h1, h2⟩ | ⟨h1, h2⟩ | ⟨h1, h2⟩ | ⟨h1, h2⟩ | ⟨h1, h2⟩ | ⟨h1, h2⟩ | ⟨h1, h2⟩ | ⟨h1, h2⟩ | ⟨h1, h2⟩ | ⟨h1, h2⟩ | ⟨h1, h2⟩ | ⟨h1, h2⟩ | ⟨h1, h2⟩ | ⟨h1, h2⟩ | ⟨h1, h2⟩ | ⟨h1, h2⟩ | ⟨h1, h2⟩
  · have h9 := List.all_eq_true.mp z_okm_0 (m - 0) (List.mem_range.mpr (by omega)); rw [show 0 + (m - 0) = m by omega] at h9; exact h9
  · have h9 := List.all_eq_true.mp z_okm_10 (m - 10) (List.mem_range.mpr (by omega)); rw [show 10 + (m - 10) = m by omega] at h9; exact h9
  · have h9 := List.all_eq_true.mp z_okm_20 (m - 20) (List.mem_range.mpr (by omega)); rw [show 20 + (m - 20) = m by omega] at h9; exact h9
  · have h9 := List.all_eq_true.mp z_okm_30 (m - 30) (List.mem_range.mpr (by omega)); rw [show 30 + (m - 30) = m by omega] at h9; exact h9
  · have h9 := List.all_eq_true.mp z_okm_40 (m - 40) (List.mem_range.mpr (by omega)); rw [show 40 + (m - 40) = m by omega] at h9; exact h9
  · have h9 := List.all_eq_true.mp z_okm_50 (m - 50) (List.mem_range.mpr (by omega)); rw [show 50 + (m - 50) = m by omega] at h9; exact h9
  · have h9 := List.all_eq_true.mp z_okm_60 (m - 60) (List.mem_range.mpr (by omega)); rw [show 60 + (m - 60) = m by omega] at h9; exact h9
  · have h9 := List.all_eq_true.mp z_okm_70 (m - 70) (List.mem_range.mpr (by omega)); rw [show 70 + (m - 70) = m by omega] at h9; exact h9
  · have h9 := List.all_eq_true.mp z_okm_80 (m - 80) (List.mem_range.mpr (by omega)); rw [show 80 + (m - 80) = m by omega] at h9; exact h9
  · have h9 := List.all_eq_true.mp z_okm_90 (m - 90) (List.mem_range.mpr (by omega)); rw [show 90 + (m - 90) = m by omega] at h9; exact h9
  · have h9 := List.all_eq_true.mp z_okm_100 (m - 100) (List.mem_range.mpr (by omega)); rw [show 100 + (m - 100) = m by omega] at h9; exact h9
  · have h9 := List.all_eq_true.mp z_okm_110 (m - 110) (List.mem_range.mpr (by omega)); rw [show 110 + (m - 110) = m by omega] at h9; exact h9
  · have h9 := List.all_eq_true.mp z_okm_120 (m - 120) (List.mem_range.mpr (by omega)); rw [show 120 + (m - 120) = m by omega] at h9; exact h9
  · have h9 := List.all_eq_true.mp z_okm_130 (m - 130) (List.mem_range.mpr (by omega)); rw [show 130 + (m - 130) = m by omega] at h9; exact h9
  · have h9 := List.all_eq_true.mp z_okm_140 (m - 140) (List.mem_range.mpr (by omega)); rw [show 140 + (m - 140) = m by omega] at h9; exact h9
  · have h9 := List.all_eq_true.mp z_okm_150 (m - 150) (List.mem_range.mpr (by omega)); rw [show 150 + (m - 150) = m by omega] at h9; exact h9
  · have h9 := List.all_eq_true.mp z_okm_160 (m - 160) (List.mem_range.mpr (by omega)); rw [show 160 + (m - 160) = m by omega] at h9; exact h9
  · have h9 := List.all_eq_true.mp z_okm_170 (m - 170) (List.mem_range.mpr (by omega)); rw [show 170 + (m - 170) = m by omega] at h9; exact h9
  · have h9 := List.all_eq_true.mp z_okm_180 (m - 180) (List.mem_range.mpr (by omega)); rw [show 180 + (m - 180) = m by omega] at h9; exact h9
  · have h9 := List.all_eq_true.mp z_okm_190 (m - 190) (List.mem_range.mpr (by omega)); rw [show 190 + (m - 190) = m by omega] at h9; exact h9
  · have h9 := List.all_eq_true.mp z_okm_200 (m - 200) (List.mem_range.mpr (by omega)); rw [show 200 + (m - 200) = m by omega] at h9; exact h9
  · have h9 := List.all_eq_true.mp z_okm_210 (m - 210) (List.mem_range.mpr (by omega)); rw [show 210 + (m - 210) = m by omega] at h9; exact h9
