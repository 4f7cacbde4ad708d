-- ===== PART A: goes FIRST, ahead of the names: the tables' words, and 'selects' of the private methods out of them =====
/-- a private method of a class that the tables say can be made, by its rows of tables_1 -/
def lw_okq (q : MethodName × Nat) : Prop := (q.1.cls ≠ "java/lang/invoke/MethodHandle" ∧ q.1.cls ≠ "java/lang/invoke/VarHandle") ∧ Cond.instantiable q.1.cls q.2 ∈ tables_1 ∧ Cond.privateMethod q.1 ∈ tables_1 ∧ Cond.instanceMethod q.1 ∈ tables_1
theorem lw_p0 : lw_okq (⟨"KeyMatrix$Reports", "makeLatest", "(II)V"⟩, 9) := ⟨⟨by decide +kernel, by decide +kernel⟩, List.mem_of_getElem? (i := 380) (by decide +kernel), List.mem_of_getElem? (i := 442) (by decide +kernel), List.mem_of_getElem? (i := 443) (by decide +kernel)⟩
theorem lw_p1 : lw_okq (⟨"KeyMatrix", "appendFour", "(I)V"⟩, 10) := ⟨⟨by decide +kernel, by decide +kernel⟩, List.mem_of_getElem? (i := 23) (by decide +kernel), List.mem_of_getElem? (i := 506) (by decide +kernel), List.mem_of_getElem? (i := 507) (by decide +kernel)⟩
theorem lw_p2 : lw_okq (⟨"KeyMatrix$Tokens", "skipBlanks", "([BI)I"⟩, 6) := ⟨⟨by decide +kernel, by decide +kernel⟩, List.mem_of_getElem? (i := 37) (by decide +kernel), List.mem_of_getElem? (i := 526) (by decide +kernel), List.mem_of_getElem? (i := 527) (by decide +kernel)⟩
theorem lw_p3 : lw_okq (⟨"KeyMatrix$Tokens", "cutWord", "([BI)I"⟩, 6) := ⟨⟨by decide +kernel, by decide +kernel⟩, List.mem_of_getElem? (i := 37) (by decide +kernel), List.mem_of_getElem? (i := 533) (by decide +kernel), List.mem_of_getElem? (i := 534) (by decide +kernel)⟩
theorem lw_p4 : lw_okq (⟨"KeyMatrix$Tokens", "cutInt", "([BI)I"⟩, 6) := ⟨⟨by decide +kernel, by decide +kernel⟩, List.mem_of_getElem? (i := 37) (by decide +kernel), List.mem_of_getElem? (i := 593) (by decide +kernel), List.mem_of_getElem? (i := 594) (by decide +kernel)⟩
theorem lw_p5 : lw_okq (⟨"KeyMatrix$TextReader", "takeBoard", "()Z"⟩, 10) := ⟨⟨by decide +kernel, by decide +kernel⟩, List.mem_of_getElem? (i := 31) (by decide +kernel), List.mem_of_getElem? (i := 598) (by decide +kernel), List.mem_of_getElem? (i := 599) (by decide +kernel)⟩
theorem lw_p6 : lw_okq (⟨"KeyMatrix$TextReader", "fail", "(I)Z"⟩, 10) := ⟨⟨by decide +kernel, by decide +kernel⟩, List.mem_of_getElem? (i := 31) (by decide +kernel), List.mem_of_getElem? (i := 608) (by decide +kernel), List.mem_of_getElem? (i := 609) (by decide +kernel)⟩
theorem lw_p7 : lw_okq (⟨"KeyMatrix$TextReader", "takeToken", "(I)Z"⟩, 10) := ⟨⟨by decide +kernel, by decide +kernel⟩, List.mem_of_getElem? (i := 31) (by decide +kernel), List.mem_of_getElem? (i := 612) (by decide +kernel), List.mem_of_getElem? (i := 613) (by decide +kernel)⟩
theorem lw_p8 : lw_okq (⟨"KeyMatrix$TextReader", "takeNumber", "(II)Z"⟩, 10) := ⟨⟨by decide +kernel, by decide +kernel⟩, List.mem_of_getElem? (i := 31) (by decide +kernel), List.mem_of_getElem? (i := 620) (by decide +kernel), List.mem_of_getElem? (i := 621) (by decide +kernel)⟩
theorem lw_p9 : lw_okq (⟨"KeyMatrix$TextReader", "noteLater", "(II)V"⟩, 10) := ⟨⟨by decide +kernel, by decide +kernel⟩, List.mem_of_getElem? (i := 31) (by decide +kernel), List.mem_of_getElem? (i := 628) (by decide +kernel), List.mem_of_getElem? (i := 629) (by decide +kernel)⟩
theorem lw_p10 : lw_okq (⟨"KeyMatrix$TextReader", "takeLine", "()Z"⟩, 10) := ⟨⟨by decide +kernel, by decide +kernel⟩, List.mem_of_getElem? (i := 31) (by decide +kernel), List.mem_of_getElem? (i := 632) (by decide +kernel), List.mem_of_getElem? (i := 633) (by decide +kernel)⟩
theorem lw_p11 : lw_okq (⟨"KeyMatrix$TextReader", "takeKey", "()Z"⟩, 10) := ⟨⟨by decide +kernel, by decide +kernel⟩, List.mem_of_getElem? (i := 31) (by decide +kernel), List.mem_of_getElem? (i := 646) (by decide +kernel), List.mem_of_getElem? (i := 647) (by decide +kernel)⟩
theorem lw_p12 : lw_okq (⟨"KeyMatrix$TextReader", "takeDeed", "()Z"⟩, 10) := ⟨⟨by decide +kernel, by decide +kernel⟩, List.mem_of_getElem? (i := 31) (by decide +kernel), List.mem_of_getElem? (i := 658) (by decide +kernel), List.mem_of_getElem? (i := 659) (by decide +kernel)⟩
theorem lw_p13 : lw_okq (⟨"KeyMatrix$TextReader", "takeChord", "()Z"⟩, 10) := ⟨⟨by decide +kernel, by decide +kernel⟩, List.mem_of_getElem? (i := 31) (by decide +kernel), List.mem_of_getElem? (i := 680) (by decide +kernel), List.mem_of_getElem? (i := 681) (by decide +kernel)⟩
theorem lw_p14 : lw_okq (⟨"KeyMatrix$TextReader", "takeChordKey", "(I)Z"⟩, 10) := ⟨⟨by decide +kernel, by decide +kernel⟩, List.mem_of_getElem? (i := 31) (by decide +kernel), List.mem_of_getElem? (i := 684) (by decide +kernel), List.mem_of_getElem? (i := 685) (by decide +kernel)⟩
theorem lw_p15 : lw_okq (⟨"KeyMatrix$TextReader", "takeMacro", "()Z"⟩, 10) := ⟨⟨by decide +kernel, by decide +kernel⟩, List.mem_of_getElem? (i := 31) (by decide +kernel), List.mem_of_getElem? (i := 701) (by decide +kernel), List.mem_of_getElem? (i := 702) (by decide +kernel)⟩
def lw_privs_1 : List (MethodName × Nat) := [(⟨"KeyMatrix$Reports", "makeLatest", "(II)V"⟩, 9), (⟨"KeyMatrix", "appendFour", "(I)V"⟩, 10), (⟨"KeyMatrix$Tokens", "skipBlanks", "([BI)I"⟩, 6), (⟨"KeyMatrix$Tokens", "cutWord", "([BI)I"⟩, 6), (⟨"KeyMatrix$Tokens", "cutInt", "([BI)I"⟩, 6), (⟨"KeyMatrix$TextReader", "takeBoard", "()Z"⟩, 10), (⟨"KeyMatrix$TextReader", "fail", "(I)Z"⟩, 10), (⟨"KeyMatrix$TextReader", "takeToken", "(I)Z"⟩, 10), (⟨"KeyMatrix$TextReader", "takeNumber", "(II)Z"⟩, 10), (⟨"KeyMatrix$TextReader", "noteLater", "(II)V"⟩, 10), (⟨"KeyMatrix$TextReader", "takeLine", "()Z"⟩, 10), (⟨"KeyMatrix$TextReader", "takeKey", "()Z"⟩, 10), (⟨"KeyMatrix$TextReader", "takeDeed", "()Z"⟩, 10), (⟨"KeyMatrix$TextReader", "takeChord", "()Z"⟩, 10), (⟨"KeyMatrix$TextReader", "takeChordKey", "(I)Z"⟩, 10), (⟨"KeyMatrix$TextReader", "takeMacro", "()Z"⟩, 10)]
theorem lw_r1 : ∀ q ∈ lw_privs_1, lw_okq q := List.forall_mem_cons.mpr ⟨lw_p0, List.forall_mem_cons.mpr ⟨lw_p1, List.forall_mem_cons.mpr ⟨lw_p2, List.forall_mem_cons.mpr ⟨lw_p3, List.forall_mem_cons.mpr ⟨lw_p4, List.forall_mem_cons.mpr ⟨lw_p5, List.forall_mem_cons.mpr ⟨lw_p6, List.forall_mem_cons.mpr ⟨lw_p7, List.forall_mem_cons.mpr ⟨lw_p8, List.forall_mem_cons.mpr ⟨lw_p9, List.forall_mem_cons.mpr ⟨lw_p10, List.forall_mem_cons.mpr ⟨lw_p11, List.forall_mem_cons.mpr ⟨lw_p12, List.forall_mem_cons.mpr ⟨lw_p13, List.forall_mem_cons.mpr ⟨lw_p14, List.forall_mem_cons.mpr ⟨lw_p15, fun _ h => absurd h List.not_mem_nil⟩⟩⟩⟩⟩⟩⟩⟩⟩⟩⟩⟩⟩⟩⟩⟩
theorem lw_p16 : lw_okq (⟨"KeyMatrix$TextReader", "takeSetting", "(LKeyMatrix$Word;)Z"⟩, 10) := ⟨⟨by decide +kernel, by decide +kernel⟩, List.mem_of_getElem? (i := 31) (by decide +kernel), List.mem_of_getElem? (i := 714) (by decide +kernel), List.mem_of_getElem? (i := 715) (by decide +kernel)⟩
theorem lw_p17 : lw_okq (⟨"KeyMatrix$Wiring", "join", "(LKeyMatrix$Board;I)V"⟩, 4) := ⟨⟨by decide +kernel, by decide +kernel⟩, List.mem_of_getElem? (i := 241) (by decide +kernel), List.mem_of_getElem? (i := 760) (by decide +kernel), List.mem_of_getElem? (i := 761) (by decide +kernel)⟩
theorem lw_p18 : lw_okq (⟨"KeyMatrix$Wiring", "bar", "(LKeyMatrix$Board;I)V"⟩, 4) := ⟨⟨by decide +kernel, by decide +kernel⟩, List.mem_of_getElem? (i := 241) (by decide +kernel), List.mem_of_getElem? (i := 766) (by decide +kernel), List.mem_of_getElem? (i := 767) (by decide +kernel)⟩
theorem lw_p19 : lw_okq (⟨"KeyMatrix$Course", "fateOfFirst", "()I"⟩, 6) := ⟨⟨by decide +kernel, by decide +kernel⟩, List.mem_of_getElem? (i := 263) (by decide +kernel), List.mem_of_getElem? (i := 809) (by decide +kernel), List.mem_of_getElem? (i := 810) (by decide +kernel)⟩
theorem lw_p20 : lw_okq (⟨"KeyMatrix$Course", "fateOfHold", "(II)I"⟩, 6) := ⟨⟨by decide +kernel, by decide +kernel⟩, List.mem_of_getElem? (i := 263) (by decide +kernel), List.mem_of_getElem? (i := 836) (by decide +kernel), List.mem_of_getElem? (i := 837) (by decide +kernel)⟩
theorem lw_p21 : lw_okq (⟨"KeyMatrix$Course", "fateOfDouble", "(II)I"⟩, 6) := ⟨⟨by decide +kernel, by decide +kernel⟩, List.mem_of_getElem? (i := 263) (by decide +kernel), List.mem_of_getElem? (i := 840) (by decide +kernel), List.mem_of_getElem? (i := 841) (by decide +kernel)⟩
theorem lw_p22 : lw_okq (⟨"KeyMatrix$Course", "workOff", "(I)V"⟩, 6) := ⟨⟨by decide +kernel, by decide +kernel⟩, List.mem_of_getElem? (i := 263) (by decide +kernel), List.mem_of_getElem? (i := 844) (by decide +kernel), List.mem_of_getElem? (i := 845) (by decide +kernel)⟩
theorem lw_p23 : lw_okq (⟨"KeyMatrix$Doing", "drop", "(I)V"⟩, 9) := ⟨⟨by decide +kernel, by decide +kernel⟩, List.mem_of_getElem? (i := 333) (by decide +kernel), List.mem_of_getElem? (i := 857) (by decide +kernel), List.mem_of_getElem? (i := 858) (by decide +kernel)⟩
theorem lw_p24 : lw_okq (⟨"KeyMatrix$Course", "send", "(I)V"⟩, 6) := ⟨⟨by decide +kernel, by decide +kernel⟩, List.mem_of_getElem? (i := 263) (by decide +kernel), List.mem_of_getElem? (i := 861) (by decide +kernel), List.mem_of_getElem? (i := 862) (by decide +kernel)⟩
theorem lw_p25 : lw_okq (⟨"KeyMatrix$Doing", "addCode", "(I)V"⟩, 9) := ⟨⟨by decide +kernel, by decide +kernel⟩, List.mem_of_getElem? (i := 333) (by decide +kernel), List.mem_of_getElem? (i := 869) (by decide +kernel), List.mem_of_getElem? (i := 870) (by decide +kernel)⟩
theorem lw_p26 : lw_okq (⟨"KeyMatrix$Reports", "isAlike", "(ILKeyMatrix$Doing;Z)Z"⟩, 9) := ⟨⟨by decide +kernel, by decide +kernel⟩, List.mem_of_getElem? (i := 380) (by decide +kernel), List.mem_of_getElem? (i := 881) (by decide +kernel), List.mem_of_getElem? (i := 882) (by decide +kernel)⟩
theorem lw_p27 : lw_okq (⟨"KeyMatrix$Reports", "renewLatest", "(ILKeyMatrix$Doing;ZI)V"⟩, 9) := ⟨⟨by decide +kernel, by decide +kernel⟩, List.mem_of_getElem? (i := 380) (by decide +kernel), List.mem_of_getElem? (i := 889) (by decide +kernel), List.mem_of_getElem? (i := 890) (by decide +kernel)⟩
theorem lw_p28 : lw_okq (⟨"KeyMatrix$Reports", "hasCode", "(II)Z"⟩, 9) := ⟨⟨by decide +kernel, by decide +kernel⟩, List.mem_of_getElem? (i := 380) (by decide +kernel), List.mem_of_getElem? (i := 893) (by decide +kernel), List.mem_of_getElem? (i := 894) (by decide +kernel)⟩
theorem lw_p29 : lw_okq (⟨"KeyMatrix$Course", "perform", "(IIII)V"⟩, 6) := ⟨⟨by decide +kernel, by decide +kernel⟩, List.mem_of_getElem? (i := 263) (by decide +kernel), List.mem_of_getElem? (i := 906) (by decide +kernel), List.mem_of_getElem? (i := 907) (by decide +kernel)⟩
theorem lw_p30 : lw_okq (⟨"KeyMatrix", "setting", "(I)I"⟩, 10) := ⟨⟨by decide +kernel, by decide +kernel⟩, List.mem_of_getElem? (i := 23) (by decide +kernel), List.mem_of_getElem? (i := 1029) (by decide +kernel), List.mem_of_getElem? (i := 1030) (by decide +kernel)⟩
theorem lw_p31 : lw_okq (⟨"KeyMatrixModel", "startsAnew", "()V"⟩, 33) := ⟨⟨by decide +kernel, by decide +kernel⟩, List.mem_of_getElem? (i := 1033) (by decide +kernel), List.mem_of_getElem? (i := 1049) (by decide +kernel), List.mem_of_getElem? (i := 1050) (by decide +kernel)⟩
def lw_privs_2 : List (MethodName × Nat) := [(⟨"KeyMatrix$TextReader", "takeSetting", "(LKeyMatrix$Word;)Z"⟩, 10), (⟨"KeyMatrix$Wiring", "join", "(LKeyMatrix$Board;I)V"⟩, 4), (⟨"KeyMatrix$Wiring", "bar", "(LKeyMatrix$Board;I)V"⟩, 4), (⟨"KeyMatrix$Course", "fateOfFirst", "()I"⟩, 6), (⟨"KeyMatrix$Course", "fateOfHold", "(II)I"⟩, 6), (⟨"KeyMatrix$Course", "fateOfDouble", "(II)I"⟩, 6), (⟨"KeyMatrix$Course", "workOff", "(I)V"⟩, 6), (⟨"KeyMatrix$Doing", "drop", "(I)V"⟩, 9), (⟨"KeyMatrix$Course", "send", "(I)V"⟩, 6), (⟨"KeyMatrix$Doing", "addCode", "(I)V"⟩, 9), (⟨"KeyMatrix$Reports", "isAlike", "(ILKeyMatrix$Doing;Z)Z"⟩, 9), (⟨"KeyMatrix$Reports", "renewLatest", "(ILKeyMatrix$Doing;ZI)V"⟩, 9), (⟨"KeyMatrix$Reports", "hasCode", "(II)Z"⟩, 9), (⟨"KeyMatrix$Course", "perform", "(IIII)V"⟩, 6), (⟨"KeyMatrix", "setting", "(I)I"⟩, 10), (⟨"KeyMatrixModel", "startsAnew", "()V"⟩, 33)]
theorem lw_r2 : ∀ q ∈ lw_privs_2, lw_okq q := List.forall_mem_cons.mpr ⟨lw_p16, List.forall_mem_cons.mpr ⟨lw_p17, List.forall_mem_cons.mpr ⟨lw_p18, List.forall_mem_cons.mpr ⟨lw_p19, List.forall_mem_cons.mpr ⟨lw_p20, List.forall_mem_cons.mpr ⟨lw_p21, List.forall_mem_cons.mpr ⟨lw_p22, List.forall_mem_cons.mpr ⟨lw_p23, List.forall_mem_cons.mpr ⟨lw_p24, List.forall_mem_cons.mpr ⟨lw_p25, List.forall_mem_cons.mpr ⟨lw_p26, List.forall_mem_cons.mpr ⟨lw_p27, List.forall_mem_cons.mpr ⟨lw_p28, List.forall_mem_cons.mpr ⟨lw_p29, List.forall_mem_cons.mpr ⟨lw_p30, List.forall_mem_cons.mpr ⟨lw_p31, fun _ h => absurd h List.not_mem_nil⟩⟩⟩⟩⟩⟩⟩⟩⟩⟩⟩⟩⟩⟩⟩⟩
theorem lw_p32 : lw_okq (⟨"KeyMatrixModel", "lays", "(I)V"⟩, 33) := ⟨⟨by decide +kernel, by decide +kernel⟩, List.mem_of_getElem? (i := 1033) (by decide +kernel), List.mem_of_getElem? (i := 1158) (by decide +kernel), List.mem_of_getElem? (i := 1159) (by decide +kernel)⟩
theorem lw_p33 : lw_okq (⟨"KeyMatrixModel", "cutsText", "()V"⟩, 33) := ⟨⟨by decide +kernel, by decide +kernel⟩, List.mem_of_getElem? (i := 1033) (by decide +kernel), List.mem_of_getElem? (i := 1170) (by decide +kernel), List.mem_of_getElem? (i := 1171) (by decide +kernel)⟩
theorem lw_p34 : lw_okq (⟨"KeyMatrixModel", "byteAt", "(I)I"⟩, 33) := ⟨⟨by decide +kernel, by decide +kernel⟩, List.mem_of_getElem? (i := 1033) (by decide +kernel), List.mem_of_getElem? (i := 1174) (by decide +kernel), List.mem_of_getElem? (i := 1175) (by decide +kernel)⟩
theorem lw_p35 : lw_okq (⟨"KeyMatrixModel", "token", "(IIIJ)V"⟩, 33) := ⟨⟨by decide +kernel, by decide +kernel⟩, List.mem_of_getElem? (i := 1033) (by decide +kernel), List.mem_of_getElem? (i := 1178) (by decide +kernel), List.mem_of_getElem? (i := 1179) (by decide +kernel)⟩
theorem lw_p36 : lw_okq (⟨"KeyMatrixModel", "sign", "(II)I"⟩, 33) := ⟨⟨by decide +kernel, by decide +kernel⟩, List.mem_of_getElem? (i := 1033) (by decide +kernel), List.mem_of_getElem? (i := 1188) (by decide +kernel), List.mem_of_getElem? (i := 1189) (by decide +kernel)⟩
theorem lw_p37 : lw_okq (⟨"KeyMatrixModel", "must", "(I)V"⟩, 33) := ⟨⟨by decide +kernel, by decide +kernel⟩, List.mem_of_getElem? (i := 1033) (by decide +kernel), List.mem_of_getElem? (i := 1192) (by decide +kernel), List.mem_of_getElem? (i := 1193) (by decide +kernel)⟩
theorem lw_p38 : lw_okq (⟨"KeyMatrixModel", "is", "(I)Z"⟩, 33) := ⟨⟨by decide +kernel, by decide +kernel⟩, List.mem_of_getElem? (i := 1033) (by decide +kernel), List.mem_of_getElem? (i := 1196) (by decide +kernel), List.mem_of_getElem? (i := 1197) (by decide +kernel)⟩
theorem lw_p39 : lw_okq (⟨"KeyMatrixModel", "passes", "()V"⟩, 33) := ⟨⟨by decide +kernel, by decide +kernel⟩, List.mem_of_getElem? (i := 1033) (by decide +kernel), List.mem_of_getElem? (i := 1200) (by decide +kernel), List.mem_of_getElem? (i := 1201) (by decide +kernel)⟩
theorem lw_p40 : lw_okq (⟨"KeyMatrixModel", "fail", "(I)V"⟩, 33) := ⟨⟨by decide +kernel, by decide +kernel⟩, List.mem_of_getElem? (i := 1033) (by decide +kernel), List.mem_of_getElem? (i := 1204) (by decide +kernel), List.mem_of_getElem? (i := 1205) (by decide +kernel)⟩
theorem lw_p41 : lw_okq (⟨"KeyMatrixModel", "tell", "()V"⟩, 33) := ⟨⟨by decide +kernel, by decide +kernel⟩, List.mem_of_getElem? (i := 1033) (by decide +kernel), List.mem_of_getElem? (i := 1208) (by decide +kernel), List.mem_of_getElem? (i := 1209) (by decide +kernel)⟩
theorem lw_p42 : lw_okq (⟨"KeyMatrixModel", "deedRead", "()V"⟩, 33) := ⟨⟨by decide +kernel, by decide +kernel⟩, List.mem_of_getElem? (i := 1033) (by decide +kernel), List.mem_of_getElem? (i := 1212) (by decide +kernel), List.mem_of_getElem? (i := 1213) (by decide +kernel)⟩
theorem lw_p43 : lw_okq (⟨"KeyMatrixModel", "means", "()V"⟩, 33) := ⟨⟨by decide +kernel, by decide +kernel⟩, List.mem_of_getElem? (i := 1033) (by decide +kernel), List.mem_of_getElem? (i := 1216) (by decide +kernel), List.mem_of_getElem? (i := 1217) (by decide +kernel)⟩
theorem lw_p44 : lw_okq (⟨"KeyMatrixModel", "within", "(III)I"⟩, 33) := ⟨⟨by decide +kernel, by decide +kernel⟩, List.mem_of_getElem? (i := 1033) (by decide +kernel), List.mem_of_getElem? (i := 1220) (by decide +kernel), List.mem_of_getElem? (i := 1221) (by decide +kernel)⟩
theorem lw_p45 : lw_okq (⟨"KeyMatrixModel", "wrong", "(II)V"⟩, 33) := ⟨⟨by decide +kernel, by decide +kernel⟩, List.mem_of_getElem? (i := 1033) (by decide +kernel), List.mem_of_getElem? (i := 1227) (by decide +kernel), List.mem_of_getElem? (i := 1228) (by decide +kernel)⟩
theorem lw_p46 : lw_okq (⟨"KeyMatrixModel", "meansLine", "(I)V"⟩, 33) := ⟨⟨by decide +kernel, by decide +kernel⟩, List.mem_of_getElem? (i := 1033) (by decide +kernel), List.mem_of_getElem? (i := 1231) (by decide +kernel), List.mem_of_getElem? (i := 1232) (by decide +kernel)⟩
theorem lw_p47 : lw_okq (⟨"KeyMatrixModel", "meansKey", "(I)V"⟩, 33) := ⟨⟨by decide +kernel, by decide +kernel⟩, List.mem_of_getElem? (i := 1033) (by decide +kernel), List.mem_of_getElem? (i := 1235) (by decide +kernel), List.mem_of_getElem? (i := 1236) (by decide +kernel)⟩
def lw_privs_3 : List (MethodName × Nat) := [(⟨"KeyMatrixModel", "lays", "(I)V"⟩, 33), (⟨"KeyMatrixModel", "cutsText", "()V"⟩, 33), (⟨"KeyMatrixModel", "byteAt", "(I)I"⟩, 33), (⟨"KeyMatrixModel", "token", "(IIIJ)V"⟩, 33), (⟨"KeyMatrixModel", "sign", "(II)I"⟩, 33), (⟨"KeyMatrixModel", "must", "(I)V"⟩, 33), (⟨"KeyMatrixModel", "is", "(I)Z"⟩, 33), (⟨"KeyMatrixModel", "passes", "()V"⟩, 33), (⟨"KeyMatrixModel", "fail", "(I)V"⟩, 33), (⟨"KeyMatrixModel", "tell", "()V"⟩, 33), (⟨"KeyMatrixModel", "deedRead", "()V"⟩, 33), (⟨"KeyMatrixModel", "means", "()V"⟩, 33), (⟨"KeyMatrixModel", "within", "(III)I"⟩, 33), (⟨"KeyMatrixModel", "wrong", "(II)V"⟩, 33), (⟨"KeyMatrixModel", "meansLine", "(I)V"⟩, 33), (⟨"KeyMatrixModel", "meansKey", "(I)V"⟩, 33)]
theorem lw_r3 : ∀ q ∈ lw_privs_3, lw_okq q := List.forall_mem_cons.mpr ⟨lw_p32, List.forall_mem_cons.mpr ⟨lw_p33, List.forall_mem_cons.mpr ⟨lw_p34, List.forall_mem_cons.mpr ⟨lw_p35, List.forall_mem_cons.mpr ⟨lw_p36, List.forall_mem_cons.mpr ⟨lw_p37, List.forall_mem_cons.mpr ⟨lw_p38, List.forall_mem_cons.mpr ⟨lw_p39, List.forall_mem_cons.mpr ⟨lw_p40, List.forall_mem_cons.mpr ⟨lw_p41, List.forall_mem_cons.mpr ⟨lw_p42, List.forall_mem_cons.mpr ⟨lw_p43, List.forall_mem_cons.mpr ⟨lw_p44, List.forall_mem_cons.mpr ⟨lw_p45, List.forall_mem_cons.mpr ⟨lw_p46, List.forall_mem_cons.mpr ⟨lw_p47, fun _ h => absurd h List.not_mem_nil⟩⟩⟩⟩⟩⟩⟩⟩⟩⟩⟩⟩⟩⟩⟩⟩
theorem lw_p48 : lw_okq (⟨"KeyMatrixModel", "keyTold", "(I)I"⟩, 33) := ⟨⟨by decide +kernel, by decide +kernel⟩, List.mem_of_getElem? (i := 1033) (by decide +kernel), List.mem_of_getElem? (i := 1239) (by decide +kernel), List.mem_of_getElem? (i := 1240) (by decide +kernel)⟩
theorem lw_p49 : lw_okq (⟨"KeyMatrixModel", "meansDeed", "(I)V"⟩, 33) := ⟨⟨by decide +kernel, by decide +kernel⟩, List.mem_of_getElem? (i := 1033) (by decide +kernel), List.mem_of_getElem? (i := 1243) (by decide +kernel), List.mem_of_getElem? (i := 1244) (by decide +kernel)⟩
theorem lw_p50 : lw_okq (⟨"KeyMatrixModel", "meansChord", "(I)V"⟩, 33) := ⟨⟨by decide +kernel, by decide +kernel⟩, List.mem_of_getElem? (i := 1033) (by decide +kernel), List.mem_of_getElem? (i := 1247) (by decide +kernel), List.mem_of_getElem? (i := 1248) (by decide +kernel)⟩
theorem lw_p51 : lw_okq (⟨"KeyMatrixModel", "isChorded", "(I)Z"⟩, 33) := ⟨⟨by decide +kernel, by decide +kernel⟩, List.mem_of_getElem? (i := 1033) (by decide +kernel), List.mem_of_getElem? (i := 1251) (by decide +kernel), List.mem_of_getElem? (i := 1252) (by decide +kernel)⟩
theorem lw_p52 : lw_okq (⟨"KeyMatrixModel", "meansMacro", "(I)V"⟩, 33) := ⟨⟨by decide +kernel, by decide +kernel⟩, List.mem_of_getElem? (i := 1033) (by decide +kernel), List.mem_of_getElem? (i := 1255) (by decide +kernel), List.mem_of_getElem? (i := 1256) (by decide +kernel)⟩
theorem lw_p53 : lw_okq (⟨"KeyMatrixModel", "isKey", "(I)Z"⟩, 33) := ⟨⟨by decide +kernel, by decide +kernel⟩, List.mem_of_getElem? (i := 1033) (by decide +kernel), List.mem_of_getElem? (i := 1267) (by decide +kernel), List.mem_of_getElem? (i := 1268) (by decide +kernel)⟩
theorem lw_p54 : lw_okq (⟨"KeyMatrixModel", "keysMany", "()I"⟩, 33) := ⟨⟨by decide +kernel, by decide +kernel⟩, List.mem_of_getElem? (i := 1033) (by decide +kernel), List.mem_of_getElem? (i := 1271) (by decide +kernel), List.mem_of_getElem? (i := 1272) (by decide +kernel)⟩
theorem lw_p55 : lw_okq (⟨"KeyMatrixModel", "seenBy", "(I)I"⟩, 33) := ⟨⟨by decide +kernel, by decide +kernel⟩, List.mem_of_getElem? (i := 1033) (by decide +kernel), List.mem_of_getElem? (i := 1282) (by decide +kernel), List.mem_of_getElem? (i := 1283) (by decide +kernel)⟩
theorem lw_p56 : lw_okq (⟨"KeyMatrixModel", "laysParts", "(I)I"⟩, 33) := ⟨⟨by decide +kernel, by decide +kernel⟩, List.mem_of_getElem? (i := 1033) (by decide +kernel), List.mem_of_getElem? (i := 1286) (by decide +kernel), List.mem_of_getElem? (i := 1287) (by decide +kernel)⟩
theorem lw_p57 : lw_okq (⟨"KeyMatrixModel", "barredBy", "(I)I"⟩, 33) := ⟨⟨by decide +kernel, by decide +kernel⟩, List.mem_of_getElem? (i := 1033) (by decide +kernel), List.mem_of_getElem? (i := 1293) (by decide +kernel), List.mem_of_getElem? (i := 1294) (by decide +kernel)⟩
theorem lw_p58 : lw_okq (⟨"KeyMatrixModel", "isCornered", "(III)Z"⟩, 33) := ⟨⟨by decide +kernel, by decide +kernel⟩, List.mem_of_getElem? (i := 1033) (by decide +kernel), List.mem_of_getElem? (i := 1297) (by decide +kernel), List.mem_of_getElem? (i := 1298) (by decide +kernel)⟩
theorem lw_p59 : lw_okq (⟨"KeyMatrixModel", "layerOf", "(I)I"⟩, 33) := ⟨⟨by decide +kernel, by decide +kernel⟩, List.mem_of_getElem? (i := 1033) (by decide +kernel), List.mem_of_getElem? (i := 1305) (by decide +kernel), List.mem_of_getElem? (i := 1306) (by decide +kernel)⟩
theorem lw_p60 : lw_okq (⟨"KeyMatrixModel", "activeLayers", "()I"⟩, 33) := ⟨⟨by decide +kernel, by decide +kernel⟩, List.mem_of_getElem? (i := 1033) (by decide +kernel), List.mem_of_getElem? (i := 1309) (by decide +kernel), List.mem_of_getElem? (i := 1310) (by decide +kernel)⟩
theorem lw_p61 : lw_okq (⟨"KeyMatrixModel", "ticks", "()V"⟩, 33) := ⟨⟨by decide +kernel, by decide +kernel⟩, List.mem_of_getElem? (i := 1033) (by decide +kernel), List.mem_of_getElem? (i := 1317) (by decide +kernel), List.mem_of_getElem? (i := 1318) (by decide +kernel)⟩
theorem lw_p62 : lw_okq (⟨"KeyMatrixModel", "changes", "(I)V"⟩, 33) := ⟨⟨by decide +kernel, by decide +kernel⟩, List.mem_of_getElem? (i := 1033) (by decide +kernel), List.mem_of_getElem? (i := 1321) (by decide +kernel), List.mem_of_getElem? (i := 1322) (by decide +kernel)⟩
theorem lw_p63 : lw_okq (⟨"KeyMatrixModel", "works", "()Z"⟩, 33) := ⟨⟨by decide +kernel, by decide +kernel⟩, List.mem_of_getElem? (i := 1033) (by decide +kernel), List.mem_of_getElem? (i := 1325) (by decide +kernel), List.mem_of_getElem? (i := 1326) (by decide +kernel)⟩
def lw_privs_4 : List (MethodName × Nat) := [(⟨"KeyMatrixModel", "keyTold", "(I)I"⟩, 33), (⟨"KeyMatrixModel", "meansDeed", "(I)V"⟩, 33), (⟨"KeyMatrixModel", "meansChord", "(I)V"⟩, 33), (⟨"KeyMatrixModel", "isChorded", "(I)Z"⟩, 33), (⟨"KeyMatrixModel", "meansMacro", "(I)V"⟩, 33), (⟨"KeyMatrixModel", "isKey", "(I)Z"⟩, 33), (⟨"KeyMatrixModel", "keysMany", "()I"⟩, 33), (⟨"KeyMatrixModel", "seenBy", "(I)I"⟩, 33), (⟨"KeyMatrixModel", "laysParts", "(I)I"⟩, 33), (⟨"KeyMatrixModel", "barredBy", "(I)I"⟩, 33), (⟨"KeyMatrixModel", "isCornered", "(III)Z"⟩, 33), (⟨"KeyMatrixModel", "layerOf", "(I)I"⟩, 33), (⟨"KeyMatrixModel", "activeLayers", "()I"⟩, 33), (⟨"KeyMatrixModel", "ticks", "()V"⟩, 33), (⟨"KeyMatrixModel", "changes", "(I)V"⟩, 33), (⟨"KeyMatrixModel", "works", "()Z"⟩, 33)]
theorem lw_r4 : ∀ q ∈ lw_privs_4, lw_okq q := List.forall_mem_cons.mpr ⟨lw_p48, List.forall_mem_cons.mpr ⟨lw_p49, List.forall_mem_cons.mpr ⟨lw_p50, List.forall_mem_cons.mpr ⟨lw_p51, List.forall_mem_cons.mpr ⟨lw_p52, List.forall_mem_cons.mpr ⟨lw_p53, List.forall_mem_cons.mpr ⟨lw_p54, List.forall_mem_cons.mpr ⟨lw_p55, List.forall_mem_cons.mpr ⟨lw_p56, List.forall_mem_cons.mpr ⟨lw_p57, List.forall_mem_cons.mpr ⟨lw_p58, List.forall_mem_cons.mpr ⟨lw_p59, List.forall_mem_cons.mpr ⟨lw_p60, List.forall_mem_cons.mpr ⟨lw_p61, List.forall_mem_cons.mpr ⟨lw_p62, List.forall_mem_cons.mpr ⟨lw_p63, fun _ h => absurd h List.not_mem_nil⟩⟩⟩⟩⟩⟩⟩⟩⟩⟩⟩⟩⟩⟩⟩⟩
theorem lw_p64 : lw_okq (⟨"KeyMatrixModel", "keyAt", "(I)I"⟩, 33) := ⟨⟨by decide +kernel, by decide +kernel⟩, List.mem_of_getElem? (i := 1033) (by decide +kernel), List.mem_of_getElem? (i := 1329) (by decide +kernel), List.mem_of_getElem? (i := 1330) (by decide +kernel)⟩
theorem lw_p65 : lw_okq (⟨"KeyMatrixModel", "isDownAt", "(I)Z"⟩, 33) := ⟨⟨by decide +kernel, by decide +kernel⟩, List.mem_of_getElem? (i := 1033) (by decide +kernel), List.mem_of_getElem? (i := 1333) (by decide +kernel), List.mem_of_getElem? (i := 1334) (by decide +kernel)⟩
theorem lw_p66 : lw_okq (⟨"KeyMatrixModel", "drops", "(I)V"⟩, 33) := ⟨⟨by decide +kernel, by decide +kernel⟩, List.mem_of_getElem? (i := 1033) (by decide +kernel), List.mem_of_getElem? (i := 1337) (by decide +kernel), List.mem_of_getElem? (i := 1338) (by decide +kernel)⟩
theorem lw_p67 : lw_okq (⟨"KeyMatrixModel", "ends", "(I)V"⟩, 33) := ⟨⟨by decide +kernel, by decide +kernel⟩, List.mem_of_getElem? (i := 1033) (by decide +kernel), List.mem_of_getElem? (i := 1341) (by decide +kernel), List.mem_of_getElem? (i := 1342) (by decide +kernel)⟩
theorem lw_p68 : lw_okq (⟨"KeyMatrixModel", "chordOf", "(I)I"⟩, 33) := ⟨⟨by decide +kernel, by decide +kernel⟩, List.mem_of_getElem? (i := 1033) (by decide +kernel), List.mem_of_getElem? (i := 1345) (by decide +kernel), List.mem_of_getElem? (i := 1346) (by decide +kernel)⟩
theorem lw_p69 : lw_okq (⟨"KeyMatrixModel", "stops", "(I)V"⟩, 33) := ⟨⟨by decide +kernel, by decide +kernel⟩, List.mem_of_getElem? (i := 1033) (by decide +kernel), List.mem_of_getElem? (i := 1349) (by decide +kernel), List.mem_of_getElem? (i := 1350) (by decide +kernel)⟩
theorem lw_p70 : lw_okq (⟨"KeyMatrixModel", "reports", "()V"⟩, 33) := ⟨⟨by decide +kernel, by decide +kernel⟩, List.mem_of_getElem? (i := 1033) (by decide +kernel), List.mem_of_getElem? (i := 1353) (by decide +kernel), List.mem_of_getElem? (i := 1354) (by decide +kernel)⟩
theorem lw_p71 : lw_okq (⟨"KeyMatrixModel", "laysSent", "()V"⟩, 33) := ⟨⟨by decide +kernel, by decide +kernel⟩, List.mem_of_getElem? (i := 1033) (by decide +kernel), List.mem_of_getElem? (i := 1357) (by decide +kernel), List.mem_of_getElem? (i := 1358) (by decide +kernel)⟩
theorem lw_p72 : lw_okq (⟨"KeyMatrixModel", "nextBegun", "(I)I"⟩, 33) := ⟨⟨by decide +kernel, by decide +kernel⟩, List.mem_of_getElem? (i := 1033) (by decide +kernel), List.mem_of_getElem? (i := 1361) (by decide +kernel), List.mem_of_getElem? (i := 1362) (by decide +kernel)⟩
theorem lw_p73 : lw_okq (⟨"KeyMatrixModel", "adds", "(I)V"⟩, 33) := ⟨⟨by decide +kernel, by decide +kernel⟩, List.mem_of_getElem? (i := 1033) (by decide +kernel), List.mem_of_getElem? (i := 1365) (by decide +kernel), List.mem_of_getElem? (i := 1366) (by decide +kernel)⟩
theorem lw_p74 : lw_okq (⟨"KeyMatrixModel", "isLatest", "(I)Z"⟩, 33) := ⟨⟨by decide +kernel, by decide +kernel⟩, List.mem_of_getElem? (i := 1033) (by decide +kernel), List.mem_of_getElem? (i := 1369) (by decide +kernel), List.mem_of_getElem? (i := 1370) (by decide +kernel)⟩
theorem lw_p75 : lw_okq (⟨"KeyMatrixModel", "reportAt", "(I)I"⟩, 33) := ⟨⟨by decide +kernel, by decide +kernel⟩, List.mem_of_getElem? (i := 1033) (by decide +kernel), List.mem_of_getElem? (i := 1373) (by decide +kernel), List.mem_of_getElem? (i := 1374) (by decide +kernel)⟩
theorem lw_p76 : lw_okq (⟨"KeyMatrixModel", "hears", "(I)V"⟩, 33) := ⟨⟨by decide +kernel, by decide +kernel⟩, List.mem_of_getElem? (i := 1033) (by decide +kernel), List.mem_of_getElem? (i := 1377) (by decide +kernel), List.mem_of_getElem? (i := 1378) (by decide +kernel)⟩
theorem lw_p77 : lw_okq (⟨"KeyMatrixModel", "reportHas", "(II)Z"⟩, 33) := ⟨⟨by decide +kernel, by decide +kernel⟩, List.mem_of_getElem? (i := 1033) (by decide +kernel), List.mem_of_getElem? (i := 1381) (by decide +kernel), List.mem_of_getElem? (i := 1382) (by decide +kernel)⟩
theorem lw_p78 : lw_okq (⟨"KeyMatrixModel", "timeAt", "(I)I"⟩, 33) := ⟨⟨by decide +kernel, by decide +kernel⟩, List.mem_of_getElem? (i := 1033) (by decide +kernel), List.mem_of_getElem? (i := 1385) (by decide +kernel), List.mem_of_getElem? (i := 1386) (by decide +kernel)⟩
theorem lw_p79 : lw_okq (⟨"KeyMatrixModel", "chords", "(III)V"⟩, 33) := ⟨⟨by decide +kernel, by decide +kernel⟩, List.mem_of_getElem? (i := 1033) (by decide +kernel), List.mem_of_getElem? (i := 1389) (by decide +kernel), List.mem_of_getElem? (i := 1390) (by decide +kernel)⟩
def lw_privs_5 : List (MethodName × Nat) := [(⟨"KeyMatrixModel", "keyAt", "(I)I"⟩, 33), (⟨"KeyMatrixModel", "isDownAt", "(I)Z"⟩, 33), (⟨"KeyMatrixModel", "drops", "(I)V"⟩, 33), (⟨"KeyMatrixModel", "ends", "(I)V"⟩, 33), (⟨"KeyMatrixModel", "chordOf", "(I)I"⟩, 33), (⟨"KeyMatrixModel", "stops", "(I)V"⟩, 33), (⟨"KeyMatrixModel", "reports", "()V"⟩, 33), (⟨"KeyMatrixModel", "laysSent", "()V"⟩, 33), (⟨"KeyMatrixModel", "nextBegun", "(I)I"⟩, 33), (⟨"KeyMatrixModel", "adds", "(I)V"⟩, 33), (⟨"KeyMatrixModel", "isLatest", "(I)Z"⟩, 33), (⟨"KeyMatrixModel", "reportAt", "(I)I"⟩, 33), (⟨"KeyMatrixModel", "hears", "(I)V"⟩, 33), (⟨"KeyMatrixModel", "reportHas", "(II)Z"⟩, 33), (⟨"KeyMatrixModel", "timeAt", "(I)I"⟩, 33), (⟨"KeyMatrixModel", "chords", "(III)V"⟩, 33)]
theorem lw_r5 : ∀ q ∈ lw_privs_5, lw_okq q := List.forall_mem_cons.mpr ⟨lw_p64, List.forall_mem_cons.mpr ⟨lw_p65, List.forall_mem_cons.mpr ⟨lw_p66, List.forall_mem_cons.mpr ⟨lw_p67, List.forall_mem_cons.mpr ⟨lw_p68, List.forall_mem_cons.mpr ⟨lw_p69, List.forall_mem_cons.mpr ⟨lw_p70, List.forall_mem_cons.mpr ⟨lw_p71, List.forall_mem_cons.mpr ⟨lw_p72, List.forall_mem_cons.mpr ⟨lw_p73, List.forall_mem_cons.mpr ⟨lw_p74, List.forall_mem_cons.mpr ⟨lw_p75, List.forall_mem_cons.mpr ⟨lw_p76, List.forall_mem_cons.mpr ⟨lw_p77, List.forall_mem_cons.mpr ⟨lw_p78, List.forall_mem_cons.mpr ⟨lw_p79, fun _ h => absurd h List.not_mem_nil⟩⟩⟩⟩⟩⟩⟩⟩⟩⟩⟩⟩⟩⟩⟩⟩
theorem lw_p80 : lw_okq (⟨"KeyMatrixModel", "plays", "(I)V"⟩, 33) := ⟨⟨by decide +kernel, by decide +kernel⟩, List.mem_of_getElem? (i := 1033) (by decide +kernel), List.mem_of_getElem? (i := 1393) (by decide +kernel), List.mem_of_getElem? (i := 1394) (by decide +kernel)⟩
theorem lw_p81 : lw_okq (⟨"KeyMatrixModel", "begin", "(III)V"⟩, 33) := ⟨⟨by decide +kernel, by decide +kernel⟩, List.mem_of_getElem? (i := 1033) (by decide +kernel), List.mem_of_getElem? (i := 1397) (by decide +kernel), List.mem_of_getElem? (i := 1398) (by decide +kernel)⟩
theorem lw_p82 : lw_okq (⟨"KeyMatrixModel", "worksAlone", "(II)Z"⟩, 33) := ⟨⟨by decide +kernel, by decide +kernel⟩, List.mem_of_getElem? (i := 1033) (by decide +kernel), List.mem_of_getElem? (i := 1401) (by decide +kernel), List.mem_of_getElem? (i := 1402) (by decide +kernel)⟩
theorem lw_p83 : lw_okq (⟨"KeyMatrixModel", "heldOrTapped", "(II)I"⟩, 33) := ⟨⟨by decide +kernel, by decide +kernel⟩, List.mem_of_getElem? (i := 1033) (by decide +kernel), List.mem_of_getElem? (i := 1405) (by decide +kernel), List.mem_of_getElem? (i := 1406) (by decide +kernel)⟩
theorem lw_p84 : lw_okq (⟨"KeyMatrixModel", "onceOrTwice", "(II)I"⟩, 33) := ⟨⟨by decide +kernel, by decide +kernel⟩, List.mem_of_getElem? (i := 1033) (by decide +kernel), List.mem_of_getElem? (i := 1409) (by decide +kernel), List.mem_of_getElem? (i := 1410) (by decide +kernel)⟩
theorem lw_p85 : lw_okq (⟨"KeyMatrixModel", "dropsTwo", "(I)V"⟩, 33) := ⟨⟨by decide +kernel, by decide +kernel⟩, List.mem_of_getElem? (i := 1033) (by decide +kernel), List.mem_of_getElem? (i := 1413) (by decide +kernel), List.mem_of_getElem? (i := 1414) (by decide +kernel)⟩
theorem lw_p86 : lw_okq (⟨"KeyMatrixModel", "doesPlainly", "(III)V"⟩, 33) := ⟨⟨by decide +kernel, by decide +kernel⟩, List.mem_of_getElem? (i := 1033) (by decide +kernel), List.mem_of_getElem? (i := 1417) (by decide +kernel), List.mem_of_getElem? (i := 1418) (by decide +kernel)⟩
theorem lw_p87 : lw_okq (⟨"KeyMatrixModel", "repeats", "()V"⟩, 33) := ⟨⟨by decide +kernel, by decide +kernel⟩, List.mem_of_getElem? (i := 1033) (by decide +kernel), List.mem_of_getElem? (i := 1423) (by decide +kernel), List.mem_of_getElem? (i := 1424) (by decide +kernel)⟩
theorem lw_p88 : lw_okq (⟨"KeyMatrixModel", "reportsKept", "()I"⟩, 33) := ⟨⟨by decide +kernel, by decide +kernel⟩, List.mem_of_getElem? (i := 1033) (by decide +kernel), List.mem_of_getElem? (i := 1448) (by decide +kernel), List.mem_of_getElem? (i := 1449) (by decide +kernel)⟩
def lw_privs_6 : List (MethodName × Nat) := [(⟨"KeyMatrixModel", "plays", "(I)V"⟩, 33), (⟨"KeyMatrixModel", "begin", "(III)V"⟩, 33), (⟨"KeyMatrixModel", "worksAlone", "(II)Z"⟩, 33), (⟨"KeyMatrixModel", "heldOrTapped", "(II)I"⟩, 33), (⟨"KeyMatrixModel", "onceOrTwice", "(II)I"⟩, 33), (⟨"KeyMatrixModel", "dropsTwo", "(I)V"⟩, 33), (⟨"KeyMatrixModel", "doesPlainly", "(III)V"⟩, 33), (⟨"KeyMatrixModel", "repeats", "()V"⟩, 33), (⟨"KeyMatrixModel", "reportsKept", "()I"⟩, 33)]
theorem lw_r6 : ∀ q ∈ lw_privs_6, lw_okq q := List.forall_mem_cons.mpr ⟨lw_p80, List.forall_mem_cons.mpr ⟨lw_p81, List.forall_mem_cons.mpr ⟨lw_p82, List.forall_mem_cons.mpr ⟨lw_p83, List.forall_mem_cons.mpr ⟨lw_p84, List.forall_mem_cons.mpr ⟨lw_p85, List.forall_mem_cons.mpr ⟨lw_p86, List.forall_mem_cons.mpr ⟨lw_p87, List.forall_mem_cons.mpr ⟨lw_p88, fun _ h => absurd h List.not_mem_nil⟩⟩⟩⟩⟩⟩⟩⟩⟩
def lw_privs : List (MethodName × Nat) := lw_privs_1 ++ (lw_privs_2 ++ (lw_privs_3 ++ (lw_privs_4 ++ (lw_privs_5 ++ (lw_privs_6)))))
def lw_tbl : List Cond := k2_sels lw_privs ++ tables_1
theorem lw_privs_ok : ∀ q ∈ lw_privs, lw_okq q := by
  show ∀ q ∈ lw_privs_1 ++ (lw_privs_2 ++ (lw_privs_3 ++ (lw_privs_4 ++ (lw_privs_5 ++ (lw_privs_6))))), lw_okq q
  exact List.forall_mem_append.mpr ⟨lw_r1, List.forall_mem_append.mpr ⟨lw_r2, List.forall_mem_append.mpr ⟨lw_r3, List.forall_mem_append.mpr ⟨lw_r4, List.forall_mem_append.mpr ⟨lw_r5, lw_r6⟩⟩⟩⟩⟩
/-- the streams that the claim lets the run draw from -/
abbrev lw_cs : List Choice := [Jvm.Choice.named "NaN.bits"]
theorem lw_bits : nanBits ∈ lw_cs := by first | decide | exact List.mem_cons_self | simp [lw_cs, nanBits]
-- ===== end of PART A; then your names; then what follows =====
/-! ===== BEGIN words of one list among another's, by their places ===== -/
theorem goodIn_r {big : List Cond} (ws : List Cond) (ps : List Nat) (hp : ws = ps.filterMap (fun i => big[i]?)) (h : ws.all goodWord = true) : GoodIn big ws := by
  intro w hw
  have h1 := List.all_eq_true.mp h w hw
  rw [hp] at hw
  obtain ⟨i, -, hi⟩ := List.mem_filterMap.mp hw
  have hm : w ∈ big := by first | exact List.mem_of_getElem? hi | exact List.getElem?_mem hi
  exact ⟨hm, good_of_word h1⟩
theorem goodIn_app {big a b : List Cond} (ha : GoodIn big a) (hb : GoodIn big b) : GoodIn big (a ++ b) := fun w h => (List.mem_append.mp h).elim (ha w) (hb w)
theorem goodIn_ca {big a b : List Cond} {c : Cond} (ha : GoodIn big (c :: a)) (hb : GoodIn big b) : GoodIn big (c :: (a ++ b)) := fun w h => (List.mem_cons.mp h).elim (fun e => ha w (List.mem_cons.mpr (Or.inl e))) (fun h => (List.mem_append.mp h).elim (fun h => ha w (List.mem_cons.mpr (Or.inr h))) (hb w))
theorem goodIn_sub {big ws : List Cond} (hm : ∀ w ∈ ws, w ∈ big) (h : ws.all goodWord = true) : GoodIn big ws := fun w hw => ⟨hm w hw, good_of_word (List.all_eq_true.mp h w hw)⟩
/-! ===== END ===== -/

/-! ===== BEGIN printed: names, fields, word lists, decode rows ===== -/
def RX0 : String := "KeyMatrix$Board"
def TX0 : u_T := fun k => match k with
  | 0 => ("KeyMatrix$Board", "rows", "I", false)
  | 1 => ("KeyMatrix$Board", "columns", "I", false)
  | 2 => ("KeyMatrix$Board", "diodes", "Z", false)
  | 3 => ("KeyMatrix$Board", "six", "Z", false)
  | 4 => ("KeyMatrix$Board", "bounce", "I", false)
  | 5 => ("KeyMatrix$Board", "term", "I", false)
  | 6 => ("KeyMatrix$Board", "chording", "I", false)
  | 7 => ("KeyMatrix$Board", "twice", "I", false)
  | 8 => ("KeyMatrix$Board", "delay", "I", false)
  | 9 => ("KeyMatrix$Board", "rate", "I", false)
  | 10 => ("KeyMatrix$Board", "deeds", "[LKeyMatrix$Deed;", true)
  | 11 => ("KeyMatrix$Board", "nothing", "LKeyMatrix$Deed;", true)
  | 12 => ("KeyMatrix$Board", "chordCount", "I", false)
  | 13 => ("KeyMatrix$Board", "chordFirst", "[I", true)
  | 14 => ("KeyMatrix$Board", "chordOther", "[I", true)
  | 15 => ("KeyMatrix$Board", "chordDeeds", "[LKeyMatrix$Deed;", true)
  | 16 => ("KeyMatrix$Board", "macroCount", "I", false)
  | 17 => ("KeyMatrix$Board", "macroLengths", "[I", true)
  | _ => ("KeyMatrix$Board", "macroCodes", "[I", true)
def tyX0 : Nat → FieldType := fun k => match k with
  | 0 => .int
  | 1 => .int
  | 2 => .boolean
  | 3 => .boolean
  | 4 => .int
  | 5 => .int
  | 6 => .int
  | 7 => .int
  | 8 => .int
  | 9 => .int
  | 10 => .array (.object "KeyMatrix$Deed")
  | 11 => .object "KeyMatrix$Deed"
  | 12 => .int
  | 13 => .array .int
  | 14 => .array .int
  | 15 => .array (.object "KeyMatrix$Deed")
  | 16 => .int
  | 17 => .array .int
  | _ => .array .int
abbrev wsX00 : List Cond := u_ws RX0 TX0 19
theorem nmX0 : ∀ a, a < 19 → ∀ b, b < 19 → a ≠ b → (TX0 a).2.1 ≠ (TX0 b).2.1 := by decide +kernel
theorem tyX0_ok : ∀ k, k < 19 → parseFieldDescriptor (TX0 k).2.2.1 = some (tyX0 k) := by decide +kernel
abbrev cX0_init : ByteArray := prog_2_method_1_code
def yX0_init : MethodName := ⟨RX0, "<init>", "()V"⟩
abbrev cX0_clear : ByteArray := prog_2_method_2_code
def yX0_clear : MethodName := ⟨RX0, "clear", "()V"⟩
abbrev cX0_copyFrom : ByteArray := prog_2_method_3_code
def yX0_copyFrom : MethodName := ⟨RX0, "copyFrom", "(LKeyMatrix$Board;)V"⟩
abbrev cX0_keys : ByteArray := prog_2_method_4_code
def yX0_keys : MethodName := ⟨RX0, "keys", "()I"⟩
abbrev cX0_hasKey : ByteArray := prog_2_method_5_code
def yX0_hasKey : MethodName := ⟨RX0, "hasKey", "(I)Z"⟩
abbrev cX0_toldDeed : ByteArray := prog_2_method_6_code
def yX0_toldDeed : MethodName := ⟨RX0, "toldDeed", "(II)LKeyMatrix$Deed;"⟩
abbrev cX0_deedIn : ByteArray := prog_2_method_7_code
def yX0_deedIn : MethodName := ⟨RX0, "deedIn", "(II)LKeyMatrix$Deed;"⟩
abbrev cX0_addChord : ByteArray := prog_2_method_8_code
def yX0_addChord : MethodName := ⟨RX0, "addChord", "(IILKeyMatrix$Deed;)V"⟩
abbrev cX0_chordOf : ByteArray := prog_2_method_9_code
def yX0_chordOf : MethodName := ⟨RX0, "chordOf", "(I)I"⟩
abbrev cX0_chordDeed : ByteArray := prog_2_method_10_code
def yX0_chordDeed : MethodName := ⟨RX0, "chordDeed", "(I)LKeyMatrix$Deed;"⟩
abbrev cX0_addMacro : ByteArray := prog_2_method_11_code
def yX0_addMacro : MethodName := ⟨RX0, "addMacro", "(I)V"⟩
abbrev cX0_addMacroCode : ByteArray := prog_2_method_12_code
def yX0_addMacroCode : MethodName := ⟨RX0, "addMacroCode", "(I)V"⟩
abbrev cX0_macroCode : ByteArray := prog_2_method_13_code
def yX0_macroCode : MethodName := ⟨RX0, "macroCode", "(II)I"⟩
def RX1 : String := "KeyMatrix$Course"
def TX1 : u_T := fun k => match k with
  | 0 => ("KeyMatrix$Course", "board", "LKeyMatrix$Board;", true)
  | 1 => ("KeyMatrix$Course", "scan", "LKeyMatrix$Scan;", true)
  | 2 => ("KeyMatrix$Course", "queue", "LKeyMatrix$Queue;", true)
  | 3 => ("KeyMatrix$Course", "doing", "LKeyMatrix$Doing;", true)
  | 4 => ("KeyMatrix$Course", "reports", "LKeyMatrix$Reports;", true)
  | _ => ("KeyMatrix$Course", "now", "I", false)
def tyX1 : Nat → FieldType := fun k => match k with
  | 0 => .object "KeyMatrix$Board"
  | 1 => .object "KeyMatrix$Scan"
  | 2 => .object "KeyMatrix$Queue"
  | 3 => .object "KeyMatrix$Doing"
  | 4 => .object "KeyMatrix$Reports"
  | _ => .int
abbrev wsX10 : List Cond := u_ws RX1 TX1 6
theorem nmX1 : ∀ a, a < 6 → ∀ b, b < 6 → a ≠ b → (TX1 a).2.1 ≠ (TX1 b).2.1 := by decide +kernel
theorem tyX1_ok : ∀ k, k < 6 → parseFieldDescriptor (TX1 k).2.2.1 = some (tyX1 k) := by decide +kernel
abbrev cX1_init : ByteArray := prog_3_method_1_code
def yX1_init : MethodName := ⟨RX1, "<init>", "(LKeyMatrix$Board;)V"⟩
abbrev cX1_clear : ByteArray := prog_3_method_2_code
def yX1_clear : MethodName := ⟨RX1, "clear", "()V"⟩
abbrev cX1_copyFrom : ByteArray := prog_3_method_3_code
def yX1_copyFrom : MethodName := ⟨RX1, "copyFrom", "(LKeyMatrix$Course;)V"⟩
abbrev cX1_activeLayers : ByteArray := prog_3_method_4_code
def yX1_activeLayers : MethodName := ⟨RX1, "activeLayers", "()I"⟩
abbrev cX1_passTick : ByteArray := prog_3_method_5_code
def yX1_passTick : MethodName := ⟨RX1, "passTick", "()V"⟩
abbrev cX1_fateOfFirst : ByteArray := prog_3_method_6_code
def yX1_fateOfFirst : MethodName := ⟨RX1, "fateOfFirst", "()I"⟩
abbrev cX1_fateOfHold : ByteArray := prog_3_method_7_code
def yX1_fateOfHold : MethodName := ⟨RX1, "fateOfHold", "(II)I"⟩
abbrev cX1_fateOfDouble : ByteArray := prog_3_method_8_code
def yX1_fateOfDouble : MethodName := ⟨RX1, "fateOfDouble", "(II)I"⟩
abbrev cX1_workOff : ByteArray := prog_3_method_9_code
def yX1_workOff : MethodName := ⟨RX1, "workOff", "(I)V"⟩
abbrev cX1_perform : ByteArray := prog_3_method_10_code
def yX1_perform : MethodName := ⟨RX1, "perform", "(IIII)V"⟩
abbrev cX1_send : ByteArray := prog_3_method_11_code
def yX1_send : MethodName := ⟨RX1, "send", "(I)V"⟩
def RX2 : String := "KeyMatrix$Deed"
def TX2 : u_T := fun k => match k with
  | 0 => ("KeyMatrix$Deed", "kind", "I", false)
  | 1 => ("KeyMatrix$Deed", "first", "I", false)
  | _ => ("KeyMatrix$Deed", "second", "I", false)
def tyX2 : Nat → FieldType := fun k => match k with
  | 0 => .int
  | 1 => .int
  | _ => .int
abbrev wsX20 : List Cond := u_ws RX2 TX2 3
theorem nmX2 : ∀ a, a < 3 → ∀ b, b < 3 → a ≠ b → (TX2 a).2.1 ≠ (TX2 b).2.1 := by decide +kernel
theorem tyX2_ok : ∀ k, k < 3 → parseFieldDescriptor (TX2 k).2.2.1 = some (tyX2 k) := by decide +kernel
abbrev cX2_init : ByteArray := prog_4_method_1_code
def yX2_init : MethodName := ⟨RX2, "<init>", "()V"⟩
abbrev cX2_tell : ByteArray := prog_4_method_2_code
def yX2_tell : MethodName := ⟨RX2, "tell", "(III)V"⟩
abbrev cX2_copyFrom : ByteArray := prog_4_method_3_code
def yX2_copyFrom : MethodName := ⟨RX2, "copyFrom", "(LKeyMatrix$Deed;)V"⟩
def RX3 : String := "KeyMatrix$Doing"
def TX3 : u_T := fun k => match k with
  | 0 => ("KeyMatrix$Doing", "kind", "[I", true)
  | 1 => ("KeyMatrix$Doing", "which", "[I", true)
  | 2 => ("KeyMatrix$Doing", "partner", "[I", true)
  | 3 => ("KeyMatrix$Doing", "order", "[I", true)
  | 4 => ("KeyMatrix$Doing", "busy", "I", false)
  | 5 => ("KeyMatrix$Doing", "toggled", "I", false)
  | 6 => ("KeyMatrix$Doing", "mods", "I", false)
  | 7 => ("KeyMatrix$Doing", "codes", "[I", true)
  | _ => ("KeyMatrix$Doing", "codeCount", "I", false)
def tyX3 : Nat → FieldType := fun k => match k with
  | 0 => .array .int
  | 1 => .array .int
  | 2 => .array .int
  | 3 => .array .int
  | 4 => .int
  | 5 => .int
  | 6 => .int
  | 7 => .array .int
  | _ => .int
abbrev wsX30 : List Cond := u_ws RX3 TX3 9
theorem nmX3 : ∀ a, a < 9 → ∀ b, b < 9 → a ≠ b → (TX3 a).2.1 ≠ (TX3 b).2.1 := by decide +kernel
theorem tyX3_ok : ∀ k, k < 9 → parseFieldDescriptor (TX3 k).2.2.1 = some (tyX3 k) := by decide +kernel
abbrev cX3_init : ByteArray := prog_5_method_1_code
def yX3_init : MethodName := ⟨RX3, "<init>", "()V"⟩
abbrev cX3_clear : ByteArray := prog_5_method_2_code
def yX3_clear : MethodName := ⟨RX3, "clear", "()V"⟩
abbrev cX3_copyFrom : ByteArray := prog_5_method_3_code
def yX3_copyFrom : MethodName := ⟨RX3, "copyFrom", "(LKeyMatrix$Doing;)V"⟩
abbrev cX3_begin : ByteArray := prog_5_method_4_code
def yX3_begin : MethodName := ⟨RX3, "begin", "(IIII)V"⟩
abbrev cX3_end : ByteArray := prog_5_method_5_code
def yX3_end : MethodName := ⟨RX3, "end", "(I)V"⟩
abbrev cX3_drop : ByteArray := prog_5_method_6_code
def yX3_drop : MethodName := ⟨RX3, "drop", "(I)V"⟩
abbrev cX3_gather : ByteArray := prog_5_method_7_code
def yX3_gather : MethodName := ⟨RX3, "gather", "(I)V"⟩
abbrev cX3_addCode : ByteArray := prog_5_method_8_code
def yX3_addCode : MethodName := ⟨RX3, "addCode", "(I)V"⟩
abbrev cX3_sends : ByteArray := prog_5_method_9_code
def yX3_sends : MethodName := ⟨RX3, "sends", "(I)Z"⟩
def RX4 : String := "KeyMatrix$Queue"
def TX4 : u_T := fun k => match k with
  | 0 => ("KeyMatrix$Queue", "events", "[I", true)
  | 1 => ("KeyMatrix$Queue", "size", "I", false)
  | _ => ("KeyMatrix$Queue", "total", "I", false)
def tyX4 : Nat → FieldType := fun k => match k with
  | 0 => .array .int
  | 1 => .int
  | _ => .int
abbrev wsX40 : List Cond := u_ws RX4 TX4 3
theorem nmX4 : ∀ a, a < 3 → ∀ b, b < 3 → a ≠ b → (TX4 a).2.1 ≠ (TX4 b).2.1 := by decide +kernel
theorem tyX4_ok : ∀ k, k < 3 → parseFieldDescriptor (TX4 k).2.2.1 = some (tyX4 k) := by decide +kernel
abbrev cX4_init : ByteArray := prog_6_method_1_code
def yX4_init : MethodName := ⟨RX4, "<init>", "()V"⟩
abbrev cX4_clear : ByteArray := prog_6_method_2_code
def yX4_clear : MethodName := ⟨RX4, "clear", "()V"⟩
abbrev cX4_copyFrom : ByteArray := prog_6_method_3_code
def yX4_copyFrom : MethodName := ⟨RX4, "copyFrom", "(LKeyMatrix$Queue;)V"⟩
abbrev cX4_add : ByteArray := prog_6_method_4_code
def yX4_add : MethodName := ⟨RX4, "add", "(IZI)V"⟩
abbrev cX4_drop : ByteArray := prog_6_method_5_code
def yX4_drop : MethodName := ⟨RX4, "drop", "(I)V"⟩
abbrev cX4_dropNext : ByteArray := prog_6_method_6_code
def yX4_dropNext : MethodName := ⟨RX4, "dropNext", "(IZ)V"⟩
abbrev cX4_keyAt : ByteArray := prog_6_method_7_code
def yX4_keyAt : MethodName := ⟨RX4, "keyAt", "(I)I"⟩
abbrev cX4_isDownAt : ByteArray := prog_6_method_8_code
def yX4_isDownAt : MethodName := ⟨RX4, "isDownAt", "(I)Z"⟩
abbrev cX4_tickAt : ByteArray := prog_6_method_9_code
def yX4_tickAt : MethodName := ⟨RX4, "tickAt", "(I)I"⟩
def RX5 : String := "KeyMatrix$Reports"
def TX5 : u_T := fun k => match k with
  | 0 => ("KeyMatrix$Reports", "ticks", "[I", true)
  | 1 => ("KeyMatrix$Reports", "mods", "[I", true)
  | 2 => ("KeyMatrix$Reports", "counts", "[I", true)
  | 3 => ("KeyMatrix$Reports", "codes", "[I", true)
  | 4 => ("KeyMatrix$Reports", "total", "I", false)
  | 5 => ("KeyMatrix$Reports", "latest", "I", false)
  | 6 => ("KeyMatrix$Reports", "since", "I", false)
  | 7 => ("KeyMatrix$Reports", "repeats", "I", false)
  | _ => ("KeyMatrix$Reports", "repeatsOfLatest", "I", false)
def tyX5 : Nat → FieldType := fun k => match k with
  | 0 => .array .int
  | 1 => .array .int
  | 2 => .array .int
  | 3 => .array .int
  | 4 => .int
  | 5 => .int
  | 6 => .int
  | 7 => .int
  | _ => .int
abbrev wsX50 : List Cond := u_ws RX5 TX5 9
theorem nmX5 : ∀ a, a < 9 → ∀ b, b < 9 → a ≠ b → (TX5 a).2.1 ≠ (TX5 b).2.1 := by decide +kernel
theorem tyX5_ok : ∀ k, k < 9 → parseFieldDescriptor (TX5 k).2.2.1 = some (tyX5 k) := by decide +kernel
abbrev cX5_init : ByteArray := prog_7_method_1_code
def yX5_init : MethodName := ⟨RX5, "<init>", "()V"⟩
abbrev cX5_clear : ByteArray := prog_7_method_2_code
def yX5_clear : MethodName := ⟨RX5, "clear", "()V"⟩
abbrev cX5_copyFrom : ByteArray := prog_7_method_3_code
def yX5_copyFrom : MethodName := ⟨RX5, "copyFrom", "(LKeyMatrix$Reports;)V"⟩
abbrev cX5_rowOf : ByteArray := prog_7_method_4_code
def yX5_rowOf : MethodName := ⟨RX5, "rowOf", "(I)I"⟩
abbrev cX5_codeAt : ByteArray := prog_7_method_5_code
def yX5_codeAt : MethodName := ⟨RX5, "codeAt", "(II)I"⟩
abbrev cX5_reportIfUnlike : ByteArray := prog_7_method_6_code
def yX5_reportIfUnlike : MethodName := ⟨RX5, "reportIfUnlike", "(LKeyMatrix$Doing;ZI)V"⟩
abbrev cX5_isAlike : ByteArray := prog_7_method_7_code
def yX5_isAlike : MethodName := ⟨RX5, "isAlike", "(ILKeyMatrix$Doing;Z)Z"⟩
abbrev cX5_renewLatest : ByteArray := prog_7_method_8_code
def yX5_renewLatest : MethodName := ⟨RX5, "renewLatest", "(ILKeyMatrix$Doing;ZI)V"⟩
abbrev cX5_makeLatest : ByteArray := prog_7_method_9_code
def yX5_makeLatest : MethodName := ⟨RX5, "makeLatest", "(II)V"⟩
abbrev cX5_hasCode : ByteArray := prog_7_method_10_code
def yX5_hasCode : MethodName := ⟨RX5, "hasCode", "(II)Z"⟩
abbrev cX5_repeatLatest : ByteArray := prog_7_method_11_code
def yX5_repeatLatest : MethodName := ⟨RX5, "repeatLatest", "(III)V"⟩
def RX6 : String := "KeyMatrix$Scan"
def TX6 : u_T := fun k => match k with
  | 0 => ("KeyMatrix$Scan", "closed", "I", false)
  | 1 => ("KeyMatrix$Scan", "seen", "I", false)
  | 2 => ("KeyMatrix$Scan", "barred", "I", false)
  | 3 => ("KeyMatrix$Scan", "down", "I", false)
  | 4 => ("KeyMatrix$Scan", "unlike", "[I", true)
  | 5 => ("KeyMatrix$Scan", "steady", "[F", true)
  | 6 => ("KeyMatrix$Scan", "strokes", "[I", true)
  | 7 => ("KeyMatrix$Scan", "longest", "[I", true)
  | _ => ("KeyMatrix$Scan", "lastEvent", "[I", true)
def tyX6 : Nat → FieldType := fun k => match k with
  | 0 => .int
  | 1 => .int
  | 2 => .int
  | 3 => .int
  | 4 => .array .int
  | 5 => .array .float
  | 6 => .array .int
  | 7 => .array .int
  | _ => .array .int
abbrev wsX60 : List Cond := u_ws RX6 TX6 9
theorem nmX6 : ∀ a, a < 9 → ∀ b, b < 9 → a ≠ b → (TX6 a).2.1 ≠ (TX6 b).2.1 := by decide +kernel
theorem tyX6_ok : ∀ k, k < 9 → parseFieldDescriptor (TX6 k).2.2.1 = some (tyX6 k) := by decide +kernel
abbrev cX6_init : ByteArray := prog_8_method_1_code
def yX6_init : MethodName := ⟨RX6, "<init>", "()V"⟩
abbrev cX6_clear : ByteArray := prog_8_method_2_code
def yX6_clear : MethodName := ⟨RX6, "clear", "()V"⟩
abbrev cX6_copyFrom : ByteArray := prog_8_method_3_code
def yX6_copyFrom : MethodName := ⟨RX6, "copyFrom", "(LKeyMatrix$Scan;)V"⟩
abbrev cX6_weighSteady : ByteArray := prog_8_method_4_code
def yX6_weighSteady : MethodName := ⟨RX6, "weighSteady", "(I)V"⟩
abbrev cX6_changes : ByteArray := prog_8_method_5_code
def yX6_changes : MethodName := ⟨RX6, "changes", "(II)Z"⟩
abbrev cX6_change : ByteArray := prog_8_method_6_code
def yX6_change : MethodName := ⟨RX6, "change", "(II)V"⟩
def RX7 : String := "KeyMatrix$TextReader"
def TX7 : u_T := fun k => match k with
  | 0 => ("KeyMatrix$TextReader", "tokens", "LKeyMatrix$Tokens;", true)
  | 1 => ("KeyMatrix$TextReader", "told", "LKeyMatrix$Deed;", true)
  | 2 => ("KeyMatrix$TextReader", "draft", "LKeyMatrix$Board;", true)
  | 3 => ("KeyMatrix$TextReader", "at", "I", false)
  | 4 => ("KeyMatrix$TextReader", "number", "I", false)
  | 5 => ("KeyMatrix$TextReader", "fault", "I", false)
  | 6 => ("KeyMatrix$TextReader", "faultToken", "I", false)
  | 7 => ("KeyMatrix$TextReader", "faultPlace", "I", false)
  | 8 => ("KeyMatrix$TextReader", "laterFault", "I", false)
  | _ => ("KeyMatrix$TextReader", "laterToken", "I", false)
def tyX7 : Nat → FieldType := fun k => match k with
  | 0 => .object "KeyMatrix$Tokens"
  | 1 => .object "KeyMatrix$Deed"
  | 2 => .object "KeyMatrix$Board"
  | 3 => .int
  | 4 => .int
  | 5 => .int
  | 6 => .int
  | 7 => .int
  | 8 => .int
  | _ => .int
abbrev wsX70 : List Cond := u_ws RX7 TX7 10
theorem nmX7 : ∀ a, a < 10 → ∀ b, b < 10 → a ≠ b → (TX7 a).2.1 ≠ (TX7 b).2.1 := by decide +kernel
theorem tyX7_ok : ∀ k, k < 10 → parseFieldDescriptor (TX7 k).2.2.1 = some (tyX7 k) := by decide +kernel
abbrev cX7_init : ByteArray := prog_9_method_1_code
def yX7_init : MethodName := ⟨RX7, "<init>", "()V"⟩
abbrev cX7_readTape : ByteArray := prog_9_method_2_code
def yX7_readTape : MethodName := ⟨RX7, "readTape", "([BI)I"⟩
abbrev cX7_takeBoard : ByteArray := prog_9_method_3_code
def yX7_takeBoard : MethodName := ⟨RX7, "takeBoard", "()Z"⟩
abbrev cX7_takeLine : ByteArray := prog_9_method_4_code
def yX7_takeLine : MethodName := ⟨RX7, "takeLine", "()Z"⟩
abbrev cX7_takeSetting : ByteArray := prog_9_method_5_code
def yX7_takeSetting : MethodName := ⟨RX7, "takeSetting", "(LKeyMatrix$Word;)Z"⟩
abbrev cX7_takeKey : ByteArray := prog_9_method_6_code
def yX7_takeKey : MethodName := ⟨RX7, "takeKey", "()Z"⟩
abbrev cX7_takeChord : ByteArray := prog_9_method_7_code
def yX7_takeChord : MethodName := ⟨RX7, "takeChord", "()Z"⟩
abbrev cX7_takeChordKey : ByteArray := prog_9_method_8_code
def yX7_takeChordKey : MethodName := ⟨RX7, "takeChordKey", "(I)Z"⟩
abbrev cX7_takeMacro : ByteArray := prog_9_method_9_code
def yX7_takeMacro : MethodName := ⟨RX7, "takeMacro", "()Z"⟩
abbrev cX7_takeDeed : ByteArray := prog_9_method_10_code
def yX7_takeDeed : MethodName := ⟨RX7, "takeDeed", "()Z"⟩
abbrev cX7_takeNumber : ByteArray := prog_9_method_11_code
def yX7_takeNumber : MethodName := ⟨RX7, "takeNumber", "(II)Z"⟩
abbrev cX7_takeToken : ByteArray := prog_9_method_12_code
def yX7_takeToken : MethodName := ⟨RX7, "takeToken", "(I)Z"⟩
abbrev cX7_fail : ByteArray := prog_9_method_13_code
def yX7_fail : MethodName := ⟨RX7, "fail", "(I)Z"⟩
abbrev cX7_noteLater : ByteArray := prog_9_method_14_code
def yX7_noteLater : MethodName := ⟨RX7, "noteLater", "(II)V"⟩
def RX8 : String := "KeyMatrix$Tokens"
def TX8 : u_T := fun k => match k with
  | 0 => ("KeyMatrix$Tokens", "kinds", "[I", true)
  | 1 => ("KeyMatrix$Tokens", "places", "[I", true)
  | 2 => ("KeyMatrix$Tokens", "numbers", "[I", true)
  | 3 => ("KeyMatrix$Tokens", "words", "[LKeyMatrix$Word;", true)
  | 4 => ("KeyMatrix$Tokens", "size", "I", false)
  | _ => ("KeyMatrix$Tokens", "end", "I", false)
def tyX8 : Nat → FieldType := fun k => match k with
  | 0 => .array .int
  | 1 => .array .int
  | 2 => .array .int
  | 3 => .array (.object "KeyMatrix$Word")
  | 4 => .int
  | _ => .int
abbrev wsX80 : List Cond := u_ws RX8 TX8 6
theorem nmX8 : ∀ a, a < 6 → ∀ b, b < 6 → a ≠ b → (TX8 a).2.1 ≠ (TX8 b).2.1 := by decide +kernel
theorem tyX8_ok : ∀ k, k < 6 → parseFieldDescriptor (TX8 k).2.2.1 = some (tyX8 k) := by decide +kernel
abbrev cX8_init : ByteArray := prog_10_method_1_code
def yX8_init : MethodName := ⟨RX8, "<init>", "()V"⟩
abbrev cX8_cut : ByteArray := prog_10_method_2_code
def yX8_cut : MethodName := ⟨RX8, "cut", "([BI)V"⟩
abbrev cX8_skipBlanks : ByteArray := prog_10_method_3_code
def yX8_skipBlanks : MethodName := ⟨RX8, "skipBlanks", "([BI)I"⟩
abbrev cX8_cutWord : ByteArray := prog_10_method_4_code
def yX8_cutWord : MethodName := ⟨RX8, "cutWord", "([BI)I"⟩
abbrev cX8_cutInt : ByteArray := prog_10_method_5_code
def yX8_cutInt : MethodName := ⟨RX8, "cutInt", "([BI)I"⟩
abbrev cX8_isSpelt : ByteArray := prog_10_method_6_code
def yX8_isSpelt : MethodName := ⟨RX8, "isSpelt", "(Ljava/lang/String;[BII)Z"⟩
abbrev cX8_isLetter : ByteArray := prog_10_method_7_code
def yX8_isLetter : MethodName := ⟨RX8, "isLetter", "(I)Z"⟩
abbrev cX8_isDigit : ByteArray := prog_10_method_8_code
def yX8_isDigit : MethodName := ⟨RX8, "isDigit", "(I)Z"⟩
abbrev cX8_kindAt : ByteArray := prog_10_method_9_code
def yX8_kindAt : MethodName := ⟨RX8, "kindAt", "(I)I"⟩
abbrev cX8_placeAt : ByteArray := prog_10_method_10_code
def yX8_placeAt : MethodName := ⟨RX8, "placeAt", "(I)I"⟩
abbrev cX8_numberAt : ByteArray := prog_10_method_11_code
def yX8_numberAt : MethodName := ⟨RX8, "numberAt", "(I)I"⟩
abbrev cX8_wordAt : ByteArray := prog_10_method_12_code
def yX8_wordAt : MethodName := ⟨RX8, "wordAt", "(I)LKeyMatrix$Word;"⟩
def RX9 : String := "KeyMatrix$Wiring"
def TX9 : u_T := fun k => match k with
  | 0 => ("KeyMatrix$Wiring", "partOf", "[I", true)
  | 1 => ("KeyMatrix$Wiring", "parts", "I", false)
  | 2 => ("KeyMatrix$Wiring", "seen", "I", false)
  | _ => ("KeyMatrix$Wiring", "barred", "I", false)
def tyX9 : Nat → FieldType := fun k => match k with
  | 0 => .array .int
  | 1 => .int
  | 2 => .int
  | _ => .int
abbrev wsX90 : List Cond := u_ws RX9 TX9 4
theorem nmX9 : ∀ a, a < 4 → ∀ b, b < 4 → a ≠ b → (TX9 a).2.1 ≠ (TX9 b).2.1 := by decide +kernel
theorem tyX9_ok : ∀ k, k < 4 → parseFieldDescriptor (TX9 k).2.2.1 = some (tyX9 k) := by decide +kernel
abbrev cX9_init : ByteArray := prog_11_method_1_code
def yX9_init : MethodName := ⟨RX9, "<init>", "()V"⟩
abbrev cX9_follow : ByteArray := prog_11_method_2_code
def yX9_follow : MethodName := ⟨RX9, "follow", "(LKeyMatrix$Board;I)V"⟩
abbrev cX9_join : ByteArray := prog_11_method_3_code
def yX9_join : MethodName := ⟨RX9, "join", "(LKeyMatrix$Board;I)V"⟩
abbrev cX9_bar : ByteArray := prog_11_method_4_code
def yX9_bar : MethodName := ⟨RX9, "bar", "(LKeyMatrix$Board;I)V"⟩
def RX10 : String := "KeyMatrix$Word"
def TX10 : u_T := fun k => match k with
  | _ => ("", "", "", false)
def tyX10 : Nat → FieldType := fun k => match k with
  | _ => .int
abbrev wsX100 : List Cond := u_ws RX10 TX10 0
theorem nmX10 : ∀ a, a < 0 → ∀ b, b < 0 → a ≠ b → (TX10 a).2.1 ≠ (TX10 b).2.1 := by decide +kernel
theorem tyX10_ok : ∀ k, k < 0 → parseFieldDescriptor (TX10 k).2.2.1 = some (tyX10 k) := by decide +kernel
def RX11 : String := "KeyMatrix"
def TX11 : u_T := fun k => match k with
  | 0 => ("KeyMatrix", "tape", "[B", true)
  | 1 => ("KeyMatrix", "tapeLength", "I", false)
  | 2 => ("KeyMatrix", "faultPlace", "I", false)
  | 3 => ("KeyMatrix", "reader", "LKeyMatrix$TextReader;", true)
  | 4 => ("KeyMatrix", "board", "LKeyMatrix$Board;", true)
  | 5 => ("KeyMatrix", "wiring", "LKeyMatrix$Wiring;", true)
  | 6 => ("KeyMatrix", "course", "LKeyMatrix$Course;", true)
  | 7 => ("KeyMatrix", "preview", "LKeyMatrix$Course;", true)
  | 8 => ("KeyMatrix", "slots", "[LKeyMatrix$Course;", true)
  | _ => ("KeyMatrix", "slotsHeld", "I", false)
def tyX11 : Nat → FieldType := fun k => match k with
  | 0 => .array .byte
  | 1 => .int
  | 2 => .int
  | 3 => .object "KeyMatrix$TextReader"
  | 4 => .object "KeyMatrix$Board"
  | 5 => .object "KeyMatrix$Wiring"
  | 6 => .object "KeyMatrix$Course"
  | 7 => .object "KeyMatrix$Course"
  | 8 => .array (.object "KeyMatrix$Course")
  | _ => .int
abbrev wsX110 : List Cond := u_ws RX11 TX11 10
theorem nmX11 : ∀ a, a < 10 → ∀ b, b < 10 → a ≠ b → (TX11 a).2.1 ≠ (TX11 b).2.1 := by decide +kernel
theorem tyX11_ok : ∀ k, k < 10 → parseFieldDescriptor (TX11 k).2.2.1 = some (tyX11 k) := by decide +kernel
abbrev cX11_init : ByteArray := prog_1_method_1_code
def yX11_init : MethodName := ⟨RX11, "<init>", "()V"⟩
abbrev cX11_feed : ByteArray := prog_1_method_2_code
def yX11_feed : MethodName := ⟨RX11, "feed", "(IIIII)I"⟩
abbrev cX11_appendFour : ByteArray := prog_1_method_3_code
def yX11_appendFour : MethodName := ⟨RX11, "appendFour", "(I)V"⟩
abbrev cX11_back : ByteArray := prog_1_method_4_code
def yX11_back : MethodName := ⟨RX11, "back", "(I)I"⟩
abbrev cX11_read : ByteArray := prog_1_method_5_code
def yX11_read : MethodName := ⟨RX11, "read", "()I"⟩
abbrev cX11_place : ByteArray := prog_1_method_6_code
def yX11_place : MethodName := ⟨RX11, "place", "()I"⟩
abbrev cX11_press : ByteArray := prog_1_method_7_code
def yX11_press : MethodName := ⟨RX11, "press", "(IZ)Z"⟩
abbrev cX11_tick : ByteArray := prog_1_method_8_code
def yX11_tick : MethodName := ⟨RX11, "tick", "(I)I"⟩
abbrev cX11_key : ByteArray := prog_1_method_9_code
def yX11_key : MethodName := ⟨RX11, "key", "(II)I"⟩
abbrev cX11_deed : ByteArray := prog_1_method_10_code
def yX11_deed : MethodName := ⟨RX11, "deed", "(III)I"⟩
abbrev cX11_does : ByteArray := prog_1_method_11_code
def yX11_does : MethodName := ⟨RX11, "does", "(II)I"⟩
abbrev cX11_event : ByteArray := prog_1_method_12_code
def yX11_event : MethodName := ⟨RX11, "event", "(II)I"⟩
abbrev cX11_report : ByteArray := prog_1_method_13_code
def yX11_report : MethodName := ⟨RX11, "report", "(II)I"⟩
abbrev cX11_sent : ByteArray := prog_1_method_14_code
def yX11_sent : MethodName := ⟨RX11, "sent", "(I)I"⟩
abbrev cX11_host : ByteArray := prog_1_method_15_code
def yX11_host : MethodName := ⟨RX11, "host", "(I)I"⟩
abbrev cX11_strokes : ByteArray := prog_1_method_16_code
def yX11_strokes : MethodName := ⟨RX11, "strokes", "(II)I"⟩
abbrev cX11_chord : ByteArray := prog_1_method_17_code
def yX11_chord : MethodName := ⟨RX11, "chord", "(II)I"⟩
abbrev cX11_macro : ByteArray := prog_1_method_18_code
def yX11_macro : MethodName := ⟨RX11, "macro", "(II)I"⟩
abbrev cX11_ghosts : ByteArray := prog_1_method_19_code
def yX11_ghosts : MethodName := ⟨RX11, "ghosts", "(II)I"⟩
abbrev cX11_ahead : ByteArray := prog_1_method_20_code
def yX11_ahead : MethodName := ⟨RX11, "ahead", "(II)I"⟩
abbrev cX11_hold : ByteArray := prog_1_method_21_code
def yX11_hold : MethodName := ⟨RX11, "hold", "(I)Z"⟩
abbrev cX11_restore : ByteArray := prog_1_method_22_code
def yX11_restore : MethodName := ⟨RX11, "restore", "(I)Z"⟩
abbrev cX11_count : ByteArray := prog_1_method_23_code
def yX11_count : MethodName := ⟨RX11, "count", "(I)I"⟩
abbrev cX11_setting : ByteArray := prog_1_method_24_code
def yX11_setting : MethodName := ⟨RX11, "setting", "(I)I"⟩
abbrev cX11_isIn : ByteArray := prog_1_method_25_code
def yX11_isIn : MethodName := ⟨RX11, "isIn", "(II)Z"⟩
abbrev cX11_bitOf : ByteArray := prog_1_method_26_code
def yX11_bitOf : MethodName := ⟨RX11, "bitOf", "(II)I"⟩
abbrev cX11_floatBits : ByteArray := prog_1_method_27_code
def yX11_floatBits : MethodName := ⟨RX11, "floatBits", "(F)I"⟩
def RX12 : String := "KeyMatrixModel"
def TX12 : u_T := fun k => match k with
  | 0 => ("KeyMatrixModel", "thrown", "I", false)
  | 1 => ("KeyMatrixModel", "tape", "[B", true)
  | 2 => ("KeyMatrixModel", "taped", "I", false)
  | 3 => ("KeyMatrixModel", "text", "[B", true)
  | 4 => ("KeyMatrixModel", "size", "I", false)
  | 5 => ("KeyMatrixModel", "tKind", "[I", true)
  | 6 => ("KeyMatrixModel", "tPlace", "[I", true)
  | 7 => ("KeyMatrixModel", "tValue", "[I", true)
  | 8 => ("KeyMatrixModel", "tName", "[J", true)
  | 9 => ("KeyMatrixModel", "keys", "[J", true)
  | 10 => ("KeyMatrixModel", "tokens", "I", false)
  | 11 => ("KeyMatrixModel", "t", "I", false)
  | 12 => ("KeyMatrixModel", "fault", "I", false)
  | 13 => ("KeyMatrixModel", "faultPlace", "I", false)
  | 14 => ("KeyMatrixModel", "worst", "I", false)
  | 15 => ("KeyMatrixModel", "worstPlace", "I", false)
  | 16 => ("KeyMatrixModel", "place", "I", false)
  | 17 => ("KeyMatrixModel", "now", "[I", true)
  | 18 => ("KeyMatrixModel", "draft", "[I", true)
  | 19 => ("KeyMatrixModel", "steady", "[F", true)
  | 20 => ("KeyMatrixModel", "chordLines", "I", false)
  | 21 => ("KeyMatrixModel", "macroLines", "I", false)
  | 22 => ("KeyMatrixModel", "isBoard", "Z", false)
  | 23 => ("KeyMatrixModel", "deedTold", "[I", true)
  | 24 => ("KeyMatrixModel", "partOf", "[I", true)
  | 25 => ("KeyMatrixModel", "sentMods", "I", false)
  | 26 => ("KeyMatrixModel", "sentMany", "I", false)
  | 27 => ("KeyMatrixModel", "sentCodes", "[I", true)
  | 28 => ("KeyMatrixModel", "aside", "[I", true)
  | 29 => ("KeyMatrixModel", "asideSteady", "[F", true)
  | 30 => ("KeyMatrixModel", "held", "[I", true)
  | 31 => ("KeyMatrixModel", "heldSteady", "[F", true)
  | _ => ("KeyMatrixModel", "isHeld", "[Z", true)
def tyX12 : Nat → FieldType := fun k => match k with
  | 0 => .int
  | 1 => .array .byte
  | 2 => .int
  | 3 => .array .byte
  | 4 => .int
  | 5 => .array .int
  | 6 => .array .int
  | 7 => .array .int
  | 8 => .array .long
  | 9 => .array .long
  | 10 => .int
  | 11 => .int
  | 12 => .int
  | 13 => .int
  | 14 => .int
  | 15 => .int
  | 16 => .int
  | 17 => .array .int
  | 18 => .array .int
  | 19 => .array .float
  | 20 => .int
  | 21 => .int
  | 22 => .boolean
  | 23 => .array .int
  | 24 => .array .int
  | 25 => .int
  | 26 => .int
  | 27 => .array .int
  | 28 => .array .int
  | 29 => .array .float
  | 30 => .array .int
  | 31 => .array .float
  | _ => .array .boolean
abbrev wsX120 : List Cond := u_ws RX12 TX12 33
theorem nmX12 : ∀ a, a < 33 → ∀ b, b < 33 → a ≠ b → (TX12 a).2.1 ≠ (TX12 b).2.1 := by decide +kernel
theorem tyX12_ok : ∀ k, k < 33 → parseFieldDescriptor (TX12 k).2.2.1 = some (tyX12 k) := by decide +kernel
abbrev cX12_init : ByteArray := prog_14_method_2_code
def yX12_init : MethodName := ⟨RX12, "<init>", "()V"⟩
abbrev cX12_feed : ByteArray := prog_14_method_3_code
def yX12_feed : MethodName := ⟨RX12, "feed", "(IIIII)I"⟩
abbrev cX12_lays : ByteArray := prog_14_method_4_code
def yX12_lays : MethodName := ⟨RX12, "lays", "(I)V"⟩
abbrev cX12_back : ByteArray := prog_14_method_5_code
def yX12_back : MethodName := ⟨RX12, "back", "(I)I"⟩
abbrev cX12_byteAt : ByteArray := prog_14_method_6_code
def yX12_byteAt : MethodName := ⟨RX12, "byteAt", "(I)I"⟩
abbrev cX12_isDigit : ByteArray := prog_14_method_7_code
def yX12_isDigit : MethodName := ⟨RX12, "isDigit", "(I)Z"⟩
abbrev cX12_isLetter : ByteArray := prog_14_method_8_code
def yX12_isLetter : MethodName := ⟨RX12, "isLetter", "(I)Z"⟩
abbrev cX12_appends : ByteArray := prog_14_method_9_code
def yX12_appends : MethodName := ⟨RX12, "appends", "(JI)J"⟩
abbrev cX12_letters : ByteArray := prog_14_method_10_code
def yX12_letters : MethodName := ⟨RX12, "letters", "(IIIIIII)J"⟩
abbrev cX12_token : ByteArray := prog_14_method_11_code
def yX12_token : MethodName := ⟨RX12, "token", "(IIIJ)V"⟩
abbrev cX12_cutsText : ByteArray := prog_14_method_12_code
def yX12_cutsText : MethodName := ⟨RX12, "cutsText", "()V"⟩
abbrev cX12_sign : ByteArray := prog_14_method_13_code
def yX12_sign : MethodName := ⟨RX12, "sign", "(II)I"⟩
abbrev cX12_is : ByteArray := prog_14_method_14_code
def yX12_is : MethodName := ⟨RX12, "is", "(I)Z"⟩
abbrev cX12_fail : ByteArray := prog_14_method_15_code
def yX12_fail : MethodName := ⟨RX12, "fail", "(I)V"⟩
abbrev cX12_wrong : ByteArray := prog_14_method_16_code
def yX12_wrong : MethodName := ⟨RX12, "wrong", "(II)V"⟩
abbrev cX12_passes : ByteArray := prog_14_method_17_code
def yX12_passes : MethodName := ⟨RX12, "passes", "()V"⟩
abbrev cX12_must : ByteArray := prog_14_method_18_code
def yX12_must : MethodName := ⟨RX12, "must", "(I)V"⟩
abbrev cX12_begins : ByteArray := prog_14_method_19_code
def yX12_begins : MethodName := ⟨RX12, "begins", "([I)V"⟩
abbrev cX12_startsAnew : ByteArray := prog_14_method_20_code
def yX12_startsAnew : MethodName := ⟨RX12, "startsAnew", "()V"⟩
abbrev cX12_read : ByteArray := prog_14_method_21_code
def yX12_read : MethodName := ⟨RX12, "read", "()I"⟩
abbrev cX12_place : ByteArray := prog_14_method_22_code
def yX12_place : MethodName := ⟨RX12, "place", "()I"⟩
abbrev cX12_tell : ByteArray := prog_14_method_23_code
def yX12_tell : MethodName := ⟨RX12, "tell", "()V"⟩
abbrev cX12_deedRead : ByteArray := prog_14_method_24_code
def yX12_deedRead : MethodName := ⟨RX12, "deedRead", "()V"⟩
abbrev cX12_within : ByteArray := prog_14_method_25_code
def yX12_within : MethodName := ⟨RX12, "within", "(III)I"⟩
abbrev cX12_means : ByteArray := prog_14_method_26_code
def yX12_means : MethodName := ⟨RX12, "means", "()V"⟩
abbrev cX12_meansLine : ByteArray := prog_14_method_27_code
def yX12_meansLine : MethodName := ⟨RX12, "meansLine", "(I)V"⟩
abbrev cX12_meansDeed : ByteArray := prog_14_method_28_code
def yX12_meansDeed : MethodName := ⟨RX12, "meansDeed", "(I)V"⟩
abbrev cX12_keyTold : ByteArray := prog_14_method_29_code
def yX12_keyTold : MethodName := ⟨RX12, "keyTold", "(I)I"⟩
abbrev cX12_meansKey : ByteArray := prog_14_method_30_code
def yX12_meansKey : MethodName := ⟨RX12, "meansKey", "(I)V"⟩
abbrev cX12_isChorded : ByteArray := prog_14_method_31_code
def yX12_isChorded : MethodName := ⟨RX12, "isChorded", "(I)Z"⟩
abbrev cX12_meansChord : ByteArray := prog_14_method_32_code
def yX12_meansChord : MethodName := ⟨RX12, "meansChord", "(I)V"⟩
abbrev cX12_meansMacro : ByteArray := prog_14_method_33_code
def yX12_meansMacro : MethodName := ⟨RX12, "meansMacro", "(I)V"⟩
abbrev cX12_in : ByteArray := prog_14_method_34_code
def yX12_in : MethodName := ⟨RX12, "in", "(III)Z"⟩
abbrev cX12_has : ByteArray := prog_14_method_35_code
def yX12_has : MethodName := ⟨RX12, "has", "(II)Z"⟩
abbrev cX12_bitsOf : ByteArray := prog_14_method_36_code
def yX12_bitsOf : MethodName := ⟨RX12, "bitsOf", "(I)I"⟩
abbrev cX12_keysMany : ByteArray := prog_14_method_37_code
def yX12_keysMany : MethodName := ⟨RX12, "keysMany", "()I"⟩
abbrev cX12_isKey : ByteArray := prog_14_method_38_code
def yX12_isKey : MethodName := ⟨RX12, "isKey", "(I)Z"⟩
abbrev cX12_laysParts : ByteArray := prog_14_method_39_code
def yX12_laysParts : MethodName := ⟨RX12, "laysParts", "(I)I"⟩
abbrev cX12_seenBy : ByteArray := prog_14_method_40_code
def yX12_seenBy : MethodName := ⟨RX12, "seenBy", "(I)I"⟩
abbrev cX12_barredBy : ByteArray := prog_14_method_41_code
def yX12_barredBy : MethodName := ⟨RX12, "barredBy", "(I)I"⟩
abbrev cX12_isCornered : ByteArray := prog_14_method_42_code
def yX12_isCornered : MethodName := ⟨RX12, "isCornered", "(III)Z"⟩
abbrev cX12_press : ByteArray := prog_14_method_43_code
def yX12_press : MethodName := ⟨RX12, "press", "(IZ)Z"⟩
abbrev cX12_ghosts : ByteArray := prog_14_method_44_code
def yX12_ghosts : MethodName := ⟨RX12, "ghosts", "(II)I"⟩
abbrev cX12_ticks : ByteArray := prog_14_method_45_code
def yX12_ticks : MethodName := ⟨RX12, "ticks", "()V"⟩
abbrev cX12_changes : ByteArray := prog_14_method_46_code
def yX12_changes : MethodName := ⟨RX12, "changes", "(I)V"⟩
abbrev cX12_keyAt : ByteArray := prog_14_method_47_code
def yX12_keyAt : MethodName := ⟨RX12, "keyAt", "(I)I"⟩
abbrev cX12_isDownAt : ByteArray := prog_14_method_48_code
def yX12_isDownAt : MethodName := ⟨RX12, "isDownAt", "(I)Z"⟩
abbrev cX12_timeAt : ByteArray := prog_14_method_49_code
def yX12_timeAt : MethodName := ⟨RX12, "timeAt", "(I)I"⟩
abbrev cX12_drops : ByteArray := prog_14_method_50_code
def yX12_drops : MethodName := ⟨RX12, "drops", "(I)V"⟩
abbrev cX12_chordOf : ByteArray := prog_14_method_51_code
def yX12_chordOf : MethodName := ⟨RX12, "chordOf", "(I)I"⟩
abbrev cX12_works : ByteArray := prog_14_method_52_code
def yX12_works : MethodName := ⟨RX12, "works", "()Z"⟩
abbrev cX12_worksAlone : ByteArray := prog_14_method_53_code
def yX12_worksAlone : MethodName := ⟨RX12, "worksAlone", "(II)Z"⟩
abbrev cX12_heldOrTapped : ByteArray := prog_14_method_54_code
def yX12_heldOrTapped : MethodName := ⟨RX12, "heldOrTapped", "(II)I"⟩
abbrev cX12_onceOrTwice : ByteArray := prog_14_method_55_code
def yX12_onceOrTwice : MethodName := ⟨RX12, "onceOrTwice", "(II)I"⟩
abbrev cX12_dropsTwo : ByteArray := prog_14_method_56_code
def yX12_dropsTwo : MethodName := ⟨RX12, "dropsTwo", "(I)V"⟩
abbrev cX12_begin : ByteArray := prog_14_method_57_code
def yX12_begin : MethodName := ⟨RX12, "begin", "(III)V"⟩
abbrev cX12_doesPlainly : ByteArray := prog_14_method_58_code
def yX12_doesPlainly : MethodName := ⟨RX12, "doesPlainly", "(III)V"⟩
abbrev cX12_chords : ByteArray := prog_14_method_59_code
def yX12_chords : MethodName := ⟨RX12, "chords", "(III)V"⟩
abbrev cX12_plays : ByteArray := prog_14_method_60_code
def yX12_plays : MethodName := ⟨RX12, "plays", "(I)V"⟩
abbrev cX12_ends : ByteArray := prog_14_method_61_code
def yX12_ends : MethodName := ⟨RX12, "ends", "(I)V"⟩
abbrev cX12_stops : ByteArray := prog_14_method_62_code
def yX12_stops : MethodName := ⟨RX12, "stops", "(I)V"⟩
abbrev cX12_activeLayers : ByteArray := prog_14_method_63_code
def yX12_activeLayers : MethodName := ⟨RX12, "activeLayers", "()I"⟩
abbrev cX12_layerOf : ByteArray := prog_14_method_64_code
def yX12_layerOf : MethodName := ⟨RX12, "layerOf", "(I)I"⟩
abbrev cX12_deed : ByteArray := prog_14_method_65_code
def yX12_deed : MethodName := ⟨RX12, "deed", "(III)I"⟩
abbrev cX12_adds : ByteArray := prog_14_method_66_code
def yX12_adds : MethodName := ⟨RX12, "adds", "(I)V"⟩
abbrev cX12_laysSent : ByteArray := prog_14_method_67_code
def yX12_laysSent : MethodName := ⟨RX12, "laysSent", "()V"⟩
abbrev cX12_nextBegun : ByteArray := prog_14_method_68_code
def yX12_nextBegun : MethodName := ⟨RX12, "nextBegun", "(I)I"⟩
abbrev cX12_reportAt : ByteArray := prog_14_method_69_code
def yX12_reportAt : MethodName := ⟨RX12, "reportAt", "(I)I"⟩
abbrev cX12_isLatest : ByteArray := prog_14_method_70_code
def yX12_isLatest : MethodName := ⟨RX12, "isLatest", "(I)Z"⟩
abbrev cX12_reportHas : ByteArray := prog_14_method_71_code
def yX12_reportHas : MethodName := ⟨RX12, "reportHas", "(II)Z"⟩
abbrev cX12_reports : ByteArray := prog_14_method_72_code
def yX12_reports : MethodName := ⟨RX12, "reports", "()V"⟩
abbrev cX12_hears : ByteArray := prog_14_method_73_code
def yX12_hears : MethodName := ⟨RX12, "hears", "(I)V"⟩
abbrev cX12_repeats : ByteArray := prog_14_method_74_code
def yX12_repeats : MethodName := ⟨RX12, "repeats", "()V"⟩
abbrev cX12_tick : ByteArray := prog_14_method_75_code
def yX12_tick : MethodName := ⟨RX12, "tick", "(I)I"⟩
abbrev cX12_bitsOfNumber : ByteArray := prog_14_method_76_code
def yX12_bitsOfNumber : MethodName := ⟨RX12, "bitsOfNumber", "(F)I"⟩
abbrev cX12_key : ByteArray := prog_14_method_77_code
def yX12_key : MethodName := ⟨RX12, "key", "(II)I"⟩
abbrev cX12_does : ByteArray := prog_14_method_78_code
def yX12_does : MethodName := ⟨RX12, "does", "(II)I"⟩
abbrev cX12_event : ByteArray := prog_14_method_79_code
def yX12_event : MethodName := ⟨RX12, "event", "(II)I"⟩
abbrev cX12_reportsKept : ByteArray := prog_14_method_80_code
def yX12_reportsKept : MethodName := ⟨RX12, "reportsKept", "()I"⟩
abbrev cX12_report : ByteArray := prog_14_method_81_code
def yX12_report : MethodName := ⟨RX12, "report", "(II)I"⟩
abbrev cX12_sent : ByteArray := prog_14_method_82_code
def yX12_sent : MethodName := ⟨RX12, "sent", "(I)I"⟩
abbrev cX12_host : ByteArray := prog_14_method_83_code
def yX12_host : MethodName := ⟨RX12, "host", "(I)I"⟩
abbrev cX12_strokes : ByteArray := prog_14_method_84_code
def yX12_strokes : MethodName := ⟨RX12, "strokes", "(II)I"⟩
abbrev cX12_chord : ByteArray := prog_14_method_85_code
def yX12_chord : MethodName := ⟨RX12, "chord", "(II)I"⟩
abbrev cX12_macro : ByteArray := prog_14_method_86_code
def yX12_macro : MethodName := ⟨RX12, "macro", "(II)I"⟩
abbrev cX12_ahead : ByteArray := prog_14_method_87_code
def yX12_ahead : MethodName := ⟨RX12, "ahead", "(II)I"⟩
abbrev cX12_hold : ByteArray := prog_14_method_88_code
def yX12_hold : MethodName := ⟨RX12, "hold", "(I)Z"⟩
abbrev cX12_restore : ByteArray := prog_14_method_89_code
def yX12_restore : MethodName := ⟨RX12, "restore", "(I)Z"⟩
abbrev cX12_count : ByteArray := prog_14_method_90_code
def yX12_count : MethodName := ⟨RX12, "count", "(I)I"⟩
def RJx29ce0 : String := "java/lang/Enum"
def TJx29ce0 : u_T := fun k => match k with
  | _ => ("", "", "", false)
def tyJx29ce0 : Nat → FieldType := fun k => match k with
  | _ => .int
abbrev wsJx29ce00 : List Cond := u_ws RJx29ce0 TJx29ce0 0
theorem nmJx29ce0 : ∀ a, a < 0 → ∀ b, b < 0 → a ≠ b → (TJx29ce0 a).2.1 ≠ (TJx29ce0 b).2.1 := by decide +kernel
theorem tyJx29ce0_ok : ∀ k, k < 0 → parseFieldDescriptor (TJx29ce0 k).2.2.1 = some (tyJx29ce0 k) := by decide +kernel
def RJ6 : String := "java/lang/Integer"
def TJ6 : u_T := fun k => match k with
  | _ => ("", "", "", false)
def tyJ6 : Nat → FieldType := fun k => match k with
  | _ => .int
abbrev wsJ60 : List Cond := u_ws RJ6 TJ6 0
theorem nmJ6 : ∀ a, a < 0 → ∀ b, b < 0 → a ≠ b → (TJ6 a).2.1 ≠ (TJ6 b).2.1 := by decide +kernel
theorem tyJ6_ok : ∀ k, k < 0 → parseFieldDescriptor (TJ6 k).2.2.1 = some (tyJ6 k) := by decide +kernel
abbrev cJ6_bitCount_0f7a4 : ByteArray := prog_16_method_49_code
def yJ6_bitCount_0f7a4 : MethodName := ⟨RJ6, "bitCount", "(I)I"⟩
def RJ9 : String := "java/lang/Math"
def TJ9 : u_T := fun k => match k with
  | _ => ("", "", "", false)
def tyJ9 : Nat → FieldType := fun k => match k with
  | _ => .int
abbrev wsJ90 : List Cond := u_ws RJ9 TJ9 0
theorem nmJ9 : ∀ a, a < 0 → ∀ b, b < 0 → a ≠ b → (TJ9 a).2.1 ≠ (TJ9 b).2.1 := by decide +kernel
theorem tyJ9_ok : ∀ k, k < 0 → parseFieldDescriptor (TJ9 k).2.2.1 = some (tyJ9 k) := by decide +kernel
abbrev cJ9_max_7cf53 : ByteArray := prog_17_method_65_code
def yJ9_max_7cf53 : MethodName := ⟨RJ9, "max", "(II)I"⟩
def RJ0 : String := "java/lang/String"
def TJ0 : u_T := fun k => match k with
  | _ => ("", "", "", false)
def tyJ0 : Nat → FieldType := fun k => match k with
  | _ => .int
abbrev wsJ00 : List Cond := u_ws RJ0 TJ0 0
theorem nmJ0 : ∀ a, a < 0 → ∀ b, b < 0 → a ≠ b → (TJ0 a).2.1 ≠ (TJ0 b).2.1 := by decide +kernel
theorem tyJ0_ok : ∀ k, k < 0 → parseFieldDescriptor (TJ0 k).2.2.1 = some (tyJ0 k) := by decide +kernel
abbrev cJ0_length_8abf5 : ByteArray := prog_18_method_54_code
def yJ0_length_8abf5 : MethodName := ⟨RJ0, "length", "()I"⟩
abbrev cJ0_charAt_5068e : ByteArray := prog_18_method_56_code
def yJ0_charAt_5068e : MethodName := ⟨RJ0, "charAt", "(I)C"⟩
abbrev cJ0_coder_7d493 : ByteArray := prog_18_method_152_code
def yJ0_coder_7d493 : MethodName := ⟨RJ0, "coder", "()B"⟩
abbrev cJ0_isLatin1_aae02 : ByteArray := prog_18_method_154_code
def yJ0_isLatin1_aae02 : MethodName := ⟨RJ0, "isLatin1", "()Z"⟩
abbrev cJ0_checkIndex_df160 : ByteArray := prog_18_method_155_code
def yJ0_checkIndex_df160 : MethodName := ⟨RJ0, "checkIndex", "(II)V"⟩
def RJ1 : String := "java/lang/StringLatin1"
def TJ1 : u_T := fun k => match k with
  | _ => ("", "", "", false)
def tyJ1 : Nat → FieldType := fun k => match k with
  | _ => .int
abbrev wsJ10 : List Cond := u_ws RJ1 TJ1 0
theorem nmJ1 : ∀ a, a < 0 → ∀ b, b < 0 → a ≠ b → (TJ1 a).2.1 ≠ (TJ1 b).2.1 := by decide +kernel
theorem tyJ1_ok : ∀ k, k < 0 → parseFieldDescriptor (TJ1 k).2.2.1 = some (tyJ1 k) := by decide +kernel
abbrev cJ1_charAt_3b067 : ByteArray := prog_19_method_2_code
def yJ1_charAt_3b067 : MethodName := ⟨RJ1, "charAt", "([BI)C"⟩
def RJ2 : String := "java/lang/StringUTF16"
def TJ2 : u_T := fun k => match k with
  | _ => ("", "", "", false)
def tyJ2 : Nat → FieldType := fun k => match k with
  | _ => .int
abbrev wsJ20 : List Cond := u_ws RJ2 TJ2 0
theorem nmJ2 : ∀ a, a < 0 → ∀ b, b < 0 → a ≠ b → (TJ2 a).2.1 ≠ (TJ2 b).2.1 := by decide +kernel
theorem tyJ2_ok : ∀ k, k < 0 → parseFieldDescriptor (TJ2 k).2.2.1 = some (tyJ2 k) := by decide +kernel
abbrev cJ2_getChar_3b067 : ByteArray := prog_20_method_5_code
def yJ2_getChar_3b067 : MethodName := ⟨RJ2, "getChar", "([BI)C"⟩
abbrev cJ2_length_9d52b : ByteArray := prog_20_method_6_code
def yJ2_length_9d52b : MethodName := ⟨RJ2, "length", "([B)I"⟩
abbrev cJ2_charAt_3b067 : ByteArray := prog_20_method_83_code
def yJ2_charAt_3b067 : MethodName := ⟨RJ2, "charAt", "([BI)C"⟩
abbrev cJ2_checkIndex_2214a : ByteArray := prog_20_method_91_code
def yJ2_checkIndex_2214a : MethodName := ⟨RJ2, "checkIndex", "(I[B)V"⟩
def RJ10 : String := "java/lang/System"
def TJ10 : u_T := fun k => match k with
  | _ => ("", "", "", false)
def tyJ10 : Nat → FieldType := fun k => match k with
  | _ => .int
abbrev wsJ100 : List Cond := u_ws RJ10 TJ10 0
theorem nmJ10 : ∀ a, a < 0 → ∀ b, b < 0 → a ≠ b → (TJ10 a).2.1 ≠ (TJ10 b).2.1 := by decide +kernel
theorem tyJ10_ok : ∀ k, k < 0 → parseFieldDescriptor (TJ10 k).2.2.1 = some (tyJ10 k) := by decide +kernel
def RJ3 : String := "jdk/internal/util/Preconditions"
def TJ3 : u_T := fun k => match k with
  | _ => ("", "", "", false)
def tyJ3 : Nat → FieldType := fun k => match k with
  | _ => .int
abbrev wsJ30 : List Cond := u_ws RJ3 TJ3 0
theorem nmJ3 : ∀ a, a < 0 → ∀ b, b < 0 → a ≠ b → (TJ3 a).2.1 ≠ (TJ3 b).2.1 := by decide +kernel
theorem tyJ3_ok : ∀ k, k < 0 → parseFieldDescriptor (TJ3 k).2.2.1 = some (tyJ3 k) := by decide +kernel
abbrev cJ3_checkIndex_8e157 : ByteArray := prog_22_method_11_code
def yJ3_checkIndex_8e157 : MethodName := ⟨RJ3, "checkIndex", "(IILjava/util/function/BiFunction;)I"⟩
def RL : String := "KeyMatrixLaw"
abbrev cL_law : ByteArray := code
def yL_law : MethodName := ⟨RL, "law", "([I)Z"⟩
def wsL_law_r1 : List Cond := [Cond.classLink RL 7 RX11, Cond.instantiable RX11 10, Cond.initialized RX11, Cond.classLink RL 10 RX12, Cond.instantiable RX12 33, Cond.initialized RX12, Cond.methodLink RL 9 yX11_init, Cond.instanceMethod yX11_init, Cond.code yX11_init cX11_init 2 none, Cond.methodLink RX11 3 objectInit, Cond.instanceMethod objectInit, Cond.code objectInit ⟨#[0xb1]⟩ 1 none, Cond.arrayClass .byte, Cond.fieldLink RX11 9 "KeyMatrix" "tape" "[B", Cond.fieldLink RX11 13 "KeyMatrix" "tapeLength" "I", Cond.fieldLink RX11 17 "KeyMatrix" "faultPlace" "I", Cond.classLink RX11 20 RX7, Cond.instantiable RX7 10, Cond.initialized RX7, Cond.fieldLink RX11 23 "KeyMatrix" "reader" "LKeyMatrix$TextReader;", Cond.classLink RX11 27 RX0, Cond.instantiable RX0 19, Cond.initialized RX0, Cond.fieldLink RX11 30 "KeyMatrix" "board" "LKeyMatrix$Board;"]
def wsL_law_r2 : List Cond := [Cond.classLink RX11 34 RX9, Cond.instantiable RX9 4, Cond.initialized RX9, Cond.fieldLink RX11 37 "KeyMatrix" "wiring" "LKeyMatrix$Wiring;", Cond.classLink RX11 41 RX1, Cond.instantiable RX1 6, Cond.initialized RX1, Cond.fieldLink RX11 46 "KeyMatrix" "course" "LKeyMatrix$Course;", Cond.fieldLink RX11 50 "KeyMatrix" "preview" "LKeyMatrix$Course;", Cond.fieldLink RX11 53 "KeyMatrix" "slots" "[LKeyMatrix$Course;", Cond.fieldLink RX11 57 "KeyMatrix" "slotsHeld" "I", Cond.instanceMethod yX7_init, Cond.code yX7_init cX7_init 1 none, Cond.methodLink RX7 3 objectInit, Cond.classLink RX7 9 RX8, Cond.instantiable RX8 6, Cond.initialized RX8, Cond.fieldLink RX7 12 "KeyMatrix$TextReader" "tokens" "LKeyMatrix$Tokens;", Cond.classLink RX7 18 RX2, Cond.instantiable RX2 3, Cond.initialized RX2, Cond.fieldLink RX7 21 "KeyMatrix$TextReader" "told" "LKeyMatrix$Deed;", Cond.classLink RX7 25 RX0, Cond.fieldLink RX7 28 "KeyMatrix$TextReader" "draft" "LKeyMatrix$Board;"]
def wsL_law_r3 : List Cond := [Cond.instanceMethod yX8_init, Cond.code yX8_init cX8_init 1 none, Cond.methodLink RX8 1 objectInit, Cond.arrayClass .int, Cond.fieldLink RX8 9 "KeyMatrix$Tokens" "kinds" "[I", Cond.fieldLink RX8 13 "KeyMatrix$Tokens" "places" "[I", Cond.fieldLink RX8 16 "KeyMatrix$Tokens" "numbers" "[I", Cond.classLink RX8 19 RX10, Cond.fieldLink RX8 21 "KeyMatrix$Tokens" "words" "[LKeyMatrix$Word;", Cond.instanceMethod yX2_init, Cond.code yX2_init cX2_init 1 none, Cond.methodLink RX2 3 objectInit, Cond.fieldLink RX2 9 "KeyMatrix$Deed" "kind" "I", Cond.fieldLink RX2 15 "KeyMatrix$Deed" "first" "I", Cond.fieldLink RX2 18 "KeyMatrix$Deed" "second" "I", Cond.methodLink RX7 27 yX0_init, Cond.instanceMethod yX0_init, Cond.code yX0_init cX0_init 2 none, Cond.methodLink RX0 3 objectInit, Cond.classLink RX0 9 RX2, Cond.fieldLink RX0 11 "KeyMatrix$Board" "deeds" "[LKeyMatrix$Deed;", Cond.fieldLink RX0 18 "KeyMatrix$Board" "nothing" "LKeyMatrix$Deed;", Cond.fieldLink RX0 22 "KeyMatrix$Board" "chordFirst" "[I", Cond.fieldLink RX0 26 "KeyMatrix$Board" "chordOther" "[I"]
def wsL_law_r4 : List Cond := [Cond.fieldLink RX0 29 "KeyMatrix$Board" "chordDeeds" "[LKeyMatrix$Deed;", Cond.fieldLink RX0 32 "KeyMatrix$Board" "macroLengths" "[I", Cond.fieldLink RX0 35 "KeyMatrix$Board" "macroCodes" "[I", Cond.methodLink RX0 38 yX0_clear, Cond.instanceMethod yX0_clear, Cond.selects RX0 yX0_clear yX0_clear, Cond.code yX0_clear cX0_clear 2 none, Cond.fieldLink RX0 41 "KeyMatrix$Board" "rows" "I", Cond.fieldLink RX0 45 "KeyMatrix$Board" "columns" "I", Cond.fieldLink RX0 48 "KeyMatrix$Board" "diodes" "Z", Cond.fieldLink RX0 52 "KeyMatrix$Board" "six" "Z", Cond.fieldLink RX0 55 "KeyMatrix$Board" "bounce" "I", Cond.fieldLink RX0 58 "KeyMatrix$Board" "term" "I", Cond.fieldLink RX0 61 "KeyMatrix$Board" "chording" "I", Cond.fieldLink RX0 64 "KeyMatrix$Board" "twice" "I", Cond.fieldLink RX0 67 "KeyMatrix$Board" "delay" "I", Cond.fieldLink RX0 70 "KeyMatrix$Board" "rate" "I", Cond.fieldLink RX0 77 "KeyMatrix$Board" "chordCount" "I", Cond.fieldLink RX0 80 "KeyMatrix$Board" "macroCount" "I", Cond.methodLink RX0 73 yX2_tell, Cond.instanceMethod yX2_tell, Cond.selects RX2 yX2_tell yX2_tell, Cond.code yX2_tell cX2_tell 4 none, Cond.methodLink RX11 29 yX0_init]
def wsL_law_r5 : List Cond := [Cond.instanceMethod yX9_init, Cond.code yX9_init cX9_init 1 none, Cond.methodLink RX9 3 objectInit, Cond.fieldLink RX9 9 "KeyMatrix$Wiring" "partOf" "[I", Cond.methodLink RX11 43 yX1_init, Cond.instanceMethod yX1_init, Cond.code yX1_init cX1_init 2 none, Cond.methodLink RX1 3 objectInit, Cond.classLink RX1 9 RX6, Cond.instantiable RX6 9, Cond.initialized RX6, Cond.fieldLink RX1 12 "KeyMatrix$Course" "scan" "LKeyMatrix$Scan;", Cond.classLink RX1 18 RX4, Cond.instantiable RX4 3, Cond.initialized RX4, Cond.fieldLink RX1 21 "KeyMatrix$Course" "queue" "LKeyMatrix$Queue;", Cond.classLink RX1 25 RX3, Cond.instantiable RX3 9, Cond.initialized RX3, Cond.fieldLink RX1 28 "KeyMatrix$Course" "doing" "LKeyMatrix$Doing;", Cond.classLink RX1 32 RX5, Cond.instantiable RX5 9, Cond.initialized RX5, Cond.fieldLink RX1 35 "KeyMatrix$Course" "reports" "LKeyMatrix$Reports;"]
def wsL_law_r6 : List Cond := [Cond.fieldLink RX1 39 "KeyMatrix$Course" "board" "LKeyMatrix$Board;", Cond.instanceMethod yX6_init, Cond.code yX6_init cX6_init 1 none, Cond.methodLink RX6 3 objectInit, Cond.fieldLink RX6 9 "KeyMatrix$Scan" "unlike" "[I", Cond.arrayClass .float, Cond.fieldLink RX6 15 "KeyMatrix$Scan" "steady" "[F", Cond.fieldLink RX6 19 "KeyMatrix$Scan" "strokes" "[I", Cond.fieldLink RX6 22 "KeyMatrix$Scan" "longest" "[I", Cond.fieldLink RX6 25 "KeyMatrix$Scan" "lastEvent" "[I", Cond.instanceMethod yX4_init, Cond.code yX4_init cX4_init 1 none, Cond.methodLink RX4 3 objectInit, Cond.fieldLink RX4 11 "KeyMatrix$Queue" "events" "[I", Cond.instanceMethod yX3_init, Cond.code yX3_init cX3_init 1 none, Cond.methodLink RX3 3 objectInit, Cond.fieldLink RX3 9 "KeyMatrix$Doing" "kind" "[I", Cond.fieldLink RX3 15 "KeyMatrix$Doing" "which" "[I", Cond.fieldLink RX3 18 "KeyMatrix$Doing" "partner" "[I", Cond.fieldLink RX3 21 "KeyMatrix$Doing" "order" "[I", Cond.fieldLink RX3 24 "KeyMatrix$Doing" "codes" "[I", Cond.instanceMethod yX5_init, Cond.code yX5_init cX5_init 1 none]
def wsL_law_r7 : List Cond := [Cond.methodLink RX5 3 objectInit, Cond.fieldLink RX5 11 "KeyMatrix$Reports" "ticks" "[I", Cond.fieldLink RX5 15 "KeyMatrix$Reports" "mods" "[I", Cond.fieldLink RX5 18 "KeyMatrix$Reports" "counts" "[I", Cond.fieldLink RX5 23 "KeyMatrix$Reports" "codes" "[I", Cond.methodLink RX1 43 yX1_clear, Cond.instanceMethod yX1_clear, Cond.selects RX1 yX1_clear yX1_clear, Cond.code yX1_clear cX1_clear 1 none, Cond.fieldLink RX1 46 "KeyMatrix$Course" "now" "I", Cond.methodLink RX1 50 yX6_clear, Cond.instanceMethod yX6_clear, Cond.selects RX6 yX6_clear yX6_clear, Cond.code yX6_clear cX6_clear 2 none, Cond.fieldLink RX6 28 "KeyMatrix$Scan" "closed" "I", Cond.fieldLink RX6 32 "KeyMatrix$Scan" "seen" "I", Cond.fieldLink RX6 35 "KeyMatrix$Scan" "barred" "I", Cond.fieldLink RX6 38 "KeyMatrix$Scan" "down" "I", Cond.methodLink RX1 51 yX4_clear, Cond.instanceMethod yX4_clear, Cond.selects RX4 yX4_clear yX4_clear, Cond.code yX4_clear cX4_clear 1 none, Cond.fieldLink RX4 15 "KeyMatrix$Queue" "size" "I", Cond.fieldLink RX4 19 "KeyMatrix$Queue" "total" "I"]
def wsL_law_r8 : List Cond := [Cond.methodLink RX1 52 yX3_clear, Cond.instanceMethod yX3_clear, Cond.selects RX3 yX3_clear yX3_clear, Cond.code yX3_clear cX3_clear 2 none, Cond.fieldLink RX3 27 "KeyMatrix$Doing" "busy" "I", Cond.fieldLink RX3 31 "KeyMatrix$Doing" "toggled" "I", Cond.methodLink RX1 53 yX5_clear, Cond.instanceMethod yX5_clear, Cond.selects RX5 yX5_clear yX5_clear, Cond.code yX5_clear cX5_clear 1 none, Cond.fieldLink RX5 26 "KeyMatrix$Reports" "total" "I", Cond.fieldLink RX5 30 "KeyMatrix$Reports" "repeats" "I", Cond.methodLink RX5 33 yX5_makeLatest, Cond.instanceMethod yX5_makeLatest, Cond.selects RX5 yX5_makeLatest yX5_makeLatest, Cond.code yX5_makeLatest cX5_makeLatest 3 none, Cond.fieldLink RX5 43 "KeyMatrix$Reports" "latest" "I", Cond.fieldLink RX5 46 "KeyMatrix$Reports" "since" "I", Cond.fieldLink RX5 49 "KeyMatrix$Reports" "repeatsOfLatest" "I", Cond.methodLink RL 12 yX12_init, Cond.instanceMethod yX12_init, Cond.code yX12_init cX12_init 1 none, Cond.methodLink RX12 7 objectInit, Cond.fieldLink RX12 13 "KeyMatrixModel" "tape" "[B"]
def wsL_law_r9 : List Cond := [Cond.fieldLink RX12 17 "KeyMatrixModel" "text" "[B", Cond.fieldLink RX12 20 "KeyMatrixModel" "tKind" "[I", Cond.fieldLink RX12 24 "KeyMatrixModel" "tPlace" "[I", Cond.fieldLink RX12 27 "KeyMatrixModel" "tValue" "[I", Cond.arrayClass .long, Cond.fieldLink RX12 30 "KeyMatrixModel" "tName" "[J", Cond.fieldLink RX12 34 "KeyMatrixModel" "keys" "[J", Cond.fieldLink RX12 37 "KeyMatrixModel" "place" "I", Cond.fieldLink RX12 40 "KeyMatrixModel" "now" "[I", Cond.fieldLink RX12 43 "KeyMatrixModel" "draft" "[I", Cond.fieldLink RX12 46 "KeyMatrixModel" "steady" "[F", Cond.fieldLink RX12 50 "KeyMatrixModel" "deedTold" "[I", Cond.fieldLink RX12 53 "KeyMatrixModel" "partOf" "[I", Cond.fieldLink RX12 56 "KeyMatrixModel" "sentCodes" "[I", Cond.fieldLink RX12 59 "KeyMatrixModel" "aside" "[I", Cond.fieldLink RX12 62 "KeyMatrixModel" "asideSteady" "[F", Cond.fieldLink RX12 65 "KeyMatrixModel" "held" "[I", Cond.fieldLink RX12 68 "KeyMatrixModel" "heldSteady" "[F", Cond.arrayClass .boolean, Cond.fieldLink RX12 71 "KeyMatrixModel" "isHeld" "[Z", Cond.methodLink RX12 75 yX12_letters, Cond.static yX12_letters, Cond.code yX12_letters cX12_letters 7 (some .long), Cond.methodLink RX12 79 yX12_appends]
def wsL_law_r10 : List Cond := [Cond.static yX12_appends, Cond.code yX12_appends cX12_appends 3 (some .long), Cond.constantLong RX12 100 (27), Cond.methodLink RX12 83 yX12_begins, Cond.static yX12_begins, Cond.code yX12_begins cX12_begins 2 none, Cond.methodLink RX12 87 yX12_startsAnew, Cond.instanceMethod yX12_startsAnew, Cond.selects RX12 yX12_startsAnew yX12_startsAnew, Cond.code yX12_startsAnew cX12_startsAnew 2 none, Cond.methodLink RL 13 yX11_feed, Cond.instanceMethod yX11_feed, Cond.selects RX11 yX11_feed yX11_feed, Cond.code yX11_feed cX11_feed 6 (some .int), Cond.methodLink RX11 60 yX11_appendFour, Cond.instanceMethod yX11_appendFour, Cond.selects RX11 yX11_appendFour yX11_appendFour, Cond.code yX11_appendFour cX11_appendFour 3 none, Cond.methodLink RL 17 yX12_feed, Cond.instanceMethod yX12_feed, Cond.selects RX12 yX12_feed yX12_feed, Cond.code yX12_feed cX12_feed 6 (some .int), Cond.fieldLink RX12 90 "KeyMatrixModel" "taped" "I", Cond.methodLink RX12 93 yX12_lays]
def wsL_law_r11 : List Cond := [Cond.instanceMethod yX12_lays, Cond.selects RX12 yX12_lays yX12_lays, Cond.code yX12_lays cX12_lays 3 none, Cond.methodLink RL 18 yX11_back, Cond.instanceMethod yX11_back, Cond.selects RX11 yX11_back yX11_back, Cond.code yX11_back cX11_back 2 (some .int), Cond.methodLink RL 22 yX12_back, Cond.instanceMethod yX12_back, Cond.selects RX12 yX12_back yX12_back, Cond.code yX12_back cX12_back 2 (some .int), Cond.methodLink RL 23 yX11_read, Cond.instanceMethod yX11_read, Cond.selects RX11 yX11_read yX11_read, Cond.code yX11_read cX11_read 2 (some .int), Cond.methodLink RX11 64 yX7_readTape, Cond.instanceMethod yX7_readTape, Cond.selects RX7 yX7_readTape yX7_readTape, Cond.code yX7_readTape cX7_readTape 5 (some .int), Cond.fieldLink RX7 39 "KeyMatrix$TextReader" "at" "I", Cond.fieldLink RX7 43 "KeyMatrix$TextReader" "fault" "I", Cond.fieldLink RX7 46 "KeyMatrix$TextReader" "laterFault" "I", Cond.fieldLink RX7 60 "KeyMatrix$TextReader" "laterToken" "I", Cond.fieldLink RX7 63 "KeyMatrix$TextReader" "faultToken" "I"]
def wsL_law_r12 : List Cond := [Cond.fieldLink RX7 69 "KeyMatrix$TextReader" "faultPlace" "I", Cond.methodLink RX7 32 yX8_cut, Cond.instanceMethod yX8_cut, Cond.selects RX8 yX8_cut yX8_cut, Cond.code yX8_cut cX8_cut 5 none, Cond.fieldLink RX8 25 "KeyMatrix$Tokens" "size" "I", Cond.fieldLink RX8 29 "KeyMatrix$Tokens" "end" "I", Cond.methodLink RX8 32 yX8_skipBlanks, Cond.instanceMethod yX8_skipBlanks, Cond.selects RX8 yX8_skipBlanks yX8_skipBlanks, Cond.code yX8_skipBlanks cX8_skipBlanks 4 (some .int), Cond.methodLink RX8 36 yX8_isLetter, Cond.static yX8_isLetter, Cond.code yX8_isLetter cX8_isLetter 1 (some .boolean), Cond.methodLink RX8 40 yX8_cutWord, Cond.instanceMethod yX8_cutWord, Cond.selects RX8 yX8_cutWord yX8_cutWord, Cond.code yX8_cutWord cX8_cutWord 8 (some .int), Cond.fieldLink RX8 49 "KeyMatrix$Tokens" "WORDS" "[LKeyMatrix$Word;", Cond.methodLink RX8 56 yX8_isSpelt, Cond.static yX8_isSpelt, Cond.code yX8_isSpelt cX8_isSpelt 5 (some .boolean), Cond.methodLink RX8 60 yJ0_length_8abf5, Cond.instanceMethod yJ0_length_8abf5]
def wsL_law_r13 : List Cond := [Cond.selects RJ0 yJ0_length_8abf5 yJ0_length_8abf5, Cond.initialized RJ0, Cond.code yJ0_length_8abf5 cJ0_length_8abf5 1 (some .int), Cond.fieldLink RJ0 9 "java/lang/String" "value" "[B", Cond.methodLink RJ0 335 yJ0_coder_7d493, Cond.instanceMethod yJ0_coder_7d493, Cond.selects RJ0 yJ0_coder_7d493 yJ0_coder_7d493, Cond.code yJ0_coder_7d493 cJ0_coder_7d493 1 (some .byte), Cond.fieldLink RJ0 38 "java/lang/String" "COMPACT_STRINGS" "Z", Cond.fieldLink RJ0 15 "java/lang/String" "coder" "B", Cond.methodLink RX8 66 yJ0_charAt_5068e, Cond.instanceMethod yJ0_charAt_5068e, Cond.selects RJ0 yJ0_charAt_5068e yJ0_charAt_5068e, Cond.code yJ0_charAt_5068e cJ0_charAt_5068e 2 (some .char), Cond.methodLink RJ0 492 yJ0_isLatin1_aae02, Cond.instanceMethod yJ0_isLatin1_aae02, Cond.selects RJ0 yJ0_isLatin1_aae02 yJ0_isLatin1_aae02, Cond.code yJ0_isLatin1_aae02 cJ0_isLatin1_aae02 1 (some .boolean), Cond.methodLink RJ0 495 yJ1_charAt_3b067, Cond.static yJ1_charAt_3b067, Cond.initialized RJ1, Cond.code yJ1_charAt_3b067 cJ1_charAt_3b067 2 (some .char), Cond.methodLink RJ1 9 yJ0_checkIndex_df160, Cond.static yJ0_checkIndex_df160]
def wsL_law_r14 : List Cond := [Cond.code yJ0_checkIndex_df160 cJ0_checkIndex_df160 2 none, Cond.fieldLink RJ0 1053 "jdk/internal/util/Preconditions" "SIOOBE_FORMATTER" "Ljava/util/function/BiFunction;", Cond.methodLink RJ0 1059 yJ3_checkIndex_8e157, Cond.static yJ3_checkIndex_8e157, Cond.initialized RJ3, Cond.code yJ3_checkIndex_8e157 cJ3_checkIndex_8e157 3 (some .int), Cond.methodLink RJ0 498 yJ2_charAt_3b067, Cond.static yJ2_charAt_3b067, Cond.initialized RJ2, Cond.code yJ2_charAt_3b067 cJ2_charAt_3b067 2 (some .char), Cond.methodLink RJ2 67 yJ2_checkIndex_2214a, Cond.static yJ2_checkIndex_2214a, Cond.code yJ2_checkIndex_2214a cJ2_checkIndex_2214a 2 none, Cond.methodLink RJ2 48 yJ2_length_9d52b, Cond.static yJ2_length_9d52b, Cond.code yJ2_length_9d52b cJ2_length_9d52b 1 (some .int), Cond.methodLink RJ2 414 yJ0_checkIndex_df160, Cond.methodLink RJ2 71 yJ2_getChar_3b067, Cond.static yJ2_getChar_3b067, Cond.code yJ2_getChar_3b067 cJ2_getChar_3b067 2 (some .char), Cond.fieldLink RJ2 44 "java/lang/StringUTF16" "$assertionsDisabled" "Z", Cond.fieldLink RJ2 59 "java/lang/StringUTF16" "HI_BYTE_SHIFT" "I", Cond.fieldLink RJ2 63 "java/lang/StringUTF16" "LO_BYTE_SHIFT" "I", Cond.methodLink RX8 43 yX8_isDigit]
def wsL_law_r15 : List Cond := [Cond.static yX8_isDigit, Cond.code yX8_isDigit cX8_isDigit 1 (some .boolean), Cond.methodLink RX8 46 yX8_cutInt, Cond.instanceMethod yX8_cutInt, Cond.selects RX8 yX8_cutInt yX8_cutInt, Cond.code yX8_cutInt cX8_cutInt 5 (some .int), Cond.methodLink RX7 36 yX0_clear, Cond.methodLink RX7 49 yX7_takeBoard, Cond.instanceMethod yX7_takeBoard, Cond.selects RX7 yX7_takeBoard yX7_takeBoard, Cond.code yX7_takeBoard cX7_takeBoard 1 (some .boolean), Cond.fieldLink RX7 76 "KeyMatrix$Word" "BOARD" "LKeyMatrix$Word;", Cond.fieldLink RX7 93 "KeyMatrix$TextReader" "number" "I", Cond.methodLink RX7 72 yX8_wordAt, Cond.instanceMethod yX8_wordAt, Cond.selects RX8 yX8_wordAt yX8_wordAt, Cond.code yX8_wordAt cX8_wordAt 2 (some (.object "KeyMatrix$Word")), Cond.methodLink RX7 82 yX7_fail, Cond.instanceMethod yX7_fail, Cond.selects RX7 yX7_fail yX7_fail, Cond.code yX7_fail cX7_fail 2 (some .boolean), Cond.methodLink RX7 86 yX7_takeToken, Cond.instanceMethod yX7_takeToken, Cond.selects RX7 yX7_takeToken yX7_takeToken]
def wsL_law_r16 : List Cond := [Cond.code yX7_takeToken cX7_takeToken 2 (some .boolean), Cond.methodLink RX7 53 yX8_kindAt, Cond.instanceMethod yX8_kindAt, Cond.selects RX8 yX8_kindAt yX8_kindAt, Cond.code yX8_kindAt cX8_kindAt 2 (some .int), Cond.methodLink RX7 89 yX7_takeNumber, Cond.instanceMethod yX7_takeNumber, Cond.selects RX7 yX7_takeNumber yX7_takeNumber, Cond.code yX7_takeNumber cX7_takeNumber 3 (some .boolean), Cond.methodLink RX7 220 yX8_numberAt, Cond.instanceMethod yX8_numberAt, Cond.selects RX8 yX8_numberAt yX8_numberAt, Cond.code yX8_numberAt cX8_numberAt 2 (some .int), Cond.methodLink RX7 212 yX7_noteLater, Cond.instanceMethod yX7_noteLater, Cond.selects RX7 yX7_noteLater yX7_noteLater, Cond.code yX7_noteLater cX7_noteLater 3 none, Cond.methodLink RX7 57 yX7_takeLine, Cond.instanceMethod yX7_takeLine, Cond.selects RX7 yX7_takeLine yX7_takeLine, Cond.code yX7_takeLine cX7_takeLine 3 (some .boolean), Cond.fieldLink RX7 106 "KeyMatrix$Word" "CHORD" "LKeyMatrix$Word;", Cond.fieldLink RX7 112 "KeyMatrix$Word" "MACRO" "LKeyMatrix$Word;", Cond.fieldLink RX7 118 "KeyMatrix$Word" "DIODES" "LKeyMatrix$Word;"]
def wsL_law_r17 : List Cond := [Cond.fieldLink RX7 124 "KeyMatrix$Word" "SIX" "LKeyMatrix$Word;", Cond.fieldLink RX7 130 "KeyMatrix$Word" "KEY" "LKeyMatrix$Word;", Cond.methodLink RX7 133 yX7_takeKey, Cond.instanceMethod yX7_takeKey, Cond.selects RX7 yX7_takeKey yX7_takeKey, Cond.code yX7_takeKey cX7_takeKey 3 (some .boolean), Cond.methodLink RX7 185 yX0_keys, Cond.instanceMethod yX0_keys, Cond.selects RX0 yX0_keys yX0_keys, Cond.code yX0_keys cX0_keys 1 (some .int), Cond.methodLink RX7 189 yX0_toldDeed, Cond.instanceMethod yX0_toldDeed, Cond.selects RX0 yX0_toldDeed yX0_toldDeed, Cond.code yX0_toldDeed cX0_toldDeed 3 (some (.object "KeyMatrix$Deed")), Cond.methodLink RX7 193 yX7_takeDeed, Cond.instanceMethod yX7_takeDeed, Cond.selects RX7 yX7_takeDeed yX7_takeDeed, Cond.code yX7_takeDeed cX7_takeDeed 3 (some .boolean), Cond.fieldLink RX7 240 "KeyMatrix$Word" "NOTHING" "LKeyMatrix$Word;", Cond.fieldLink RX7 243 "KeyMatrix$Word" "BELOW" "LKeyMatrix$Word;", Cond.fieldLink RX7 249 "KeyMatrix$Word" "HOLD" "LKeyMatrix$Word;", Cond.fieldLink RX7 252 "KeyMatrix$Word" "LAYER" "LKeyMatrix$Word;", Cond.fieldLink RX7 206 "KeyMatrix$Word" "MOD" "LKeyMatrix$Word;", Cond.fieldLink RX7 258 "KeyMatrix$Word" "DOUBLE" "LKeyMatrix$Word;"]
def wsL_law_r18 : List Cond := [Cond.methodLink RX7 236 yX2_tell, Cond.methodLink RX7 196 yX2_copyFrom, Cond.instanceMethod yX2_copyFrom, Cond.selects RX2 yX2_copyFrom yX2_copyFrom, Cond.code yX2_copyFrom cX2_copyFrom 2 none, Cond.methodLink RX2 21 yX2_tell, Cond.methodLink RX7 136 yX7_takeChord, Cond.instanceMethod yX7_takeChord, Cond.selects RX7 yX7_takeChord yX7_takeChord, Cond.code yX7_takeChord cX7_takeChord 4 (some .boolean), Cond.fieldLink RX7 203 "KeyMatrix$Word" "CODE" "LKeyMatrix$Word;", Cond.fieldLink RX7 209 "KeyMatrix$Word" "PLAY" "LKeyMatrix$Word;", Cond.methodLink RX7 200 yX7_takeChordKey, Cond.instanceMethod yX7_takeChordKey, Cond.selects RX7 yX7_takeChordKey yX7_takeChordKey, Cond.code yX7_takeChordKey cX7_takeChordKey 3 (some .boolean), Cond.methodLink RX7 223 yX0_chordOf, Cond.instanceMethod yX0_chordOf, Cond.selects RX0 yX0_chordOf yX0_chordOf, Cond.code yX0_chordOf cX0_chordOf 3 (some .int), Cond.methodLink RX7 216 yX0_addChord, Cond.instanceMethod yX0_addChord, Cond.selects RX0 yX0_addChord yX0_addChord, Cond.code yX0_addChord cX0_addChord 4 none]
def wsL_law_r19 : List Cond := [Cond.methodLink RX0 83 yX2_copyFrom, Cond.methodLink RX7 139 yX7_takeMacro, Cond.instanceMethod yX7_takeMacro, Cond.selects RX7 yX7_takeMacro yX7_takeMacro, Cond.code yX7_takeMacro cX7_takeMacro 2 (some .boolean), Cond.methodLink RX7 226 yX0_addMacro, Cond.instanceMethod yX0_addMacro, Cond.selects RX0 yX0_addMacro yX0_addMacro, Cond.code yX0_addMacro cX0_addMacro 2 none, Cond.methodLink RX0 108 yX0_addMacroCode, Cond.instanceMethod yX0_addMacroCode, Cond.selects RX0 yX0_addMacroCode yX0_addMacroCode, Cond.code yX0_addMacroCode cX0_addMacroCode 3 none, Cond.methodLink RX7 230 yX0_addMacroCode, Cond.methodLink RX7 142 yX7_takeSetting, Cond.instanceMethod yX7_takeSetting, Cond.selects RX7 yX7_takeSetting yX7_takeSetting, Cond.code yX7_takeSetting cX7_takeSetting 2 (some .boolean), Cond.fieldLink RX7 152 "KeyMatrix$Word" "BOUNCE" "LKeyMatrix$Word;", Cond.fieldLink RX7 158 "KeyMatrix$Word" "TERM" "LKeyMatrix$Word;", Cond.fieldLink RX7 164 "KeyMatrix$Word" "CHORDING" "LKeyMatrix$Word;", Cond.fieldLink RX7 170 "KeyMatrix$Word" "TWICE" "LKeyMatrix$Word;", Cond.fieldLink RX7 176 "KeyMatrix$Word" "REPEAT" "LKeyMatrix$Word;", Cond.methodLink RX7 66 yX8_placeAt]
def wsL_law_r20 : List Cond := [Cond.instanceMethod yX8_placeAt, Cond.selects RX8 yX8_placeAt yX8_placeAt, Cond.code yX8_placeAt cX8_placeAt 2 (some .int), Cond.methodLink RX11 72 yX0_copyFrom, Cond.instanceMethod yX0_copyFrom, Cond.selects RX0 yX0_copyFrom yX0_copyFrom, Cond.code yX0_copyFrom cX0_copyFrom 3 none, Cond.methodLink RX0 87 arraycopyName, Cond.native arraycopyName, Cond.static arraycopyName, Cond.initialized "java/lang/System", Cond.methodLink RX11 75 yX1_clear, Cond.methodLink RL 27 yX12_read, Cond.instanceMethod yX12_read, Cond.selects RX12 yX12_read yX12_read, Cond.code yX12_read cX12_read 2 (some .int), Cond.fieldLink RX12 97 "KeyMatrixModel" "size" "I", Cond.fieldLink RX12 127 "KeyMatrixModel" "t" "I", Cond.fieldLink RX12 124 "KeyMatrixModel" "fault" "I", Cond.fieldLink RX12 133 "KeyMatrixModel" "worst" "I", Cond.fieldLink RX12 151 "KeyMatrixModel" "chordLines" "I", Cond.fieldLink RX12 154 "KeyMatrixModel" "macroLines" "I", Cond.fieldLink RX12 130 "KeyMatrixModel" "faultPlace" "I", Cond.fieldLink RX12 136 "KeyMatrixModel" "worstPlace" "I"]
def wsL_law_r21 : List Cond := [Cond.methodLink RX12 148 yX12_cutsText, Cond.instanceMethod yX12_cutsText, Cond.selects RX12 yX12_cutsText yX12_cutsText, Cond.code yX12_cutsText cX12_cutsText 8 none, Cond.fieldLink RX12 102 "KeyMatrixModel" "tokens" "I", Cond.methodLink RX12 105 yX12_byteAt, Cond.instanceMethod yX12_byteAt, Cond.selects RX12 yX12_byteAt yX12_byteAt, Cond.code yX12_byteAt cX12_byteAt 2 (some .int), Cond.methodLink RX12 109 yX12_token, Cond.instanceMethod yX12_token, Cond.selects RX12 yX12_token yX12_token, Cond.code yX12_token cX12_token 6 none, Cond.methodLink RX12 113 yX12_isLetter, Cond.static yX12_isLetter, Cond.code yX12_isLetter cX12_isLetter 1 (some .boolean), Cond.methodLink RX12 117 yX12_isDigit, Cond.static yX12_isDigit, Cond.code yX12_isDigit cX12_isDigit 1 (some .boolean), Cond.methodLink RX12 120 yX12_sign, Cond.instanceMethod yX12_sign, Cond.selects RX12 yX12_sign yX12_sign, Cond.code yX12_sign cX12_sign 3 (some .int), Cond.methodLink RX12 157 yX12_must]
def wsL_law_r22 : List Cond := [Cond.instanceMethod yX12_must, Cond.selects RX12 yX12_must yX12_must, Cond.code yX12_must cX12_must 2 none, Cond.methodLink RX12 142 yX12_is, Cond.instanceMethod yX12_is, Cond.selects RX12 yX12_is yX12_is, Cond.code yX12_is cX12_is 2 (some .boolean), Cond.methodLink RX12 145 yX12_passes, Cond.instanceMethod yX12_passes, Cond.selects RX12 yX12_passes yX12_passes, Cond.code yX12_passes cX12_passes 1 none, Cond.methodLink RX12 139 yX12_fail, Cond.instanceMethod yX12_fail, Cond.selects RX12 yX12_fail yX12_fail, Cond.code yX12_fail cX12_fail 2 none, Cond.methodLink RX12 160 yX12_tell, Cond.instanceMethod yX12_tell, Cond.selects RX12 yX12_tell yX12_tell, Cond.code yX12_tell cX12_tell 3 none, Cond.methodLink RX12 166 yX12_deedRead, Cond.instanceMethod yX12_deedRead, Cond.selects RX12 yX12_deedRead yX12_deedRead, Cond.code yX12_deedRead cX12_deedRead 2 none, Cond.methodLink RX12 163 yX12_means]
def wsL_law_r23 : List Cond := [Cond.instanceMethod yX12_means, Cond.selects RX12 yX12_means yX12_means, Cond.code yX12_means cX12_means 2 none, Cond.fieldLink RX12 181 "KeyMatrixModel" "isBoard" "Z", Cond.methodLink RX12 177 yX12_within, Cond.instanceMethod yX12_within, Cond.selects RX12 yX12_within yX12_within, Cond.code yX12_within cX12_within 4 (some .int), Cond.methodLink RX12 169 yX12_in, Cond.static yX12_in, Cond.code yX12_in cX12_in 3 (some .boolean), Cond.methodLink RX12 173 yX12_wrong, Cond.instanceMethod yX12_wrong, Cond.selects RX12 yX12_wrong yX12_wrong, Cond.code yX12_wrong cX12_wrong 4 none, Cond.methodLink RX12 185 yX12_meansLine, Cond.instanceMethod yX12_meansLine, Cond.selects RX12 yX12_meansLine yX12_meansLine, Cond.code yX12_meansLine cX12_meansLine 2 none, Cond.methodLink RX12 188 yX12_meansKey, Cond.instanceMethod yX12_meansKey, Cond.selects RX12 yX12_meansKey yX12_meansKey, Cond.code yX12_meansKey cX12_meansKey 5 none, Cond.methodLink RX12 197 yX12_keyTold]
def wsL_law_r24 : List Cond := [Cond.instanceMethod yX12_keyTold, Cond.selects RX12 yX12_keyTold yX12_keyTold, Cond.code yX12_keyTold cX12_keyTold 2 (some .int), Cond.methodLink RX12 200 yX12_meansDeed, Cond.instanceMethod yX12_meansDeed, Cond.selects RX12 yX12_meansDeed yX12_meansDeed, Cond.code yX12_meansDeed cX12_meansDeed 3 none, Cond.methodLink RX12 191 yX12_meansChord, Cond.instanceMethod yX12_meansChord, Cond.selects RX12 yX12_meansChord yX12_meansChord, Cond.code yX12_meansChord cX12_meansChord 6 none, Cond.methodLink RX12 203 yX12_isChorded, Cond.instanceMethod yX12_isChorded, Cond.selects RX12 yX12_isChorded yX12_isChorded, Cond.code yX12_isChorded cX12_isChorded 3 (some .boolean), Cond.methodLink RX12 194 yX12_meansMacro, Cond.instanceMethod yX12_meansMacro, Cond.selects RX12 yX12_meansMacro yX12_meansMacro, Cond.code yX12_meansMacro cX12_meansMacro 4 none, Cond.methodLink RL 28 yX11_place, Cond.instanceMethod yX11_place, Cond.selects RX11 yX11_place yX11_place, Cond.code yX11_place cX11_place 1 (some .int), Cond.methodLink RL 31 yX12_place]
def wsL_law_r25 : List Cond := [Cond.instanceMethod yX12_place, Cond.selects RX12 yX12_place yX12_place, Cond.code yX12_place cX12_place 1 (some .int), Cond.methodLink RL 32 yX11_press, Cond.instanceMethod yX11_press, Cond.selects RX11 yX11_press yX11_press, Cond.code yX11_press cX11_press 4 (some .boolean), Cond.methodLink RX11 82 yX0_hasKey, Cond.instanceMethod yX0_hasKey, Cond.selects RX0 yX0_hasKey yX0_hasKey, Cond.code yX0_hasKey cX0_hasKey 2 (some .boolean), Cond.methodLink RX0 93 yX0_keys, Cond.methodLink RX11 91 yX11_isIn, Cond.static yX11_isIn, Cond.code yX11_isIn cX11_isIn 2 (some .boolean), Cond.methodLink RX11 95 yX9_follow, Cond.instanceMethod yX9_follow, Cond.selects RX9 yX9_follow yX9_follow, Cond.code yX9_follow cX9_follow 4 none, Cond.fieldLink RX9 25 "KeyMatrix$Wiring" "seen" "I", Cond.fieldLink RX9 29 "KeyMatrix$Wiring" "barred" "I", Cond.methodLink RX9 15 yX9_join, Cond.instanceMethod yX9_join, Cond.selects RX9 yX9_join yX9_join]
def wsL_law_r26 : List Cond := [Cond.code yX9_join cX9_join 7 none, Cond.fieldLink RX9 45 "KeyMatrix$Wiring" "parts" "I", Cond.methodLink RX9 32 yX0_hasKey, Cond.methodLink RX9 42 yX9_bar, Cond.instanceMethod yX9_bar, Cond.selects RX9 yX9_bar yX9_bar, Cond.code yX9_bar cX9_bar 7 none, Cond.methodLink RX9 52 yJ6_bitCount_0f7a4, Cond.static yJ6_bitCount_0f7a4, Cond.initialized RJ6, Cond.code yJ6_bitCount_0f7a4 cJ6_bitCount_0f7a4 1 (some .int), Cond.constant RJ6 265 (1431655765), Cond.constant RJ6 266 (858993459), Cond.constant RJ6 267 (252645135), Cond.methodLink RL 36 yX12_press, Cond.instanceMethod yX12_press, Cond.selects RX12 yX12_press yX12_press, Cond.code yX12_press cX12_press 3 (some .boolean), Cond.methodLink RX12 220 yX12_isKey, Cond.instanceMethod yX12_isKey, Cond.selects RX12 yX12_isKey yX12_isKey, Cond.code yX12_isKey cX12_isKey 2 (some .boolean), Cond.methodLink RX12 206 yX12_keysMany, Cond.instanceMethod yX12_keysMany]
def wsL_law_r27 : List Cond := [Cond.selects RX12 yX12_keysMany yX12_keysMany, Cond.code yX12_keysMany cX12_keysMany 1 (some .int), Cond.methodLink RX12 210 yX12_has, Cond.static yX12_has, Cond.code yX12_has cX12_has 2 (some .boolean), Cond.methodLink RL 37 yX11_tick, Cond.instanceMethod yX11_tick, Cond.selects RX11 yX11_tick yX11_tick, Cond.code yX11_tick cX11_tick 4 (some .int), Cond.methodLink RX11 107 yX0_keys, Cond.methodLink RX11 120 yX1_passTick, Cond.instanceMethod yX1_passTick, Cond.selects RX1 yX1_passTick yX1_passTick, Cond.code yX1_passTick cX1_passTick 3 none, Cond.methodLink RX1 84 yX0_hasKey, Cond.methodLink RX1 90 yX6_weighSteady, Cond.instanceMethod yX6_weighSteady, Cond.selects RX6 yX6_weighSteady yX6_weighSteady, Cond.code yX6_weighSteady cX6_weighSteady 3 none, Cond.constantFloat RX6 47 (1063256064), Cond.constantFloat RX6 52 (1040187392), Cond.methodLink RX1 97 yX6_changes, Cond.instanceMethod yX6_changes, Cond.selects RX6 yX6_changes yX6_changes]
def wsL_law_r28 : List Cond := [Cond.code yX6_changes cX6_changes 4 (some .boolean), Cond.methodLink RX1 100 yX6_change, Cond.instanceMethod yX6_change, Cond.selects RX6 yX6_change yX6_change, Cond.code yX6_change cX6_change 3 none, Cond.methodLink RX6 53 Lib.Math.max.name, Cond.static Lib.Math.max.name, Cond.initialized "java/lang/Math", Cond.code Lib.Math.max.name Lib.Math.max.code 2 (some .int), Cond.methodLink RX1 104 yX4_add, Cond.instanceMethod yX4_add, Cond.selects RX4 yX4_add yX4_add, Cond.code yX4_add cX4_add 4 none, Cond.methodLink RX1 111 yX1_fateOfFirst, Cond.instanceMethod yX1_fateOfFirst, Cond.selects RX1 yX1_fateOfFirst yX1_fateOfFirst, Cond.code yX1_fateOfFirst cX1_fateOfFirst 5 (some .int), Cond.methodLink RX1 128 yX4_isDownAt, Cond.instanceMethod yX4_isDownAt, Cond.selects RX4 yX4_isDownAt yX4_isDownAt, Cond.code yX4_isDownAt cX4_isDownAt 2 (some .boolean), Cond.methodLink RX1 131 yX4_keyAt, Cond.instanceMethod yX4_keyAt, Cond.selects RX4 yX4_keyAt yX4_keyAt]
def wsL_law_r29 : List Cond := [Cond.code yX4_keyAt cX4_keyAt 2 (some .int), Cond.methodLink RX1 135 yX0_chordOf, Cond.methodLink RX1 138 yX4_tickAt, Cond.instanceMethod yX4_tickAt, Cond.selects RX4 yX4_tickAt yX4_tickAt, Cond.code yX4_tickAt cX4_tickAt 2 (some .int), Cond.methodLink RX1 150 yX1_activeLayers, Cond.instanceMethod yX1_activeLayers, Cond.selects RX1 yX1_activeLayers yX1_activeLayers, Cond.code yX1_activeLayers cX1_activeLayers 3 (some .int), Cond.methodLink RX1 153 yX0_deedIn, Cond.instanceMethod yX0_deedIn, Cond.selects RX0 yX0_deedIn yX0_deedIn, Cond.code yX0_deedIn cX0_deedIn 5 (some (.object "KeyMatrix$Deed")), Cond.methodLink RX0 97 yX0_toldDeed, Cond.methodLink RX1 164 yX1_fateOfHold, Cond.instanceMethod yX1_fateOfHold, Cond.selects RX1 yX1_fateOfHold yX1_fateOfHold, Cond.code yX1_fateOfHold cX1_fateOfHold 6 (some .int), Cond.methodLink RX1 171 yX1_fateOfDouble, Cond.instanceMethod yX1_fateOfDouble, Cond.selects RX1 yX1_fateOfDouble yX1_fateOfDouble, Cond.code yX1_fateOfDouble cX1_fateOfDouble 4 (some .int), Cond.methodLink RX1 115 yX1_workOff]
def wsL_law_r30 : List Cond := [Cond.instanceMethod yX1_workOff, Cond.selects RX1 yX1_workOff yX1_workOff, Cond.code yX1_workOff cX1_workOff 5 none, Cond.methodLink RX1 174 yX4_drop, Cond.instanceMethod yX4_drop, Cond.selects RX4 yX4_drop yX4_drop, Cond.code yX4_drop cX4_drop 2 none, Cond.methodLink RX4 22 arraycopyName, Cond.methodLink RX1 177 yX3_end, Cond.instanceMethod yX3_end, Cond.selects RX3 yX3_end yX3_end, Cond.code yX3_end cX3_end 3 none, Cond.methodLink RX3 40 yX3_drop, Cond.instanceMethod yX3_drop, Cond.selects RX3 yX3_drop yX3_drop, Cond.code yX3_drop cX3_drop 4 none, Cond.methodLink RX1 180 yX1_send, Cond.instanceMethod yX1_send, Cond.selects RX1 yX1_send yX1_send, Cond.code yX1_send cX1_send 2 none, Cond.methodLink RX1 207 yX3_gather, Cond.instanceMethod yX3_gather, Cond.selects RX3 yX3_gather yX3_gather, Cond.code yX3_gather cX3_gather 4 none]
def wsL_law_r31 : List Cond := [Cond.fieldLink RX3 44 "KeyMatrix$Doing" "mods" "I", Cond.fieldLink RX3 47 "KeyMatrix$Doing" "codeCount" "I", Cond.methodLink RX3 50 yX3_addCode, Cond.instanceMethod yX3_addCode, Cond.selects RX3 yX3_addCode yX3_addCode, Cond.code yX3_addCode cX3_addCode 3 none, Cond.methodLink RX1 214 yX5_reportIfUnlike, Cond.instanceMethod yX5_reportIfUnlike, Cond.selects RX5 yX5_reportIfUnlike yX5_reportIfUnlike, Cond.code yX5_reportIfUnlike cX5_reportIfUnlike 7 none, Cond.methodLink RX5 37 arraycopyName, Cond.methodLink RX5 55 yX5_rowOf, Cond.instanceMethod yX5_rowOf, Cond.selects RX5 yX5_rowOf yX5_rowOf, Cond.code yX5_rowOf cX5_rowOf 2 (some .int), Cond.methodLink RX5 59 yX5_isAlike, Cond.instanceMethod yX5_isAlike, Cond.selects RX5 yX5_isAlike yX5_isAlike, Cond.code yX5_isAlike cX5_isAlike 5 (some .boolean), Cond.methodLink RX5 70 yX5_codeAt, Cond.instanceMethod yX5_codeAt, Cond.selects RX5 yX5_codeAt yX5_codeAt, Cond.code yX5_codeAt cX5_codeAt 3 (some .int), Cond.methodLink RX5 63 yX5_renewLatest]
def wsL_law_r32 : List Cond := [Cond.instanceMethod yX5_renewLatest, Cond.selects RX5 yX5_renewLatest yX5_renewLatest, Cond.code yX5_renewLatest cX5_renewLatest 7 none, Cond.methodLink RX5 74 yX5_hasCode, Cond.instanceMethod yX5_hasCode, Cond.selects RX5 yX5_hasCode yX5_hasCode, Cond.code yX5_hasCode cX5_hasCode 4 (some .boolean), Cond.methodLink RX5 78 yX3_sends, Cond.instanceMethod yX3_sends, Cond.selects RX3 yX3_sends yX3_sends, Cond.code yX3_sends cX3_sends 3 (some .boolean), Cond.methodLink RX1 183 yX0_chordDeed, Cond.instanceMethod yX0_chordDeed, Cond.selects RX0 yX0_chordDeed yX0_chordDeed, Cond.code yX0_chordDeed cX0_chordDeed 2 (some (.object "KeyMatrix$Deed")), Cond.methodLink RX1 190 yX1_perform, Cond.instanceMethod yX1_perform, Cond.selects RX1 yX1_perform yX1_perform, Cond.code yX1_perform cX1_perform 6 none, Cond.methodLink RX1 201 yX3_begin, Cond.instanceMethod yX3_begin, Cond.selects RX3 yX3_begin yX3_begin, Cond.code yX3_begin cX3_begin 5 none, Cond.methodLink RX1 204 yX0_macroCode]
def wsL_law_r33 : List Cond := [Cond.instanceMethod yX0_macroCode, Cond.selects RX0 yX0_macroCode yX0_macroCode, Cond.code yX0_macroCode cX0_macroCode 3 (some .int), Cond.methodLink RX1 197 yX4_dropNext, Cond.instanceMethod yX4_dropNext, Cond.selects RX4 yX4_dropNext yX4_dropNext, Cond.code yX4_dropNext cX4_dropNext 4 none, Cond.methodLink RX4 28 yX4_keyAt, Cond.methodLink RX4 32 yX4_isDownAt, Cond.methodLink RX4 36 yX4_drop, Cond.methodLink RX1 124 yX5_repeatLatest, Cond.instanceMethod yX5_repeatLatest, Cond.selects RX5 yX5_repeatLatest yX5_repeatLatest, Cond.code yX5_repeatLatest cX5_repeatLatest 5 none, Cond.methodLink RL 40 yX12_tick, Cond.instanceMethod yX12_tick, Cond.selects RX12 yX12_tick yX12_tick, Cond.code yX12_tick cX12_tick 4 (some .int), Cond.methodLink RX12 326 yX12_ticks, Cond.instanceMethod yX12_ticks, Cond.selects RX12 yX12_ticks yX12_ticks, Cond.code yX12_ticks cX12_ticks 5 none, Cond.constantFloat RX12 239 (1063256064), Cond.constantFloat RX12 240 (1040187392)]
def wsL_law_r34 : List Cond := [Cond.methodLink RX12 223 yX12_seenBy, Cond.instanceMethod yX12_seenBy, Cond.selects RX12 yX12_seenBy yX12_seenBy, Cond.code yX12_seenBy cX12_seenBy 5 (some .int), Cond.methodLink RX12 214 yX12_laysParts, Cond.instanceMethod yX12_laysParts, Cond.selects RX12 yX12_laysParts yX12_laysParts, Cond.code yX12_laysParts cX12_laysParts 8 (some .int), Cond.methodLink RX12 229 yX12_barredBy, Cond.instanceMethod yX12_barredBy, Cond.selects RX12 yX12_barredBy yX12_barredBy, Cond.code yX12_barredBy cX12_barredBy 4 (some .int), Cond.methodLink RX12 217 yX12_isCornered, Cond.instanceMethod yX12_isCornered, Cond.selects RX12 yX12_isCornered yX12_isCornered, Cond.code yX12_isCornered cX12_isCornered 7 (some .boolean), Cond.methodLink RX12 232 yX12_changes, Cond.instanceMethod yX12_changes, Cond.selects RX12 yX12_changes yX12_changes, Cond.code yX12_changes cX12_changes 5 none, Cond.methodLink RX12 235 yX12_works, Cond.instanceMethod yX12_works, Cond.selects RX12 yX12_works yX12_works, Cond.code yX12_works cX12_works 6 (some .boolean)]
def wsL_law_r35 : List Cond := [Cond.methodLink RX12 244 yX12_keyAt, Cond.instanceMethod yX12_keyAt, Cond.selects RX12 yX12_keyAt yX12_keyAt, Cond.code yX12_keyAt cX12_keyAt 2 (some .int), Cond.methodLink RX12 247 yX12_isDownAt, Cond.instanceMethod yX12_isDownAt, Cond.selects RX12 yX12_isDownAt yX12_isDownAt, Cond.code yX12_isDownAt cX12_isDownAt 2 (some .boolean), Cond.methodLink RX12 250 yX12_drops, Cond.instanceMethod yX12_drops, Cond.selects RX12 yX12_drops yX12_drops, Cond.code yX12_drops cX12_drops 3 none, Cond.methodLink RX12 253 yX12_ends, Cond.instanceMethod yX12_ends, Cond.selects RX12 yX12_ends yX12_ends, Cond.code yX12_ends cX12_ends 3 none, Cond.methodLink RX12 262 yX12_chordOf, Cond.instanceMethod yX12_chordOf, Cond.selects RX12 yX12_chordOf yX12_chordOf, Cond.code yX12_chordOf cX12_chordOf 3 (some .int), Cond.methodLink RX12 293 yX12_stops, Cond.instanceMethod yX12_stops, Cond.selects RX12 yX12_stops yX12_stops, Cond.code yX12_stops cX12_stops 2 none]
def wsL_law_r36 : List Cond := [Cond.methodLink RX12 256 yX12_reports, Cond.instanceMethod yX12_reports, Cond.selects RX12 yX12_reports yX12_reports, Cond.code yX12_reports cX12_reports 4 none, Cond.fieldLink RX12 299 "KeyMatrixModel" "sentMany" "I", Cond.fieldLink RX12 302 "KeyMatrixModel" "sentMods" "I", Cond.methodLink RX12 314 yX12_laysSent, Cond.instanceMethod yX12_laysSent, Cond.selects RX12 yX12_laysSent yX12_laysSent, Cond.code yX12_laysSent cX12_laysSent 4 none, Cond.methodLink RX12 305 yX12_nextBegun, Cond.instanceMethod yX12_nextBegun, Cond.selects RX12 yX12_nextBegun yX12_nextBegun, Cond.code yX12_nextBegun cX12_nextBegun 4 (some .int), Cond.methodLink RX12 308 yX12_adds, Cond.instanceMethod yX12_adds, Cond.selects RX12 yX12_adds yX12_adds, Cond.code yX12_adds cX12_adds 3 none, Cond.methodLink RX12 317 yX12_isLatest, Cond.instanceMethod yX12_isLatest, Cond.selects RX12 yX12_isLatest yX12_isLatest, Cond.code yX12_isLatest cX12_isLatest 4 (some .boolean), Cond.methodLink RX12 311 yX12_reportAt, Cond.instanceMethod yX12_reportAt]
def wsL_law_r37 : List Cond := [Cond.selects RX12 yX12_reportAt yX12_reportAt, Cond.code yX12_reportAt cX12_reportAt 2 (some .int), Cond.methodLink RX12 320 yX12_hears, Cond.instanceMethod yX12_hears, Cond.selects RX12 yX12_hears yX12_hears, Cond.code yX12_hears cX12_hears 5 none, Cond.methodLink RX12 323 yX12_reportHas, Cond.instanceMethod yX12_reportHas, Cond.selects RX12 yX12_reportHas yX12_reportHas, Cond.code yX12_reportHas cX12_reportHas 4 (some .boolean), Cond.methodLink RX12 259 yX12_timeAt, Cond.instanceMethod yX12_timeAt, Cond.selects RX12 yX12_timeAt yX12_timeAt, Cond.code yX12_timeAt cX12_timeAt 2 (some .int), Cond.methodLink RX12 265 yX12_chords, Cond.instanceMethod yX12_chords, Cond.selects RX12 yX12_chords yX12_chords, Cond.code yX12_chords cX12_chords 6 none, Cond.methodLink RX12 290 yX12_plays, Cond.instanceMethod yX12_plays, Cond.selects RX12 yX12_plays yX12_plays, Cond.code yX12_plays cX12_plays 4 none, Cond.methodLink RX12 278 yX12_begin, Cond.instanceMethod yX12_begin]
def wsL_law_r38 : List Cond := [Cond.selects RX12 yX12_begin yX12_begin, Cond.code yX12_begin cX12_begin 4 none, Cond.methodLink RX12 269 yX12_worksAlone, Cond.instanceMethod yX12_worksAlone, Cond.selects RX12 yX12_worksAlone yX12_worksAlone, Cond.code yX12_worksAlone cX12_worksAlone 8 (some .boolean), Cond.methodLink RX12 272 yX12_layerOf, Cond.instanceMethod yX12_layerOf, Cond.selects RX12 yX12_layerOf yX12_layerOf, Cond.code yX12_layerOf cX12_layerOf 4 (some .int), Cond.methodLink RX12 296 yX12_activeLayers, Cond.instanceMethod yX12_activeLayers, Cond.selects RX12 yX12_activeLayers yX12_activeLayers, Cond.code yX12_activeLayers cX12_activeLayers 3 (some .int), Cond.methodLink RX12 275 yX12_heldOrTapped, Cond.instanceMethod yX12_heldOrTapped, Cond.selects RX12 yX12_heldOrTapped yX12_heldOrTapped, Cond.code yX12_heldOrTapped cX12_heldOrTapped 7 (some .int), Cond.methodLink RX12 281 yX12_onceOrTwice, Cond.instanceMethod yX12_onceOrTwice, Cond.selects RX12 yX12_onceOrTwice yX12_onceOrTwice, Cond.code yX12_onceOrTwice cX12_onceOrTwice 5 (some .int), Cond.methodLink RX12 284 yX12_dropsTwo, Cond.instanceMethod yX12_dropsTwo]
def wsL_law_r39 : List Cond := [Cond.selects RX12 yX12_dropsTwo yX12_dropsTwo, Cond.code yX12_dropsTwo cX12_dropsTwo 3 none, Cond.methodLink RX12 287 yX12_doesPlainly, Cond.instanceMethod yX12_doesPlainly, Cond.selects RX12 yX12_doesPlainly yX12_doesPlainly, Cond.code yX12_doesPlainly cX12_doesPlainly 4 none, Cond.methodLink RX12 241 yX12_repeats, Cond.instanceMethod yX12_repeats, Cond.selects RX12 yX12_repeats yX12_repeats, Cond.code yX12_repeats cX12_repeats 2 none, Cond.methodLink RL 41 yX11_key, Cond.instanceMethod yX11_key, Cond.selects RX11 yX11_key yX11_key, Cond.code yX11_key cX11_key 4 (some .int), Cond.methodLink RX11 123 yX11_bitOf, Cond.static yX11_bitOf, Cond.code yX11_bitOf cX11_bitOf 2 (some .int), Cond.methodLink RX11 138 yX11_floatBits, Cond.static yX11_floatBits, Cond.code yX11_floatBits cX11_floatBits 3 (some .int), Cond.constantFloat RX11 313 (1258291200), Cond.methodLink RL 45 yX12_key, Cond.instanceMethod yX12_key, Cond.selects RX12 yX12_key yX12_key]
def wsL_law_r40 : List Cond := [Cond.code yX12_key cX12_key 4 (some .int), Cond.methodLink RX12 332 yX12_bitsOfNumber, Cond.static yX12_bitsOfNumber, Cond.code yX12_bitsOfNumber cX12_bitsOfNumber 5 (some .int), Cond.constantDouble RX12 329 (4611686018427387904), Cond.constant RX12 331 (8388608), Cond.methodLink RL 46 yX11_deed, Cond.instanceMethod yX11_deed, Cond.selects RX11 yX11_deed yX11_deed, Cond.code yX11_deed cX11_deed 5 (some .int), Cond.methodLink RX11 142 yX1_activeLayers, Cond.methodLink RX11 145 yX0_deedIn, Cond.methodLink RX11 149 yX0_toldDeed, Cond.methodLink RL 50 yX12_deed, Cond.instanceMethod yX12_deed, Cond.selects RX12 yX12_deed yX12_deed, Cond.code yX12_deed cX12_deed 5 (some .int), Cond.methodLink RL 51 yX11_does, Cond.instanceMethod yX11_does, Cond.selects RX11 yX11_does yX11_does, Cond.code yX11_does cX11_does 3 (some .int), Cond.methodLink RL 54 yX12_does, Cond.instanceMethod yX12_does, Cond.selects RX12 yX12_does yX12_does]
def wsL_law_r41 : List Cond := [Cond.code yX12_does cX12_does 3 (some .int), Cond.methodLink RL 55 yX11_event, Cond.instanceMethod yX11_event, Cond.selects RX11 yX11_event yX11_event, Cond.code yX11_event cX11_event 4 (some .int), Cond.methodLink RX11 183 yX4_keyAt, Cond.methodLink RX11 187 yX4_isDownAt, Cond.methodLink RX11 190 yX4_tickAt, Cond.methodLink RL 58 yX12_event, Cond.instanceMethod yX12_event, Cond.selects RX12 yX12_event yX12_event, Cond.code yX12_event cX12_event 3 (some .int), Cond.methodLink RL 59 yX11_report, Cond.instanceMethod yX11_report, Cond.selects RX11 yX11_report yX11_report, Cond.code yX11_report cX11_report 5 (some .int), Cond.methodLink RX11 193 yX5_rowOf, Cond.methodLink RX11 205 yX5_codeAt, Cond.methodLink RL 62 yX12_report, Cond.instanceMethod yX12_report, Cond.selects RX12 yX12_report yX12_report, Cond.code yX12_report cX12_report 4 (some .int), Cond.methodLink RX12 336 yX12_reportsKept, Cond.instanceMethod yX12_reportsKept]
def wsL_law_r42 : List Cond := [Cond.selects RX12 yX12_reportsKept yX12_reportsKept, Cond.code yX12_reportsKept cX12_reportsKept 1 (some .int), Cond.methodLink RL 63 yX11_sent, Cond.instanceMethod yX11_sent, Cond.selects RX11 yX11_sent yX11_sent, Cond.code yX11_sent cX11_sent 3 (some .int), Cond.methodLink RX11 208 yX3_gather, Cond.methodLink RL 66 yX12_sent, Cond.instanceMethod yX12_sent, Cond.selects RX12 yX12_sent yX12_sent, Cond.code yX12_sent cX12_sent 2 (some .int), Cond.methodLink RL 67 yX11_host, Cond.instanceMethod yX11_host, Cond.selects RX11 yX11_host yX11_host, Cond.code yX11_host cX11_host 3 (some .int), Cond.methodLink RL 70 yX12_host, Cond.instanceMethod yX12_host, Cond.selects RX12 yX12_host yX12_host, Cond.code yX12_host cX12_host 2 (some .int), Cond.methodLink RL 71 yX11_strokes, Cond.instanceMethod yX11_strokes, Cond.selects RX11 yX11_strokes yX11_strokes, Cond.code yX11_strokes cX11_strokes 4 (some .int), Cond.methodLink RL 74 yX12_strokes]
def wsL_law_r43 : List Cond := [Cond.instanceMethod yX12_strokes, Cond.selects RX12 yX12_strokes yX12_strokes, Cond.code yX12_strokes cX12_strokes 3 (some .int), Cond.methodLink RL 75 yX11_chord, Cond.instanceMethod yX11_chord, Cond.selects RX11 yX11_chord yX11_chord, Cond.code yX11_chord cX11_chord 3 (some .int), Cond.methodLink RL 78 yX12_chord, Cond.instanceMethod yX12_chord, Cond.selects RX12 yX12_chord yX12_chord, Cond.code yX12_chord cX12_chord 3 (some .int), Cond.methodLink RL 79 yX11_macro, Cond.instanceMethod yX11_macro, Cond.selects RX11 yX11_macro yX11_macro, Cond.code yX11_macro cX11_macro 3 (some .int), Cond.methodLink RX11 258 yX0_macroCode, Cond.methodLink RL 82 yX12_macro, Cond.instanceMethod yX12_macro, Cond.selects RX12 yX12_macro yX12_macro, Cond.code yX12_macro cX12_macro 4 (some .int), Cond.methodLink RL 83 yX11_ghosts, Cond.instanceMethod yX11_ghosts, Cond.selects RX11 yX11_ghosts yX11_ghosts, Cond.code yX11_ghosts cX11_ghosts 3 (some .int)]
def wsL_law_r44 : List Cond := [Cond.methodLink RX11 261 yJ6_bitCount_0f7a4, Cond.methodLink RL 86 yX12_ghosts, Cond.instanceMethod yX12_ghosts, Cond.selects RX12 yX12_ghosts yX12_ghosts, Cond.code yX12_ghosts cX12_ghosts 4 (some .int), Cond.methodLink RX12 226 yX12_bitsOf, Cond.static yX12_bitsOf, Cond.code yX12_bitsOf cX12_bitsOf 3 (some .int), Cond.methodLink RL 87 yX11_ahead, Cond.instanceMethod yX11_ahead, Cond.selects RX11 yX11_ahead yX11_ahead, Cond.code yX11_ahead cX11_ahead 4 (some .int), Cond.methodLink RX11 269 yX1_copyFrom, Cond.instanceMethod yX1_copyFrom, Cond.selects RX1 yX1_copyFrom yX1_copyFrom, Cond.code yX1_copyFrom cX1_copyFrom 2 none, Cond.methodLink RX1 54 yX6_copyFrom, Cond.instanceMethod yX6_copyFrom, Cond.selects RX6 yX6_copyFrom yX6_copyFrom, Cond.code yX6_copyFrom cX6_copyFrom 2 none, Cond.methodLink RX6 41 arraycopyName, Cond.methodLink RX1 58 yX4_copyFrom, Cond.instanceMethod yX4_copyFrom, Cond.selects RX4 yX4_copyFrom yX4_copyFrom]
def wsL_law_r45 : List Cond := [Cond.code yX4_copyFrom cX4_copyFrom 2 none, Cond.methodLink RX1 61 yX3_copyFrom, Cond.instanceMethod yX3_copyFrom, Cond.selects RX3 yX3_copyFrom yX3_copyFrom, Cond.code yX3_copyFrom cX3_copyFrom 2 none, Cond.methodLink RX3 34 arraycopyName, Cond.methodLink RX1 64 yX5_copyFrom, Cond.instanceMethod yX5_copyFrom, Cond.selects RX5 yX5_copyFrom yX5_copyFrom, Cond.code yX5_copyFrom cX5_copyFrom 2 none, Cond.methodLink RL 90 yX12_ahead, Cond.instanceMethod yX12_ahead, Cond.selects RX12 yX12_ahead yX12_ahead, Cond.code yX12_ahead cX12_ahead 5 (some .int), Cond.methodLink RL 91 yX11_hold, Cond.instanceMethod yX11_hold, Cond.selects RX11 yX11_hold yX11_hold, Cond.code yX11_hold cX11_hold 2 (some .boolean), Cond.methodLink RL 95 yX12_hold, Cond.instanceMethod yX12_hold, Cond.selects RX12 yX12_hold yX12_hold, Cond.code yX12_hold cX12_hold 3 (some .boolean), Cond.methodLink RL 96 yX11_restore, Cond.instanceMethod yX11_restore]
def wsL_law_r46 : List Cond := [Cond.selects RX11 yX11_restore yX11_restore, Cond.code yX11_restore cX11_restore 2 (some .boolean), Cond.methodLink RL 99 yX12_restore, Cond.instanceMethod yX12_restore, Cond.selects RX12 yX12_restore yX12_restore, Cond.code yX12_restore cX12_restore 3 (some .boolean), Cond.methodLink RL 100 yX11_count, Cond.instanceMethod yX11_count, Cond.selects RX11 yX11_count yX11_count, Cond.code yX11_count cX11_count 2 (some .int), Cond.methodLink RX11 285 yX11_setting, Cond.instanceMethod yX11_setting, Cond.selects RX11 yX11_setting yX11_setting, Cond.code yX11_setting cX11_setting 2 (some .int), Cond.methodLink RL 103 yX12_count, Cond.instanceMethod yX12_count, Cond.selects RX12 yX12_count yX12_count, Cond.code yX12_count cX12_count 2 (some .int)]
def wsL_law : List Cond := (wsL_law_r1 ++ (wsL_law_r2 ++ (wsL_law_r3 ++ (wsL_law_r4 ++ (wsL_law_r5 ++ (wsL_law_r6 ++ (wsL_law_r7 ++ (wsL_law_r8 ++ (wsL_law_r9 ++ (wsL_law_r10 ++ (wsL_law_r11 ++ (wsL_law_r12 ++ (wsL_law_r13 ++ (wsL_law_r14 ++ (wsL_law_r15 ++ (wsL_law_r16 ++ (wsL_law_r17 ++ (wsL_law_r18 ++ (wsL_law_r19 ++ (wsL_law_r20 ++ (wsL_law_r21 ++ (wsL_law_r22 ++ (wsL_law_r23 ++ (wsL_law_r24 ++ (wsL_law_r25 ++ (wsL_law_r26 ++ (wsL_law_r27 ++ (wsL_law_r28 ++ (wsL_law_r29 ++ (wsL_law_r30 ++ (wsL_law_r31 ++ (wsL_law_r32 ++ (wsL_law_r33 ++ (wsL_law_r34 ++ (wsL_law_r35 ++ (wsL_law_r36 ++ (wsL_law_r37 ++ (wsL_law_r38 ++ (wsL_law_r39 ++ (wsL_law_r40 ++ (wsL_law_r41 ++ (wsL_law_r42 ++ (wsL_law_r43 ++ (wsL_law_r44 ++ (wsL_law_r45 ++ wsL_law_r46))))))))))))))))))))))))))))))))))))))))))))) ++ wsX110 ++ wsX120 ++ wsX70 ++ wsX00 ++ wsX90 ++ wsX10 ++ wsX80 ++ wsX20 ++ wsX60 ++ wsX40 ++ wsX30 ++ wsX50 ++ ([] : List Cond)
set_option maxRecDepth 20000 in
theorem wsL_law_in : ∀ w ∈ wsL_law, w ∈ lw_tbl := fun w h => (goodIn_p wsL_law [115, 118, 123, 129, 158, 184, 192, 196, 333, 355, 361, 406, 425, 472, 513, 517, 521, 525, 529, 533, 1125, 1129, 1132, 1136, 1140, 593, 597, 1245, 1249, 601, 1253, 605, 609, 613, 617, 620, 624, 629, 633, 637, 643, 647, 650, 653, 658, 661, 664, 667, 671, 680, 684, 689, 693, 699, 703, 707, 711, 715, 719, 723, 737, 741, 745, 749, 766, 771, 775, 779, 787, 792, 796, 800, 805, 819, 823, 1257, 1261, 1265, 1269, 1272, 1275, 1279, 1283, 1287, 1291, 1295, 1299, 1303, 1307, 1311, 1314, 1318, 1322, 1326, 1330, 1334, 1338, 1342, 1346, 831, 1350, 835, 839, 843, 847, 851, 857, 860, 1354, 1358, 1362, 1365, 867, 872, 877, 884, 888, 891, 896, 900, 904, 908, 913, 917, 921, 927, 931, 935, 939, 944, 948, 952, 956, 960, 964, 968, 972, 976, 980, 984, 988, 993, 997, 1001, 1005, 1009, 1016, 1404, 1408, 1373, 1377, 1384, 1388, 1412, 1416, 1420, 1424, 1428, 1432, 1436, 1440, 1444, 1448, 1452, 1456, 1460, 1464, 1468, 1472, 1476, 1480, 1484, 1488, 1492, 1396, 1400, 1496, 1500, 1504, 1508, 1514, 1020, 1023, 1026, 1518, 1521, 1031, 1392, 1038, 1527, 1042, 1531, 1049, 1535, 1539, 1055, 1543, 1060, 1547, 1064, 1551, 1068, 1555, 1072, 1559, 1077, 1369, 1380, 1082, 1086, 1090, 1095, 1099, 1104, 1563, 1108, 1567, 1112, 1571, 1116, 1120, 1575] (by decide +kernel) (by decide +kernel) w h).1
theorem inlX0 : ∀ w ∈ wsX00, w ∈ wsL_law := fun _ h => List.mem_append_left _ (List.mem_append_left _ (List.mem_append_left _ (List.mem_append_left _ (List.mem_append_left _ (List.mem_append_left _ (List.mem_append_left _ (List.mem_append_left _ (List.mem_append_left _ (List.mem_append_right _ h)))))))))
theorem inX0 : ∀ w ∈ wsX00, w ∈ lw_tbl := fun w h => wsL_law_in w (inlX0 w h)
theorem inlX1 : ∀ w ∈ wsX10, w ∈ wsL_law := fun _ h => List.mem_append_left _ (List.mem_append_left _ (List.mem_append_left _ (List.mem_append_left _ (List.mem_append_left _ (List.mem_append_left _ (List.mem_append_left _ (List.mem_append_right _ h)))))))
theorem inX1 : ∀ w ∈ wsX10, w ∈ lw_tbl := fun w h => wsL_law_in w (inlX1 w h)
theorem inlX2 : ∀ w ∈ wsX20, w ∈ wsL_law := fun _ h => List.mem_append_left _ (List.mem_append_left _ (List.mem_append_left _ (List.mem_append_left _ (List.mem_append_left _ (List.mem_append_right _ h)))))
theorem inX2 : ∀ w ∈ wsX20, w ∈ lw_tbl := fun w h => wsL_law_in w (inlX2 w h)
theorem inlX3 : ∀ w ∈ wsX30, w ∈ wsL_law := fun _ h => List.mem_append_left _ (List.mem_append_left _ (List.mem_append_right _ h))
theorem inX3 : ∀ w ∈ wsX30, w ∈ lw_tbl := fun w h => wsL_law_in w (inlX3 w h)
theorem inlX4 : ∀ w ∈ wsX40, w ∈ wsL_law := fun _ h => List.mem_append_left _ (List.mem_append_left _ (List.mem_append_left _ (List.mem_append_right _ h)))
theorem inX4 : ∀ w ∈ wsX40, w ∈ lw_tbl := fun w h => wsL_law_in w (inlX4 w h)
theorem inlX5 : ∀ w ∈ wsX50, w ∈ wsL_law := fun _ h => List.mem_append_left _ (List.mem_append_right _ h)
theorem inX5 : ∀ w ∈ wsX50, w ∈ lw_tbl := fun w h => wsL_law_in w (inlX5 w h)
theorem inlX6 : ∀ w ∈ wsX60, w ∈ wsL_law := fun _ h => List.mem_append_left _ (List.mem_append_left _ (List.mem_append_left _ (List.mem_append_left _ (List.mem_append_right _ h))))
theorem inX6 : ∀ w ∈ wsX60, w ∈ lw_tbl := fun w h => wsL_law_in w (inlX6 w h)
theorem inlX7 : ∀ w ∈ wsX70, w ∈ wsL_law := fun _ h => List.mem_append_left _ (List.mem_append_left _ (List.mem_append_left _ (List.mem_append_left _ (List.mem_append_left _ (List.mem_append_left _ (List.mem_append_left _ (List.mem_append_left _ (List.mem_append_left _ (List.mem_append_left _ (List.mem_append_right _ h))))))))))
theorem inX7 : ∀ w ∈ wsX70, w ∈ lw_tbl := fun w h => wsL_law_in w (inlX7 w h)
theorem inlX8 : ∀ w ∈ wsX80, w ∈ wsL_law := fun _ h => List.mem_append_left _ (List.mem_append_left _ (List.mem_append_left _ (List.mem_append_left _ (List.mem_append_left _ (List.mem_append_left _ (List.mem_append_right _ h))))))
theorem inX8 : ∀ w ∈ wsX80, w ∈ lw_tbl := fun w h => wsL_law_in w (inlX8 w h)
theorem inlX9 : ∀ w ∈ wsX90, w ∈ wsL_law := fun _ h => List.mem_append_left _ (List.mem_append_left _ (List.mem_append_left _ (List.mem_append_left _ (List.mem_append_left _ (List.mem_append_left _ (List.mem_append_left _ (List.mem_append_left _ (List.mem_append_right _ h))))))))
theorem inX9 : ∀ w ∈ wsX90, w ∈ lw_tbl := fun w h => wsL_law_in w (inlX9 w h)
theorem inX10 : ∀ w ∈ wsX100, w ∈ lw_tbl := by decide +kernel
theorem inlX11 : ∀ w ∈ wsX110, w ∈ wsL_law := fun _ h => List.mem_append_left _ (List.mem_append_left _ (List.mem_append_left _ (List.mem_append_left _ (List.mem_append_left _ (List.mem_append_left _ (List.mem_append_left _ (List.mem_append_left _ (List.mem_append_left _ (List.mem_append_left _ (List.mem_append_left _ (List.mem_append_left _ (List.mem_append_right _ h))))))))))))
theorem inX11 : ∀ w ∈ wsX110, w ∈ lw_tbl := fun w h => wsL_law_in w (inlX11 w h)
theorem inlX12 : ∀ w ∈ wsX120, w ∈ wsL_law := fun _ h => List.mem_append_left _ (List.mem_append_left _ (List.mem_append_left _ (List.mem_append_left _ (List.mem_append_left _ (List.mem_append_left _ (List.mem_append_left _ (List.mem_append_left _ (List.mem_append_left _ (List.mem_append_left _ (List.mem_append_left _ (List.mem_append_right _ h)))))))))))
theorem inX12 : ∀ w ∈ wsX120, w ∈ lw_tbl := fun w h => wsL_law_in w (inlX12 w h)
theorem inJx29ce0 : ∀ w ∈ wsJx29ce00, w ∈ lw_tbl := by decide +kernel
theorem inJ6 : ∀ w ∈ wsJ60, w ∈ lw_tbl := by decide +kernel
theorem inJ9 : ∀ w ∈ wsJ90, w ∈ lw_tbl := by decide +kernel
theorem inJ0 : ∀ w ∈ wsJ00, w ∈ lw_tbl := by decide +kernel
theorem inJ1 : ∀ w ∈ wsJ10, w ∈ lw_tbl := by decide +kernel
theorem inJ2 : ∀ w ∈ wsJ20, w ∈ lw_tbl := by decide +kernel
theorem inJ10 : ∀ w ∈ wsJ100, w ∈ lw_tbl := by decide +kernel
theorem inJ3 : ∀ w ∈ wsJ30, w ∈ lw_tbl := by decide +kernel
abbrev vwCl : List vw_C := [(RX0, TX0, 19), (RX1, TX1, 6), (RX2, TX2, 3), (RX3, TX3, 9), (RX4, TX4, 3), (RX5, TX5, 9), (RX6, TX6, 9), (RX7, TX7, 10), (RX8, TX8, 6), (RX9, TX9, 4), (RX11, TX11, 10), (RX12, TX12, 33)]
