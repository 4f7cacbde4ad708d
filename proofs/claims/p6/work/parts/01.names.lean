-- ===== PART A: goes FIRST, ahead of the names: the tables' words, and 'selects' of the private methods out of them =====
/-- a private method of a class that the tables say can be made, by its rows of tables_1 -/
def lw_okq (q : MethodName × Nat) : Prop := (q.1.cls ≠ "java/lang/invoke/MethodHandle" ∧ q.1.cls ≠ "java/lang/invoke/VarHandle") ∧ Cond.instantiable q.1.cls q.2 ∈ tables_1 ∧ Cond.privateMethod q.1 ∈ tables_1 ∧ Cond.instanceMethod q.1 ∈ tables_1
theorem lw_p0 : lw_okq (⟨"KeyMatrix$Reports", "makeLatest", "(II)V"⟩, 9) := ⟨⟨by decide +kernel, by decide +kernel⟩, List.mem_of_getElem? (i := 380) (by decide +kernel), List.mem_of_getElem? (i := 442) (by decide +kernel), List.mem_of_getElem? (i := 443) (by decide +kernel)⟩
theorem lw_p1 : lw_okq (⟨"KeyMatrix", "appendFour", "(I)V"⟩, 10) := ⟨⟨by decide +kernel, by decide +kernel⟩, List.mem_of_getElem? (i := 23) (by decide +kernel), List.mem_of_getElem? (i := 506) (by decide +kernel), List.mem_of_getElem? (i := 507) (by decide +kernel)⟩
theorem lw_p2 : lw_okq (⟨"KeyMatrix$Tokens", "skipBlanks", "([BI)I"⟩, 6) := ⟨⟨by decide +kernel, by decide +kernel⟩, List.mem_of_getElem? (i := 37) (by decide +kernel), List.mem_of_getElem? (i := 526) (by decide +kernel), List.mem_of_getElem? (i := 527) (by decide +kernel)⟩
theorem lw_p3 : lw_okq (⟨"KeyMatrix$Tokens", "cutWord", "([BI)I"⟩, 6) := ⟨⟨by decide +kernel, by decide +kernel⟩, List.mem_of_getElem? (i := 37) (by decide +kernel), List.mem_of_getElem? (i := 533) (by decide +kernel), List.mem_of_getElem? (i := 534) (by decide +kernel)⟩
theorem lw_p4 : lw_okq (⟨"KeyMatrix$Tokens", "cutInt", "([BI)I"⟩, 6) := ⟨⟨by decide +kernel, by decide +kernel⟩, List.mem_of_getElem? (i := 37) (by decide +kernel), List.mem_of_getElem? (i := 593) (by decide +kernel), List.mem_of_getElem? (i := 594) (by decide +kernel)⟩
theorem lw_p5 : lw_okq (⟨"KeyMatrix$TextReader", "takeBoard", "()Z"⟩, 10) := ⟨⟨by decide +kernel, by decide +kernel⟩, List.mem_of_getElem? (i := 31) (by decide +kernel), List.mem_of_getElem? (i := 598) (by decide +kernel), List.mem_of_getElem? (i := 599) (by decide +kernel)⟩
theorem lw_p6 : lw_okq (⟨"KeyMatrix$TextReader", "fail", "(I)Z"⟩, 10) := ⟨⟨by decide +kernel, by decide +kernel⟩, List.mem_of_getElem? (i := 31) (by decide +kernel), List.mem_of_getElem? (i := 608) (by decide +kernel), List.mem_of_getElem? (i := 609) (by decide +kernel)⟩
theorem lw_p7 : lw_okq (⟨"KeyMatrix$TextReader", "takeToken", "(I)Z"⟩, 10) := ⟨⟨by decide +kernel, by decide +kernel⟩, List.mem_of_getElem? (i := 31) (by decide +kernel), List.mem_of_getElem? (i := 612) (by decide +kernel), List.mem_of_getElem? (i := 613) (by decide +kernel)⟩
theorem lw_p8 : lw_okq (⟨"KeyMatrix$TextReader", "takeNumber", "(II)Z"⟩, 10) := ⟨⟨by decide +kernel, by decide +kernel⟩, List.mem_of_getElem? (i := 31) (by decide +kernel), List.mem_of_getElem? (i := 620) (by decide +kernel), List.mem_of_getElem? (i := 621) (by decide +kernel)⟩
theorem lw_p9 : lw_okq (⟨"KeyMatrix$TextReader", "noteLater", "(II)V"⟩, 10) := ⟨⟨by decide +kernel, by decide +kernel⟩, List.mem_of_getElem? (i := 31) (by decide +kernel), List.mem_of_getElem? (i := 628) (by decide +kernel), List.mem_of_getElem? (i := 629) (by decide +kernel)⟩
theorem lw_p10 : lw_okq (⟨"KeyMatrix$TextReader", "takeLine", "()Z"⟩, 10) := ⟨⟨by decide +kernel, by decide +kernel⟩, List.mem_of_getElem? (i := 31) (by decide +kernel), List.mem_of_getElem? (i := 632) (by decide +kernel), List.mem_of_getElem? (i := 633) (by decide +kernel)⟩
theorem lw_p11 : lw_okq (⟨"KeyMatrix$TextReader", "takeKey", "()Z"⟩, 10) := ⟨⟨by decide +kernel, by decide +kernel⟩, List.mem_of_getElem? (i := 31) (by decide +kernel), List.mem_of_getElem? (i := 646) (by decide +kernel), List.mem_of_getElem? (i := 647) (by decide +kernel)⟩
theorem lw_p12 : lw_okq (⟨"KeyMatrix$TextReader", "takeDeed", "()Z"⟩, 10) := ⟨⟨by decide +kernel, by decide +kernel⟩, List.mem_of_getElem? (i := 31) (by decide +kernel), List.mem_of_getElem? (i := 658) (by decide +kernel), List.mem_of_getElem? (i := 659) (by decide +kernel)⟩
theorem lw_p13 : lw_okq (⟨"KeyMatrix$TextReader", "takeChord", "()Z"⟩, 10) := ⟨⟨by decide +kernel, by decide +kernel⟩, List.mem_of_getElem? (i := 31) (by decide +kernel), List.mem_of_getElem? (i := 680) (by decide +kernel), List.mem_of_getElem? (i := 681) (by decide +kernel)⟩
theorem lw_p14 : lw_okq (⟨"KeyMatrix$TextReader", "takeChordKey", "(I)Z"⟩, 10) := ⟨⟨by decide +kernel, by decide +kernel⟩, List.mem_of_getElem? (i := 31) (by decide +kernel), List.mem_of_getElem? (i := 684) (by decide +kernel), List.mem_of_getElem? (i := 685) (by decide +kernel)⟩
theorem lw_p15 : lw_okq (⟨"KeyMatrix$TextReader", "takeMacro", "()Z"⟩, 10) := ⟨⟨by decide +kernel, by decide +kernel⟩, List.mem_of_getElem? (i := 31) (by decide +kernel), List.mem_of_getElem? (i := 701) (by decide +kernel), List.mem_of_getElem? (i := 702) (by decide +kernel)⟩
def lw_privs_1 : List (MethodName × Nat) := [(⟨"KeyMatrix$Reports", "makeLatest", "(II)V"⟩, 9), (⟨"KeyMatrix", "appendFour", "(I)V"⟩, 10), (⟨"KeyMatrix$Tokens", "skipBlanks", "([BI)I"⟩, 6), (⟨"KeyMatrix$Tokens", "cutWord", "([BI)I"⟩, 6), (⟨"KeyMatrix$Tokens", "cutInt", "([BI)I"⟩, 6), (⟨"KeyMatrix$TextReader", "takeBoard", "()Z"⟩, 10), (⟨"KeyMatrix$TextReader", "fail", "(I)Z"⟩, 10), (⟨"KeyMatrix$TextReader", "takeToken", "(I)Z"⟩, 10), (⟨"KeyMatrix$TextReader", "takeNumber", "(II)Z"⟩, 10), (⟨"KeyMatrix$TextReader", "noteLater", "(II)V"⟩, 10), (⟨"KeyMatrix$TextReader", "takeLine", "()Z"⟩, 10), (⟨"KeyMatrix$TextReader", "takeKey", "()Z"⟩, 10), (⟨"KeyMatrix$TextReader", "takeDeed", "()Z"⟩, 10), (⟨"KeyMatrix$TextReader", "takeChord", "()Z"⟩, 10), (⟨"KeyMatrix$TextReader", "takeChordKey", "(I)Z"⟩, 10), (⟨"KeyMatrix$TextReader", "takeMacro", "()Z"⟩, 10)]
theorem lw_r1 : ∀ q ∈ lw_privs_1, lw_okq q := List.forall_mem_cons.mpr ⟨lw_p0, List.forall_mem_cons.mpr ⟨lw_p1, List.forall_mem_cons.mpr ⟨lw_p2, List.forall_mem_cons.mpr ⟨lw_p3, List.forall_mem_cons.mpr ⟨lw_p4, List.forall_mem_cons.mpr ⟨lw_p5, List.forall_mem_cons.mpr ⟨lw_p6, List.forall_mem_cons.mpr ⟨lw_p7, List.forall_mem_cons.mpr ⟨lw_p8, List.forall_mem_cons.mpr ⟨lw_p9, List.forall_mem_cons.mpr ⟨lw_p10, List.forall_mem_cons.mpr ⟨lw_p11, List.forall_mem_cons.mpr ⟨lw_p12, List.forall_mem_cons.mpr ⟨lw_p13, List.forall_mem_cons.mpr ⟨lw_p14, List.forall_mem_cons.mpr ⟨lw_p15, fun _ h => absurd h List.not_mem_nil⟩⟩⟩⟩⟩⟩⟩⟩⟩⟩⟩⟩⟩⟩⟩⟩
theorem lw_p16 : lw_okq (⟨"KeyMatrix$TextReader", "takeSetting", "(LKeyMatrix$Word;)Z"⟩, 10) := ⟨⟨by decide +kernel, by decide +kernel⟩, List.mem_of_getElem? (i := 31) (by decide +kernel), List.mem_of_getElem? (i := 714) (by decide +kernel), List.mem_of_getElem? (i := 715) (by decide +kernel)⟩
theorem lw_p17 : lw_okq (⟨"KeyMatrix$Wiring", "join", "(LKeyMatrix$Board;I)V"⟩, 4) := ⟨⟨by decide +kernel, by decide +kernel⟩, List.mem_of_getElem? (i := 241) (by decide +kernel), List.mem_of_getElem? (i := 760) (by decide +kernel), List.mem_of_getElem? (i := 761) (by decide +kernel)⟩
theorem lw_p18 : lw_okq (⟨"KeyMatrix$Wiring", "bar", "(LKeyMatrix$Board;I)V"⟩, 4) := ⟨⟨by decide +kernel, by decide +kernel⟩, List.mem_of_getElem? (i := 241) (by decide +kernel), List.mem_of_getElem? (i := 766) (by decide +kernel), List.mem_of_getElem? (i := 767) (by decide +kernel)⟩
theorem lw_p19 : lw_okq (⟨"KeyMatrix$Course", "fateOfFirst", "()I"⟩, 6) := ⟨⟨by decide +kernel, by decide +kernel⟩, List.mem_of_getElem? (i := 263) (by decide +kernel), List.mem_of_getElem? (i := 809) (by decide +kernel), List.mem_of_getElem? (i := 810) (by decide +kernel)⟩
theorem lw_p20 : lw_okq (⟨"KeyMatrix$Course", "fateOfHold", "(II)I"⟩, 6) := ⟨⟨by decide +kernel, by decide +kernel⟩, List.mem_of_getElem? (i := 263) (by decide +kernel), List.mem_of_getElem? (i := 836) (by decide +kernel), List.mem_of_getElem? (i := 837) (by decide +kernel)⟩
theorem lw_p21 : lw_okq (⟨"KeyMatrix$Course", "fateOfDouble", "(II)I"⟩, 6) := ⟨⟨by decide +kernel, by decide +kernel⟩, List.mem_of_getElem? (i := 263) (by decide +kernel), List.mem_of_getElem? (i := 840) (by decide +kernel), List.mem_of_getElem? (i := 841) (by decide +kernel)⟩
theorem lw_p22 : lw_okq (⟨"KeyMatrix$Course", "workOff", "(I)V"⟩, 6) := ⟨⟨by decide +kernel, by decide +kernel⟩, List.mem_of_getElem? (i := 263) (by decide +kernel), List.mem_of_getElem? (i := 844) (by decide +kernel), List.mem_of_getElem? (i := 845) (by decide +kernel)⟩
theorem lw_p23 : lw_okq (⟨"KeyMatrix$Doing", "drop", "(I)V"⟩, 9) := ⟨⟨by decide +kernel, by decide +kernel⟩, List.mem_of_getElem? (i := 333) (by decide +kernel), List.mem_of_getElem? (i := 857) (by decide +kernel), List.mem_of_getElem? (i := 858) (by decide +kernel)⟩
theorem lw_p24 : lw_okq (⟨"KeyMatrix$Course", "send", "(I)V"⟩, 6) := ⟨⟨by decide +kernel, by decide +kernel⟩, List.mem_of_getElem? (i := 263) (by decide +kernel), List.mem_of_getElem? (i := 861) (by decide +kernel), List.mem_of_getElem? (i := 862) (by decide +kernel)⟩
theorem lw_p25 : lw_okq (⟨"KeyMatrix$Doing", "addCode", "(I)V"⟩, 9) := ⟨⟨by decide +kernel, by decide +kernel⟩, List.mem_of_getElem? (i := 333) (by decide +kernel), List.mem_of_getElem? (i := 869) (by decide +kernel), List.mem_of_getElem? (i := 870) (by decide +kernel)⟩
theorem lw_p26 : lw_okq (⟨"KeyMatrix$Reports", "isAlike", "(ILKeyMatrix$Doing;Z)Z"⟩, 9) := ⟨⟨by decide +kernel, by decide +kernel⟩, List.mem_of_getElem? (i := 380) (by decide +kernel), List.mem_of_getElem? (i := 881) (by decide +kernel), List.mem_of_getElem? (i := 882) (by decide +kernel)⟩
theorem lw_p27 : lw_okq (⟨"KeyMatrix$Reports", "renewLatest", "(ILKeyMatrix$Doing;ZI)V"⟩, 9) := ⟨⟨by decide +kernel, by decide +kernel⟩, List.mem_of_getElem? (i := 380) (by decide +kernel), List.mem_of_getElem? (i := 889) (by decide +kernel), List.mem_of_getElem? (i := 890) (by decide +kernel)⟩
theorem lw_p28 : lw_okq (⟨"KeyMatrix$Reports", "hasCode", "(II)Z"⟩, 9) := ⟨⟨by decide +kernel, by decide +kernel⟩, List.mem_of_getElem? (i := 380) (by decide +kernel), List.mem_of_getElem? (i := 893) (by decide +kernel), List.mem_of_getElem? (i := 894) (by decide +kernel)⟩
theorem lw_p29 : lw_okq (⟨"KeyMatrix$Course", "perform", "(IIII)V"⟩, 6) := ⟨⟨by decide +kernel, by decide +kernel⟩, List.mem_of_getElem? (i := 263) (by decide +kernel), List.mem_of_getElem? (i := 906) (by decide +kernel), List.mem_of_getElem? (i := 907) (by decide +kernel)⟩
theorem lw_p30 : lw_okq (⟨"KeyMatrix", "setting", "(I)I"⟩, 10) := ⟨⟨by decide +kernel, by decide +kernel⟩, List.mem_of_getElem? (i := 23) (by decide +kernel), List.mem_of_getElem? (i := 1029) (by decide +kernel), List.mem_of_getElem? (i := 1030) (by decide +kernel)⟩
theorem lw_p31 : lw_okq (⟨"KeyMatrixModel", "startsAnew", "()V"⟩, 33) := ⟨⟨by decide +kernel, by decide +kernel⟩, List.mem_of_getElem? (i := 1033) (by decide +kernel), List.mem_of_getElem? (i := 1049) (by decide +kernel), List.mem_of_getElem? (i := 1050) (by decide +kernel)⟩
def lw_privs_2 : List (MethodName × Nat) := [(⟨"KeyMatrix$TextReader", "takeSetting", "(LKeyMatrix$Word;)Z"⟩, 10), (⟨"KeyMatrix$Wiring", "join", "(LKeyMatrix$Board;I)V"⟩, 4), (⟨"KeyMatrix$Wiring", "bar", "(LKeyMatrix$Board;I)V"⟩, 4), (⟨"KeyMatrix$Course", "fateOfFirst", "()I"⟩, 6), (⟨"KeyMatrix$Course", "fateOfHold", "(II)I"⟩, 6), (⟨"KeyMatrix$Course", "fateOfDouble", "(II)I"⟩, 6), (⟨"KeyMatrix$Course", "workOff", "(I)V"⟩, 6), (⟨"KeyMatrix$Doing", "drop", "(I)V"⟩, 9), (⟨"KeyMatrix$Course", "send", "(I)V"⟩, 6), (⟨"KeyMatrix$Doing", "addCode", "(I)V"⟩, 9), (⟨"KeyMatrix$Reports", "isAlike", "(ILKeyMatrix$Doing;Z)Z"⟩, 9), (⟨"KeyMatrix$Reports", "renewLatest", "(ILKeyMatrix$Doing;ZI)V"⟩, 9), (⟨"KeyMatrix$Reports", "hasCode", "(II)Z"⟩, 9), (⟨"KeyMatrix$Course", "perform", "(IIII)V"⟩, 6), (⟨"KeyMatrix", "setting", "(I)I"⟩, 10), (⟨"KeyMatrixModel", "startsAnew", "()V"⟩, 33)]
theorem lw_r2 : ∀ q ∈ lw_privs_2, lw_okq q := List.forall_mem_cons.mpr ⟨lw_p16, List.forall_mem_cons.mpr ⟨lw_p17, List.forall_mem_cons.mpr ⟨lw_p18, List.forall_mem_cons.mpr ⟨lw_p19, List.forall_mem_cons.mpr ⟨lw_p20, List.forall_mem_cons.mpr ⟨lw_p21, List.forall_mem_cons.mpr ⟨lw_p22, List.forall_mem_cons.mpr ⟨lw_p23, List.forall_mem_cons.mpr ⟨lw_p24, List.forall_mem_cons.mpr ⟨lw_p25, List.forall_mem_cons.mpr ⟨lw_p26, List.forall_mem_cons.mpr ⟨lw_p27, List.forall_mem_cons.mpr ⟨lw_p28, List.forall_mem_cons.mpr ⟨lw_p29, List.forall_mem_cons.mpr ⟨lw_p30, List.forall_mem_cons.mpr ⟨lw_p31, fun _ h => absurd h List.not_mem_nil⟩⟩⟩⟩⟩⟩⟩⟩⟩⟩⟩⟩⟩⟩⟩⟩
theorem lw_p32 : lw_okq (⟨"KeyMatrixModel", "lays", "(I)V"⟩, 33) := ⟨⟨by decide +kernel, by decide +kernel⟩, List.mem_of_getElem? (i := 1033) (by decide +kernel), List.mem_of_getElem? (i := 1158) (by decide +kernel), List.mem_of_getElem? (i := 1159) (by decide +kernel)⟩
theorem lw_p33 : lw_okq (⟨"KeyMatrixModel", "cutsText", "()V"⟩, 33) := ⟨⟨by decide +kernel, by decide +kernel⟩, List.mem_of_getElem? (i := 1033) (by decide +kernel), List.mem_of_getElem? (i := 1170) (by decide +kernel), List.mem_of_getElem? (i := 1171) (by decide +kernel)⟩
theorem lw_p34 : lw_okq (⟨"KeyMatrixModel", "byteAt", "(I)I"⟩, 33) := ⟨⟨by decide +kernel, by decide +kernel⟩, List.mem_of_getElem? (i := 1033) (by decide +kernel), List.mem_of_getElem? (i := 1174) (by decide +kernel), List.mem_of_getElem? (i := 1175) (by decide +kernel)⟩
theorem lw_p35 : lw_okq (⟨"KeyMatrixModel", "token", "(IIIJ)V"⟩, 33) := ⟨⟨by decide +kernel, by decide +kernel⟩, List.mem_of_getElem? (i := 1033) (by decide +kernel), List.mem_of_getElem? (i := 1178) (by decide +kernel), List.mem_of_getElem? (i := 1179) (by decide +kernel)⟩
theorem lw_p36 : lw_okq (⟨"KeyMatrixModel", "sign", "(II)I"⟩, 33) := ⟨⟨by decide +kernel, by decide +kernel⟩, List.mem_of_getElem? (i := 1033) (by decide +kernel), List.mem_of_getElem? (i := 1188) (by decide +kernel), List.mem_of_getElem? (i := 1189) (by decide +kernel)⟩
theorem lw_p37 : lw_okq (⟨"KeyMatrixModel", "must", "(I)V"⟩, 33) := ⟨⟨by decide +kernel, by decide +kernel⟩, List.mem_of_getElem? (i := 1033) (by decide +kernel), List.mem_of_getElem? (i := 1192) (by decide +kernel), List.mem_of_getElem? (i := 1193) (by decide +kernel)⟩
theorem lw_p38 : lw_okq (⟨"KeyMatrixModel", "is", "(I)Z"⟩, 33) := ⟨⟨by decide +kernel, by decide +kernel⟩, List.mem_of_getElem? (i := 1033) (by decide +kernel), List.mem_of_getElem? (i := 1196) (by decide +kernel), List.mem_of_getElem? (i := 1197) (by decide +kernel)⟩
theorem lw_p39 : lw_okq (⟨"KeyMatrixModel", "passes", "()V"⟩, 33) := ⟨⟨by decide +kernel, by decide +kernel⟩, List.mem_of_getElem? (i := 1033) (by decide +kernel), List.mem_of_getElem? (i := 1200) (by decide +kernel), List.mem_of_getElem? (i := 1201) (by decide +kernel)⟩
theorem lw_p40 : lw_okq (⟨"KeyMatrixModel", "fail", "(I)V"⟩, 33) := ⟨⟨by decide +kernel, by decide +kernel⟩, List.mem_of_getElem? (i := 1033) (by decide +kernel), List.mem_of_getElem? (i := 1204) (by decide +kernel), List.mem_of_getElem? (i := 1205) (by decide +kernel)⟩
theorem lw_p41 : lw_okq (⟨"KeyMatrixModel", "tell", "()V"⟩, 33) := ⟨⟨by decide +kernel, by decide +kernel⟩, List.mem_of_getElem? (i := 1033) (by decide +kernel), List.mem_of_getElem? (i := 1208) (by decide +kernel), List.mem_of_getElem? (i := 1209) (by decide +kernel)⟩
theorem lw_p42 : lw_okq (⟨"KeyMatrixModel", "deedRead", "()V"⟩, 33) := ⟨⟨by decide +kernel, by decide +kernel⟩, List.mem_of_getElem? (i := 1033) (by decide +kernel), List.mem_of_getElem? (i := 1212) (by decide +kernel), List.mem_of_getElem? (i := 1213) (by decide +kernel)⟩
theorem lw_p43 : lw_okq (⟨"KeyMatrixModel", "means", "()V"⟩, 33) := ⟨⟨by decide +kernel, by decide +kernel⟩, List.mem_of_getElem? (i := 1033) (by decide +kernel), List.mem_of_getElem? (i := 1216) (by decide +kernel), List.mem_of_getElem? (i := 1217) (by decide +kernel)⟩
theorem lw_p44 : lw_okq (⟨"KeyMatrixModel", "within", "(III)I"⟩, 33) := ⟨⟨by decide +kernel, by decide +kernel⟩, List.mem_of_getElem? (i := 1033) (by decide +kernel), List.mem_of_getElem? (i := 1220) (by decide +kernel), List.mem_of_getElem? (i := 1221) (by decide +kernel)⟩
theorem lw_p45 : lw_okq (⟨"KeyMatrixModel", "wrong", "(II)V"⟩, 33) := ⟨⟨by decide +kernel, by decide +kernel⟩, List.mem_of_getElem? (i := 1033) (by decide +kernel), List.mem_of_getElem? (i := 1227) (by decide +kernel), List.mem_of_getElem? (i := 1228) (by decide +kernel)⟩
theorem lw_p46 : lw_okq (⟨"KeyMatrixModel", "meansLine", "(I)V"⟩, 33) := ⟨⟨by decide +kernel, by decide +kernel⟩, List.mem_of_getElem? (i := 1033) (by decide +kernel), List.mem_of_getElem? (i := 1231) (by decide +kernel), List.mem_of_getElem? (i := 1232) (by decide +kernel)⟩
theorem lw_p47 : lw_okq (⟨"KeyMatrixModel", "meansKey", "(I)V"⟩, 33) := ⟨⟨by decide +kernel, by decide +kernel⟩, List.mem_of_getElem? (i := 1033) (by decide +kernel), List.mem_of_getElem? (i := 1235) (by decide +kernel), List.mem_of_getElem? (i := 1236) (by decide +kernel)⟩
def lw_privs_3 : List (MethodName × Nat) := [(⟨"KeyMatrixModel", "lays", "(I)V"⟩, 33), (⟨"KeyMatrixModel", "cutsText", "()V"⟩, 33), (⟨"KeyMatrixModel", "byteAt", "(I)I"⟩, 33), (⟨"KeyMatrixModel", "token", "(IIIJ)V"⟩, 33), (⟨"KeyMatrixModel", "sign", "(II)I"⟩, 33), (⟨"KeyMatrixModel", "must", "(I)V"⟩, 33), (⟨"KeyMatrixModel", "is", "(I)Z"⟩, 33), (⟨"KeyMatrixModel", "passes", "()V"⟩, 33), (⟨"KeyMatrixModel", "fail", "(I)V"⟩, 33), (⟨"KeyMatrixModel", "tell", "()V"⟩, 33), (⟨"KeyMatrixModel", "deedRead", "()V"⟩, 33), (⟨"KeyMatrixModel", "means", "()V"⟩, 33), (⟨"KeyMatrixModel", "within", "(III)I"⟩, 33), (⟨"KeyMatrixModel", "wrong", "(II)V"⟩, 33), (⟨"KeyMatrixModel", "meansLine", "(I)V"⟩, 33), (⟨"KeyMatrixModel", "meansKey", "(I)V"⟩, 33)]
theorem lw_r3 : ∀ q ∈ lw_privs_3, lw_okq q := List.forall_mem_cons.mpr ⟨lw_p32, List.forall_mem_cons.mpr ⟨lw_p33, List.forall_mem_cons.mpr ⟨lw_p34, List.forall_mem_cons.mpr ⟨lw_p35, List.forall_mem_cons.mpr ⟨lw_p36, List.forall_mem_cons.mpr ⟨lw_p37, List.forall_mem_cons.mpr ⟨lw_p38, List.forall_mem_cons.mpr ⟨lw_p39, List.forall_mem_cons.mpr ⟨lw_p40, List.forall_mem_cons.mpr ⟨lw_p41, List.forall_mem_cons.mpr ⟨lw_p42, List.forall_mem_cons.mpr ⟨lw_p43, List.forall_mem_cons.mpr ⟨lw_p44, List.forall_mem_cons.mpr ⟨lw_p45, List.forall_mem_cons.mpr ⟨lw_p46, List.forall_mem_cons.mpr ⟨lw_p47, fun _ h => absurd h List.not_mem_nil⟩⟩⟩⟩⟩⟩⟩⟩⟩⟩⟩⟩⟩⟩⟩⟩
theorem lw_p48 : lw_okq (⟨"KeyMatrixModel", "keyTold", "(I)I"⟩, 33) := ⟨⟨by decide +kernel, by decide +kernel⟩, List.mem_of_getElem? (i := 1033) (by decide +kernel), List.mem_of_getElem? (i := 1239) (by decide +kernel), List.mem_of_getElem? (i := 1240) (by decide +kernel)⟩
theorem lw_p49 : lw_okq (⟨"KeyMatrixModel", "meansDeed", "(I)V"⟩, 33) := ⟨⟨by decide +kernel, by decide +kernel⟩, List.mem_of_getElem? (i := 1033) (by decide +kernel), List.mem_of_getElem? (i := 1243) (by decide +kernel), List.mem_of_getElem? (i := 1244) (by decide +kernel)⟩
theorem lw_p50 : lw_okq (⟨"KeyMatrixModel", "meansChord", "(I)V"⟩, 33) := ⟨⟨by decide +kernel, by decide +kernel⟩, List.mem_of_getElem? (i := 1033) (by decide +kernel), List.mem_of_getElem? (i := 1247) (by decide +kernel), List.mem_of_getElem? (i := 1248) (by decide +kernel)⟩
theorem lw_p51 : lw_okq (⟨"KeyMatrixModel", "isChorded", "(I)Z"⟩, 33) := ⟨⟨by decide +kernel, by decide +kernel⟩, List.mem_of_getElem? (i := 1033) (by decide +kernel), List.mem_of_getElem? (i := 1251) (by decide +kernel), List.mem_of_getElem? (i := 1252) (by decide +kernel)⟩
theorem lw_p52 : lw_okq (⟨"KeyMatrixModel", "meansMacro", "(I)V"⟩, 33) := ⟨⟨by decide +kernel, by decide +kernel⟩, List.mem_of_getElem? (i := 1033) (by decide +kernel), List.mem_of_getElem? (i := 1255) (by decide +kernel), List.mem_of_getElem? (i := 1256) (by decide +kernel)⟩
theorem lw_p53 : lw_okq (⟨"KeyMatrixModel", "isKey", "(I)Z"⟩, 33) := ⟨⟨by decide +kernel, by decide +kernel⟩, List.mem_of_getElem? (i := 1033) (by decide +kernel), List.mem_of_getElem? (i := 1267) (by decide +kernel), List.mem_of_getElem? (i := 1268) (by decide +kernel)⟩
theorem lw_p54 : lw_okq (⟨"KeyMatrixModel", "keysMany", "()I"⟩, 33) := ⟨⟨by decide +kernel, by decide +kernel⟩, List.mem_of_getElem? (i := 1033) (by decide +kernel), List.mem_of_getElem? (i := 1271) (by decide +kernel), List.mem_of_getElem? (i := 1272) (by decide +kernel)⟩
theorem lw_p55 : lw_okq (⟨"KeyMatrixModel", "seenBy", "(I)I"⟩, 33) := ⟨⟨by decide +kernel, by decide +kernel⟩, List.mem_of_getElem? (i := 1033) (by decide +kernel), List.mem_of_getElem? (i := 1282) (by decide +kernel), List.mem_of_getElem? (i := 1283) (by decide +kernel)⟩
theorem lw_p56 : lw_okq (⟨"KeyMatrixModel", "laysParts", "(I)I"⟩, 33) := ⟨⟨by decide +kernel, by decide +kernel⟩, List.mem_of_getElem? (i := 1033) (by decide +kernel), List.mem_of_getElem? (i := 1286) (by decide +kernel), List.mem_of_getElem? (i := 1287) (by decide +kernel)⟩
theorem lw_p57 : lw_okq (⟨"KeyMatrixModel", "barredBy", "(I)I"⟩, 33) := ⟨⟨by decide +kernel, by decide +kernel⟩, List.mem_of_getElem? (i := 1033) (by decide +kernel), List.mem_of_getElem? (i := 1293) (by decide +kernel), List.mem_of_getElem? (i := 1294) (by decide +kernel)⟩
theorem lw_p58 : lw_okq (⟨"KeyMatrixModel", "isCornered", "(III)Z"⟩, 33) := ⟨⟨by decide +kernel, by decide +kernel⟩, List.mem_of_getElem? (i := 1033) (by decide +kernel), List.mem_of_getElem? (i := 1297) (by decide +kernel), List.mem_of_getElem? (i := 1298) (by decide +kernel)⟩
theorem lw_p59 : lw_okq (⟨"KeyMatrixModel", "layerOf", "(I)I"⟩, 33) := ⟨⟨by decide +kernel, by decide +kernel⟩, List.mem_of_getElem? (i := 1033) (by decide +kernel), List.mem_of_getElem? (i := 1305) (by decide +kernel), List.mem_of_getElem? (i := 1306) (by decide +kernel)⟩
theorem lw_p60 : lw_okq (⟨"KeyMatrixModel", "activeLayers", "()I"⟩, 33) := ⟨⟨by decide +kernel, by decide +kernel⟩, List.mem_of_getElem? (i := 1033) (by decide +kernel), List.mem_of_getElem? (i := 1309) (by decide +kernel), List.mem_of_getElem? (i := 1310) (by decide +kernel)⟩
theorem lw_p61 : lw_okq (⟨"KeyMatrixModel", "ticks", "()V"⟩, 33) := ⟨⟨by decide +kernel, by decide +kernel⟩, List.mem_of_getElem? (i := 1033) (by decide +kernel), List.mem_of_getElem? (i := 1317) (by decide +kernel), List.mem_of_getElem? (i := 1318) (by decide +kernel)⟩
theorem lw_p62 : lw_okq (⟨"KeyMatrixModel", "changes", "(I)V"⟩, 33) := ⟨⟨by decide +kernel, by decide +kernel⟩, List.mem_of_getElem? (i := 1033) (by decide +kernel), List.mem_of_getElem? (i := 1321) (by decide +kernel), List.mem_of_getElem? (i := 1322) (by decide +kernel)⟩
theorem lw_p63 : lw_okq (⟨"KeyMatrixModel", "works", "()Z"⟩, 33) := ⟨⟨by decide +kernel, by decide +kernel⟩, List.mem_of_getElem? (i := 1033) (by decide +kernel), List.mem_of_getElem? (i := 1325) (by decide +kernel), List.mem_of_getElem? (i := 1326) (by decide +kernel)⟩
def lw_privs_4 : List (MethodName × Nat) := [(⟨"KeyMatrixModel", "keyTold", "(I)I"⟩, 33), (⟨"KeyMatrixModel", "meansDeed", "(I)V"⟩, 33), (⟨"KeyMatrixModel", "meansChord", "(I)V"⟩, 33), (⟨"KeyMatrixModel", "isChorded", "(I)Z"⟩, 33), (⟨"KeyMatrixModel", "meansMacro", "(I)V"⟩, 33), (⟨"KeyMatrixModel", "isKey", "(I)Z"⟩, 33), (⟨"KeyMatrixModel", "keysMany", "()I"⟩, 33), (⟨"KeyMatrixModel", "seenBy", "(I)I"⟩, 33), (⟨"KeyMatrixModel", "laysParts", "(I)I"⟩, 33), (⟨"KeyMatrixModel", "barredBy", "(I)I"⟩, 33), (⟨"KeyMatrixModel", "isCornered", "(III)Z"⟩, 33), (⟨"KeyMatrixModel", "layerOf", "(I)I"⟩, 33), (⟨"KeyMatrixModel", "activeLayers", "()I"⟩, 33), (⟨"KeyMatrixModel", "ticks", "()V"⟩, 33), (⟨"KeyMatrixModel", "changes", "(I)V"⟩, 33), (⟨"KeyMatrixModel", "works", "()Z"⟩, 33)]
theorem lw_r4 : ∀ q ∈ lw_privs_4, lw_okq q := List.forall_mem_cons.mpr ⟨lw_p48, List.forall_mem_cons.mpr ⟨lw_p49, List.forall_mem_cons.mpr ⟨lw_p50, List.forall_mem_cons.mpr ⟨lw_p51, List.forall_mem_cons.mpr ⟨lw_p52, List.forall_mem_cons.mpr ⟨lw_p53, List.forall_mem_cons.mpr ⟨lw_p54, List.forall_mem_cons.mpr ⟨lw_p55, List.forall_mem_cons.mpr ⟨lw_p56, List.forall_mem_cons.mpr ⟨lw_p57, List.forall_mem_cons.mpr ⟨lw_p58, List.forall_mem_cons.mpr ⟨lw_p59, List.forall_mem_cons.mpr ⟨lw_p60, List.forall_mem_cons.mpr ⟨lw_p61, List.forall_mem_cons.mpr ⟨lw_p62, List.forall_mem_cons.mpr ⟨lw_p63, fun _ h => absurd h List.not_mem_nil⟩⟩⟩⟩⟩⟩⟩⟩⟩⟩⟩⟩⟩⟩⟩⟩
theorem lw_p64 : lw_okq (⟨"KeyMatrixModel", "keyAt", "(I)I"⟩, 33) := ⟨⟨by decide +kernel, by decide +kernel⟩, List.mem_of_getElem? (i := 1033) (by decide +kernel), List.mem_of_getElem? (i := 1329) (by decide +kernel), List.mem_of_getElem? (i := 1330) (by decide +kernel)⟩
theorem lw_p65 : lw_okq (⟨"KeyMatrixModel", "isDownAt", "(I)Z"⟩, 33) := ⟨⟨by decide +kernel, by decide +kernel⟩, List.mem_of_getElem? (i := 1033) (by decide +kernel), List.mem_of_getElem? (i := 1333) (by decide +kernel), List.mem_of_getElem? (i := 1334) (by decide +kernel)⟩
theorem lw_p66 : lw_okq (⟨"KeyMatrixModel", "drops", "(I)V"⟩, 33) := ⟨⟨by decide +kernel, by decide +kernel⟩, List.mem_of_getElem? (i := 1033) (by decide +kernel), List.mem_of_getElem? (i := 1337) (by decide +kernel), List.mem_of_getElem? (i := 1338) (by decide +kernel)⟩
theorem lw_p67 : lw_okq (⟨"KeyMatrixModel", "ends", "(I)V"⟩, 33) := ⟨⟨by decide +kernel, by decide +kernel⟩, List.mem_of_getElem? (i := 1033) (by decide +kernel), List.mem_of_getElem? (i := 1341) (by decide +kernel), List.mem_of_getElem? (i := 1342) (by decide +kernel)⟩
theorem lw_p68 : lw_okq (⟨"KeyMatrixModel", "chordOf", "(I)I"⟩, 33) := ⟨⟨by decide +kernel, by decide +kernel⟩, List.mem_of_getElem? (i := 1033) (by decide +kernel), List.mem_of_getElem? (i := 1345) (by decide +kernel), List.mem_of_getElem? (i := 1346) (by decide +kernel)⟩
theorem lw_p69 : lw_okq (⟨"KeyMatrixModel", "stops", "(I)V"⟩, 33) := ⟨⟨by decide +kernel, by decide +kernel⟩, List.mem_of_getElem? (i := 1033) (by decide +kernel), List.mem_of_getElem? (i := 1349) (by decide +kernel), List.mem_of_getElem? (i := 1350) (by decide +kernel)⟩
theorem lw_p70 : lw_okq (⟨"KeyMatrixModel", "reports", "()V"⟩, 33) := ⟨⟨by decide +kernel, by decide +kernel⟩, List.mem_of_getElem? (i := 1033) (by decide +kernel), List.mem_of_getElem? (i := 1353) (by decide +kernel), List.mem_of_getElem? (i := 1354) (by decide +kernel)⟩
theorem lw_p71 : lw_okq (⟨"KeyMatrixModel", "laysSent", "()V"⟩, 33) := ⟨⟨by decide +kernel, by decide +kernel⟩, List.mem_of_getElem? (i := 1033) (by decide +kernel), List.mem_of_getElem? (i := 1357) (by decide +kernel), List.mem_of_getElem? (i := 1358) (by decide +kernel)⟩
theorem lw_p72 : lw_okq (⟨"KeyMatrixModel", "nextBegun", "(I)I"⟩, 33) := ⟨⟨by decide +kernel, by decide +kernel⟩, List.mem_of_getElem? (i := 1033) (by decide +kernel), List.mem_of_getElem? (i := 1361) (by decide +kernel), List.mem_of_getElem? (i := 1362) (by decide +kernel)⟩
theorem lw_p73 : lw_okq (⟨"KeyMatrixModel", "adds", "(I)V"⟩, 33) := ⟨⟨by decide +kernel, by decide +kernel⟩, List.mem_of_getElem? (i := 1033) (by decide +kernel), List.mem_of_getElem? (i := 1365) (by decide +kernel), List.mem_of_getElem? (i := 1366) (by decide +kernel)⟩
theorem lw_p74 : lw_okq (⟨"KeyMatrixModel", "isLatest", "(I)Z"⟩, 33) := ⟨⟨by decide +kernel, by decide +kernel⟩, List.mem_of_getElem? (i := 1033) (by decide +kernel), List.mem_of_getElem? (i := 1369) (by decide +kernel), List.mem_of_getElem? (i := 1370) (by decide +kernel)⟩
theorem lw_p75 : lw_okq (⟨"KeyMatrixModel", "reportAt", "(I)I"⟩, 33) := ⟨⟨by decide +kernel, by decide +kernel⟩, List.mem_of_getElem? (i := 1033) (by decide +kernel), List.mem_of_getElem? (i := 1373) (by decide +kernel), List.mem_of_getElem? (i := 1374) (by decide +kernel)⟩
theorem lw_p76 : lw_okq (⟨"KeyMatrixModel", "hears", "(I)V"⟩, 33) := ⟨⟨by decide +kernel, by decide +kernel⟩, List.mem_of_getElem? (i := 1033) (by decide +kernel), List.mem_of_getElem? (i := 1377) (by decide +kernel), List.mem_of_getElem? (i := 1378) (by decide +kernel)⟩
theorem lw_p77 : lw_okq (⟨"KeyMatrixModel", "reportHas", "(II)Z"⟩, 33) := ⟨⟨by decide +kernel, by decide +kernel⟩, List.mem_of_getElem? (i := 1033) (by decide +kernel), List.mem_of_getElem? (i := 1381) (by decide +kernel), List.mem_of_getElem? (i := 1382) (by decide +kernel)⟩
theorem lw_p78 : lw_okq (⟨"KeyMatrixModel", "timeAt", "(I)I"⟩, 33) := ⟨⟨by decide +kernel, by decide +kernel⟩, List.mem_of_getElem? (i := 1033) (by decide +kernel), List.mem_of_getElem? (i := 1385) (by decide +kernel), List.mem_of_getElem? (i := 1386) (by decide +kernel)⟩
theorem lw_p79 : lw_okq (⟨"KeyMatrixModel", "chords", "(III)V"⟩, 33) := ⟨⟨by decide +kernel, by decide +kernel⟩, List.mem_of_getElem? (i := 1033) (by decide +kernel), List.mem_of_getElem? (i := 1389) (by decide +kernel), List.mem_of_getElem? (i := 1390) (by decide +kernel)⟩
def lw_privs_5 : List (MethodName × Nat) := [(⟨"KeyMatrixModel", "keyAt", "(I)I"⟩, 33), (⟨"KeyMatrixModel", "isDownAt", "(I)Z"⟩, 33), (⟨"KeyMatrixModel", "drops", "(I)V"⟩, 33), (⟨"KeyMatrixModel", "ends", "(I)V"⟩, 33), (⟨"KeyMatrixModel", "chordOf", "(I)I"⟩, 33), (⟨"KeyMatrixModel", "stops", "(I)V"⟩, 33), (⟨"KeyMatrixModel", "reports", "()V"⟩, 33), (⟨"KeyMatrixModel", "laysSent", "()V"⟩, 33), (⟨"KeyMatrixModel", "nextBegun", "(I)I"⟩, 33), (⟨"KeyMatrixModel", "adds", "(I)V"⟩, 33), (⟨"KeyMatrixModel", "isLatest", "(I)Z"⟩, 33), (⟨"KeyMatrixModel", "reportAt", "(I)I"⟩, 33), (⟨"KeyMatrixModel", "hears", "(I)V"⟩, 33), (⟨"KeyMatrixModel", "reportHas", "(II)Z"⟩, 33), (⟨"KeyMatrixModel", "timeAt", "(I)I"⟩, 33), (⟨"KeyMatrixModel", "chords", "(III)V"⟩, 33)]
theorem lw_r5 : ∀ q ∈ lw_privs_5, lw_okq q := List.forall_mem_cons.mpr ⟨lw_p64, List.forall_mem_cons.mpr ⟨lw_p65, List.forall_mem_cons.mpr ⟨lw_p66, List.forall_mem_cons.mpr ⟨lw_p67, List.forall_mem_cons.mpr ⟨lw_p68, List.forall_mem_cons.mpr ⟨lw_p69, List.forall_mem_cons.mpr ⟨lw_p70, List.forall_mem_cons.mpr ⟨lw_p71, List.forall_mem_cons.mpr ⟨lw_p72, List.forall_mem_cons.mpr ⟨lw_p73, List.forall_mem_cons.mpr ⟨lw_p74, List.forall_mem_cons.mpr ⟨lw_p75, List.forall_mem_cons.mpr ⟨lw_p76, List.forall_mem_cons.mpr ⟨lw_p77, List.forall_mem_cons.mpr ⟨lw_p78, List.forall_mem_cons.mpr ⟨lw_p79, fun _ h => absurd h List.not_mem_nil⟩⟩⟩⟩⟩⟩⟩⟩⟩⟩⟩⟩⟩⟩⟩⟩
theorem lw_p80 : lw_okq (⟨"KeyMatrixModel", "plays", "(I)V"⟩, 33) := ⟨⟨by decide +kernel, by decide +kernel⟩, List.mem_of_getElem? (i := 1033) (by decide +kernel), List.mem_of_getElem? (i := 1393) (by decide +kernel), List.mem_of_getElem? (i := 1394) (by decide +kernel)⟩
theorem lw_p81 : lw_okq (⟨"KeyMatrixModel", "begin", "(III)V"⟩, 33) := ⟨⟨by decide +kernel, by decide +kernel⟩, List.mem_of_getElem? (i := 1033) (by decide +kernel), List.mem_of_getElem? (i := 1397) (by decide +kernel), List.mem_of_getElem? (i := 1398) (by decide +kernel)⟩
theorem lw_p82 : lw_okq (⟨"KeyMatrixModel", "worksAlone", "(II)Z"⟩, 33) := ⟨⟨by decide +kernel, by decide +kernel⟩, List.mem_of_getElem? (i := 1033) (by decide +kernel), List.mem_of_getElem? (i := 1401) (by decide +kernel), List.mem_of_getElem? (i := 1402) (by decide +kernel)⟩
theorem lw_p83 : lw_okq (⟨"KeyMatrixModel", "heldOrTapped", "(II)I"⟩, 33) := ⟨⟨by decide +kernel, by decide +kernel⟩, List.mem_of_getElem? (i := 1033) (by decide +kernel), List.mem_of_getElem? (i := 1405) (by decide +kernel), List.mem_of_getElem? (i := 1406) (by decide +kernel)⟩
theorem lw_p84 : lw_okq (⟨"KeyMatrixModel", "onceOrTwice", "(II)I"⟩, 33) := ⟨⟨by decide +kernel, by decide +kernel⟩, List.mem_of_getElem? (i := 1033) (by decide +kernel), List.mem_of_getElem? (i := 1409) (by decide +kernel), List.mem_of_getElem? (i := 1410) (by decide +kernel)⟩
theorem lw_p85 : lw_okq (⟨"KeyMatrixModel", "dropsTwo", "(I)V"⟩, 33) := ⟨⟨by decide +kernel, by decide +kernel⟩, List.mem_of_getElem? (i := 1033) (by decide +kernel), List.mem_of_getElem? (i := 1413) (by decide +kernel), List.mem_of_getElem? (i := 1414) (by decide +kernel)⟩
theorem lw_p86 : lw_okq (⟨"KeyMatrixModel", "doesPlainly", "(III)V"⟩, 33) := ⟨⟨by decide +kernel, by decide +kernel⟩, List.mem_of_getElem? (i := 1033) (by decide +kernel), List.mem_of_getElem? (i := 1417) (by decide +kernel), List.mem_of_getElem? (i := 1418) (by decide +kernel)⟩
theorem lw_p87 : lw_okq (⟨"KeyMatrixModel", "repeats", "()V"⟩, 33) := ⟨⟨by decide +kernel, by decide +kernel⟩, List.mem_of_getElem? (i := 1033) (by decide +kernel), List.mem_of_getElem? (i := 1423) (by decide +kernel), List.mem_of_getElem? (i := 1424) (by decide +kernel)⟩
theorem lw_p88 : lw_okq (⟨"KeyMatrixModel", "reportsKept", "()I"⟩, 33) := ⟨⟨by decide +kernel, by decide +kernel⟩, List.mem_of_getElem? (i := 1033) (by decide +kernel), List.mem_of_getElem? (i := 1448) (by decide +kernel), List.mem_of_getElem? (i := 1449) (by decide +kernel)⟩
def lw_privs_6 : List (MethodName × Nat) := [(⟨"KeyMatrixModel", "plays", "(I)V"⟩, 33), (⟨"KeyMatrixModel", "begin", "(III)V"⟩, 33), (⟨"KeyMatrixModel", "worksAlone", "(II)Z"⟩, 33), (⟨"KeyMatrixModel", "heldOrTapped", "(II)I"⟩, 33), (⟨"KeyMatrixModel", "onceOrTwice", "(II)I"⟩, 33), (⟨"KeyMatrixModel", "dropsTwo", "(I)V"⟩, 33), (⟨"KeyMatrixModel", "doesPlainly", "(III)V"⟩, 33), (⟨"KeyMatrixModel", "repeats", "()V"⟩, 33), (⟨"KeyMatrixModel", "reportsKept", "()I"⟩, 33)]
theorem lw_r6 : ∀ q ∈ lw_privs_6, lw_okq q := List.forall_mem_cons.mpr ⟨lw_p80, List.forall_mem_cons.mpr ⟨lw_p81, List.forall_mem_cons.mpr ⟨lw_p82, List.forall_mem_cons.mpr ⟨lw_p83, List.forall_mem_cons.mpr ⟨lw_p84, List.forall_mem_cons.mpr ⟨lw_p85, List.forall_mem_cons.mpr ⟨lw_p86, List.forall_mem_cons.mpr ⟨lw_p87, List.forall_mem_cons.mpr ⟨lw_p88, fun _ h => absurd h List.not_mem_nil⟩⟩⟩⟩⟩⟩⟩⟩⟩
def lw_privs : List (MethodName × Nat) := lw_privs_1 ++ (lw_privs_2 ++ (lw_privs_3 ++ (lw_privs_4 ++ (lw_privs_5 ++ (lw_privs_6)))))
def lw_tbl : List Cond := k2_sels lw_privs ++ tables_1
theorem lw_privs_ok : ∀ q ∈ lw_privs, lw_okq q := by
  show ∀ q ∈ lw_privs_1 ++ (lw_privs_2 ++ (lw_privs_3 ++ (lw_privs_4 ++ (lw_privs_5 ++ (lw_privs_6))))), lw_okq q
  exact List.forall_mem_append.mpr ⟨lw_r1, List.forall_mem_append.mpr ⟨lw_r2, List.forall_mem_append.mpr ⟨lw_r3, List.forall_mem_append.mpr ⟨lw_r4, List.forall_mem_append.mpr ⟨lw_r5, lw_r6⟩⟩⟩⟩⟩
/-- the streams that the claim lets the run draw from -/
abbrev lw_cs : List Choice := [Jvm.Choice.named "NaN.bits"]
theorem lw_bits : nanBits ∈ lw_cs := by first | decide | exact List.mem_cons_self | simp [lw_cs, nanBits]
-- ===== end of PART A; then your names; then what follows =====
/-! ===== BEGIN words of one list among another's, by their places ===== -/
theorem goodIn_r {big : List Cond} (ws : List Cond) (ps : List Nat) (hp : ws = ps.filterMap (fun i => big[i]?)) (h : ws.all goodWord = true) : GoodIn big ws := by
  intro w hw
  have h1 := List.all_eq_true.mp h w hw
  rw [hp] at hw
  obtain ⟨i, -, hi⟩ := List.mem_filterMap.mp hw
  have hm : w ∈ big := by first | exact List.mem_of_getElem? hi | exact List.getElem?_mem hi
  exact ⟨hm, good_of_word h1⟩
theorem goodIn_app {big a b : List Cond} (ha : GoodIn big a) (hb : GoodIn big b) : GoodIn big (a ++ b) := fun w h => (List.mem_append.mp h).elim (ha w) (hb w)
theorem goodIn_ca {big a b : List Cond} {c : Cond} (ha : GoodIn big (c :: a)) (hb : GoodIn big b) : GoodIn big (c :: (a ++ b)) := fun w h => (List.mem_cons.mp h).elim (fun e => ha w (List.mem_cons.mpr (Or.inl e))) (fun h => (List.mem_append.mp h).elim (fun h => ha w (List.mem_cons.mpr (Or.inr h))) (hb w))
theorem goodIn_sub {big ws : List Cond} (hm : ∀ w ∈ ws, w ∈ big) (h : ws.all goodWord = true) : GoodIn big ws := fun w hw => ⟨hm w hw, good_of_word (List.all_eq_true.mp h w hw)⟩
/-! ===== END ===== -/

/-! ===== BEGIN printed: names, fields, word lists, decode rows ===== -/
def RX0 : String := "KeyMatrix$Board"
def TX0 : u_T := fun k => match k with
  | 0 => ("KeyMatrix$Board", "rows", "I", false)
  | 1 => ("KeyMatrix$Board", "columns", "I", false)
  | 2 => ("KeyMatrix$Board", "diodes", "Z", false)
  | 3 => ("KeyMatrix$Board", "six", "Z", false)
  | 4 => ("KeyMatrix$Board", "bounce", "I", false)
  | 5 => ("KeyMatrix$Board", "term", "I", false)
  | 6 => ("KeyMatrix$Board", "chording", "I", false)
  | 7 => ("KeyMatrix$Board", "twice", "I", false)
  | 8 => ("KeyMatrix$Board", "delay", "I", false)
  | 9 => ("KeyMatrix$Board", "rate", "I", false)
  | 10 => ("KeyMatrix$Board", "deeds", "[LKeyMatrix$Deed;", true)
  | 11 => ("KeyMatrix$Board", "nothing", "LKeyMatrix$Deed;", true)
  | 12 => ("KeyMatrix$Board", "chordCount", "I", false)
  | 13 => ("KeyMatrix$Board", "chordFirst", "[I", true)
  | 14 => ("KeyMatrix$Board", "chordOther", "[I", true)
  | 15 => ("KeyMatrix$Board", "chordDeeds", "[LKeyMatrix$Deed;", true)
  | 16 => ("KeyMatrix$Board", "macroCount", "I", false)
  | 17 => ("KeyMatrix$Board", "macroLengths", "[I", true)
  | _ => ("KeyMatrix$Board", "macroCodes", "[I", true)
def tyX0 : Nat → FieldType := fun k => match k with
  | 0 => .int
  | 1 => .int
  | 2 => .boolean
  | 3 => .boolean
  | 4 => .int
  | 5 => .int
  | 6 => .int
  | 7 => .int
  | 8 => .int
  | 9 => .int
  | 10 => .array (.object "KeyMatrix$Deed")
  | 11 => .object "KeyMatrix$Deed"
  | 12 => .int
  | 13 => .array .int
  | 14 => .array .int
  | 15 => .array (.object "KeyMatrix$Deed")
  | 16 => .int
  | 17 => .array .int
  | _ => .array .int
abbrev wsX00 : List Cond := u_ws RX0 TX0 19
theorem nmX0 : ∀ a, a < 19 → ∀ b, b < 19 → a ≠ b → (TX0 a).2.1 ≠ (TX0 b).2.1 := by decide +kernel
theorem tyX0_ok : ∀ k, k < 19 → parseFieldDescriptor (TX0 k).2.2.1 = some (tyX0 k) := by decide +kernel
abbrev cX0_init : ByteArray := prog_2_method_1_code
def yX0_init : MethodName := ⟨RX0, "<init>", "()V"⟩
abbrev cX0_clear : ByteArray := prog_2_method_2_code
def yX0_clear : MethodName := ⟨RX0, "clear", "()V"⟩
abbrev cX0_copyFrom : ByteArray := prog_2_method_3_code
def yX0_copyFrom : MethodName := ⟨RX0, "copyFrom", "(LKeyMatrix$Board;)V"⟩
abbrev cX0_keys : ByteArray := prog_2_method_4_code
def yX0_keys : MethodName := ⟨RX0, "keys", "()I"⟩
abbrev cX0_hasKey : ByteArray := prog_2_method_5_code
def yX0_hasKey : MethodName := ⟨RX0, "hasKey", "(I)Z"⟩
abbrev cX0_toldDeed : ByteArray := prog_2_method_6_code
def yX0_toldDeed : MethodName := ⟨RX0, "toldDeed", "(II)LKeyMatrix$Deed;"⟩
abbrev cX0_deedIn : ByteArray := prog_2_method_7_code
def yX0_deedIn : MethodName := ⟨RX0, "deedIn", "(II)LKeyMatrix$Deed;"⟩
abbrev cX0_addChord : ByteArray := prog_2_method_8_code
def yX0_addChord : MethodName := ⟨RX0, "addChord", "(IILKeyMatrix$Deed;)V"⟩
abbrev cX0_chordOf : ByteArray := prog_2_method_9_code
def yX0_chordOf : MethodName := ⟨RX0, "chordOf", "(I)I"⟩
abbrev cX0_chordDeed : ByteArray := prog_2_method_10_code
def yX0_chordDeed : MethodName := ⟨RX0, "chordDeed", "(I)LKeyMatrix$Deed;"⟩
abbrev cX0_addMacro : ByteArray := prog_2_method_11_code
def yX0_addMacro : MethodName := ⟨RX0, "addMacro", "(I)V"⟩
abbrev cX0_addMacroCode : ByteArray := prog_2_method_12_code
def yX0_addMacroCode : MethodName := ⟨RX0, "addMacroCode", "(I)V"⟩
abbrev cX0_macroCode : ByteArray := prog_2_method_13_code
def yX0_macroCode : MethodName := ⟨RX0, "macroCode", "(II)I"⟩
def RX1 : String := "KeyMatrix$Course"
def TX1 : u_T := fun k => match k with
  | 0 => ("KeyMatrix$Course", "board", "LKeyMatrix$Board;", true)
  | 1 => ("KeyMatrix$Course", "scan", "LKeyMatrix$Scan;", true)
  | 2 => ("KeyMatrix$Course", "queue", "LKeyMatrix$Queue;", true)
  | 3 => ("KeyMatrix$Course", "doing", "LKeyMatrix$Doing;", true)
  | 4 => ("KeyMatrix$Course", "reports", "LKeyMatrix$Reports;", true)
  | _ => ("KeyMatrix$Course", "now", "I", false)
def tyX1 : Nat → FieldType := fun k => match k with
  | 0 => .object "KeyMatrix$Board"
  | 1 => .object "KeyMatrix$Scan"
  | 2 => .object "KeyMatrix$Queue"
  | 3 => .object "KeyMatrix$Doing"
  | 4 => .object "KeyMatrix$Reports"
  | _ => .int
abbrev wsX10 : List Cond := u_ws RX1 TX1 6
theorem nmX1 : ∀ a, a < 6 → ∀ b, b < 6 → a ≠ b → (TX1 a).2.1 ≠ (TX1 b).2.1 := by decide +kernel
theorem tyX1_ok : ∀ k, k < 6 → parseFieldDescriptor (TX1 k).2.2.1 = some (tyX1 k) := by decide +kernel
abbrev cX1_init : ByteArray := prog_3_method_1_code
def yX1_init : MethodName := ⟨RX1, "<init>", "(LKeyMatrix$Board;)V"⟩
abbrev cX1_clear : ByteArray := prog_3_method_2_code
def yX1_clear : MethodName := ⟨RX1, "clear", "()V"⟩
abbrev cX1_copyFrom : ByteArray := prog_3_method_3_code
def yX1_copyFrom : MethodName := ⟨RX1, "copyFrom", "(LKeyMatrix$Course;)V"⟩
abbrev cX1_activeLayers : ByteArray := prog_3_method_4_code
def yX1_activeLayers : MethodName := ⟨RX1, "activeLayers", "()I"⟩
abbrev cX1_passTick : ByteArray := prog_3_method_5_code
def yX1_passTick : MethodName := ⟨RX1, "passTick", "()V"⟩
abbrev cX1_fateOfFirst : ByteArray := prog_3_method_6_code
def yX1_fateOfFirst : MethodName := ⟨RX1, "fateOfFirst", "()I"⟩
abbrev cX1_fateOfHold : ByteArray := prog_3_method_7_code
def yX1_fateOfHold : MethodName := ⟨RX1, "fateOfHold", "(II)I"⟩
abbrev cX1_fateOfDouble : ByteArray := prog_3_method_8_code
def yX1_fateOfDouble : MethodName := ⟨RX1, "fateOfDouble", "(II)I"⟩
abbrev cX1_workOff : ByteArray := prog_3_method_9_code
def yX1_workOff : MethodName := ⟨RX1, "workOff", "(I)V"⟩
abbrev cX1_perform : ByteArray := prog_3_method_10_code
def yX1_perform : MethodName := ⟨RX1, "perform", "(IIII)V"⟩
abbrev cX1_send : ByteArray := prog_3_method_11_code
def yX1_send : MethodName := ⟨RX1, "send", "(I)V"⟩
def RX2 : String := "KeyMatrix$Deed"
def TX2 : u_T := fun k => match k with
  | 0 => ("KeyMatrix$Deed", "kind", "I", false)
  | 1 => ("KeyMatrix$Deed", "first", "I", false)
  | _ => ("KeyMatrix$Deed", "second", "I", false)
def tyX2 : Nat → FieldType := fun k => match k with
  | 0 => .int
  | 1 => .int
  | _ => .int
abbrev wsX20 : List Cond := u_ws RX2 TX2 3
theorem nmX2 : ∀ a, a < 3 → ∀ b, b < 3 → a ≠ b → (TX2 a).2.1 ≠ (TX2 b).2.1 := by decide +kernel
theorem tyX2_ok : ∀ k, k < 3 → parseFieldDescriptor (TX2 k).2.2.1 = some (tyX2 k) := by decide +kernel
abbrev cX2_init : ByteArray := prog_4_method_1_code
def yX2_init : MethodName := ⟨RX2, "<init>", "()V"⟩
abbrev cX2_tell : ByteArray := prog_4_method_2_code
def yX2_tell : MethodName := ⟨RX2, "tell", "(III)V"⟩
abbrev cX2_copyFrom : ByteArray := prog_4_method_3_code
def yX2_copyFrom : MethodName := ⟨RX2, "copyFrom", "(LKeyMatrix$Deed;)V"⟩
def RX3 : String := "KeyMatrix$Doing"
def TX3 : u_T := fun k => match k with
  | 0 => ("KeyMatrix$Doing", "kind", "[I", true)
  | 1 => ("KeyMatrix$Doing", "which", "[I", true)
  | 2 => ("KeyMatrix$Doing", "partner", "[I", true)
  | 3 => ("KeyMatrix$Doing", "order", "[I", true)
  | 4 => ("KeyMatrix$Doing", "busy", "I", false)
  | 5 => ("KeyMatrix$Doing", "toggled", "I", false)
  | 6 => ("KeyMatrix$Doing", "mods", "I", false)
  | 7 => ("KeyMatrix$Doing", "codes", "[I", true)
  | _ => ("KeyMatrix$Doing", "codeCount", "I", false)
def tyX3 : Nat → FieldType := fun k => match k with
  | 0 => .array .int
  | 1 => .array .int
  | 2 => .array .int
  | 3 => .array .int
  | 4 => .int
  | 5 => .int
  | 6 => .int
  | 7 => .array .int
  | _ => .int
abbrev wsX30 : List Cond := u_ws RX3 TX3 9
theorem nmX3 : ∀ a, a < 9 → ∀ b, b < 9 → a ≠ b → (TX3 a).2.1 ≠ (TX3 b).2.1 := by decide +kernel
theorem tyX3_ok : ∀ k, k < 9 → parseFieldDescriptor (TX3 k).2.2.1 = some (tyX3 k) := by decide +kernel
abbrev cX3_init : ByteArray := prog_5_method_1_code
def yX3_init : MethodName := ⟨RX3, "<init>", "()V"⟩
abbrev cX3_clear : ByteArray := prog_5_method_2_code
def yX3_clear : MethodName := ⟨RX3, "clear", "()V"⟩
abbrev cX3_copyFrom : ByteArray := prog_5_method_3_code
def yX3_copyFrom : MethodName := ⟨RX3, "copyFrom", "(LKeyMatrix$Doing;)V"⟩
abbrev cX3_begin : ByteArray := prog_5_method_4_code
def yX3_begin : MethodName := ⟨RX3, "begin", "(IIII)V"⟩
abbrev cX3_end : ByteArray := prog_5_method_5_code
def yX3_end : MethodName := ⟨RX3, "end", "(I)V"⟩
abbrev cX3_drop : ByteArray := prog_5_method_6_code
def yX3_drop : MethodName := ⟨RX3, "drop", "(I)V"⟩
abbrev cX3_gather : ByteArray := prog_5_method_7_code
def yX3_gather : MethodName := ⟨RX3, "gather", "(I)V"⟩
abbrev cX3_addCode : ByteArray := prog_5_method_8_code
def yX3_addCode : MethodName := ⟨RX3, "addCode", "(I)V"⟩
abbrev cX3_sends : ByteArray := prog_5_method_9_code
def yX3_sends : MethodName := ⟨RX3, "sends", "(I)Z"⟩
def RX4 : String := "KeyMatrix$Queue"
def TX4 : u_T := fun k => match k with
  | 0 => ("KeyMatrix$Queue", "events", "[I", true)
  | 1 => ("KeyMatrix$Queue", "size", "I", false)
  | _ => ("KeyMatrix$Queue", "total", "I", false)
def tyX4 : Nat → FieldType := fun k => match k with
  | 0 => .array .int
  | 1 => .int
  | _ => .int
abbrev wsX40 : List Cond := u_ws RX4 TX4 3
theorem nmX4 : ∀ a, a < 3 → ∀ b, b < 3 → a ≠ b → (TX4 a).2.1 ≠ (TX4 b).2.1 := by decide +kernel
theorem tyX4_ok : ∀ k, k < 3 → parseFieldDescriptor (TX4 k).2.2.1 = some (tyX4 k) := by decide +kernel
abbrev cX4_init : ByteArray := prog_6_method_1_code
def yX4_init : MethodName := ⟨RX4, "<init>", "()V"⟩
abbrev cX4_clear : ByteArray := prog_6_method_2_code
def yX4_clear : MethodName := ⟨RX4, "clear", "()V"⟩
abbrev cX4_copyFrom : ByteArray := prog_6_method_3_code
def yX4_copyFrom : MethodName := ⟨RX4, "copyFrom", "(LKeyMatrix$Queue;)V"⟩
abbrev cX4_add : ByteArray := prog_6_method_4_code
def yX4_add : MethodName := ⟨RX4, "add", "(IZI)V"⟩
abbrev cX4_drop : ByteArray := prog_6_method_5_code
def yX4_drop : MethodName := ⟨RX4, "drop", "(I)V"⟩
abbrev cX4_dropNext : ByteArray := prog_6_method_6_code
def yX4_dropNext : MethodName := ⟨RX4, "dropNext", "(IZ)V"⟩
abbrev cX4_keyAt : ByteArray := prog_6_method_7_code
def yX4_keyAt : MethodName := ⟨RX4, "keyAt", "(I)I"⟩
abbrev cX4_isDownAt : ByteArray := prog_6_method_8_code
def yX4_isDownAt : MethodName := ⟨RX4, "isDownAt", "(I)Z"⟩
abbrev cX4_tickAt : ByteArray := prog_6_method_9_code
def yX4_tickAt : MethodName := ⟨RX4, "tickAt", "(I)I"⟩
def RX5 : String := "KeyMatrix$Reports"
def TX5 : u_T := fun k => match k with
  | 0 => ("KeyMatrix$Reports", "ticks", "[I", true)
  | 1 => ("KeyMatrix$Reports", "mods", "[I", true)
  | 2 => ("KeyMatrix$Reports", "counts", "[I", true)
  | 3 => ("KeyMatrix$Reports", "codes", "[I", true)
  | 4 => ("KeyMatrix$Reports", "total", "I", false)
  | 5 => ("KeyMatrix$Reports", "latest", "I", false)
  | 6 => ("KeyMatrix$Reports", "since", "I", false)
  | 7 => ("KeyMatrix$Reports", "repeats", "I", false)
  | _ => ("KeyMatrix$Reports", "repeatsOfLatest", "I", false)
def tyX5 : Nat → FieldType := fun k => match k with
  | 0 => .array .int
  | 1 => .array .int
  | 2 => .array .int
  | 3 => .array .int
  | 4 => .int
  | 5 => .int
  | 6 => .int
  | 7 => .int
  | _ => .int
abbrev wsX50 : List Cond := u_ws RX5 TX5 9
theorem nmX5 : ∀ a, a < 9 → ∀ b, b < 9 → a ≠ b → (TX5 a).2.1 ≠ (TX5 b).2.1 := by decide +kernel
theorem tyX5_ok : ∀ k, k < 9 → parseFieldDescriptor (TX5 k).2.2.1 = some (tyX5 k) := by decide +kernel
abbrev cX5_init : ByteArray := prog_7_method_1_code
def yX5_init : MethodName := ⟨RX5, "<init>", "()V"⟩
abbrev cX5_clear : ByteArray := prog_7_method_2_code
def yX5_clear : MethodName := ⟨RX5, "clear", "()V"⟩
abbrev cX5_copyFrom : ByteArray := prog_7_method_3_code
def yX5_copyFrom : MethodName := ⟨RX5, "copyFrom", "(LKeyMatrix$Reports;)V"⟩
abbrev cX5_rowOf : ByteArray := prog_7_method_4_code
def yX5_rowOf : MethodName := ⟨RX5, "rowOf", "(I)I"⟩
abbrev cX5_codeAt : ByteArray := prog_7_method_5_code
def yX5_codeAt : MethodName := ⟨RX5, "codeAt", "(II)I"⟩
abbrev cX5_reportIfUnlike : ByteArray := prog_7_method_6_code
def yX5_reportIfUnlike : MethodName := ⟨RX5, "reportIfUnlike", "(LKeyMatrix$Doing;ZI)V"⟩
abbrev cX5_isAlike : ByteArray := prog_7_method_7_code
def yX5_isAlike : MethodName := ⟨RX5, "isAlike", "(ILKeyMatrix$Doing;Z)Z"⟩
abbrev cX5_renewLatest : ByteArray := prog_7_method_8_code
def yX5_renewLatest : MethodName := ⟨RX5, "renewLatest", "(ILKeyMatrix$Doing;ZI)V"⟩
abbrev cX5_makeLatest : ByteArray := prog_7_method_9_code
def yX5_makeLatest : MethodName := ⟨RX5, "makeLatest", "(II)V"⟩
abbrev cX5_hasCode : ByteArray := prog_7_method_10_code
def yX5_hasCode : MethodName := ⟨RX5, "hasCode", "(II)Z"⟩
abbrev cX5_repeatLatest : ByteArray := prog_7_method_11_code
def yX5_repeatLatest : MethodName := ⟨RX5, "repeatLatest", "(III)V"⟩
def RX6 : String := "KeyMatrix$Scan"
def TX6 : u_T := fun k => match k with
  | 0 => ("KeyMatrix$Scan", "closed", "I", false)
  | 1 => ("KeyMatrix$Scan", "seen", "I", false)
  | 2 => ("KeyMatrix$Scan", "barred", "I", false)
  | 3 => ("KeyMatrix$Scan", "down", "I", false)
  | 4 => ("KeyMatrix$Scan", "unlike", "[I", true)
  | 5 => ("KeyMatrix$Scan", "steady", "[F", true)
  | 6 => ("KeyMatrix$Scan", "strokes", "[I", true)
  | 7 => ("KeyMatrix$Scan", "longest", "[I", true)
  | _ => ("KeyMatrix$Scan", "lastEvent", "[I", true)
def tyX6 : Nat → FieldType := fun k => match k with
  | 0 => .int
  | 1 => .int
  | 2 => .int
  | 3 => .int
  | 4 => .array .int
  | 5 => .array .float
  | 6 => .array .int
  | 7 => .array .int
  | _ => .array .int
abbrev wsX60 : List Cond := u_ws RX6 TX6 9
theorem nmX6 : ∀ a, a < 9 → ∀ b, b < 9 → a ≠ b → (TX6 a).2.1 ≠ (TX6 b).2.1 := by decide +kernel
theorem tyX6_ok : ∀ k, k < 9 → parseFieldDescriptor (TX6 k).2.2.1 = some (tyX6 k) := by decide +kernel
abbrev cX6_init : ByteArray := prog_8_method_1_code
def yX6_init : MethodName := ⟨RX6, "<init>", "()V"⟩
abbrev cX6_clear : ByteArray := prog_8_method_2_code
def yX6_clear : MethodName := ⟨RX6, "clear", "()V"⟩
abbrev cX6_copyFrom : ByteArray := prog_8_method_3_code
def yX6_copyFrom : MethodName := ⟨RX6, "copyFrom", "(LKeyMatrix$Scan;)V"⟩
abbrev cX6_weighSteady : ByteArray := prog_8_method_4_code
def yX6_weighSteady : MethodName := ⟨RX6, "weighSteady", "(I)V"⟩
abbrev cX6_changes : ByteArray := prog_8_method_5_code
def yX6_changes : MethodName := ⟨RX6, "changes", "(II)Z"⟩
abbrev cX6_change : ByteArray := prog_8_method_6_code
def yX6_change : MethodName := ⟨RX6, "change", "(II)V"⟩
def RX7 : String := "KeyMatrix$TextReader"
def TX7 : u_T := fun k => match k with
  | 0 => ("KeyMatrix$TextReader", "tokens", "LKeyMatrix$Tokens;", true)
  | 1 => ("KeyMatrix$TextReader", "told", "LKeyMatrix$Deed;", true)
  | 2 => ("KeyMatrix$TextReader", "draft", "LKeyMatrix$Board;", true)
  | 3 => ("KeyMatrix$TextReader", "at", "I", false)
  | 4 => ("KeyMatrix$TextReader", "number", "I", false)
  | 5 => ("KeyMatrix$TextReader", "fault", "I", false)
  | 6 => ("KeyMatrix$TextReader", "faultToken", "I", false)
  | 7 => ("KeyMatrix$TextReader", "faultPlace", "I", false)
  | 8 => ("KeyMatrix$TextReader", "laterFault", "I", false)
  | _ => ("KeyMatrix$TextReader", "laterToken", "I", false)
def tyX7 : Nat → FieldType := fun k => match k with
  | 0 => .object "KeyMatrix$Tokens"
  | 1 => .object "KeyMatrix$Deed"
  | 2 => .object "KeyMatrix$Board"
  | 3 => .int
  | 4 => .int
  | 5 => .int
  | 6 => .int
  | 7 => .int
  | 8 => .int
  | _ => .int
abbrev wsX70 : List Cond := u_ws RX7 TX7 10
theorem nmX7 : ∀ a, a < 10 → ∀ b, b < 10 → a ≠ b → (TX7 a).2.1 ≠ (TX7 b).2.1 := by decide +kernel
theorem tyX7_ok : ∀ k, k < 10 → parseFieldDescriptor (TX7 k).2.2.1 = some (tyX7 k) := by decide +kernel
abbrev cX7_init : ByteArray := prog_9_method_1_code
def yX7_init : MethodName := ⟨RX7, "<init>", "()V"⟩
abbrev cX7_readTape : ByteArray := prog_9_method_2_code
def yX7_readTape : MethodName := ⟨RX7, "readTape", "([BI)I"⟩
abbrev cX7_takeBoard : ByteArray := prog_9_method_3_code
def yX7_takeBoard : MethodName := ⟨RX7, "takeBoard", "()Z"⟩
abbrev cX7_takeLine : ByteArray := prog_9_method_4_code
def yX7_takeLine : MethodName := ⟨RX7, "takeLine", "()Z"⟩
abbrev cX7_takeSetting : ByteArray := prog_9_method_5_code
def yX7_takeSetting : MethodName := ⟨RX7, "takeSetting", "(LKeyMatrix$Word;)Z"⟩
abbrev cX7_takeKey : ByteArray := prog_9_method_6_code
def yX7_takeKey : MethodName := ⟨RX7, "takeKey", "()Z"⟩
abbrev cX7_takeChord : ByteArray := prog_9_method_7_code
def yX7_takeChord : MethodName := ⟨RX7, "takeChord", "()Z"⟩
abbrev cX7_takeChordKey : ByteArray := prog_9_method_8_code
def yX7_takeChordKey : MethodName := ⟨RX7, "takeChordKey", "(I)Z"⟩
abbrev cX7_takeMacro : ByteArray := prog_9_method_9_code
def yX7_takeMacro : MethodName := ⟨RX7, "takeMacro", "()Z"⟩
abbrev cX7_takeDeed : ByteArray := prog_9_method_10_code
def yX7_takeDeed : MethodName := ⟨RX7, "takeDeed", "()Z"⟩
abbrev cX7_takeNumber : ByteArray := prog_9_method_11_code
def yX7_takeNumber : MethodName := ⟨RX7, "takeNumber", "(II)Z"⟩
abbrev cX7_takeToken : ByteArray := prog_9_method_12_code
def yX7_takeToken : MethodName := ⟨RX7, "takeToken", "(I)Z"⟩
abbrev cX7_fail : ByteArray := prog_9_method_13_code
def yX7_fail : MethodName := ⟨RX7, "fail", "(I)Z"⟩
abbrev cX7_noteLater : ByteArray := prog_9_method_14_code
def yX7_noteLater : MethodName := ⟨RX7, "noteLater", "(II)V"⟩
def RX8 : String := "KeyMatrix$Tokens"
def TX8 : u_T := fun k => match k with
  | 0 => ("KeyMatrix$Tokens", "kinds", "[I", true)
  | 1 => ("KeyMatrix$Tokens", "places", "[I", true)
  | 2 => ("KeyMatrix$Tokens", "numbers", "[I", true)
  | 3 => ("KeyMatrix$Tokens", "words", "[LKeyMatrix$Word;", true)
  | 4 => ("KeyMatrix$Tokens", "size", "I", false)
  | _ => ("KeyMatrix$Tokens", "end", "I", false)
def tyX8 : Nat → FieldType := fun k => match k with
  | 0 => .array .int
  | 1 => .array .int
  | 2 => .array .int
  | 3 => .array (.object "KeyMatrix$Word")
  | 4 => .int
  | _ => .int
abbrev wsX80 : List Cond := u_ws RX8 TX8 6
theorem nmX8 : ∀ a, a < 6 → ∀ b, b < 6 → a ≠ b → (TX8 a).2.1 ≠ (TX8 b).2.1 := by decide +kernel
theorem tyX8_ok : ∀ k, k < 6 → parseFieldDescriptor (TX8 k).2.2.1 = some (tyX8 k) := by decide +kernel
abbrev cX8_init : ByteArray := prog_10_method_1_code
def yX8_init : MethodName := ⟨RX8, "<init>", "()V"⟩
abbrev cX8_cut : ByteArray := prog_10_method_2_code
def yX8_cut : MethodName := ⟨RX8, "cut", "([BI)V"⟩
abbrev cX8_skipBlanks : ByteArray := prog_10_method_3_code
def yX8_skipBlanks : MethodName := ⟨RX8, "skipBlanks", "([BI)I"⟩
abbrev cX8_cutWord : ByteArray := prog_10_method_4_code
def yX8_cutWord : MethodName := ⟨RX8, "cutWord", "([BI)I"⟩
abbrev cX8_cutInt : ByteArray := prog_10_method_5_code
def yX8_cutInt : MethodName := ⟨RX8, "cutInt", "([BI)I"⟩
abbrev cX8_isSpelt : ByteArray := prog_10_method_6_code
def yX8_isSpelt : MethodName := ⟨RX8, "isSpelt", "(Ljava/lang/String;[BII)Z"⟩
abbrev cX8_isLetter : ByteArray := prog_10_method_7_code
def yX8_isLetter : MethodName := ⟨RX8, "isLetter", "(I)Z"⟩
abbrev cX8_isDigit : ByteArray := prog_10_method_8_code
def yX8_isDigit : MethodName := ⟨RX8, "isDigit", "(I)Z"⟩
abbrev cX8_kindAt : ByteArray := prog_10_method_9_code
def yX8_kindAt : MethodName := ⟨RX8, "kindAt", "(I)I"⟩
abbrev cX8_placeAt : ByteArray := prog_10_method_10_code
def yX8_placeAt : MethodName := ⟨RX8, "placeAt", "(I)I"⟩
abbrev cX8_numberAt : ByteArray := prog_10_method_11_code
def yX8_numberAt : MethodName := ⟨RX8, "numberAt", "(I)I"⟩
abbrev cX8_wordAt : ByteArray := prog_10_method_12_code
def yX8_wordAt : MethodName := ⟨RX8, "wordAt", "(I)LKeyMatrix$Word;"⟩
def RX9 : String := "KeyMatrix$Wiring"
def TX9 : u_T := fun k => match k with
  | 0 => ("KeyMatrix$Wiring", "partOf", "[I", true)
  | 1 => ("KeyMatrix$Wiring", "parts", "I", false)
  | 2 => ("KeyMatrix$Wiring", "seen", "I", false)
  | _ => ("KeyMatrix$Wiring", "barred", "I", false)
def tyX9 : Nat → FieldType := fun k => match k with
  | 0 => .array .int
  | 1 => .int
  | 2 => .int
  | _ => .int
abbrev wsX90 : List Cond := u_ws RX9 TX9 4
theorem nmX9 : ∀ a, a < 4 → ∀ b, b < 4 → a ≠ b → (TX9 a).2.1 ≠ (TX9 b).2.1 := by decide +kernel
theorem tyX9_ok : ∀ k, k < 4 → parseFieldDescriptor (TX9 k).2.2.1 = some (tyX9 k) := by decide +kernel
abbrev cX9_init : ByteArray := prog_11_method_1_code
def yX9_init : MethodName := ⟨RX9, "<init>", "()V"⟩
abbrev cX9_follow : ByteArray := prog_11_method_2_code
def yX9_follow : MethodName := ⟨RX9, "follow", "(LKeyMatrix$Board;I)V"⟩
abbrev cX9_join : ByteArray := prog_11_method_3_code
def yX9_join : MethodName := ⟨RX9, "join", "(LKeyMatrix$Board;I)V"⟩
abbrev cX9_bar : ByteArray := prog_11_method_4_code
def yX9_bar : MethodName := ⟨RX9, "bar", "(LKeyMatrix$Board;I)V"⟩
def RX10 : String := "KeyMatrix$Word"
def TX10 : u_T := fun k => match k with
  | _ => ("", "", "", false)
def tyX10 : Nat → FieldType := fun k => match k with
  | _ => .int
abbrev wsX100 : List Cond := u_ws RX10 TX10 0
theorem nmX10 : ∀ a, a < 0 → ∀ b, b < 0 → a ≠ b → (TX10 a).2.1 ≠ (TX10 b).2.1 := by decide +kernel
theorem tyX10_ok : ∀ k, k < 0 → parseFieldDescriptor (TX10 k).2.2.1 = some (tyX10 k) := by decide +kernel
def RX11 : String := "KeyMatrix"
def TX11 : u_T := fun k => match k with
  | 0 => ("KeyMatrix", "tape", "[B", true)
  | 1 => ("KeyMatrix", "tapeLength", "I", false)
  | 2 => ("KeyMatrix", "faultPlace", "I", false)
  | 3 => ("KeyMatrix", "reader", "LKeyMatrix$TextReader;", true)
  | 4 => ("KeyMatrix", "board", "LKeyMatrix$Board;", true)
  | 5 => ("KeyMatrix", "wiring", "LKeyMatrix$Wiring;", true)
  | 6 => ("KeyMatrix", "course", "LKeyMatrix$Course;", true)
  | 7 => ("KeyMatrix", "preview", "LKeyMatrix$Course;", true)
  | 8 => ("KeyMatrix", "slots", "[LKeyMatrix$Course;", true)
  | _ => ("KeyMatrix", "slotsHeld", "I", false)
def tyX11 : Nat → FieldType := fun k => match k with
  | 0 => .array .byte
  | 1 => .int
  | 2 => .int
  | 3 => .object "KeyMatrix$TextReader"
  | 4 => .object "KeyMatrix$Board"
  | 5 => .object "KeyMatrix$Wiring"
  | 6 => .object "KeyMatrix$Course"
  | 7 => .object "KeyMatrix$Course"
  | 8 => .array (.object "KeyMatrix$Course")
  | _ => .int
abbrev wsX110 : List Cond := u_ws RX11 TX11 10
theorem nmX11 : ∀ a, a < 10 → ∀ b, b < 10 → a ≠ b → (TX11 a).2.1 ≠ (TX11 b).2.1 := by decide +kernel
theorem tyX11_ok : ∀ k, k < 10 → parseFieldDescriptor (TX11 k).2.2.1 = some (tyX11 k) := by decide +kernel
abbrev cX11_init : ByteArray := prog_1_method_1_code
def yX11_init : MethodName := ⟨RX11, "<init>", "()V"⟩
abbrev cX11_feed : ByteArray := prog_1_method_2_code
def yX11_feed : MethodName := ⟨RX11, "feed", "(IIIII)I"⟩
abbrev cX11_appendFour : ByteArray := prog_1_method_3_code
def yX11_appendFour : MethodName := ⟨RX11, "appendFour", "(I)V"⟩
abbrev cX11_back : ByteArray := prog_1_method_4_code
def yX11_back : MethodName := ⟨RX11, "back", "(I)I"⟩
abbrev cX11_read : ByteArray := prog_1_method_5_code
def yX11_read : MethodName := ⟨RX11, "read", "()I"⟩
abbrev cX11_place : ByteArray := prog_1_method_6_code
def yX11_place : MethodName := ⟨RX11, "place", "()I"⟩
abbrev cX11_press : ByteArray := prog_1_method_7_code
def yX11_press : MethodName := ⟨RX11, "press", "(IZ)Z"⟩
abbrev cX11_tick : ByteArray := prog_1_method_8_code
def yX11_tick : MethodName := ⟨RX11, "tick", "(I)I"⟩
abbrev cX11_key : ByteArray := prog_1_method_9_code
def yX11_key : MethodName := ⟨RX11, "key", "(II)I"⟩
abbrev cX11_deed : ByteArray := prog_1_method_10_code
def yX11_deed : MethodName := ⟨RX11, "deed", "(III)I"⟩
abbrev cX11_does : ByteArray := prog_1_method_11_code
def yX11_does : MethodName := ⟨RX11, "does", "(II)I"⟩
abbrev cX11_event : ByteArray := prog_1_method_12_code
def yX11_event : MethodName := ⟨RX11, "event", "(II)I"⟩
abbrev cX11_report : ByteArray := prog_1_method_13_code
def yX11_report : MethodName := ⟨RX11, "report", "(II)I"⟩
abbrev cX11_sent : ByteArray := prog_1_method_14_code
def yX11_sent : MethodName := ⟨RX11, "sent", "(I)I"⟩
abbrev cX11_host : ByteArray := prog_1_method_15_code
def yX11_host : MethodName := ⟨RX11, "host", "(I)I"⟩
abbrev cX11_strokes : ByteArray := prog_1_method_16_code
def yX11_strokes : MethodName := ⟨RX11, "strokes", "(II)I"⟩
abbrev cX11_chord : ByteArray := prog_1_method_17_code
def yX11_chord : MethodName := ⟨RX11, "chord", "(II)I"⟩
abbrev cX11_macro : ByteArray := prog_1_method_18_code
def yX11_macro : MethodName := ⟨RX11, "macro", "(II)I"⟩
abbrev cX11_ghosts : ByteArray := prog_1_method_19_code
def yX11_ghosts : MethodName := ⟨RX11, "ghosts", "(II)I"⟩
abbrev cX11_ahead : ByteArray := prog_1_method_20_code
def yX11_ahead : MethodName := ⟨RX11, "ahead", "(II)I"⟩
abbrev cX11_hold : ByteArray := prog_1_method_21_code
def yX11_hold : MethodName := ⟨RX11, "hold", "(I)Z"⟩
abbrev cX11_restore : ByteArray := prog_1_method_22_code
def yX11_restore : MethodName := ⟨RX11, "restore", "(I)Z"⟩
abbrev cX11_count : ByteArray := prog_1_method_23_code
def yX11_count : MethodName := ⟨RX11, "count", "(I)I"⟩
abbrev cX11_setting : ByteArray := prog_1_method_24_code
def yX11_setting : MethodName := ⟨RX11, "setting", "(I)I"⟩
abbrev cX11_isIn : ByteArray := prog_1_method_25_code
def yX11_isIn : MethodName := ⟨RX11, "isIn", "(II)Z"⟩
abbrev cX11_bitOf : ByteArray := prog_1_method_26_code
def yX11_bitOf : MethodName := ⟨RX11, "bitOf", "(II)I"⟩
abbrev cX11_floatBits : ByteArray := prog_1_method_27_code
def yX11_floatBits : MethodName := ⟨RX11, "floatBits", "(F)I"⟩
def RX12 : String := "KeyMatrixModel"
def TX12 : u_T := fun k => match k with
  | 0 => ("KeyMatrixModel", "thrown", "I", false)
  | 1 => ("KeyMatrixModel", "tape", "[B", true)
  | 2 => ("KeyMatrixModel", "taped", "I", false)
  | 3 => ("KeyMatrixModel", "text", "[B", true)
  | 4 => ("KeyMatrixModel", "size", "I", false)
  | 5 => ("KeyMatrixModel", "tKind", "[I", true)
  | 6 => ("KeyMatrixModel", "tPlace", "[I", true)
  | 7 => ("KeyMatrixModel", "tValue", "[I", true)
  | 8 => ("KeyMatrixModel", "tName", "[J", true)
  | 9 => ("KeyMatrixModel", "keys", "[J", true)
  | 10 => ("KeyMatrixModel", "tokens", "I", false)
  | 11 => ("KeyMatrixModel", "t", "I", false)
  | 12 => ("KeyMatrixModel", "fault", "I", false)
  | 13 => ("KeyMatrixModel", "faultPlace", "I", false)
  | 14 => ("KeyMatrixModel", "worst", "I", false)
  | 15 => ("KeyMatrixModel", "worstPlace", "I", false)
  | 16 => ("KeyMatrixModel", "place", "I", false)
  | 17 => ("KeyMatrixModel", "now", "[I", true)
  | 18 => ("KeyMatrixModel", "draft", "[I", true)
  | 19 => ("KeyMatrixModel", "steady", "[F", true)
  | 20 => ("KeyMatrixModel", "chordLines", "I", false)
  | 21 => ("KeyMatrixModel", "macroLines", "I", false)
  | 22 => ("KeyMatrixModel", "isBoard", "Z", false)
  | 23 => ("KeyMatrixModel", "deedTold", "[I", true)
  | 24 => ("KeyMatrixModel", "partOf", "[I", true)
  | 25 => ("KeyMatrixModel", "sentMods", "I", false)
  | 26 => ("KeyMatrixModel", "sentMany", "I", false)
  | 27 => ("KeyMatrixModel", "sentCodes", "[I", true)
  | 28 => ("KeyMatrixModel", "aside", "[I", true)
  | 29 => ("KeyMatrixModel", "asideSteady", "[F", true)
  | 30 => ("KeyMatrixModel", "held", "[I", true)
  | 31 => ("KeyMatrixModel", "heldSteady", "[F", true)
  | _ => ("KeyMatrixModel", "isHeld", "[Z", true)
def tyX12 : Nat → FieldType := fun k => match k with
  | 0 => .int
  | 1 => .array .byte
  | 2 => .int
  | 3 => .array .byte
  | 4 => .int
  | 5 => .array .int
  | 6 => .array .int
  | 7 => .array .int
  | 8 => .array .long
  | 9 => .array .long
  | 10 => .int
  | 11 => .int
  | 12 => .int
  | 13 => .int
  | 14 => .int
  | 15 => .int
  | 16 => .int
  | 17 => .array .int
  | 18 => .array .int
  | 19 => .array .float
  | 20 => .int
  | 21 => .int
  | 22 => .boolean
  | 23 => .array .int
  | 24 => .array .int
  | 25 => .int
  | 26 => .int
  | 27 => .array .int
  | 28 => .array .int
  | 29 => .array .float
  | 30 => .array .int
  | 31 => .array .float
  | _ => .array .boolean
abbrev wsX120 : List Cond := u_ws RX12 TX12 33
theorem nmX12 : ∀ a, a < 33 → ∀ b, b < 33 → a ≠ b → (TX12 a).2.1 ≠ (TX12 b).2.1 := by decide +kernel
theorem tyX12_ok : ∀ k, k < 33 → parseFieldDescriptor (TX12 k).2.2.1 = some (tyX12 k) := by decide +kernel
abbrev cX12_init : ByteArray := prog_14_method_2_code
def yX12_init : MethodName := ⟨RX12, "<init>", "()V"⟩
abbrev cX12_feed : ByteArray := prog_14_method_3_code
def yX12_feed : MethodName := ⟨RX12, "feed", "(IIIII)I"⟩
abbrev cX12_lays : ByteArray := prog_14_method_4_code
def yX12_lays : MethodName := ⟨RX12, "lays", "(I)V"⟩
abbrev cX12_back : ByteArray := prog_14_method_5_code
def yX12_back : MethodName := ⟨RX12, "back", "(I)I"⟩
abbrev cX12_byteAt : ByteArray := prog_14_method_6_code
def yX12_byteAt : MethodName := ⟨RX12, "byteAt", "(I)I"⟩
abbrev cX12_isDigit : ByteArray := prog_14_method_7_code
def yX12_isDigit : MethodName := ⟨RX12, "isDigit", "(I)Z"⟩
abbrev cX12_isLetter : ByteArray := prog_14_method_8_code
def yX12_isLetter : MethodName := ⟨RX12, "isLetter", "(I)Z"⟩
abbrev cX12_appends : ByteArray := prog_14_method_9_code
def yX12_appends : MethodName := ⟨RX12, "appends", "(JI)J"⟩
abbrev cX12_letters : ByteArray := prog_14_method_10_code
def yX12_letters : MethodName := ⟨RX12, "letters", "(IIIIIII)J"⟩
abbrev cX12_token : ByteArray := prog_14_method_11_code
def yX12_token : MethodName := ⟨RX12, "token", "(IIIJ)V"⟩
abbrev cX12_cutsText : ByteArray := prog_14_method_12_code
def yX12_cutsText : MethodName := ⟨RX12, "cutsText", "()V"⟩
abbrev cX12_sign : ByteArray := prog_14_method_13_code
def yX12_sign : MethodName := ⟨RX12, "sign", "(II)I"⟩
abbrev cX12_is : ByteArray := prog_14_method_14_code
def yX12_is : MethodName := ⟨RX12, "is", "(I)Z"⟩
abbrev cX12_fail : ByteArray := prog_14_method_15_code
def yX12_fail : MethodName := ⟨RX12, "fail", "(I)V"⟩
abbrev cX12_wrong : ByteArray := prog_14_method_16_code
def yX12_wrong : MethodName := ⟨RX12, "wrong", "(II)V"⟩
abbrev cX12_passes : ByteArray := prog_14_method_17_code
def yX12_passes : MethodName := ⟨RX12, "passes", "()V"⟩
abbrev cX12_must : ByteArray := prog_14_method_18_code
def yX12_must : MethodName := ⟨RX12, "must", "(I)V"⟩
abbrev cX12_begins : ByteArray := prog_14_method_19_code
def yX12_begins : MethodName := ⟨RX12, "begins", "([I)V"⟩
abbrev cX12_startsAnew : ByteArray := prog_14_method_20_code
def yX12_startsAnew : MethodName := ⟨RX12, "startsAnew", "()V"⟩
abbrev cX12_read : ByteArray := prog_14_method_21_code
def yX12_read : MethodName := ⟨RX12, "read", "()I"⟩
abbrev cX12_place : ByteArray := prog_14_method_22_code
def yX12_place : MethodName := ⟨RX12, "place", "()I"⟩
abbrev cX12_tell : ByteArray := prog_14_method_23_code
def yX12_tell : MethodName := ⟨RX12, "tell", "()V"⟩
abbrev cX12_deedRead : ByteArray := prog_14_method_24_code
def yX12_deedRead : MethodName := ⟨RX12, "deedRead", "()V"⟩
abbrev cX12_within : ByteArray := prog_14_method_25_code
def yX12_within : MethodName := ⟨RX12, "within", "(III)I"⟩
abbrev cX12_means : ByteArray := prog_14_method_26_code
def yX12_means : MethodName := ⟨RX12, "means", "()V"⟩
abbrev cX12_meansLine : ByteArray := prog_14_method_27_code
def yX12_meansLine : MethodName := ⟨RX12, "meansLine", "(I)V"⟩
abbrev cX12_meansDeed : ByteArray := prog_14_method_28_code
def yX12_meansDeed : MethodName := ⟨RX12, "meansDeed", "(I)V"⟩
abbrev cX12_keyTold : ByteArray := prog_14_method_29_code
def yX12_keyTold : MethodName := ⟨RX12, "keyTold", "(I)I"⟩
abbrev cX12_meansKey : ByteArray := prog_14_method_30_code
def yX12_meansKey : MethodName := ⟨RX12, "meansKey", "(I)V"⟩
abbrev cX12_isChorded : ByteArray := prog_14_method_31_code
def yX12_isChorded : MethodName := ⟨RX12, "isChorded", "(I)Z"⟩
abbrev cX12_meansChord : ByteArray := prog_14_method_32_code
def yX12_meansChord : MethodName := ⟨RX12, "meansChord", "(I)V"⟩
abbrev cX12_meansMacro : ByteArray := prog_14_method_33_code
def yX12_meansMacro : MethodName := ⟨RX12, "meansMacro", "(I)V"⟩
abbrev cX12_in : ByteArray := prog_14_method_34_code
def yX12_in : MethodName := ⟨RX12, "in", "(III)Z"⟩
abbrev cX12_has : ByteArray := prog_14_method_35_code
def yX12_has : MethodName := ⟨RX12, "has", "(II)Z"⟩
abbrev cX12_bitsOf : ByteArray := prog_14_method_36_code
def yX12_bitsOf : MethodName := ⟨RX12, "bitsOf", "(I)I"⟩
abbrev cX12_keysMany : ByteArray := prog_14_method_37_code
def yX12_keysMany : MethodName := ⟨RX12, "keysMany", "()I"⟩
abbrev cX12_isKey : ByteArray := prog_14_method_38_code
def yX12_isKey : MethodName := ⟨RX12, "isKey", "(I)Z"⟩
abbrev cX12_laysParts : ByteArray := prog_14_method_39_code
def yX12_laysParts : MethodName := ⟨RX12, "laysParts", "(I)I"⟩
abbrev cX12_seenBy : ByteArray := prog_14_method_40_code
def yX12_seenBy : MethodName := ⟨RX12, "seenBy", "(I)I"⟩
abbrev cX12_barredBy : ByteArray := prog_14_method_41_code
def yX12_barredBy : MethodName := ⟨RX12, "barredBy", "(I)I"⟩
abbrev cX12_isCornered : ByteArray := prog_14_method_42_code
def yX12_isCornered : MethodName := ⟨RX12, "isCornered", "(III)Z"⟩
abbrev cX12_press : ByteArray := prog_14_method_43_code
def yX12_press : MethodName := ⟨RX12, "press", "(IZ)Z"⟩
abbrev cX12_ghosts : ByteArray := prog_14_method_44_code
def yX12_ghosts : MethodName := ⟨RX12, "ghosts", "(II)I"⟩
abbrev cX12_ticks : ByteArray := prog_14_method_45_code
def yX12_ticks : MethodName := ⟨RX12, "ticks", "()V"⟩
abbrev cX12_changes : ByteArray := prog_14_method_46_code
def yX12_changes : MethodName := ⟨RX12, "changes", "(I)V"⟩
abbrev cX12_keyAt : ByteArray := prog_14_method_47_code
def yX12_keyAt : MethodName := ⟨RX12, "keyAt", "(I)I"⟩
abbrev cX12_isDownAt : ByteArray := prog_14_method_48_code
def yX12_isDownAt : MethodName := ⟨RX12, "isDownAt", "(I)Z"⟩
abbrev cX12_timeAt : ByteArray := prog_14_method_49_code
def yX12_timeAt : MethodName := ⟨RX12, "timeAt", "(I)I"⟩
abbrev cX12_drops : ByteArray := prog_14_method_50_code
def yX12_drops : MethodName := ⟨RX12, "drops", "(I)V"⟩
abbrev cX12_chordOf : ByteArray := prog_14_method_51_code
def yX12_chordOf : MethodName := ⟨RX12, "chordOf", "(I)I"⟩
abbrev cX12_works : ByteArray := prog_14_method_52_code
def yX12_works : MethodName := ⟨RX12, "works", "()Z"⟩
abbrev cX12_worksAlone : ByteArray := prog_14_method_53_code
def yX12_worksAlone : MethodName := ⟨RX12, "worksAlone", "(II)Z"⟩
abbrev cX12_heldOrTapped : ByteArray := prog_14_method_54_code
def yX12_heldOrTapped : MethodName := ⟨RX12, "heldOrTapped", "(II)I"⟩
abbrev cX12_onceOrTwice : ByteArray := prog_14_method_55_code
def yX12_onceOrTwice : MethodName := ⟨RX12, "onceOrTwice", "(II)I"⟩
abbrev cX12_dropsTwo : ByteArray := prog_14_method_56_code
def yX12_dropsTwo : MethodName := ⟨RX12, "dropsTwo", "(I)V"⟩
abbrev cX12_begin : ByteArray := prog_14_method_57_code
def yX12_begin : MethodName := ⟨RX12, "begin", "(III)V"⟩
abbrev cX12_doesPlainly : ByteArray := prog_14_method_58_code
def yX12_doesPlainly : MethodName := ⟨RX12, "doesPlainly", "(III)V"⟩
abbrev cX12_chords : ByteArray := prog_14_method_59_code
def yX12_chords : MethodName := ⟨RX12, "chords", "(III)V"⟩
abbrev cX12_plays : ByteArray := prog_14_method_60_code
def yX12_plays : MethodName := ⟨RX12, "plays", "(I)V"⟩
abbrev cX12_ends : ByteArray := prog_14_method_61_code
def yX12_ends : MethodName := ⟨RX12, "ends", "(I)V"⟩
abbrev cX12_stops : ByteArray := prog_14_method_62_code
def yX12_stops : MethodName := ⟨RX12, "stops", "(I)V"⟩
abbrev cX12_activeLayers : ByteArray := prog_14_method_63_code
def yX12_activeLayers : MethodName := ⟨RX12, "activeLayers", "()I"⟩
abbrev cX12_layerOf : ByteArray := prog_14_method_64_code
def yX12_layerOf : MethodName := ⟨RX12, "layerOf", "(I)I"⟩
abbrev cX12_deed : ByteArray := prog_14_method_65_code
def yX12_deed : MethodName := ⟨RX12, "deed", "(III)I"⟩
abbrev cX12_adds : ByteArray := prog_14_method_66_code
def yX12_adds : MethodName := ⟨RX12, "adds", "(I)V"⟩
abbrev cX12_laysSent : ByteArray := prog_14_method_67_code
def yX12_laysSent : MethodName := ⟨RX12, "laysSent", "()V"⟩
abbrev cX12_nextBegun : ByteArray := prog_14_method_68_code
def yX12_nextBegun : MethodName := ⟨RX12, "nextBegun", "(I)I"⟩
abbrev cX12_reportAt : ByteArray := prog_14_method_69_code
def yX12_reportAt : MethodName := ⟨RX12, "reportAt", "(I)I"⟩
abbrev cX12_isLatest : ByteArray := prog_14_method_70_code
def yX12_isLatest : MethodName := ⟨RX12, "isLatest", "(I)Z"⟩
abbrev cX12_reportHas : ByteArray := prog_14_method_71_code
def yX12_reportHas : MethodName := ⟨RX12, "reportHas", "(II)Z"⟩
abbrev cX12_reports : ByteArray := prog_14_method_72_code
def yX12_reports : MethodName := ⟨RX12, "reports", "()V"⟩
abbrev cX12_hears : ByteArray := prog_14_method_73_code
def yX12_hears : MethodName := ⟨RX12, "hears", "(I)V"⟩
abbrev cX12_repeats : ByteArray := prog_14_method_74_code
def yX12_repeats : MethodName := ⟨RX12, "repeats", "()V"⟩
abbrev cX12_tick : ByteArray := prog_14_method_75_code
def yX12_tick : MethodName := ⟨RX12, "tick", "(I)I"⟩
abbrev cX12_bitsOfNumber : ByteArray := prog_14_method_76_code
def yX12_bitsOfNumber : MethodName := ⟨RX12, "bitsOfNumber", "(F)I"⟩
abbrev cX12_key : ByteArray := prog_14_method_77_code
def yX12_key : MethodName := ⟨RX12, "key", "(II)I"⟩
abbrev cX12_does : ByteArray := prog_14_method_78_code
def yX12_does : MethodName := ⟨RX12, "does", "(II)I"⟩
abbrev cX12_event : ByteArray := prog_14_method_79_code
def yX12_event : MethodName := ⟨RX12, "event", "(II)I"⟩
abbrev cX12_reportsKept : ByteArray := prog_14_method_80_code
def yX12_reportsKept : MethodName := ⟨RX12, "reportsKept", "()I"⟩
abbrev cX12_report : ByteArray := prog_14_method_81_code
def yX12_report : MethodName := ⟨RX12, "report", "(II)I"⟩
abbrev cX12_sent : ByteArray := prog_14_method_82_code
def yX12_sent : MethodName := ⟨RX12, "sent", "(I)I"⟩
abbrev cX12_host : ByteArray := prog_14_method_83_code
def yX12_host : MethodName := ⟨RX12, "host", "(I)I"⟩
abbrev cX12_strokes : ByteArray := prog_14_method_84_code
def yX12_strokes : MethodName := ⟨RX12, "strokes", "(II)I"⟩
abbrev cX12_chord : ByteArray := prog_14_method_85_code
def yX12_chord : MethodName := ⟨RX12, "chord", "(II)I"⟩
abbrev cX12_macro : ByteArray := prog_14_method_86_code
def yX12_macro : MethodName := ⟨RX12, "macro", "(II)I"⟩
abbrev cX12_ahead : ByteArray := prog_14_method_87_code
def yX12_ahead : MethodName := ⟨RX12, "ahead", "(II)I"⟩
abbrev cX12_hold : ByteArray := prog_14_method_88_code
def yX12_hold : MethodName := ⟨RX12, "hold", "(I)Z"⟩
abbrev cX12_restore : ByteArray := prog_14_method_89_code
def yX12_restore : MethodName := ⟨RX12, "restore", "(I)Z"⟩
abbrev cX12_count : ByteArray := prog_14_method_90_code
def yX12_count : MethodName := ⟨RX12, "count", "(I)I"⟩
def RJx29ce0 : String := "java/lang/Enum"
def TJx29ce0 : u_T := fun k => match k with
  | _ => ("", "", "", false)
def tyJx29ce0 : Nat → FieldType := fun k => match k with
  | _ => .int
abbrev wsJx29ce00 : List Cond := u_ws RJx29ce0 TJx29ce0 0
theorem nmJx29ce0 : ∀ a, a < 0 → ∀ b, b < 0 → a ≠ b → (TJx29ce0 a).2.1 ≠ (TJx29ce0 b).2.1 := by decide +kernel
theorem tyJx29ce0_ok : ∀ k, k < 0 → parseFieldDescriptor (TJx29ce0 k).2.2.1 = some (tyJx29ce0 k) := by decide +kernel
def RJ6 : String := "java/lang/Integer"
def TJ6 : u_T := fun k => match k with
  | _ => ("", "", "", false)
def tyJ6 : Nat → FieldType := fun k => match k with
  | _ => .int
abbrev wsJ60 : List Cond := u_ws RJ6 TJ6 0
theorem nmJ6 : ∀ a, a < 0 → ∀ b, b < 0 → a ≠ b → (TJ6 a).2.1 ≠ (TJ6 b).2.1 := by decide +kernel
theorem tyJ6_ok : ∀ k, k < 0 → parseFieldDescriptor (TJ6 k).2.2.1 = some (tyJ6 k) := by decide +kernel
abbrev cJ6_bitCount_0f7a4 : ByteArray := prog_16_method_49_code
def yJ6_bitCount_0f7a4 : MethodName := ⟨RJ6, "bitCount", "(I)I"⟩
def RJ9 : String := "java/lang/Math"
def TJ9 : u_T := fun k => match k with
  | _ => ("", "", "", false)
def tyJ9 : Nat → FieldType := fun k => match k with
  | _ => .int
abbrev wsJ90 : List Cond := u_ws RJ9 TJ9 0
theorem nmJ9 : ∀ a, a < 0 → ∀ b, b < 0 → a ≠ b → (TJ9 a).2.1 ≠ (TJ9 b).2.1 := by decide +kernel
theorem tyJ9_ok : ∀ k, k < 0 → parseFieldDescriptor (TJ9 k).2.2.1 = some (tyJ9 k) := by decide +kernel
abbrev cJ9_max_7cf53 : ByteArray := prog_17_method_65_code
def yJ9_max_7cf53 : MethodName := ⟨RJ9, "max", "(II)I"⟩
def RJ0 : String := "java/lang/String"
def TJ0 : u_T := fun k => match k with
  | _ => ("", "", "", false)
def tyJ0 : Nat → FieldType := fun k => match k with
  | _ => .int
abbrev wsJ00 : List Cond := u_ws RJ0 TJ0 0
theorem nmJ0 : ∀ a, a < 0 → ∀ b, b < 0 → a ≠ b → (TJ0 a).2.1 ≠ (TJ0 b).2.1 := by decide +kernel
theorem tyJ0_ok : ∀ k, k < 0 → parseFieldDescriptor (TJ0 k).2.2.1 = some (tyJ0 k) := by decide +kernel
abbrev cJ0_length_8abf5 : ByteArray := prog_18_method_54_code
def yJ0_length_8abf5 : MethodName := ⟨RJ0, "length", "()I"⟩
abbrev cJ0_charAt_5068e : ByteArray := prog_18_method_56_code
def yJ0_charAt_5068e : MethodName := ⟨RJ0, "charAt", "(I)C"⟩
abbrev cJ0_coder_7d493 : ByteArray := prog_18_method_152_code
def yJ0_coder_7d493 : MethodName := ⟨RJ0, "coder", "()B"⟩
abbrev cJ0_isLatin1_aae02 : ByteArray := prog_18_method_154_code
def yJ0_isLatin1_aae02 : MethodName := ⟨RJ0, "isLatin1", "()Z"⟩
abbrev cJ0_checkIndex_df160 : ByteArray := prog_18_method_155_code
def yJ0_checkIndex_df160 : MethodName := ⟨RJ0, "checkIndex", "(II)V"⟩
def RJ1 : String := "java/lang/StringLatin1"
def TJ1 : u_T := fun k => match k with
  | _ => ("", "", "", false)
def tyJ1 : Nat → FieldType := fun k => match k with
  | _ => .int
abbrev wsJ10 : List Cond := u_ws RJ1 TJ1 0
theorem nmJ1 : ∀ a, a < 0 → ∀ b, b < 0 → a ≠ b → (TJ1 a).2.1 ≠ (TJ1 b).2.1 := by decide +kernel
theorem tyJ1_ok : ∀ k, k < 0 → parseFieldDescriptor (TJ1 k).2.2.1 = some (tyJ1 k) := by decide +kernel
abbrev cJ1_charAt_3b067 : ByteArray := prog_19_method_2_code
def yJ1_charAt_3b067 : MethodName := ⟨RJ1, "charAt", "([BI)C"⟩
def RJ2 : String := "java/lang/StringUTF16"
def TJ2 : u_T := fun k => match k with
  | _ => ("", "", "", false)
def tyJ2 : Nat → FieldType := fun k => match k with
  | _ => .int
abbrev wsJ20 : List Cond := u_ws RJ2 TJ2 0
theorem nmJ2 : ∀ a, a < 0 → ∀ b, b < 0 → a ≠ b → (TJ2 a).2.1 ≠ (TJ2 b).2.1 := by decide +kernel
theorem tyJ2_ok : ∀ k, k < 0 → parseFieldDescriptor (TJ2 k).2.2.1 = some (tyJ2 k) := by decide +kernel
abbrev cJ2_getChar_3b067 : ByteArray := prog_20_method_5_code
def yJ2_getChar_3b067 : MethodName := ⟨RJ2, "getChar", "([BI)C"⟩
abbrev cJ2_length_9d52b : ByteArray := prog_20_method_6_code
def yJ2_length_9d52b : MethodName := ⟨RJ2, "length", "([B)I"⟩
abbrev cJ2_charAt_3b067 : ByteArray := prog_20_method_83_code
def yJ2_charAt_3b067 : MethodName := ⟨RJ2, "charAt", "([BI)C"⟩
abbrev cJ2_checkIndex_2214a : ByteArray := prog_20_method_91_code
def yJ2_checkIndex_2214a : MethodName := ⟨RJ2, "checkIndex", "(I[B)V"⟩
def RJ10 : String := "java/lang/System"
def TJ10 : u_T := fun k => match k with
  | _ => ("", "", "", false)
def tyJ10 : Nat → FieldType := fun k => match k with
  | _ => .int
abbrev wsJ100 : List Cond := u_ws RJ10 TJ10 0
theorem nmJ10 : ∀ a, a < 0 → ∀ b, b < 0 → a ≠ b → (TJ10 a).2.1 ≠ (TJ10 b).2.1 := by decide +kernel
theorem tyJ10_ok : ∀ k, k < 0 → parseFieldDescriptor (TJ10 k).2.2.1 = some (tyJ10 k) := by decide +kernel
def RJ3 : String := "jdk/internal/util/Preconditions"
def TJ3 : u_T := fun k => match k with
  | _ => ("", "", "", false)
def tyJ3 : Nat → FieldType := fun k => match k with
  | _ => .int
abbrev wsJ30 : List Cond := u_ws RJ3 TJ3 0
theorem nmJ3 : ∀ a, a < 0 → ∀ b, b < 0 → a ≠ b → (TJ3 a).2.1 ≠ (TJ3 b).2.1 := by decide +kernel
theorem tyJ3_ok : ∀ k, k < 0 → parseFieldDescriptor (TJ3 k).2.2.1 = some (tyJ3 k) := by decide +kernel
abbrev cJ3_checkIndex_8e157 : ByteArray := prog_22_method_11_code
def yJ3_checkIndex_8e157 : MethodName := ⟨RJ3, "checkIndex", "(IILjava/util/function/BiFunction;)I"⟩
def RL : String := "KeyMatrixLaw"
abbrev cL_law : ByteArray := code
def yL_law : MethodName := ⟨RL, "law", "([I)Z"⟩
theorem inJx29ce0 : ∀ w ∈ wsJx29ce00, w ∈ lw_tbl := by decide +kernel
theorem inJ6 : ∀ w ∈ wsJ60, w ∈ lw_tbl := by decide +kernel
theorem inJ9 : ∀ w ∈ wsJ90, w ∈ lw_tbl := by decide +kernel
theorem inJ0 : ∀ w ∈ wsJ00, w ∈ lw_tbl := by decide +kernel
theorem inJ1 : ∀ w ∈ wsJ10, w ∈ lw_tbl := by decide +kernel
theorem inJ2 : ∀ w ∈ wsJ20, w ∈ lw_tbl := by decide +kernel
theorem inJ10 : ∀ w ∈ wsJ100, w ∈ lw_tbl := by decide +kernel
theorem inJ3 : ∀ w ∈ wsJ30, w ∈ lw_tbl := by decide +kernel
abbrev vwCl : List vw_C := [(RX0, TX0, 19), (RX1, TX1, 6), (RX2, TX2, 3), (RX3, TX3, 9), (RX4, TX4, 3), (RX5, TX5, 9), (RX6, TX6, 9), (RX7, TX7, 10), (RX8, TX8, 6), (RX9, TX9, 4), (RX11, TX11, 10), (RX12, TX12, 33)]
