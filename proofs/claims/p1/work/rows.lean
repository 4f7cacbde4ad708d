section
-- ===== PART A: goes FIRST, ahead of the names: the tables' words, and 'selects' of the private methods out of them =====
/-- a private method of a class that the tables say can be made, by its rows of tables_1 -/
def lw_okq (q : MethodName × Nat) : Prop := (q.1.cls ≠ "java/lang/invoke/MethodHandle" ∧ q.1.cls ≠ "java/lang/invoke/VarHandle") ∧ Cond.instantiable q.1.cls q.2 ∈ tables_1 ∧ Cond.privateMethod q.1 ∈ tables_1 ∧ Cond.instanceMethod q.1 ∈ tables_1
theorem lw_p0 : lw_okq (⟨"KeyMatrix$Reports", "makeLatest", "(II)V"⟩, 9) := ⟨⟨by decide +kernel, by decide +kernel⟩, List.mem_of_getElem? (i := 380) (by decide +kernel), List.mem_of_getElem? (i := 442) (by decide +kernel), List.mem_of_getElem? (i := 443) (by decide +kernel)⟩
theorem lw_p1 : lw_okq (⟨"KeyMatrix", "appendFour", "(I)V"⟩, 10) := ⟨⟨by decide +kernel, by decide +kernel⟩, List.mem_of_getElem? (i := 23) (by decide +kernel), List.mem_of_getElem? (i := 506) (by decide +kernel), List.mem_of_getElem? (i := 507) (by decide +kernel)⟩
theorem lw_p2 : lw_okq (⟨"KeyMatrix$Tokens", "skipBlanks", "([BI)I"⟩, 6) := ⟨⟨by decide +kernel, by decide +kernel⟩, List.mem_of_getElem? (i := 37) (by decide +kernel), List.mem_of_getElem? (i := 526) (by decide +kernel), List.mem_of_getElem? (i := 527) (by decide +kernel)⟩
theorem lw_p3 : lw_okq (⟨"KeyMatrix$Tokens", "cutWord", "([BI)I"⟩, 6) := ⟨⟨by decide +kernel, by decide +kernel⟩, List.mem_of_getElem? (i := 37) (by decide +kernel), List.mem_of_getElem? (i := 533) (by decide +kernel), List.mem_of_getElem? (i := 534) (by decide +kernel)⟩
theorem lw_p4 : lw_okq (⟨"KeyMatrix$Tokens", "cutInt", "([BI)I"⟩, 6) := ⟨⟨by decide +kernel, by decide +kernel⟩, List.mem_of_getElem? (i := 37) (by decide +kernel), List.mem_of_getElem? (i := 593) (by decide +kernel), List.mem_of_getElem? (i := 594) (by decide +kernel)⟩
theorem lw_p5 : lw_okq (⟨"KeyMatrix$TextReader", "takeBoard", "()Z"⟩, 10) := ⟨⟨by decide +kernel, by decide +kernel⟩, List.mem_of_getElem? (i := 31) (by decide +kernel), List.mem_of_getElem? (i := 598) (by decide +kernel), List.mem_of_getElem? (i := 599) (by decide +kernel)⟩
theorem lw_p6 : lw_okq (⟨"KeyMatrix$TextReader", "fail", "(I)Z"⟩, 10) := ⟨⟨by decide +kernel, by decide +kernel⟩, List.mem_of_getElem? (i := 31) (by decide +kernel), List.mem_of_getElem? (i := 608) (by decide +kernel), List.mem_of_getElem? (i := 609) (by decide +kernel)⟩
theorem lw_p7 : lw_okq (⟨"KeyMatrix$TextReader", "takeToken", "(I)Z"⟩, 10) := ⟨⟨by decide +kernel, by decide +kernel⟩, List.mem_of_getElem? (i := 31) (by decide +kernel), List.mem_of_getElem? (i := 612) (by decide +kernel), List.mem_of_getElem? (i := 613) (by decide +kernel)⟩
theorem lw_p8 : lw_okq (⟨"KeyMatrix$TextReader", "takeNumber", "(II)Z"⟩, 10) := ⟨⟨by decide +kernel, by decide +kernel⟩, List.mem_of_getElem? (i := 31) (by decide +kernel), List.mem_of_getElem? (i := 620) (by decide +kernel), List.mem_of_getElem? (i := 621) (by decide +kernel)⟩
theorem lw_p9 : lw_okq (⟨"KeyMatrix$TextReader", "noteLater", "(II)V"⟩, 10) := ⟨⟨by decide +kernel, by decide +kernel⟩, List.mem_of_getElem? (i := 31) (by decide +kernel), List.mem_of_getElem? (i := 628) (by decide +kernel), List.mem_of_getElem? (i := 629) (by decide +kernel)⟩
theorem lw_p10 : lw_okq (⟨"KeyMatrix$TextReader", "takeLine", "()Z"⟩, 10) := ⟨⟨by decide +kernel, by decide +kernel⟩, List.mem_of_getElem? (i := 31) (by decide +kernel), List.mem_of_getElem? (i := 632) (by decide +kernel), List.mem_of_getElem? (i := 633) (by decide +kernel)⟩
theorem lw_p11 : lw_okq (⟨"KeyMatrix$TextReader", "takeKey", "()Z"⟩, 10) := ⟨⟨by decide +kernel, by decide +kernel⟩, List.mem_of_getElem? (i := 31) (by decide +kernel), List.mem_of_getElem? (i := 646) (by decide +kernel), List.mem_of_getElem? (i := 647) (by decide +kernel)⟩
theorem lw_p12 : lw_okq (⟨"KeyMatrix$TextReader", "takeDeed", "()Z"⟩, 10) := ⟨⟨by decide +kernel, by decide +kernel⟩, List.mem_of_getElem? (i := 31) (by decide +kernel), List.mem_of_getElem? (i := 658) (by decide +kernel), List.mem_of_getElem? (i := 659) (by decide +kernel)⟩
theorem lw_p13 : lw_okq (⟨"KeyMatrix$TextReader", "takeChord", "()Z"⟩, 10) := ⟨⟨by decide +kernel, by decide +kernel⟩, List.mem_of_getElem? (i := 31) (by decide +kernel), List.mem_of_getElem? (i := 680) (by decide +kernel), List.mem_of_getElem? (i := 681) (by decide +kernel)⟩
theorem lw_p14 : lw_okq (⟨"KeyMatrix$TextReader", "takeChordKey", "(I)Z"⟩, 10) := ⟨⟨by decide +kernel, by decide +kernel⟩, List.mem_of_getElem? (i := 31) (by decide +kernel), List.mem_of_getElem? (i := 684) (by decide +kernel), List.mem_of_getElem? (i := 685) (by decide +kernel)⟩
theorem lw_p15 : lw_okq (⟨"KeyMatrix$TextReader", "takeMacro", "()Z"⟩, 10) := ⟨⟨by decide +kernel, by decide +kernel⟩, List.mem_of_getElem? (i := 31) (by decide +kernel), List.mem_of_getElem? (i := 701) (by decide +kernel), List.mem_of_getElem? (i := 702) (by decide +kernel)⟩
def lw_privs_1 : List (MethodName × Nat) := [(⟨"KeyMatrix$Reports", "makeLatest", "(II)V"⟩, 9), (⟨"KeyMatrix", "appendFour", "(I)V"⟩, 10), (⟨"KeyMatrix$Tokens", "skipBlanks", "([BI)I"⟩, 6), (⟨"KeyMatrix$Tokens", "cutWord", "([BI)I"⟩, 6), (⟨"KeyMatrix$Tokens", "cutInt", "([BI)I"⟩, 6), (⟨"KeyMatrix$TextReader", "takeBoard", "()Z"⟩, 10), (⟨"KeyMatrix$TextReader", "fail", "(I)Z"⟩, 10), (⟨"KeyMatrix$TextReader", "takeToken", "(I)Z"⟩, 10), (⟨"KeyMatrix$TextReader", "takeNumber", "(II)Z"⟩, 10), (⟨"KeyMatrix$TextReader", "noteLater", "(II)V"⟩, 10), (⟨"KeyMatrix$TextReader", "takeLine", "()Z"⟩, 10), (⟨"KeyMatrix$TextReader", "takeKey", "()Z"⟩, 10), (⟨"KeyMatrix$TextReader", "takeDeed", "()Z"⟩, 10), (⟨"KeyMatrix$TextReader", "takeChord", "()Z"⟩, 10), (⟨"KeyMatrix$TextReader", "takeChordKey", "(I)Z"⟩, 10), (⟨"KeyMatrix$TextReader", "takeMacro", "()Z"⟩, 10)]
theorem lw_r1 : ∀ q ∈ lw_privs_1, lw_okq q := List.forall_mem_cons.mpr ⟨lw_p0, List.forall_mem_cons.mpr ⟨lw_p1, List.forall_mem_cons.mpr ⟨lw_p2, List.forall_mem_cons.mpr ⟨lw_p3, List.forall_mem_cons.mpr ⟨lw_p4, List.forall_mem_cons.mpr ⟨lw_p5, List.forall_mem_cons.mpr ⟨lw_p6, List.forall_mem_cons.mpr ⟨lw_p7, List.forall_mem_cons.mpr ⟨lw_p8, List.forall_mem_cons.mpr ⟨lw_p9, List.forall_mem_cons.mpr ⟨lw_p10, List.forall_mem_cons.mpr ⟨lw_p11, List.forall_mem_cons.mpr ⟨lw_p12, List.forall_mem_cons.mpr ⟨lw_p13, List.forall_mem_cons.mpr ⟨lw_p14, List.forall_mem_cons.mpr ⟨lw_p15, fun _ h => absurd h List.not_mem_nil⟩⟩⟩⟩⟩⟩⟩⟩⟩⟩⟩⟩⟩⟩⟩⟩
theorem lw_p16 : lw_okq (⟨"KeyMatrix$TextReader", "takeSetting", "(LKeyMatrix$Word;)Z"⟩, 10) := ⟨⟨by decide +kernel, by decide +kernel⟩, List.mem_of_getElem? (i := 31) (by decide +kernel), List.mem_of_getElem? (i := 714) (by decide +kernel), List.mem_of_getElem? (i := 715) (by decide +kernel)⟩
theorem lw_p17 : lw_okq (⟨"KeyMatrix$Wiring", "join", "(LKeyMatrix$Board;I)V"⟩, 4) := ⟨⟨by decide +kernel, by decide +kernel⟩, List.mem_of_getElem? (i := 241) (by decide +kernel), List.mem_of_getElem? (i := 760) (by decide +kernel), List.mem_of_getElem? (i := 761) (by decide +kernel)⟩
theorem lw_p18 : lw_okq (⟨"KeyMatrix$Wiring", "bar", "(LKeyMatrix$Board;I)V"⟩, 4) := ⟨⟨by decide +kernel, by decide +kernel⟩, List.mem_of_getElem? (i := 241) (by decide +kernel), List.mem_of_getElem? (i := 766) (by decide +kernel), List.mem_of_getElem? (i := 767) (by decide +kernel)⟩
theorem lw_p19 : lw_okq (⟨"KeyMatrix$Course", "fateOfFirst", "()I"⟩, 6) := ⟨⟨by decide +kernel, by decide +kernel⟩, List.mem_of_getElem? (i := 263) (by decide +kernel), List.mem_of_getElem? (i := 809) (by decide +kernel), List.mem_of_getElem? (i := 810) (by decide +kernel)⟩
theorem lw_p20 : lw_okq (⟨"KeyMatrix$Course", "fateOfHold", "(II)I"⟩, 6) := ⟨⟨by decide +kernel, by decide +kernel⟩, List.mem_of_getElem? (i := 263) (by decide +kernel), List.mem_of_getElem? (i := 836) (by decide +kernel), List.mem_of_getElem? (i := 837) (by decide +kernel)⟩
theorem lw_p21 : lw_okq (⟨"KeyMatrix$Course", "fateOfDouble", "(II)I"⟩, 6) := ⟨⟨by decide +kernel, by decide +kernel⟩, List.mem_of_getElem? (i := 263) (by decide +kernel), List.mem_of_getElem? (i := 840) (by decide +kernel), List.mem_of_getElem? (i := 841) (by decide +kernel)⟩
theorem lw_p22 : lw_okq (⟨"KeyMatrix$Course", "workOff", "(I)V"⟩, 6) := ⟨⟨by decide +kernel, by decide +kernel⟩, List.mem_of_getElem? (i := 263) (by decide +kernel), List.mem_of_getElem? (i := 844) (by decide +kernel), List.mem_of_getElem? (i := 845) (by decide +kernel)⟩
theorem lw_p23 : lw_okq (⟨"KeyMatrix$Doing", "drop", "(I)V"⟩, 9) := ⟨⟨by decide +kernel, by decide +kernel⟩, List.mem_of_getElem? (i := 333) (by decide +kernel), List.mem_of_getElem? (i := 857) (by decide +kernel), List.mem_of_getElem? (i := 858) (by decide +kernel)⟩
theorem lw_p24 : lw_okq (⟨"KeyMatrix$Course", "send", "(I)V"⟩, 6) := ⟨⟨by decide +kernel, by decide +kernel⟩, List.mem_of_getElem? (i := 263) (by decide +kernel), List.mem_of_getElem? (i := 861) (by decide +kernel), List.mem_of_getElem? (i := 862) (by decide +kernel)⟩
theorem lw_p25 : lw_okq (⟨"KeyMatrix$Doing", "addCode", "(I)V"⟩, 9) := ⟨⟨by decide +kernel, by decide +kernel⟩, List.mem_of_getElem? (i := 333) (by decide +kernel), List.mem_of_getElem? (i := 869) (by decide +kernel), List.mem_of_getElem? (i := 870) (by decide +kernel)⟩
theorem lw_p26 : lw_okq (⟨"KeyMatrix$Reports", "isAlike", "(ILKeyMatrix$Doing;Z)Z"⟩, 9) := ⟨⟨by decide +kernel, by decide +kernel⟩, List.mem_of_getElem? (i := 380) (by decide +kernel), List.mem_of_getElem? (i := 881) (by decide +kernel), List.mem_of_getElem? (i := 882) (by decide +kernel)⟩
theorem lw_p27 : lw_okq (⟨"KeyMatrix$Reports", "renewLatest", "(ILKeyMatrix$Doing;ZI)V"⟩, 9) := ⟨⟨by decide +kernel, by decide +kernel⟩, List.mem_of_getElem? (i := 380) (by decide +kernel), List.mem_of_getElem? (i := 889) (by decide +kernel), List.mem_of_getElem? (i := 890) (by decide +kernel)⟩
theorem lw_p28 : lw_okq (⟨"KeyMatrix$Reports", "hasCode", "(II)Z"⟩, 9) := ⟨⟨by decide +kernel, by decide +kernel⟩, List.mem_of_getElem? (i := 380) (by decide +kernel), List.mem_of_getElem? (i := 893) (by decide +kernel), List.mem_of_getElem? (i := 894) (by decide +kernel)⟩
theorem lw_p29 : lw_okq (⟨"KeyMatrix$Course", "perform", "(IIII)V"⟩, 6) := ⟨⟨by decide +kernel, by decide +kernel⟩, List.mem_of_getElem? (i := 263) (by decide +kernel), List.mem_of_getElem? (i := 906) (by decide +kernel), List.mem_of_getElem? (i := 907) (by decide +kernel)⟩
theorem lw_p30 : lw_okq (⟨"KeyMatrix", "setting", "(I)I"⟩, 10) := ⟨⟨by decide +kernel, by decide +kernel⟩, List.mem_of_getElem? (i := 23) (by decide +kernel), List.mem_of_getElem? (i := 1029) (by decide +kernel), List.mem_of_getElem? (i := 1030) (by decide +kernel)⟩
theorem lw_p31 : lw_okq (⟨"KeyMatrixModel", "startsAnew", "()V"⟩, 33) := ⟨⟨by decide +kernel, by decide +kernel⟩, List.mem_of_getElem? (i := 1033) (by decide +kernel), List.mem_of_getElem? (i := 1049) (by decide +kernel), List.mem_of_getElem? (i := 1050) (by decide +kernel)⟩
def lw_privs_2 : List (MethodName × Nat) := [(⟨"KeyMatrix$TextReader", "takeSetting", "(LKeyMatrix$Word;)Z"⟩, 10), (⟨"KeyMatrix$Wiring", "join", "(LKeyMatrix$Board;I)V"⟩, 4), (⟨"KeyMatrix$Wiring", "bar", "(LKeyMatrix$Board;I)V"⟩, 4), (⟨"KeyMatrix$Course", "fateOfFirst", "()I"⟩, 6), (⟨"KeyMatrix$Course", "fateOfHold", "(II)I"⟩, 6), (⟨"KeyMatrix$Course", "fateOfDouble", "(II)I"⟩, 6), (⟨"KeyMatrix$Course", "workOff", "(I)V"⟩, 6), (⟨"KeyMatrix$Doing", "drop", "(I)V"⟩, 9), (⟨"KeyMatrix$Course", "send", "(I)V"⟩, 6), (⟨"KeyMatrix$Doing", "addCode", "(I)V"⟩, 9), (⟨"KeyMatrix$Reports", "isAlike", "(ILKeyMatrix$Doing;Z)Z"⟩, 9), (⟨"KeyMatrix$Reports", "renewLatest", "(ILKeyMatrix$Doing;ZI)V"⟩, 9), (⟨"KeyMatrix$Reports", "hasCode", "(II)Z"⟩, 9), (⟨"KeyMatrix$Course", "perform", "(IIII)V"⟩, 6), (⟨"KeyMatrix", "setting", "(I)I"⟩, 10), (⟨"KeyMatrixModel", "startsAnew", "()V"⟩, 33)]
theorem lw_r2 : ∀ q ∈ lw_privs_2, lw_okq q := List.forall_mem_cons.mpr ⟨lw_p16, List.forall_mem_cons.mpr ⟨lw_p17, List.forall_mem_cons.mpr ⟨lw_p18, List.forall_mem_cons.mpr ⟨lw_p19, List.forall_mem_cons.mpr ⟨lw_p20, List.forall_mem_cons.mpr ⟨lw_p21, List.forall_mem_cons.mpr ⟨lw_p22, List.forall_mem_cons.mpr ⟨lw_p23, List.forall_mem_cons.mpr ⟨lw_p24, List.forall_mem_cons.mpr ⟨lw_p25, List.forall_mem_cons.mpr ⟨lw_p26, List.forall_mem_cons.mpr ⟨lw_p27, List.forall_mem_cons.mpr ⟨lw_p28, List.forall_mem_cons.mpr ⟨lw_p29, List.forall_mem_cons.mpr ⟨lw_p30, List.forall_mem_cons.mpr ⟨lw_p31, fun _ h => absurd h List.not_mem_nil⟩⟩⟩⟩⟩⟩⟩⟩⟩⟩⟩⟩⟩⟩⟩⟩
theorem lw_p32 : lw_okq (⟨"KeyMatrixModel", "lays", "(I)V"⟩, 33) := ⟨⟨by decide +kernel, by decide +kernel⟩, List.mem_of_getElem? (i := 1033) (by decide +kernel), List.mem_of_getElem? (i := 1158) (by decide +kernel), List.mem_of_getElem? (i := 1159) (by decide +kernel)⟩
theorem lw_p33 : lw_okq (⟨"KeyMatrixModel", "cutsText", "()V"⟩, 33) := ⟨⟨by decide +kernel, by decide +kernel⟩, List.mem_of_getElem? (i := 1033) (by decide +kernel), List.mem_of_getElem? (i := 1170) (by decide +kernel), List.mem_of_getElem? (i := 1171) (by decide +kernel)⟩
theorem lw_p34 : lw_okq (⟨"KeyMatrixModel", "byteAt", "(I)I"⟩, 33) := ⟨⟨by decide +kernel, by decide +kernel⟩, List.mem_of_getElem? (i := 1033) (by decide +kernel), List.mem_of_getElem? (i := 1174) (by decide +kernel), List.mem_of_getElem? (i := 1175) (by decide +kernel)⟩
theorem lw_p35 : lw_okq (⟨"KeyMatrixModel", "token", "(IIIJ)V"⟩, 33) := ⟨⟨by decide +kernel, by decide +kernel⟩, List.mem_of_getElem? (i := 1033) (by decide +kernel), List.mem_of_getElem? (i := 1178) (by decide +kernel), List.mem_of_getElem? (i := 1179) (by decide +kernel)⟩
theorem lw_p36 : lw_okq (⟨"KeyMatrixModel", "sign", "(II)I"⟩, 33) := ⟨⟨by decide +kernel, by decide +kernel⟩, List.mem_of_getElem? (i := 1033) (by decide +kernel), List.mem_of_getElem? (i := 1188) (by decide +kernel), List.mem_of_getElem? (i := 1189) (by decide +kernel)⟩
theorem lw_p37 : lw_okq (⟨"KeyMatrixModel", "must", "(I)V"⟩, 33) := ⟨⟨by decide +kernel, by decide +kernel⟩, List.mem_of_getElem? (i := 1033) (by decide +kernel), List.mem_of_getElem? (i := 1192) (by decide +kernel), List.mem_of_getElem? (i := 1193) (by decide +kernel)⟩
theorem lw_p38 : lw_okq (⟨"KeyMatrixModel", "is", "(I)Z"⟩, 33) := ⟨⟨by decide +kernel, by decide +kernel⟩, List.mem_of_getElem? (i := 1033) (by decide +kernel), List.mem_of_getElem? (i := 1196) (by decide +kernel), List.mem_of_getElem? (i := 1197) (by decide +kernel)⟩
theorem lw_p39 : lw_okq (⟨"KeyMatrixModel", "passes", "()V"⟩, 33) := ⟨⟨by decide +kernel, by decide +kernel⟩, List.mem_of_getElem? (i := 1033) (by decide +kernel), List.mem_of_getElem? (i := 1200) (by decide +kernel), List.mem_of_getElem? (i := 1201) (by decide +kernel)⟩
theorem lw_p40 : lw_okq (⟨"KeyMatrixModel", "fail", "(I)V"⟩, 33) := ⟨⟨by decide +kernel, by decide +kernel⟩, List.mem_of_getElem? (i := 1033) (by decide +kernel), List.mem_of_getElem? (i := 1204) (by decide +kernel), List.mem_of_getElem? (i := 1205) (by decide +kernel)⟩
theorem lw_p41 : lw_okq (⟨"KeyMatrixModel", "tell", "()V"⟩, 33) := ⟨⟨by decide +kernel, by decide +kernel⟩, List.mem_of_getElem? (i := 1033) (by decide +kernel), List.mem_of_getElem? (i := 1208) (by decide +kernel), List.mem_of_getElem? (i := 1209) (by decide +kernel)⟩
theorem lw_p42 : lw_okq (⟨"KeyMatrixModel", "deedRead", "()V"⟩, 33) := ⟨⟨by decide +kernel, by decide +kernel⟩, List.mem_of_getElem? (i := 1033) (by decide +kernel), List.mem_of_getElem? (i := 1212) (by decide +kernel), List.mem_of_getElem? (i := 1213) (by decide +kernel)⟩
theorem lw_p43 : lw_okq (⟨"KeyMatrixModel", "means", "()V"⟩, 33) := ⟨⟨by decide +kernel, by decide +kernel⟩, List.mem_of_getElem? (i := 1033) (by decide +kernel), List.mem_of_getElem? (i := 1216) (by decide +kernel), List.mem_of_getElem? (i := 1217) (by decide +kernel)⟩
theorem lw_p44 : lw_okq (⟨"KeyMatrixModel", "within", "(III)I"⟩, 33) := ⟨⟨by decide +kernel, by decide +kernel⟩, List.mem_of_getElem? (i := 1033) (by decide +kernel), List.mem_of_getElem? (i := 1220) (by decide +kernel), List.mem_of_getElem? (i := 1221) (by decide +kernel)⟩
theorem lw_p45 : lw_okq (⟨"KeyMatrixModel", "wrong", "(II)V"⟩, 33) := ⟨⟨by decide +kernel, by decide +kernel⟩, List.mem_of_getElem? (i := 1033) (by decide +kernel), List.mem_of_getElem? (i := 1227) (by decide +kernel), List.mem_of_getElem? (i := 1228) (by decide +kernel)⟩
theorem lw_p46 : lw_okq (⟨"KeyMatrixModel", "meansLine", "(I)V"⟩, 33) := ⟨⟨by decide +kernel, by decide +kernel⟩, List.mem_of_getElem? (i := 1033) (by decide +kernel), List.mem_of_getElem? (i := 1231) (by decide +kernel), List.mem_of_getElem? (i := 1232) (by decide +kernel)⟩
theorem lw_p47 : lw_okq (⟨"KeyMatrixModel", "meansKey", "(I)V"⟩, 33) := ⟨⟨by decide +kernel, by decide +kernel⟩, List.mem_of_getElem? (i := 1033) (by decide +kernel), List.mem_of_getElem? (i := 1235) (by decide +kernel), List.mem_of_getElem? (i := 1236) (by decide +kernel)⟩
def lw_privs_3 : List (MethodName × Nat) := [(⟨"KeyMatrixModel", "lays", "(I)V"⟩, 33), (⟨"KeyMatrixModel", "cutsText", "()V"⟩, 33), (⟨"KeyMatrixModel", "byteAt", "(I)I"⟩, 33), (⟨"KeyMatrixModel", "token", "(IIIJ)V"⟩, 33), (⟨"KeyMatrixModel", "sign", "(II)I"⟩, 33), (⟨"KeyMatrixModel", "must", "(I)V"⟩, 33), (⟨"KeyMatrixModel", "is", "(I)Z"⟩, 33), (⟨"KeyMatrixModel", "passes", "()V"⟩, 33), (⟨"KeyMatrixModel", "fail", "(I)V"⟩, 33), (⟨"KeyMatrixModel", "tell", "()V"⟩, 33), (⟨"KeyMatrixModel", "deedRead", "()V"⟩, 33), (⟨"KeyMatrixModel", "means", "()V"⟩, 33), (⟨"KeyMatrixModel", "within", "(III)I"⟩, 33), (⟨"KeyMatrixModel", "wrong", "(II)V"⟩, 33), (⟨"KeyMatrixModel", "meansLine", "(I)V"⟩, 33), (⟨"KeyMatrixModel", "meansKey", "(I)V"⟩, 33)]
theorem lw_r3 : ∀ q ∈ lw_privs_3, lw_okq q := List.forall_mem_cons.mpr ⟨lw_p32, List.forall_mem_cons.mpr ⟨lw_p33, List.forall_mem_cons.mpr ⟨lw_p34, List.forall_mem_cons.mpr ⟨lw_p35, List.forall_mem_cons.mpr ⟨lw_p36, List.forall_mem_cons.mpr ⟨lw_p37, List.forall_mem_cons.mpr ⟨lw_p38, List.forall_mem_cons.mpr ⟨lw_p39, List.forall_mem_cons.mpr ⟨lw_p40, List.forall_mem_cons.mpr ⟨lw_p41, List.forall_mem_cons.mpr ⟨lw_p42, List.forall_mem_cons.mpr ⟨lw_p43, List.forall_mem_cons.mpr ⟨lw_p44, List.forall_mem_cons.mpr ⟨lw_p45, List.forall_mem_cons.mpr ⟨lw_p46, List.forall_mem_cons.mpr ⟨lw_p47, fun _ h => absurd h List.not_mem_nil⟩⟩⟩⟩⟩⟩⟩⟩⟩⟩⟩⟩⟩⟩⟩⟩
theorem lw_p48 : lw_okq (⟨"KeyMatrixModel", "keyTold", "(I)I"⟩, 33) := ⟨⟨by decide +kernel, by decide +kernel⟩, List.mem_of_getElem? (i := 1033) (by decide +kernel), List.mem_of_getElem? (i := 1239) (by decide +kernel), List.mem_of_getElem? (i := 1240) (by decide +kernel)⟩
theorem lw_p49 : lw_okq (⟨"KeyMatrixModel", "meansDeed", "(I)V"⟩, 33) := ⟨⟨by decide +kernel, by decide +kernel⟩, List.mem_of_getElem? (i := 1033) (by decide +kernel), List.mem_of_getElem? (i := 1243) (by decide +kernel), List.mem_of_getElem? (i := 1244) (by decide +kernel)⟩
theorem lw_p50 : lw_okq (⟨"KeyMatrixModel", "meansChord", "(I)V"⟩, 33) := ⟨⟨by decide +kernel, by decide +kernel⟩, List.mem_of_getElem? (i := 1033) (by decide +kernel), List.mem_of_getElem? (i := 1247) (by decide +kernel), List.mem_of_getElem? (i := 1248) (by decide +kernel)⟩
theorem lw_p51 : lw_okq (⟨"KeyMatrixModel", "isChorded", "(I)Z"⟩, 33) := ⟨⟨by decide +kernel, by decide +kernel⟩, List.mem_of_getElem? (i := 1033) (by decide +kernel), List.mem_of_getElem? (i := 1251) (by decide +kernel), List.mem_of_getElem? (i := 1252) (by decide +kernel)⟩
theorem lw_p52 : lw_okq (⟨"KeyMatrixModel", "meansMacro", "(I)V"⟩, 33) := ⟨⟨by decide +kernel, by decide +kernel⟩, List.mem_of_getElem? (i := 1033) (by decide +kernel), List.mem_of_getElem? (i := 1255) (by decide +kernel), List.mem_of_getElem? (i := 1256) (by decide +kernel)⟩
theorem lw_p53 : lw_okq (⟨"KeyMatrixModel", "isKey", "(I)Z"⟩, 33) := ⟨⟨by decide +kernel, by decide +kernel⟩, List.mem_of_getElem? (i := 1033) (by decide +kernel), List.mem_of_getElem? (i := 1267) (by decide +kernel), List.mem_of_getElem? (i := 1268) (by decide +kernel)⟩
theorem lw_p54 : lw_okq (⟨"KeyMatrixModel", "keysMany", "()I"⟩, 33) := ⟨⟨by decide +kernel, by decide +kernel⟩, List.mem_of_getElem? (i := 1033) (by decide +kernel), List.mem_of_getElem? (i := 1271) (by decide +kernel), List.mem_of_getElem? (i := 1272) (by decide +kernel)⟩
theorem lw_p55 : lw_okq (⟨"KeyMatrixModel", "seenBy", "(I)I"⟩, 33) := ⟨⟨by decide +kernel, by decide +kernel⟩, List.mem_of_getElem? (i := 1033) (by decide +kernel), List.mem_of_getElem? (i := 1282) (by decide +kernel), List.mem_of_getElem? (i := 1283) (by decide +kernel)⟩
theorem lw_p56 : lw_okq (⟨"KeyMatrixModel", "laysParts", "(I)I"⟩, 33) := ⟨⟨by decide +kernel, by decide +kernel⟩, List.mem_of_getElem? (i := 1033) (by decide +kernel), List.mem_of_getElem? (i := 1286) (by decide +kernel), List.mem_of_getElem? (i := 1287) (by decide +kernel)⟩
theorem lw_p57 : lw_okq (⟨"KeyMatrixModel", "barredBy", "(I)I"⟩, 33) := ⟨⟨by decide +kernel, by decide +kernel⟩, List.mem_of_getElem? (i := 1033) (by decide +kernel), List.mem_of_getElem? (i := 1293) (by decide +kernel), List.mem_of_getElem? (i := 1294) (by decide +kernel)⟩
theorem lw_p58 : lw_okq (⟨"KeyMatrixModel", "isCornered", "(III)Z"⟩, 33) := ⟨⟨by decide +kernel, by decide +kernel⟩, List.mem_of_getElem? (i := 1033) (by decide +kernel), List.mem_of_getElem? (i := 1297) (by decide +kernel), List.mem_of_getElem? (i := 1298) (by decide +kernel)⟩
theorem lw_p59 : lw_okq (⟨"KeyMatrixModel", "layerOf", "(I)I"⟩, 33) := ⟨⟨by decide +kernel, by decide +kernel⟩, List.mem_of_getElem? (i := 1033) (by decide +kernel), List.mem_of_getElem? (i := 1305) (by decide +kernel), List.mem_of_getElem? (i := 1306) (by decide +kernel)⟩
theorem lw_p60 : lw_okq (⟨"KeyMatrixModel", "activeLayers", "()I"⟩, 33) := ⟨⟨by decide +kernel, by decide +kernel⟩, List.mem_of_getElem? (i := 1033) (by decide +kernel), List.mem_of_getElem? (i := 1309) (by decide +kernel), List.mem_of_getElem? (i := 1310) (by decide +kernel)⟩
theorem lw_p61 : lw_okq (⟨"KeyMatrixModel", "ticks", "()V"⟩, 33) := ⟨⟨by decide +kernel, by decide +kernel⟩, List.mem_of_getElem? (i := 1033) (by decide +kernel), List.mem_of_getElem? (i := 1317) (by decide +kernel), List.mem_of_getElem? (i := 1318) (by decide +kernel)⟩
theorem lw_p62 : lw_okq (⟨"KeyMatrixModel", "changes", "(I)V"⟩, 33) := ⟨⟨by decide +kernel, by decide +kernel⟩, List.mem_of_getElem? (i := 1033) (by decide +kernel), List.mem_of_getElem? (i := 1321) (by decide +kernel), List.mem_of_getElem? (i := 1322) (by decide +kernel)⟩
theorem lw_p63 : lw_okq (⟨"KeyMatrixModel", "works", "()Z"⟩, 33) := ⟨⟨by decide +kernel, by decide +kernel⟩, List.mem_of_getElem? (i := 1033) (by decide +kernel), List.mem_of_getElem? (i := 1325) (by decide +kernel), List.mem_of_getElem? (i := 1326) (by decide +kernel)⟩
def lw_privs_4 : List (MethodName × Nat) := [(⟨"KeyMatrixModel", "keyTold", "(I)I"⟩, 33), (⟨"KeyMatrixModel", "meansDeed", "(I)V"⟩, 33), (⟨"KeyMatrixModel", "meansChord", "(I)V"⟩, 33), (⟨"KeyMatrixModel", "isChorded", "(I)Z"⟩, 33), (⟨"KeyMatrixModel", "meansMacro", "(I)V"⟩, 33), (⟨"KeyMatrixModel", "isKey", "(I)Z"⟩, 33), (⟨"KeyMatrixModel", "keysMany", "()I"⟩, 33), (⟨"KeyMatrixModel", "seenBy", "(I)I"⟩, 33), (⟨"KeyMatrixModel", "laysParts", "(I)I"⟩, 33), (⟨"KeyMatrixModel", "barredBy", "(I)I"⟩, 33), (⟨"KeyMatrixModel", "isCornered", "(III)Z"⟩, 33), (⟨"KeyMatrixModel", "layerOf", "(I)I"⟩, 33), (⟨"KeyMatrixModel", "activeLayers", "()I"⟩, 33), (⟨"KeyMatrixModel", "ticks", "()V"⟩, 33), (⟨"KeyMatrixModel", "changes", "(I)V"⟩, 33), (⟨"KeyMatrixModel", "works", "()Z"⟩, 33)]
theorem lw_r4 : ∀ q ∈ lw_privs_4, lw_okq q := List.forall_mem_cons.mpr ⟨lw_p48, List.forall_mem_cons.mpr ⟨lw_p49, List.forall_mem_cons.mpr ⟨lw_p50, List.forall_mem_cons.mpr ⟨lw_p51, List.forall_mem_cons.mpr ⟨lw_p52, List.forall_mem_cons.mpr ⟨lw_p53, List.forall_mem_cons.mpr ⟨lw_p54, List.forall_mem_cons.mpr ⟨lw_p55, List.forall_mem_cons.mpr ⟨lw_p56, List.forall_mem_cons.mpr ⟨lw_p57, List.forall_mem_cons.mpr ⟨lw_p58, List.forall_mem_cons.mpr ⟨lw_p59, List.forall_mem_cons.mpr ⟨lw_p60, List.forall_mem_cons.mpr ⟨lw_p61, List.forall_mem_cons.mpr ⟨lw_p62, List.forall_mem_cons.mpr ⟨lw_p63, fun _ h => absurd h List.not_mem_nil⟩⟩⟩⟩⟩⟩⟩⟩⟩⟩⟩⟩⟩⟩⟩⟩
theorem lw_p64 : lw_okq (⟨"KeyMatrixModel", "keyAt", "(I)I"⟩, 33) := ⟨⟨by decide +kernel, by decide +kernel⟩, List.mem_of_getElem? (i := 1033) (by decide +kernel), List.mem_of_getElem? (i := 1329) (by decide +kernel), List.mem_of_getElem? (i := 1330) (by decide +kernel)⟩
theorem lw_p65 : lw_okq (⟨"KeyMatrixModel", "isDownAt", "(I)Z"⟩, 33) := ⟨⟨by decide +kernel, by decide +kernel⟩, List.mem_of_getElem? (i := 1033) (by decide +kernel), List.mem_of_getElem? (i := 1333) (by decide +kernel), List.mem_of_getElem? (i := 1334) (by decide +kernel)⟩
theorem lw_p66 : lw_okq (⟨"KeyMatrixModel", "drops", "(I)V"⟩, 33) := ⟨⟨by decide +kernel, by decide +kernel⟩, List.mem_of_getElem? (i := 1033) (by decide +kernel), List.mem_of_getElem? (i := 1337) (by decide +kernel), List.mem_of_getElem? (i := 1338) (by decide +kernel)⟩
theorem lw_p67 : lw_okq (⟨"KeyMatrixModel", "ends", "(I)V"⟩, 33) := ⟨⟨by decide +kernel, by decide +kernel⟩, List.mem_of_getElem? (i := 1033) (by decide +kernel), List.mem_of_getElem? (i := 1341) (by decide +kernel), List.mem_of_getElem? (i := 1342) (by decide +kernel)⟩
theorem lw_p68 : lw_okq (⟨"KeyMatrixModel", "chordOf", "(I)I"⟩, 33) := ⟨⟨by decide +kernel, by decide +kernel⟩, List.mem_of_getElem? (i := 1033) (by decide +kernel), List.mem_of_getElem? (i := 1345) (by decide +kernel), List.mem_of_getElem? (i := 1346) (by decide +kernel)⟩
theorem lw_p69 : lw_okq (⟨"KeyMatrixModel", "stops", "(I)V"⟩, 33) := ⟨⟨by decide +kernel, by decide +kernel⟩, List.mem_of_getElem? (i := 1033) (by decide +kernel), List.mem_of_getElem? (i := 1349) (by decide +kernel), List.mem_of_getElem? (i := 1350) (by decide +kernel)⟩
theorem lw_p70 : lw_okq (⟨"KeyMatrixModel", "reports", "()V"⟩, 33) := ⟨⟨by decide +kernel, by decide +kernel⟩, List.mem_of_getElem? (i := 1033) (by decide +kernel), List.mem_of_getElem? (i := 1353) (by decide +kernel), List.mem_of_getElem? (i := 1354) (by decide +kernel)⟩
theorem lw_p71 : lw_okq (⟨"KeyMatrixModel", "laysSent", "()V"⟩, 33) := ⟨⟨by decide +kernel, by decide +kernel⟩, List.mem_of_getElem? (i := 1033) (by decide +kernel), List.mem_of_getElem? (i := 1357) (by decide +kernel), List.mem_of_getElem? (i := 1358) (by decide +kernel)⟩
theorem lw_p72 : lw_okq (⟨"KeyMatrixModel", "nextBegun", "(I)I"⟩, 33) := ⟨⟨by decide +kernel, by decide +kernel⟩, List.mem_of_getElem? (i := 1033) (by decide +kernel), List.mem_of_getElem? (i := 1361) (by decide +kernel), List.mem_of_getElem? (i := 1362) (by decide +kernel)⟩
theorem lw_p73 : lw_okq (⟨"KeyMatrixModel", "adds", "(I)V"⟩, 33) := ⟨⟨by decide +kernel, by decide +kernel⟩, List.mem_of_getElem? (i := 1033) (by decide +kernel), List.mem_of_getElem? (i := 1365) (by decide +kernel), List.mem_of_getElem? (i := 1366) (by decide +kernel)⟩
theorem lw_p74 : lw_okq (⟨"KeyMatrixModel", "isLatest", "(I)Z"⟩, 33) := ⟨⟨by decide +kernel, by decide +kernel⟩, List.mem_of_getElem? (i := 1033) (by decide +kernel), List.mem_of_getElem? (i := 1369) (by decide +kernel), List.mem_of_getElem? (i := 1370) (by decide +kernel)⟩
theorem lw_p75 : lw_okq (⟨"KeyMatrixModel", "reportAt", "(I)I"⟩, 33) := ⟨⟨by decide +kernel, by decide +kernel⟩, List.mem_of_getElem? (i := 1033) (by decide +kernel), List.mem_of_getElem? (i := 1373) (by decide +kernel), List.mem_of_getElem? (i := 1374) (by decide +kernel)⟩
theorem lw_p76 : lw_okq (⟨"KeyMatrixModel", "hears", "(I)V"⟩, 33) := ⟨⟨by decide +kernel, by decide +kernel⟩, List.mem_of_getElem? (i := 1033) (by decide +kernel), List.mem_of_getElem? (i := 1377) (by decide +kernel), List.mem_of_getElem? (i := 1378) (by decide +kernel)⟩
theorem lw_p77 : lw_okq (⟨"KeyMatrixModel", "reportHas", "(II)Z"⟩, 33) := ⟨⟨by decide +kernel, by decide +kernel⟩, List.mem_of_getElem? (i := 1033) (by decide +kernel), List.mem_of_getElem? (i := 1381) (by decide +kernel), List.mem_of_getElem? (i := 1382) (by decide +kernel)⟩
theorem lw_p78 : lw_okq (⟨"KeyMatrixModel", "timeAt", "(I)I"⟩, 33) := ⟨⟨by decide +kernel, by decide +kernel⟩, List.mem_of_getElem? (i := 1033) (by decide +kernel), List.mem_of_getElem? (i := 1385) (by decide +kernel), List.mem_of_getElem? (i := 1386) (by decide +kernel)⟩
theorem lw_p79 : lw_okq (⟨"KeyMatrixModel", "chords", "(III)V"⟩, 33) := ⟨⟨by decide +kernel, by decide +kernel⟩, List.mem_of_getElem? (i := 1033) (by decide +kernel), List.mem_of_getElem? (i := 1389) (by decide +kernel), List.mem_of_getElem? (i := 1390) (by decide +kernel)⟩
def lw_privs_5 : List (MethodName × Nat) := [(⟨"KeyMatrixModel", "keyAt", "(I)I"⟩, 33), (⟨"KeyMatrixModel", "isDownAt", "(I)Z"⟩, 33), (⟨"KeyMatrixModel", "drops", "(I)V"⟩, 33), (⟨"KeyMatrixModel", "ends", "(I)V"⟩, 33), (⟨"KeyMatrixModel", "chordOf", "(I)I"⟩, 33), (⟨"KeyMatrixModel", "stops", "(I)V"⟩, 33), (⟨"KeyMatrixModel", "reports", "()V"⟩, 33), (⟨"KeyMatrixModel", "laysSent", "()V"⟩, 33), (⟨"KeyMatrixModel", "nextBegun", "(I)I"⟩, 33), (⟨"KeyMatrixModel", "adds", "(I)V"⟩, 33), (⟨"KeyMatrixModel", "isLatest", "(I)Z"⟩, 33), (⟨"KeyMatrixModel", "reportAt", "(I)I"⟩, 33), (⟨"KeyMatrixModel", "hears", "(I)V"⟩, 33), (⟨"KeyMatrixModel", "reportHas", "(II)Z"⟩, 33), (⟨"KeyMatrixModel", "timeAt", "(I)I"⟩, 33), (⟨"KeyMatrixModel", "chords", "(III)V"⟩, 33)]
theorem lw_r5 : ∀ q ∈ lw_privs_5, lw_okq q := List.forall_mem_cons.mpr ⟨lw_p64, List.forall_mem_cons.mpr ⟨lw_p65, List.forall_mem_cons.mpr ⟨lw_p66, List.forall_mem_cons.mpr ⟨lw_p67, List.forall_mem_cons.mpr ⟨lw_p68, List.forall_mem_cons.mpr ⟨lw_p69, List.forall_mem_cons.mpr ⟨lw_p70, List.forall_mem_cons.mpr ⟨lw_p71, List.forall_mem_cons.mpr ⟨lw_p72, List.forall_mem_cons.mpr ⟨lw_p73, List.forall_mem_cons.mpr ⟨lw_p74, List.forall_mem_cons.mpr ⟨lw_p75, List.forall_mem_cons.mpr ⟨lw_p76, List.forall_mem_cons.mpr ⟨lw_p77, List.forall_mem_cons.mpr ⟨lw_p78, List.forall_mem_cons.mpr ⟨lw_p79, fun _ h => absurd h List.not_mem_nil⟩⟩⟩⟩⟩⟩⟩⟩⟩⟩⟩⟩⟩⟩⟩⟩
theorem lw_p80 : lw_okq (⟨"KeyMatrixModel", "plays", "(I)V"⟩, 33) := ⟨⟨by decide +kernel, by decide +kernel⟩, List.mem_of_getElem? (i := 1033) (by decide +kernel), List.mem_of_getElem? (i := 1393) (by decide +kernel), List.mem_of_getElem? (i := 1394) (by decide +kernel)⟩
theorem lw_p81 : lw_okq (⟨"KeyMatrixModel", "begin", "(III)V"⟩, 33) := ⟨⟨by decide +kernel, by decide +kernel⟩, List.mem_of_getElem? (i := 1033) (by decide +kernel), List.mem_of_getElem? (i := 1397) (by decide +kernel), List.mem_of_getElem? (i := 1398) (by decide +kernel)⟩
theorem lw_p82 : lw_okq (⟨"KeyMatrixModel", "worksAlone", "(II)Z"⟩, 33) := ⟨⟨by decide +kernel, by decide +kernel⟩, List.mem_of_getElem? (i := 1033) (by decide +kernel), List.mem_of_getElem? (i := 1401) (by decide +kernel), List.mem_of_getElem? (i := 1402) (by decide +kernel)⟩
theorem lw_p83 : lw_okq (⟨"KeyMatrixModel", "heldOrTapped", "(II)I"⟩, 33) := ⟨⟨by decide +kernel, by decide +kernel⟩, List.mem_of_getElem? (i := 1033) (by decide +kernel), List.mem_of_getElem? (i := 1405) (by decide +kernel), List.mem_of_getElem? (i := 1406) (by decide +kernel)⟩
theorem lw_p84 : lw_okq (⟨"KeyMatrixModel", "onceOrTwice", "(II)I"⟩, 33) := ⟨⟨by decide +kernel, by decide +kernel⟩, List.mem_of_getElem? (i := 1033) (by decide +kernel), List.mem_of_getElem? (i := 1409) (by decide +kernel), List.mem_of_getElem? (i := 1410) (by decide +kernel)⟩
theorem lw_p85 : lw_okq (⟨"KeyMatrixModel", "dropsTwo", "(I)V"⟩, 33) := ⟨⟨by decide +kernel, by decide +kernel⟩, List.mem_of_getElem? (i := 1033) (by decide +kernel), List.mem_of_getElem? (i := 1413) (by decide +kernel), List.mem_of_getElem? (i := 1414) (by decide +kernel)⟩
theorem lw_p86 : lw_okq (⟨"KeyMatrixModel", "doesPlainly", "(III)V"⟩, 33) := ⟨⟨by decide +kernel, by decide +kernel⟩, List.mem_of_getElem? (i := 1033) (by decide +kernel), List.mem_of_getElem? (i := 1417) (by decide +kernel), List.mem_of_getElem? (i := 1418) (by decide +kernel)⟩
theorem lw_p87 : lw_okq (⟨"KeyMatrixModel", "repeats", "()V"⟩, 33) := ⟨⟨by decide +kernel, by decide +kernel⟩, List.mem_of_getElem? (i := 1033) (by decide +kernel), List.mem_of_getElem? (i := 1423) (by decide +kernel), List.mem_of_getElem? (i := 1424) (by decide +kernel)⟩
theorem lw_p88 : lw_okq (⟨"KeyMatrixModel", "reportsKept", "()I"⟩, 33) := ⟨⟨by decide +kernel, by decide +kernel⟩, List.mem_of_getElem? (i := 1033) (by decide +kernel), List.mem_of_getElem? (i := 1448) (by decide +kernel), List.mem_of_getElem? (i := 1449) (by decide +kernel)⟩
def lw_privs_6 : List (MethodName × Nat) := [(⟨"KeyMatrixModel", "plays", "(I)V"⟩, 33), (⟨"KeyMatrixModel", "begin", "(III)V"⟩, 33), (⟨"KeyMatrixModel", "worksAlone", "(II)Z"⟩, 33), (⟨"KeyMatrixModel", "heldOrTapped", "(II)I"⟩, 33), (⟨"KeyMatrixModel", "onceOrTwice", "(II)I"⟩, 33), (⟨"KeyMatrixModel", "dropsTwo", "(I)V"⟩, 33), (⟨"KeyMatrixModel", "doesPlainly", "(III)V"⟩, 33), (⟨"KeyMatrixModel", "repeats", "()V"⟩, 33), (⟨"KeyMatrixModel", "reportsKept", "()I"⟩, 33)]
theorem lw_r6 : ∀ q ∈ lw_privs_6, lw_okq q := List.forall_mem_cons.mpr ⟨lw_p80, List.forall_mem_cons.mpr ⟨lw_p81, List.forall_mem_cons.mpr ⟨lw_p82, List.forall_mem_cons.mpr ⟨lw_p83, List.forall_mem_cons.mpr ⟨lw_p84, List.forall_mem_cons.mpr ⟨lw_p85, List.forall_mem_cons.mpr ⟨lw_p86, List.forall_mem_cons.mpr ⟨lw_p87, List.forall_mem_cons.mpr ⟨lw_p88, fun _ h => absurd h List.not_mem_nil⟩⟩⟩⟩⟩⟩⟩⟩⟩
def lw_privs : List (MethodName × Nat) := lw_privs_1 ++ (lw_privs_2 ++ (lw_privs_3 ++ (lw_privs_4 ++ (lw_privs_5 ++ (lw_privs_6)))))
def lw_tbl : List Cond := k2_sels lw_privs ++ tables_1
theorem lw_privs_ok : ∀ q ∈ lw_privs, lw_okq q := by
  show ∀ q ∈ lw_privs_1 ++ (lw_privs_2 ++ (lw_privs_3 ++ (lw_privs_4 ++ (lw_privs_5 ++ (lw_privs_6))))), lw_okq q
  exact List.forall_mem_append.mpr ⟨lw_r1, List.forall_mem_append.mpr ⟨lw_r2, List.forall_mem_append.mpr ⟨lw_r3, List.forall_mem_append.mpr ⟨lw_r4, List.forall_mem_append.mpr ⟨lw_r5, lw_r6⟩⟩⟩⟩⟩
/-- the streams that the claim lets the run draw from -/
abbrev lw_cs : List Choice := [Jvm.Choice.named "NaN.bits"]
theorem lw_bits : nanBits ∈ lw_cs := by first | decide | exact List.mem_cons_self | simp [lw_cs, nanBits]
-- ===== end of PART A; then your names; then what follows =====
/-! ===== BEGIN words of one list among another's, by their places ===== -/
theorem goodIn_r {big : List Cond} (ws : List Cond) (ps : List Nat) (hp : ws = ps.filterMap (fun i => big[i]?)) (h : ws.all goodWord = true) : GoodIn big ws := by
  intro w hw
  have h1 := List.all_eq_true.mp h w hw
  rw [hp] at hw
  obtain ⟨i, -, hi⟩ := List.mem_filterMap.mp hw
  have hm : w ∈ big := by first | exact List.mem_of_getElem? hi | exact List.getElem?_mem hi
  exact ⟨hm, good_of_word h1⟩
theorem goodIn_app {big a b : List Cond} (ha : GoodIn big a) (hb : GoodIn big b) : GoodIn big (a ++ b) := fun w h => (List.mem_append.mp h).elim (ha w) (hb w)
theorem goodIn_ca {big a b : List Cond} {c : Cond} (ha : GoodIn big (c :: a)) (hb : GoodIn big b) : GoodIn big (c :: (a ++ b)) := fun w h => (List.mem_cons.mp h).elim (fun e => ha w (List.mem_cons.mpr (Or.inl e))) (fun h => (List.mem_append.mp h).elim (fun h => ha w (List.mem_cons.mpr (Or.inr h))) (hb w))
theorem goodIn_sub {big ws : List Cond} (hm : ∀ w ∈ ws, w ∈ big) (h : ws.all goodWord = true) : GoodIn big ws := fun w hw => ⟨hm w hw, good_of_word (List.all_eq_true.mp h w hw)⟩
/-! ===== END ===== -/

/-! ===== BEGIN printed: names, fields, word lists, decode rows ===== -/
def RX0 : String := "KeyMatrix$Board"
def TX0 : u_T := fun k => match k with
  | 0 => ("KeyMatrix$Board", "rows", "I", false)
  | 1 => ("KeyMatrix$Board", "columns", "I", false)
  | 2 => ("KeyMatrix$Board", "diodes", "Z", false)
  | 3 => ("KeyMatrix$Board", "six", "Z", false)
  | 4 => ("KeyMatrix$Board", "bounce", "I", false)
  | 5 => ("KeyMatrix$Board", "term", "I", false)
  | 6 => ("KeyMatrix$Board", "chording", "I", false)
  | 7 => ("KeyMatrix$Board", "twice", "I", false)
  | 8 => ("KeyMatrix$Board", "delay", "I", false)
  | 9 => ("KeyMatrix$Board", "rate", "I", false)
  | 10 => ("KeyMatrix$Board", "deeds", "[LKeyMatrix$Deed;", true)
  | 11 => ("KeyMatrix$Board", "nothing", "LKeyMatrix$Deed;", true)
  | 12 => ("KeyMatrix$Board", "chordCount", "I", false)
  | 13 => ("KeyMatrix$Board", "chordFirst", "[I", true)
  | 14 => ("KeyMatrix$Board", "chordOther", "[I", true)
  | 15 => ("KeyMatrix$Board", "chordDeeds", "[LKeyMatrix$Deed;", true)
  | 16 => ("KeyMatrix$Board", "macroCount", "I", false)
  | 17 => ("KeyMatrix$Board", "macroLengths", "[I", true)
  | _ => ("KeyMatrix$Board", "macroCodes", "[I", true)
def tyX0 : Nat → FieldType := fun k => match k with
  | 0 => .int
  | 1 => .int
  | 2 => .boolean
  | 3 => .boolean
  | 4 => .int
  | 5 => .int
  | 6 => .int
  | 7 => .int
  | 8 => .int
  | 9 => .int
  | 10 => .array (.object "KeyMatrix$Deed")
  | 11 => .object "KeyMatrix$Deed"
  | 12 => .int
  | 13 => .array .int
  | 14 => .array .int
  | 15 => .array (.object "KeyMatrix$Deed")
  | 16 => .int
  | 17 => .array .int
  | _ => .array .int
abbrev wsX00 : List Cond := u_ws RX0 TX0 19
theorem nmX0 : ∀ a, a < 19 → ∀ b, b < 19 → a ≠ b → (TX0 a).2.1 ≠ (TX0 b).2.1 := by decide +kernel
theorem tyX0_ok : ∀ k, k < 19 → parseFieldDescriptor (TX0 k).2.2.1 = some (tyX0 k) := by decide +kernel
abbrev cX0_init : ByteArray := prog_2_method_1_code
def yX0_init : MethodName := ⟨RX0, "<init>", "()V"⟩
abbrev cX0_clear : ByteArray := prog_2_method_2_code
def yX0_clear : MethodName := ⟨RX0, "clear", "()V"⟩
abbrev cX0_copyFrom : ByteArray := prog_2_method_3_code
def yX0_copyFrom : MethodName := ⟨RX0, "copyFrom", "(LKeyMatrix$Board;)V"⟩
abbrev cX0_keys : ByteArray := prog_2_method_4_code
def yX0_keys : MethodName := ⟨RX0, "keys", "()I"⟩
abbrev cX0_hasKey : ByteArray := prog_2_method_5_code
def yX0_hasKey : MethodName := ⟨RX0, "hasKey", "(I)Z"⟩
abbrev cX0_toldDeed : ByteArray := prog_2_method_6_code
def yX0_toldDeed : MethodName := ⟨RX0, "toldDeed", "(II)LKeyMatrix$Deed;"⟩
abbrev cX0_deedIn : ByteArray := prog_2_method_7_code
def yX0_deedIn : MethodName := ⟨RX0, "deedIn", "(II)LKeyMatrix$Deed;"⟩
abbrev cX0_addChord : ByteArray := prog_2_method_8_code
def yX0_addChord : MethodName := ⟨RX0, "addChord", "(IILKeyMatrix$Deed;)V"⟩
abbrev cX0_chordOf : ByteArray := prog_2_method_9_code
def yX0_chordOf : MethodName := ⟨RX0, "chordOf", "(I)I"⟩
abbrev cX0_chordDeed : ByteArray := prog_2_method_10_code
def yX0_chordDeed : MethodName := ⟨RX0, "chordDeed", "(I)LKeyMatrix$Deed;"⟩
abbrev cX0_addMacro : ByteArray := prog_2_method_11_code
def yX0_addMacro : MethodName := ⟨RX0, "addMacro", "(I)V"⟩
abbrev cX0_addMacroCode : ByteArray := prog_2_method_12_code
def yX0_addMacroCode : MethodName := ⟨RX0, "addMacroCode", "(I)V"⟩
abbrev cX0_macroCode : ByteArray := prog_2_method_13_code
def yX0_macroCode : MethodName := ⟨RX0, "macroCode", "(II)I"⟩
def RX1 : String := "KeyMatrix$Course"
def TX1 : u_T := fun k => match k with
  | 0 => ("KeyMatrix$Course", "board", "LKeyMatrix$Board;", true)
  | 1 => ("KeyMatrix$Course", "scan", "LKeyMatrix$Scan;", true)
  | 2 => ("KeyMatrix$Course", "queue", "LKeyMatrix$Queue;", true)
  | 3 => ("KeyMatrix$Course", "doing", "LKeyMatrix$Doing;", true)
  | 4 => ("KeyMatrix$Course", "reports", "LKeyMatrix$Reports;", true)
  | _ => ("KeyMatrix$Course", "now", "I", false)
def tyX1 : Nat → FieldType := fun k => match k with
  | 0 => .object "KeyMatrix$Board"
  | 1 => .object "KeyMatrix$Scan"
  | 2 => .object "KeyMatrix$Queue"
  | 3 => .object "KeyMatrix$Doing"
  | 4 => .object "KeyMatrix$Reports"
  | _ => .int
abbrev wsX10 : List Cond := u_ws RX1 TX1 6
theorem nmX1 : ∀ a, a < 6 → ∀ b, b < 6 → a ≠ b → (TX1 a).2.1 ≠ (TX1 b).2.1 := by decide +kernel
theorem tyX1_ok : ∀ k, k < 6 → parseFieldDescriptor (TX1 k).2.2.1 = some (tyX1 k) := by decide +kernel
abbrev cX1_init : ByteArray := prog_3_method_1_code
def yX1_init : MethodName := ⟨RX1, "<init>", "(LKeyMatrix$Board;)V"⟩
abbrev cX1_clear : ByteArray := prog_3_method_2_code
def yX1_clear : MethodName := ⟨RX1, "clear", "()V"⟩
abbrev cX1_copyFrom : ByteArray := prog_3_method_3_code
def yX1_copyFrom : MethodName := ⟨RX1, "copyFrom", "(LKeyMatrix$Course;)V"⟩
abbrev cX1_activeLayers : ByteArray := prog_3_method_4_code
def yX1_activeLayers : MethodName := ⟨RX1, "activeLayers", "()I"⟩
abbrev cX1_passTick : ByteArray := prog_3_method_5_code
def yX1_passTick : MethodName := ⟨RX1, "passTick", "()V"⟩
abbrev cX1_fateOfFirst : ByteArray := prog_3_method_6_code
def yX1_fateOfFirst : MethodName := ⟨RX1, "fateOfFirst", "()I"⟩
abbrev cX1_fateOfHold : ByteArray := prog_3_method_7_code
def yX1_fateOfHold : MethodName := ⟨RX1, "fateOfHold", "(II)I"⟩
abbrev cX1_fateOfDouble : ByteArray := prog_3_method_8_code
def yX1_fateOfDouble : MethodName := ⟨RX1, "fateOfDouble", "(II)I"⟩
abbrev cX1_workOff : ByteArray := prog_3_method_9_code
def yX1_workOff : MethodName := ⟨RX1, "workOff", "(I)V"⟩
abbrev cX1_perform : ByteArray := prog_3_method_10_code
def yX1_perform : MethodName := ⟨RX1, "perform", "(IIII)V"⟩
abbrev cX1_send : ByteArray := prog_3_method_11_code
def yX1_send : MethodName := ⟨RX1, "send", "(I)V"⟩
def RX2 : String := "KeyMatrix$Deed"
def TX2 : u_T := fun k => match k with
  | 0 => ("KeyMatrix$Deed", "kind", "I", false)
  | 1 => ("KeyMatrix$Deed", "first", "I", false)
  | _ => ("KeyMatrix$Deed", "second", "I", false)
def tyX2 : Nat → FieldType := fun k => match k with
  | 0 => .int
  | 1 => .int
  | _ => .int
abbrev wsX20 : List Cond := u_ws RX2 TX2 3
theorem nmX2 : ∀ a, a < 3 → ∀ b, b < 3 → a ≠ b → (TX2 a).2.1 ≠ (TX2 b).2.1 := by decide +kernel
theorem tyX2_ok : ∀ k, k < 3 → parseFieldDescriptor (TX2 k).2.2.1 = some (tyX2 k) := by decide +kernel
abbrev cX2_init : ByteArray := prog_4_method_1_code
def yX2_init : MethodName := ⟨RX2, "<init>", "()V"⟩
abbrev cX2_tell : ByteArray := prog_4_method_2_code
def yX2_tell : MethodName := ⟨RX2, "tell", "(III)V"⟩
abbrev cX2_copyFrom : ByteArray := prog_4_method_3_code
def yX2_copyFrom : MethodName := ⟨RX2, "copyFrom", "(LKeyMatrix$Deed;)V"⟩
def RX3 : String := "KeyMatrix$Doing"
def TX3 : u_T := fun k => match k with
  | 0 => ("KeyMatrix$Doing", "kind", "[I", true)
  | 1 => ("KeyMatrix$Doing", "which", "[I", true)
  | 2 => ("KeyMatrix$Doing", "partner", "[I", true)
  | 3 => ("KeyMatrix$Doing", "order", "[I", true)
  | 4 => ("KeyMatrix$Doing", "busy", "I", false)
  | 5 => ("KeyMatrix$Doing", "toggled", "I", false)
  | 6 => ("KeyMatrix$Doing", "mods", "I", false)
  | 7 => ("KeyMatrix$Doing", "codes", "[I", true)
  | _ => ("KeyMatrix$Doing", "codeCount", "I", false)
def tyX3 : Nat → FieldType := fun k => match k with
  | 0 => .array .int
  | 1 => .array .int
  | 2 => .array .int
  | 3 => .array .int
  | 4 => .int
  | 5 => .int
  | 6 => .int
  | 7 => .array .int
  | _ => .int
abbrev wsX30 : List Cond := u_ws RX3 TX3 9
theorem nmX3 : ∀ a, a < 9 → ∀ b, b < 9 → a ≠ b → (TX3 a).2.1 ≠ (TX3 b).2.1 := by decide +kernel
theorem tyX3_ok : ∀ k, k < 9 → parseFieldDescriptor (TX3 k).2.2.1 = some (tyX3 k) := by decide +kernel
abbrev cX3_init : ByteArray := prog_5_method_1_code
def yX3_init : MethodName := ⟨RX3, "<init>", "()V"⟩
abbrev cX3_clear : ByteArray := prog_5_method_2_code
def yX3_clear : MethodName := ⟨RX3, "clear", "()V"⟩
abbrev cX3_copyFrom : ByteArray := prog_5_method_3_code
def yX3_copyFrom : MethodName := ⟨RX3, "copyFrom", "(LKeyMatrix$Doing;)V"⟩
abbrev cX3_begin : ByteArray := prog_5_method_4_code
def yX3_begin : MethodName := ⟨RX3, "begin", "(IIII)V"⟩
abbrev cX3_end : ByteArray := prog_5_method_5_code
def yX3_end : MethodName := ⟨RX3, "end", "(I)V"⟩
abbrev cX3_drop : ByteArray := prog_5_method_6_code
def yX3_drop : MethodName := ⟨RX3, "drop", "(I)V"⟩
abbrev cX3_gather : ByteArray := prog_5_method_7_code
def yX3_gather : MethodName := ⟨RX3, "gather", "(I)V"⟩
abbrev cX3_addCode : ByteArray := prog_5_method_8_code
def yX3_addCode : MethodName := ⟨RX3, "addCode", "(I)V"⟩
abbrev cX3_sends : ByteArray := prog_5_method_9_code
def yX3_sends : MethodName := ⟨RX3, "sends", "(I)Z"⟩
def RX4 : String := "KeyMatrix$Queue"
def TX4 : u_T := fun k => match k with
  | 0 => ("KeyMatrix$Queue", "events", "[I", true)
  | 1 => ("KeyMatrix$Queue", "size", "I", false)
  | _ => ("KeyMatrix$Queue", "total", "I", false)
def tyX4 : Nat → FieldType := fun k => match k with
  | 0 => .array .int
  | 1 => .int
  | _ => .int
abbrev wsX40 : List Cond := u_ws RX4 TX4 3
theorem nmX4 : ∀ a, a < 3 → ∀ b, b < 3 → a ≠ b → (TX4 a).2.1 ≠ (TX4 b).2.1 := by decide +kernel
theorem tyX4_ok : ∀ k, k < 3 → parseFieldDescriptor (TX4 k).2.2.1 = some (tyX4 k) := by decide +kernel
abbrev cX4_init : ByteArray := prog_6_method_1_code
def yX4_init : MethodName := ⟨RX4, "<init>", "()V"⟩
abbrev cX4_clear : ByteArray := prog_6_method_2_code
def yX4_clear : MethodName := ⟨RX4, "clear", "()V"⟩
abbrev cX4_copyFrom : ByteArray := prog_6_method_3_code
def yX4_copyFrom : MethodName := ⟨RX4, "copyFrom", "(LKeyMatrix$Queue;)V"⟩
abbrev cX4_add : ByteArray := prog_6_method_4_code
def yX4_add : MethodName := ⟨RX4, "add", "(IZI)V"⟩
abbrev cX4_drop : ByteArray := prog_6_method_5_code
def yX4_drop : MethodName := ⟨RX4, "drop", "(I)V"⟩
abbrev cX4_dropNext : ByteArray := prog_6_method_6_code
def yX4_dropNext : MethodName := ⟨RX4, "dropNext", "(IZ)V"⟩
abbrev cX4_keyAt : ByteArray := prog_6_method_7_code
def yX4_keyAt : MethodName := ⟨RX4, "keyAt", "(I)I"⟩
abbrev cX4_isDownAt : ByteArray := prog_6_method_8_code
def yX4_isDownAt : MethodName := ⟨RX4, "isDownAt", "(I)Z"⟩
abbrev cX4_tickAt : ByteArray := prog_6_method_9_code
def yX4_tickAt : MethodName := ⟨RX4, "tickAt", "(I)I"⟩
def RX5 : String := "KeyMatrix$Reports"
def TX5 : u_T := fun k => match k with
  | 0 => ("KeyMatrix$Reports", "ticks", "[I", true)
  | 1 => ("KeyMatrix$Reports", "mods", "[I", true)
  | 2 => ("KeyMatrix$Reports", "counts", "[I", true)
  | 3 => ("KeyMatrix$Reports", "codes", "[I", true)
  | 4 => ("KeyMatrix$Reports", "total", "I", false)
  | 5 => ("KeyMatrix$Reports", "latest", "I", false)
  | 6 => ("KeyMatrix$Reports", "since", "I", false)
  | 7 => ("KeyMatrix$Reports", "repeats", "I", false)
  | _ => ("KeyMatrix$Reports", "repeatsOfLatest", "I", false)
def tyX5 : Nat → FieldType := fun k => match k with
  | 0 => .array .int
  | 1 => .array .int
  | 2 => .array .int
  | 3 => .array .int
  | 4 => .int
  | 5 => .int
  | 6 => .int
  | 7 => .int
  | _ => .int
abbrev wsX50 : List Cond := u_ws RX5 TX5 9
theorem nmX5 : ∀ a, a < 9 → ∀ b, b < 9 → a ≠ b → (TX5 a).2.1 ≠ (TX5 b).2.1 := by decide +kernel
theorem tyX5_ok : ∀ k, k < 9 → parseFieldDescriptor (TX5 k).2.2.1 = some (tyX5 k) := by decide +kernel
abbrev cX5_init : ByteArray := prog_7_method_1_code
def yX5_init : MethodName := ⟨RX5, "<init>", "()V"⟩
abbrev cX5_clear : ByteArray := prog_7_method_2_code
def yX5_clear : MethodName := ⟨RX5, "clear", "()V"⟩
abbrev cX5_copyFrom : ByteArray := prog_7_method_3_code
def yX5_copyFrom : MethodName := ⟨RX5, "copyFrom", "(LKeyMatrix$Reports;)V"⟩
abbrev cX5_rowOf : ByteArray := prog_7_method_4_code
def yX5_rowOf : MethodName := ⟨RX5, "rowOf", "(I)I"⟩
abbrev cX5_codeAt : ByteArray := prog_7_method_5_code
def yX5_codeAt : MethodName := ⟨RX5, "codeAt", "(II)I"⟩
abbrev cX5_reportIfUnlike : ByteArray := prog_7_method_6_code
def yX5_reportIfUnlike : MethodName := ⟨RX5, "reportIfUnlike", "(LKeyMatrix$Doing;ZI)V"⟩
abbrev cX5_isAlike : ByteArray := prog_7_method_7_code
def yX5_isAlike : MethodName := ⟨RX5, "isAlike", "(ILKeyMatrix$Doing;Z)Z"⟩
abbrev cX5_renewLatest : ByteArray := prog_7_method_8_code
def yX5_renewLatest : MethodName := ⟨RX5, "renewLatest", "(ILKeyMatrix$Doing;ZI)V"⟩
abbrev cX5_makeLatest : ByteArray := prog_7_method_9_code
def yX5_makeLatest : MethodName := ⟨RX5, "makeLatest", "(II)V"⟩
abbrev cX5_hasCode : ByteArray := prog_7_method_10_code
def yX5_hasCode : MethodName := ⟨RX5, "hasCode", "(II)Z"⟩
abbrev cX5_repeatLatest : ByteArray := prog_7_method_11_code
def yX5_repeatLatest : MethodName := ⟨RX5, "repeatLatest", "(III)V"⟩
def RX6 : String := "KeyMatrix$Scan"
def TX6 : u_T := fun k => match k with
  | 0 => ("KeyMatrix$Scan", "closed", "I", false)
  | 1 => ("KeyMatrix$Scan", "seen", "I", false)
  | 2 => ("KeyMatrix$Scan", "barred", "I", false)
  | 3 => ("KeyMatrix$Scan", "down", "I", false)
  | 4 => ("KeyMatrix$Scan", "unlike", "[I", true)
  | 5 => ("KeyMatrix$Scan", "steady", "[F", true)
  | 6 => ("KeyMatrix$Scan", "strokes", "[I", true)
  | 7 => ("KeyMatrix$Scan", "longest", "[I", true)
  | _ => ("KeyMatrix$Scan", "lastEvent", "[I", true)
def tyX6 : Nat → FieldType := fun k => match k with
  | 0 => .int
  | 1 => .int
  | 2 => .int
  | 3 => .int
  | 4 => .array .int
  | 5 => .array .float
  | 6 => .array .int
  | 7 => .array .int
  | _ => .array .int
abbrev wsX60 : List Cond := u_ws RX6 TX6 9
theorem nmX6 : ∀ a, a < 9 → ∀ b, b < 9 → a ≠ b → (TX6 a).2.1 ≠ (TX6 b).2.1 := by decide +kernel
theorem tyX6_ok : ∀ k, k < 9 → parseFieldDescriptor (TX6 k).2.2.1 = some (tyX6 k) := by decide +kernel
abbrev cX6_init : ByteArray := prog_8_method_1_code
def yX6_init : MethodName := ⟨RX6, "<init>", "()V"⟩
abbrev cX6_clear : ByteArray := prog_8_method_2_code
def yX6_clear : MethodName := ⟨RX6, "clear", "()V"⟩
abbrev cX6_copyFrom : ByteArray := prog_8_method_3_code
def yX6_copyFrom : MethodName := ⟨RX6, "copyFrom", "(LKeyMatrix$Scan;)V"⟩
abbrev cX6_weighSteady : ByteArray := prog_8_method_4_code
def yX6_weighSteady : MethodName := ⟨RX6, "weighSteady", "(I)V"⟩
abbrev cX6_changes : ByteArray := prog_8_method_5_code
def yX6_changes : MethodName := ⟨RX6, "changes", "(II)Z"⟩
abbrev cX6_change : ByteArray := prog_8_method_6_code
def yX6_change : MethodName := ⟨RX6, "change", "(II)V"⟩
def RX7 : String := "KeyMatrix$TextReader"
def TX7 : u_T := fun k => match k with
  | 0 => ("KeyMatrix$TextReader", "tokens", "LKeyMatrix$Tokens;", true)
  | 1 => ("KeyMatrix$TextReader", "told", "LKeyMatrix$Deed;", true)
  | 2 => ("KeyMatrix$TextReader", "draft", "LKeyMatrix$Board;", true)
  | 3 => ("KeyMatrix$TextReader", "at", "I", false)
  | 4 => ("KeyMatrix$TextReader", "number", "I", false)
  | 5 => ("KeyMatrix$TextReader", "fault", "I", false)
  | 6 => ("KeyMatrix$TextReader", "faultToken", "I", false)
  | 7 => ("KeyMatrix$TextReader", "faultPlace", "I", false)
  | 8 => ("KeyMatrix$TextReader", "laterFault", "I", false)
  | _ => ("KeyMatrix$TextReader", "laterToken", "I", false)
def tyX7 : Nat → FieldType := fun k => match k with
  | 0 => .object "KeyMatrix$Tokens"
  | 1 => .object "KeyMatrix$Deed"
  | 2 => .object "KeyMatrix$Board"
  | 3 => .int
  | 4 => .int
  | 5 => .int
  | 6 => .int
  | 7 => .int
  | 8 => .int
  | _ => .int
abbrev wsX70 : List Cond := u_ws RX7 TX7 10
theorem nmX7 : ∀ a, a < 10 → ∀ b, b < 10 → a ≠ b → (TX7 a).2.1 ≠ (TX7 b).2.1 := by decide +kernel
theorem tyX7_ok : ∀ k, k < 10 → parseFieldDescriptor (TX7 k).2.2.1 = some (tyX7 k) := by decide +kernel
abbrev cX7_init : ByteArray := prog_9_method_1_code
def yX7_init : MethodName := ⟨RX7, "<init>", "()V"⟩
abbrev cX7_readTape : ByteArray := prog_9_method_2_code
def yX7_readTape : MethodName := ⟨RX7, "readTape", "([BI)I"⟩
abbrev cX7_takeBoard : ByteArray := prog_9_method_3_code
def yX7_takeBoard : MethodName := ⟨RX7, "takeBoard", "()Z"⟩
abbrev cX7_takeLine : ByteArray := prog_9_method_4_code
def yX7_takeLine : MethodName := ⟨RX7, "takeLine", "()Z"⟩
abbrev cX7_takeSetting : ByteArray := prog_9_method_5_code
def yX7_takeSetting : MethodName := ⟨RX7, "takeSetting", "(LKeyMatrix$Word;)Z"⟩
abbrev cX7_takeKey : ByteArray := prog_9_method_6_code
def yX7_takeKey : MethodName := ⟨RX7, "takeKey", "()Z"⟩
abbrev cX7_takeChord : ByteArray := prog_9_method_7_code
def yX7_takeChord : MethodName := ⟨RX7, "takeChord", "()Z"⟩
abbrev cX7_takeChordKey : ByteArray := prog_9_method_8_code
def yX7_takeChordKey : MethodName := ⟨RX7, "takeChordKey", "(I)Z"⟩
abbrev cX7_takeMacro : ByteArray := prog_9_method_9_code
def yX7_takeMacro : MethodName := ⟨RX7, "takeMacro", "()Z"⟩
abbrev cX7_takeDeed : ByteArray := prog_9_method_10_code
def yX7_takeDeed : MethodName := ⟨RX7, "takeDeed", "()Z"⟩
abbrev cX7_takeNumber : ByteArray := prog_9_method_11_code
def yX7_takeNumber : MethodName := ⟨RX7, "takeNumber", "(II)Z"⟩
abbrev cX7_takeToken : ByteArray := prog_9_method_12_code
def yX7_takeToken : MethodName := ⟨RX7, "takeToken", "(I)Z"⟩
abbrev cX7_fail : ByteArray := prog_9_method_13_code
def yX7_fail : MethodName := ⟨RX7, "fail", "(I)Z"⟩
abbrev cX7_noteLater : ByteArray := prog_9_method_14_code
def yX7_noteLater : MethodName := ⟨RX7, "noteLater", "(II)V"⟩
def RX8 : String := "KeyMatrix$Tokens"
def TX8 : u_T := fun k => match k with
  | 0 => ("KeyMatrix$Tokens", "kinds", "[I", true)
  | 1 => ("KeyMatrix$Tokens", "places", "[I", true)
  | 2 => ("KeyMatrix$Tokens", "numbers", "[I", true)
  | 3 => ("KeyMatrix$Tokens", "words", "[LKeyMatrix$Word;", true)
  | 4 => ("KeyMatrix$Tokens", "size", "I", false)
  | _ => ("KeyMatrix$Tokens", "end", "I", false)
def tyX8 : Nat → FieldType := fun k => match k with
  | 0 => .array .int
  | 1 => .array .int
  | 2 => .array .int
  | 3 => .array (.object "KeyMatrix$Word")
  | 4 => .int
  | _ => .int
abbrev wsX80 : List Cond := u_ws RX8 TX8 6
theorem nmX8 : ∀ a, a < 6 → ∀ b, b < 6 → a ≠ b → (TX8 a).2.1 ≠ (TX8 b).2.1 := by decide +kernel
theorem tyX8_ok : ∀ k, k < 6 → parseFieldDescriptor (TX8 k).2.2.1 = some (tyX8 k) := by decide +kernel
abbrev cX8_init : ByteArray := prog_10_method_1_code
def yX8_init : MethodName := ⟨RX8, "<init>", "()V"⟩
abbrev cX8_cut : ByteArray := prog_10_method_2_code
def yX8_cut : MethodName := ⟨RX8, "cut", "([BI)V"⟩
abbrev cX8_skipBlanks : ByteArray := prog_10_method_3_code
def yX8_skipBlanks : MethodName := ⟨RX8, "skipBlanks", "([BI)I"⟩
abbrev cX8_cutWord : ByteArray := prog_10_method_4_code
def yX8_cutWord : MethodName := ⟨RX8, "cutWord", "([BI)I"⟩
abbrev cX8_cutInt : ByteArray := prog_10_method_5_code
def yX8_cutInt : MethodName := ⟨RX8, "cutInt", "([BI)I"⟩
abbrev cX8_isSpelt : ByteArray := prog_10_method_6_code
def yX8_isSpelt : MethodName := ⟨RX8, "isSpelt", "(Ljava/lang/String;[BII)Z"⟩
abbrev cX8_isLetter : ByteArray := prog_10_method_7_code
def yX8_isLetter : MethodName := ⟨RX8, "isLetter", "(I)Z"⟩
abbrev cX8_isDigit : ByteArray := prog_10_method_8_code
def yX8_isDigit : MethodName := ⟨RX8, "isDigit", "(I)Z"⟩
abbrev cX8_kindAt : ByteArray := prog_10_method_9_code
def yX8_kindAt : MethodName := ⟨RX8, "kindAt", "(I)I"⟩
abbrev cX8_placeAt : ByteArray := prog_10_method_10_code
def yX8_placeAt : MethodName := ⟨RX8, "placeAt", "(I)I"⟩
abbrev cX8_numberAt : ByteArray := prog_10_method_11_code
def yX8_numberAt : MethodName := ⟨RX8, "numberAt", "(I)I"⟩
abbrev cX8_wordAt : ByteArray := prog_10_method_12_code
def yX8_wordAt : MethodName := ⟨RX8, "wordAt", "(I)LKeyMatrix$Word;"⟩
def RX9 : String := "KeyMatrix$Wiring"
def TX9 : u_T := fun k => match k with
  | 0 => ("KeyMatrix$Wiring", "partOf", "[I", true)
  | 1 => ("KeyMatrix$Wiring", "parts", "I", false)
  | 2 => ("KeyMatrix$Wiring", "seen", "I", false)
  | _ => ("KeyMatrix$Wiring", "barred", "I", false)
def tyX9 : Nat → FieldType := fun k => match k with
  | 0 => .array .int
  | 1 => .int
  | 2 => .int
  | _ => .int
abbrev wsX90 : List Cond := u_ws RX9 TX9 4
theorem nmX9 : ∀ a, a < 4 → ∀ b, b < 4 → a ≠ b → (TX9 a).2.1 ≠ (TX9 b).2.1 := by decide +kernel
theorem tyX9_ok : ∀ k, k < 4 → parseFieldDescriptor (TX9 k).2.2.1 = some (tyX9 k) := by decide +kernel
abbrev cX9_init : ByteArray := prog_11_method_1_code
def yX9_init : MethodName := ⟨RX9, "<init>", "()V"⟩
abbrev cX9_follow : ByteArray := prog_11_method_2_code
def yX9_follow : MethodName := ⟨RX9, "follow", "(LKeyMatrix$Board;I)V"⟩
abbrev cX9_join : ByteArray := prog_11_method_3_code
def yX9_join : MethodName := ⟨RX9, "join", "(LKeyMatrix$Board;I)V"⟩
abbrev cX9_bar : ByteArray := prog_11_method_4_code
def yX9_bar : MethodName := ⟨RX9, "bar", "(LKeyMatrix$Board;I)V"⟩
def RX10 : String := "KeyMatrix$Word"
def TX10 : u_T := fun k => match k with
  | _ => ("", "", "", false)
def tyX10 : Nat → FieldType := fun k => match k with
  | _ => .int
abbrev wsX100 : List Cond := u_ws RX10 TX10 0
theorem nmX10 : ∀ a, a < 0 → ∀ b, b < 0 → a ≠ b → (TX10 a).2.1 ≠ (TX10 b).2.1 := by decide +kernel
theorem tyX10_ok : ∀ k, k < 0 → parseFieldDescriptor (TX10 k).2.2.1 = some (tyX10 k) := by decide +kernel
def RX11 : String := "KeyMatrix"
def TX11 : u_T := fun k => match k with
  | 0 => ("KeyMatrix", "tape", "[B", true)
  | 1 => ("KeyMatrix", "tapeLength", "I", false)
  | 2 => ("KeyMatrix", "faultPlace", "I", false)
  | 3 => ("KeyMatrix", "reader", "LKeyMatrix$TextReader;", true)
  | 4 => ("KeyMatrix", "board", "LKeyMatrix$Board;", true)
  | 5 => ("KeyMatrix", "wiring", "LKeyMatrix$Wiring;", true)
  | 6 => ("KeyMatrix", "course", "LKeyMatrix$Course;", true)
  | 7 => ("KeyMatrix", "preview", "LKeyMatrix$Course;", true)
  | 8 => ("KeyMatrix", "slots", "[LKeyMatrix$Course;", true)
  | _ => ("KeyMatrix", "slotsHeld", "I", false)
def tyX11 : Nat → FieldType := fun k => match k with
  | 0 => .array .byte
  | 1 => .int
  | 2 => .int
  | 3 => .object "KeyMatrix$TextReader"
  | 4 => .object "KeyMatrix$Board"
  | 5 => .object "KeyMatrix$Wiring"
  | 6 => .object "KeyMatrix$Course"
  | 7 => .object "KeyMatrix$Course"
  | 8 => .array (.object "KeyMatrix$Course")
  | _ => .int
abbrev wsX110 : List Cond := u_ws RX11 TX11 10
theorem nmX11 : ∀ a, a < 10 → ∀ b, b < 10 → a ≠ b → (TX11 a).2.1 ≠ (TX11 b).2.1 := by decide +kernel
theorem tyX11_ok : ∀ k, k < 10 → parseFieldDescriptor (TX11 k).2.2.1 = some (tyX11 k) := by decide +kernel
abbrev cX11_init : ByteArray := prog_1_method_1_code
def yX11_init : MethodName := ⟨RX11, "<init>", "()V"⟩
abbrev cX11_feed : ByteArray := prog_1_method_2_code
def yX11_feed : MethodName := ⟨RX11, "feed", "(IIIII)I"⟩
abbrev cX11_appendFour : ByteArray := prog_1_method_3_code
def yX11_appendFour : MethodName := ⟨RX11, "appendFour", "(I)V"⟩
abbrev cX11_back : ByteArray := prog_1_method_4_code
def yX11_back : MethodName := ⟨RX11, "back", "(I)I"⟩
abbrev cX11_read : ByteArray := prog_1_method_5_code
def yX11_read : MethodName := ⟨RX11, "read", "()I"⟩
abbrev cX11_place : ByteArray := prog_1_method_6_code
def yX11_place : MethodName := ⟨RX11, "place", "()I"⟩
abbrev cX11_press : ByteArray := prog_1_method_7_code
def yX11_press : MethodName := ⟨RX11, "press", "(IZ)Z"⟩
abbrev cX11_tick : ByteArray := prog_1_method_8_code
def yX11_tick : MethodName := ⟨RX11, "tick", "(I)I"⟩
abbrev cX11_key : ByteArray := prog_1_method_9_code
def yX11_key : MethodName := ⟨RX11, "key", "(II)I"⟩
abbrev cX11_deed : ByteArray := prog_1_method_10_code
def yX11_deed : MethodName := ⟨RX11, "deed", "(III)I"⟩
abbrev cX11_does : ByteArray := prog_1_method_11_code
def yX11_does : MethodName := ⟨RX11, "does", "(II)I"⟩
abbrev cX11_event : ByteArray := prog_1_method_12_code
def yX11_event : MethodName := ⟨RX11, "event", "(II)I"⟩
abbrev cX11_report : ByteArray := prog_1_method_13_code
def yX11_report : MethodName := ⟨RX11, "report", "(II)I"⟩
abbrev cX11_sent : ByteArray := prog_1_method_14_code
def yX11_sent : MethodName := ⟨RX11, "sent", "(I)I"⟩
abbrev cX11_host : ByteArray := prog_1_method_15_code
def yX11_host : MethodName := ⟨RX11, "host", "(I)I"⟩
abbrev cX11_strokes : ByteArray := prog_1_method_16_code
def yX11_strokes : MethodName := ⟨RX11, "strokes", "(II)I"⟩
abbrev cX11_chord : ByteArray := prog_1_method_17_code
def yX11_chord : MethodName := ⟨RX11, "chord", "(II)I"⟩
abbrev cX11_macro : ByteArray := prog_1_method_18_code
def yX11_macro : MethodName := ⟨RX11, "macro", "(II)I"⟩
abbrev cX11_ghosts : ByteArray := prog_1_method_19_code
def yX11_ghosts : MethodName := ⟨RX11, "ghosts", "(II)I"⟩
abbrev cX11_ahead : ByteArray := prog_1_method_20_code
def yX11_ahead : MethodName := ⟨RX11, "ahead", "(II)I"⟩
abbrev cX11_hold : ByteArray := prog_1_method_21_code
def yX11_hold : MethodName := ⟨RX11, "hold", "(I)Z"⟩
abbrev cX11_restore : ByteArray := prog_1_method_22_code
def yX11_restore : MethodName := ⟨RX11, "restore", "(I)Z"⟩
abbrev cX11_count : ByteArray := prog_1_method_23_code
def yX11_count : MethodName := ⟨RX11, "count", "(I)I"⟩
abbrev cX11_setting : ByteArray := prog_1_method_24_code
def yX11_setting : MethodName := ⟨RX11, "setting", "(I)I"⟩
abbrev cX11_isIn : ByteArray := prog_1_method_25_code
def yX11_isIn : MethodName := ⟨RX11, "isIn", "(II)Z"⟩
abbrev cX11_bitOf : ByteArray := prog_1_method_26_code
def yX11_bitOf : MethodName := ⟨RX11, "bitOf", "(II)I"⟩
abbrev cX11_floatBits : ByteArray := prog_1_method_27_code
def yX11_floatBits : MethodName := ⟨RX11, "floatBits", "(F)I"⟩
def RX12 : String := "KeyMatrixModel"
def TX12 : u_T := fun k => match k with
  | 0 => ("KeyMatrixModel", "thrown", "I", false)
  | 1 => ("KeyMatrixModel", "tape", "[B", true)
  | 2 => ("KeyMatrixModel", "taped", "I", false)
  | 3 => ("KeyMatrixModel", "text", "[B", true)
  | 4 => ("KeyMatrixModel", "size", "I", false)
  | 5 => ("KeyMatrixModel", "tKind", "[I", true)
  | 6 => ("KeyMatrixModel", "tPlace", "[I", true)
  | 7 => ("KeyMatrixModel", "tValue", "[I", true)
  | 8 => ("KeyMatrixModel", "tName", "[J", true)
  | 9 => ("KeyMatrixModel", "keys", "[J", true)
  | 10 => ("KeyMatrixModel", "tokens", "I", false)
  | 11 => ("KeyMatrixModel", "t", "I", false)
  | 12 => ("KeyMatrixModel", "fault", "I", false)
  | 13 => ("KeyMatrixModel", "faultPlace", "I", false)
  | 14 => ("KeyMatrixModel", "worst", "I", false)
  | 15 => ("KeyMatrixModel", "worstPlace", "I", false)
  | 16 => ("KeyMatrixModel", "place", "I", false)
  | 17 => ("KeyMatrixModel", "now", "[I", true)
  | 18 => ("KeyMatrixModel", "draft", "[I", true)
  | 19 => ("KeyMatrixModel", "steady", "[F", true)
  | 20 => ("KeyMatrixModel", "chordLines", "I", false)
  | 21 => ("KeyMatrixModel", "macroLines", "I", false)
  | 22 => ("KeyMatrixModel", "isBoard", "Z", false)
  | 23 => ("KeyMatrixModel", "deedTold", "[I", true)
  | 24 => ("KeyMatrixModel", "partOf", "[I", true)
  | 25 => ("KeyMatrixModel", "sentMods", "I", false)
  | 26 => ("KeyMatrixModel", "sentMany", "I", false)
  | 27 => ("KeyMatrixModel", "sentCodes", "[I", true)
  | 28 => ("KeyMatrixModel", "aside", "[I", true)
  | 29 => ("KeyMatrixModel", "asideSteady", "[F", true)
  | 30 => ("KeyMatrixModel", "held", "[I", true)
  | 31 => ("KeyMatrixModel", "heldSteady", "[F", true)
  | _ => ("KeyMatrixModel", "isHeld", "[Z", true)
def tyX12 : Nat → FieldType := fun k => match k with
  | 0 => .int
  | 1 => .array .byte
  | 2 => .int
  | 3 => .array .byte
  | 4 => .int
  | 5 => .array .int
  | 6 => .array .int
  | 7 => .array .int
  | 8 => .array .long
  | 9 => .array .long
  | 10 => .int
  | 11 => .int
  | 12 => .int
  | 13 => .int
  | 14 => .int
  | 15 => .int
  | 16 => .int
  | 17 => .array .int
  | 18 => .array .int
  | 19 => .array .float
  | 20 => .int
  | 21 => .int
  | 22 => .boolean
  | 23 => .array .int
  | 24 => .array .int
  | 25 => .int
  | 26 => .int
  | 27 => .array .int
  | 28 => .array .int
  | 29 => .array .float
  | 30 => .array .int
  | 31 => .array .float
  | _ => .array .boolean
abbrev wsX120 : List Cond := u_ws RX12 TX12 33
theorem nmX12 : ∀ a, a < 33 → ∀ b, b < 33 → a ≠ b → (TX12 a).2.1 ≠ (TX12 b).2.1 := by decide +kernel
theorem tyX12_ok : ∀ k, k < 33 → parseFieldDescriptor (TX12 k).2.2.1 = some (tyX12 k) := by decide +kernel
abbrev cX12_init : ByteArray := prog_14_method_2_code
def yX12_init : MethodName := ⟨RX12, "<init>", "()V"⟩
abbrev cX12_feed : ByteArray := prog_14_method_3_code
def yX12_feed : MethodName := ⟨RX12, "feed", "(IIIII)I"⟩
abbrev cX12_lays : ByteArray := prog_14_method_4_code
def yX12_lays : MethodName := ⟨RX12, "lays", "(I)V"⟩
abbrev cX12_back : ByteArray := prog_14_method_5_code
def yX12_back : MethodName := ⟨RX12, "back", "(I)I"⟩
abbrev cX12_byteAt : ByteArray := prog_14_method_6_code
def yX12_byteAt : MethodName := ⟨RX12, "byteAt", "(I)I"⟩
abbrev cX12_isDigit : ByteArray := prog_14_method_7_code
def yX12_isDigit : MethodName := ⟨RX12, "isDigit", "(I)Z"⟩
abbrev cX12_isLetter : ByteArray := prog_14_method_8_code
def yX12_isLetter : MethodName := ⟨RX12, "isLetter", "(I)Z"⟩
abbrev cX12_appends : ByteArray := prog_14_method_9_code
def yX12_appends : MethodName := ⟨RX12, "appends", "(JI)J"⟩
abbrev cX12_letters : ByteArray := prog_14_method_10_code
def yX12_letters : MethodName := ⟨RX12, "letters", "(IIIIIII)J"⟩
abbrev cX12_token : ByteArray := prog_14_method_11_code
def yX12_token : MethodName := ⟨RX12, "token", "(IIIJ)V"⟩
abbrev cX12_cutsText : ByteArray := prog_14_method_12_code
def yX12_cutsText : MethodName := ⟨RX12, "cutsText", "()V"⟩
abbrev cX12_sign : ByteArray := prog_14_method_13_code
def yX12_sign : MethodName := ⟨RX12, "sign", "(II)I"⟩
abbrev cX12_is : ByteArray := prog_14_method_14_code
def yX12_is : MethodName := ⟨RX12, "is", "(I)Z"⟩
abbrev cX12_fail : ByteArray := prog_14_method_15_code
def yX12_fail : MethodName := ⟨RX12, "fail", "(I)V"⟩
abbrev cX12_wrong : ByteArray := prog_14_method_16_code
def yX12_wrong : MethodName := ⟨RX12, "wrong", "(II)V"⟩
abbrev cX12_passes : ByteArray := prog_14_method_17_code
def yX12_passes : MethodName := ⟨RX12, "passes", "()V"⟩
abbrev cX12_must : ByteArray := prog_14_method_18_code
def yX12_must : MethodName := ⟨RX12, "must", "(I)V"⟩
abbrev cX12_begins : ByteArray := prog_14_method_19_code
def yX12_begins : MethodName := ⟨RX12, "begins", "([I)V"⟩
abbrev cX12_startsAnew : ByteArray := prog_14_method_20_code
def yX12_startsAnew : MethodName := ⟨RX12, "startsAnew", "()V"⟩
abbrev cX12_read : ByteArray := prog_14_method_21_code
def yX12_read : MethodName := ⟨RX12, "read", "()I"⟩
abbrev cX12_place : ByteArray := prog_14_method_22_code
def yX12_place : MethodName := ⟨RX12, "place", "()I"⟩
abbrev cX12_tell : ByteArray := prog_14_method_23_code
def yX12_tell : MethodName := ⟨RX12, "tell", "()V"⟩
abbrev cX12_deedRead : ByteArray := prog_14_method_24_code
def yX12_deedRead : MethodName := ⟨RX12, "deedRead", "()V"⟩
abbrev cX12_within : ByteArray := prog_14_method_25_code
def yX12_within : MethodName := ⟨RX12, "within", "(III)I"⟩
abbrev cX12_means : ByteArray := prog_14_method_26_code
def yX12_means : MethodName := ⟨RX12, "means", "()V"⟩
abbrev cX12_meansLine : ByteArray := prog_14_method_27_code
def yX12_meansLine : MethodName := ⟨RX12, "meansLine", "(I)V"⟩
abbrev cX12_meansDeed : ByteArray := prog_14_method_28_code
def yX12_meansDeed : MethodName := ⟨RX12, "meansDeed", "(I)V"⟩
abbrev cX12_keyTold : ByteArray := prog_14_method_29_code
def yX12_keyTold : MethodName := ⟨RX12, "keyTold", "(I)I"⟩
abbrev cX12_meansKey : ByteArray := prog_14_method_30_code
def yX12_meansKey : MethodName := ⟨RX12, "meansKey", "(I)V"⟩
abbrev cX12_isChorded : ByteArray := prog_14_method_31_code
def yX12_isChorded : MethodName := ⟨RX12, "isChorded", "(I)Z"⟩
abbrev cX12_meansChord : ByteArray := prog_14_method_32_code
def yX12_meansChord : MethodName := ⟨RX12, "meansChord", "(I)V"⟩
abbrev cX12_meansMacro : ByteArray := prog_14_method_33_code
def yX12_meansMacro : MethodName := ⟨RX12, "meansMacro", "(I)V"⟩
abbrev cX12_in : ByteArray := prog_14_method_34_code
def yX12_in : MethodName := ⟨RX12, "in", "(III)Z"⟩
abbrev cX12_has : ByteArray := prog_14_method_35_code
def yX12_has : MethodName := ⟨RX12, "has", "(II)Z"⟩
abbrev cX12_bitsOf : ByteArray := prog_14_method_36_code
def yX12_bitsOf : MethodName := ⟨RX12, "bitsOf", "(I)I"⟩
abbrev cX12_keysMany : ByteArray := prog_14_method_37_code
def yX12_keysMany : MethodName := ⟨RX12, "keysMany", "()I"⟩
abbrev cX12_isKey : ByteArray := prog_14_method_38_code
def yX12_isKey : MethodName := ⟨RX12, "isKey", "(I)Z"⟩
abbrev cX12_laysParts : ByteArray := prog_14_method_39_code
def yX12_laysParts : MethodName := ⟨RX12, "laysParts", "(I)I"⟩
abbrev cX12_seenBy : ByteArray := prog_14_method_40_code
def yX12_seenBy : MethodName := ⟨RX12, "seenBy", "(I)I"⟩
abbrev cX12_barredBy : ByteArray := prog_14_method_41_code
def yX12_barredBy : MethodName := ⟨RX12, "barredBy", "(I)I"⟩
abbrev cX12_isCornered : ByteArray := prog_14_method_42_code
def yX12_isCornered : MethodName := ⟨RX12, "isCornered", "(III)Z"⟩
abbrev cX12_press : ByteArray := prog_14_method_43_code
def yX12_press : MethodName := ⟨RX12, "press", "(IZ)Z"⟩
abbrev cX12_ghosts : ByteArray := prog_14_method_44_code
def yX12_ghosts : MethodName := ⟨RX12, "ghosts", "(II)I"⟩
abbrev cX12_ticks : ByteArray := prog_14_method_45_code
def yX12_ticks : MethodName := ⟨RX12, "ticks", "()V"⟩
abbrev cX12_changes : ByteArray := prog_14_method_46_code
def yX12_changes : MethodName := ⟨RX12, "changes", "(I)V"⟩
abbrev cX12_keyAt : ByteArray := prog_14_method_47_code
def yX12_keyAt : MethodName := ⟨RX12, "keyAt", "(I)I"⟩
abbrev cX12_isDownAt : ByteArray := prog_14_method_48_code
def yX12_isDownAt : MethodName := ⟨RX12, "isDownAt", "(I)Z"⟩
abbrev cX12_timeAt : ByteArray := prog_14_method_49_code
def yX12_timeAt : MethodName := ⟨RX12, "timeAt", "(I)I"⟩
abbrev cX12_drops : ByteArray := prog_14_method_50_code
def yX12_drops : MethodName := ⟨RX12, "drops", "(I)V"⟩
abbrev cX12_chordOf : ByteArray := prog_14_method_51_code
def yX12_chordOf : MethodName := ⟨RX12, "chordOf", "(I)I"⟩
abbrev cX12_works : ByteArray := prog_14_method_52_code
def yX12_works : MethodName := ⟨RX12, "works", "()Z"⟩
abbrev cX12_worksAlone : ByteArray := prog_14_method_53_code
def yX12_worksAlone : MethodName := ⟨RX12, "worksAlone", "(II)Z"⟩
abbrev cX12_heldOrTapped : ByteArray := prog_14_method_54_code
def yX12_heldOrTapped : MethodName := ⟨RX12, "heldOrTapped", "(II)I"⟩
abbrev cX12_onceOrTwice : ByteArray := prog_14_method_55_code
def yX12_onceOrTwice : MethodName := ⟨RX12, "onceOrTwice", "(II)I"⟩
abbrev cX12_dropsTwo : ByteArray := prog_14_method_56_code
def yX12_dropsTwo : MethodName := ⟨RX12, "dropsTwo", "(I)V"⟩
abbrev cX12_begin : ByteArray := prog_14_method_57_code
def yX12_begin : MethodName := ⟨RX12, "begin", "(III)V"⟩
abbrev cX12_doesPlainly : ByteArray := prog_14_method_58_code
def yX12_doesPlainly : MethodName := ⟨RX12, "doesPlainly", "(III)V"⟩
abbrev cX12_chords : ByteArray := prog_14_method_59_code
def yX12_chords : MethodName := ⟨RX12, "chords", "(III)V"⟩
abbrev cX12_plays : ByteArray := prog_14_method_60_code
def yX12_plays : MethodName := ⟨RX12, "plays", "(I)V"⟩
abbrev cX12_ends : ByteArray := prog_14_method_61_code
def yX12_ends : MethodName := ⟨RX12, "ends", "(I)V"⟩
abbrev cX12_stops : ByteArray := prog_14_method_62_code
def yX12_stops : MethodName := ⟨RX12, "stops", "(I)V"⟩
abbrev cX12_activeLayers : ByteArray := prog_14_method_63_code
def yX12_activeLayers : MethodName := ⟨RX12, "activeLayers", "()I"⟩
abbrev cX12_layerOf : ByteArray := prog_14_method_64_code
def yX12_layerOf : MethodName := ⟨RX12, "layerOf", "(I)I"⟩
abbrev cX12_deed : ByteArray := prog_14_method_65_code
def yX12_deed : MethodName := ⟨RX12, "deed", "(III)I"⟩
abbrev cX12_adds : ByteArray := prog_14_method_66_code
def yX12_adds : MethodName := ⟨RX12, "adds", "(I)V"⟩
abbrev cX12_laysSent : ByteArray := prog_14_method_67_code
def yX12_laysSent : MethodName := ⟨RX12, "laysSent", "()V"⟩
abbrev cX12_nextBegun : ByteArray := prog_14_method_68_code
def yX12_nextBegun : MethodName := ⟨RX12, "nextBegun", "(I)I"⟩
abbrev cX12_reportAt : ByteArray := prog_14_method_69_code
def yX12_reportAt : MethodName := ⟨RX12, "reportAt", "(I)I"⟩
abbrev cX12_isLatest : ByteArray := prog_14_method_70_code
def yX12_isLatest : MethodName := ⟨RX12, "isLatest", "(I)Z"⟩
abbrev cX12_reportHas : ByteArray := prog_14_method_71_code
def yX12_reportHas : MethodName := ⟨RX12, "reportHas", "(II)Z"⟩
abbrev cX12_reports : ByteArray := prog_14_method_72_code
def yX12_reports : MethodName := ⟨RX12, "reports", "()V"⟩
abbrev cX12_hears : ByteArray := prog_14_method_73_code
def yX12_hears : MethodName := ⟨RX12, "hears", "(I)V"⟩
abbrev cX12_repeats : ByteArray := prog_14_method_74_code
def yX12_repeats : MethodName := ⟨RX12, "repeats", "()V"⟩
abbrev cX12_tick : ByteArray := prog_14_method_75_code
def yX12_tick : MethodName := ⟨RX12, "tick", "(I)I"⟩
abbrev cX12_bitsOfNumber : ByteArray := prog_14_method_76_code
def yX12_bitsOfNumber : MethodName := ⟨RX12, "bitsOfNumber", "(F)I"⟩
abbrev cX12_key : ByteArray := prog_14_method_77_code
def yX12_key : MethodName := ⟨RX12, "key", "(II)I"⟩
abbrev cX12_does : ByteArray := prog_14_method_78_code
def yX12_does : MethodName := ⟨RX12, "does", "(II)I"⟩
abbrev cX12_event : ByteArray := prog_14_method_79_code
def yX12_event : MethodName := ⟨RX12, "event", "(II)I"⟩
abbrev cX12_reportsKept : ByteArray := prog_14_method_80_code
def yX12_reportsKept : MethodName := ⟨RX12, "reportsKept", "()I"⟩
abbrev cX12_report : ByteArray := prog_14_method_81_code
def yX12_report : MethodName := ⟨RX12, "report", "(II)I"⟩
abbrev cX12_sent : ByteArray := prog_14_method_82_code
def yX12_sent : MethodName := ⟨RX12, "sent", "(I)I"⟩
abbrev cX12_host : ByteArray := prog_14_method_83_code
def yX12_host : MethodName := ⟨RX12, "host", "(I)I"⟩
abbrev cX12_strokes : ByteArray := prog_14_method_84_code
def yX12_strokes : MethodName := ⟨RX12, "strokes", "(II)I"⟩
abbrev cX12_chord : ByteArray := prog_14_method_85_code
def yX12_chord : MethodName := ⟨RX12, "chord", "(II)I"⟩
abbrev cX12_macro : ByteArray := prog_14_method_86_code
def yX12_macro : MethodName := ⟨RX12, "macro", "(II)I"⟩
abbrev cX12_ahead : ByteArray := prog_14_method_87_code
def yX12_ahead : MethodName := ⟨RX12, "ahead", "(II)I"⟩
abbrev cX12_hold : ByteArray := prog_14_method_88_code
def yX12_hold : MethodName := ⟨RX12, "hold", "(I)Z"⟩
abbrev cX12_restore : ByteArray := prog_14_method_89_code
def yX12_restore : MethodName := ⟨RX12, "restore", "(I)Z"⟩
abbrev cX12_count : ByteArray := prog_14_method_90_code
def yX12_count : MethodName := ⟨RX12, "count", "(I)I"⟩
def RJx29ce0 : String := "java/lang/Enum"
def TJx29ce0 : u_T := fun k => match k with
  | _ => ("", "", "", false)
def tyJx29ce0 : Nat → FieldType := fun k => match k with
  | _ => .int
abbrev wsJx29ce00 : List Cond := u_ws RJx29ce0 TJx29ce0 0
theorem nmJx29ce0 : ∀ a, a < 0 → ∀ b, b < 0 → a ≠ b → (TJx29ce0 a).2.1 ≠ (TJx29ce0 b).2.1 := by decide +kernel
theorem tyJx29ce0_ok : ∀ k, k < 0 → parseFieldDescriptor (TJx29ce0 k).2.2.1 = some (tyJx29ce0 k) := by decide +kernel
def RJ6 : String := "java/lang/Integer"
def TJ6 : u_T := fun k => match k with
  | _ => ("", "", "", false)
def tyJ6 : Nat → FieldType := fun k => match k with
  | _ => .int
abbrev wsJ60 : List Cond := u_ws RJ6 TJ6 0
theorem nmJ6 : ∀ a, a < 0 → ∀ b, b < 0 → a ≠ b → (TJ6 a).2.1 ≠ (TJ6 b).2.1 := by decide +kernel
theorem tyJ6_ok : ∀ k, k < 0 → parseFieldDescriptor (TJ6 k).2.2.1 = some (tyJ6 k) := by decide +kernel
abbrev cJ6_bitCount_0f7a4 : ByteArray := prog_16_method_49_code
def yJ6_bitCount_0f7a4 : MethodName := ⟨RJ6, "bitCount", "(I)I"⟩
def RJ9 : String := "java/lang/Math"
def TJ9 : u_T := fun k => match k with
  | _ => ("", "", "", false)
def tyJ9 : Nat → FieldType := fun k => match k with
  | _ => .int
abbrev wsJ90 : List Cond := u_ws RJ9 TJ9 0
theorem nmJ9 : ∀ a, a < 0 → ∀ b, b < 0 → a ≠ b → (TJ9 a).2.1 ≠ (TJ9 b).2.1 := by decide +kernel
theorem tyJ9_ok : ∀ k, k < 0 → parseFieldDescriptor (TJ9 k).2.2.1 = some (tyJ9 k) := by decide +kernel
abbrev cJ9_max_7cf53 : ByteArray := prog_17_method_65_code
def yJ9_max_7cf53 : MethodName := ⟨RJ9, "max", "(II)I"⟩
def RJ0 : String := "java/lang/String"
def TJ0 : u_T := fun k => match k with
  | _ => ("", "", "", false)
def tyJ0 : Nat → FieldType := fun k => match k with
  | _ => .int
abbrev wsJ00 : List Cond := u_ws RJ0 TJ0 0
theorem nmJ0 : ∀ a, a < 0 → ∀ b, b < 0 → a ≠ b → (TJ0 a).2.1 ≠ (TJ0 b).2.1 := by decide +kernel
theorem tyJ0_ok : ∀ k, k < 0 → parseFieldDescriptor (TJ0 k).2.2.1 = some (tyJ0 k) := by decide +kernel
abbrev cJ0_length_8abf5 : ByteArray := prog_18_method_54_code
def yJ0_length_8abf5 : MethodName := ⟨RJ0, "length", "()I"⟩
abbrev cJ0_charAt_5068e : ByteArray := prog_18_method_56_code
def yJ0_charAt_5068e : MethodName := ⟨RJ0, "charAt", "(I)C"⟩
abbrev cJ0_coder_7d493 : ByteArray := prog_18_method_152_code
def yJ0_coder_7d493 : MethodName := ⟨RJ0, "coder", "()B"⟩
abbrev cJ0_isLatin1_aae02 : ByteArray := prog_18_method_154_code
def yJ0_isLatin1_aae02 : MethodName := ⟨RJ0, "isLatin1", "()Z"⟩
abbrev cJ0_checkIndex_df160 : ByteArray := prog_18_method_155_code
def yJ0_checkIndex_df160 : MethodName := ⟨RJ0, "checkIndex", "(II)V"⟩
def RJ1 : String := "java/lang/StringLatin1"
def TJ1 : u_T := fun k => match k with
  | _ => ("", "", "", false)
def tyJ1 : Nat → FieldType := fun k => match k with
  | _ => .int
abbrev wsJ10 : List Cond := u_ws RJ1 TJ1 0
theorem nmJ1 : ∀ a, a < 0 → ∀ b, b < 0 → a ≠ b → (TJ1 a).2.1 ≠ (TJ1 b).2.1 := by decide +kernel
theorem tyJ1_ok : ∀ k, k < 0 → parseFieldDescriptor (TJ1 k).2.2.1 = some (tyJ1 k) := by decide +kernel
abbrev cJ1_charAt_3b067 : ByteArray := prog_19_method_2_code
def yJ1_charAt_3b067 : MethodName := ⟨RJ1, "charAt", "([BI)C"⟩
def RJ2 : String := "java/lang/StringUTF16"
def TJ2 : u_T := fun k => match k with
  | _ => ("", "", "", false)
def tyJ2 : Nat → FieldType := fun k => match k with
  | _ => .int
abbrev wsJ20 : List Cond := u_ws RJ2 TJ2 0
theorem nmJ2 : ∀ a, a < 0 → ∀ b, b < 0 → a ≠ b → (TJ2 a).2.1 ≠ (TJ2 b).2.1 := by decide +kernel
theorem tyJ2_ok : ∀ k, k < 0 → parseFieldDescriptor (TJ2 k).2.2.1 = some (tyJ2 k) := by decide +kernel
abbrev cJ2_getChar_3b067 : ByteArray := prog_20_method_5_code
def yJ2_getChar_3b067 : MethodName := ⟨RJ2, "getChar", "([BI)C"⟩
abbrev cJ2_length_9d52b : ByteArray := prog_20_method_6_code
def yJ2_length_9d52b : MethodName := ⟨RJ2, "length", "([B)I"⟩
abbrev cJ2_charAt_3b067 : ByteArray := prog_20_method_83_code
def yJ2_charAt_3b067 : MethodName := ⟨RJ2, "charAt", "([BI)C"⟩
abbrev cJ2_checkIndex_2214a : ByteArray := prog_20_method_91_code
def yJ2_checkIndex_2214a : MethodName := ⟨RJ2, "checkIndex", "(I[B)V"⟩
def RJ10 : String := "java/lang/System"
def TJ10 : u_T := fun k => match k with
  | _ => ("", "", "", false)
def tyJ10 : Nat → FieldType := fun k => match k with
  | _ => .int
abbrev wsJ100 : List Cond := u_ws RJ10 TJ10 0
theorem nmJ10 : ∀ a, a < 0 → ∀ b, b < 0 → a ≠ b → (TJ10 a).2.1 ≠ (TJ10 b).2.1 := by decide +kernel
theorem tyJ10_ok : ∀ k, k < 0 → parseFieldDescriptor (TJ10 k).2.2.1 = some (tyJ10 k) := by decide +kernel
def RJ3 : String := "jdk/internal/util/Preconditions"
def TJ3 : u_T := fun k => match k with
  | _ => ("", "", "", false)
def tyJ3 : Nat → FieldType := fun k => match k with
  | _ => .int
abbrev wsJ30 : List Cond := u_ws RJ3 TJ3 0
theorem nmJ3 : ∀ a, a < 0 → ∀ b, b < 0 → a ≠ b → (TJ3 a).2.1 ≠ (TJ3 b).2.1 := by decide +kernel
theorem tyJ3_ok : ∀ k, k < 0 → parseFieldDescriptor (TJ3 k).2.2.1 = some (tyJ3 k) := by decide +kernel
abbrev cJ3_checkIndex_8e157 : ByteArray := prog_22_method_11_code
def yJ3_checkIndex_8e157 : MethodName := ⟨RJ3, "checkIndex", "(IILjava/util/function/BiFunction;)I"⟩
def RL : String := "KeyMatrixLaw"
abbrev cL_law : ByteArray := code
def yL_law : MethodName := ⟨RL, "law", "([I)Z"⟩
theorem inJx29ce0 : ∀ w ∈ wsJx29ce00, w ∈ lw_tbl := by decide +kernel
theorem inJ6 : ∀ w ∈ wsJ60, w ∈ lw_tbl := by decide +kernel
theorem inJ9 : ∀ w ∈ wsJ90, w ∈ lw_tbl := by decide +kernel
theorem inJ0 : ∀ w ∈ wsJ00, w ∈ lw_tbl := by decide +kernel
theorem inJ1 : ∀ w ∈ wsJ10, w ∈ lw_tbl := by decide +kernel
theorem inJ2 : ∀ w ∈ wsJ20, w ∈ lw_tbl := by decide +kernel
theorem inJ10 : ∀ w ∈ wsJ100, w ∈ lw_tbl := by decide +kernel
theorem inJ3 : ∀ w ∈ wsJ30, w ∈ lw_tbl := by decide +kernel
abbrev vwCl : List vw_C := [(RX0, TX0, 19), (RX1, TX1, 6), (RX2, TX2, 3), (RX3, TX3, 9), (RX4, TX4, 3), (RX5, TX5, 9), (RX6, TX6, 9), (RX7, TX7, 10), (RX8, TX8, 6), (RX9, TX9, 4), (RX11, TX11, 10), (RX12, TX12, 33)]
end
section
/-! The world of roles: every cell that the law's two constructors make has a number (its role), in the order of their making.
Shape g: how many, how many slots, kind (below 100: a class of vwCl; from 100 on: a row), length, references. Data d: ints, floats, longs, Words. -/
abbrev Bs : Type := Nat × (Nat → Nat)
def ad (B : Bs) (r : Nat) : Nat := if r < 100000 then B.1 + r else B.2 (r - 100000)
abbrev Gs : Type := Nat × Nat × (Nat → Nat) × (Nat → Nat) × (Nat → Nat → Option Nat)
abbrev Ds : Type := (Nat → Nat → Int32) × (Nat → Nat → UInt32) × (Nat → Nat → Int64) × (Nat → Nat → Option Nat)
def gN (g : Gs) : Nat := g.1
def gS (g : Gs) : Nat := g.2.1
def gK (g : Gs) : Nat → Nat := g.2.2.1
def gL (g : Gs) : Nat → Nat := g.2.2.2.1
def gR (g : Gs) : Nat → Nat → Option Nat := g.2.2.2.2
def dI (d : Ds) : Nat → Nat → Int32 := d.1
def dF (d : Ds) : Nat → Nat → UInt32 := d.2.1
def dL (d : Ds) : Nat → Nat → Int64 := d.2.2.1
def dW (d : Ds) : Nat → Nat → Option Nat := d.2.2.2
def sI (d : Ds) (r j : Nat) (v : Int32) : Ds := (va_up d.1 r (va_up (d.1 r) j v), d.2)
def sF (d : Ds) (r j : Nat) (v : UInt32) : Ds := (d.1, va_up d.2.1 r (va_up (d.2.1 r) j v), d.2.2)
def sL (d : Ds) (r j : Nat) (v : Int64) : Ds := (d.1, d.2.1, va_up d.2.2.1 r (va_up (d.2.2.1 r) j v), d.2.2.2)
def sW (d : Ds) (r j : Nat) (v : Option Nat) : Ds := (d.1, d.2.1, d.2.2.1, va_up d.2.2.2 r (va_up (d.2.2.2 r) j v))
def cI (d : Ds) (a b sp dp n : Nat) : Ds := (va_up d.1 b (va_cpy (d.1 a) (d.1 b) sp dp n), d.2)
def cF (d : Ds) (a b sp dp n : Nat) : Ds := (d.1, va_up d.2.1 b (va_cpy (d.2.1 a) (d.2.1 b) sp dp n), d.2.2)
def sR (g : Gs) (r j : Nat) (v : Nat) : Gs := (g.1, g.2.1, g.2.2.1, g.2.2.2.1, va_up g.2.2.2.2 r (va_up (g.2.2.2.2 r) j (some v)))
/-- a new cell: kind, length, slots -/
def nG (g : Gs) (k ln sl : Nat) : Gs := (g.1 + 1, g.2.1 + sl, va_up g.2.2.1 g.1 k, va_up g.2.2.2.1 g.1 ln, va_up g.2.2.2.2 g.1 (fun _ => none))
def nD (g : Gs) (d : Ds) : Ds := (va_up d.1 g.1 (fun _ => 0), va_up d.2.1 g.1 (fun _ => 0), va_up d.2.2.1 g.1 (fun _ => 0), va_up d.2.2.2 g.1 (fun _ => none))
def tyk (t : Nat) : FieldType := match t with
  | 0 => .byte
  | 1 => .float
  | 2 => .int
  | 3 => .long
  | 4 => .boolean
  | 5 => .object "KeyMatrix$Deed"
  | 6 => .object "KeyMatrix$Course"
  | _ => .object "KeyMatrix$Word"
def tys8 (cy : Nat → ClassId) : List (ClassId × FieldType) := [(cy 0, tyk 0), (cy 1, tyk 1), (cy 2, tyk 2), (cy 3, tyk 3), (cy 4, tyk 4), (cy 5, tyk 5), (cy 6, tyk 6), (cy 7, tyk 7)]
def fN (c : Nat) : Nat := match vwCl[c]? with
  | some q => q.2.2
  | none => 0
/-- is the field a reference? by its descriptor -/
def fR (c j : Nat) : Bool := match vwCl[c]? with
  | some q => !((q.2.1 j).2.2.1 == "I" || (q.2.1 j).2.2.1 == "Z")
  | none => false
def rv (B : Bs) (x : Option Nat) : Value := va_rf (x.map (ad B))
def fv (B : Bs) (g : Gs) (d : Ds) (r c j : Nat) : Value := if fR c j then rv B (gR g r j) else .int (dI d r j)
def ar (B : Bs) (g : Gs) (d : Ds) (r t : Nat) : vp_A := (gL g r, match t with
  | 1 => .inr (.inr (.inl (dF d r)))
  | 3 => .inr (.inl (dL d r))
  | 5 => .inr (.inr (.inr (.inr (fun i => (gR g r i).map (ad B)))))
  | 6 => .inr (.inr (.inr (.inr (fun i => (gR g r i).map (ad B)))))
  | 7 => .inr (.inr (.inr (.inr (fun i => (dW d r i).map (ad B)))))
  | _ => .inl (dI d r))
def fls (B : Bs) (g : Gs) (d : Ds) (r c : Nat) : List Value := (List.range (fN c)).map (fun j => fv B g d r c j)
def cel (B : Bs) (cy : Nat → ClassId) (g : Gs) (d : Ds) (r : Nat) : va_E := if gK g r < 100 then .inr (gK g r, fls B g d r (gK g r)) else .inl (cy (gK g r - 100), ar B g d r (gK g r - 100))
def wls (B : Bs) (cy : Nat → ClassId) (g : Gs) (d : Ds) : va_W := (List.range (gN g)).map (fun r => (ad B r, cel B cy g d r))
def WP (D : va_G) (cy : Nat → ClassId) (B : Bs) (g : Gs) (d : Ds) (H : Heap) : Prop := gN g ≤ 100000 ∧ va_P D vwCl (wls B cy g d) H
def wA (B : Bs) : Nat → Prop := fun q => B.1 ≤ q
abbrev chk (g : Gs) (r k : Nat) : Prop := r < gN g ∧ gK g r = k
/-- the constants of Word: their names in their order -/
def wnm (i : Nat) : String := (["BOARD", "DIODES", "SIX", "BOUNCE", "TERM", "CHORDING", "TWICE", "REPEAT", "KEY", "CHORD", "MACRO", "CODE", "MOD", "LAYER", "TOGGLE", "NOTHING", "BELOW", "HOLD", "DOUBLE", "PLAY"] : List String).getD i ""
def Sx (B : Bs) (U : State) : Prop := (∀ i, i < 20 → va_Z "KeyMatrix$Word" (wnm i) "LKeyMatrix$Word;" (.ref (ad B (100000 + i))) (wA B) U U.heap) ∧ (∀ i j, i < 20 → j < 20 → ad B (100000 + i) = ad B (100000 + j) → i = j) ∧ va_AO "KeyMatrix$Deed" U ∧ va_AO "KeyMatrix$Course" U ∧ va_AO "KeyMatrix$Word" U
theorem vp_in_dec (i : Int32) (n : Nat) (h : ¬ (i < 0 ∨ n ≤ i.toNatClampNeg)) : vp_in i n := h
/-! the words: those of the tables that a method's start may name; the nest's links beside them -/
def wl : List Cond := lw_tbl.filter goodWord
theorem wl_good {w : Cond} (h : w ∈ wl) : goodWord w = true := (List.mem_filter.mp h).2
theorem wl_in {w : Cond} (h : w ∈ wl) : w ∈ lw_tbl := (List.mem_filter.mp h).1
theorem mW {w : Cond} (h : w ∈ lw_tbl) (hg : goodWord w = true) : w ∈ wl := List.mem_filter.mpr ⟨h, hg⟩
theorem mT0 {w : Cond} (h : w ∈ k2_sels lw_privs) : w ∈ lw_tbl := List.mem_append_left _ h
theorem mT1 {w : Cond} (h : w ∈ tables_1_1) : w ∈ lw_tbl := List.mem_append_right _ (List.mem_append_left _ h)
theorem mT2 {w : Cond} (h : w ∈ tables_1_2) : w ∈ lw_tbl := List.mem_append_right _ (List.mem_append_right _ (List.mem_append_left _ h))
theorem mT3 {w : Cond} (h : w ∈ tables_1_3) : w ∈ lw_tbl := List.mem_append_right _ (List.mem_append_right _ (List.mem_append_right _ (List.mem_append_left _ h)))
theorem mT4 {w : Cond} (h : w ∈ tables_1_4) : w ∈ lw_tbl := List.mem_append_right _ (List.mem_append_right _ (List.mem_append_right _ (List.mem_append_right _ (List.mem_append_left _ h))))
theorem mT5 {w : Cond} (h : w ∈ tables_1_5) : w ∈ lw_tbl := List.mem_append_right _ (List.mem_append_right _ (List.mem_append_right _ (List.mem_append_right _ (List.mem_append_right _ (List.mem_append_left _ h)))))
theorem mT6 {w : Cond} (h : w ∈ tables_1_6) : w ∈ lw_tbl := List.mem_append_right _ (List.mem_append_right _ (List.mem_append_right _ (List.mem_append_right _ (List.mem_append_right _ (List.mem_append_right _ (List.mem_append_left _ h))))))
theorem mT7 {w : Cond} (h : w ∈ tables_1_7) : w ∈ lw_tbl := List.mem_append_right _ (List.mem_append_right _ (List.mem_append_right _ (List.mem_append_right _ (List.mem_append_right _ (List.mem_append_right _ (List.mem_append_right _ h))))))
def isN : Cond → Bool
  | .fieldLinkNest _ _ _ _ _ _ => true
  | .methodLinkNest _ _ _ _ => true
  | _ => false
def NzS (U : State) : Prop := ∀ w : Cond, w ∈ lw_tbl → isN w = true → va_Nw w U
theorem NzS.warm {s U : State} (hW : s.WarmedH U.vm) (h : NzS s) : NzS U := by
  intro w h1 h2
  have h3 := h w h1 h2
  cases w <;> first | exact va_Nw.warmF hW h3 | exact va_Nw.warmM hW h3 | cases h2
theorem NzS.same {s U : State} (hv : s.vm = U.vm) (h : NzS s) : NzS U := by
  intro w h1 h2
  have h3 := h w h1 h2
  cases w <;> first | exact va_Nw.same rfl hv h3 | cases h2
theorem sub_of {big : List Cond} (ws : List Cond) (ps : List Nat) (hp : ws = ps.filterMap (fun i => big[i]?)) : ∀ w ∈ ws, w ∈ big := by
  intro w hw
  rw [hp] at hw
  obtain ⟨i, -, hi⟩ := List.mem_filterMap.mp hw
  exact List.mem_of_getElem? hi
/-! the combinators of the pure functions -/
def gd {β : Type} (c : Prop) [Decidable c] (x : Option β) : Option β := if c then x else none
def bd {α β : Type} (a : α) (f : α → Option β) : Option β := f a
def ob {α β : Type} (x : Option α) (f : α → Option β) : Option β := match x with
  | some a => f a
  | none => none
def cb {α β : Type} (x : Option (α × Ds)) (f : α → Ds → Option β) : Option β := match x with
  | some a => f a.1 a.2
  | none => none
def cv {β : Type} (x : Option (Unit × Ds)) (f : Ds → Option β) : Option β := match x with
  | some a => f a.2
  | none => none
theorem cb_s {α β : Type} {x : Option (α × Ds)} {f : α → Ds → Option β} {y : β} (h : cb x f = some y) : ∃ (a : α) (b : Ds), x = some (a, b) ∧ f a b = some y := by
  cases x with
  | none => cases h
  | some a => exact ⟨a.1, a.2, rfl, h⟩
theorem cv_s {β : Type} {x : Option (Unit × Ds)} {f : Ds → Option β} {y : β} (h : cv x f = some y) : ∃ (b : Ds), x = some ((), b) ∧ f b = some y := by
  cases x with
  | none => cases h
  | some a => exact ⟨a.2, rfl, h⟩
theorem cb_t {α β : Type} (a : α) (b : Ds) (f : α → Ds → Option β) : cb (some (a, b)) f = f a b := rfl
theorem cv_t {β : Type} (a : Unit) (b : Ds) (f : Ds → Option β) : cv (some (a, b)) f = f b := rfl
theorem gd_s {β : Type} {c : Prop} [Decidable c] {x : Option β} {y : β} (h : gd c x = some y) : c ∧ x = some y := by
  unfold gd at h
  split at h
  · exact ⟨‹c›, h⟩
  · cases h
theorem bd_s {α β : Type} {a : α} {f : α → Option β} {y : β} (h : bd a f = some y) : ∃ z, z = a ∧ f z = some y := ⟨a, rfl, h⟩
theorem ob_s {α β : Type} {x : Option α} {f : α → Option β} {y : β} (h : ob x f = some y) : ∃ a, x = some a ∧ f a = some y := by
  cases x with
  | none => cases h
  | some a => exact ⟨a, rfl, h⟩
theorem it_s {β : Type} {c : Prop} [Decidable c] {x z : Option β} {y : β} (hc : c) (h : (if c then x else z) = some y) : x = some y := by rwa [if_pos hc] at h
theorem if_s {β : Type} {c : Prop} [Decidable c] {x z : Option β} {y : β} (hc : ¬ c) (h : (if c then x else z) = some y) : z = some y := by rwa [if_neg hc] at h
theorem gd_t {β : Type} {c : Prop} [Decidable c] {x : Option β} (h : c) : gd c x = x := if_pos h
theorem bd_t {α β : Type} (a : α) (f : α → Option β) : bd a f = f a := rfl
theorem ob_t {α β : Type} (a : α) (f : α → Option β) : ob (some a) f = f a := rfl
/-! the world's rows -/
theorem ad_lt {B : Bs} {r : Nat} (h : r < 100000) : ad B r = B.1 + r := if_pos h
theorem wls_at {B : Bs} {cy : Nat → ClassId} {g : Gs} {d : Ds} {r : Nat} (h : r < gN g) : (wls B cy g d)[r]? = some (ad B r, cel B cy g d r) := by
  simp [wls, h]
theorem wls_in {B : Bs} {cy : Nat → ClassId} {g : Gs} {d : Ds} {k : Nat} {q : Nat × va_E} (h : (wls B cy g d)[k]? = some q) : k < gN g ∧ q = (ad B k, cel B cy g d k) := by
  have hl : k < gN g := by
    have := (List.getElem?_eq_some_iff.mp h).1
    simpa [wls] using this
  rw [wls_at hl] at h
  exact ⟨hl, (Option.some.inj h).symm⟩
theorem wls_D {B : Bs} {cy : Nat → ClassId} {g : Gs} {d : Ds} (h : gN g ≤ 100000) : va_D (wA B) (wls B cy g d) := by
  refine ⟨fun i j p q hi hj hpq => ?_, fun k q hk => ?_⟩
  · obtain ⟨h1, rfl⟩ := wls_in hi
    obtain ⟨h2, rfl⟩ := wls_in hj
    simp only [ad_lt (Nat.lt_of_lt_of_le h1 h), ad_lt (Nat.lt_of_lt_of_le h2 h)] at hpq
    omega
  · obtain ⟨h1, rfl⟩ := wls_in hk
    simp only [ad_lt (Nat.lt_of_lt_of_le h1 h)]
    exact Nat.le_add_right _ _
theorem wls_set {B : Bs} {cy : Nat → ClassId} {g g1 : Gs} {d d1 : Ds} {r : Nat} {e : va_E} (hr : r < gN g) (hg : gN g1 = gN g) (ho : ∀ x, x < gN g → x ≠ r → cel B cy g d x = cel B cy g1 d1 x) (he : cel B cy g1 d1 r = e) : (wls B cy g d).set r (ad B r, e) = wls B cy g1 d1 := by
  apply List.ext_getElem?
  intro k
  by_cases hk : k < gN g
  · rw [wls_at (g := g1) (by omega)]
    by_cases hkr : k = r
    · subst hkr
      rw [List.getElem?_set_self (by simpa [wls] using hk), he]
    · rw [List.getElem?_set_ne (Ne.symm hkr), wls_at hk, ho k hk hkr]
  · rw [List.getElem?_eq_none (by simp [wls]; omega), List.getElem?_eq_none (by simp [wls]; omega)]
theorem cel_o {B : Bs} {cy : Nat → ClassId} {g : Gs} {d : Ds} {r c : Nat} (h : gK g r = c) (hc : c < 100) : cel B cy g d r = .inr (c, fls B g d r c) := by
  subst h
  exact if_pos hc
theorem cel_a {B : Bs} {cy : Nat → ClassId} {g : Gs} {d : Ds} {r t : Nat} (h : gK g r = 100 + t) : cel B cy g d r = .inl (cy t, ar B g d r t) := by
  have h2 : ¬ gK g r < 100 := by omega
  have h3 : gK g r - 100 = t := by omega
  unfold cel
  rw [if_neg h2, h3]
theorem fls_at {B : Bs} {g : Gs} {d : Ds} {r c j : Nat} (h : j < fN c) : (fls B g d r c)[j]? = some (fv B g d r c j) := by simp [fls, h]
theorem fls_set {B : Bs} {g g1 : Gs} {d d1 : Ds} {r c j : Nat} {v : Value} (hj : j < fN c) (ho : ∀ x, x ≠ j → fv B g d r c x = fv B g1 d1 r c x) (he : fv B g1 d1 r c j = v) : (fls B g d r c).set j v = fls B g1 d1 r c := by
  apply List.ext_getElem?
  intro k
  by_cases hk : k < fN c
  · rw [fls_at hk]
    by_cases hkr : k = j
    · subst hkr
      rw [List.getElem?_set_self (by simpa [fls] using hk), he]
    · rw [List.getElem?_set_ne (Ne.symm hkr), fls_at hk, ho k hkr]
  · rw [List.getElem?_eq_none (by simp [fls]; omega), List.getElem?_eq_none (by simp [fls]; omega)]
theorem sI_o {B : Bs} {cy : Nat → ClassId} {g : Gs} {d : Ds} {r j x : Nat} {v : Int32} (h : x ≠ r) : cel B cy g d x = cel B cy g (sI d r j v) x := by
  have h1 : dI (sI d r j v) x = dI d x := by simp [dI, sI, va_up, h]
  have h2 : ∀ t, ar B g (sI d r j v) x t = ar B g d x t := by
    intro t
    unfold ar
    rw [h1]
    rfl
  have h3 : ∀ c, fls B g (sI d r j v) x c = fls B g d x c := by
    intro c
    unfold fls fv
    rw [h1]
  unfold cel
  rw [h2, h3]
theorem sF_o {B : Bs} {cy : Nat → ClassId} {g : Gs} {d : Ds} {r j x : Nat} {v : UInt32} (h : x ≠ r) : cel B cy g d x = cel B cy g (sF d r j v) x := by
  have h1 : dF (sF d r j v) x = dF d x := by simp [dF, sF, va_up, h]
  have h2 : ∀ t, ar B g (sF d r j v) x t = ar B g d x t := by
    intro t
    unfold ar
    rw [h1]
    rfl
  unfold cel
  rw [h2]
  rfl
theorem sL_o {B : Bs} {cy : Nat → ClassId} {g : Gs} {d : Ds} {r j x : Nat} {v : Int64} (h : x ≠ r) : cel B cy g d x = cel B cy g (sL d r j v) x := by
  have h1 : dL (sL d r j v) x = dL d x := by simp [dL, sL, va_up, h]
  have h2 : ∀ t, ar B g (sL d r j v) x t = ar B g d x t := by
    intro t
    unfold ar
    rw [h1]
    rfl
  unfold cel
  rw [h2]
  rfl
theorem sW_o {B : Bs} {cy : Nat → ClassId} {g : Gs} {d : Ds} {r j x : Nat} {v : Option Nat} (h : x ≠ r) : cel B cy g d x = cel B cy g (sW d r j v) x := by
  have h1 : dW (sW d r j v) x = dW d x := by simp [dW, sW, va_up, h]
  have h2 : ∀ t, ar B g (sW d r j v) x t = ar B g d x t := by
    intro t
    unfold ar
    rw [h1]
    rfl
  unfold cel
  rw [h2]
  rfl
theorem cI_o {B : Bs} {cy : Nat → ClassId} {g : Gs} {d : Ds} {a r sp dp n x : Nat} (h : x ≠ r) : cel B cy g d x = cel B cy g (cI d a r sp dp n) x := by
  have h1 : dI (cI d a r sp dp n) x = dI d x := by simp [dI, cI, va_up, h]
  have h2 : ∀ t, ar B g (cI d a r sp dp n) x t = ar B g d x t := by
    intro t
    unfold ar
    rw [h1]
    rfl
  have h3 : ∀ c, fls B g (cI d a r sp dp n) x c = fls B g d x c := by
    intro c
    unfold fls fv
    rw [h1]
  unfold cel
  rw [h2, h3]
theorem cF_o {B : Bs} {cy : Nat → ClassId} {g : Gs} {d : Ds} {a r sp dp n x : Nat} (h : x ≠ r) : cel B cy g d x = cel B cy g (cF d a r sp dp n) x := by
  have h1 : dF (cF d a r sp dp n) x = dF d x := by simp [dF, cF, va_up, h]
  have h2 : ∀ t, ar B g (cF d a r sp dp n) x t = ar B g d x t := by
    intro t
    unfold ar
    rw [h1]
    rfl
  unfold cel
  rw [h2]
  rfl
theorem sR_o {B : Bs} {cy : Nat → ClassId} {g : Gs} {d : Ds} {r j x v : Nat} (h : x ≠ r) : cel B cy g d x = cel B cy (sR g r j v) d x := by
  have h1 : gR (sR g r j v) x = gR g x := by simp [gR, sR, va_up, h]
  have h2 : ∀ t, ar B (sR g r j v) d x t = ar B g d x t := by
    intro t
    unfold ar
    rw [h1]
    rfl
  have h3 : ∀ c, fls B (sR g r j v) d x c = fls B g d x c := by
    intro c
    unfold fls fv
    rw [h1]
  have h4 : gK (sR g r j v) x = gK g x := rfl
  unfold cel
  rw [h2, h3, h4]
end
section
/-- what stays through a method: the machine, the code, the tables' words, the classes, the statics -/
def Cx (p : Program) (s : State) (m : MethodId) (args : Array Value) (c : Code) (cc : ByteArray) (nL : Nat) (own : String) (D : va_G) (cy : Nat → ClassId) (B : Bs) : Prop :=
  p.tables.exec = Jvm.exec ∧ c.code = cc ∧ c.maxLocals = nL ∧ s.vm.findClass own = some m.cls ∧ (∀ w ∈ wl, w.before args s = true) ∧ va_K D vwCl (tys8 cy) s ∧ Sx B s ∧ NzS s
/-- from any heap that holds (g, d), any locals that hold lv, the machine at pc with the stack st comes to Q -/
def WB (p : Program) (l : Launch) (e : Env) (R : Room) (s : State) (m : MethodId) (args : Array Value) (below : List Frame) (meth : Method) (c : Code) (nL : Nat) (D : va_G) (cy : Nat → ClassId) (B : Bs) (cells slots : Nat) (Q : State → Prop) (g : Gs) (d : Ds) (lv : List (Nat × Value)) (pc : Nat) (st : List Value) : Prop :=
  ∀ (H : Heap) (locs : List Loc) (ls : Array Slot), lv_has ls nL lv → WP D cy B g d H → va_S (wA B) s.heap H locs → W p l e R s m args below meth c H locs cells slots Q (F0 m pc ls st)
section BR
variable {p : Program} {l : Launch} {e : Env} {R : Room} {s : State} {m : MethodId} {args : Array Value} {below : List Frame} {meth : Method} {c : Code} {cells slots : Nat} {Q : State → Prop} {nL : Nat} {D : va_G} {cy : Nat → ClassId} {B : Bs} {g : Gs} {d : Ds} {lv : List (Nat × Value)} {pc : Nat} {cc : ByteArray} {own : String} {rest : List Value}
theorem b_iconst (C : Cx p s m args c cc nL own D cy B) {n : Int} {v : Int32} (hdg : decode cc pc = .ok (.iconst n, 1)) (hv : Int32.ofInt n = v) (k : WB p l e R s m args below meth c nL D cy B cells slots Q g d lv (pc + 1) (.int v :: rest)) : WB p l e R s m args below meth c nL D cy B cells slots Q g d lv pc rest := fun H locs ls hl hP hS => lv_iconst C.1 C.2.1 hdg hv (k H locs ls hl hP hS)
theorem b_bipush (C : Cx p s m args c cc nL own D cy B) {n : Int} {v : Int32} (hdg : decode cc pc = .ok (.bipush n, 2)) (hv : (Int8.ofInt n).toInt32 = v) (k : WB p l e R s m args below meth c nL D cy B cells slots Q g d lv (pc + 2) (.int v :: rest)) : WB p l e R s m args below meth c nL D cy B cells slots Q g d lv pc rest := fun H locs ls hl hP hS => lv_bipush C.1 C.2.1 hdg hv (k H locs ls hl hP hS)
theorem b_sipush (C : Cx p s m args c cc nL own D cy B) {n : Int} {v : Int32} (hdg : decode cc pc = .ok (.sipush n, 3)) (hv : (Int16.ofInt n).toInt32 = v) (k : WB p l e R s m args below meth c nL D cy B cells slots Q g d lv (pc + 3) (.int v :: rest)) : WB p l e R s m args below meth c nL D cy B cells slots Q g d lv pc rest := fun H locs ls hl hP hS => lv_sipush C.1 C.2.1 hdg hv (k H locs ls hl hP hS)
theorem b_lconst (C : Cx p s m args c cc nL own D cy B) {n : Fin 2} {v : Int64} (hdg : decode cc pc = .ok (.lconst n, 1)) (hv : Int64.ofNat (n : Nat) = v) (k : WB p l e R s m args below meth c nL D cy B cells slots Q g d lv (pc + 1) (.long v :: rest)) : WB p l e R s m args below meth c nL D cy B cells slots Q g d lv pc rest := fun H locs ls hl hP hS => lv_lconst C.1 C.2.1 hdg hv (k H locs ls hl hP hS)
theorem b_null (C : Cx p s m args c cc nL own D cy B)  (hdg : decode cc pc = .ok (.aconst_null, 1))  (k : WB p l e R s m args below meth c nL D cy B cells slots Q g d lv (pc + 1) (.null :: rest)) : WB p l e R s m args below meth c nL D cy B cells slots Q g d lv pc rest := fun H locs ls hl hP hS => lv_null C.1 C.2.1 hdg (k H locs ls hl hP hS)
theorem b_iload_n (C : Cx p s m args c cc nL own D cy B) {k : Fin 4} {i : Nat} {x : Int32} (hdg : decode cc pc = .ok (.iload_n k, 1)) (q : Nat) (hq : lv[q]? = some (i, .int x)) (hi : (k : Nat) = i) (k : WB p l e R s m args below meth c nL D cy B cells slots Q g d lv (pc + 1) (.int x :: rest)) : WB p l e R s m args below meth c nL D cy B cells slots Q g d lv pc rest := fun H locs ls hl hP hS => lv_iload_n C.1 C.2.1 hdg hi (lv_at hl q hq) (k H locs ls hl hP hS)
theorem b_iload (C : Cx p s m args c cc nL own D cy B) {i : Nat} {x : Int32} (hdg : decode cc pc = .ok (.iload i, 2)) (q : Nat) (hq : lv[q]? = some (i, .int x)) (k : WB p l e R s m args below meth c nL D cy B cells slots Q g d lv (pc + 2) (.int x :: rest)) : WB p l e R s m args below meth c nL D cy B cells slots Q g d lv pc rest := fun H locs ls hl hP hS => lv_iload C.1 C.2.1 hdg (lv_at hl q hq) (k H locs ls hl hP hS)
theorem b_lload_n (C : Cx p s m args c cc nL own D cy B) {k : Fin 4} {i : Nat} {x : Int64} (hdg : decode cc pc = .ok (.lload_n k, 1)) (q : Nat) (hq : lv[q]? = some (i, .long x)) (hi : (k : Nat) = i) (k : WB p l e R s m args below meth c nL D cy B cells slots Q g d lv (pc + 1) (.long x :: rest)) : WB p l e R s m args below meth c nL D cy B cells slots Q g d lv pc rest := fun H locs ls hl hP hS => lv_lload_n C.1 C.2.1 hdg hi (lv_at hl q hq) (k H locs ls hl hP hS)
theorem b_lload (C : Cx p s m args c cc nL own D cy B) {i : Nat} {x : Int64} (hdg : decode cc pc = .ok (.lload i, 2)) (q : Nat) (hq : lv[q]? = some (i, .long x)) (k : WB p l e R s m args below meth c nL D cy B cells slots Q g d lv (pc + 2) (.long x :: rest)) : WB p l e R s m args below meth c nL D cy B cells slots Q g d lv pc rest := fun H locs ls hl hP hS => lv_lload C.1 C.2.1 hdg (lv_at hl q hq) (k H locs ls hl hP hS)
theorem b_fload_n (C : Cx p s m args c cc nL own D cy B) {k : Fin 4} {i : Nat} {x : UInt32} (hdg : decode cc pc = .ok (.fload_n k, 1)) (q : Nat) (hq : lv[q]? = some (i, .float x)) (hi : (k : Nat) = i) (k : WB p l e R s m args below meth c nL D cy B cells slots Q g d lv (pc + 1) (.float x :: rest)) : WB p l e R s m args below meth c nL D cy B cells slots Q g d lv pc rest := fun H locs ls hl hP hS => lv_fload_n C.1 C.2.1 hdg hi (lv_at hl q hq) (k H locs ls hl hP hS)
theorem b_fload (C : Cx p s m args c cc nL own D cy B) {i : Nat} {x : UInt32} (hdg : decode cc pc = .ok (.fload i, 2)) (q : Nat) (hq : lv[q]? = some (i, .float x)) (k : WB p l e R s m args below meth c nL D cy B cells slots Q g d lv (pc + 2) (.float x :: rest)) : WB p l e R s m args below meth c nL D cy B cells slots Q g d lv pc rest := fun H locs ls hl hP hS => lv_fload C.1 C.2.1 hdg (lv_at hl q hq) (k H locs ls hl hP hS)
theorem b_aload_n (C : Cx p s m args c cc nL own D cy B) {k : Fin 4} {i : Nat} {x : Nat} (hdg : decode cc pc = .ok (.aload_n k, 1)) (q : Nat) (hq : lv[q]? = some (i, .ref x)) (hi : (k : Nat) = i) (k : WB p l e R s m args below meth c nL D cy B cells slots Q g d lv (pc + 1) (.ref x :: rest)) : WB p l e R s m args below meth c nL D cy B cells slots Q g d lv pc rest := fun H locs ls hl hP hS => lv_aload_n C.1 C.2.1 hdg hi (lv_at hl q hq) (k H locs ls hl hP hS)
theorem b_aload (C : Cx p s m args c cc nL own D cy B) {i : Nat} {x : Nat} (hdg : decode cc pc = .ok (.aload i, 2)) (q : Nat) (hq : lv[q]? = some (i, .ref x)) (k : WB p l e R s m args below meth c nL D cy B cells slots Q g d lv (pc + 2) (.ref x :: rest)) : WB p l e R s m args below meth c nL D cy B cells slots Q g d lv pc rest := fun H locs ls hl hP hS => lv_aload C.1 C.2.1 hdg (lv_at hl q hq) (k H locs ls hl hP hS)
theorem b_aload_nQ (C : Cx p s m args c cc nL own D cy B) {k : Fin 4} {i : Nat} {x : Option Nat} (hdg : decode cc pc = .ok (.aload_n k, 1)) (q : Nat) (hq : lv[q]? = some (i, rv B x)) (hi : (k : Nat) = i) (k0 : WB p l e R s m args below meth c nL D cy B cells slots Q g d lv (pc + 1) (rv B x :: rest)) : WB p l e R s m args below meth c nL D cy B cells slots Q g d lv pc rest := fun H locs ls hl hP hS => by
  cases x with
  | none => exact lv_aload_nN C.1 C.2.1 hdg hi (lv_at hl q hq) (k0 H locs ls hl hP hS)
  | some y => exact lv_aload_n C.1 C.2.1 hdg hi (lv_at hl q hq) (k0 H locs ls hl hP hS)
theorem b_aloadQ (C : Cx p s m args c cc nL own D cy B) {i : Nat} {x : Option Nat} (hdg : decode cc pc = .ok (.aload i, 2)) (q : Nat) (hq : lv[q]? = some (i, rv B x))  (k0 : WB p l e R s m args below meth c nL D cy B cells slots Q g d lv (pc + 2) (rv B x :: rest)) : WB p l e R s m args below meth c nL D cy B cells slots Q g d lv pc rest := fun H locs ls hl hP hS => by
  cases x with
  | none => exact lv_aloadN C.1 C.2.1 hdg (lv_at hl q hq) (k0 H locs ls hl hP hS)
  | some y => exact lv_aload C.1 C.2.1 hdg (lv_at hl q hq) (k0 H locs ls hl hP hS)
theorem b_istore_n (C : Cx p s m args c cc nL own D cy B) {k : Fin 4} {i : Nat} {x : Int32} (hdg : decode cc pc = .ok (.istore_n k, 1)) (hi : (k : Nat) = i) (lv' : List (Nat × Value)) (hn : i < nL) (he : (i, .int x) :: lv.filter (fun q => !(q.1 == i) && !(q.1 + 1 == i && q.2.category == 2)) = lv') (k1 : WB p l e R s m args below meth c nL D cy B cells slots Q g d lv' (pc + 1) rest) : WB p l e R s m args below meth c nL D cy B cells slots Q g d lv pc (.int x :: rest) := fun H locs ls hl hP hS => lv_istore_n C.1 C.2.1 hdg hi hl hn he (fun ls1 hl1 => k1 H locs ls1 hl1 hP hS)
theorem b_istore (C : Cx p s m args c cc nL own D cy B) {i : Nat} {x : Int32} (hdg : decode cc pc = .ok (.istore i, 2))  (lv' : List (Nat × Value)) (hn : i < nL) (he : (i, .int x) :: lv.filter (fun q => !(q.1 == i) && !(q.1 + 1 == i && q.2.category == 2)) = lv') (k1 : WB p l e R s m args below meth c nL D cy B cells slots Q g d lv' (pc + 2) rest) : WB p l e R s m args below meth c nL D cy B cells slots Q g d lv pc (.int x :: rest) := fun H locs ls hl hP hS => lv_istore C.1 C.2.1 hdg hl hn he (fun ls1 hl1 => k1 H locs ls1 hl1 hP hS)
theorem b_lstore_n (C : Cx p s m args c cc nL own D cy B) {k : Fin 4} {i : Nat} {x : Int64} (hdg : decode cc pc = .ok (.lstore_n k, 1)) (hi : (k : Nat) = i) (lv' : List (Nat × Value)) (hn : i + 1 < nL) (he : (i, .long x) :: lv.filter (fun q => !(q.1 == i) && (!(q.1 == i + 1) && !(q.1 + 1 == i && q.2.category == 2))) = lv') (k1 : WB p l e R s m args below meth c nL D cy B cells slots Q g d lv' (pc + 1) rest) : WB p l e R s m args below meth c nL D cy B cells slots Q g d lv pc (.long x :: rest) := fun H locs ls hl hP hS => lv_lstore_n C.1 C.2.1 hdg hi hl hn he (fun ls1 hl1 => k1 H locs ls1 hl1 hP hS)
theorem b_lstore (C : Cx p s m args c cc nL own D cy B) {i : Nat} {x : Int64} (hdg : decode cc pc = .ok (.lstore i, 2))  (lv' : List (Nat × Value)) (hn : i + 1 < nL) (he : (i, .long x) :: lv.filter (fun q => !(q.1 == i) && (!(q.1 == i + 1) && !(q.1 + 1 == i && q.2.category == 2))) = lv') (k1 : WB p l e R s m args below meth c nL D cy B cells slots Q g d lv' (pc + 2) rest) : WB p l e R s m args below meth c nL D cy B cells slots Q g d lv pc (.long x :: rest) := fun H locs ls hl hP hS => lv_lstore C.1 C.2.1 hdg hl hn he (fun ls1 hl1 => k1 H locs ls1 hl1 hP hS)
theorem b_fstore_n (C : Cx p s m args c cc nL own D cy B) {k : Fin 4} {i : Nat} {x : UInt32} (hdg : decode cc pc = .ok (.fstore_n k, 1)) (hi : (k : Nat) = i) (lv' : List (Nat × Value)) (hn : i < nL) (he : (i, .float x) :: lv.filter (fun q => !(q.1 == i) && !(q.1 + 1 == i && q.2.category == 2)) = lv') (k1 : WB p l e R s m args below meth c nL D cy B cells slots Q g d lv' (pc + 1) rest) : WB p l e R s m args below meth c nL D cy B cells slots Q g d lv pc (.float x :: rest) := fun H locs ls hl hP hS => lv_fstore_n C.1 C.2.1 hdg hi hl hn he (fun ls1 hl1 => k1 H locs ls1 hl1 hP hS)
theorem b_fstore (C : Cx p s m args c cc nL own D cy B) {i : Nat} {x : UInt32} (hdg : decode cc pc = .ok (.fstore i, 2))  (lv' : List (Nat × Value)) (hn : i < nL) (he : (i, .float x) :: lv.filter (fun q => !(q.1 == i) && !(q.1 + 1 == i && q.2.category == 2)) = lv') (k1 : WB p l e R s m args below meth c nL D cy B cells slots Q g d lv' (pc + 2) rest) : WB p l e R s m args below meth c nL D cy B cells slots Q g d lv pc (.float x :: rest) := fun H locs ls hl hP hS => lv_fstore C.1 C.2.1 hdg hl hn he (fun ls1 hl1 => k1 H locs ls1 hl1 hP hS)
theorem b_astore_n (C : Cx p s m args c cc nL own D cy B) {k : Fin 4} {i : Nat} {x : Nat} (hdg : decode cc pc = .ok (.astore_n k, 1)) (hi : (k : Nat) = i) (lv' : List (Nat × Value)) (hn : i < nL) (he : (i, .ref x) :: lv.filter (fun q => !(q.1 == i) && !(q.1 + 1 == i && q.2.category == 2)) = lv') (k1 : WB p l e R s m args below meth c nL D cy B cells slots Q g d lv' (pc + 1) rest) : WB p l e R s m args below meth c nL D cy B cells slots Q g d lv pc (.ref x :: rest) := fun H locs ls hl hP hS => lv_astore_n C.1 C.2.1 hdg hi hl hn he (fun ls1 hl1 => k1 H locs ls1 hl1 hP hS)
theorem b_astore (C : Cx p s m args c cc nL own D cy B) {i : Nat} {x : Nat} (hdg : decode cc pc = .ok (.astore i, 2))  (lv' : List (Nat × Value)) (hn : i < nL) (he : (i, .ref x) :: lv.filter (fun q => !(q.1 == i) && !(q.1 + 1 == i && q.2.category == 2)) = lv') (k1 : WB p l e R s m args below meth c nL D cy B cells slots Q g d lv' (pc + 2) rest) : WB p l e R s m args below meth c nL D cy B cells slots Q g d lv pc (.ref x :: rest) := fun H locs ls hl hP hS => lv_astore C.1 C.2.1 hdg hl hn he (fun ls1 hl1 => k1 H locs ls1 hl1 hP hS)
theorem b_astore_nQ (C : Cx p s m args c cc nL own D cy B) {k : Fin 4} {i : Nat} {x : Option Nat} (hdg : decode cc pc = .ok (.astore_n k, 1)) (hi : (k : Nat) = i) (lv' : List (Nat × Value)) (hn : i < nL) (he : (i, rv B x) :: lv.filter (fun q => !(q.1 == i) && !(q.1 + 1 == i && q.2.category == 2)) = lv') (k1 : WB p l e R s m args below meth c nL D cy B cells slots Q g d lv' (pc + 1) rest) : WB p l e R s m args below meth c nL D cy B cells slots Q g d lv pc (rv B x :: rest) := fun H locs ls hl hP hS => by
  cases x with
  | none => exact lv_astore_nN C.1 C.2.1 hdg hi hl hn he (fun ls1 hl1 => k1 H locs ls1 hl1 hP hS)
  | some y => exact lv_astore_n C.1 C.2.1 hdg hi hl hn he (fun ls1 hl1 => k1 H locs ls1 hl1 hP hS)
theorem b_astoreQ (C : Cx p s m args c cc nL own D cy B) {i : Nat} {x : Option Nat} (hdg : decode cc pc = .ok (.astore i, 2))  (lv' : List (Nat × Value)) (hn : i < nL) (he : (i, rv B x) :: lv.filter (fun q => !(q.1 == i) && !(q.1 + 1 == i && q.2.category == 2)) = lv') (k1 : WB p l e R s m args below meth c nL D cy B cells slots Q g d lv' (pc + 2) rest) : WB p l e R s m args below meth c nL D cy B cells slots Q g d lv pc (rv B x :: rest) := fun H locs ls hl hP hS => by
  cases x with
  | none => exact lv_astoreN C.1 C.2.1 hdg hl hn he (fun ls1 hl1 => k1 H locs ls1 hl1 hP hS)
  | some y => exact lv_astore C.1 C.2.1 hdg hl hn he (fun ls1 hl1 => k1 H locs ls1 hl1 hP hS)
theorem b_iinc (C : Cx p s m args c cc nL own D cy B) {i : Nat} {n : Int} {x v : Int32} (hdg : decode cc pc = .ok (.iinc i n, 3)) (q : Nat) (hq : lv[q]? = some (i, .int x)) (hv : x + Int32.ofInt n = v) (lv' : List (Nat × Value)) (hn : i < nL) (he : (i, .int v) :: lv.filter (fun q => !(q.1 == i) && !(q.1 + 1 == i && q.2.category == 2)) = lv') (k1 : WB p l e R s m args below meth c nL D cy B cells slots Q g d lv' (pc + 3) rest) : WB p l e R s m args below meth c nL D cy B cells slots Q g d lv pc rest := fun H locs ls hl hP hS => lv_iinc C.1 C.2.1 hdg hl hq hv hn he (fun ls1 hl1 => k1 H locs ls1 hl1 hP hS)
theorem b_iadd (C : Cx p s m args c cc nL own D cy B) {x y : Int32} (hdg : decode cc pc = .ok (.iadd, 1))  (k : WB p l e R s m args below meth c nL D cy B cells slots Q g d lv (pc + 1) (.int (x + y) :: rest)) : WB p l e R s m args below meth c nL D cy B cells slots Q g d lv pc (.int y :: .int x :: rest) := fun H locs ls hl hP hS => lv_iadd C.1 C.2.1 hdg (k H locs ls hl hP hS)
theorem b_isub (C : Cx p s m args c cc nL own D cy B) {x y : Int32} (hdg : decode cc pc = .ok (.isub, 1))  (k : WB p l e R s m args below meth c nL D cy B cells slots Q g d lv (pc + 1) (.int (x - y) :: rest)) : WB p l e R s m args below meth c nL D cy B cells slots Q g d lv pc (.int y :: .int x :: rest) := fun H locs ls hl hP hS => lv_isub C.1 C.2.1 hdg (k H locs ls hl hP hS)
theorem b_imul (C : Cx p s m args c cc nL own D cy B) {x y : Int32} (hdg : decode cc pc = .ok (.imul, 1))  (k : WB p l e R s m args below meth c nL D cy B cells slots Q g d lv (pc + 1) (.int (x * y) :: rest)) : WB p l e R s m args below meth c nL D cy B cells slots Q g d lv pc (.int y :: .int x :: rest) := fun H locs ls hl hP hS => lv_imul C.1 C.2.1 hdg (k H locs ls hl hP hS)
theorem b_iand (C : Cx p s m args c cc nL own D cy B) {x y : Int32} (hdg : decode cc pc = .ok (.iand, 1))  (k : WB p l e R s m args below meth c nL D cy B cells slots Q g d lv (pc + 1) (.int (x &&& y) :: rest)) : WB p l e R s m args below meth c nL D cy B cells slots Q g d lv pc (.int y :: .int x :: rest) := fun H locs ls hl hP hS => lv_iand C.1 C.2.1 hdg (k H locs ls hl hP hS)
theorem b_ior (C : Cx p s m args c cc nL own D cy B) {x y : Int32} (hdg : decode cc pc = .ok (.ior, 1))  (k : WB p l e R s m args below meth c nL D cy B cells slots Q g d lv (pc + 1) (.int (x ||| y) :: rest)) : WB p l e R s m args below meth c nL D cy B cells slots Q g d lv pc (.int y :: .int x :: rest) := fun H locs ls hl hP hS => lv_ior C.1 C.2.1 hdg (k H locs ls hl hP hS)
theorem b_ixor (C : Cx p s m args c cc nL own D cy B) {x y : Int32} (hdg : decode cc pc = .ok (.ixor, 1))  (k : WB p l e R s m args below meth c nL D cy B cells slots Q g d lv (pc + 1) (.int (x ^^^ y) :: rest)) : WB p l e R s m args below meth c nL D cy B cells slots Q g d lv pc (.int y :: .int x :: rest) := fun H locs ls hl hP hS => lv_ixor C.1 C.2.1 hdg (k H locs ls hl hP hS)
theorem b_ishl (C : Cx p s m args c cc nL own D cy B) {x y : Int32} (hdg : decode cc pc = .ok (.ishl, 1))  (k : WB p l e R s m args below meth c nL D cy B cells slots Q g d lv (pc + 1) (.int (x <<< (y &&& 31)) :: rest)) : WB p l e R s m args below meth c nL D cy B cells slots Q g d lv pc (.int y :: .int x :: rest) := fun H locs ls hl hP hS => lv_ishl C.1 C.2.1 hdg (k H locs ls hl hP hS)
theorem b_ishr (C : Cx p s m args c cc nL own D cy B) {x y : Int32} (hdg : decode cc pc = .ok (.ishr, 1))  (k : WB p l e R s m args below meth c nL D cy B cells slots Q g d lv (pc + 1) (.int (x >>> (y &&& 31)) :: rest)) : WB p l e R s m args below meth c nL D cy B cells slots Q g d lv pc (.int y :: .int x :: rest) := fun H locs ls hl hP hS => lv_ishr C.1 C.2.1 hdg (k H locs ls hl hP hS)
theorem b_iushr (C : Cx p s m args c cc nL own D cy B) {x y : Int32} (hdg : decode cc pc = .ok (.iushr, 1))  (k : WB p l e R s m args below meth c nL D cy B cells slots Q g d lv (pc + 1) (.int ((x.toUInt32 >>> (y.toUInt32 &&& Int32.toUInt32 31)).toInt32) :: rest)) : WB p l e R s m args below meth c nL D cy B cells slots Q g d lv pc (.int y :: .int x :: rest) := fun H locs ls hl hP hS => lv_iushr C.1 C.2.1 hdg rfl (k H locs ls hl hP hS)
theorem b_idiv (C : Cx p s m args c cc nL own D cy B) {x y : Int32} (hdg : decode cc pc = .ok (.idiv, 1)) (hne : ¬ y = 0) (k : WB p l e R s m args below meth c nL D cy B cells slots Q g d lv (pc + 1) (.int (x / y) :: rest)) : WB p l e R s m args below meth c nL D cy B cells slots Q g d lv pc (.int y :: .int x :: rest) := fun H locs ls hl hP hS => lv_idiv C.1 C.2.1 hdg hne (k H locs ls hl hP hS)
theorem b_irem (C : Cx p s m args c cc nL own D cy B) {x y : Int32} (hdg : decode cc pc = .ok (.irem, 1)) (hne : ¬ y = 0) (k : WB p l e R s m args below meth c nL D cy B cells slots Q g d lv (pc + 1) (.int (x - x / y * y) :: rest)) : WB p l e R s m args below meth c nL D cy B cells slots Q g d lv pc (.int y :: .int x :: rest) := fun H locs ls hl hP hS => lv_irem C.1 C.2.1 hdg hne (k H locs ls hl hP hS)
theorem b_ladd (C : Cx p s m args c cc nL own D cy B) {x y : Int64} (hdg : decode cc pc = .ok (.ladd, 1))  (k : WB p l e R s m args below meth c nL D cy B cells slots Q g d lv (pc + 1) (.long (x + y) :: rest)) : WB p l e R s m args below meth c nL D cy B cells slots Q g d lv pc (.long y :: .long x :: rest) := fun H locs ls hl hP hS => lv_ladd C.1 C.2.1 hdg (k H locs ls hl hP hS)
theorem b_lmul (C : Cx p s m args c cc nL own D cy B) {x y : Int64} (hdg : decode cc pc = .ok (.lmul, 1))  (k : WB p l e R s m args below meth c nL D cy B cells slots Q g d lv (pc + 1) (.long (x * y) :: rest)) : WB p l e R s m args below meth c nL D cy B cells slots Q g d lv pc (.long y :: .long x :: rest) := fun H locs ls hl hP hS => lv_lmul C.1 C.2.1 hdg (k H locs ls hl hP hS)
theorem b_i2l (C : Cx p s m args c cc nL own D cy B) {x : Int32} (hdg : decode cc pc = .ok (.i2l, 1))  (k : WB p l e R s m args below meth c nL D cy B cells slots Q g d lv (pc + 1) (.long (x.toInt64) :: rest)) : WB p l e R s m args below meth c nL D cy B cells slots Q g d lv pc (.int x :: rest) := fun H locs ls hl hP hS => lv_i2l C.1 C.2.1 hdg rfl (k H locs ls hl hP hS)
theorem b_i2b (C : Cx p s m args c cc nL own D cy B) {x : Int32} (hdg : decode cc pc = .ok (.i2b, 1))  (k : WB p l e R s m args below meth c nL D cy B cells slots Q g d lv (pc + 1) (.int (x.toInt8.toInt32) :: rest)) : WB p l e R s m args below meth c nL D cy B cells slots Q g d lv pc (.int x :: rest) := fun H locs ls hl hP hS => lv_i2b C.1 C.2.1 hdg rfl (k H locs ls hl hP hS)
theorem b_dup (C : Cx p s m args c cc nL own D cy B) {v : Value} (hdg : decode cc pc = .ok (.dup, 1)) (hv : v.category = 1) (k : WB p l e R s m args below meth c nL D cy B cells slots Q g d lv (pc + 1) (v :: v :: rest)) : WB p l e R s m args below meth c nL D cy B cells slots Q g d lv pc (v :: rest) := fun H locs ls hl hP hS => lv_dup C.1 C.2.1 hdg hv (k H locs ls hl hP hS)
theorem b_dup2 (C : Cx p s m args c cc nL own D cy B) {v u : Value} (hdg : decode cc pc = .ok (.dup2, 1)) (hv : v.category = 1) (hu : u.category = 1) (k : WB p l e R s m args below meth c nL D cy B cells slots Q g d lv (pc + 1) (v :: u :: v :: u :: rest)) : WB p l e R s m args below meth c nL D cy B cells slots Q g d lv pc (v :: u :: rest) := fun H locs ls hl hP hS => lv_dup2_11 C.1 C.2.1 hdg hv hu (k H locs ls hl hP hS)
theorem b_fconst0 (C : Cx p s m args c cc nL own D cy B)  (hdg : decode cc pc = .ok (.fconst 0, 1))  (k : WB p l e R s m args below meth c nL D cy B cells slots Q g d lv (pc + 1) (.float FP.fconst0 :: rest)) : WB p l e R s m args below meth c nL D cy B cells slots Q g d lv pc rest := fun H locs ls hl hP hS => lv_fconst0 C.1 C.2.1 hdg (k H locs ls hl hP hS)
theorem b_fcmp (C : Cx p s m args c cc nL own D cy B) {x y : UInt32} {op : CmpOp} (hdg : decode cc pc = .ok (.fcmp op, 1))  (k : WB p l e R s m args below meth c nL D cy B cells slots Q g d lv (pc + 1) (.int (Op.cmpValue (FP.fcmp x y) op) :: rest)) : WB p l e R s m args below meth c nL D cy B cells slots Q g d lv pc (.float y :: .float x :: rest) := fun H locs ls hl hP hS => lv_fcmp C.1 C.2.1 hdg (k H locs ls hl hP hS)
theorem b_lcmp (C : Cx p s m args c cc nL own D cy B) {x y : Int64} (hdg : decode cc pc = .ok (.lcmp, 1))  (k : WB p l e R s m args below meth c nL D cy B cells slots Q g d lv (pc + 1) (.int (lg_cmp x y) :: rest)) : WB p l e R s m args below meth c nL D cy B cells slots Q g d lv pc (.long y :: .long x :: rest) := fun H locs ls hl hP hS => W.lcmp C.1 C.2.1 hdg (k H locs ls hl hP hS)
theorem b_if_eq (C : Cx p s m args c cc nL own D cy B) {x : Int32} {off : Int} {tgt : Nat} (hdg : decode cc pc = .ok (.ifCond .eq off, 3)) (ht : (pc : Int) + off = (tgt : Int)) (kt : x = 0 → WB p l e R s m args below meth c nL D cy B cells slots Q g d lv tgt rest) (kf : ¬ x = 0 → WB p l e R s m args below meth c nL D cy B cells slots Q g d lv (pc + 3) rest) : WB p l e R s m args below meth c nL D cy B cells slots Q g d lv pc (.int x :: rest) := fun H locs ls hl hP hS => lv_if_eq C.1 C.2.1 hdg ht (fun h => kt h H locs ls hl hP hS) (fun h => kf h H locs ls hl hP hS)
theorem b_if_ne (C : Cx p s m args c cc nL own D cy B) {x : Int32} {off : Int} {tgt : Nat} (hdg : decode cc pc = .ok (.ifCond .ne off, 3)) (ht : (pc : Int) + off = (tgt : Int)) (kt : ¬ x = 0 → WB p l e R s m args below meth c nL D cy B cells slots Q g d lv tgt rest) (kf : x = 0 → WB p l e R s m args below meth c nL D cy B cells slots Q g d lv (pc + 3) rest) : WB p l e R s m args below meth c nL D cy B cells slots Q g d lv pc (.int x :: rest) := fun H locs ls hl hP hS => lv_if_ne C.1 C.2.1 hdg ht (fun h => kt h H locs ls hl hP hS) (fun h => kf h H locs ls hl hP hS)
theorem b_if_lt (C : Cx p s m args c cc nL own D cy B) {x : Int32} {off : Int} {tgt : Nat} (hdg : decode cc pc = .ok (.ifCond .lt off, 3)) (ht : (pc : Int) + off = (tgt : Int)) (kt : x < 0 → WB p l e R s m args below meth c nL D cy B cells slots Q g d lv tgt rest) (kf : ¬ x < 0 → WB p l e R s m args below meth c nL D cy B cells slots Q g d lv (pc + 3) rest) : WB p l e R s m args below meth c nL D cy B cells slots Q g d lv pc (.int x :: rest) := fun H locs ls hl hP hS => lv_if_lt C.1 C.2.1 hdg ht (fun h => kt h H locs ls hl hP hS) (fun h => kf h H locs ls hl hP hS)
theorem b_if_ge (C : Cx p s m args c cc nL own D cy B) {x : Int32} {off : Int} {tgt : Nat} (hdg : decode cc pc = .ok (.ifCond .ge off, 3)) (ht : (pc : Int) + off = (tgt : Int)) (kt : 0 ≤ x → WB p l e R s m args below meth c nL D cy B cells slots Q g d lv tgt rest) (kf : ¬ 0 ≤ x → WB p l e R s m args below meth c nL D cy B cells slots Q g d lv (pc + 3) rest) : WB p l e R s m args below meth c nL D cy B cells slots Q g d lv pc (.int x :: rest) := fun H locs ls hl hP hS => lv_if_ge C.1 C.2.1 hdg ht (fun h => kt h H locs ls hl hP hS) (fun h => kf h H locs ls hl hP hS)
theorem b_if_gt (C : Cx p s m args c cc nL own D cy B) {x : Int32} {off : Int} {tgt : Nat} (hdg : decode cc pc = .ok (.ifCond .gt off, 3)) (ht : (pc : Int) + off = (tgt : Int)) (kt : 0 < x → WB p l e R s m args below meth c nL D cy B cells slots Q g d lv tgt rest) (kf : ¬ 0 < x → WB p l e R s m args below meth c nL D cy B cells slots Q g d lv (pc + 3) rest) : WB p l e R s m args below meth c nL D cy B cells slots Q g d lv pc (.int x :: rest) := fun H locs ls hl hP hS => lv_if_gt C.1 C.2.1 hdg ht (fun h => kt h H locs ls hl hP hS) (fun h => kf h H locs ls hl hP hS)
theorem b_if_le (C : Cx p s m args c cc nL own D cy B) {x : Int32} {off : Int} {tgt : Nat} (hdg : decode cc pc = .ok (.ifCond .le off, 3)) (ht : (pc : Int) + off = (tgt : Int)) (kt : x ≤ 0 → WB p l e R s m args below meth c nL D cy B cells slots Q g d lv tgt rest) (kf : ¬ x ≤ 0 → WB p l e R s m args below meth c nL D cy B cells slots Q g d lv (pc + 3) rest) : WB p l e R s m args below meth c nL D cy B cells slots Q g d lv pc (.int x :: rest) := fun H locs ls hl hP hS => lv_if_le C.1 C.2.1 hdg ht (fun h => kt h H locs ls hl hP hS) (fun h => kf h H locs ls hl hP hS)
theorem b_icmp_eq (C : Cx p s m args c cc nL own D cy B) {x y : Int32} {off : Int} {tgt : Nat} (hdg : decode cc pc = .ok (.if_icmp .eq off, 3)) (ht : (pc : Int) + off = (tgt : Int)) (kt : x = y → WB p l e R s m args below meth c nL D cy B cells slots Q g d lv tgt rest) (kf : ¬ x = y → WB p l e R s m args below meth c nL D cy B cells slots Q g d lv (pc + 3) rest) : WB p l e R s m args below meth c nL D cy B cells slots Q g d lv pc (.int y :: .int x :: rest) := fun H locs ls hl hP hS => lv_icmp_eq C.1 C.2.1 hdg ht (fun h => kt h H locs ls hl hP hS) (fun h => kf h H locs ls hl hP hS)
theorem b_icmp_ne (C : Cx p s m args c cc nL own D cy B) {x y : Int32} {off : Int} {tgt : Nat} (hdg : decode cc pc = .ok (.if_icmp .ne off, 3)) (ht : (pc : Int) + off = (tgt : Int)) (kt : ¬ x = y → WB p l e R s m args below meth c nL D cy B cells slots Q g d lv tgt rest) (kf : x = y → WB p l e R s m args below meth c nL D cy B cells slots Q g d lv (pc + 3) rest) : WB p l e R s m args below meth c nL D cy B cells slots Q g d lv pc (.int y :: .int x :: rest) := fun H locs ls hl hP hS => lv_icmp_ne C.1 C.2.1 hdg ht (fun h => kt h H locs ls hl hP hS) (fun h => kf h H locs ls hl hP hS)
theorem b_icmp_lt (C : Cx p s m args c cc nL own D cy B) {x y : Int32} {off : Int} {tgt : Nat} (hdg : decode cc pc = .ok (.if_icmp .lt off, 3)) (ht : (pc : Int) + off = (tgt : Int)) (kt : x < y → WB p l e R s m args below meth c nL D cy B cells slots Q g d lv tgt rest) (kf : ¬ x < y → WB p l e R s m args below meth c nL D cy B cells slots Q g d lv (pc + 3) rest) : WB p l e R s m args below meth c nL D cy B cells slots Q g d lv pc (.int y :: .int x :: rest) := fun H locs ls hl hP hS => lv_icmp_lt C.1 C.2.1 hdg ht (fun h => kt h H locs ls hl hP hS) (fun h => kf h H locs ls hl hP hS)
theorem b_icmp_ge (C : Cx p s m args c cc nL own D cy B) {x y : Int32} {off : Int} {tgt : Nat} (hdg : decode cc pc = .ok (.if_icmp .ge off, 3)) (ht : (pc : Int) + off = (tgt : Int)) (kt : y ≤ x → WB p l e R s m args below meth c nL D cy B cells slots Q g d lv tgt rest) (kf : ¬ y ≤ x → WB p l e R s m args below meth c nL D cy B cells slots Q g d lv (pc + 3) rest) : WB p l e R s m args below meth c nL D cy B cells slots Q g d lv pc (.int y :: .int x :: rest) := fun H locs ls hl hP hS => lv_icmp_ge C.1 C.2.1 hdg ht (fun h => kt h H locs ls hl hP hS) (fun h => kf h H locs ls hl hP hS)
theorem b_icmp_gt (C : Cx p s m args c cc nL own D cy B) {x y : Int32} {off : Int} {tgt : Nat} (hdg : decode cc pc = .ok (.if_icmp .gt off, 3)) (ht : (pc : Int) + off = (tgt : Int)) (kt : y < x → WB p l e R s m args below meth c nL D cy B cells slots Q g d lv tgt rest) (kf : ¬ y < x → WB p l e R s m args below meth c nL D cy B cells slots Q g d lv (pc + 3) rest) : WB p l e R s m args below meth c nL D cy B cells slots Q g d lv pc (.int y :: .int x :: rest) := fun H locs ls hl hP hS => lv_icmp_gt C.1 C.2.1 hdg ht (fun h => kt h H locs ls hl hP hS) (fun h => kf h H locs ls hl hP hS)
theorem b_icmp_le (C : Cx p s m args c cc nL own D cy B) {x y : Int32} {off : Int} {tgt : Nat} (hdg : decode cc pc = .ok (.if_icmp .le off, 3)) (ht : (pc : Int) + off = (tgt : Int)) (kt : x ≤ y → WB p l e R s m args below meth c nL D cy B cells slots Q g d lv tgt rest) (kf : ¬ x ≤ y → WB p l e R s m args below meth c nL D cy B cells slots Q g d lv (pc + 3) rest) : WB p l e R s m args below meth c nL D cy B cells slots Q g d lv pc (.int y :: .int x :: rest) := fun H locs ls hl hP hS => lv_icmp_le C.1 C.2.1 hdg ht (fun h => kt h H locs ls hl hP hS) (fun h => kf h H locs ls hl hP hS)
theorem b_goto (C : Cx p s m args c cc nL own D cy B) {off : Int} {tgt : Nat} (hdg : decode cc pc = .ok (.goto off, 3)) (ht : (pc : Int) + off = (tgt : Int)) (k : WB p l e R s m args below meth c nL D cy B cells slots Q g d lv tgt rest) : WB p l e R s m args below meth c nL D cy B cells slots Q g d lv pc rest := fun H locs ls hl hP hS => lv_goto C.1 C.2.1 hdg ht (k H locs ls hl hP hS)
theorem b_tabOut (C : Cx p s m args c cc nL own D cy B) {dflt lo hi : Int} {offs : Array Int} {len : Nat} {x : Int32} {tgt : Nat} (hdg : decode cc pc = .ok (.tableswitch dflt lo hi offs, len)) (h : x.toInt < lo ∨ hi < x.toInt) (ht : (pc : Int) + dflt = (tgt : Int)) (k : WB p l e R s m args below meth c nL D cy B cells slots Q g d lv tgt rest) : WB p l e R s m args below meth c nL D cy B cells slots Q g d lv pc (.int x :: rest) := fun H locs ls hl hP hS => lv_tableOut C.1 C.2.1 hdg h ht (k H locs ls hl hP hS)
theorem b_tabIn (C : Cx p s m args c cc nL own D cy B) {dflt lo hi off : Int} {offs : Array Int} {len : Nat} {x v : Int32} {tgt : Nat} (hdg : decode cc pc = .ok (.tableswitch dflt lo hi offs, len)) (hx : x = v) (h1 : ¬ v.toInt < lo) (h2 : ¬ hi < v.toInt) (ho : offs[(v.toInt - lo).toNat]? = some off) (ht : (pc : Int) + off = (tgt : Int)) (k : WB p l e R s m args below meth c nL D cy B cells slots Q g d lv tgt rest) : WB p l e R s m args below meth c nL D cy B cells slots Q g d lv pc (.int x :: rest) := fun H locs ls hl hP hS => lv_tableIn C.1 C.2.1 hdg (by rw [hx]; exact h1) (by rw [hx]; exact h2) (by rw [hx]; exact ho) ht (k H locs ls hl hP hS)
theorem b_sub (lv' : List (Nat × Value)) (ks : List Nat) (h : lv_pick lv ks = lv') (k : WB p l e R s m args below meth c nL D cy B cells slots Q g d lv' pc rest) : WB p l e R s m args below meth c nL D cy B cells slots Q g d lv pc rest := fun H locs ls hl hP hS => k H locs ls (lv_sub hl ks h) hP hS
theorem b_eq {g1 : Gs} {d1 : Ds} {st1 : List Value} (hg : g = g1) (hd : d = d1) (hs : rest = st1) (k : WB p l e R s m args below meth c nL D cy B cells slots Q g1 d1 lv pc st1) : WB p l e R s m args below meth c nL D cy B cells slots Q g d lv pc rest := by
  subst hg; subst hd; subst hs
  exact k
theorem WP.set {H1 : Heap} {g1 : Gs} {d1 : Ds} {r : Nat} {e : va_E} {H : Heap} (hP : WP D cy B g d H) (hr : r < gN g) (hg : gN g1 = gN g) (ho : ∀ x, x < gN g → x ≠ r → cel B cy g d x = cel B cy g1 d1 x) (he : cel B cy g1 d1 r = e) (hP1 : va_P D vwCl ((wls B cy g d).set r (ad B r, e)) H1) : WP D cy B g1 d1 H1 := by
  rw [wls_set hr hg ho he] at hP1
  exact ⟨by rw [hg]; exact hP.1, hP1⟩
theorem tys8_at {t : Nat} (h : t < 8) : (tys8 cy)[t]? = some (cy t, tyk t) := by
  match t, h with
  | 0, _ => rfl
  | 1, _ => rfl
  | 2, _ => rfl
  | 3, _ => rfl
  | 4, _ => rfl
  | 5, _ => rfl
  | 6, _ => rfl
  | 7, _ => rfl
  | n + 8, h => exact absurd h (by omega)
/-- what a field's access rests on: own class, place in its pool, class and field -/
def FL (own : String) (index cl j : Nat) : Prop := ∃ (CN : String) (T : u_T) (N : Nat), vwCl[cl]? = some (CN, T, N) ∧ j < N ∧ (∀ w ∈ u_ws CN T N, w ∈ wl) ∧ (Cond.fieldLink own index (T j).1 (T j).2.1 (T j).2.2.1 ∈ wl ∨ Cond.fieldLinkNest own index (T j).1 (T j).2.1 (T j).2.2.1 "KeyMatrix" ∈ lw_tbl)
def FT (cl : Nat) : Prop := ∃ (CN : String) (T : u_T) (N : Nat) (ty : Nat → FieldType), vwCl[cl]? = some (CN, T, N) ∧ (∀ k, k < N → parseFieldDescriptor (T k).2.2.1 = some (ty k)) ∧ (∀ a, a < N → ∀ b, b < N → a ≠ b → (T a).2.1 ≠ (T b).2.1)
theorem fN_of {cl : Nat} {q : vw_C} (h : vwCl[cl]? = some q) : fN cl = q.2.2 := by
  unfold fN
  rw [h]
theorem vp_in_of2 {i : Int32} {n : Nat} (h : ¬ (i < 0 ∨ n ≤ i.toNatClampNeg)) : vp_in i n := h
theorem b_get0 (C : Cx p s m args c cc nL own D cy B) {index cl j r : Nat} (hf : FL own index cl j) (hq : chk g r cl) (hc : cl < 100) (hdg : decode cc pc = .ok (.getfield index, 3)) (k : WB p l e R s m args below meth c nL D cy B cells slots Q g d lv (pc + 3) (fv B g d r cl j :: rest)) : WB p l e R s m args below meth c nL D cy B cells slots Q g d lv pc (.ref (ad B r) :: rest) := by
  intro H locs ls hl hP hS
  obtain ⟨CN, T, N, h1, h2, h3, h4⟩ := hf
  obtain ⟨hx, hb, hml, hown, hts, hK, -, hN⟩ := C
  have hj : j < fN cl := by rw [fN_of h1]; exact h2
  rcases h4 with h4 | h4
  · exact va_get (D := D) hx hb hts h3 hown hK hP.2 r ((wls_at hq.1).trans (by rw [cel_o hq.2 hc])) h1 j h2 (hts _ h4) (fun _ h9 => h9) (fls_at hj) hdg (k H locs ls hl hP hS)
  · exact va_getN (D := D) hx hb hts h3 hown hK hP.2 r ((wls_at hq.1).trans (by rw [cel_o hq.2 hc])) h1 j h2 (va_Nw.use rfl (hN _ h4 rfl)) (fun _ h9 => h9) (fls_at hj) hdg (k H locs ls hl hP hS)
theorem b_getI (C : Cx p s m args c cc nL own D cy B) {index cl j r : Nat} (hf : FL own index cl j) (hq : chk g r cl) (hc : cl < 100) (hr : fR cl j = false) (hdg : decode cc pc = .ok (.getfield index, 3)) (k : WB p l e R s m args below meth c nL D cy B cells slots Q g d lv (pc + 3) (.int (dI d r j) :: rest)) : WB p l e R s m args below meth c nL D cy B cells slots Q g d lv pc (.ref (ad B r) :: rest) := by
  refine b_get0 C hf hq hc hdg ?_
  have e : fv B g d r cl j = .int (dI d r j) := by unfold fv; rw [hr]; rfl
  rw [e]
  exact k
theorem b_getR (C : Cx p s m args c cc nL own D cy B) {index cl j r r1 : Nat} (hf : FL own index cl j) (hq : chk g r cl) (hc : cl < 100) (hr : fR cl j = true) (he : gR g r j = some r1) (hdg : decode cc pc = .ok (.getfield index, 3)) (k : WB p l e R s m args below meth c nL D cy B cells slots Q g d lv (pc + 3) (.ref (ad B r1) :: rest)) : WB p l e R s m args below meth c nL D cy B cells slots Q g d lv pc (.ref (ad B r) :: rest) := by
  refine b_get0 C hf hq hc hdg ?_
  have e : fv B g d r cl j = .ref (ad B r1) := by unfold fv; rw [hr, he]; rfl
  rw [e]
  exact k
def okb (cl j : Nat) (v : Int32) : Prop := ∃ q : vw_C, vwCl[cl]? = some q ∧ (q.2.1 j).2.2.2 = false ∧ ((q.2.1 j).2.2.1 = "I" ∨ ((q.2.1 j).2.2.1 = "Z" ∧ (v = 0 ∨ v = 1)))
theorem nar_ib {ds : String} {ty : FieldType} {v : Int32} (h : ds = "I" ∨ (ds = "Z" ∧ (v = 0 ∨ v = 1))) (hp : parseFieldDescriptor ds = some ty) : narrow ty (.int v) = .int v ∧ fits ty (.int v) = true := by
  rcases h with rfl | ⟨rfl, h⟩
  · have e : parseFieldDescriptor "I" = some .int := by decide +kernel
    rw [e] at hp
    cases hp
    exact ⟨rfl, rfl⟩
  · have e : parseFieldDescriptor "Z" = some .boolean := by decide +kernel
    rw [e] at hp
    cases hp
    rcases h with rfl | rfl <;> exact ⟨by decide +kernel, by decide +kernel⟩
theorem sI_at {r j k : Nat} {v : Int32} : dI (sI d r j v) r k = if k = j then v else dI d r k := by
  by_cases h : k = j <;> simp [dI, sI, va_up, h]
theorem b_putI (C : Cx p s m args c cc nL own D cy B) {index cl j r : Nat} {v : Int32} {d1 : Ds} (hf : FL own index cl j) (ht : FT cl) (hq : chk g r cl) (hc : cl < 100) (hr : fR cl j = false) (ho : okb cl j v) (hd1 : d1 = sI d r j v) (hdg : decode cc pc = .ok (.putfield index, 3)) (k : WB p l e R s m args below meth c nL D cy B cells slots Q g d1 lv (pc + 3) rest) : WB p l e R s m args below meth c nL D cy B cells slots Q g d lv pc (.int v :: .ref (ad B r) :: rest) := by
  intro H locs ls hl hP hS
  obtain ⟨CN, T, N, h1, h2, h3, h4⟩ := hf
  obtain ⟨CN', T', N', ty, t1, t2, t3⟩ := ht
  rw [h1] at t1
  cases t1
  obtain ⟨hx, hb, hml, hown, hts, hK, hSx, hN⟩ := C
  have hj : j < fN cl := by rw [fN_of h1]; exact h2
  obtain ⟨q, e1, ho1, ho2⟩ := ho
  rw [h1] at e1
  cases e1
  have hn := nar_ib ho2 (t2 j h2)
  subst hd1
  have fin : cel B cy g (sI d r j v) r = .inr (cl, (fls B g d r cl).set j (.int v)) := by
    rw [cel_o hq.2 hc]
    congr 2
    refine (fls_set hj (fun x hx => ?_) ?_).symm
    · unfold fv
      rw [sI_at, if_neg hx]
    · unfold fv
      rw [hr, sI_at, if_pos rfl]
      rfl
  rcases h4 with h4 | h4
  · exact va_put (D := D) hx hb hts h3 ty t2 t3 hown hK hP.2 (wls_D hP.1) hS r ((wls_at hq.1).trans (by rw [cel_o hq.2 hc])) h1 j h2 (hts _ h4) (fun _ h9 => h9) ho1 (t2 j h2) hn.1 hn.2 (by simpa [fls] using hj) hdg (fun H1 locs1 hP1 hD1 hS1 => k H1 locs1 ls hl (hP.set hq.1 rfl (fun x _ hx => sI_o hx) fin hP1) hS1)
  · exact va_putN (D := D) hx hb hts h3 ty t2 t3 hown hK hP.2 (wls_D hP.1) hS r ((wls_at hq.1).trans (by rw [cel_o hq.2 hc])) h1 j h2 (va_Nw.use rfl (hN _ h4 rfl)) (fun _ h9 => h9) ho1 (t2 j h2) hn.1 hn.2 (by simpa [fls] using hj) hdg (fun H1 locs1 hP1 hD1 hS1 => k H1 locs1 ls hl (hP.set hq.1 rfl (fun x _ hx => sI_o hx) fin hP1) hS1)
theorem upd_eq (f : Nat → Int32) (k : Nat) (x : Int32) : upd f k x = va_up f k x := by
  funext j
  by_cases h : j = k <;> simp [upd, va_up, h]
theorem updL_eq (f : Nat → Int64) (k : Nat) (x : Int64) : vp_updL f k x = va_up f k x := by
  funext j
  by_cases h : j = k <;> simp [vp_updL, va_up, h]
theorem updF_eq (f : Nat → UInt32) (k : Nat) (x : UInt32) : vf_upd f k x = va_up f k x := by
  funext j
  by_cases h : j = k <;> simp [vf_upd, va_up, h]
theorem sI_row {r j : Nat} {v : Int32} : dI (sI d r j v) r = va_up (dI d r) j v := by simp [dI, sI, va_up]
theorem sF_row {r j : Nat} {v : UInt32} : dF (sF d r j v) r = va_up (dF d r) j v := by simp [dF, sF, va_up]
theorem sL_row {r j : Nat} {v : Int64} : dL (sL d r j v) r = va_up (dL d r) j v := by simp [dL, sL, va_up]
theorem sW_row {r j : Nat} {v : Option Nat} : dW (sW d r j v) r = va_up (dW d r) j v := by simp [dW, sW, va_up]
theorem cI_row {a r sp dp n : Nat} : dI (cI d a r sp dp n) r = va_cpy (dI d a) (dI d r) sp dp n := by simp [dI, cI, va_up]
theorem cF_row {a r sp dp n : Nat} : dF (cF d a r sp dp n) r = va_cpy (dF d a) (dF d r) sp dp n := by simp [dF, cF, va_up]
theorem b_iald (C : Cx p s m args c cc nL own D cy B) {r : Nat} {i : Int32} (hq : chk g r 102) (hi : ¬ (i < 0 ∨ gL g r ≤ i.toNatClampNeg)) (hdg : decode cc pc = .ok (.iaload, 1)) (k : WB p l e R s m args below meth c nL D cy B cells slots Q g d lv (pc + 1) (.int (dI d r i.toNatClampNeg) :: rest)) : WB p l e R s m args below meth c nL D cy B cells slots Q g d lv pc (.int i :: .ref (ad B r) :: rest) := by
  intro H locs ls hl hP hS
  obtain ⟨hx, hb, hml, hown, hts, hK, -⟩ := C
  exact va_iald (D := D) hx hb hK hP.2 r 2 ((wls_at hq.1).trans (by rw [cel_a (t := 2) hq.2]; rfl)) rfl hi hdg (k H locs ls hl hP hS)
theorem b_bald (C : Cx p s m args c cc nL own D cy B) {r : Nat} {i : Int32} (hq : chk g r 100) (hi : ¬ (i < 0 ∨ gL g r ≤ i.toNatClampNeg)) (hdg : decode cc pc = .ok (.baload, 1)) (k : WB p l e R s m args below meth c nL D cy B cells slots Q g d lv (pc + 1) (.int (dI d r i.toNatClampNeg) :: rest)) : WB p l e R s m args below meth c nL D cy B cells slots Q g d lv pc (.int i :: .ref (ad B r) :: rest) := by
  intro H locs ls hl hP hS
  obtain ⟨hx, hb, hml, hown, hts, hK, -⟩ := C
  exact va_bald (D := D) hx hb hK hP.2 r 0 ((wls_at hq.1).trans (by rw [cel_a (t := 0) hq.2]; rfl)) rfl hi hdg (k H locs ls hl hP hS)
theorem b_zald (C : Cx p s m args c cc nL own D cy B) {r : Nat} {i : Int32} (hq : chk g r 104) (hi : ¬ (i < 0 ∨ gL g r ≤ i.toNatClampNeg)) (hdg : decode cc pc = .ok (.baload, 1)) (k : WB p l e R s m args below meth c nL D cy B cells slots Q g d lv (pc + 1) (.int (dI d r i.toNatClampNeg) :: rest)) : WB p l e R s m args below meth c nL D cy B cells slots Q g d lv pc (.int i :: .ref (ad B r) :: rest) := by
  intro H locs ls hl hP hS
  obtain ⟨hx, hb, hml, hown, hts, hK, -⟩ := C
  exact va_zald (D := D) hx hb hK hP.2 r 4 ((wls_at hq.1).trans (by rw [cel_a (t := 4) hq.2]; rfl)) rfl hi hdg (k H locs ls hl hP hS)
theorem b_lald (C : Cx p s m args c cc nL own D cy B) {r : Nat} {i : Int32} (hq : chk g r 103) (hi : ¬ (i < 0 ∨ gL g r ≤ i.toNatClampNeg)) (hdg : decode cc pc = .ok (.laload, 1)) (k : WB p l e R s m args below meth c nL D cy B cells slots Q g d lv (pc + 1) (.long (dL d r i.toNatClampNeg) :: rest)) : WB p l e R s m args below meth c nL D cy B cells slots Q g d lv pc (.int i :: .ref (ad B r) :: rest) := by
  intro H locs ls hl hP hS
  obtain ⟨hx, hb, hml, hown, hts, hK, -⟩ := C
  exact va_lald (D := D) hx hb hK hP.2 r 3 ((wls_at hq.1).trans (by rw [cel_a (t := 3) hq.2]; rfl)) rfl hi hdg (k H locs ls hl hP hS)
theorem b_fald (C : Cx p s m args c cc nL own D cy B) {r : Nat} {i : Int32} (hq : chk g r 101) (hi : ¬ (i < 0 ∨ gL g r ≤ i.toNatClampNeg)) (hdg : decode cc pc = .ok (.faload, 1)) (k : WB p l e R s m args below meth c nL D cy B cells slots Q g d lv (pc + 1) (.float (dF d r i.toNatClampNeg) :: rest)) : WB p l e R s m args below meth c nL D cy B cells slots Q g d lv pc (.int i :: .ref (ad B r) :: rest) := by
  intro H locs ls hl hP hS
  obtain ⟨hx, hb, hml, hown, hts, hK, -⟩ := C
  exact va_fald (D := D) hx hb hK hP.2 r 1 ((wls_at hq.1).trans (by rw [cel_a (t := 1) hq.2]; rfl)) rfl hi hdg (k H locs ls hl hP hS)
theorem b_aaldD (C : Cx p s m args c cc nL own D cy B) {r r1 : Nat} {i : Int32} (hq : chk g r 105) (hi : ¬ (i < 0 ∨ gL g r ≤ i.toNatClampNeg)) (he : gR g r i.toNatClampNeg = some r1) (hdg : decode cc pc = .ok (.aaload, 1)) (k : WB p l e R s m args below meth c nL D cy B cells slots Q g d lv (pc + 1) (.ref (ad B r1) :: rest)) : WB p l e R s m args below meth c nL D cy B cells slots Q g d lv pc (.int i :: .ref (ad B r) :: rest) := by
  intro H locs ls hl hP hS
  obtain ⟨hx, hb, hml, hown, hts, hK, -⟩ := C
  refine va_aldq (D := D) hx hb hK hP.2 r 5 ((wls_at hq.1).trans (by rw [cel_a (t := 5) hq.2]; rfl)) rfl hi hdg ?_
  rw [he]
  exact k H locs ls hl hP hS
theorem b_aaldC (C : Cx p s m args c cc nL own D cy B) {r r1 : Nat} {i : Int32} (hq : chk g r 106) (hi : ¬ (i < 0 ∨ gL g r ≤ i.toNatClampNeg)) (he : gR g r i.toNatClampNeg = some r1) (hdg : decode cc pc = .ok (.aaload, 1)) (k : WB p l e R s m args below meth c nL D cy B cells slots Q g d lv (pc + 1) (.ref (ad B r1) :: rest)) : WB p l e R s m args below meth c nL D cy B cells slots Q g d lv pc (.int i :: .ref (ad B r) :: rest) := by
  intro H locs ls hl hP hS
  obtain ⟨hx, hb, hml, hown, hts, hK, -⟩ := C
  refine va_aldq (D := D) hx hb hK hP.2 r 6 ((wls_at hq.1).trans (by rw [cel_a (t := 6) hq.2]; rfl)) rfl hi hdg ?_
  rw [he]
  exact k H locs ls hl hP hS
theorem b_aaldW (C : Cx p s m args c cc nL own D cy B) {r : Nat} {i : Int32} (hq : chk g r 107) (hi : ¬ (i < 0 ∨ gL g r ≤ i.toNatClampNeg)) (hdg : decode cc pc = .ok (.aaload, 1)) (k : WB p l e R s m args below meth c nL D cy B cells slots Q g d lv (pc + 1) (rv B (dW d r i.toNatClampNeg) :: rest)) : WB p l e R s m args below meth c nL D cy B cells slots Q g d lv pc (.int i :: .ref (ad B r) :: rest) := by
  intro H locs ls hl hP hS
  obtain ⟨hx, hb, hml, hown, hts, hK, -⟩ := C
  exact va_aldq (D := D) (f := fun i => (dW d r i).map (ad B)) hx hb hK hP.2 r 7 ((wls_at hq.1).trans (by rw [cel_a (t := 7) hq.2]; rfl)) rfl hi hdg (k H locs ls hl hP hS)
theorem b_iast (C : Cx p s m args c cc nL own D cy B) {r : Nat} {i : Int32} {x : Int32} {d1 : Ds} (hq : chk g r 102) (hi : ¬ (i < 0 ∨ gL g r ≤ i.toNatClampNeg)) (hd1 : d1 = sI d r i.toNatClampNeg x) (hdg : decode cc pc = .ok (.iastore, 1)) (k : WB p l e R s m args below meth c nL D cy B cells slots Q g d1 lv (pc + 1) rest) : WB p l e R s m args below meth c nL D cy B cells slots Q g d lv pc (.int x :: .int i :: .ref (ad B r) :: rest) := by
  intro H locs ls hl hP hS
  obtain ⟨hx, hb, hml, hown, hts, hK, -⟩ := C
  subst hd1
  refine va_iast (D := D) hx hb hK hP.2 (wls_D hP.1) hS r 2 ((wls_at hq.1).trans (by rw [cel_a (t := 2) hq.2]; rfl)) rfl hi hdg (fun H1 locs1 hP1 hD1 hS1 => k H1 locs1 ls hl (hP.set hq.1 rfl (fun x _ hx => sI_o hx) ?_ hP1) hS1)
  rw [cel_a (t := 2) hq.2, upd_eq]
  unfold ar
  rw [sI_row]
  rfl
theorem b_bast (C : Cx p s m args c cc nL own D cy B) {r : Nat} {i : Int32} {x : Int32} {d1 : Ds} (hq : chk g r 100) (hi : ¬ (i < 0 ∨ gL g r ≤ i.toNatClampNeg)) (hd1 : d1 = sI d r i.toNatClampNeg (vp_nar .byte x)) (hdg : decode cc pc = .ok (.bastore, 1)) (k : WB p l e R s m args below meth c nL D cy B cells slots Q g d1 lv (pc + 1) rest) : WB p l e R s m args below meth c nL D cy B cells slots Q g d lv pc (.int x :: .int i :: .ref (ad B r) :: rest) := by
  intro H locs ls hl hP hS
  obtain ⟨hx, hb, hml, hown, hts, hK, -⟩ := C
  subst hd1
  refine va_bast (D := D) hx hb hK hP.2 (wls_D hP.1) hS r 0 ((wls_at hq.1).trans (by rw [cel_a (t := 0) hq.2]; rfl)) rfl hi hdg (fun H1 locs1 hP1 hD1 hS1 => k H1 locs1 ls hl (hP.set hq.1 rfl (fun x _ hx => sI_o hx) ?_ hP1) hS1)
  rw [cel_a (t := 0) hq.2, upd_eq]
  unfold ar
  rw [sI_row]
  rfl
theorem b_zast (C : Cx p s m args c cc nL own D cy B) {r : Nat} {i : Int32} {x : Int32} {d1 : Ds} (hq : chk g r 104) (hi : ¬ (i < 0 ∨ gL g r ≤ i.toNatClampNeg)) (hd1 : d1 = sI d r i.toNatClampNeg (vp_nar .boolean x)) (hdg : decode cc pc = .ok (.bastore, 1)) (k : WB p l e R s m args below meth c nL D cy B cells slots Q g d1 lv (pc + 1) rest) : WB p l e R s m args below meth c nL D cy B cells slots Q g d lv pc (.int x :: .int i :: .ref (ad B r) :: rest) := by
  intro H locs ls hl hP hS
  obtain ⟨hx, hb, hml, hown, hts, hK, -⟩ := C
  subst hd1
  refine va_zast (D := D) hx hb hK hP.2 (wls_D hP.1) hS r 4 ((wls_at hq.1).trans (by rw [cel_a (t := 4) hq.2]; rfl)) rfl hi hdg (fun H1 locs1 hP1 hD1 hS1 => k H1 locs1 ls hl (hP.set hq.1 rfl (fun x _ hx => sI_o hx) ?_ hP1) hS1)
  rw [cel_a (t := 4) hq.2, upd_eq]
  unfold ar
  rw [sI_row]
  rfl
theorem b_last (C : Cx p s m args c cc nL own D cy B) {r : Nat} {i : Int32} {x : Int64} {d1 : Ds} (hq : chk g r 103) (hi : ¬ (i < 0 ∨ gL g r ≤ i.toNatClampNeg)) (hd1 : d1 = sL d r i.toNatClampNeg x) (hdg : decode cc pc = .ok (.lastore, 1)) (k : WB p l e R s m args below meth c nL D cy B cells slots Q g d1 lv (pc + 1) rest) : WB p l e R s m args below meth c nL D cy B cells slots Q g d lv pc (.long x :: .int i :: .ref (ad B r) :: rest) := by
  intro H locs ls hl hP hS
  obtain ⟨hx, hb, hml, hown, hts, hK, -⟩ := C
  subst hd1
  refine va_last (D := D) hx hb hK hP.2 (wls_D hP.1) hS r 3 ((wls_at hq.1).trans (by rw [cel_a (t := 3) hq.2]; rfl)) rfl hi hdg (fun H1 locs1 hP1 hD1 hS1 => k H1 locs1 ls hl (hP.set hq.1 rfl (fun x _ hx => sL_o hx) ?_ hP1) hS1)
  rw [cel_a (t := 3) hq.2, updL_eq]
  unfold ar
  rw [sL_row]
  rfl
theorem b_fast (C : Cx p s m args c cc nL own D cy B) {r : Nat} {i : Int32} {x : UInt32} {d1 : Ds} (hq : chk g r 101) (hi : ¬ (i < 0 ∨ gL g r ≤ i.toNatClampNeg)) (hd1 : d1 = sF d r i.toNatClampNeg x) (hdg : decode cc pc = .ok (.fastore, 1)) (k : WB p l e R s m args below meth c nL D cy B cells slots Q g d1 lv (pc + 1) rest) : WB p l e R s m args below meth c nL D cy B cells slots Q g d lv pc (.float x :: .int i :: .ref (ad B r) :: rest) := by
  intro H locs ls hl hP hS
  obtain ⟨hx, hb, hml, hown, hts, hK, -⟩ := C
  subst hd1
  refine va_fast (D := D) hx hb hK hP.2 (wls_D hP.1) hS r 1 ((wls_at hq.1).trans (by rw [cel_a (t := 1) hq.2]; rfl)) rfl hi hdg (fun H1 locs1 hP1 hD1 hS1 => k H1 locs1 ls hl (hP.set hq.1 rfl (fun x _ hx => sF_o hx) ?_ hP1) hS1)
  rw [cel_a (t := 1) hq.2, updF_eq]
  unfold ar
  rw [sF_row]
  rfl
theorem b_alen (C : Cx p s m args c cc nL own D cy B) {r t : Nat} (hq : chk g r (100 + t)) (ht : t < 8) (hdg : decode cc pc = .ok (.arraylength, 1)) (k : WB p l e R s m args below meth c nL D cy B cells slots Q g d lv (pc + 1) (.int (Int32.ofNat (gL g r)) :: rest)) : WB p l e R s m args below meth c nL D cy B cells slots Q g d lv pc (.ref (ad B r) :: rest) := by
  intro H locs ls hl hP hS
  obtain ⟨hx, hb, hml, hown, hts, hK, -⟩ := C
  exact va_alen (D := D) (v := Int32.ofNat (gL g r)) hx hb hK hP.2 r t ((wls_at hq.1).trans (by rw [cel_a hq.2])) (tys8_at ht) rfl hdg (k H locs ls hl hP hS)
def FLI (own : String) (index cl j : Nat) : Prop := FL own index cl j ∧ cl < 100 ∧ fR cl j = false
def FLR (own : String) (index cl j : Nat) : Prop := FL own index cl j ∧ cl < 100 ∧ fR cl j = true
def FPI (cl j : Nat) : Prop := FT cl ∧ ∃ q : vw_C, vwCl[cl]? = some q ∧ (q.2.1 j).2.2.2 = false ∧ (q.2.1 j).2.2.1 = "I"
def FPZ (cl j : Nat) : Prop := FT cl ∧ ∃ q : vw_C, vwCl[cl]? = some q ∧ (q.2.1 j).2.2.2 = false ∧ (q.2.1 j).2.2.1 = "Z"
theorem b_gI (C : Cx p s m args c cc nL own D cy B) {index cl j r : Nat} (hdg : decode cc pc = .ok (.getfield index, 3)) (hf : FLI own index cl j) (hq : chk g r cl) (k : WB p l e R s m args below meth c nL D cy B cells slots Q g d lv (pc + 3) (.int (dI d r j) :: rest)) : WB p l e R s m args below meth c nL D cy B cells slots Q g d lv pc (.ref (ad B r) :: rest) := b_getI C hf.1 hq hf.2.1 hf.2.2 hdg k
theorem b_gR (C : Cx p s m args c cc nL own D cy B) {index cl j r r1 : Nat} (hdg : decode cc pc = .ok (.getfield index, 3)) (hf : FLR own index cl j) (hq : chk g r cl) (he : gR g r j = some r1) (k : WB p l e R s m args below meth c nL D cy B cells slots Q g d lv (pc + 3) (.ref (ad B r1) :: rest)) : WB p l e R s m args below meth c nL D cy B cells slots Q g d lv pc (.ref (ad B r) :: rest) := b_getR C hf.1 hq hf.2.1 hf.2.2 he hdg k
theorem b_pI (C : Cx p s m args c cc nL own D cy B) {index cl j r : Nat} {v : Int32} {d1 : Ds} (hdg : decode cc pc = .ok (.putfield index, 3)) (hf : FLI own index cl j) (ht : FPI cl j) (hq : chk g r cl) (hd1 : d1 = sI d r j v) (k : WB p l e R s m args below meth c nL D cy B cells slots Q g d1 lv (pc + 3) rest) : WB p l e R s m args below meth c nL D cy B cells slots Q g d lv pc (.int v :: .ref (ad B r) :: rest) := b_putI C hf.1 ht.1 hq hf.2.1 hf.2.2 (by obtain ⟨-, q, h1, h2, h3⟩ := ht; exact ⟨q, h1, h2, Or.inl h3⟩) hd1 hdg k
theorem b_pZ (C : Cx p s m args c cc nL own D cy B) {index cl j r : Nat} {v : Int32} {d1 : Ds} (hdg : decode cc pc = .ok (.putfield index, 3)) (hf : FLI own index cl j) (ht : FPZ cl j) (hz : v = 0 ∨ v = 1) (hq : chk g r cl) (hd1 : d1 = sI d r j v) (k : WB p l e R s m args below meth c nL D cy B cells slots Q g d1 lv (pc + 3) rest) : WB p l e R s m args below meth c nL D cy B cells slots Q g d lv pc (.int v :: .ref (ad B r) :: rest) := b_putI C hf.1 ht.1 hq hf.2.1 hf.2.2 (by obtain ⟨-, q, h1, h2, h3⟩ := ht; exact ⟨q, h1, h2, Or.inr ⟨h3, hz⟩⟩) hd1 hdg k
end BR
end
section
/-- a method's start: its arguments, the world -/
def PC (D : va_G) (cy : Nat → ClassId) (B : Bs) (av : List Value) (g : Gs) (d : Ds) : Array Value → State → Prop := va_Pc av (fun U => WP D cy B g d U.heap ∧ va_K D vwCl (tys8 cy) U ∧ Sx B U ∧ NzS U)
def QI (D : va_G) (cy : Nat → ClassId) (B : Bs) (v : Int32) (g : Gs) (d : Ds) : Array Value → State → Outcome → State → Prop := va_Qi (fun (x : Int32) (_ : Unit) => x = v) (fun _ t => WP D cy B g d t.heap) (wA B)
def QJ (D : va_G) (cy : Nat → ClassId) (B : Bs) (v : Int64) (g : Gs) (d : Ds) : Array Value → State → Outcome → State → Prop := va_Ql (fun (x : Int64) (_ : Unit) => x = v) (fun _ t => WP D cy B g d t.heap) (wA B)
def QV (D : va_G) (cy : Nat → ClassId) (B : Bs) (g : Gs) (d : Ds) : Array Value → State → Outcome → State → Prop := va_Qv (fun (_ : Unit) => True) (fun _ t => WP D cy B g d t.heap) (wA B)
def QR (D : va_G) (cy : Nat → ClassId) (B : Bs) (v : Nat) (g : Gs) (d : Ds) : Array Value → State → Outcome → State → Prop := va_Qr (fun (_ : Unit) => True) (fun _ a t => a = ad B v ∧ WP D cy B g d t.heap) (wA B)
def QQ (D : va_G) (cy : Nat → ClassId) (B : Bs) (v : Option Nat) (g : Gs) (d : Ds) : Array Value → State → Outcome → State → Prop := va_Qq (fun (x : Option Nat) (_ : Unit) => x = v.map (ad B)) (fun _ t => WP D cy B g d t.heap) (wA B)
theorem wp_at {D : va_G} {cy : Nat → ClassId} {B : Bs} {g : Gs} {d : Ds} {t : State} {H : Heap} (ht : t.heap = H) (hP : WP D cy B g d H) : WP D cy B g d t.heap := by
  rw [ht]
  exact hP
theorem Sx.moved {B : Bs} {u U : State} (hvm : u.vm.Alike U.vm) (hq : ∀ a : Nat, a < u.heap.size → ¬ wA B a → U.heap[a]? = u.heap[a]?) (h : Sx B u) : Sx B U := ⟨fun i hi => ((h.1 i hi).moved hvm).kept hq, h.2.1, h.2.2.1.moved hvm, h.2.2.2.1.moved hvm, h.2.2.2.2.moved hvm⟩
theorem PC.blind {D : va_G} {cy : Nat → ClassId} {B : Bs} {av : List Value} {g : Gs} {d : Ds} : FrameBlind (PC D cy B av g d) := fun a U f mk q => by
  obtain ⟨q0, qP, qK, qS, qN⟩ := q
  exact ⟨q0, qP, va_K.moved (u := U) (U := U.calling f mk a) (Vm.Alike.refl U.vm) qK, Sx.moved (u := U) (U := U.calling f mk a) (Vm.Alike.refl U.vm) (fun _ _ _ => rfl) qS, NzS.same (s := U) (U := U.calling f mk a) rfl qN⟩
/-- from the walk of its body a method's contract -/
theorem met_of {l : Launch} {y : MethodName} {cd : ByteArray} {maxL : Nat} {ret : Option FieldType} {rm : Room} {D : va_G} {cy : Nat → ClassId} {B : Bs} {av : List Value} {g : Gs} {d : Ds} {Qc : Array Value → State → Outcome → State → Prop} {mc ms : Nat} (hy : plainName y.cls = true) (ha : (lg_sl av).length ≤ maxL)
    (body : ∀ (p : Program) (e : Env) (s : State) (m : MethodId) (args : Array Value) (below : List Frame) (meth : Method) (c : Code), Cx p s m args c cd maxL y.cls D cy B → meth.sig.returnType = ret → meth.locks = false → meth.name = y.name → WB p l e rm s m args below meth c maxL D cy B 0 0 (MQ below Qc args s mc ms (wA B)) g d (lv_args 0 av) 0 []) : Met l y (.code y cd maxL ret :: wl) rm (PC D cy B av g d) Qc mc ms (wA B) := by
  refine Met.ofW (cc := cd) (maxL := maxL) (ret := ret) hy rfl ?_
  intro p e s m args below meth c s1 A hml hv
  obtain ⟨ha2, hP, hK, hS, hN⟩ := hv
  have hts := atoms_spec (ws := .code y cd maxL ret :: wl) A.pre
  have hbody := body p e s m args below meth c ⟨A.exec, A.bytes, hml, findClass_of_methodNamed A.named, fun w hw => hts w (List.mem_cons_of_mem _ hw), hK, hS, hN⟩ A.returns A.notSynchronized (name_of_methodNamed A.named A.method).1
  subst ha2
  rw [lg_entry_eq]
  exact hbody s.heap [] _ (lv_entry av ha) hP va_S.rf
section BC
variable {p : Program} {l : Launch} {e : Env} {R : Room} {s : State} {m : MethodId} {args : Array Value} {below : List Frame} {meth : Method} {c : Code} {cells slots : Nat} {Q : State → Prop} {nL : Nat} {D : va_G} {cy : Nat → ClassId} {B : Bs} {g : Gs} {d : Ds} {lv : List (Nat × Value)} {pc : Nat} {cc : ByteArray} {own : String} {rest : List Value}
theorem b_iret (C : Cx p s m args c cc nL own D cy B) (hr : meth.sig.returnType = some .int) (hlocks : meth.locks = false)  {v v1 : Int32} {d1 : Ds} (h : some (v, d) = some (v1, d1)) (hdg : decode cc pc = .ok (.ireturn, 1)) : WB p l e R s m args below meth c nL D cy B cells slots (MQ below (QI D cy B v1 g d1) args s cells slots (wA B)) g d lv pc ([.int v]) := by
  cases h
  intro H locs ls hl hP hS
  obtain ⟨hx, hb, hml, hown, hts, hK, -⟩ := C
  exact W.iret hx hb hr (fun t ht hW => ⟨⟨v, (), rfl, rfl, wp_at ht hP⟩, hS.F ht⟩) hS.2.2 hdg hlocks
theorem b_lret (C : Cx p s m args c cc nL own D cy B) (hr : meth.sig.returnType = some .long) (hlocks : meth.locks = false)  {v v1 : Int64} {d1 : Ds} (h : some (v, d) = some (v1, d1)) (hdg : decode cc pc = .ok (.lreturn, 1)) : WB p l e R s m args below meth c nL D cy B cells slots (MQ below (QJ D cy B v1 g d1) args s cells slots (wA B)) g d lv pc ([.long v]) := by
  cases h
  intro H locs ls hl hP hS
  obtain ⟨hx, hb, hml, hown, hts, hK, -⟩ := C
  exact W.lret hx hb hr (fun t ht hW => ⟨⟨v, (), rfl, rfl, wp_at ht hP⟩, hS.F ht⟩) hS.2.2 hdg hlocks
theorem nar_b {v : Int32} (h : v = 0 ∨ v = 1) : narrow .boolean (.int v) = .int v := by rcases h with rfl | rfl <;> decide +kernel
theorem b_zret (C : Cx p s m args c cc nL own D cy B) (hr : meth.sig.returnType = some .boolean) (hlocks : meth.locks = false) {v v1 : Int32} {d1 : Ds} (hz : v = 0 ∨ v = 1) (h : some (v, d) = some (v1, d1)) (hdg : decode cc pc = .ok (.ireturn, 1)) : WB p l e R s m args below meth c nL D cy B cells slots (MQ below (QI D cy B v1 g d1) args s cells slots (wA B)) g d lv pc ([.int v]) := by
  cases h
  intro H locs ls hl hP hS
  obtain ⟨hx, hb, hml, hown, hts, hK, -⟩ := C
  exact W.zret hx hb hr (nar_b hz) (fun t ht hW => ⟨⟨v, (), rfl, rfl, wp_at ht hP⟩, hS.F ht⟩) hS.2.2 hdg hlocks
theorem b_vret (C : Cx p s m args c cc nL own D cy B) (hr : meth.sig.returnType = none) (hlocks : meth.locks = false) {d1 : Ds} (h : some ((), d) = some ((), d1)) (hdg : decode cc pc = .ok (.return_, 1)) : WB p l e R s m args below meth c nL D cy B cells slots (MQ below (QV D cy B g d1) args s cells slots (wA B)) g d lv pc [] := by
  cases h
  intro H locs ls hl hP hS
  obtain ⟨hx, hb, hml, hown, hts, hK, -⟩ := C
  exact W.vret hx hb hr (fun t ht hW => ⟨⟨(), rfl, trivial, wp_at ht hP⟩, hS.F ht⟩) hS.2.2 hdg hlocks
theorem b_aret (C : Cx p s m args c cc nL own D cy B) {CN : String} (hr : meth.sig.returnType = some (.object CN)) (hlocks : meth.locks = false) {v v1 : Nat} {d1 : Ds} (h : some (v, d) = some (v1, d1)) (hdg : decode cc pc = .ok (.areturn, 1)) : WB p l e R s m args below meth c nL D cy B cells slots (MQ below (QR D cy B v1 g d1) args s cells slots (wA B)) g d lv pc ([.ref (ad B v)]) := by
  cases h
  intro H locs ls hl hP hS
  obtain ⟨hx, hb, hml, hown, hts, hK, -⟩ := C
  exact W.aret hx hb hr (Or.inl ⟨_, rfl⟩) (Or.inr ⟨_, rfl⟩) (fun t ht hW => ⟨⟨(), ad B v, rfl, trivial, rfl, wp_at ht hP⟩, hS.F ht⟩) hS.2.2 hdg hlocks
theorem b_aretQ (C : Cx p s m args c cc nL own D cy B) {CN : String} (hr : meth.sig.returnType = some (.object CN)) (hlocks : meth.locks = false) {v v1 : Option Nat} {d1 : Ds} (h : some (v, d) = some (v1, d1)) (hdg : decode cc pc = .ok (.areturn, 1)) : WB p l e R s m args below meth c nL D cy B cells slots (MQ below (QQ D cy B v1 g d1) args s cells slots (wA B)) g d lv pc ([rv B v]) := by
  cases h
  intro H locs ls hl hP hS
  obtain ⟨hx, hb, hml, hown, hts, hK, -⟩ := C
  refine W.aret hx hb hr (Or.inl ⟨_, rfl⟩) (by cases v <;> first | exact Or.inl rfl | exact Or.inr ⟨_, rfl⟩) (fun t ht hW => ⟨⟨v.map (ad B), (), rfl, rfl, wp_at ht hP⟩, hS.F ht⟩) hS.2.2 hdg hlocks
/-- what a call of an instance's method rests on -/
def LV (own : String) (index : Nat) (y : MethodName) (bytes : ByteArray) (maxL : Nat) (ret : Option FieldType) (n cl : Nat) : Prop := (∃ q : vw_C, vwCl[cl]? = some q ∧ q.1 = y.cls) ∧ (y.cls ≠ "java/lang/invoke/MethodHandle" ∧ y.cls ≠ "java/lang/invoke/VarHandle" ∧ (parseMethodDescriptor y.desc).map (fun d => d.parameters.length) = some n) ∧ Cond.methodLink own index y ∈ wl ∧ Cond.instanceMethod y ∈ wl ∧ Cond.selects y.cls y y ∈ wl ∧ Cond.initialized y.cls ∈ wl ∧ Cond.code y bytes maxL ret ∈ wl
/-- a static one -/
def LSt (own : String) (index : Nat) (y : MethodName) (bytes : ByteArray) (maxL : Nat) (ret : Option FieldType) (n : Nat) : Prop := (y.cls ≠ "java/lang/invoke/MethodHandle" ∧ y.cls ≠ "java/lang/invoke/VarHandle" ∧ (parseMethodDescriptor y.desc).map (fun d => d.parameters.length) = some n) ∧ (Cond.methodLink own index y ∈ wl ∨ Cond.methodLinkNest own index y "KeyMatrix" ∈ lw_tbl) ∧ Cond.static y ∈ wl ∧ Cond.initialized y.cls ∈ wl ∧ Cond.code y bytes maxL ret ∈ wl
theorem law_in {y : MethodName} {bytes : ByteArray} {maxL : Nat} {ret : Option FieldType} (h : Cond.code y bytes maxL ret ∈ wl) : GoodIn wl (.code y bytes maxL ret :: wl) := by
  intro w hw
  have hm : w ∈ wl := by
    rcases List.mem_cons.mp hw with rfl | h2
    · exact h
    · exact h2
  exact ⟨hm, good_of_word (wl_good hm)⟩
def rmOk (R rm : Room) (maxL mc ms : Nat) : Prop := rm.cells = mc ∧ rm.slots = ms ∧ rm.frames + 1 ≤ R.frames ∧ 8 + (maxL + 11) + rm.locals ≤ R.locals
theorem runV (C : Cx p s m args c cc nL own D cy B) {index maxL n mc ms : Nat} {y : MethodName} {bytes : ByteArray} {ret : Option FieldType} {rm : Room} {As : List Value} {Qc : Array Value → State → Outcome → State → Prop} {cl r0 : Nat} (hM : Met l y (.code y bytes maxL ret :: wl) rm (PC D cy B (.ref (ad B r0) :: As) g d) Qc mc ms (wA B)) (hV : LV own index y bytes maxL ret n cl) (hrm : rmOk R rm maxL mc ms) (hq : chk g r0 cl) (hc : cl < 100) (hn : As.length = n) (hrest : (rest.map fun v => v.category).sum ≤ 8) (hdg : decode cc pc = .ok (.invokevirtual index, 3)) (hcs : cells + mc ≤ R.cells ∧ slots + ms ≤ R.slots) {st : List Value} (hst : st = As.reverse ++ .ref (ad B r0) :: rest) {H : Heap} {locs : List Loc} {ls : Array Slot} (hl : lv_has ls nL lv) (hP : WP D cy B g d H) (hS : va_S (wA B) s.heap H locs) : va_Run p l e R s m args below meth c H locs cells slots mc ms (F0 m pc ls st) rest (Qc (Value.ref (ad B r0) :: As).toArray) (wA B) := by
  obtain ⟨hx, hb, hml, hown, hts, hK, hSx, hN⟩ := C
  obtain ⟨⟨q, v1, v2⟩, v3, v4, v5, v6, v7, v8⟩ := hV
  have he : (wls B cy g d)[r0]? = some (ad B r0, .inr (cl, fls B g d r0 cl)) := (wls_at hq.1).trans (by rw [cel_o hq.2 hc])
  have hG := law_in v8
  have cw : CallW R s args own y.cls index y bytes maxL ret (.code y bytes maxL ret :: wl) rm mc ms n :=
    ⟨callB_of n hts hG rfl hrm.1 hrm.2.1 (hts _ v7) (hts _ v4) v3 hrm.2.2, hts _ v5, hts _ v6⟩
  refine va_runV (As := As) (rest := rest) (b := ad B r0) (C := y.cls) ⟨hx, hb, hml, hown, hts⟩ hM cw ⟨PC.blind, ?_, fun U hU hW => ⟨rfl, by rw [hU]; exact hP, va_K.moved hW.alike hK, Sx.moved hW.alike (fun a h1 h2 => by rw [hU]; exact hS.2.1 a h1 h2) hSx, NzS.warm hW hN⟩⟩ rfl hn hl.1 hst (lv_room hrest) hdg hcs
  rw [← v2]
  exact va_recv hK hP.2 v1 he
theorem runS (C : Cx p s m args c cc nL own D cy B) {index maxL n mc ms : Nat} {y : MethodName} {bytes : ByteArray} {ret : Option FieldType} {rm : Room} {As : List Value} {Qc : Array Value → State → Outcome → State → Prop} (hM : Met l y (.code y bytes maxL ret :: wl) rm (PC D cy B As g d) Qc mc ms (wA B)) (hV : LSt own index y bytes maxL ret n) (hrm : rmOk R rm maxL mc ms) (hn : As.length = n) (hrest : (rest.map fun v => v.category).sum ≤ 8) (hdg : decode cc pc = .ok (.invokestatic index, 3)) (hcs : cells + mc ≤ R.cells ∧ slots + ms ≤ R.slots) {st : List Value} (hst : st = As.reverse ++ rest) {H : Heap} {locs : List Loc} {ls : Array Slot} (hl : lv_has ls nL lv) (hP : WP D cy B g d H) (hS : va_S (wA B) s.heap H locs) : va_Run p l e R s m args below meth c H locs cells slots mc ms (F0 m pc ls st) rest (Qc As.toArray) (wA B) := by
  obtain ⟨hx, hb, hml, hown, hts, hK, hSx, hN⟩ := C
  obtain ⟨v3, v4, v5, v7, v8⟩ := hV
  have hp : PreS s H (PC D cy B As g d) As := ⟨PC.blind, fun U hU hW => ⟨rfl, by rw [hU]; exact hP, va_K.moved hW.alike hK, Sx.moved hW.alike (fun a h1 h2 => by rw [hU]; exact hS.2.1 a h1 h2) hSx, NzS.warm hW hN⟩⟩
  rcases v4 with v4 | v4
  · exact va_runS (As := As) (rest := rest) ⟨hx, hb, hml, hown, hts⟩ hM ⟨callB_of n hts (law_in v8) rfl hrm.1 hrm.2.1 (hts _ v7) (hts _ v4) v3 hrm.2.2, hts _ v5⟩ hp rfl hn hl.1 hst (lv_room hrest) hdg hcs
  · exact va_runSN (As := As) (rest := rest) ⟨hx, hb, hml, hown, hts⟩ hM ⟨va_cnB n hts (law_in v8) rfl hrm.1 hrm.2.1 (hN _ v4 rfl) (hts _ v7) v3 hrm.2.2, hts _ v5, trivial⟩ hp rfl hn hl.1 hst (lv_room hrest) hdg hcs
/-- a constructor -/
def LCo (own : String) (index : Nat) (y : MethodName) (bytes : ByteArray) (maxL : Nat) (n : Nat) : Prop := y.name = "<init>" ∧ (y.cls ≠ "java/lang/invoke/MethodHandle" ∧ y.cls ≠ "java/lang/invoke/VarHandle" ∧ (parseMethodDescriptor y.desc).map (fun d => d.parameters.length) = some n) ∧ (Cond.methodLink own index y ∈ wl ∨ Cond.methodLinkNest own index y "KeyMatrix" ∈ lw_tbl) ∧ Cond.instanceMethod y ∈ wl ∧ Cond.initialized y.cls ∈ wl ∧ Cond.code y bytes maxL none ∈ wl
theorem runI (C : Cx p s m args c cc nL own D cy B) {index maxL n mc ms : Nat} {y : MethodName} {bytes : ByteArray}  {rm : Room} {As : List Value} {ret : Option FieldType} {Qc : Array Value → State → Outcome → State → Prop} {r0 : Nat} (hret : ret = none) (hM : Met l y (.code y bytes maxL none :: wl) rm (PC D cy B (.ref (ad B r0) :: As) g d) Qc mc ms (wA B)) (hV : LCo own index y bytes maxL n) (hrm : rmOk R rm maxL mc ms) (hn : As.length = n) (hrest : (rest.map fun v => v.category).sum ≤ 8) (hdg : decode cc pc = .ok (.invokespecial index, 3)) (hcs : cells + mc ≤ R.cells ∧ slots + ms ≤ R.slots) {st : List Value} (hst : st = As.reverse ++ .ref (ad B r0) :: rest) {H : Heap} {locs : List Loc} {ls : Array Slot} (hl : lv_has ls nL lv) (hP : WP D cy B g d H) (hS : va_S (wA B) s.heap H locs) : va_Run p l e R s m args below meth c H locs cells slots mc ms (F0 m pc ls st) rest (Qc (Value.ref (ad B r0) :: As).toArray) (wA B) := by
  obtain ⟨hx, hb, hml, hown, hts, hK, hSx, hN⟩ := C
  obtain ⟨v2, v3, v4, v5, v7, v8⟩ := hV
  have hp : PreS s H (PC D cy B (.ref (ad B r0) :: As) g d) (.ref (ad B r0) :: As) := ⟨PC.blind, fun U hU hW => ⟨rfl, by rw [hU]; exact hP, va_K.moved hW.alike hK, Sx.moved hW.alike (fun a h1 h2 => by rw [hU]; exact hS.2.1 a h1 h2) hSx, NzS.warm hW hN⟩⟩
  rcases v4 with v4 | v4
  · exact va_runI (As := As) (rest := rest) (b := ad B r0) ⟨hx, hb, hml, hown, hts⟩ hM ⟨callB_of n hts (law_in v8) rfl hrm.1 hrm.2.1 (hts _ v7) (hts _ v4) v3 hrm.2.2, v2, hts _ v5⟩ hp rfl hn hl.1 hst (lv_room hrest) hdg hcs
  · exact va_runIN (As := As) (rest := rest) (b := ad B r0) ⟨hx, hb, hml, hown, hts⟩ hM ⟨va_cnB n hts (law_in v8) rfl hrm.1 hrm.2.1 (hN _ v4 rfl) (hts _ v7) v3 hrm.2.2, v2, hts _ v5⟩ hp rfl hn hl.1 hst (lv_room hrest) hdg hcs
theorem b_callVI (C : Cx p s m args c cc nL own D cy B) {index maxL n mc ms : Nat} {y : MethodName} {bytes : ByteArray} {ret : Option FieldType} {rm : Room} {As : List Value} {v1 : Int32} {g1 : Gs} {d1 : Ds} {cl r0 : Nat} (hM : Met l y (.code y bytes maxL ret :: wl) rm (PC D cy B (.ref (ad B r0) :: As) g d) (QI D cy B v1 g1 d1) mc ms (wA B)) (hV : LV own index y bytes maxL ret n cl) (hrm : rmOk R rm maxL mc ms) (hq : chk g r0 cl) (hc : cl < 100) (hn : As.length = n) (hrest : (rest.map fun v => v.category).sum ≤ 8) (hdg : decode cc pc = .ok (.invokevirtual index, 3)) (hcs : cells + mc ≤ R.cells ∧ slots + ms ≤ R.slots) {st : List Value} (hst : st = As.reverse ++ .ref (ad B r0) :: rest) (k : WB p l e R s m args below meth c nL D cy B (cells + mc) (slots + ms) Q g1 d1 lv (pc + 3) (.int v1 :: rest)) : WB p l e R s m args below meth c nL D cy B cells slots Q g d lv pc st := fun H locs ls hl hP hS =>
  va_calli (runV C hM hV hrm hq hc hn hrest hdg hcs hst hl hP hS) hS (fun q _ h => h) (fun q h => h) (fun r u t H1 locs1 ht hvm hw hB hz1 hk1 hS1 => by
    subst hw
    exact k H1 locs1 ls hl (by rw [← ht]; exact hB) hS1)
theorem b_callVJ (C : Cx p s m args c cc nL own D cy B) {index maxL n mc ms : Nat} {y : MethodName} {bytes : ByteArray} {ret : Option FieldType} {rm : Room} {As : List Value} {v1 : Int64} {g1 : Gs} {d1 : Ds} {cl r0 : Nat} (hM : Met l y (.code y bytes maxL ret :: wl) rm (PC D cy B (.ref (ad B r0) :: As) g d) (QJ D cy B v1 g1 d1) mc ms (wA B)) (hV : LV own index y bytes maxL ret n cl) (hrm : rmOk R rm maxL mc ms) (hq : chk g r0 cl) (hc : cl < 100) (hn : As.length = n) (hrest : (rest.map fun v => v.category).sum ≤ 8) (hdg : decode cc pc = .ok (.invokevirtual index, 3)) (hcs : cells + mc ≤ R.cells ∧ slots + ms ≤ R.slots) {st : List Value} (hst : st = As.reverse ++ .ref (ad B r0) :: rest) (k : WB p l e R s m args below meth c nL D cy B (cells + mc) (slots + ms) Q g1 d1 lv (pc + 3) (.long v1 :: rest)) : WB p l e R s m args below meth c nL D cy B cells slots Q g d lv pc st := fun H locs ls hl hP hS =>
  va_calll (runV C hM hV hrm hq hc hn hrest hdg hcs hst hl hP hS) hS (fun q _ h => h) (fun q h => h) (fun r u t H1 locs1 ht hvm hw hB hz1 hk1 hS1 => by
    subst hw
    exact k H1 locs1 ls hl (by rw [← ht]; exact hB) hS1)
theorem b_callVN (C : Cx p s m args c cc nL own D cy B) {index maxL n mc ms : Nat} {y : MethodName} {bytes : ByteArray} {ret : Option FieldType} {rm : Room} {As : List Value}  {g1 : Gs} {d1 : Ds} {cl r0 : Nat} (hM : Met l y (.code y bytes maxL ret :: wl) rm (PC D cy B (.ref (ad B r0) :: As) g d) (QV D cy B g1 d1) mc ms (wA B)) (hV : LV own index y bytes maxL ret n cl) (hrm : rmOk R rm maxL mc ms) (hq : chk g r0 cl) (hc : cl < 100) (hn : As.length = n) (hrest : (rest.map fun v => v.category).sum ≤ 8) (hdg : decode cc pc = .ok (.invokevirtual index, 3)) (hcs : cells + mc ≤ R.cells ∧ slots + ms ≤ R.slots) {st : List Value} (hst : st = As.reverse ++ .ref (ad B r0) :: rest) (k : WB p l e R s m args below meth c nL D cy B (cells + mc) (slots + ms) Q g1 d1 lv (pc + 3) rest) : WB p l e R s m args below meth c nL D cy B cells slots Q g d lv pc st := fun H locs ls hl hP hS =>
  va_callv (runV C hM hV hrm hq hc hn hrest hdg hcs hst hl hP hS) hS (fun q _ h => h) (fun q h => h) (fun u t H1 locs1 ht hvm hw hB hz1 hk1 hS1 => k H1 locs1 ls hl (by rw [← ht]; exact hB) hS1)
theorem b_callVR (C : Cx p s m args c cc nL own D cy B) {index maxL n mc ms : Nat} {y : MethodName} {bytes : ByteArray} {ret : Option FieldType} {rm : Room} {As : List Value} {v1 : Nat} {g1 : Gs} {d1 : Ds} {cl r0 : Nat} (hM : Met l y (.code y bytes maxL ret :: wl) rm (PC D cy B (.ref (ad B r0) :: As) g d) (QR D cy B v1 g1 d1) mc ms (wA B)) (hV : LV own index y bytes maxL ret n cl) (hrm : rmOk R rm maxL mc ms) (hq : chk g r0 cl) (hc : cl < 100) (hn : As.length = n) (hrest : (rest.map fun v => v.category).sum ≤ 8) (hdg : decode cc pc = .ok (.invokevirtual index, 3)) (hcs : cells + mc ≤ R.cells ∧ slots + ms ≤ R.slots) {st : List Value} (hst : st = As.reverse ++ .ref (ad B r0) :: rest) (k : WB p l e R s m args below meth c nL D cy B (cells + mc) (slots + ms) Q g1 d1 lv (pc + 3) (.ref (ad B v1) :: rest)) : WB p l e R s m args below meth c nL D cy B cells slots Q g d lv pc st := fun H locs ls hl hP hS =>
  va_callr (runV C hM hV hrm hq hc hn hrest hdg hcs hst hl hP hS) hS (fun q _ h => h) (fun q h => h) (fun u ra t H1 locs1 ht hvm hw hB hz1 hk1 hS1 => by
    obtain ⟨rfl, hB⟩ := hB
    exact k H1 locs1 ls hl (by rw [← ht]; exact hB) hS1)
theorem b_callVQ (C : Cx p s m args c cc nL own D cy B) {index maxL n mc ms : Nat} {y : MethodName} {bytes : ByteArray} {ret : Option FieldType} {rm : Room} {As : List Value} {v1 : Option Nat} {g1 : Gs} {d1 : Ds} {cl r0 : Nat} (hM : Met l y (.code y bytes maxL ret :: wl) rm (PC D cy B (.ref (ad B r0) :: As) g d) (QQ D cy B v1 g1 d1) mc ms (wA B)) (hV : LV own index y bytes maxL ret n cl) (hrm : rmOk R rm maxL mc ms) (hq : chk g r0 cl) (hc : cl < 100) (hn : As.length = n) (hrest : (rest.map fun v => v.category).sum ≤ 8) (hdg : decode cc pc = .ok (.invokevirtual index, 3)) (hcs : cells + mc ≤ R.cells ∧ slots + ms ≤ R.slots) {st : List Value} (hst : st = As.reverse ++ .ref (ad B r0) :: rest) (k : WB p l e R s m args below meth c nL D cy B (cells + mc) (slots + ms) Q g1 d1 lv (pc + 3) (rv B v1 :: rest)) : WB p l e R s m args below meth c nL D cy B cells slots Q g d lv pc st := fun H locs ls hl hP hS =>
  va_callq (runV C hM hV hrm hq hc hn hrest hdg hcs hst hl hP hS) hS (fun q _ h => h) (fun q h => h) (fun r u t H1 locs1 ht hvm hw hB hz1 hk1 hS1 => by
    subst hw
    exact k H1 locs1 ls hl (by rw [← ht]; exact hB) hS1)
theorem b_callSI (C : Cx p s m args c cc nL own D cy B) {index maxL n mc ms : Nat} {y : MethodName} {bytes : ByteArray} {ret : Option FieldType} {rm : Room} {As : List Value} {v1 : Int32} {g1 : Gs} {d1 : Ds}  (hM : Met l y (.code y bytes maxL ret :: wl) rm (PC D cy B As g d) (QI D cy B v1 g1 d1) mc ms (wA B)) (hV : LSt own index y bytes maxL ret n) (hrm : rmOk R rm maxL mc ms) (hn : As.length = n) (hrest : (rest.map fun v => v.category).sum ≤ 8) (hdg : decode cc pc = .ok (.invokestatic index, 3)) (hcs : cells + mc ≤ R.cells ∧ slots + ms ≤ R.slots) {st : List Value} (hst : st = As.reverse ++ rest) (k : WB p l e R s m args below meth c nL D cy B (cells + mc) (slots + ms) Q g1 d1 lv (pc + 3) (.int v1 :: rest)) : WB p l e R s m args below meth c nL D cy B cells slots Q g d lv pc st := fun H locs ls hl hP hS =>
  va_calli (runS C hM hV hrm hn hrest hdg hcs hst hl hP hS) hS (fun q _ h => h) (fun q h => h) (fun r u t H1 locs1 ht hvm hw hB hz1 hk1 hS1 => by
    subst hw
    exact k H1 locs1 ls hl (by rw [← ht]; exact hB) hS1)
theorem b_callSJ (C : Cx p s m args c cc nL own D cy B) {index maxL n mc ms : Nat} {y : MethodName} {bytes : ByteArray} {ret : Option FieldType} {rm : Room} {As : List Value} {v1 : Int64} {g1 : Gs} {d1 : Ds}  (hM : Met l y (.code y bytes maxL ret :: wl) rm (PC D cy B As g d) (QJ D cy B v1 g1 d1) mc ms (wA B)) (hV : LSt own index y bytes maxL ret n) (hrm : rmOk R rm maxL mc ms) (hn : As.length = n) (hrest : (rest.map fun v => v.category).sum ≤ 8) (hdg : decode cc pc = .ok (.invokestatic index, 3)) (hcs : cells + mc ≤ R.cells ∧ slots + ms ≤ R.slots) {st : List Value} (hst : st = As.reverse ++ rest) (k : WB p l e R s m args below meth c nL D cy B (cells + mc) (slots + ms) Q g1 d1 lv (pc + 3) (.long v1 :: rest)) : WB p l e R s m args below meth c nL D cy B cells slots Q g d lv pc st := fun H locs ls hl hP hS =>
  va_calll (runS C hM hV hrm hn hrest hdg hcs hst hl hP hS) hS (fun q _ h => h) (fun q h => h) (fun r u t H1 locs1 ht hvm hw hB hz1 hk1 hS1 => by
    subst hw
    exact k H1 locs1 ls hl (by rw [← ht]; exact hB) hS1)
theorem b_callSN (C : Cx p s m args c cc nL own D cy B) {index maxL n mc ms : Nat} {y : MethodName} {bytes : ByteArray} {ret : Option FieldType} {rm : Room} {As : List Value}  {g1 : Gs} {d1 : Ds}  (hM : Met l y (.code y bytes maxL ret :: wl) rm (PC D cy B As g d) (QV D cy B g1 d1) mc ms (wA B)) (hV : LSt own index y bytes maxL ret n) (hrm : rmOk R rm maxL mc ms) (hn : As.length = n) (hrest : (rest.map fun v => v.category).sum ≤ 8) (hdg : decode cc pc = .ok (.invokestatic index, 3)) (hcs : cells + mc ≤ R.cells ∧ slots + ms ≤ R.slots) {st : List Value} (hst : st = As.reverse ++ rest) (k : WB p l e R s m args below meth c nL D cy B (cells + mc) (slots + ms) Q g1 d1 lv (pc + 3) rest) : WB p l e R s m args below meth c nL D cy B cells slots Q g d lv pc st := fun H locs ls hl hP hS =>
  va_callv (runS C hM hV hrm hn hrest hdg hcs hst hl hP hS) hS (fun q _ h => h) (fun q h => h) (fun u t H1 locs1 ht hvm hw hB hz1 hk1 hS1 => k H1 locs1 ls hl (by rw [← ht]; exact hB) hS1)
theorem b_callSR (C : Cx p s m args c cc nL own D cy B) {index maxL n mc ms : Nat} {y : MethodName} {bytes : ByteArray} {ret : Option FieldType} {rm : Room} {As : List Value} {v1 : Nat} {g1 : Gs} {d1 : Ds}  (hM : Met l y (.code y bytes maxL ret :: wl) rm (PC D cy B As g d) (QR D cy B v1 g1 d1) mc ms (wA B)) (hV : LSt own index y bytes maxL ret n) (hrm : rmOk R rm maxL mc ms) (hn : As.length = n) (hrest : (rest.map fun v => v.category).sum ≤ 8) (hdg : decode cc pc = .ok (.invokestatic index, 3)) (hcs : cells + mc ≤ R.cells ∧ slots + ms ≤ R.slots) {st : List Value} (hst : st = As.reverse ++ rest) (k : WB p l e R s m args below meth c nL D cy B (cells + mc) (slots + ms) Q g1 d1 lv (pc + 3) (.ref (ad B v1) :: rest)) : WB p l e R s m args below meth c nL D cy B cells slots Q g d lv pc st := fun H locs ls hl hP hS =>
  va_callr (runS C hM hV hrm hn hrest hdg hcs hst hl hP hS) hS (fun q _ h => h) (fun q h => h) (fun u ra t H1 locs1 ht hvm hw hB hz1 hk1 hS1 => by
    obtain ⟨rfl, hB⟩ := hB
    exact k H1 locs1 ls hl (by rw [← ht]; exact hB) hS1)
theorem b_callSQ (C : Cx p s m args c cc nL own D cy B) {index maxL n mc ms : Nat} {y : MethodName} {bytes : ByteArray} {ret : Option FieldType} {rm : Room} {As : List Value} {v1 : Option Nat} {g1 : Gs} {d1 : Ds}  (hM : Met l y (.code y bytes maxL ret :: wl) rm (PC D cy B As g d) (QQ D cy B v1 g1 d1) mc ms (wA B)) (hV : LSt own index y bytes maxL ret n) (hrm : rmOk R rm maxL mc ms) (hn : As.length = n) (hrest : (rest.map fun v => v.category).sum ≤ 8) (hdg : decode cc pc = .ok (.invokestatic index, 3)) (hcs : cells + mc ≤ R.cells ∧ slots + ms ≤ R.slots) {st : List Value} (hst : st = As.reverse ++ rest) (k : WB p l e R s m args below meth c nL D cy B (cells + mc) (slots + ms) Q g1 d1 lv (pc + 3) (rv B v1 :: rest)) : WB p l e R s m args below meth c nL D cy B cells slots Q g d lv pc st := fun H locs ls hl hP hS =>
  va_callq (runS C hM hV hrm hn hrest hdg hcs hst hl hP hS) hS (fun q _ h => h) (fun q h => h) (fun r u t H1 locs1 ht hvm hw hB hz1 hk1 hS1 => by
    subst hw
    exact k H1 locs1 ls hl (by rw [← ht]; exact hB) hS1)
theorem b_cVI (C : Cx p s m args c cc nL own D cy B) {index maxL n : Nat} {y : MethodName} {bytes : ByteArray} {ret : Option FieldType} {rm : Room} {As : List Value} {v1 : Int32} {d1 : Ds} {cl r0 : Nat} (rest : List Value) (hdg : decode cc pc = .ok (.invokevirtual index, 3)) (hM : Met l y (.code y bytes maxL ret :: wl) rm (PC D cy B (.ref (ad B r0) :: As) g d) (QI D cy B v1 g d1) 0 0 (wA B)) (hV : LV own index y bytes maxL ret n cl) (hrm : rmOk R rm maxL 0 0) (hq : chk g r0 cl) (hc : cl < 100) (hn : As.length = n) (hrest : (rest.map fun v => v.category).sum ≤ 8) (hcs : cells ≤ R.cells ∧ slots ≤ R.slots) {st : List Value} (hst : st = As.reverse ++ .ref (ad B r0) :: rest) (k : WB p l e R s m args below meth c nL D cy B cells slots Q g d1 lv (pc + 3) (.int v1 :: rest)) : WB p l e R s m args below meth c nL D cy B cells slots Q g d lv pc st := b_callVI C hM hV hrm hq hc hn hrest hdg hcs hst k
theorem b_cVJ (C : Cx p s m args c cc nL own D cy B) {index maxL n : Nat} {y : MethodName} {bytes : ByteArray} {ret : Option FieldType} {rm : Room} {As : List Value} {v1 : Int64} {d1 : Ds} {cl r0 : Nat} (rest : List Value) (hdg : decode cc pc = .ok (.invokevirtual index, 3)) (hM : Met l y (.code y bytes maxL ret :: wl) rm (PC D cy B (.ref (ad B r0) :: As) g d) (QJ D cy B v1 g d1) 0 0 (wA B)) (hV : LV own index y bytes maxL ret n cl) (hrm : rmOk R rm maxL 0 0) (hq : chk g r0 cl) (hc : cl < 100) (hn : As.length = n) (hrest : (rest.map fun v => v.category).sum ≤ 8) (hcs : cells ≤ R.cells ∧ slots ≤ R.slots) {st : List Value} (hst : st = As.reverse ++ .ref (ad B r0) :: rest) (k : WB p l e R s m args below meth c nL D cy B cells slots Q g d1 lv (pc + 3) (.long v1 :: rest)) : WB p l e R s m args below meth c nL D cy B cells slots Q g d lv pc st := b_callVJ C hM hV hrm hq hc hn hrest hdg hcs hst k
theorem b_cVN (C : Cx p s m args c cc nL own D cy B) {index maxL n : Nat} {y : MethodName} {bytes : ByteArray} {ret : Option FieldType} {rm : Room} {As : List Value}  {d1 : Ds} {cl r0 : Nat} (rest : List Value) (hdg : decode cc pc = .ok (.invokevirtual index, 3)) (hM : Met l y (.code y bytes maxL ret :: wl) rm (PC D cy B (.ref (ad B r0) :: As) g d) (QV D cy B g d1) 0 0 (wA B)) (hV : LV own index y bytes maxL ret n cl) (hrm : rmOk R rm maxL 0 0) (hq : chk g r0 cl) (hc : cl < 100) (hn : As.length = n) (hrest : (rest.map fun v => v.category).sum ≤ 8) (hcs : cells ≤ R.cells ∧ slots ≤ R.slots) {st : List Value} (hst : st = As.reverse ++ .ref (ad B r0) :: rest) (k : WB p l e R s m args below meth c nL D cy B cells slots Q g d1 lv (pc + 3) rest) : WB p l e R s m args below meth c nL D cy B cells slots Q g d lv pc st := b_callVN C hM hV hrm hq hc hn hrest hdg hcs hst k
theorem b_cVR (C : Cx p s m args c cc nL own D cy B) {index maxL n : Nat} {y : MethodName} {bytes : ByteArray} {ret : Option FieldType} {rm : Room} {As : List Value} {v1 : Nat} {d1 : Ds} {cl r0 : Nat} (rest : List Value) (hdg : decode cc pc = .ok (.invokevirtual index, 3)) (hM : Met l y (.code y bytes maxL ret :: wl) rm (PC D cy B (.ref (ad B r0) :: As) g d) (QR D cy B v1 g d1) 0 0 (wA B)) (hV : LV own index y bytes maxL ret n cl) (hrm : rmOk R rm maxL 0 0) (hq : chk g r0 cl) (hc : cl < 100) (hn : As.length = n) (hrest : (rest.map fun v => v.category).sum ≤ 8) (hcs : cells ≤ R.cells ∧ slots ≤ R.slots) {st : List Value} (hst : st = As.reverse ++ .ref (ad B r0) :: rest) (k : WB p l e R s m args below meth c nL D cy B cells slots Q g d1 lv (pc + 3) (.ref (ad B v1) :: rest)) : WB p l e R s m args below meth c nL D cy B cells slots Q g d lv pc st := b_callVR C hM hV hrm hq hc hn hrest hdg hcs hst k
theorem b_cVQ (C : Cx p s m args c cc nL own D cy B) {index maxL n : Nat} {y : MethodName} {bytes : ByteArray} {ret : Option FieldType} {rm : Room} {As : List Value} {v1 : Option Nat} {d1 : Ds} {cl r0 : Nat} (rest : List Value) (hdg : decode cc pc = .ok (.invokevirtual index, 3)) (hM : Met l y (.code y bytes maxL ret :: wl) rm (PC D cy B (.ref (ad B r0) :: As) g d) (QQ D cy B v1 g d1) 0 0 (wA B)) (hV : LV own index y bytes maxL ret n cl) (hrm : rmOk R rm maxL 0 0) (hq : chk g r0 cl) (hc : cl < 100) (hn : As.length = n) (hrest : (rest.map fun v => v.category).sum ≤ 8) (hcs : cells ≤ R.cells ∧ slots ≤ R.slots) {st : List Value} (hst : st = As.reverse ++ .ref (ad B r0) :: rest) (k : WB p l e R s m args below meth c nL D cy B cells slots Q g d1 lv (pc + 3) (rv B v1 :: rest)) : WB p l e R s m args below meth c nL D cy B cells slots Q g d lv pc st := b_callVQ C hM hV hrm hq hc hn hrest hdg hcs hst k
theorem b_cSI (C : Cx p s m args c cc nL own D cy B) {index maxL n : Nat} {y : MethodName} {bytes : ByteArray} {ret : Option FieldType} {rm : Room} {As : List Value} {v1 : Int32} {d1 : Ds}  (rest : List Value) (hdg : decode cc pc = .ok (.invokestatic index, 3)) (hM : Met l y (.code y bytes maxL ret :: wl) rm (PC D cy B As g d) (QI D cy B v1 g d1) 0 0 (wA B)) (hV : LSt own index y bytes maxL ret n) (hrm : rmOk R rm maxL 0 0) (hn : As.length = n) (hrest : (rest.map fun v => v.category).sum ≤ 8) (hcs : cells ≤ R.cells ∧ slots ≤ R.slots) {st : List Value} (hst : st = As.reverse ++ rest) (k : WB p l e R s m args below meth c nL D cy B cells slots Q g d1 lv (pc + 3) (.int v1 :: rest)) : WB p l e R s m args below meth c nL D cy B cells slots Q g d lv pc st := b_callSI C hM hV hrm hn hrest hdg hcs hst k
theorem b_cSJ (C : Cx p s m args c cc nL own D cy B) {index maxL n : Nat} {y : MethodName} {bytes : ByteArray} {ret : Option FieldType} {rm : Room} {As : List Value} {v1 : Int64} {d1 : Ds}  (rest : List Value) (hdg : decode cc pc = .ok (.invokestatic index, 3)) (hM : Met l y (.code y bytes maxL ret :: wl) rm (PC D cy B As g d) (QJ D cy B v1 g d1) 0 0 (wA B)) (hV : LSt own index y bytes maxL ret n) (hrm : rmOk R rm maxL 0 0) (hn : As.length = n) (hrest : (rest.map fun v => v.category).sum ≤ 8) (hcs : cells ≤ R.cells ∧ slots ≤ R.slots) {st : List Value} (hst : st = As.reverse ++ rest) (k : WB p l e R s m args below meth c nL D cy B cells slots Q g d1 lv (pc + 3) (.long v1 :: rest)) : WB p l e R s m args below meth c nL D cy B cells slots Q g d lv pc st := b_callSJ C hM hV hrm hn hrest hdg hcs hst k
theorem b_cSN (C : Cx p s m args c cc nL own D cy B) {index maxL n : Nat} {y : MethodName} {bytes : ByteArray} {ret : Option FieldType} {rm : Room} {As : List Value}  {d1 : Ds}  (rest : List Value) (hdg : decode cc pc = .ok (.invokestatic index, 3)) (hM : Met l y (.code y bytes maxL ret :: wl) rm (PC D cy B As g d) (QV D cy B g d1) 0 0 (wA B)) (hV : LSt own index y bytes maxL ret n) (hrm : rmOk R rm maxL 0 0) (hn : As.length = n) (hrest : (rest.map fun v => v.category).sum ≤ 8) (hcs : cells ≤ R.cells ∧ slots ≤ R.slots) {st : List Value} (hst : st = As.reverse ++ rest) (k : WB p l e R s m args below meth c nL D cy B cells slots Q g d1 lv (pc + 3) rest) : WB p l e R s m args below meth c nL D cy B cells slots Q g d lv pc st := b_callSN C hM hV hrm hn hrest hdg hcs hst k
theorem b_cSR (C : Cx p s m args c cc nL own D cy B) {index maxL n : Nat} {y : MethodName} {bytes : ByteArray} {ret : Option FieldType} {rm : Room} {As : List Value} {v1 : Nat} {d1 : Ds}  (rest : List Value) (hdg : decode cc pc = .ok (.invokestatic index, 3)) (hM : Met l y (.code y bytes maxL ret :: wl) rm (PC D cy B As g d) (QR D cy B v1 g d1) 0 0 (wA B)) (hV : LSt own index y bytes maxL ret n) (hrm : rmOk R rm maxL 0 0) (hn : As.length = n) (hrest : (rest.map fun v => v.category).sum ≤ 8) (hcs : cells ≤ R.cells ∧ slots ≤ R.slots) {st : List Value} (hst : st = As.reverse ++ rest) (k : WB p l e R s m args below meth c nL D cy B cells slots Q g d1 lv (pc + 3) (.ref (ad B v1) :: rest)) : WB p l e R s m args below meth c nL D cy B cells slots Q g d lv pc st := b_callSR C hM hV hrm hn hrest hdg hcs hst k
theorem b_cSQ (C : Cx p s m args c cc nL own D cy B) {index maxL n : Nat} {y : MethodName} {bytes : ByteArray} {ret : Option FieldType} {rm : Room} {As : List Value} {v1 : Option Nat} {d1 : Ds}  (rest : List Value) (hdg : decode cc pc = .ok (.invokestatic index, 3)) (hM : Met l y (.code y bytes maxL ret :: wl) rm (PC D cy B As g d) (QQ D cy B v1 g d1) 0 0 (wA B)) (hV : LSt own index y bytes maxL ret n) (hrm : rmOk R rm maxL 0 0) (hn : As.length = n) (hrest : (rest.map fun v => v.category).sum ≤ 8) (hcs : cells ≤ R.cells ∧ slots ≤ R.slots) {st : List Value} (hst : st = As.reverse ++ rest) (k : WB p l e R s m args below meth c nL D cy B cells slots Q g d1 lv (pc + 3) (rv B v1 :: rest)) : WB p l e R s m args below meth c nL D cy B cells slots Q g d lv pc st := b_callSQ C hM hV hrm hn hrest hdg hcs hst k
theorem b_objInit (C : Cx p s m args c cc nL own D cy B) {index r0 : Nat} (h1 : Cond.methodLink own index objectInit ∈ wl) (h2 : Cond.instanceMethod objectInit ∈ wl) (h3 : Cond.code objectInit ⟨#[0xb1]⟩ 1 none ∈ wl) (hfr : 1 ≤ R.frames) (hlo : (rest.map fun v => v.category).sum + 12 ≤ R.locals) (hdg : decode cc pc = .ok (.invokespecial index, 3)) (k : WB p l e R s m args below meth c nL D cy B cells slots Q g d lv (pc + 3) rest) : WB p l e R s m args below meth c nL D cy B cells slots Q g d lv pc (.ref (ad B r0) :: rest) := fun H locs ls hl hP hS => by
  obtain ⟨hx, hb, hml, hown, hts, hK, hSx, hN⟩ := C
  refine W.objInit hx hb hown (hts _ h1) (hts _ h2) (hts _ h3) rfl (by rw [hml]; exact hl.1) rfl hdg hfr (by show 2 * 0 + _ + 12 ≤ _; omega) ?_
  exact k H locs ls hl hP hS
end BC
end
section
section BM
variable {p : Program} {l : Launch} {e : Env} {R : Room} {s : State} {m : MethodId} {args : Array Value} {below : List Frame} {meth : Method} {c : Code} {cells slots : Nat} {Q : State → Prop} {nL : Nat} {D : va_G} {cy : Nat → ClassId} {B : Bs} {g : Gs} {d : Ds} {lv : List (Nat × Value)} {pc : Nat} {cc : ByteArray} {own : String} {rest : List Value}
theorem b_topI {x y : Int32} (h : y = x) (k : WB p l e R s m args below meth c nL D cy B cells slots Q g d lv pc (.int y :: rest)) : WB p l e R s m args below meth c nL D cy B cells slots Q g d lv pc (.int x :: rest) := h ▸ k
theorem b_topJ {x y : Int64} (h : y = x) (k : WB p l e R s m args below meth c nL D cy B cells slots Q g d lv pc (.long y :: rest)) : WB p l e R s m args below meth c nL D cy B cells slots Q g d lv pc (.long x :: rest) := h ▸ k
theorem b_topF {x y : UInt32} (h : y = x) (k : WB p l e R s m args below meth c nL D cy B cells slots Q g d lv pc (.float y :: rest)) : WB p l e R s m args below meth c nL D cy B cells slots Q g d lv pc (.float x :: rest) := h ▸ k
theorem b_topQ {x y : Option Nat} (h : y = x) (k : WB p l e R s m args below meth c nL D cy B cells slots Q g d lv pc (rv B y :: rest)) : WB p l e R s m args below meth c nL D cy B cells slots Q g d lv pc (rv B x :: rest) := h ▸ k
theorem b_some {x : Option Nat} {r : Nat} (h : x = some r) (k : WB p l e R s m args below meth c nL D cy B cells slots Q g d lv pc (.ref (ad B r) :: rest)) : WB p l e R s m args below meth c nL D cy B cells slots Q g d lv pc (rv B x :: rest) := h ▸ k
theorem b_nullQ (C : Cx p s m args c cc nL own D cy B) (hdg : decode cc pc = .ok (.aconst_null, 1)) (k : WB p l e R s m args below meth c nL D cy B cells slots Q g d lv (pc + 1) (rv B none :: rest)) : WB p l e R s m args below meth c nL D cy B cells slots Q g d lv pc rest := b_null C hdg k
theorem b_ifnull (C : Cx p s m args c cc nL own D cy B) {x : Option Nat} {off : Int} {tgt : Nat} (hdg : decode cc pc = .ok (.ifnull off, 3)) (ht : (pc : Int) + off = (tgt : Int)) (kt : x = none → WB p l e R s m args below meth c nL D cy B cells slots Q g d lv tgt rest) (kf : ¬ x = none → WB p l e R s m args below meth c nL D cy B cells slots Q g d lv (pc + 3) rest) : WB p l e R s m args below meth c nL D cy B cells slots Q g d lv pc (rv B x :: rest) := fun H locs ls hl hP hS => by
  cases x with
  | none => exact lv_ifnullN C.1 C.2.1 hdg ht (kt rfl H locs ls hl hP hS)
  | some y => exact lv_ifnull C.1 C.2.1 hdg (kf (fun h => by cases h) H locs ls hl hP hS)
theorem b_ifnonnull (C : Cx p s m args c cc nL own D cy B) {x : Option Nat} {off : Int} {tgt : Nat} (hdg : decode cc pc = .ok (.ifnonnull off, 3)) (ht : (pc : Int) + off = (tgt : Int)) (kt : ¬ x = none → WB p l e R s m args below meth c nL D cy B cells slots Q g d lv tgt rest) (kf : x = none → WB p l e R s m args below meth c nL D cy B cells slots Q g d lv (pc + 3) rest) : WB p l e R s m args below meth c nL D cy B cells slots Q g d lv pc (rv B x :: rest) := fun H locs ls hl hP hS => by
  cases x with
  | none => exact lv_ifnonnullN C.1 C.2.1 hdg (kf rfl H locs ls hl hP hS)
  | some y => exact lv_ifnonnull C.1 C.2.1 hdg ht (kt (fun h => by cases h) H locs ls hl hP hS)
/-- a reference that is null or one of Word's constants -/
abbrev wk (x : Option Nat) : Prop := x = none ∨ ∃ i, i < 20 ∧ x = some (100000 + i)
abbrev wkb (x : Option Nat) : Prop := 100000 ≤ x.getD 100000 ∧ x.getD 100000 < 100020
theorem wkb_s {x : Option Nat} (h : wkb x) : wk x := by
  cases x with
  | none => exact Or.inl rfl
  | some r =>
    have h1 : 100000 ≤ r := h.1
    have h2 : r < 100020 := h.2
    have h3 : 100000 + (r - 100000) = r := Nat.add_sub_cancel' h1
    exact Or.inr ⟨r - 100000, Nat.sub_lt_left_of_lt_add h1 h2, by rw [h3]⟩
theorem wk_inj {x y : Option Nat} (hS : Sx B s) (hx : wk x) (hy : wk y) : x.map (ad B) = y.map (ad B) ↔ x = y := by
  refine ⟨fun h => ?_, fun h => by rw [h]⟩
  rcases hx with rfl | ⟨i, hi, rfl⟩ <;> rcases hy with rfl | ⟨j, hj, rfl⟩
  · rfl
  · cases h
  · cases h
  · have h2 := hS.2.1 i j hi hj (Option.some.inj h)
    rw [h2]
theorem b_acmp_eq (C : Cx p s m args c cc nL own D cy B) {x y : Option Nat} {off : Int} {tgt : Nat} (hx : wk x) (hy : wk y) (hdg : decode cc pc = .ok (.if_acmp .eq off, 3)) (ht : (pc : Int) + off = (tgt : Int)) (kt : x = y → WB p l e R s m args below meth c nL D cy B cells slots Q g d lv tgt rest) (kf : ¬ x = y → WB p l e R s m args below meth c nL D cy B cells slots Q g d lv (pc + 3) rest) : WB p l e R s m args below meth c nL D cy B cells slots Q g d lv pc (rv B y :: rv B x :: rest) := fun H locs ls hl hP hS => by
  have hi := wk_inj C.2.2.2.2.2.2.1 hx hy
  exact lv_acmp_eq C.1 C.2.1 hdg ht (fun h => kt (by rw [← hi]; exact h) H locs ls hl hP hS) (fun h => kf (by rw [← hi]; exact h) H locs ls hl hP hS)
theorem b_acmp_ne (C : Cx p s m args c cc nL own D cy B) {x y : Option Nat} {off : Int} {tgt : Nat} (hx : wk x) (hy : wk y) (hdg : decode cc pc = .ok (.if_acmp .ne off, 3)) (ht : (pc : Int) + off = (tgt : Int)) (kt : ¬ x = y → WB p l e R s m args below meth c nL D cy B cells slots Q g d lv tgt rest) (kf : x = y → WB p l e R s m args below meth c nL D cy B cells slots Q g d lv (pc + 3) rest) : WB p l e R s m args below meth c nL D cy B cells slots Q g d lv pc (rv B y :: rv B x :: rest) := fun H locs ls hl hP hS => by
  have hi := wk_inj C.2.2.2.2.2.2.1 hx hy
  exact lv_acmp_ne C.1 C.2.1 hdg ht (fun h => kt (by rw [← hi]; exact h) H locs ls hl hP hS) (fun h => kf (by rw [← hi]; exact h) H locs ls hl hP hS)
theorem b_getW (C : Cx p s m args c cc nL own D cy B) {index i : Nat} (hi : i < 20) (hlk : Cond.fieldLink own index "KeyMatrix$Word" (wnm i) "LKeyMatrix$Word;" ∈ wl) (hdg : decode cc pc = .ok (.getstatic index, 3)) (k : WB p l e R s m args below meth c nL D cy B cells slots Q g d lv (pc + 3) (rv B (some (100000 + i)) :: rest)) : WB p l e R s m args below meth c nL D cy B cells slots Q g d lv pc rest := fun H locs ls hl hP hS => by
  obtain ⟨hx, hb, hml, hown, hts, hK, hSx, hN⟩ := C
  exact va_gets hx hb (hSx.1 i hi) hS hown (hts _ hlk) (fun _ h => h) hdg (k H locs ls hl hP hS)
theorem b_ldc (C : Cx p s m args c cc nL own D cy B) {index : Nat} {v : Int32} (hc : Cond.constant own index v ∈ wl) (hdg : decode cc pc = .ok (.ldc index, 2)) (k : WB p l e R s m args below meth c nL D cy B cells slots Q g d lv (pc + 2) (.int v :: rest)) : WB p l e R s m args below meth c nL D cy B cells slots Q g d lv pc rest := fun H locs ls hl hP hS => lv_ldc C.1 C.2.1 C.2.2.2.1 (C.2.2.2.2.1 _ hc) hdg (k H locs ls hl hP hS)
theorem b_ldcw (C : Cx p s m args c cc nL own D cy B) {index : Nat} {v : Int32} (hc : Cond.constant own index v ∈ wl) (hdg : decode cc pc = .ok (.ldc_w index, 3)) (k : WB p l e R s m args below meth c nL D cy B cells slots Q g d lv (pc + 3) (.int v :: rest)) : WB p l e R s m args below meth c nL D cy B cells slots Q g d lv pc rest := fun H locs ls hl hP hS => lv_ldcw C.1 C.2.1 C.2.2.2.1 (C.2.2.2.2.1 _ hc) hdg (k H locs ls hl hP hS)
theorem b_ldc2 (C : Cx p s m args c cc nL own D cy B) {index : Nat} {v : Int64} (hc : Cond.constantLong own index v ∈ wl) (hdg : decode cc pc = .ok (.ldc2_w index, 3)) (k : WB p l e R s m args below meth c nL D cy B cells slots Q g d lv (pc + 3) (.long v :: rest)) : WB p l e R s m args below meth c nL D cy B cells slots Q g d lv pc rest := fun H locs ls hl hP hS => lv_ldc2 C.1 C.2.1 C.2.2.2.1 (C.2.2.2.2.1 _ hc) hdg (k H locs ls hl hP hS)
theorem b_mmax (C : Cx p s m args c cc nL own D cy B) {index : Nat} (h1 : Cond.methodLink own index Lib.Math.max.name ∈ wl) (h2 : Cond.static Lib.Math.max.name ∈ wl) (h3 : Cond.initialized "java/lang/Math" ∈ wl) (h4 : Cond.code Lib.Math.max.name Lib.Math.max.code 2 (some .int) ∈ wl) (hfr : 1 ≤ R.frames) (hlo : (rest.map fun v => v.category).sum + 13 ≤ R.locals) (hc : cells ≤ R.cells) (hs : slots ≤ R.slots) {x y : Int32} (hdg : decode cc pc = .ok (.invokestatic index, 3)) (k : WB p l e R s m args below meth c nL D cy B cells slots Q g d lv (pc + 3) (.int (if x < y then y else x) :: rest)) : WB p l e R s m args below meth c nL D cy B cells slots Q g d lv pc (.int y :: .int x :: rest) := fun H locs ls hl hP hS => by
  obtain ⟨hx, hb, hml, hown, hts, hK, hSx, hN⟩ := C
  exact va_mmax hx hb (hml.trans hl.1.symm) hown (hts _ h1) (hts _ h2) (hts _ h3) (hts _ h4) hfr hlo hc hs hdg (k H locs ls hl hP hS)
theorem b_copyI (C : Cx p s m args c cc nL own D cy B) {index a b : Nat} {sp dp n : Int32} {d1 : Ds} (h1 : Cond.methodLink own index arraycopyName ∈ wl) (h2 : Cond.native arraycopyName ∈ wl) (h3 : Cond.static arraycopyName ∈ wl) (h4 : Cond.initialized "java/lang/System" ∈ wl) (hqa : chk g a 102) (hqb : chk g b 102) (g1 : ¬ sp < 0) (g2 : ¬ dp < 0) (g3 : ¬ n < 0) (g4 : sp.toNatClampNeg + n.toNatClampNeg ≤ gL g a) (g5 : dp.toNatClampNeg + n.toNatClampNeg ≤ gL g b) (hd1 : d1 = cI d a b sp.toNatClampNeg dp.toNatClampNeg n.toNatClampNeg) (hfr : 1 ≤ R.frames) (hlo : (rest.map fun v => v.category).sum + (nativeFrameWords "java/lang/System" "arraycopy" 5 + 11) ≤ R.locals) (hdg : decode cc pc = .ok (.invokestatic index, 3)) (k : WB p l e R s m args below meth c nL D cy B cells slots Q g d1 lv (pc + 3) rest) : WB p l e R s m args below meth c nL D cy B cells slots Q g d lv pc (.int n :: .int dp :: .ref (ad B b) :: .int sp :: .ref (ad B a) :: rest) := fun H locs ls hl hP hS => by
  obtain ⟨hx, hb, hml, hown, hts, hK, hSx, hN⟩ := C
  subst hd1
  refine va_copyi (D := D) hx hb (hml.trans hl.1.symm) hown (hts _ h1) (hts _ h2) (hts _ h3) (hts _ h4) hK hP.2 (wls_D hP.1) hS a b 2 2 ((wls_at hqa.1).trans (by rw [cel_a (t := 2) hqa.2]; rfl)) ((wls_at hqb.1).trans (by rw [cel_a (t := 2) hqb.2]; rfl)) rfl rfl (by decide +kernel) g1 g2 g3 g4 g5 (fun i hi => rfl) hfr hlo hdg (fun H1 locs1 hP1 hD1 hS1 => k H1 locs1 ls hl (hP.set hqb.1 rfl (fun x _ hx => cI_o hx) ?_ hP1) hS1)
  rw [cel_a (t := 2) hqb.2]
  unfold ar
  rw [cI_row]
  rfl
theorem b_copyF (C : Cx p s m args c cc nL own D cy B) {index a b : Nat} {sp dp n : Int32} {d1 : Ds} (h1 : Cond.methodLink own index arraycopyName ∈ wl) (h2 : Cond.native arraycopyName ∈ wl) (h3 : Cond.static arraycopyName ∈ wl) (h4 : Cond.initialized "java/lang/System" ∈ wl) (hqa : chk g a 101) (hqb : chk g b 101) (g1 : ¬ sp < 0) (g2 : ¬ dp < 0) (g3 : ¬ n < 0) (g4 : sp.toNatClampNeg + n.toNatClampNeg ≤ gL g a) (g5 : dp.toNatClampNeg + n.toNatClampNeg ≤ gL g b) (hd1 : d1 = cF d a b sp.toNatClampNeg dp.toNatClampNeg n.toNatClampNeg) (hfr : 1 ≤ R.frames) (hlo : (rest.map fun v => v.category).sum + (nativeFrameWords "java/lang/System" "arraycopy" 5 + 11) ≤ R.locals) (hdg : decode cc pc = .ok (.invokestatic index, 3)) (k : WB p l e R s m args below meth c nL D cy B cells slots Q g d1 lv (pc + 3) rest) : WB p l e R s m args below meth c nL D cy B cells slots Q g d lv pc (.int n :: .int dp :: .ref (ad B b) :: .int sp :: .ref (ad B a) :: rest) := fun H locs ls hl hP hS => by
  obtain ⟨hx, hb, hml, hown, hts, hK, hSx, hN⟩ := C
  subst hd1
  refine va_copyf (D := D) hx hb (hml.trans hl.1.symm) hown (hts _ h1) (hts _ h2) (hts _ h3) (hts _ h4) hK hP.2 (wls_D hP.1) hS a b 1 1 ((wls_at hqa.1).trans (by rw [cel_a (t := 1) hqa.2]; rfl)) ((wls_at hqb.1).trans (by rw [cel_a (t := 1) hqb.2]; rfl)) rfl rfl (by decide +kernel) g1 g2 g3 g4 g5 (fun i hi => rfl) hfr hlo hdg (fun H1 locs1 hP1 hD1 hS1 => k H1 locs1 ls hl (hP.set hqb.1 rfl (fun x _ hx => cF_o hx) ?_ hP1) hS1)
  rw [cel_a (t := 1) hqb.2]
  unfold ar
  rw [cF_row]
  rfl
/-! the loop of the pure functions -/
def lp {α β : Type} (F : (α → Option β) → α → Option β) : Nat → α → Option β
  | 0 => fun _ => none
  | n + 1 => fun a => F (lp F n) a
theorem lp_s {α β : Type} {F : (α → Option β) → α → Option β} {n : Nat} {a : α} : lp F (n + 1) a = F (lp F n) a := rfl
theorem lp_z {α β : Type} {F : (α → Option β) → α → Option β} {a : α} : lp F 0 a = none := rfl
/-- a loop's walk: what holds of the head with whatever comes behind, holds of the loop -/
theorem lp_w {α β : Type} {F : (α → Option β) → α → Option β} {y : β} {G : α → Prop} (h : ∀ (K : α → Option β), (∀ a, K a = some y → G a) → ∀ a, F K a = some y → G a) : ∀ (n : Nat) (a : α), lp F n a = some y → G a := by
  intro n
  induction n with
  | zero => intro a ha; cases ha
  | succ n ih => exact h _ ih
/-- a loop comes to its end: an invariant, and a measure that falls -/
theorem lp_ok {α β : Type} {F : (α → Option β) → α → Option β} {P : Option β → Prop} (I : α → Prop) (μ : α → Nat) (h : ∀ (K : α → Option β) (a : α), I a → (∀ b, I b → μ b < μ a → P (K b)) → P (F K a)) : ∀ (n : Nat) (a : α), I a → μ a < n → P (lp F n a) := by
  intro n
  induction n with
  | zero => intro a _ ha; exact absurd ha (Nat.not_lt_zero _)
  | succ n ih => exact fun a ha hn => h _ a ha (fun b hb hm => ih b hb (by omega))
end BM
end
section
theorem nG_o {B : Bs} {cy : Nat → ClassId} {g : Gs} {d : Ds} {k ln sl x : Nat} (h : x ≠ gN g) : cel B cy g d x = cel B cy (nG g k ln sl) (nD g d) x := by
  have e : x ≠ g.1 := h
  have h1 : dI (nD g d) x = dI d x := by simp [dI, nD, va_up, e]
  have h2 : dF (nD g d) x = dF d x := by simp [dF, nD, va_up, e]
  have h3 : dL (nD g d) x = dL d x := by simp [dL, nD, va_up, e]
  have h4 : dW (nD g d) x = dW d x := by simp [dW, nD, va_up, e]
  have h5 : gR (nG g k ln sl) x = gR g x := by simp [gR, nG, va_up, e]
  have h6 : gL (nG g k ln sl) x = gL g x := by simp [gL, nG, va_up, e]
  have h7 : gK (nG g k ln sl) x = gK g x := by simp [gK, nG, va_up, e]
  have h8 : ∀ t, ar B (nG g k ln sl) (nD g d) x t = ar B g d x t := by
    intro t
    unfold ar
    rw [h1, h2, h3, h4, h5, h6]
  have h9 : ∀ c, fls B (nG g k ln sl) (nD g d) x c = fls B g d x c := by
    intro c
    unfold fls fv
    rw [h1, h5]
  unfold cel
  rw [h7, h8, h9]
theorem nG_K {g : Gs} {k ln sl : Nat} : gK (nG g k ln sl) (gN g) = k := by simp [gK, gN, nG, va_up]
theorem nG_L {g : Gs} {k ln sl : Nat} : gL (nG g k ln sl) (gN g) = ln := by simp [gL, gN, nG, va_up]
theorem nG_R {g : Gs} {k ln sl j : Nat} : gR (nG g k ln sl) (gN g) j = none := by simp [gR, gN, nG, va_up]
theorem nD_I {g : Gs} {d : Ds} {j : Nat} : dI (nD g d) (gN g) j = 0 := by simp [dI, gN, nD, va_up]
theorem nD_F {g : Gs} {d : Ds} {j : Nat} : dF (nD g d) (gN g) j = 0 := by simp [dF, gN, nD, va_up]
theorem nD_L {g : Gs} {d : Ds} {j : Nat} : dL (nD g d) (gN g) j = 0 := by simp [dL, gN, nD, va_up]
theorem nD_W {g : Gs} {d : Ds} {j : Nat} : dW (nD g d) (gN g) j = none := by simp [dW, gN, nD, va_up]
theorem wls_nG {B : Bs} {cy : Nat → ClassId} {g : Gs} {d : Ds} {k ln sl : Nat} : wls B cy (nG g k ln sl) (nD g d) = wls B cy g d ++ [(ad B (gN g), cel B cy (nG g k ln sl) (nD g d) (gN g))] := by
  unfold wls
  rw [show gN (nG g k ln sl) = gN g + 1 from rfl, List.range_succ, List.map_append, List.map_singleton]
  congr 1
  apply List.map_congr_left
  intro r hr
  have h1 : r < gN g := List.mem_range.mp hr
  rw [nG_o (k := k) (ln := ln) (sl := sl) (Nat.ne_of_lt h1)]
theorem fls_new {B : Bs} {g : Gs} {d : Ds} {k ln sl c : Nat} {j : Nat} (hj : j < fN c) : (fls B (nG g k ln sl) (nD g d) (gN g) c)[j]? = some (if fR c j then .null else .int 0) := by
  rw [fls_at hj]
  unfold fv
  by_cases h : fR c j = true
  · rw [if_pos h, if_pos h, nG_R]
    rfl
  · rw [if_neg h, if_neg h, nD_I]
/-- what a new object rests on -/
def FNW (own : String) (index cl N : Nat) : Prop := ∃ (CN : String) (T : u_T) (ty : Nat → FieldType), vwCl[cl]? = some (CN, T, N) ∧ cl < 100 ∧ (∀ w ∈ u_ws CN T N, w ∈ wl) ∧ (∀ k, k < N → parseFieldDescriptor (T k).2.2.1 = some (ty k)) ∧ Cond.classLink own index CN ∈ wl ∧ Cond.instantiable CN N ∈ wl ∧ Cond.initialized CN ∈ wl ∧ ∀ j, j < N → defaultValue (ty j) = if fR cl j then .null else .int 0
section BA
variable {p : Program} {l : Launch} {e : Env} {R : Room} {s : State} {m : MethodId} {args : Array Value} {below : List Frame} {meth : Method} {c : Code} {cells slots : Nat} {Q : State → Prop} {nL : Nat} {D : va_G} {cy : Nat → ClassId} {B : Bs} {g : Gs} {d : Ds} {lv : List (Nat × Value)} {pc : Nat} {cc : ByteArray} {own : String} {rest : List Value} {n0 s0 : Nat}
/-- the new cell's place -/
theorem new_at {T : State} {H1 : Heap} {locs : List Loc} {q : Nat} {x : va_E} {cl1 sl1 : Nat} (hT : T.heap = H1) (X : Stand p l e R s m args below meth c T locs (gN g - n0 + cl1) (slots + sl1)) (h1 : cl1 = 1) (hz : s.heap.size = B.1 + n0) (hn : n0 ≤ gN g) (hlim : gN g < 100000) (hP1 : va_P D vwCl (wls B cy g d ++ [(q, x)]) H1) (hD1 : va_D (wA B) (wls B cy g d ++ [(q, x)])) : q = ad B (gN g) := by
  have hlen : (wls B cy g d).length = gN g := by simp [wls]
  have hlast : (wls B cy g d ++ [(q, x)])[gN g]? = some (q, x) := by
    rw [List.getElem?_append_right (by omega), hlen, Nat.sub_self]
    rfl
  have hlt : q < H1.size := (hP1 _ _ hlast).lt
  have hge : B.1 ≤ q := hD1.2 _ _ hlast
  have hsz : T.heap.size ≤ s.heap.size + (gN g - n0 + cl1) := X.same.2.2.1
  rw [hT] at hsz
  rw [ad_lt hlim]
  rcases Nat.lt_or_ge q (B.1 + gN g) with h2 | h2
  · exfalso
    have hr : q - B.1 < gN g := by omega
    have h3 : (wls B cy g d ++ [(q, x)])[q - B.1]? = some (ad B (q - B.1), cel B cy g d (q - B.1)) := by
      rw [List.getElem?_append_left (by omega)]
      exact wls_at hr
    have h4 := hD1.1 _ _ _ _ h3 hlast (by
      show ad B (q - B.1) = q
      rw [ad_lt (by omega)]
      omega)
    omega
  · omega
theorem new_W {H1 : Heap} {q : Nat} {k ln sl : Nat} (hlim : gN g < 100000) (hq : q = ad B (gN g)) (hP1 : va_P D vwCl (wls B cy g d ++ [(q, cel B cy (nG g k ln sl) (nD g d) (gN g))]) H1) : WP D cy B (nG g k ln sl) (nD g d) H1 := by
  subst hq
  exact ⟨hlim, by rw [wls_nG]; exact hP1⟩
theorem b_new (C : Cx p s m args c cc nL own D cy B) {index cl N : Nat} {g1 : Gs} {d1 : Ds} (hdg : decode cc pc = .ok (.new index, 3)) (hf : FNW own index cl N) (hz : s.heap.size = B.1 + n0) (hn : n0 ≤ gN g) (hs : s0 ≤ gS g) (hlim : gN g < 100000) (hc : gN g + 1 - n0 ≤ R.cells ∧ gS g + N - s0 ≤ R.slots) (hg1 : g1 = nG g cl 0 N) (hd1 : d1 = nD g d) (k : n0 ≤ gN g1 → s0 ≤ gS g1 → WB p l e R s m args below meth c nL D cy B (gN g1 - n0) (gS g1 - s0) Q g1 d1 lv (pc + 3) (.ref (ad B (gN g)) :: rest)) : WB p l e R s m args below meth c nL D cy B (gN g - n0) (gS g - s0) Q g d lv pc rest := by
  intro H locs ls hl hP hS
  obtain ⟨CN, T, ty, f1, f2, f3, f4, f5, f6, f7, f8⟩ := hf
  obtain ⟨hx, hb, hml, hown, hts, hK, hSx, hN⟩ := C
  subst hg1; subst hd1
  have k2 := k (Nat.le_trans hn (Nat.le_succ _)) (Nat.le_trans hs (Nat.le_add_right _ _))
  have e1 : gN (nG g cl 0 N) - n0 = gN g - n0 + 1 := by show gN g + 1 - n0 = _; omega
  have e2 : gS (nG g cl 0 N) - s0 = gS g - s0 + N := by show gS g + N - s0 = _; omega
  rw [e1, e2] at k2
  have hfn : fN cl = N := fN_of f1
  have hcel : cel B cy (nG g cl 0 N) (nD g d) (gN g) = .inr (cl, fls B (nG g cl 0 N) (nD g d) (gN g) cl) := cel_o nG_K f2
  refine va_new (D := D) (ci := cl) (fs := fls B (nG g cl 0 N) (nD g d) (gN g) cl) hx hb hts f3 ty f4 hown (hts _ f5) (hts _ f6) (hts _ f7) hK hP.2 (wls_D hP.1) hS (fun q hq => by show B.1 ≤ q; omega) f1 (fun j hj => ?_) (by omega) (by omega) hdg (fun q H1 hP1 hD1 hS1 => ?_)
  · rw [f8 j hj, vp_V, List.getD_eq_getElem?_getD, fls_new (by rw [hfn]; exact hj)]
    rfl
  · intro T0 hT X
    have hq := new_at (cl1 := 1) hT X rfl hz hn hlim hP1 hD1
    rw [← hcel] at hP1
    have hw := new_W hlim hq hP1
    subst hq
    exact k2 H1 locs ls hl hw hS1 T0 hT X
theorem by8 {n k : Nat} (h : n ≤ 60000000) (hk : k ≤ 8) : n * k ≤ 536870912 := Nat.le_trans (Nat.mul_le_mul h hk) (Nat.le_of_ble_eq_true rfl)
theorem arr_eq {t : Nat} {cA : ClassId} (ht : t < 8) (hK : va_K D vwCl (tys8 cy) s) (h : va_RA s cA (tyk t)) : cA = cy t := by
  have h2 := (hK.2 t (cy t, tyk t) (tys8_at ht)).2
  have key : ∀ ty : FieldType, va_RA s cA ty → va_RA s (cy t) ty → cA = cy t := by
    intro ty a b
    cases ty with
    | object C =>
      obtain ⟨_, _, _, _, _, a4⟩ := a
      obtain ⟨_, _, _, _, _, b4⟩ := b
      exact Option.some.inj (a4.symm.trans b4)
    | _ => exact Option.some.inj (Eq.trans (Eq.symm a) b)
  exact key _ h h2
theorem b_newaB (C : Cx p s m args c cc nL own D cy B) {n : Int32} {g1 : Gs} {d1 : Ds} (hdg : decode cc pc = .ok (.newarray .byte, 2)) (ha : Cond.arrayClass (newarray.typeOf .byte) ∈ wl) (hz : s.heap.size = B.1 + n0) (hn : n0 ≤ gN g) (hs : s0 ≤ gS g) (hlim : gN g < 100000) (h0 : ¬ n < 0) (hb8 : n.toNatClampNeg ≤ 60000000) (hc : gN g + 1 - n0 ≤ R.cells ∧ gS g + n.toNatClampNeg - s0 ≤ R.slots) (hg1 : g1 = nG g 100 n.toNatClampNeg n.toNatClampNeg) (hd1 : d1 = nD g d) (k : n0 ≤ gN g1 → s0 ≤ gS g1 → WB p l e R s m args below meth c nL D cy B (gN g1 - n0) (gS g1 - s0) Q g1 d1 lv (pc + 2) (.ref (ad B (gN g)) :: rest)) : WB p l e R s m args below meth c nL D cy B (gN g - n0) (gS g - s0) Q g d lv pc (.int n :: rest) := by
  intro H locs ls hl hP hS
  obtain ⟨hx, hb, hml, hown, hts, hK, hSx, hN⟩ := C
  subst hg1; subst hd1
  have k2 := k (Nat.le_trans hn (Nat.le_succ _)) (Nat.le_trans hs (Nat.le_add_right _ _))
  have e1 : gN (nG g 100 n.toNatClampNeg n.toNatClampNeg) - n0 = gN g - n0 + 1 := by show gN g + 1 - n0 = _; omega
  have e2 : gS (nG g 100 n.toNatClampNeg n.toNatClampNeg) - s0 = gS g - s0 + n.toNatClampNeg := by show gS g + n.toNatClampNeg - s0 = _; omega
  rw [e1, e2] at k2
  refine va_newa (D := D) (atype := .byte) (ty := tyk 0) (a0 := ar B (nG g 100 n.toNatClampNeg n.toNatClampNeg) (nD g d) (gN g) 0) hx hb (hts _ ha) rfl hK hP.2 (wls_D hP.1) hS (fun q hq => by show B.1 ≤ q; omega) (fun cA => ?_) h0 rfl (by8 hb8 (by decide +kernel)) (by omega) (by omega) hdg (fun q cA H1 hK1 hP1 hD1 hS1 => ?_)
  · have e : ar B (nG g 100 n.toNatClampNeg n.toNatClampNeg) (nD g d) (gN g) 0 = (gL (nG g 100 n.toNatClampNeg n.toNatClampNeg) (gN g), .inl (dI (nD g d) (gN g))) := rfl
    rw [e, nG_L, vp_cell_i]
    congr 1
    funext j
    rw [nD_I]
    rfl
  · intro T0 hT X
    have hcA : cA = cy 0 := arr_eq (by decide) hK (hK1.2 8 (cA, tyk 0) rfl).2
    subst hcA
    have hq := new_at (cl1 := 1) hT X rfl hz hn hlim hP1 hD1
    have hcel : cel B cy (nG g 100 n.toNatClampNeg n.toNatClampNeg) (nD g d) (gN g) = .inl (cy 0, ar B (nG g 100 n.toNatClampNeg n.toNatClampNeg) (nD g d) (gN g) 0) := cel_a nG_K
    rw [← hcel] at hP1
    have hw := new_W hlim hq hP1
    subst hq
    exact k2 H1 locs ls hl hw hS1 T0 hT X
theorem b_newaF (C : Cx p s m args c cc nL own D cy B) {n : Int32} {g1 : Gs} {d1 : Ds} (hdg : decode cc pc = .ok (.newarray .float, 2)) (ha : Cond.arrayClass (newarray.typeOf .float) ∈ wl) (hz : s.heap.size = B.1 + n0) (hn : n0 ≤ gN g) (hs : s0 ≤ gS g) (hlim : gN g < 100000) (h0 : ¬ n < 0) (hb8 : n.toNatClampNeg ≤ 60000000) (hc : gN g + 1 - n0 ≤ R.cells ∧ gS g + n.toNatClampNeg - s0 ≤ R.slots) (hg1 : g1 = nG g 101 n.toNatClampNeg n.toNatClampNeg) (hd1 : d1 = nD g d) (k : n0 ≤ gN g1 → s0 ≤ gS g1 → WB p l e R s m args below meth c nL D cy B (gN g1 - n0) (gS g1 - s0) Q g1 d1 lv (pc + 2) (.ref (ad B (gN g)) :: rest)) : WB p l e R s m args below meth c nL D cy B (gN g - n0) (gS g - s0) Q g d lv pc (.int n :: rest) := by
  intro H locs ls hl hP hS
  obtain ⟨hx, hb, hml, hown, hts, hK, hSx, hN⟩ := C
  subst hg1; subst hd1
  have k2 := k (Nat.le_trans hn (Nat.le_succ _)) (Nat.le_trans hs (Nat.le_add_right _ _))
  have e1 : gN (nG g 101 n.toNatClampNeg n.toNatClampNeg) - n0 = gN g - n0 + 1 := by show gN g + 1 - n0 = _; omega
  have e2 : gS (nG g 101 n.toNatClampNeg n.toNatClampNeg) - s0 = gS g - s0 + n.toNatClampNeg := by show gS g + n.toNatClampNeg - s0 = _; omega
  rw [e1, e2] at k2
  refine va_newa (D := D) (atype := .float) (ty := tyk 1) (a0 := ar B (nG g 101 n.toNatClampNeg n.toNatClampNeg) (nD g d) (gN g) 1) hx hb (hts _ ha) rfl hK hP.2 (wls_D hP.1) hS (fun q hq => by show B.1 ≤ q; omega) (fun cA => ?_) h0 rfl (by8 hb8 (by decide +kernel)) (by omega) (by omega) hdg (fun q cA H1 hK1 hP1 hD1 hS1 => ?_)
  · have e : ar B (nG g 101 n.toNatClampNeg n.toNatClampNeg) (nD g d) (gN g) 1 = (gL (nG g 101 n.toNatClampNeg n.toNatClampNeg) (gN g), .inr (.inr (.inl (dF (nD g d) (gN g))))) := rfl
    rw [e, nG_L, vp_cell_f]
    congr 1
    funext j
    rw [nD_F]
    rfl
  · intro T0 hT X
    have hcA : cA = cy 1 := arr_eq (by decide) hK (hK1.2 8 (cA, tyk 1) rfl).2
    subst hcA
    have hq := new_at (cl1 := 1) hT X rfl hz hn hlim hP1 hD1
    have hcel : cel B cy (nG g 101 n.toNatClampNeg n.toNatClampNeg) (nD g d) (gN g) = .inl (cy 1, ar B (nG g 101 n.toNatClampNeg n.toNatClampNeg) (nD g d) (gN g) 1) := cel_a nG_K
    rw [← hcel] at hP1
    have hw := new_W hlim hq hP1
    subst hq
    exact k2 H1 locs ls hl hw hS1 T0 hT X
theorem b_newaI (C : Cx p s m args c cc nL own D cy B) {n : Int32} {g1 : Gs} {d1 : Ds} (hdg : decode cc pc = .ok (.newarray .int, 2)) (ha : Cond.arrayClass (newarray.typeOf .int) ∈ wl) (hz : s.heap.size = B.1 + n0) (hn : n0 ≤ gN g) (hs : s0 ≤ gS g) (hlim : gN g < 100000) (h0 : ¬ n < 0) (hb8 : n.toNatClampNeg ≤ 60000000) (hc : gN g + 1 - n0 ≤ R.cells ∧ gS g + n.toNatClampNeg - s0 ≤ R.slots) (hg1 : g1 = nG g 102 n.toNatClampNeg n.toNatClampNeg) (hd1 : d1 = nD g d) (k : n0 ≤ gN g1 → s0 ≤ gS g1 → WB p l e R s m args below meth c nL D cy B (gN g1 - n0) (gS g1 - s0) Q g1 d1 lv (pc + 2) (.ref (ad B (gN g)) :: rest)) : WB p l e R s m args below meth c nL D cy B (gN g - n0) (gS g - s0) Q g d lv pc (.int n :: rest) := by
  intro H locs ls hl hP hS
  obtain ⟨hx, hb, hml, hown, hts, hK, hSx, hN⟩ := C
  subst hg1; subst hd1
  have k2 := k (Nat.le_trans hn (Nat.le_succ _)) (Nat.le_trans hs (Nat.le_add_right _ _))
  have e1 : gN (nG g 102 n.toNatClampNeg n.toNatClampNeg) - n0 = gN g - n0 + 1 := by show gN g + 1 - n0 = _; omega
  have e2 : gS (nG g 102 n.toNatClampNeg n.toNatClampNeg) - s0 = gS g - s0 + n.toNatClampNeg := by show gS g + n.toNatClampNeg - s0 = _; omega
  rw [e1, e2] at k2
  refine va_newa (D := D) (atype := .int) (ty := tyk 2) (a0 := ar B (nG g 102 n.toNatClampNeg n.toNatClampNeg) (nD g d) (gN g) 2) hx hb (hts _ ha) rfl hK hP.2 (wls_D hP.1) hS (fun q hq => by show B.1 ≤ q; omega) (fun cA => ?_) h0 rfl (by8 hb8 (by decide +kernel)) (by omega) (by omega) hdg (fun q cA H1 hK1 hP1 hD1 hS1 => ?_)
  · have e : ar B (nG g 102 n.toNatClampNeg n.toNatClampNeg) (nD g d) (gN g) 2 = (gL (nG g 102 n.toNatClampNeg n.toNatClampNeg) (gN g), .inl (dI (nD g d) (gN g))) := rfl
    rw [e, nG_L, vp_cell_i]
    congr 1
    funext j
    rw [nD_I]
    rfl
  · intro T0 hT X
    have hcA : cA = cy 2 := arr_eq (by decide) hK (hK1.2 8 (cA, tyk 2) rfl).2
    subst hcA
    have hq := new_at (cl1 := 1) hT X rfl hz hn hlim hP1 hD1
    have hcel : cel B cy (nG g 102 n.toNatClampNeg n.toNatClampNeg) (nD g d) (gN g) = .inl (cy 2, ar B (nG g 102 n.toNatClampNeg n.toNatClampNeg) (nD g d) (gN g) 2) := cel_a nG_K
    rw [← hcel] at hP1
    have hw := new_W hlim hq hP1
    subst hq
    exact k2 H1 locs ls hl hw hS1 T0 hT X
theorem b_newaJ (C : Cx p s m args c cc nL own D cy B) {n : Int32} {g1 : Gs} {d1 : Ds} (hdg : decode cc pc = .ok (.newarray .long, 2)) (ha : Cond.arrayClass (newarray.typeOf .long) ∈ wl) (hz : s.heap.size = B.1 + n0) (hn : n0 ≤ gN g) (hs : s0 ≤ gS g) (hlim : gN g < 100000) (h0 : ¬ n < 0) (hb8 : n.toNatClampNeg ≤ 60000000) (hc : gN g + 1 - n0 ≤ R.cells ∧ gS g + n.toNatClampNeg - s0 ≤ R.slots) (hg1 : g1 = nG g 103 n.toNatClampNeg n.toNatClampNeg) (hd1 : d1 = nD g d) (k : n0 ≤ gN g1 → s0 ≤ gS g1 → WB p l e R s m args below meth c nL D cy B (gN g1 - n0) (gS g1 - s0) Q g1 d1 lv (pc + 2) (.ref (ad B (gN g)) :: rest)) : WB p l e R s m args below meth c nL D cy B (gN g - n0) (gS g - s0) Q g d lv pc (.int n :: rest) := by
  intro H locs ls hl hP hS
  obtain ⟨hx, hb, hml, hown, hts, hK, hSx, hN⟩ := C
  subst hg1; subst hd1
  have k2 := k (Nat.le_trans hn (Nat.le_succ _)) (Nat.le_trans hs (Nat.le_add_right _ _))
  have e1 : gN (nG g 103 n.toNatClampNeg n.toNatClampNeg) - n0 = gN g - n0 + 1 := by show gN g + 1 - n0 = _; omega
  have e2 : gS (nG g 103 n.toNatClampNeg n.toNatClampNeg) - s0 = gS g - s0 + n.toNatClampNeg := by show gS g + n.toNatClampNeg - s0 = _; omega
  rw [e1, e2] at k2
  refine va_newa (D := D) (atype := .long) (ty := tyk 3) (a0 := ar B (nG g 103 n.toNatClampNeg n.toNatClampNeg) (nD g d) (gN g) 3) hx hb (hts _ ha) rfl hK hP.2 (wls_D hP.1) hS (fun q hq => by show B.1 ≤ q; omega) (fun cA => ?_) h0 rfl (by8 hb8 (by decide +kernel)) (by omega) (by omega) hdg (fun q cA H1 hK1 hP1 hD1 hS1 => ?_)
  · have e : ar B (nG g 103 n.toNatClampNeg n.toNatClampNeg) (nD g d) (gN g) 3 = (gL (nG g 103 n.toNatClampNeg n.toNatClampNeg) (gN g), .inr (.inl (dL (nD g d) (gN g)))) := rfl
    rw [e, nG_L, vp_cell_l]
    congr 1
    funext j
    rw [nD_L]
    rfl
  · intro T0 hT X
    have hcA : cA = cy 3 := arr_eq (by decide) hK (hK1.2 8 (cA, tyk 3) rfl).2
    subst hcA
    have hq := new_at (cl1 := 1) hT X rfl hz hn hlim hP1 hD1
    have hcel : cel B cy (nG g 103 n.toNatClampNeg n.toNatClampNeg) (nD g d) (gN g) = .inl (cy 3, ar B (nG g 103 n.toNatClampNeg n.toNatClampNeg) (nD g d) (gN g) 3) := cel_a nG_K
    rw [← hcel] at hP1
    have hw := new_W hlim hq hP1
    subst hq
    exact k2 H1 locs ls hl hw hS1 T0 hT X
theorem b_newaZ (C : Cx p s m args c cc nL own D cy B) {n : Int32} {g1 : Gs} {d1 : Ds} (hdg : decode cc pc = .ok (.newarray .boolean, 2)) (ha : Cond.arrayClass (newarray.typeOf .boolean) ∈ wl) (hz : s.heap.size = B.1 + n0) (hn : n0 ≤ gN g) (hs : s0 ≤ gS g) (hlim : gN g < 100000) (h0 : ¬ n < 0) (hb8 : n.toNatClampNeg ≤ 60000000) (hc : gN g + 1 - n0 ≤ R.cells ∧ gS g + n.toNatClampNeg - s0 ≤ R.slots) (hg1 : g1 = nG g 104 n.toNatClampNeg n.toNatClampNeg) (hd1 : d1 = nD g d) (k : n0 ≤ gN g1 → s0 ≤ gS g1 → WB p l e R s m args below meth c nL D cy B (gN g1 - n0) (gS g1 - s0) Q g1 d1 lv (pc + 2) (.ref (ad B (gN g)) :: rest)) : WB p l e R s m args below meth c nL D cy B (gN g - n0) (gS g - s0) Q g d lv pc (.int n :: rest) := by
  intro H locs ls hl hP hS
  obtain ⟨hx, hb, hml, hown, hts, hK, hSx, hN⟩ := C
  subst hg1; subst hd1
  have k2 := k (Nat.le_trans hn (Nat.le_succ _)) (Nat.le_trans hs (Nat.le_add_right _ _))
  have e1 : gN (nG g 104 n.toNatClampNeg n.toNatClampNeg) - n0 = gN g - n0 + 1 := by show gN g + 1 - n0 = _; omega
  have e2 : gS (nG g 104 n.toNatClampNeg n.toNatClampNeg) - s0 = gS g - s0 + n.toNatClampNeg := by show gS g + n.toNatClampNeg - s0 = _; omega
  rw [e1, e2] at k2
  refine va_newa (D := D) (atype := .boolean) (ty := tyk 4) (a0 := ar B (nG g 104 n.toNatClampNeg n.toNatClampNeg) (nD g d) (gN g) 4) hx hb (hts _ ha) rfl hK hP.2 (wls_D hP.1) hS (fun q hq => by show B.1 ≤ q; omega) (fun cA => ?_) h0 rfl (by8 hb8 (by decide +kernel)) (by omega) (by omega) hdg (fun q cA H1 hK1 hP1 hD1 hS1 => ?_)
  · have e : ar B (nG g 104 n.toNatClampNeg n.toNatClampNeg) (nD g d) (gN g) 4 = (gL (nG g 104 n.toNatClampNeg n.toNatClampNeg) (gN g), .inl (dI (nD g d) (gN g))) := rfl
    rw [e, nG_L, vp_cell_i]
    congr 1
    funext j
    rw [nD_I]
    rfl
  · intro T0 hT X
    have hcA : cA = cy 4 := arr_eq (by decide) hK (hK1.2 8 (cA, tyk 4) rfl).2
    subst hcA
    have hq := new_at (cl1 := 1) hT X rfl hz hn hlim hP1 hD1
    have hcel : cel B cy (nG g 104 n.toNatClampNeg n.toNatClampNeg) (nD g d) (gN g) = .inl (cy 4, ar B (nG g 104 n.toNatClampNeg n.toNatClampNeg) (nD g d) (gN g) 4) := cel_a nG_K
    rw [← hcel] at hP1
    have hw := new_W hlim hq hP1
    subst hq
    exact k2 H1 locs ls hl hw hS1 T0 hT X
theorem b_newqD (C : Cx p s m args c cc nL own D cy B) {index : Nat} {n : Int32} {g1 : Gs} {d1 : Ds} (hdg : decode cc pc = .ok (.anewarray index, 3)) (ha : Cond.classLink own index "KeyMatrix$Deed" ∈ wl) (hz : s.heap.size = B.1 + n0) (hn : n0 ≤ gN g) (hs : s0 ≤ gS g) (hlim : gN g < 100000) (h0 : ¬ n < 0) (hb8 : n.toNatClampNeg ≤ 60000000) (hc : gN g + 1 - n0 ≤ R.cells ∧ gS g + n.toNatClampNeg - s0 ≤ R.slots) (hg1 : g1 = nG g 105 n.toNatClampNeg n.toNatClampNeg) (hd1 : d1 = nD g d) (k : n0 ≤ gN g1 → s0 ≤ gS g1 → WB p l e R s m args below meth c nL D cy B (gN g1 - n0) (gS g1 - s0) Q g1 d1 lv (pc + 3) (.ref (ad B (gN g)) :: rest)) : WB p l e R s m args below meth c nL D cy B (gN g - n0) (gS g - s0) Q g d lv pc (.int n :: rest) := by
  intro H locs ls hl hP hS
  obtain ⟨hx, hb, hml, hown, hts, hK, hSx, hN⟩ := C
  subst hg1; subst hd1
  have k2 := k (Nat.le_trans hn (Nat.le_succ _)) (Nat.le_trans hs (Nat.le_add_right _ _))
  have e1 : gN (nG g 105 n.toNatClampNeg n.toNatClampNeg) - n0 = gN g - n0 + 1 := by show gN g + 1 - n0 = _; omega
  have e2 : gS (nG g 105 n.toNatClampNeg n.toNatClampNeg) - s0 = gS g - s0 + n.toNatClampNeg := by show gS g + n.toNatClampNeg - s0 = _; omega
  rw [e1, e2] at k2
  refine va_newq (D := D) (C := "KeyMatrix$Deed") hx hb hown (hts _ ha) hSx.2.2.1 hK hP.2 (wls_D hP.1) hS (fun q hq => by show B.1 ≤ q; omega) h0 rfl (by omega) (by omega) (by omega) hdg (fun q cA H1 hK1 hP1 hD1 hS1 => ?_)
  intro T0 hT X
  have hcA : cA = cy 5 := arr_eq (t := 5) (by decide) hK (hK1.2 8 (cA, tyk 5) rfl).2
  subst hcA
  have hq := new_at (cl1 := 1) hT X rfl hz hn hlim hP1 hD1
  have hcel : cel B cy (nG g 105 n.toNatClampNeg n.toNatClampNeg) (nD g d) (gN g) = .inl (cy 5, n.toNatClampNeg, .inr (.inr (.inr (.inr (fun _ => none))))) := by
    rw [cel_a (t := 5) nG_K]
    unfold ar
    rw [nG_L]
    simp only [nG_R, nD_W, Option.map_none]
  rw [← hcel] at hP1
  have hw := new_W hlim hq hP1
  subst hq
  exact k2 H1 locs ls hl hw hS1 T0 hT X
theorem b_newqC (C : Cx p s m args c cc nL own D cy B) {index : Nat} {n : Int32} {g1 : Gs} {d1 : Ds} (hdg : decode cc pc = .ok (.anewarray index, 3)) (ha : Cond.classLink own index "KeyMatrix$Course" ∈ wl) (hz : s.heap.size = B.1 + n0) (hn : n0 ≤ gN g) (hs : s0 ≤ gS g) (hlim : gN g < 100000) (h0 : ¬ n < 0) (hb8 : n.toNatClampNeg ≤ 60000000) (hc : gN g + 1 - n0 ≤ R.cells ∧ gS g + n.toNatClampNeg - s0 ≤ R.slots) (hg1 : g1 = nG g 106 n.toNatClampNeg n.toNatClampNeg) (hd1 : d1 = nD g d) (k : n0 ≤ gN g1 → s0 ≤ gS g1 → WB p l e R s m args below meth c nL D cy B (gN g1 - n0) (gS g1 - s0) Q g1 d1 lv (pc + 3) (.ref (ad B (gN g)) :: rest)) : WB p l e R s m args below meth c nL D cy B (gN g - n0) (gS g - s0) Q g d lv pc (.int n :: rest) := by
  intro H locs ls hl hP hS
  obtain ⟨hx, hb, hml, hown, hts, hK, hSx, hN⟩ := C
  subst hg1; subst hd1
  have k2 := k (Nat.le_trans hn (Nat.le_succ _)) (Nat.le_trans hs (Nat.le_add_right _ _))
  have e1 : gN (nG g 106 n.toNatClampNeg n.toNatClampNeg) - n0 = gN g - n0 + 1 := by show gN g + 1 - n0 = _; omega
  have e2 : gS (nG g 106 n.toNatClampNeg n.toNatClampNeg) - s0 = gS g - s0 + n.toNatClampNeg := by show gS g + n.toNatClampNeg - s0 = _; omega
  rw [e1, e2] at k2
  refine va_newq (D := D) (C := "KeyMatrix$Course") hx hb hown (hts _ ha) hSx.2.2.2.1 hK hP.2 (wls_D hP.1) hS (fun q hq => by show B.1 ≤ q; omega) h0 rfl (by omega) (by omega) (by omega) hdg (fun q cA H1 hK1 hP1 hD1 hS1 => ?_)
  intro T0 hT X
  have hcA : cA = cy 6 := arr_eq (t := 6) (by decide) hK (hK1.2 8 (cA, tyk 6) rfl).2
  subst hcA
  have hq := new_at (cl1 := 1) hT X rfl hz hn hlim hP1 hD1
  have hcel : cel B cy (nG g 106 n.toNatClampNeg n.toNatClampNeg) (nD g d) (gN g) = .inl (cy 6, n.toNatClampNeg, .inr (.inr (.inr (.inr (fun _ => none))))) := by
    rw [cel_a (t := 6) nG_K]
    unfold ar
    rw [nG_L]
    simp only [nG_R, nD_W, Option.map_none]
  rw [← hcel] at hP1
  have hw := new_W hlim hq hP1
  subst hq
  exact k2 H1 locs ls hl hw hS1 T0 hT X
theorem b_newqW (C : Cx p s m args c cc nL own D cy B) {index : Nat} {n : Int32} {g1 : Gs} {d1 : Ds} (hdg : decode cc pc = .ok (.anewarray index, 3)) (ha : Cond.classLink own index "KeyMatrix$Word" ∈ wl) (hz : s.heap.size = B.1 + n0) (hn : n0 ≤ gN g) (hs : s0 ≤ gS g) (hlim : gN g < 100000) (h0 : ¬ n < 0) (hb8 : n.toNatClampNeg ≤ 60000000) (hc : gN g + 1 - n0 ≤ R.cells ∧ gS g + n.toNatClampNeg - s0 ≤ R.slots) (hg1 : g1 = nG g 107 n.toNatClampNeg n.toNatClampNeg) (hd1 : d1 = nD g d) (k : n0 ≤ gN g1 → s0 ≤ gS g1 → WB p l e R s m args below meth c nL D cy B (gN g1 - n0) (gS g1 - s0) Q g1 d1 lv (pc + 3) (.ref (ad B (gN g)) :: rest)) : WB p l e R s m args below meth c nL D cy B (gN g - n0) (gS g - s0) Q g d lv pc (.int n :: rest) := by
  intro H locs ls hl hP hS
  obtain ⟨hx, hb, hml, hown, hts, hK, hSx, hN⟩ := C
  subst hg1; subst hd1
  have k2 := k (Nat.le_trans hn (Nat.le_succ _)) (Nat.le_trans hs (Nat.le_add_right _ _))
  have e1 : gN (nG g 107 n.toNatClampNeg n.toNatClampNeg) - n0 = gN g - n0 + 1 := by show gN g + 1 - n0 = _; omega
  have e2 : gS (nG g 107 n.toNatClampNeg n.toNatClampNeg) - s0 = gS g - s0 + n.toNatClampNeg := by show gS g + n.toNatClampNeg - s0 = _; omega
  rw [e1, e2] at k2
  refine va_newq (D := D) (C := "KeyMatrix$Word") hx hb hown (hts _ ha) hSx.2.2.2.2 hK hP.2 (wls_D hP.1) hS (fun q hq => by show B.1 ≤ q; omega) h0 rfl (by omega) (by omega) (by omega) hdg (fun q cA H1 hK1 hP1 hD1 hS1 => ?_)
  intro T0 hT X
  have hcA : cA = cy 7 := arr_eq (t := 7) (by decide) hK (hK1.2 8 (cA, tyk 7) rfl).2
  subst hcA
  have hq := new_at (cl1 := 1) hT X rfl hz hn hlim hP1 hD1
  have hcel : cel B cy (nG g 107 n.toNatClampNeg n.toNatClampNeg) (nD g d) (gN g) = .inl (cy 7, n.toNatClampNeg, .inr (.inr (.inr (.inr (fun _ => none))))) := by
    rw [cel_a (t := 7) nG_K]
    unfold ar
    rw [nG_L]
    simp only [nG_R, nD_W, Option.map_none]
  rw [← hcel] at hP1
  have hw := new_W hlim hq hP1
  subst hq
  exact k2 H1 locs ls hl hw hS1 T0 hT X
def FLP (own : String) (index cl j : Nat) : Prop := (∃ (CN : String) (T : u_T) (N : Nat), vwCl[cl]? = some (CN, T, N) ∧ j < N ∧ (∀ w ∈ u_ws CN T N, w ∈ wl) ∧ Cond.fieldLink own index (T j).1 (T j).2.1 (T j).2.2.1 ∈ wl) ∧ cl < 100 ∧ fR cl j = true
def FPR (cl j : Nat) (own : String) : Prop := FT cl ∧ ∃ q : vw_C, vwCl[cl]? = some q ∧ (q.2.1 j).2.2.2 = true ∧ (q.2.1 j).1 = own ∧ ∀ ty, parseFieldDescriptor (q.2.1 j).2.2.1 = some ty → ∀ a : Nat, narrow ty (.ref a) = .ref a ∧ fits ty (.ref a) = true
theorem sR_at {r j k v : Nat} : gR (sR g r j v) r k = if k = j then some v else gR g r k := by
  by_cases h : k = j <;> simp [gR, sR, va_up, h]
theorem sR_row {r j v : Nat} : gR (sR g r j v) r = va_up (gR g r) j (some v) := by simp [gR, sR, va_up]
theorem b_pR (C : Cx p s m args c cc nL own D cy B) {index cl j r v : Nat} {g1 : Gs} (hdg : decode cc pc = .ok (.putfield index, 3)) (hf : FLP own index cl j) (ht : FPR cl j own) (hin : meth.name = "<init>") (hq : chk g r cl) (hg1 : g1 = sR g r j v) (k : WB p l e R s m args below meth c nL D cy B cells slots Q g1 d lv (pc + 3) rest) : WB p l e R s m args below meth c nL D cy B cells slots Q g d lv pc (.ref (ad B v) :: .ref (ad B r) :: rest) := by
  intro H locs ls hl hP hS
  obtain ⟨⟨CN, T, N, h1, h2, h3, h4⟩, hc, hr⟩ := hf
  obtain ⟨⟨CN', T', N', ty, t1, t2, t3⟩, q, u1, u2, u3, u4⟩ := ht
  rw [h1] at t1
  cases t1
  rw [h1] at u1
  cases u1
  obtain ⟨hx, hb, hml, hown, hts, hK, hSx, hN⟩ := C
  have hj : j < fN cl := by rw [fN_of h1]; exact h2
  subst hg1
  have hn := u4 _ (t2 j h2) (ad B v)
  · refine va_putF (D := D) hx hb hts h3 ty t2 t3 hown hK hP.2 (wls_D hP.1) hS r ((wls_at hq.1).trans (by rw [cel_o hq.2 hc])) h1 j h2 (hts _ h4) (fun _ h9 => h9) u2 hin u3 (t2 j h2) hn.1 hn.2 (by simpa [fls] using hj) hdg (fun H1 locs1 hP1 hD1 hS1 => k H1 locs1 ls hl (hP.set hq.1 rfl (fun x _ hx => sR_o hx) ?_ hP1) hS1)
    have e : gK (sR g r j v) r = cl := hq.2
    rw [cel_o e hc]
    congr 2
    refine (fls_set hj (fun x hx => ?_) ?_).symm
    · unfold fv
      rw [sR_at, if_neg hx]
    · unfold fv
      rw [hr, sR_at, if_pos rfl, if_pos rfl]
      rfl
theorem b_aastD (C : Cx p s m args c cc nL own D cy B) {r v : Nat} {i : Int32} {g1 : Gs} (hdg : decode cc pc = .ok (.aastore, 1)) (hq : chk g r 105) (hv : chk g v 2) (hi : ¬ (i < 0 ∨ gL g r ≤ i.toNatClampNeg)) (hg1 : g1 = sR g r i.toNatClampNeg v) (k : WB p l e R s m args below meth c nL D cy B cells slots Q g1 d lv (pc + 1) rest) : WB p l e R s m args below meth c nL D cy B cells slots Q g d lv pc (.ref (ad B v) :: .int i :: .ref (ad B r) :: rest) := by
  intro H locs ls hl hP hS
  obtain ⟨hx, hb, hml, hown, hts, hK, hSx, hN⟩ := C
  subst hg1
  refine va_astq (D := D) hx hb hK hP.2 (wls_D hP.1) hS r 5 v 2 ((wls_at hq.1).trans (by rw [cel_a (t := 5) hq.2]; rfl)) rfl ((wls_at hv.1).trans (by rw [cel_o hv.2 (by decide)])) rfl hi hdg (fun H1 locs1 hP1 hD1 hS1 => k H1 locs1 ls hl (hP.set hq.1 rfl (fun x _ hx => sR_o hx) ?_ hP1) hS1)
  have e : gK (sR g r i.toNatClampNeg v) r = 100 + 5 := hq.2
  rw [cel_a (t := 5) e]
  unfold ar
  rw [sR_row]
  show Sum.inl (_, _, Sum.inr (Sum.inr (Sum.inr (Sum.inr _)))) = Sum.inl (_, _, Sum.inr (Sum.inr (Sum.inr (Sum.inr _))))
  have e2 : (fun j => (va_up (gR g r) i.toNatClampNeg (some v) j).map (ad B)) = va_up (fun j => (gR g r j).map (ad B)) i.toNatClampNeg (some (ad B v)) := by
    funext j
    by_cases h : j = i.toNatClampNeg <;> simp [va_up, h]
  rw [e2]
  rfl
theorem b_aastC (C : Cx p s m args c cc nL own D cy B) {r v : Nat} {i : Int32} {g1 : Gs} (hdg : decode cc pc = .ok (.aastore, 1)) (hq : chk g r 106) (hv : chk g v 1) (hi : ¬ (i < 0 ∨ gL g r ≤ i.toNatClampNeg)) (hg1 : g1 = sR g r i.toNatClampNeg v) (k : WB p l e R s m args below meth c nL D cy B cells slots Q g1 d lv (pc + 1) rest) : WB p l e R s m args below meth c nL D cy B cells slots Q g d lv pc (.ref (ad B v) :: .int i :: .ref (ad B r) :: rest) := by
  intro H locs ls hl hP hS
  obtain ⟨hx, hb, hml, hown, hts, hK, hSx, hN⟩ := C
  subst hg1
  refine va_astq (D := D) hx hb hK hP.2 (wls_D hP.1) hS r 6 v 1 ((wls_at hq.1).trans (by rw [cel_a (t := 6) hq.2]; rfl)) rfl ((wls_at hv.1).trans (by rw [cel_o hv.2 (by decide)])) rfl hi hdg (fun H1 locs1 hP1 hD1 hS1 => k H1 locs1 ls hl (hP.set hq.1 rfl (fun x _ hx => sR_o hx) ?_ hP1) hS1)
  have e : gK (sR g r i.toNatClampNeg v) r = 100 + 6 := hq.2
  rw [cel_a (t := 6) e]
  unfold ar
  rw [sR_row]
  show Sum.inl (_, _, Sum.inr (Sum.inr (Sum.inr (Sum.inr _)))) = Sum.inl (_, _, Sum.inr (Sum.inr (Sum.inr (Sum.inr _))))
  have e2 : (fun j => (va_up (gR g r) i.toNatClampNeg (some v) j).map (ad B)) = va_up (fun j => (gR g r j).map (ad B)) i.toNatClampNeg (some (ad B v)) := by
    funext j
    by_cases h : j = i.toNatClampNeg <;> simp [va_up, h]
  rw [e2]
  rfl
def PCC (D : va_G) (cy : Nat → ClassId) (B : Bs) (av : List Value) (g : Gs) (d : Ds) : Array Value → State → Prop := va_Pc av (fun U => U.heap.size = B.1 + gN g ∧ WP D cy B g d U.heap ∧ va_K D vwCl (tys8 cy) U ∧ Sx B U ∧ NzS U)
theorem PCC.blind {av : List Value} : FrameBlind (PCC D cy B av g d) := fun a U f mk q => by
  obtain ⟨q0, qz, qP, qK, qS, qN⟩ := q
  exact ⟨q0, qz, qP, va_K.moved (u := U) (U := U.calling f mk a) (Vm.Alike.refl U.vm) qK, Sx.moved (u := U) (U := U.calling f mk a) (Vm.Alike.refl U.vm) (fun _ _ _ => rfl) qS, NzS.same (s := U) (U := U.calling f mk a) rfl qN⟩
theorem met_ofC {y : MethodName} {cd : ByteArray} {maxL : Nat} {ret : Option FieldType} {rm : Room} {av : List Value} {Qc : Array Value → State → Outcome → State → Prop} {mc ms : Nat} (hy : plainName y.cls = true) (ha : (lg_sl av).length ≤ maxL)
    (body : ∀ (p : Program) (e : Env) (s : State) (m : MethodId) (args : Array Value) (below : List Frame) (meth : Method) (c : Code), Cx p s m args c cd maxL y.cls D cy B → meth.sig.returnType = ret → meth.locks = false → meth.name = y.name → s.heap.size = B.1 + gN g → WB p l e rm s m args below meth c maxL D cy B (gN g - gN g) (gS g - gS g) (MQ below Qc args s mc ms (wA B)) g d (lv_args 0 av) 0 []) : Met l y (.code y cd maxL ret :: wl) rm (PCC D cy B av g d) Qc mc ms (wA B) := by
  refine Met.ofW (cc := cd) (maxL := maxL) (ret := ret) hy rfl ?_
  intro p e s m args below meth c s1 A hml hv
  obtain ⟨ha2, hz, hP, hK, hS, hN⟩ := hv
  have hts := atoms_spec (ws := .code y cd maxL ret :: wl) A.pre
  have hbody := body p e s m args below meth c ⟨A.exec, A.bytes, hml, findClass_of_methodNamed A.named, fun w hw => hts w (List.mem_cons_of_mem _ hw), hK, hS, hN⟩ A.returns A.notSynchronized (name_of_methodNamed A.named A.method).1 hz
  rw [Nat.sub_self, Nat.sub_self] at hbody
  subst ha2
  rw [lg_entry_eq]
  exact hbody s.heap [] _ (lv_entry av ha) hP va_S.rf
theorem b_vretC (C : Cx p s m args c cc nL own D cy B) (hr : meth.sig.returnType = none) (hlocks : meth.locks = false) {mc ms : Nat} {g1 : Gs} {d1 : Ds} (hg : gN g = n0 + mc ∧ gS g = s0 + ms) (h : some (g, d) = some (g1, d1)) (hdg : decode cc pc = .ok (.return_, 1)) : WB p l e R s m args below meth c nL D cy B (gN g - n0) (gS g - s0) (MQ below (QV D cy B g1 d1) args s mc ms (wA B)) g d lv pc [] := by
  cases h
  obtain ⟨hg1, hg2⟩ := hg
  have e1 : gN g - n0 = mc := by omega
  have e2 : gS g - s0 = ms := by omega
  rw [e1, e2]
  intro H locs ls hl hP hS
  obtain ⟨hx, hb, hml, hown, hts, hK, -⟩ := C
  exact W.vret hx hb hr (fun t ht hW => ⟨⟨(), rfl, trivial, wp_at ht hP⟩, hS.F ht⟩) hS.2.2 hdg hlocks
theorem b_callC (C : Cx p s m args c cc nL own D cy B) {index maxL n mc ms r0 : Nat} {y : MethodName} {bytes : ByteArray} {rm : Room} {As : List Value} {g1 : Gs} {d1 : Ds} (rest : List Value) (hdg : decode cc pc = .ok (.invokespecial index, 3)) (hM : Met l y (.code y bytes maxL none :: wl) rm (PCC D cy B (.ref (ad B r0) :: As) g d) (QV D cy B g1 d1) mc ms (wA B)) (hV : LCo own index y bytes maxL n) (hrm : rmOk R rm maxL mc ms) (hn2 : As.length = n) (hrest : (rest.map fun v => v.category).sum ≤ 8) (hz : s.heap.size = B.1 + n0) (hn : n0 ≤ gN g) (hs : s0 ≤ gS g) (hpos : 0 < gN g) (hg1 : gN g1 = gN g + mc ∧ gS g1 = gS g + ms) (hcs : gN g1 - n0 ≤ R.cells ∧ gS g1 - s0 ≤ R.slots) {st : List Value} (hst : st = As.reverse ++ .ref (ad B r0) :: rest) (k : n0 ≤ gN g1 → s0 ≤ gS g1 → WB p l e R s m args below meth c nL D cy B (gN g1 - n0) (gS g1 - s0) Q g1 d1 lv (pc + 3) rest) : WB p l e R s m args below meth c nL D cy B (gN g - n0) (gS g - s0) Q g d lv pc st := by
  intro H locs ls hl hP hS T hT X
  obtain ⟨e1, e2⟩ := hg1
  have k2 := k (by omega) (by omega)
  have e3 : gN g1 - n0 = gN g - n0 + mc := by omega
  have e4 : gS g1 - s0 = gS g - s0 + ms := by omega
  rw [e3, e4] at k2 hcs
  have hszU : T.heap.size ≤ s.heap.size + (gN g - n0) := X.same.2.2.1
  rw [hT] at hszU
  have hlast := (hP.2 _ _ (wls_at (B := B) (cy := cy) (g := g) (d := d) (r := gN g - 1) (by omega))).lt
  have hlast2 : ad B (gN g - 1) < H.size := hlast
  rw [ad_lt (by have := hP.1; omega)] at hlast2
  have hsz : H.size = B.1 + gN g := by omega
  obtain ⟨hx, hb, hml, hown, hts, hK, hSx, hN⟩ := C
  obtain ⟨v2, v3, v4, v5, v7, v8⟩ := hV
  have hp : PreS s H (PCC D cy B (.ref (ad B r0) :: As) g d) (.ref (ad B r0) :: As) := ⟨PCC.blind, fun U hU hW => ⟨rfl, by rw [hU]; exact hsz, by rw [hU]; exact hP, va_K.moved hW.alike hK, Sx.moved hW.alike (fun a h1 h2 => by rw [hU]; exact hS.2.1 a h1 h2) hSx, NzS.warm hW hN⟩⟩
  have run : va_Run p l e R s m args below meth c H locs (gN g - n0) (gS g - s0) mc ms (F0 m pc ls st) rest (QV D cy B g1 d1 (Value.ref (ad B r0) :: As).toArray) (wA B) := by
    rcases v4 with v4 | v4
    · exact va_runI (As := As) (rest := rest) (b := ad B r0) ⟨hx, hb, hml, hown, hts⟩ hM ⟨callB_of n hts (law_in v8) rfl hrm.1 hrm.2.1 (hts _ v7) (hts _ v4) v3 hrm.2.2, v2, hts _ v5⟩ hp rfl hn2 hl.1 hst (lv_room hrest) hdg hcs
    · exact va_runIN (As := As) (rest := rest) (b := ad B r0) ⟨hx, hb, hml, hown, hts⟩ hM ⟨va_cnB n hts (law_in v8) rfl hrm.1 hrm.2.1 (hN _ v4 rfl) (hts _ v7) v3 hrm.2.2, v2, hts _ v5⟩ hp rfl hn2 hl.1 hst (lv_room hrest) hdg hcs
  exact va_callv run hS (fun q _ h => h) (fun q h => h) (fun u t H1 locs1 ht hvm hw hB hz1 hk1 hS1 => k2 H1 locs1 ls hl (by rw [← ht]; exact hB) hS1) T hT X
theorem b_pRC (C : Cx p s m args c cc nL own D cy B) {index cl j r v : Nat} {g1 : Gs} (hdg : decode cc pc = .ok (.putfield index, 3)) (hf : FLP own index cl j) (ht : FPR cl j own) (hin : meth.name = "<init>") (hq : chk g r cl) (hg1 : g1 = sR g r j v) (k : WB p l e R s m args below meth c nL D cy B (gN g1 - n0) (gS g1 - s0) Q g1 d lv (pc + 3) rest) : WB p l e R s m args below meth c nL D cy B (gN g - n0) (gS g - s0) Q g d lv pc (.ref (ad B v) :: .ref (ad B r) :: rest) := by
  subst hg1
  exact b_pR C hdg hf ht hin hq rfl k
theorem b_aastDC (C : Cx p s m args c cc nL own D cy B) {r v : Nat} {i : Int32} {g1 : Gs} (hdg : decode cc pc = .ok (.aastore, 1)) (hq : chk g r 105) (hv : chk g v 2) (hi : ¬ (i < 0 ∨ gL g r ≤ i.toNatClampNeg)) (hg1 : g1 = sR g r i.toNatClampNeg v) (k : WB p l e R s m args below meth c nL D cy B (gN g1 - n0) (gS g1 - s0) Q g1 d lv (pc + 1) rest) : WB p l e R s m args below meth c nL D cy B (gN g - n0) (gS g - s0) Q g d lv pc (.ref (ad B v) :: .int i :: .ref (ad B r) :: rest) := by
  subst hg1
  exact b_aastD C hdg hq hv hi rfl k
theorem b_aastCC (C : Cx p s m args c cc nL own D cy B) {r v : Nat} {i : Int32} {g1 : Gs} (hdg : decode cc pc = .ok (.aastore, 1)) (hq : chk g r 106) (hv : chk g v 1) (hi : ¬ (i < 0 ∨ gL g r ≤ i.toNatClampNeg)) (hg1 : g1 = sR g r i.toNatClampNeg v) (k : WB p l e R s m args below meth c nL D cy B (gN g1 - n0) (gS g1 - s0) Q g1 d lv (pc + 1) rest) : WB p l e R s m args below meth c nL D cy B (gN g - n0) (gS g - s0) Q g d lv pc (.ref (ad B v) :: .int i :: .ref (ad B r) :: rest) := by
  subst hg1
  exact b_aastC C hdg hq hv hi rfl k
theorem b_topR {r x : Nat} (h : r = x) (k : WB p l e R s m args below meth c nL D cy B cells slots Q g d lv pc (.ref (ad B r) :: rest)) : WB p l e R s m args below meth c nL D cy B cells slots Q g d lv pc (.ref (ad B x) :: rest) := h ▸ k
theorem b_slen (C : Cx p s m args c cc nL own D cy B) {b L : Nat} {xs : Nat → Int32} (hX : va_X b L xs s s.heap) (hbl : b < s.heap.size) (hbA : ¬ wA B b) (hdg : decode cc pc = .ok (.arraylength, 1)) (k : WB p l e R s m args below meth c nL D cy B cells slots Q g d lv (pc + 1) (.int (Int32.ofNat L) :: rest)) : WB p l e R s m args below meth c nL D cy B cells slots Q g d lv pc (.ref b :: rest) := fun H locs ls hl hP hS => va_slen C.1 C.2.1 hX hbl hbA hS hdg (k H locs ls hl hP hS)
theorem b_sld (C : Cx p s m args c cc nL own D cy B) {b L : Nat} {xs : Nat → Int32} {i : Int32} (hX : va_X b L xs s s.heap) (hbl : b < s.heap.size) (hbA : ¬ wA B b) (hi : ¬ (i < 0 ∨ L ≤ i.toNatClampNeg)) (hdg : decode cc pc = .ok (.iaload, 1)) (k : WB p l e R s m args below meth c nL D cy B cells slots Q g d lv (pc + 1) (.int (xs i.toNatClampNeg) :: rest)) : WB p l e R s m args below meth c nL D cy B cells slots Q g d lv pc (.int i :: .ref b :: rest) := fun H locs ls hl hP hS => va_sld C.1 C.2.1 hX hbl hbA hS hi hdg (k H locs ls hl hP hS)
end BA
end
section
/-! KeyMatrix$Deed.<init>()V -/
theorem oi_X2_3 : Cond.methodLink RX2 3 objectInit ∈ wl := mW (mT1 (List.mem_of_getElem? (i := 70) (by decide +kernel))) rfl
theorem oi_i : Cond.instanceMethod objectInit ∈ wl := mW (mT1 (List.mem_of_getElem? (i := 28) (by decide +kernel))) rfl
theorem oi_c : Cond.code objectInit ⟨#[0xb1]⟩ 1 none ∈ wl := mW (mT1 (List.mem_of_getElem? (i := 29) (by decide +kernel))) rfl
theorem inl2 : ∀ w ∈ u_ws RX2 TX2 3, w ∈ wl := by
  have h0 : u_ws RX2 TX2 3 = [Cond.lays "KeyMatrix$Deed" "KeyMatrix$Deed" "kind" "I", Cond.lays "KeyMatrix$Deed" "KeyMatrix$Deed" "first" "I", Cond.lays "KeyMatrix$Deed" "KeyMatrix$Deed" "second" "I"] := by decide +kernel
  rw [h0]
  exact List.forall_mem_cons.mpr ⟨mW (mT1 (List.mem_of_getElem? (i := 84) (by decide +kernel))) rfl, List.forall_mem_cons.mpr ⟨mW (mT1 (List.mem_of_getElem? (i := 86) (by decide +kernel))) rfl, List.forall_mem_cons.mpr ⟨mW (mT1 (List.mem_of_getElem? (i := 88) (by decide +kernel))) rfl, fun _ h => absurd h List.not_mem_nil⟩⟩⟩
theorem fl_X2_9 : FLI RX2 9 2 0 := ⟨⟨RX2, TX2, 3, rfl, by decide, inl2, Or.inl (mW (mT1 (List.mem_of_getElem? (i := 71) (by decide +kernel))) rfl)⟩, by decide, by decide +kernel⟩
theorem ft2 : FT 2 := ⟨RX2, TX2, 3, tyX2, rfl, tyX2_ok, nmX2⟩
theorem fp2_0 : FPI 2 0 := ⟨ft2, (RX2, TX2, 3), rfl, by decide +kernel, by decide +kernel⟩
theorem fl_X2_15 : FLI RX2 15 2 1 := ⟨⟨RX2, TX2, 3, rfl, by decide, inl2, Or.inl (mW (mT1 (List.mem_of_getElem? (i := 76) (by decide +kernel))) rfl)⟩, by decide, by decide +kernel⟩
theorem fp2_1 : FPI 2 1 := ⟨ft2, (RX2, TX2, 3), rfl, by decide +kernel, by decide +kernel⟩
theorem fl_X2_18 : FLI RX2 18 2 2 := ⟨⟨RX2, TX2, 3, rfl, by decide, inl2, Or.inl (mW (mT1 (List.mem_of_getElem? (i := 80) (by decide +kernel))) rfl)⟩, by decide, by decide +kernel⟩
theorem fp2_2 : FPI 2 2 := ⟨ft2, (RX2, TX2, 3), rfl, by decide +kernel, by decide +kernel⟩
theorem dX2_init_0 : decode cX2_init 0 = .ok (.aload_n 0, 1) := by decide +kernel
theorem dX2_init_1 : decode cX2_init 1 = .ok (.invokespecial 3, 3) := by decide +kernel
theorem dX2_init_4 : decode cX2_init 4 = .ok (.aload_n 0, 1) := by decide +kernel
theorem dX2_init_5 : decode cX2_init 5 = .ok (.iconst 4, 1) := by decide +kernel
theorem dX2_init_6 : decode cX2_init 6 = .ok (.putfield 9, 3) := by decide +kernel
theorem dX2_init_9 : decode cX2_init 9 = .ok (.aload_n 0, 1) := by decide +kernel
theorem dX2_init_10 : decode cX2_init 10 = .ok (.iconst (-1), 1) := by decide +kernel
theorem dX2_init_11 : decode cX2_init 11 = .ok (.putfield 15, 3) := by decide +kernel
theorem dX2_init_14 : decode cX2_init 14 = .ok (.aload_n 0, 1) := by decide +kernel
theorem dX2_init_15 : decode cX2_init 15 = .ok (.iconst (-1), 1) := by decide +kernel
theorem dX2_init_16 : decode cX2_init 16 = .ok (.putfield 18, 3) := by decide +kernel
theorem dX2_init_19 : decode cX2_init 19 = .ok (.return_, 1) := by decide +kernel
def rmX2_init : Room := { frames := 1, cells := 0, slots := 0, locals := 20 }
set_option maxRecDepth 100000 in
def fX2_init_E (N : Nat) (x0 : Nat) (n0 s0 : Nat) (g : Gs) (d : Ds) : Option (Gs × Ds) := gd (chk g x0 2) <| bd (sI d x0 0 4) fun d2 => (bd (sI d2 x0 1 (-1)) fun d3 => (bd (sI d3 x0 2 (-1)) fun d4 => (gd (gN g = n0 + 0 ∧ gS g = s0 + 0) <| some (g, d4))))
def fX2_init (N : Nat) (x0 : Nat) (g : Gs) (d : Ds) : Option (Gs × Ds) := fX2_init_E N x0 (gN g) (gS g) g d
set_option maxHeartbeats 4000000 in
set_option maxRecDepth 100000 in
theorem tX2_init_E {p : Program} {l : Launch} {e : Env} {s : State} {m : MethodId} {args : Array Value} {below : List Frame} {meth : Method} {c : Code} {D : va_G} {cy : Nat → ClassId} {B : Bs} (C : Cx p s m args c cX2_init 1 RX2 D cy B) (hr : meth.sig.returnType = none) (hlocks : meth.locks = false) (hin : meth.name = "<init>") {n0 s0 : Nat} (hz : s.heap.size = B.1 + n0) {N : Nat} {x0 : Nat} {gz : Gs} {dz : Ds} {g : Gs} {d : Ds} (hn : n0 ≤ gN g) (hs : s0 ≤ gS g) (hf : fX2_init_E N x0 n0 s0 g d = some (gz, dz)) : WB p l e rmX2_init s m args below meth c 1 D cy B (gN g - n0) (gS g - s0) (MQ below (QV D cy B gz dz) args s 0 0 (wA B)) g d [(0, .ref (ad B x0))] 0 [] := by
  unfold fX2_init_E at hf
  refine b_aload_n C dX2_init_0 0 rfl rfl ?_
  refine b_objInit C oi_X2_3 oi_i oi_c (by decide) (by decide) dX2_init_1 ?_
  refine b_aload_n C dX2_init_4 0 rfl rfl ?_
  refine b_iconst C (v := 4) dX2_init_5 (by decide) ?_
  obtain ⟨h1, hf⟩ := gd_s hf
  obtain ⟨d2, ed2, hf⟩ := bd_s hf
  refine b_pI C dX2_init_6 fl_X2_9 fp2_0 h1 ed2 ?_
  refine b_aload_n C dX2_init_9 0 rfl rfl ?_
  refine b_iconst C (v := (-1)) dX2_init_10 (by decide) ?_
  obtain ⟨d3, ed3, hf⟩ := bd_s hf
  refine b_pI C dX2_init_11 fl_X2_15 fp2_1 h1 ed3 ?_
  refine b_aload_n C dX2_init_14 0 rfl rfl ?_
  refine b_iconst C (v := (-1)) dX2_init_15 (by decide) ?_
  obtain ⟨d4, ed4, hf⟩ := bd_s hf
  refine b_pI C dX2_init_16 fl_X2_18 fp2_2 h1 ed4 ?_
  obtain ⟨h5, hf⟩ := gd_s hf
  exact b_vretC C hr hlocks h5 hf dX2_init_19
theorem kX2_init (l : Launch) (D : va_G) (cy : Nat → ClassId) (B : Bs) {N : Nat} {g : Gs} {x0 : Nat} {gz : Gs} {dz : Ds} {d : Ds} (hf : fX2_init N x0 g d = some (gz, dz)) : Met l yX2_init (.code yX2_init cX2_init 1 none :: wl) rmX2_init (PCC D cy B [.ref (ad B x0)] g d) (QV D cy B gz dz) 0 0 (wA B) :=
  met_ofC (by decide +kernel) (Nat.le_of_ble_eq_true rfl) (fun p e s m args below meth c C hr hlocks hin hz => b_sub [(0, .ref (ad B x0))] [0] rfl (tX2_init_E C hr hlocks hin hz (Nat.le_refl _) (Nat.le_refl _) hf))
/-! KeyMatrix$Deed.tell(III)V -/
theorem dX2_tell_0 : decode cX2_tell 0 = .ok (.aload_n 0, 1) := by decide +kernel
theorem dX2_tell_1 : decode cX2_tell 1 = .ok (.iload_n 1, 1) := by decide +kernel
theorem dX2_tell_2 : decode cX2_tell 2 = .ok (.putfield 9, 3) := by decide +kernel
theorem dX2_tell_5 : decode cX2_tell 5 = .ok (.aload_n 0, 1) := by decide +kernel
theorem dX2_tell_6 : decode cX2_tell 6 = .ok (.iload_n 2, 1) := by decide +kernel
theorem dX2_tell_7 : decode cX2_tell 7 = .ok (.putfield 15, 3) := by decide +kernel
theorem dX2_tell_10 : decode cX2_tell 10 = .ok (.aload_n 0, 1) := by decide +kernel
theorem dX2_tell_11 : decode cX2_tell 11 = .ok (.iload_n 3, 1) := by decide +kernel
theorem dX2_tell_12 : decode cX2_tell 12 = .ok (.putfield 18, 3) := by decide +kernel
theorem dX2_tell_15 : decode cX2_tell 15 = .ok (.return_, 1) := by decide +kernel
def rmX2_tell : Room := { frames := 0, cells := 0, slots := 0, locals := 0 }
set_option maxRecDepth 100000 in
def fX2_tell (N : Nat) (g : Gs) (x0 : Nat) (x1 : Int32) (x2 : Int32) (x3 : Int32) (d : Ds) : Option (Unit × Ds) := gd (chk g x0 2) <| bd (sI d x0 0 x1) fun d2 => (bd (sI d2 x0 1 x2) fun d3 => (bd (sI d3 x0 2 x3) fun d4 => (some ((), d4))))
set_option maxHeartbeats 4000000 in
set_option maxRecDepth 100000 in
theorem tX2_tell_E {p : Program} {l : Launch} {e : Env} {s : State} {m : MethodId} {args : Array Value} {below : List Frame} {meth : Method} {c : Code} {D : va_G} {cy : Nat → ClassId} {B : Bs} (C : Cx p s m args c cX2_tell 4 RX2 D cy B) (hr : meth.sig.returnType = none) (hlocks : meth.locks = false) {N : Nat} {g : Gs} {x0 : Nat} {x1 : Int32} {x2 : Int32} {x3 : Int32}  {dz : Ds} {d : Ds} (hf : fX2_tell N g x0 x1 x2 x3 d = some ((), dz)) : WB p l e rmX2_tell s m args below meth c 4 D cy B 0 0 (MQ below (QV D cy B g dz) args s 0 0 (wA B)) g d [(0, .ref (ad B x0)), (1, .int x1), (2, .int x2), (3, .int x3)] 0 [] := by
  unfold fX2_tell at hf
  refine b_aload_n C dX2_tell_0 0 rfl rfl ?_
  refine b_iload_n C dX2_tell_1 1 rfl rfl ?_
  obtain ⟨h1, hf⟩ := gd_s hf
  obtain ⟨d2, ed2, hf⟩ := bd_s hf
  refine b_pI C dX2_tell_2 fl_X2_9 fp2_0 h1 ed2 ?_
  refine b_aload_n C dX2_tell_5 0 rfl rfl ?_
  refine b_iload_n C dX2_tell_6 2 rfl rfl ?_
  obtain ⟨d3, ed3, hf⟩ := bd_s hf
  refine b_pI C dX2_tell_7 fl_X2_15 fp2_1 h1 ed3 ?_
  refine b_aload_n C dX2_tell_10 0 rfl rfl ?_
  refine b_iload_n C dX2_tell_11 3 rfl rfl ?_
  obtain ⟨d4, ed4, hf⟩ := bd_s hf
  refine b_pI C dX2_tell_12 fl_X2_18 fp2_2 h1 ed4 ?_
  exact b_vret C hr hlocks hf dX2_tell_15
theorem kX2_tell (l : Launch) (D : va_G) (cy : Nat → ClassId) (B : Bs) {N : Nat} {g : Gs} {x0 : Nat} {x1 : Int32} {x2 : Int32} {x3 : Int32}  {dz : Ds} {d : Ds} (hf : fX2_tell N g x0 x1 x2 x3 d = some ((), dz)) : Met l yX2_tell (.code yX2_tell cX2_tell 4 none :: wl) rmX2_tell (PC D cy B [.ref (ad B x0), .int x1, .int x2, .int x3] g d) (QV D cy B g dz) 0 0 (wA B) :=
  met_of (by decide +kernel) (Nat.le_of_ble_eq_true rfl) (fun p e s m args below meth c C hr hlocks _ => b_sub [(0, .ref (ad B x0)), (1, .int x1), (2, .int x2), (3, .int x3)] [0, 1, 2, 3] rfl (tX2_tell_E C hr hlocks hf))
/-! KeyMatrix$Board.clear()V -/
theorem inl0 : ∀ w ∈ u_ws RX0 TX0 19, w ∈ wl := by
  have h0 : u_ws RX0 TX0 19 = [Cond.lays "KeyMatrix$Board" "KeyMatrix$Board" "rows" "I", Cond.lays "KeyMatrix$Board" "KeyMatrix$Board" "columns" "I", Cond.lays "KeyMatrix$Board" "KeyMatrix$Board" "diodes" "Z", Cond.lays "KeyMatrix$Board" "KeyMatrix$Board" "six" "Z", Cond.lays "KeyMatrix$Board" "KeyMatrix$Board" "bounce" "I", Cond.lays "KeyMatrix$Board" "KeyMatrix$Board" "term" "I", Cond.lays "KeyMatrix$Board" "KeyMatrix$Board" "chording" "I", Cond.lays "KeyMatrix$Board" "KeyMatrix$Board" "twice" "I", Cond.lays "KeyMatrix$Board" "KeyMatrix$Board" "delay" "I", Cond.lays "KeyMatrix$Board" "KeyMatrix$Board" "rate" "I", Cond.laysFinal "KeyMatrix$Board" "KeyMatrix$Board" "deeds" "[LKeyMatrix$Deed;", Cond.laysFinal "KeyMatrix$Board" "KeyMatrix$Board" "nothing" "LKeyMatrix$Deed;", Cond.lays "KeyMatrix$Board" "KeyMatrix$Board" "chordCount" "I", Cond.laysFinal "KeyMatrix$Board" "KeyMatrix$Board" "chordFirst" "[I", Cond.laysFinal "KeyMatrix$Board" "KeyMatrix$Board" "chordOther" "[I", Cond.laysFinal "KeyMatrix$Board" "KeyMatrix$Board" "chordDeeds" "[LKeyMatrix$Deed;", Cond.lays "KeyMatrix$Board" "KeyMatrix$Board" "macroCount" "I", Cond.laysFinal "KeyMatrix$Board" "KeyMatrix$Board" "macroLengths" "[I", Cond.laysFinal "KeyMatrix$Board" "KeyMatrix$Board" "macroCodes" "[I"] := by decide +kernel
  rw [h0]
  exact List.forall_mem_cons.mpr ⟨mW (mT1 (List.mem_of_getElem? (i := 166) (by decide +kernel))) rfl, List.forall_mem_cons.mpr ⟨mW (mT1 (List.mem_of_getElem? (i := 168) (by decide +kernel))) rfl, List.forall_mem_cons.mpr ⟨mW (mT1 (List.mem_of_getElem? (i := 170) (by decide +kernel))) rfl, List.forall_mem_cons.mpr ⟨mW (mT1 (List.mem_of_getElem? (i := 172) (by decide +kernel))) rfl, List.forall_mem_cons.mpr ⟨mW (mT1 (List.mem_of_getElem? (i := 174) (by decide +kernel))) rfl, List.forall_mem_cons.mpr ⟨mW (mT1 (List.mem_of_getElem? (i := 176) (by decide +kernel))) rfl, List.forall_mem_cons.mpr ⟨mW (mT1 (List.mem_of_getElem? (i := 178) (by decide +kernel))) rfl, List.forall_mem_cons.mpr ⟨mW (mT1 (List.mem_of_getElem? (i := 180) (by decide +kernel))) rfl, List.forall_mem_cons.mpr ⟨mW (mT1 (List.mem_of_getElem? (i := 182) (by decide +kernel))) rfl, List.forall_mem_cons.mpr ⟨mW (mT1 (List.mem_of_getElem? (i := 184) (by decide +kernel))) rfl, List.forall_mem_cons.mpr ⟨mW (mT1 (List.mem_of_getElem? (i := 186) (by decide +kernel))) rfl, List.forall_mem_cons.mpr ⟨mW (mT1 (List.mem_of_getElem? (i := 188) (by decide +kernel))) rfl, List.forall_mem_cons.mpr ⟨mW (mT1 (List.mem_of_getElem? (i := 190) (by decide +kernel))) rfl, List.forall_mem_cons.mpr ⟨mW (mT1 (List.mem_of_getElem? (i := 192) (by decide +kernel))) rfl, List.forall_mem_cons.mpr ⟨mW (mT1 (List.mem_of_getElem? (i := 194) (by decide +kernel))) rfl, List.forall_mem_cons.mpr ⟨mW (mT1 (List.mem_of_getElem? (i := 196) (by decide +kernel))) rfl, List.forall_mem_cons.mpr ⟨mW (mT1 (List.mem_of_getElem? (i := 198) (by decide +kernel))) rfl, List.forall_mem_cons.mpr ⟨mW (mT1 (List.mem_of_getElem? (i := 200) (by decide +kernel))) rfl, List.forall_mem_cons.mpr ⟨mW (mT1 (List.mem_of_getElem? (i := 202) (by decide +kernel))) rfl, fun _ h => absurd h List.not_mem_nil⟩⟩⟩⟩⟩⟩⟩⟩⟩⟩⟩⟩⟩⟩⟩⟩⟩⟩⟩
theorem fl_X0_41 : FLI RX0 41 0 0 := ⟨⟨RX0, TX0, 19, rfl, by decide, inl0, Or.inl (mW (mT1 (List.mem_of_getElem? (i := 108) (by decide +kernel))) rfl)⟩, by decide, by decide +kernel⟩
theorem ft0 : FT 0 := ⟨RX0, TX0, 19, tyX0, rfl, tyX0_ok, nmX0⟩
theorem fp0_0 : FPI 0 0 := ⟨ft0, (RX0, TX0, 19), rfl, by decide +kernel, by decide +kernel⟩
theorem fl_X0_45 : FLI RX0 45 0 1 := ⟨⟨RX0, TX0, 19, rfl, by decide, inl0, Or.inl (mW (mT1 (List.mem_of_getElem? (i := 112) (by decide +kernel))) rfl)⟩, by decide, by decide +kernel⟩
theorem fp0_1 : FPI 0 1 := ⟨ft0, (RX0, TX0, 19), rfl, by decide +kernel, by decide +kernel⟩
theorem fl_X0_48 : FLI RX0 48 0 2 := ⟨⟨RX0, TX0, 19, rfl, by decide, inl0, Or.inl (mW (mT1 (List.mem_of_getElem? (i := 117) (by decide +kernel))) rfl)⟩, by decide, by decide +kernel⟩
theorem fp0_2 : FPZ 0 2 := ⟨ft0, (RX0, TX0, 19), rfl, by decide +kernel, by decide +kernel⟩
theorem fl_X0_52 : FLI RX0 52 0 3 := ⟨⟨RX0, TX0, 19, rfl, by decide, inl0, Or.inl (mW (mT1 (List.mem_of_getElem? (i := 120) (by decide +kernel))) rfl)⟩, by decide, by decide +kernel⟩
theorem fp0_3 : FPZ 0 3 := ⟨ft0, (RX0, TX0, 19), rfl, by decide +kernel, by decide +kernel⟩
theorem fl_X0_55 : FLI RX0 55 0 4 := ⟨⟨RX0, TX0, 19, rfl, by decide, inl0, Or.inl (mW (mT1 (List.mem_of_getElem? (i := 124) (by decide +kernel))) rfl)⟩, by decide, by decide +kernel⟩
theorem fp0_4 : FPI 0 4 := ⟨ft0, (RX0, TX0, 19), rfl, by decide +kernel, by decide +kernel⟩
theorem fl_X0_58 : FLI RX0 58 0 5 := ⟨⟨RX0, TX0, 19, rfl, by decide, inl0, Or.inl (mW (mT1 (List.mem_of_getElem? (i := 128) (by decide +kernel))) rfl)⟩, by decide, by decide +kernel⟩
theorem fp0_5 : FPI 0 5 := ⟨ft0, (RX0, TX0, 19), rfl, by decide +kernel, by decide +kernel⟩
theorem fl_X0_61 : FLI RX0 61 0 6 := ⟨⟨RX0, TX0, 19, rfl, by decide, inl0, Or.inl (mW (mT1 (List.mem_of_getElem? (i := 132) (by decide +kernel))) rfl)⟩, by decide, by decide +kernel⟩
theorem fp0_6 : FPI 0 6 := ⟨ft0, (RX0, TX0, 19), rfl, by decide +kernel, by decide +kernel⟩
theorem fl_X0_64 : FLI RX0 64 0 7 := ⟨⟨RX0, TX0, 19, rfl, by decide, inl0, Or.inl (mW (mT1 (List.mem_of_getElem? (i := 136) (by decide +kernel))) rfl)⟩, by decide, by decide +kernel⟩
theorem fp0_7 : FPI 0 7 := ⟨ft0, (RX0, TX0, 19), rfl, by decide +kernel, by decide +kernel⟩
theorem fl_X0_67 : FLI RX0 67 0 8 := ⟨⟨RX0, TX0, 19, rfl, by decide, inl0, Or.inl (mW (mT1 (List.mem_of_getElem? (i := 140) (by decide +kernel))) rfl)⟩, by decide, by decide +kernel⟩
theorem fp0_8 : FPI 0 8 := ⟨ft0, (RX0, TX0, 19), rfl, by decide +kernel, by decide +kernel⟩
theorem fl_X0_70 : FLI RX0 70 0 9 := ⟨⟨RX0, TX0, 19, rfl, by decide, inl0, Or.inl (mW (mT1 (List.mem_of_getElem? (i := 144) (by decide +kernel))) rfl)⟩, by decide, by decide +kernel⟩
theorem fp0_9 : FPI 0 9 := ⟨ft0, (RX0, TX0, 19), rfl, by decide +kernel, by decide +kernel⟩
theorem fl_X0_11 : FLR RX0 11 0 10 := ⟨⟨RX0, TX0, 19, rfl, by decide, inl0, Or.inl (mW (mT1 (List.mem_of_getElem? (i := 148) (by decide +kernel))) rfl)⟩, by decide, by decide +kernel⟩
theorem fl_X0_77 : FLI RX0 77 0 12 := ⟨⟨RX0, TX0, 19, rfl, by decide, inl0, Or.inl (mW (mT1 (List.mem_of_getElem? (i := 150) (by decide +kernel))) rfl)⟩, by decide, by decide +kernel⟩
theorem fp0_12 : FPI 0 12 := ⟨ft0, (RX0, TX0, 19), rfl, by decide +kernel, by decide +kernel⟩
theorem fl_X0_80 : FLI RX0 80 0 16 := ⟨⟨RX0, TX0, 19, rfl, by decide, inl0, Or.inl (mW (mT1 (List.mem_of_getElem? (i := 160) (by decide +kernel))) rfl)⟩, by decide, by decide +kernel⟩
theorem fp0_16 : FPI 0 16 := ⟨ft0, (RX0, TX0, 19), rfl, by decide +kernel, by decide +kernel⟩
theorem yo_X2_tell : yX2_tell.cls ≠ "java/lang/invoke/MethodHandle" ∧ yX2_tell.cls ≠ "java/lang/invoke/VarHandle" ∧ (parseMethodDescriptor yX2_tell.desc).map (fun d => d.parameters.length) = some 3 := by decide +kernel
theorem co_X2_tell : Cond.code yX2_tell cX2_tell 4 none ∈ wl := mW (mT1 (List.mem_of_getElem? (i := 107) (by decide +kernel))) rfl
theorem in_X2_tell : Cond.initialized yX2_tell.cls ∈ wl := mW (mT1 (List.mem_of_getElem? (i := 4) (by decide +kernel))) rfl
theorem im_X2_tell : Cond.instanceMethod yX2_tell ∈ wl := mW (mT1 (List.mem_of_getElem? (i := 105) (by decide +kernel))) rfl
theorem se_X2_tell : Cond.selects yX2_tell.cls yX2_tell yX2_tell ∈ wl := mW (mT1 (List.mem_of_getElem? (i := 106) (by decide +kernel))) rfl
theorem lv_X0_73 : LV RX0 73 yX2_tell cX2_tell 4 none 3 2 := ⟨⟨(RX2, TX2, 3), rfl, rfl⟩, yo_X2_tell, mW (mT1 (List.mem_of_getElem? (i := 104) (by decide +kernel))) rfl, im_X2_tell, se_X2_tell, in_X2_tell, co_X2_tell⟩
theorem dX0_clear_0 : decode cX0_clear 0 = .ok (.aload_n 0, 1) := by decide +kernel
theorem dX0_clear_1 : decode cX0_clear 1 = .ok (.iconst 0, 1) := by decide +kernel
theorem dX0_clear_2 : decode cX0_clear 2 = .ok (.putfield 41, 3) := by decide +kernel
theorem dX0_clear_5 : decode cX0_clear 5 = .ok (.aload_n 0, 1) := by decide +kernel
theorem dX0_clear_6 : decode cX0_clear 6 = .ok (.iconst 0, 1) := by decide +kernel
theorem dX0_clear_7 : decode cX0_clear 7 = .ok (.putfield 45, 3) := by decide +kernel
theorem dX0_clear_10 : decode cX0_clear 10 = .ok (.aload_n 0, 1) := by decide +kernel
theorem dX0_clear_11 : decode cX0_clear 11 = .ok (.iconst 0, 1) := by decide +kernel
theorem dX0_clear_12 : decode cX0_clear 12 = .ok (.putfield 48, 3) := by decide +kernel
theorem dX0_clear_15 : decode cX0_clear 15 = .ok (.aload_n 0, 1) := by decide +kernel
theorem dX0_clear_16 : decode cX0_clear 16 = .ok (.iconst 0, 1) := by decide +kernel
theorem dX0_clear_17 : decode cX0_clear 17 = .ok (.putfield 52, 3) := by decide +kernel
theorem dX0_clear_20 : decode cX0_clear 20 = .ok (.aload_n 0, 1) := by decide +kernel
theorem dX0_clear_21 : decode cX0_clear 21 = .ok (.iconst 2, 1) := by decide +kernel
theorem dX0_clear_22 : decode cX0_clear 22 = .ok (.putfield 55, 3) := by decide +kernel
theorem dX0_clear_25 : decode cX0_clear 25 = .ok (.aload_n 0, 1) := by decide +kernel
theorem dX0_clear_26 : decode cX0_clear 26 = .ok (.bipush 8, 2) := by decide +kernel
theorem dX0_clear_28 : decode cX0_clear 28 = .ok (.putfield 58, 3) := by decide +kernel
theorem dX0_clear_31 : decode cX0_clear 31 = .ok (.aload_n 0, 1) := by decide +kernel
theorem dX0_clear_32 : decode cX0_clear 32 = .ok (.iconst 3, 1) := by decide +kernel
theorem dX0_clear_33 : decode cX0_clear 33 = .ok (.putfield 61, 3) := by decide +kernel
theorem dX0_clear_36 : decode cX0_clear 36 = .ok (.aload_n 0, 1) := by decide +kernel
theorem dX0_clear_37 : decode cX0_clear 37 = .ok (.bipush 6, 2) := by decide +kernel
theorem dX0_clear_39 : decode cX0_clear 39 = .ok (.putfield 64, 3) := by decide +kernel
theorem dX0_clear_42 : decode cX0_clear 42 = .ok (.aload_n 0, 1) := by decide +kernel
theorem dX0_clear_43 : decode cX0_clear 43 = .ok (.bipush 20, 2) := by decide +kernel
theorem dX0_clear_45 : decode cX0_clear 45 = .ok (.putfield 67, 3) := by decide +kernel
theorem dX0_clear_48 : decode cX0_clear 48 = .ok (.aload_n 0, 1) := by decide +kernel
theorem dX0_clear_49 : decode cX0_clear 49 = .ok (.iconst 5, 1) := by decide +kernel
theorem dX0_clear_50 : decode cX0_clear 50 = .ok (.putfield 70, 3) := by decide +kernel
theorem dX0_clear_53 : decode cX0_clear 53 = .ok (.iconst 0, 1) := by decide +kernel
theorem dX0_clear_54 : decode cX0_clear 54 = .ok (.istore_n 1, 1) := by decide +kernel
theorem dX0_clear_55 : decode cX0_clear 55 = .ok (.iload_n 1, 1) := by decide +kernel
theorem dX0_clear_56 : decode cX0_clear 56 = .ok (.aload_n 0, 1) := by decide +kernel
theorem dX0_clear_57 : decode cX0_clear 57 = .ok (.getfield 11, 3) := by decide +kernel
theorem dX0_clear_60 : decode cX0_clear 60 = .ok (.arraylength, 1) := by decide +kernel
theorem dX0_clear_61 : decode cX0_clear 61 = .ok (.if_icmp .ge 31, 3) := by decide +kernel
theorem dX0_clear_64 : decode cX0_clear 64 = .ok (.aload_n 0, 1) := by decide +kernel
theorem dX0_clear_65 : decode cX0_clear 65 = .ok (.getfield 11, 3) := by decide +kernel
theorem dX0_clear_68 : decode cX0_clear 68 = .ok (.iload_n 1, 1) := by decide +kernel
theorem dX0_clear_69 : decode cX0_clear 69 = .ok (.aaload, 1) := by decide +kernel
theorem dX0_clear_70 : decode cX0_clear 70 = .ok (.iload_n 1, 1) := by decide +kernel
theorem dX0_clear_71 : decode cX0_clear 71 = .ok (.bipush 24, 2) := by decide +kernel
theorem dX0_clear_73 : decode cX0_clear 73 = .ok (.if_icmp .ge 7, 3) := by decide +kernel
theorem dX0_clear_76 : decode cX0_clear 76 = .ok (.iconst 4, 1) := by decide +kernel
theorem dX0_clear_77 : decode cX0_clear 77 = .ok (.goto 4, 3) := by decide +kernel
theorem dX0_clear_80 : decode cX0_clear 80 = .ok (.iconst 5, 1) := by decide +kernel
theorem dX0_clear_81 : decode cX0_clear 81 = .ok (.iconst (-1), 1) := by decide +kernel
theorem dX0_clear_82 : decode cX0_clear 82 = .ok (.iconst (-1), 1) := by decide +kernel
theorem dX0_clear_83 : decode cX0_clear 83 = .ok (.invokevirtual 73, 3) := by decide +kernel
theorem dX0_clear_86 : decode cX0_clear 86 = .ok (.iinc 1 1, 3) := by decide +kernel
theorem dX0_clear_89 : decode cX0_clear 89 = .ok (.goto (-34), 3) := by decide +kernel
theorem dX0_clear_92 : decode cX0_clear 92 = .ok (.aload_n 0, 1) := by decide +kernel
theorem dX0_clear_93 : decode cX0_clear 93 = .ok (.iconst 0, 1) := by decide +kernel
theorem dX0_clear_94 : decode cX0_clear 94 = .ok (.putfield 77, 3) := by decide +kernel
theorem dX0_clear_97 : decode cX0_clear 97 = .ok (.aload_n 0, 1) := by decide +kernel
theorem dX0_clear_98 : decode cX0_clear 98 = .ok (.iconst 0, 1) := by decide +kernel
theorem dX0_clear_99 : decode cX0_clear 99 = .ok (.putfield 80, 3) := by decide +kernel
theorem dX0_clear_102 : decode cX0_clear 102 = .ok (.return_, 1) := by decide +kernel
def rmX0_clear : Room := { frames := 1, cells := 0, slots := 0, locals := 23 }
set_option maxRecDepth 100000 in
def fX0_clear_J81 (N : Nat) (g : Gs) (x0 : Nat) (K55 : Int32 × Ds → Option (Unit × Ds)) (y1 : Int32) (z0 : Int32) (z1 : Nat) (d : Ds) : Option (Unit × Ds) := gd (chk g z1 2) <| cv (fX2_tell N g z1 z0 (-1) (-1) d) fun d22 => (bd (y1 + 1) fun u24 => (K55 (u24, d22)))
set_option maxHeartbeats 4000000 in
set_option maxRecDepth 100000 in
theorem tX0_clear_81 {p : Program} {l : Launch} {e : Env} {s : State} {m : MethodId} {args : Array Value} {below : List Frame} {meth : Method} {c : Code} {D : va_G} {cy : Nat → ClassId} {B : Bs} (C : Cx p s m args c cX0_clear 2 RX0 D cy B) (hr : meth.sig.returnType = none) (hlocks : meth.locks = false) {N : Nat} {g : Gs} {x0 : Nat}  {dz : Ds} {K55 : Int32 × Ds → Option (Unit × Ds)} (hK55 : ∀ a, K55 a = some ((), dz) → WB p l e rmX0_clear s m args below meth c 2 D cy B 0 0 (MQ below (QV D cy B g dz) args s 0 0 (wA B)) g a.2 [(0, .ref (ad B x0)), (1, .int a.1)] 55 []) {y1 : Int32} {z0 : Int32} {z1 : Nat} {d : Ds} (hf : fX0_clear_J81 N g x0 K55 y1 z0 z1 d = some ((), dz)) : WB p l e rmX0_clear s m args below meth c 2 D cy B 0 0 (MQ below (QV D cy B g dz) args s 0 0 (wA B)) g d [(0, .ref (ad B x0)), (1, .int y1)] 81 [.int z0, .ref (ad B z1)] := by
  unfold fX0_clear_J81 at hf
  refine b_iconst C (v := (-1)) dX0_clear_81 (by decide) ?_
  refine b_iconst C (v := (-1)) dX0_clear_82 (by decide) ?_
  obtain ⟨h21, hf⟩ := gd_s hf
  obtain ⟨d22, k23, hf⟩ := cv_s hf
  refine b_cVN C [] dX0_clear_83 (kX2_tell l D cy B k23) lv_X0_73 ⟨rfl, rfl, Nat.le_of_ble_eq_true rfl, Nat.le_of_ble_eq_true rfl⟩ h21 (by decide) rfl (Nat.le_of_ble_eq_true rfl) ⟨Nat.zero_le _, Nat.zero_le _⟩ rfl ?_
  obtain ⟨u24, eu24, hf⟩ := bd_s hf
  refine b_iinc C dX0_clear_86 1 rfl (by rw [eu24]; rfl) [(1, .int u24), (0, .ref (ad B x0))] (by decide) rfl ?_
  refine b_goto C (tgt := 55) dX0_clear_89 (by decide) ?_
  refine b_sub [(0, .ref (ad B x0)), (1, .int u24)] [1, 0] rfl ?_
  exact hK55 (u24, d22) hf
set_option maxRecDepth 100000 in
def fX0_clear_B55 (N : Nat) (g : Gs) (x0 : Nat) (K55 : Int32 × Ds → Option (Unit × Ds)) (y1 : Int32) (d : Ds) : Option (Unit × Ds) := gd (chk g x0 0) <| ob (gR g x0 10) fun r13 => (gd (chk g r13 105) <| if (Int32.ofNat (gL g r13)) ≤ y1 then (bd (sI d x0 12 0) fun d16 => (bd (sI d16 x0 16 0) fun d17 => (some ((), d17)))) else (gd (¬ (y1 < 0 ∨ gL g r13 ≤ y1.toNatClampNeg)) <| ob (gR g r13 y1.toNatClampNeg) fun r19 => (if (24 : Int32) ≤ y1 then (fX0_clear_J81 N g x0 K55 y1 5 r19 d) else (fX0_clear_J81 N g x0 K55 y1 4 r19 d))))
set_option maxHeartbeats 4000000 in
set_option maxRecDepth 100000 in
theorem tX0_clear_55 {p : Program} {l : Launch} {e : Env} {s : State} {m : MethodId} {args : Array Value} {below : List Frame} {meth : Method} {c : Code} {D : va_G} {cy : Nat → ClassId} {B : Bs} (C : Cx p s m args c cX0_clear 2 RX0 D cy B) (hr : meth.sig.returnType = none) (hlocks : meth.locks = false) {N : Nat} {g : Gs} {x0 : Nat}  {dz : Ds} {K55 : Int32 × Ds → Option (Unit × Ds)} (hK55 : ∀ a, K55 a = some ((), dz) → WB p l e rmX0_clear s m args below meth c 2 D cy B 0 0 (MQ below (QV D cy B g dz) args s 0 0 (wA B)) g a.2 [(0, .ref (ad B x0)), (1, .int a.1)] 55 []) {y1 : Int32} {d : Ds} (hf : fX0_clear_B55 N g x0 K55 y1 d = some ((), dz)) : WB p l e rmX0_clear s m args below meth c 2 D cy B 0 0 (MQ below (QV D cy B g dz) args s 0 0 (wA B)) g d [(0, .ref (ad B x0)), (1, .int y1)] 55 [] := by
  unfold fX0_clear_B55 at hf
  refine b_iload_n C dX0_clear_55 1 rfl rfl ?_
  refine b_aload_n C dX0_clear_56 0 rfl rfl ?_
  obtain ⟨h12, hf⟩ := gd_s hf
  obtain ⟨r13, er13, hf⟩ := ob_s hf
  refine b_gR C dX0_clear_57 fl_X0_11 h12 er13 ?_
  obtain ⟨h14, hf⟩ := gd_s hf
  refine b_alen C (t := 5) h14 (by decide) dX0_clear_60 ?_
  refine b_icmp_ge C (tgt := 92) dX0_clear_61 (by decide) (fun c15 => ?_) (fun c15 => ?_)
  · have hf := it_s c15 hf
    refine b_aload_n C dX0_clear_92 0 rfl rfl ?_
    refine b_iconst C (v := 0) dX0_clear_93 (by decide) ?_
    obtain ⟨d16, ed16, hf⟩ := bd_s hf
    refine b_pI C dX0_clear_94 fl_X0_77 fp0_12 h12 ed16 ?_
    refine b_aload_n C dX0_clear_97 0 rfl rfl ?_
    refine b_iconst C (v := 0) dX0_clear_98 (by decide) ?_
    obtain ⟨d17, ed17, hf⟩ := bd_s hf
    refine b_pI C dX0_clear_99 fl_X0_80 fp0_16 h12 ed17 ?_
    exact b_vret C hr hlocks hf dX0_clear_102
  · have hf := if_s c15 hf
    refine b_aload_n C dX0_clear_64 0 rfl rfl ?_
    refine b_gR C dX0_clear_65 fl_X0_11 h12 er13 ?_
    refine b_iload_n C dX0_clear_68 1 rfl rfl ?_
    obtain ⟨h18, hf⟩ := gd_s hf
    obtain ⟨r19, er19, hf⟩ := ob_s hf
    refine b_aaldD C (by exact h14) h18 er19 dX0_clear_69 ?_
    refine b_iload_n C dX0_clear_70 1 rfl rfl ?_
    refine b_bipush C (v := 24) dX0_clear_71 (by decide) ?_
    refine b_icmp_ge C (tgt := 80) dX0_clear_73 (by decide) (fun c20 => ?_) (fun c20 => ?_)
    · have hf := it_s c20 hf
      refine b_iconst C (v := 5) dX0_clear_80 (by decide) ?_
      refine b_sub [(0, .ref (ad B x0)), (1, .int y1)] [0, 1] rfl ?_
      exact tX0_clear_81 C hr hlocks hK55 hf
    · have hf := if_s c20 hf
      refine b_iconst C (v := 4) dX0_clear_76 (by decide) ?_
      refine b_goto C (tgt := 81) dX0_clear_77 (by decide) ?_
      refine b_sub [(0, .ref (ad B x0)), (1, .int y1)] [0, 1] rfl ?_
      exact tX0_clear_81 C hr hlocks hK55 hf
def fX0_clear_L55 (N : Nat) (g : Gs) (x0 : Nat) : Int32 × Ds → Option (Unit × Ds) := lp (fun K55 a => fX0_clear_B55 N g x0 K55 a.1 a.2) N
theorem tX0_clear_L55 {p : Program} {l : Launch} {e : Env} {s : State} {m : MethodId} {args : Array Value} {below : List Frame} {meth : Method} {c : Code} {D : va_G} {cy : Nat → ClassId} {B : Bs} (C : Cx p s m args c cX0_clear 2 RX0 D cy B) (hr : meth.sig.returnType = none) (hlocks : meth.locks = false) {N : Nat} {g : Gs} {x0 : Nat}  {dz : Ds} (a : Int32 × Ds) (hf : fX0_clear_L55 N g x0 a = some ((), dz)) : WB p l e rmX0_clear s m args below meth c 2 D cy B 0 0 (MQ below (QV D cy B g dz) args s 0 0 (wA B)) g a.2 [(0, .ref (ad B x0)), (1, .int a.1)] 55 [] :=
  lp_w (fun K55 hK55 a ha => tX0_clear_55 C hr hlocks hK55 ha) N a hf
set_option maxRecDepth 100000 in
def fX0_clear (N : Nat) (g : Gs) (x0 : Nat) (d : Ds) : Option (Unit × Ds) := gd (chk g x0 0) <| bd (sI d x0 0 0) fun d2 => (bd (sI d2 x0 1 0) fun d3 => (bd (sI d3 x0 2 0) fun d4 => (bd (sI d4 x0 3 0) fun d5 => (bd (sI d5 x0 4 2) fun d6 => (bd (sI d6 x0 5 8) fun d7 => (bd (sI d7 x0 6 3) fun d8 => (bd (sI d8 x0 7 6) fun d9 => (bd (sI d9 x0 8 20) fun d10 => (bd (sI d10 x0 9 5) fun d11 => (fX0_clear_L55 N g x0 (0, d11)))))))))))
set_option maxHeartbeats 4000000 in
set_option maxRecDepth 100000 in
theorem tX0_clear_E {p : Program} {l : Launch} {e : Env} {s : State} {m : MethodId} {args : Array Value} {below : List Frame} {meth : Method} {c : Code} {D : va_G} {cy : Nat → ClassId} {B : Bs} (C : Cx p s m args c cX0_clear 2 RX0 D cy B) (hr : meth.sig.returnType = none) (hlocks : meth.locks = false) {N : Nat} {g : Gs} {x0 : Nat}  {dz : Ds} {d : Ds} (hf : fX0_clear N g x0 d = some ((), dz)) : WB p l e rmX0_clear s m args below meth c 2 D cy B 0 0 (MQ below (QV D cy B g dz) args s 0 0 (wA B)) g d [(0, .ref (ad B x0))] 0 [] := by
  unfold fX0_clear at hf
  refine b_aload_n C dX0_clear_0 0 rfl rfl ?_
  refine b_iconst C (v := 0) dX0_clear_1 (by decide) ?_
  obtain ⟨h1, hf⟩ := gd_s hf
  obtain ⟨d2, ed2, hf⟩ := bd_s hf
  refine b_pI C dX0_clear_2 fl_X0_41 fp0_0 h1 ed2 ?_
  refine b_aload_n C dX0_clear_5 0 rfl rfl ?_
  refine b_iconst C (v := 0) dX0_clear_6 (by decide) ?_
  obtain ⟨d3, ed3, hf⟩ := bd_s hf
  refine b_pI C dX0_clear_7 fl_X0_45 fp0_1 h1 ed3 ?_
  refine b_aload_n C dX0_clear_10 0 rfl rfl ?_
  refine b_iconst C (v := 0) dX0_clear_11 (by decide) ?_
  obtain ⟨d4, ed4, hf⟩ := bd_s hf
  refine b_pZ C dX0_clear_12 fl_X0_48 fp0_2 (by decide) h1 ed4 ?_
  refine b_aload_n C dX0_clear_15 0 rfl rfl ?_
  refine b_iconst C (v := 0) dX0_clear_16 (by decide) ?_
  obtain ⟨d5, ed5, hf⟩ := bd_s hf
  refine b_pZ C dX0_clear_17 fl_X0_52 fp0_3 (by decide) h1 ed5 ?_
  refine b_aload_n C dX0_clear_20 0 rfl rfl ?_
  refine b_iconst C (v := 2) dX0_clear_21 (by decide) ?_
  obtain ⟨d6, ed6, hf⟩ := bd_s hf
  refine b_pI C dX0_clear_22 fl_X0_55 fp0_4 h1 ed6 ?_
  refine b_aload_n C dX0_clear_25 0 rfl rfl ?_
  refine b_bipush C (v := 8) dX0_clear_26 (by decide) ?_
  obtain ⟨d7, ed7, hf⟩ := bd_s hf
  refine b_pI C dX0_clear_28 fl_X0_58 fp0_5 h1 ed7 ?_
  refine b_aload_n C dX0_clear_31 0 rfl rfl ?_
  refine b_iconst C (v := 3) dX0_clear_32 (by decide) ?_
  obtain ⟨d8, ed8, hf⟩ := bd_s hf
  refine b_pI C dX0_clear_33 fl_X0_61 fp0_6 h1 ed8 ?_
  refine b_aload_n C dX0_clear_36 0 rfl rfl ?_
  refine b_bipush C (v := 6) dX0_clear_37 (by decide) ?_
  obtain ⟨d9, ed9, hf⟩ := bd_s hf
  refine b_pI C dX0_clear_39 fl_X0_64 fp0_7 h1 ed9 ?_
  refine b_aload_n C dX0_clear_42 0 rfl rfl ?_
  refine b_bipush C (v := 20) dX0_clear_43 (by decide) ?_
  obtain ⟨d10, ed10, hf⟩ := bd_s hf
  refine b_pI C dX0_clear_45 fl_X0_67 fp0_8 h1 ed10 ?_
  refine b_aload_n C dX0_clear_48 0 rfl rfl ?_
  refine b_iconst C (v := 5) dX0_clear_49 (by decide) ?_
  obtain ⟨d11, ed11, hf⟩ := bd_s hf
  refine b_pI C dX0_clear_50 fl_X0_70 fp0_9 h1 ed11 ?_
  refine b_iconst C (v := 0) dX0_clear_53 (by decide) ?_
  refine b_istore_n C dX0_clear_54 rfl [(1, .int 0), (0, .ref (ad B x0))] (by decide) rfl ?_
  refine b_sub [(0, .ref (ad B x0)), (1, .int 0)] [1, 0] rfl ?_
  exact tX0_clear_L55 C hr hlocks (0, d11) hf
theorem kX0_clear (l : Launch) (D : va_G) (cy : Nat → ClassId) (B : Bs) {N : Nat} {g : Gs} {x0 : Nat}  {dz : Ds} {d : Ds} (hf : fX0_clear N g x0 d = some ((), dz)) : Met l yX0_clear (.code yX0_clear cX0_clear 2 none :: wl) rmX0_clear (PC D cy B [.ref (ad B x0)] g d) (QV D cy B g dz) 0 0 (wA B) :=
  met_of (by decide +kernel) (Nat.le_of_ble_eq_true rfl) (fun p e s m args below meth c C hr hlocks _ => b_sub [(0, .ref (ad B x0))] [0] rfl (tX0_clear_E C hr hlocks hf))
/-! KeyMatrix$Board.<init>()V -/
theorem oi_X0_3 : Cond.methodLink RX0 3 objectInit ∈ wl := mW (mT1 (List.mem_of_getElem? (i := 96) (by decide +kernel))) rfl
theorem cw_X0_9 : Cond.classLink RX0 9 "KeyMatrix$Deed" ∈ wl := mW (mT1 (List.mem_of_getElem? (i := 97) (by decide +kernel))) rfl
theorem fq_X0_11 : FLP RX0 11 0 10 := ⟨⟨RX0, TX0, 19, rfl, by decide, inl0, mW (mT1 (List.mem_of_getElem? (i := 148) (by decide +kernel))) rfl⟩, by decide, by decide +kernel⟩
theorem fr0_10 : FPR 0 10 RX0 := ⟨ft0, (RX0, TX0, 19), rfl, by decide +kernel, rfl, fun ty h a => by rw [tyX0_ok 10 (by decide)] at h; cases h; exact ⟨rfl, rfl⟩⟩
theorem df2 : ∀ j, j < 3 → defaultValue (tyX2 j) = if fR 2 j then .null else .int 0 := by
  intro j hj
  rcases (show j = 0 ∨ j = 1 ∨ j = 2 by omega) with rfl | rfl | rfl
  · rw [show fR 2 0 = false by decide +kernel]; rfl
  · rw [show fR 2 1 = false by decide +kernel]; rfl
  · rw [show fR 2 2 = false by decide +kernel]; rfl
theorem ic2 : Cond.instantiable RX2 3 ∈ wl := mW (mT1 (List.mem_of_getElem? (i := 66) (by decide +kernel))) rfl
theorem ii2 : Cond.initialized RX2 ∈ wl := mW (mT1 (List.mem_of_getElem? (i := 4) (by decide +kernel))) rfl
theorem nw_X0_9 : FNW RX0 9 2 3 := ⟨RX2, TX2, tyX2, rfl, by decide, inl2, tyX2_ok, mW (mT1 (List.mem_of_getElem? (i := 97) (by decide +kernel))) rfl, ic2, ii2, df2⟩
theorem yo_X2_init : yX2_init.cls ≠ "java/lang/invoke/MethodHandle" ∧ yX2_init.cls ≠ "java/lang/invoke/VarHandle" ∧ (parseMethodDescriptor yX2_init.desc).map (fun d => d.parameters.length) = some 0 := by decide +kernel
theorem co_X2_init : Cond.code yX2_init cX2_init 1 none ∈ wl := mW (mT1 (List.mem_of_getElem? (i := 69) (by decide +kernel))) rfl
theorem in_X2_init : Cond.initialized yX2_init.cls ∈ wl := mW (mT1 (List.mem_of_getElem? (i := 4) (by decide +kernel))) rfl
theorem im_X2_init : Cond.instanceMethod yX2_init ∈ wl := mW (mT1 (List.mem_of_getElem? (i := 68) (by decide +kernel))) rfl
theorem lv_X0_17 : LCo RX0 17 yX2_init cX2_init 1 0 := ⟨rfl, yo_X2_init, Or.inr (mT1 (List.mem_of_getElem? (i := 99) (by decide +kernel))), im_X2_init, in_X2_init, co_X2_init⟩
theorem fq_X0_18 : FLP RX0 18 0 11 := ⟨⟨RX0, TX0, 19, rfl, by decide, inl0, mW (mT1 (List.mem_of_getElem? (i := 149) (by decide +kernel))) rfl⟩, by decide, by decide +kernel⟩
theorem fr0_11 : FPR 0 11 RX0 := ⟨ft0, (RX0, TX0, 19), rfl, by decide +kernel, rfl, fun ty h a => by rw [tyX0_ok 11 (by decide)] at h; cases h; exact ⟨rfl, rfl⟩⟩
theorem ar_int : Cond.arrayClass (newarray.typeOf .int) ∈ wl := mW (mT1 (List.mem_of_getElem? (i := 64) (by decide +kernel))) rfl
theorem fq_X0_22 : FLP RX0 22 0 13 := ⟨⟨RX0, TX0, 19, rfl, by decide, inl0, mW (mT1 (List.mem_of_getElem? (i := 153) (by decide +kernel))) rfl⟩, by decide, by decide +kernel⟩
theorem fr0_13 : FPR 0 13 RX0 := ⟨ft0, (RX0, TX0, 19), rfl, by decide +kernel, rfl, fun ty h a => by rw [tyX0_ok 13 (by decide)] at h; cases h; exact ⟨rfl, rfl⟩⟩
theorem fq_X0_26 : FLP RX0 26 0 14 := ⟨⟨RX0, TX0, 19, rfl, by decide, inl0, mW (mT1 (List.mem_of_getElem? (i := 156) (by decide +kernel))) rfl⟩, by decide, by decide +kernel⟩
theorem fr0_14 : FPR 0 14 RX0 := ⟨ft0, (RX0, TX0, 19), rfl, by decide +kernel, rfl, fun ty h a => by rw [tyX0_ok 14 (by decide)] at h; cases h; exact ⟨rfl, rfl⟩⟩
theorem fq_X0_29 : FLP RX0 29 0 15 := ⟨⟨RX0, TX0, 19, rfl, by decide, inl0, mW (mT1 (List.mem_of_getElem? (i := 159) (by decide +kernel))) rfl⟩, by decide, by decide +kernel⟩
theorem fr0_15 : FPR 0 15 RX0 := ⟨ft0, (RX0, TX0, 19), rfl, by decide +kernel, rfl, fun ty h a => by rw [tyX0_ok 15 (by decide)] at h; cases h; exact ⟨rfl, rfl⟩⟩
theorem fq_X0_32 : FLP RX0 32 0 17 := ⟨⟨RX0, TX0, 19, rfl, by decide, inl0, mW (mT1 (List.mem_of_getElem? (i := 163) (by decide +kernel))) rfl⟩, by decide, by decide +kernel⟩
theorem fr0_17 : FPR 0 17 RX0 := ⟨ft0, (RX0, TX0, 19), rfl, by decide +kernel, rfl, fun ty h a => by rw [tyX0_ok 17 (by decide)] at h; cases h; exact ⟨rfl, rfl⟩⟩
theorem fq_X0_35 : FLP RX0 35 0 18 := ⟨⟨RX0, TX0, 19, rfl, by decide, inl0, mW (mT1 (List.mem_of_getElem? (i := 165) (by decide +kernel))) rfl⟩, by decide, by decide +kernel⟩
theorem fr0_18 : FPR 0 18 RX0 := ⟨ft0, (RX0, TX0, 19), rfl, by decide +kernel, rfl, fun ty h a => by rw [tyX0_ok 18 (by decide)] at h; cases h; exact ⟨rfl, rfl⟩⟩
theorem yo_X0_clear : yX0_clear.cls ≠ "java/lang/invoke/MethodHandle" ∧ yX0_clear.cls ≠ "java/lang/invoke/VarHandle" ∧ (parseMethodDescriptor yX0_clear.desc).map (fun d => d.parameters.length) = some 0 := by decide +kernel
theorem co_X0_clear : Cond.code yX0_clear cX0_clear 2 none ∈ wl := mW (mT1 (List.mem_of_getElem? (i := 103) (by decide +kernel))) rfl
theorem in_X0_clear : Cond.initialized yX0_clear.cls ∈ wl := mW (mT1 (List.mem_of_getElem? (i := 5) (by decide +kernel))) rfl
theorem im_X0_clear : Cond.instanceMethod yX0_clear ∈ wl := mW (mT1 (List.mem_of_getElem? (i := 101) (by decide +kernel))) rfl
theorem se_X0_clear : Cond.selects yX0_clear.cls yX0_clear yX0_clear ∈ wl := mW (mT1 (List.mem_of_getElem? (i := 102) (by decide +kernel))) rfl
theorem lv_X0_38 : LV RX0 38 yX0_clear cX0_clear 2 none 0 0 := ⟨⟨(RX0, TX0, 19), rfl, rfl⟩, yo_X0_clear, mW (mT1 (List.mem_of_getElem? (i := 100) (by decide +kernel))) rfl, im_X0_clear, se_X0_clear, in_X0_clear, co_X0_clear⟩
theorem fl_X0_29 : FLR RX0 29 0 15 := ⟨⟨RX0, TX0, 19, rfl, by decide, inl0, Or.inl (mW (mT1 (List.mem_of_getElem? (i := 159) (by decide +kernel))) rfl)⟩, by decide, by decide +kernel⟩
theorem dX0_init_0 : decode cX0_init 0 = .ok (.aload_n 0, 1) := by decide +kernel
theorem dX0_init_1 : decode cX0_init 1 = .ok (.invokespecial 3, 3) := by decide +kernel
theorem dX0_init_4 : decode cX0_init 4 = .ok (.aload_n 0, 1) := by decide +kernel
theorem dX0_init_5 : decode cX0_init 5 = .ok (.bipush 96, 2) := by decide +kernel
theorem dX0_init_7 : decode cX0_init 7 = .ok (.anewarray 9, 3) := by decide +kernel
theorem dX0_init_10 : decode cX0_init 10 = .ok (.putfield 11, 3) := by decide +kernel
theorem dX0_init_13 : decode cX0_init 13 = .ok (.aload_n 0, 1) := by decide +kernel
theorem dX0_init_14 : decode cX0_init 14 = .ok (.new 9, 3) := by decide +kernel
theorem dX0_init_17 : decode cX0_init 17 = .ok (.dup, 1) := by decide +kernel
theorem dX0_init_18 : decode cX0_init 18 = .ok (.invokespecial 17, 3) := by decide +kernel
theorem dX0_init_21 : decode cX0_init 21 = .ok (.putfield 18, 3) := by decide +kernel
theorem dX0_init_24 : decode cX0_init 24 = .ok (.aload_n 0, 1) := by decide +kernel
theorem dX0_init_25 : decode cX0_init 25 = .ok (.iconst 4, 1) := by decide +kernel
theorem dX0_init_26 : decode cX0_init 26 = .ok (.newarray .int, 2) := by decide +kernel
theorem dX0_init_28 : decode cX0_init 28 = .ok (.putfield 22, 3) := by decide +kernel
theorem dX0_init_31 : decode cX0_init 31 = .ok (.aload_n 0, 1) := by decide +kernel
theorem dX0_init_32 : decode cX0_init 32 = .ok (.iconst 4, 1) := by decide +kernel
theorem dX0_init_33 : decode cX0_init 33 = .ok (.newarray .int, 2) := by decide +kernel
theorem dX0_init_35 : decode cX0_init 35 = .ok (.putfield 26, 3) := by decide +kernel
theorem dX0_init_38 : decode cX0_init 38 = .ok (.aload_n 0, 1) := by decide +kernel
theorem dX0_init_39 : decode cX0_init 39 = .ok (.iconst 4, 1) := by decide +kernel
theorem dX0_init_40 : decode cX0_init 40 = .ok (.anewarray 9, 3) := by decide +kernel
theorem dX0_init_43 : decode cX0_init 43 = .ok (.putfield 29, 3) := by decide +kernel
theorem dX0_init_46 : decode cX0_init 46 = .ok (.aload_n 0, 1) := by decide +kernel
theorem dX0_init_47 : decode cX0_init 47 = .ok (.iconst 4, 1) := by decide +kernel
theorem dX0_init_48 : decode cX0_init 48 = .ok (.newarray .int, 2) := by decide +kernel
theorem dX0_init_50 : decode cX0_init 50 = .ok (.putfield 32, 3) := by decide +kernel
theorem dX0_init_53 : decode cX0_init 53 = .ok (.aload_n 0, 1) := by decide +kernel
theorem dX0_init_54 : decode cX0_init 54 = .ok (.bipush 32, 2) := by decide +kernel
theorem dX0_init_56 : decode cX0_init 56 = .ok (.newarray .int, 2) := by decide +kernel
theorem dX0_init_58 : decode cX0_init 58 = .ok (.putfield 35, 3) := by decide +kernel
theorem dX0_init_61 : decode cX0_init 61 = .ok (.iconst 0, 1) := by decide +kernel
theorem dX0_init_62 : decode cX0_init 62 = .ok (.istore_n 1, 1) := by decide +kernel
theorem dX0_init_63 : decode cX0_init 63 = .ok (.iload_n 1, 1) := by decide +kernel
theorem dX0_init_64 : decode cX0_init 64 = .ok (.aload_n 0, 1) := by decide +kernel
theorem dX0_init_65 : decode cX0_init 65 = .ok (.getfield 11, 3) := by decide +kernel
theorem dX0_init_68 : decode cX0_init 68 = .ok (.arraylength, 1) := by decide +kernel
theorem dX0_init_69 : decode cX0_init 69 = .ok (.if_icmp .ge 22, 3) := by decide +kernel
theorem dX0_init_72 : decode cX0_init 72 = .ok (.aload_n 0, 1) := by decide +kernel
theorem dX0_init_73 : decode cX0_init 73 = .ok (.getfield 11, 3) := by decide +kernel
theorem dX0_init_76 : decode cX0_init 76 = .ok (.iload_n 1, 1) := by decide +kernel
theorem dX0_init_77 : decode cX0_init 77 = .ok (.new 9, 3) := by decide +kernel
theorem dX0_init_80 : decode cX0_init 80 = .ok (.dup, 1) := by decide +kernel
theorem dX0_init_81 : decode cX0_init 81 = .ok (.invokespecial 17, 3) := by decide +kernel
theorem dX0_init_84 : decode cX0_init 84 = .ok (.aastore, 1) := by decide +kernel
theorem dX0_init_85 : decode cX0_init 85 = .ok (.iinc 1 1, 3) := by decide +kernel
theorem dX0_init_88 : decode cX0_init 88 = .ok (.goto (-25), 3) := by decide +kernel
theorem dX0_init_91 : decode cX0_init 91 = .ok (.iconst 0, 1) := by decide +kernel
theorem dX0_init_92 : decode cX0_init 92 = .ok (.istore_n 1, 1) := by decide +kernel
theorem dX0_init_93 : decode cX0_init 93 = .ok (.iload_n 1, 1) := by decide +kernel
theorem dX0_init_94 : decode cX0_init 94 = .ok (.iconst 4, 1) := by decide +kernel
theorem dX0_init_95 : decode cX0_init 95 = .ok (.if_icmp .ge 22, 3) := by decide +kernel
theorem dX0_init_98 : decode cX0_init 98 = .ok (.aload_n 0, 1) := by decide +kernel
theorem dX0_init_99 : decode cX0_init 99 = .ok (.getfield 29, 3) := by decide +kernel
theorem dX0_init_102 : decode cX0_init 102 = .ok (.iload_n 1, 1) := by decide +kernel
theorem dX0_init_103 : decode cX0_init 103 = .ok (.new 9, 3) := by decide +kernel
theorem dX0_init_106 : decode cX0_init 106 = .ok (.dup, 1) := by decide +kernel
theorem dX0_init_107 : decode cX0_init 107 = .ok (.invokespecial 17, 3) := by decide +kernel
theorem dX0_init_110 : decode cX0_init 110 = .ok (.aastore, 1) := by decide +kernel
theorem dX0_init_111 : decode cX0_init 111 = .ok (.iinc 1 1, 3) := by decide +kernel
theorem dX0_init_114 : decode cX0_init 114 = .ok (.goto (-21), 3) := by decide +kernel
theorem dX0_init_117 : decode cX0_init 117 = .ok (.aload_n 0, 1) := by decide +kernel
theorem dX0_init_118 : decode cX0_init 118 = .ok (.invokevirtual 38, 3) := by decide +kernel
theorem dX0_init_121 : decode cX0_init 121 = .ok (.return_, 1) := by decide +kernel
def rmX0_init : Room := { frames := 2, cells := 107, slots := 447, locals := 44 }
set_option maxRecDepth 100000 in
def fX0_init_B93 (N : Nat)  (x0 : Nat) (n0 s0 : Nat) (K93 : Int32 × Gs × Ds → Option (Gs × Ds)) (y1 : Int32) (g : Gs) (d : Ds) : Option (Gs × Ds) := if (4 : Int32) ≤ y1 then (gd (chk g x0 0) <| gd (gN g - n0 ≤ 107 ∧ gS g - s0 ≤ 447) <| cv (fX0_clear N g x0 d) fun d84 => (gd (gN g = n0 + 107 ∧ gS g = s0 + 447) <| some (g, d84))) else (gd (chk g x0 0) <| ob (gR g x0 15) fun r88 => (gd (gN g < 100000) <| gd (gN g + 1 - n0 ≤ 107 ∧ gS g + 3 - s0 ≤ 447) <| bd (nG g 2 0 3) fun g91 => (bd (nD g d) fun d92 => (bd (gN g) fun r93 => (gd (0 < gN g91) <| cb (fX2_init N r93 g91 d92) fun g96 d97 => (gd (gN g96 = gN g91 + 0 ∧ gS g96 = gS g91 + 0) <| gd (gN g96 - n0 ≤ 107 ∧ gS g96 - s0 ≤ 447) <| gd (chk g96 r88 105) <| gd (chk g96 r93 2) <| gd (¬ (y1 < 0 ∨ gL g96 r88 ≤ y1.toNatClampNeg)) <| bd (sR g96 r88 y1.toNatClampNeg r93) fun g105 => (bd (y1 + 1) fun u107 => (K93 (u107, g105, d97)))))))))
set_option maxHeartbeats 4000000 in
set_option maxRecDepth 100000 in
theorem tX0_init_93 {p : Program} {l : Launch} {e : Env} {s : State} {m : MethodId} {args : Array Value} {below : List Frame} {meth : Method} {c : Code} {D : va_G} {cy : Nat → ClassId} {B : Bs} (C : Cx p s m args c cX0_init 2 RX0 D cy B) (hr : meth.sig.returnType = none) (hlocks : meth.locks = false) (hin : meth.name = "<init>") {n0 s0 : Nat} (hz : s.heap.size = B.1 + n0) {N : Nat} {x0 : Nat} {gz : Gs} {dz : Ds} {K93 : Int32 × Gs × Ds → Option (Gs × Ds)} (hK93 : ∀ a, K93 a = some (gz, dz) → n0 ≤ gN a.2.1 → s0 ≤ gS a.2.1 → WB p l e rmX0_init s m args below meth c 2 D cy B (gN a.2.1 - n0) (gS a.2.1 - s0) (MQ below (QV D cy B gz dz) args s 107 447 (wA B)) a.2.1 a.2.2 [(0, .ref (ad B x0)), (1, .int a.1)] 93 []) {y1 : Int32} {g : Gs} {d : Ds} (hn : n0 ≤ gN g) (hs : s0 ≤ gS g) (hf : fX0_init_B93 N x0 n0 s0 K93 y1 g d = some (gz, dz)) : WB p l e rmX0_init s m args below meth c 2 D cy B (gN g - n0) (gS g - s0) (MQ below (QV D cy B gz dz) args s 107 447 (wA B)) g d [(0, .ref (ad B x0)), (1, .int y1)] 93 [] := by
  unfold fX0_init_B93 at hf
  refine b_iload_n C dX0_init_93 1 rfl rfl ?_
  refine b_iconst C (v := 4) dX0_init_94 (by decide) ?_
  refine b_icmp_ge C (tgt := 117) dX0_init_95 (by decide) (fun c81 => ?_) (fun c81 => ?_)
  · have hf := it_s c81 hf
    refine b_aload_n C dX0_init_117 0 rfl rfl ?_
    obtain ⟨h82, hf⟩ := gd_s hf
    obtain ⟨h83, hf⟩ := gd_s hf
    obtain ⟨d84, k85, hf⟩ := cv_s hf
    refine b_cVN C [] dX0_init_118 (kX0_clear l D cy B k85) lv_X0_38 ⟨rfl, rfl, Nat.le_of_ble_eq_true rfl, Nat.le_of_ble_eq_true rfl⟩ h82 (by decide) rfl (Nat.le_of_ble_eq_true rfl) h83 rfl ?_
    obtain ⟨h86, hf⟩ := gd_s hf
    exact b_vretC C hr hlocks h86 hf dX0_init_121
  · have hf := if_s c81 hf
    refine b_aload_n C dX0_init_98 0 rfl rfl ?_
    obtain ⟨h87, hf⟩ := gd_s hf
    obtain ⟨r88, er88, hf⟩ := ob_s hf
    refine b_gR C dX0_init_99 fl_X0_29 h87 er88 ?_
    refine b_iload_n C dX0_init_102 1 rfl rfl ?_
    obtain ⟨h89, hf⟩ := gd_s hf
    obtain ⟨h90, hf⟩ := gd_s hf
    obtain ⟨g91, eg91, hf⟩ := bd_s hf
    obtain ⟨d92, ed92, hf⟩ := bd_s hf
    obtain ⟨r93, er93, hf⟩ := bd_s hf
    refine b_new C dX0_init_103 nw_X0_9 hz hn hs h89 h90 eg91 ed92 (fun hn94 hn94s => ?_)
    refine b_topR er93 ?_
    refine b_dup C dX0_init_106 rfl ?_
    obtain ⟨h95, hf⟩ := gd_s hf
    obtain ⟨g96, d97, k98, hf⟩ := cb_s hf
    obtain ⟨h100, hf⟩ := gd_s hf
    obtain ⟨h101, hf⟩ := gd_s hf
    refine b_callC C [.ref (ad B r93), .int y1, .ref (ad B r88)] dX0_init_107 (kX2_init l D cy B k98) lv_X0_17 ⟨rfl, rfl, Nat.le_of_ble_eq_true rfl, Nat.le_of_ble_eq_true rfl⟩ rfl (Nat.le_of_ble_eq_true rfl) hz hn94 hn94s h95 h100 h101 rfl (fun hn99 hn99s => ?_)
    obtain ⟨h102, hf⟩ := gd_s hf
    obtain ⟨h103, hf⟩ := gd_s hf
    obtain ⟨h104, hf⟩ := gd_s hf
    obtain ⟨g105, eg105, hf⟩ := bd_s hf
    refine b_aastDC C dX0_init_110 h102 h103 h104 eg105 ?_
    have hn106 : n0 ≤ gN g105 := by rw [eg105]; exact hn99
    have hn106s : s0 ≤ gS g105 := by rw [eg105]; exact hn99s
    obtain ⟨u107, eu107, hf⟩ := bd_s hf
    refine b_iinc C dX0_init_111 1 rfl (by rw [eu107]; rfl) [(1, .int u107), (0, .ref (ad B x0))] (by decide) rfl ?_
    refine b_goto C (tgt := 93) dX0_init_114 (by decide) ?_
    refine b_sub [(0, .ref (ad B x0)), (1, .int u107)] [1, 0] rfl ?_
    exact hK93 (u107, g105, d97) hf hn106 hn106s
def fX0_init_L93 (N : Nat)  (x0 : Nat) (n0 s0 : Nat) : Int32 × Gs × Ds → Option (Gs × Ds) := lp (fun K93 a => fX0_init_B93 N x0 n0 s0 K93 a.1 a.2.1 a.2.2) N
theorem tX0_init_L93 {p : Program} {l : Launch} {e : Env} {s : State} {m : MethodId} {args : Array Value} {below : List Frame} {meth : Method} {c : Code} {D : va_G} {cy : Nat → ClassId} {B : Bs} (C : Cx p s m args c cX0_init 2 RX0 D cy B) (hr : meth.sig.returnType = none) (hlocks : meth.locks = false) (hin : meth.name = "<init>") {n0 s0 : Nat} (hz : s.heap.size = B.1 + n0) {N : Nat} {x0 : Nat} {gz : Gs} {dz : Ds} (a : Int32 × Gs × Ds) (hn : n0 ≤ gN a.2.1) (hs : s0 ≤ gS a.2.1) (hf : fX0_init_L93 N x0 n0 s0 a = some (gz, dz)) : WB p l e rmX0_init s m args below meth c 2 D cy B (gN a.2.1 - n0) (gS a.2.1 - s0) (MQ below (QV D cy B gz dz) args s 107 447 (wA B)) a.2.1 a.2.2 [(0, .ref (ad B x0)), (1, .int a.1)] 93 [] := by
  unfold fX0_init_L93 at hf
  exact lp_w (G := fun a => n0 ≤ gN a.2.1 → s0 ≤ gS a.2.1 → WB p l e rmX0_init s m args below meth c 2 D cy B (gN a.2.1 - n0) (gS a.2.1 - s0) (MQ below (QV D cy B gz dz) args s 107 447 (wA B)) a.2.1 a.2.2 [(0, .ref (ad B x0)), (1, .int a.1)] 93 []) (fun K93 hK93 a ha hn hs => tX0_init_93 C hr hlocks hin hz hK93 hn hs ha) N a hf hn hs
set_option maxRecDepth 100000 in
def fX0_init_B63 (N : Nat)  (x0 : Nat) (n0 s0 : Nat) (K63 : Int32 × Gs × Ds → Option (Gs × Ds)) (y1 : Int32) (g : Gs) (d : Ds) : Option (Gs × Ds) := gd (chk g x0 0) <| ob (gR g x0 10) fun r78 => (gd (chk g r78 105) <| if (Int32.ofNat (gL g r78)) ≤ y1 then (fX0_init_L93 N x0 n0 s0 (0, g, d)) else (gd (gN g < 100000) <| gd (gN g + 1 - n0 ≤ 107 ∧ gS g + 3 - s0 ≤ 447) <| bd (nG g 2 0 3) fun g110 => (bd (nD g d) fun d111 => (bd (gN g) fun r112 => (gd (0 < gN g110) <| cb (fX2_init N r112 g110 d111) fun g115 d116 => (gd (gN g115 = gN g110 + 0 ∧ gS g115 = gS g110 + 0) <| gd (gN g115 - n0 ≤ 107 ∧ gS g115 - s0 ≤ 447) <| gd (chk g115 r78 105) <| gd (chk g115 r112 2) <| gd (¬ (y1 < 0 ∨ gL g115 r78 ≤ y1.toNatClampNeg)) <| bd (sR g115 r78 y1.toNatClampNeg r112) fun g124 => (bd (y1 + 1) fun u126 => (K63 (u126, g124, d116)))))))))
set_option maxHeartbeats 4000000 in
set_option maxRecDepth 100000 in
theorem tX0_init_63 {p : Program} {l : Launch} {e : Env} {s : State} {m : MethodId} {args : Array Value} {below : List Frame} {meth : Method} {c : Code} {D : va_G} {cy : Nat → ClassId} {B : Bs} (C : Cx p s m args c cX0_init 2 RX0 D cy B) (hr : meth.sig.returnType = none) (hlocks : meth.locks = false) (hin : meth.name = "<init>") {n0 s0 : Nat} (hz : s.heap.size = B.1 + n0) {N : Nat} {x0 : Nat} {gz : Gs} {dz : Ds} {K63 : Int32 × Gs × Ds → Option (Gs × Ds)} (hK63 : ∀ a, K63 a = some (gz, dz) → n0 ≤ gN a.2.1 → s0 ≤ gS a.2.1 → WB p l e rmX0_init s m args below meth c 2 D cy B (gN a.2.1 - n0) (gS a.2.1 - s0) (MQ below (QV D cy B gz dz) args s 107 447 (wA B)) a.2.1 a.2.2 [(0, .ref (ad B x0)), (1, .int a.1)] 63 []) {y1 : Int32} {g : Gs} {d : Ds} (hn : n0 ≤ gN g) (hs : s0 ≤ gS g) (hf : fX0_init_B63 N x0 n0 s0 K63 y1 g d = some (gz, dz)) : WB p l e rmX0_init s m args below meth c 2 D cy B (gN g - n0) (gS g - s0) (MQ below (QV D cy B gz dz) args s 107 447 (wA B)) g d [(0, .ref (ad B x0)), (1, .int y1)] 63 [] := by
  unfold fX0_init_B63 at hf
  refine b_iload_n C dX0_init_63 1 rfl rfl ?_
  refine b_aload_n C dX0_init_64 0 rfl rfl ?_
  obtain ⟨h77, hf⟩ := gd_s hf
  obtain ⟨r78, er78, hf⟩ := ob_s hf
  refine b_gR C dX0_init_65 fl_X0_11 h77 er78 ?_
  obtain ⟨h79, hf⟩ := gd_s hf
  refine b_alen C (t := 5) h79 (by decide) dX0_init_68 ?_
  refine b_icmp_ge C (tgt := 91) dX0_init_69 (by decide) (fun c80 => ?_) (fun c80 => ?_)
  · have hf := it_s c80 hf
    refine b_iconst C (v := 0) dX0_init_91 (by decide) ?_
    refine b_istore_n C dX0_init_92 rfl [(1, .int 0), (0, .ref (ad B x0))] (by decide) rfl ?_
    refine b_sub [(0, .ref (ad B x0)), (1, .int 0)] [1, 0] rfl ?_
    exact tX0_init_L93 C hr hlocks hin hz (0, g, d) hn hs hf
  · have hf := if_s c80 hf
    refine b_aload_n C dX0_init_72 0 rfl rfl ?_
    refine b_gR C dX0_init_73 fl_X0_11 h77 er78 ?_
    refine b_iload_n C dX0_init_76 1 rfl rfl ?_
    obtain ⟨h108, hf⟩ := gd_s hf
    obtain ⟨h109, hf⟩ := gd_s hf
    obtain ⟨g110, eg110, hf⟩ := bd_s hf
    obtain ⟨d111, ed111, hf⟩ := bd_s hf
    obtain ⟨r112, er112, hf⟩ := bd_s hf
    refine b_new C dX0_init_77 nw_X0_9 hz hn hs h108 h109 eg110 ed111 (fun hn113 hn113s => ?_)
    refine b_topR er112 ?_
    refine b_dup C dX0_init_80 rfl ?_
    obtain ⟨h114, hf⟩ := gd_s hf
    obtain ⟨g115, d116, k117, hf⟩ := cb_s hf
    obtain ⟨h119, hf⟩ := gd_s hf
    obtain ⟨h120, hf⟩ := gd_s hf
    refine b_callC C [.ref (ad B r112), .int y1, .ref (ad B r78)] dX0_init_81 (kX2_init l D cy B k117) lv_X0_17 ⟨rfl, rfl, Nat.le_of_ble_eq_true rfl, Nat.le_of_ble_eq_true rfl⟩ rfl (Nat.le_of_ble_eq_true rfl) hz hn113 hn113s h114 h119 h120 rfl (fun hn118 hn118s => ?_)
    obtain ⟨h121, hf⟩ := gd_s hf
    obtain ⟨h122, hf⟩ := gd_s hf
    obtain ⟨h123, hf⟩ := gd_s hf
    obtain ⟨g124, eg124, hf⟩ := bd_s hf
    refine b_aastDC C dX0_init_84 h121 h122 h123 eg124 ?_
    have hn125 : n0 ≤ gN g124 := by rw [eg124]; exact hn118
    have hn125s : s0 ≤ gS g124 := by rw [eg124]; exact hn118s
    obtain ⟨u126, eu126, hf⟩ := bd_s hf
    refine b_iinc C dX0_init_85 1 rfl (by rw [eu126]; rfl) [(1, .int u126), (0, .ref (ad B x0))] (by decide) rfl ?_
    refine b_goto C (tgt := 63) dX0_init_88 (by decide) ?_
    refine b_sub [(0, .ref (ad B x0)), (1, .int u126)] [1, 0] rfl ?_
    exact hK63 (u126, g124, d116) hf hn125 hn125s
def fX0_init_L63 (N : Nat)  (x0 : Nat) (n0 s0 : Nat) : Int32 × Gs × Ds → Option (Gs × Ds) := lp (fun K63 a => fX0_init_B63 N x0 n0 s0 K63 a.1 a.2.1 a.2.2) N
theorem tX0_init_L63 {p : Program} {l : Launch} {e : Env} {s : State} {m : MethodId} {args : Array Value} {below : List Frame} {meth : Method} {c : Code} {D : va_G} {cy : Nat → ClassId} {B : Bs} (C : Cx p s m args c cX0_init 2 RX0 D cy B) (hr : meth.sig.returnType = none) (hlocks : meth.locks = false) (hin : meth.name = "<init>") {n0 s0 : Nat} (hz : s.heap.size = B.1 + n0) {N : Nat} {x0 : Nat} {gz : Gs} {dz : Ds} (a : Int32 × Gs × Ds) (hn : n0 ≤ gN a.2.1) (hs : s0 ≤ gS a.2.1) (hf : fX0_init_L63 N x0 n0 s0 a = some (gz, dz)) : WB p l e rmX0_init s m args below meth c 2 D cy B (gN a.2.1 - n0) (gS a.2.1 - s0) (MQ below (QV D cy B gz dz) args s 107 447 (wA B)) a.2.1 a.2.2 [(0, .ref (ad B x0)), (1, .int a.1)] 63 [] := by
  unfold fX0_init_L63 at hf
  exact lp_w (G := fun a => n0 ≤ gN a.2.1 → s0 ≤ gS a.2.1 → WB p l e rmX0_init s m args below meth c 2 D cy B (gN a.2.1 - n0) (gS a.2.1 - s0) (MQ below (QV D cy B gz dz) args s 107 447 (wA B)) a.2.1 a.2.2 [(0, .ref (ad B x0)), (1, .int a.1)] 63 []) (fun K63 hK63 a ha hn hs => tX0_init_63 C hr hlocks hin hz hK63 hn hs ha) N a hf hn hs
set_option maxRecDepth 100000 in
def fX0_init_E (N : Nat) (x0 : Nat) (n0 s0 : Nat) (g : Gs) (d : Ds) : Option (Gs × Ds) := gd (¬ (96 : Int32) < 0) <| gd ((96 : Int32).toNatClampNeg ≤ 60000000) <| gd (gN g < 100000) <| gd (gN g + 1 - n0 ≤ 107 ∧ gS g + (96 : Int32).toNatClampNeg - s0 ≤ 447) <| bd (nG g 105 (96 : Int32).toNatClampNeg (96 : Int32).toNatClampNeg) fun g5 => (bd (nD g d) fun d6 => (bd (gN g) fun r7 => (gd (chk g5 x0 0) <| bd (sR g5 x0 10 r7) fun g10 => (gd (gN g10 < 100000) <| gd (gN g10 + 1 - n0 ≤ 107 ∧ gS g10 + 3 - s0 ≤ 447) <| bd (nG g10 2 0 3) fun g14 => (bd (nD g10 d6) fun d15 => (bd (gN g10) fun r16 => (gd (0 < gN g14) <| cb (fX2_init N r16 g14 d15) fun g19 d20 => (gd (gN g19 = gN g14 + 0 ∧ gS g19 = gS g14 + 0) <| gd (gN g19 - n0 ≤ 107 ∧ gS g19 - s0 ≤ 447) <| gd (chk g19 x0 0) <| bd (sR g19 x0 11 r16) fun g26 => (gd (¬ (4 : Int32) < 0) <| gd ((4 : Int32).toNatClampNeg ≤ 60000000) <| gd (gN g26 < 100000) <| gd (gN g26 + 1 - n0 ≤ 107 ∧ gS g26 + (4 : Int32).toNatClampNeg - s0 ≤ 447) <| bd (nG g26 102 (4 : Int32).toNatClampNeg (4 : Int32).toNatClampNeg) fun g32 => (bd (nD g26 d20) fun d33 => (bd (gN g26) fun r34 => (gd (chk g32 x0 0) <| bd (sR g32 x0 13 r34) fun g37 => (gd (gN g37 < 100000) <| gd (gN g37 + 1 - n0 ≤ 107 ∧ gS g37 + (4 : Int32).toNatClampNeg - s0 ≤ 447) <| bd (nG g37 102 (4 : Int32).toNatClampNeg (4 : Int32).toNatClampNeg) fun g41 => (bd (nD g37 d33) fun d42 => (bd (gN g37) fun r43 => (gd (chk g41 x0 0) <| bd (sR g41 x0 14 r43) fun g46 => (gd (gN g46 < 100000) <| gd (gN g46 + 1 - n0 ≤ 107 ∧ gS g46 + (4 : Int32).toNatClampNeg - s0 ≤ 447) <| bd (nG g46 105 (4 : Int32).toNatClampNeg (4 : Int32).toNatClampNeg) fun g50 => (bd (nD g46 d42) fun d51 => (bd (gN g46) fun r52 => (gd (chk g50 x0 0) <| bd (sR g50 x0 15 r52) fun g55 => (gd (gN g55 < 100000) <| gd (gN g55 + 1 - n0 ≤ 107 ∧ gS g55 + (4 : Int32).toNatClampNeg - s0 ≤ 447) <| bd (nG g55 102 (4 : Int32).toNatClampNeg (4 : Int32).toNatClampNeg) fun g59 => (bd (nD g55 d51) fun d60 => (bd (gN g55) fun r61 => (gd (chk g59 x0 0) <| bd (sR g59 x0 17 r61) fun g64 => (gd (¬ (32 : Int32) < 0) <| gd ((32 : Int32).toNatClampNeg ≤ 60000000) <| gd (gN g64 < 100000) <| gd (gN g64 + 1 - n0 ≤ 107 ∧ gS g64 + (32 : Int32).toNatClampNeg - s0 ≤ 447) <| bd (nG g64 102 (32 : Int32).toNatClampNeg (32 : Int32).toNatClampNeg) fun g70 => (bd (nD g64 d60) fun d71 => (bd (gN g64) fun r72 => (gd (chk g70 x0 0) <| bd (sR g70 x0 18 r72) fun g75 => (fX0_init_L63 N x0 n0 s0 (0, g75, d71))))))))))))))))))))))))))))))
def fX0_init (N : Nat) (x0 : Nat) (g : Gs) (d : Ds) : Option (Gs × Ds) := fX0_init_E N x0 (gN g) (gS g) g d
set_option maxHeartbeats 4000000 in
set_option maxRecDepth 100000 in
theorem tX0_init_E {p : Program} {l : Launch} {e : Env} {s : State} {m : MethodId} {args : Array Value} {below : List Frame} {meth : Method} {c : Code} {D : va_G} {cy : Nat → ClassId} {B : Bs} (C : Cx p s m args c cX0_init 2 RX0 D cy B) (hr : meth.sig.returnType = none) (hlocks : meth.locks = false) (hin : meth.name = "<init>") {n0 s0 : Nat} (hz : s.heap.size = B.1 + n0) {N : Nat} {x0 : Nat} {gz : Gs} {dz : Ds} {g : Gs} {d : Ds} (hn : n0 ≤ gN g) (hs : s0 ≤ gS g) (hf : fX0_init_E N x0 n0 s0 g d = some (gz, dz)) : WB p l e rmX0_init s m args below meth c 2 D cy B (gN g - n0) (gS g - s0) (MQ below (QV D cy B gz dz) args s 107 447 (wA B)) g d [(0, .ref (ad B x0))] 0 [] := by
  unfold fX0_init_E at hf
  refine b_aload_n C dX0_init_0 0 rfl rfl ?_
  refine b_objInit C oi_X0_3 oi_i oi_c (by decide) (by decide) dX0_init_1 ?_
  refine b_aload_n C dX0_init_4 0 rfl rfl ?_
  refine b_bipush C (v := 96) dX0_init_5 (by decide) ?_
  obtain ⟨h1, hf⟩ := gd_s hf
  obtain ⟨h2, hf⟩ := gd_s hf
  obtain ⟨h3, hf⟩ := gd_s hf
  obtain ⟨h4, hf⟩ := gd_s hf
  obtain ⟨g5, eg5, hf⟩ := bd_s hf
  obtain ⟨d6, ed6, hf⟩ := bd_s hf
  obtain ⟨r7, er7, hf⟩ := bd_s hf
  refine b_newqD C dX0_init_7 cw_X0_9 hz hn hs h3 h1 h2 h4 eg5 ed6 (fun hn8 hn8s => ?_)
  refine b_topR er7 ?_
  obtain ⟨h9, hf⟩ := gd_s hf
  obtain ⟨g10, eg10, hf⟩ := bd_s hf
  refine b_pRC C dX0_init_10 fq_X0_11 fr0_10 hin h9 eg10 ?_
  have hn11 : n0 ≤ gN g10 := by rw [eg10]; exact hn8
  have hn11s : s0 ≤ gS g10 := by rw [eg10]; exact hn8s
  refine b_aload_n C dX0_init_13 0 rfl rfl ?_
  obtain ⟨h12, hf⟩ := gd_s hf
  obtain ⟨h13, hf⟩ := gd_s hf
  obtain ⟨g14, eg14, hf⟩ := bd_s hf
  obtain ⟨d15, ed15, hf⟩ := bd_s hf
  obtain ⟨r16, er16, hf⟩ := bd_s hf
  refine b_new C dX0_init_14 nw_X0_9 hz hn11 hn11s h12 h13 eg14 ed15 (fun hn17 hn17s => ?_)
  refine b_topR er16 ?_
  refine b_dup C dX0_init_17 rfl ?_
  obtain ⟨h18, hf⟩ := gd_s hf
  obtain ⟨g19, d20, k21, hf⟩ := cb_s hf
  obtain ⟨h23, hf⟩ := gd_s hf
  obtain ⟨h24, hf⟩ := gd_s hf
  refine b_callC C [.ref (ad B r16), .ref (ad B x0)] dX0_init_18 (kX2_init l D cy B k21) lv_X0_17 ⟨rfl, rfl, Nat.le_of_ble_eq_true rfl, Nat.le_of_ble_eq_true rfl⟩ rfl (Nat.le_of_ble_eq_true rfl) hz hn17 hn17s h18 h23 h24 rfl (fun hn22 hn22s => ?_)
  obtain ⟨h25, hf⟩ := gd_s hf
  obtain ⟨g26, eg26, hf⟩ := bd_s hf
  refine b_pRC C dX0_init_21 fq_X0_18 fr0_11 hin h25 eg26 ?_
  have hn27 : n0 ≤ gN g26 := by rw [eg26]; exact hn22
  have hn27s : s0 ≤ gS g26 := by rw [eg26]; exact hn22s
  refine b_aload_n C dX0_init_24 0 rfl rfl ?_
  refine b_iconst C (v := 4) dX0_init_25 (by decide) ?_
  obtain ⟨h28, hf⟩ := gd_s hf
  obtain ⟨h29, hf⟩ := gd_s hf
  obtain ⟨h30, hf⟩ := gd_s hf
  obtain ⟨h31, hf⟩ := gd_s hf
  obtain ⟨g32, eg32, hf⟩ := bd_s hf
  obtain ⟨d33, ed33, hf⟩ := bd_s hf
  obtain ⟨r34, er34, hf⟩ := bd_s hf
  refine b_newaI C dX0_init_26 ar_int hz hn27 hn27s h30 h28 h29 h31 eg32 ed33 (fun hn35 hn35s => ?_)
  refine b_topR er34 ?_
  obtain ⟨h36, hf⟩ := gd_s hf
  obtain ⟨g37, eg37, hf⟩ := bd_s hf
  refine b_pRC C dX0_init_28 fq_X0_22 fr0_13 hin h36 eg37 ?_
  have hn38 : n0 ≤ gN g37 := by rw [eg37]; exact hn35
  have hn38s : s0 ≤ gS g37 := by rw [eg37]; exact hn35s
  refine b_aload_n C dX0_init_31 0 rfl rfl ?_
  refine b_iconst C (v := 4) dX0_init_32 (by decide) ?_
  obtain ⟨h39, hf⟩ := gd_s hf
  obtain ⟨h40, hf⟩ := gd_s hf
  obtain ⟨g41, eg41, hf⟩ := bd_s hf
  obtain ⟨d42, ed42, hf⟩ := bd_s hf
  obtain ⟨r43, er43, hf⟩ := bd_s hf
  refine b_newaI C dX0_init_33 ar_int hz hn38 hn38s h39 h28 h29 h40 eg41 ed42 (fun hn44 hn44s => ?_)
  refine b_topR er43 ?_
  obtain ⟨h45, hf⟩ := gd_s hf
  obtain ⟨g46, eg46, hf⟩ := bd_s hf
  refine b_pRC C dX0_init_35 fq_X0_26 fr0_14 hin h45 eg46 ?_
  have hn47 : n0 ≤ gN g46 := by rw [eg46]; exact hn44
  have hn47s : s0 ≤ gS g46 := by rw [eg46]; exact hn44s
  refine b_aload_n C dX0_init_38 0 rfl rfl ?_
  refine b_iconst C (v := 4) dX0_init_39 (by decide) ?_
  obtain ⟨h48, hf⟩ := gd_s hf
  obtain ⟨h49, hf⟩ := gd_s hf
  obtain ⟨g50, eg50, hf⟩ := bd_s hf
  obtain ⟨d51, ed51, hf⟩ := bd_s hf
  obtain ⟨r52, er52, hf⟩ := bd_s hf
  refine b_newqD C dX0_init_40 cw_X0_9 hz hn47 hn47s h48 h28 h29 h49 eg50 ed51 (fun hn53 hn53s => ?_)
  refine b_topR er52 ?_
  obtain ⟨h54, hf⟩ := gd_s hf
  obtain ⟨g55, eg55, hf⟩ := bd_s hf
  refine b_pRC C dX0_init_43 fq_X0_29 fr0_15 hin h54 eg55 ?_
  have hn56 : n0 ≤ gN g55 := by rw [eg55]; exact hn53
  have hn56s : s0 ≤ gS g55 := by rw [eg55]; exact hn53s
  refine b_aload_n C dX0_init_46 0 rfl rfl ?_
  refine b_iconst C (v := 4) dX0_init_47 (by decide) ?_
  obtain ⟨h57, hf⟩ := gd_s hf
  obtain ⟨h58, hf⟩ := gd_s hf
  obtain ⟨g59, eg59, hf⟩ := bd_s hf
  obtain ⟨d60, ed60, hf⟩ := bd_s hf
  obtain ⟨r61, er61, hf⟩ := bd_s hf
  refine b_newaI C dX0_init_48 ar_int hz hn56 hn56s h57 h28 h29 h58 eg59 ed60 (fun hn62 hn62s => ?_)
  refine b_topR er61 ?_
  obtain ⟨h63, hf⟩ := gd_s hf
  obtain ⟨g64, eg64, hf⟩ := bd_s hf
  refine b_pRC C dX0_init_50 fq_X0_32 fr0_17 hin h63 eg64 ?_
  have hn65 : n0 ≤ gN g64 := by rw [eg64]; exact hn62
  have hn65s : s0 ≤ gS g64 := by rw [eg64]; exact hn62s
  refine b_aload_n C dX0_init_53 0 rfl rfl ?_
  refine b_bipush C (v := 32) dX0_init_54 (by decide) ?_
  obtain ⟨h66, hf⟩ := gd_s hf
  obtain ⟨h67, hf⟩ := gd_s hf
  obtain ⟨h68, hf⟩ := gd_s hf
  obtain ⟨h69, hf⟩ := gd_s hf
  obtain ⟨g70, eg70, hf⟩ := bd_s hf
  obtain ⟨d71, ed71, hf⟩ := bd_s hf
  obtain ⟨r72, er72, hf⟩ := bd_s hf
  refine b_newaI C dX0_init_56 ar_int hz hn65 hn65s h68 h66 h67 h69 eg70 ed71 (fun hn73 hn73s => ?_)
  refine b_topR er72 ?_
  obtain ⟨h74, hf⟩ := gd_s hf
  obtain ⟨g75, eg75, hf⟩ := bd_s hf
  refine b_pRC C dX0_init_58 fq_X0_35 fr0_18 hin h74 eg75 ?_
  have hn76 : n0 ≤ gN g75 := by rw [eg75]; exact hn73
  have hn76s : s0 ≤ gS g75 := by rw [eg75]; exact hn73s
  refine b_iconst C (v := 0) dX0_init_61 (by decide) ?_
  refine b_istore_n C dX0_init_62 rfl [(1, .int 0), (0, .ref (ad B x0))] (by decide) rfl ?_
  refine b_sub [(0, .ref (ad B x0)), (1, .int 0)] [1, 0] rfl ?_
  exact tX0_init_L63 C hr hlocks hin hz (0, g75, d71) hn76 hn76s hf
theorem kX0_init (l : Launch) (D : va_G) (cy : Nat → ClassId) (B : Bs) {N : Nat} {g : Gs} {x0 : Nat} {gz : Gs} {dz : Ds} {d : Ds} (hf : fX0_init N x0 g d = some (gz, dz)) : Met l yX0_init (.code yX0_init cX0_init 2 none :: wl) rmX0_init (PCC D cy B [.ref (ad B x0)] g d) (QV D cy B gz dz) 107 447 (wA B) :=
  met_ofC (by decide +kernel) (Nat.le_of_ble_eq_true rfl) (fun p e s m args below meth c C hr hlocks hin hz => b_sub [(0, .ref (ad B x0))] [0] rfl (tX0_init_E C hr hlocks hin hz (Nat.le_refl _) (Nat.le_refl _) hf))
/-! KeyMatrix$Deed.copyFrom(LKeyMatrix$Deed;)V -/
theorem lv_X2_21 : LV RX2 21 yX2_tell cX2_tell 4 none 3 2 := ⟨⟨(RX2, TX2, 3), rfl, rfl⟩, yo_X2_tell, mW (mT3 (List.mem_of_getElem? (i := 198) (by decide +kernel))) rfl, im_X2_tell, se_X2_tell, in_X2_tell, co_X2_tell⟩
theorem dX2_copyFrom_0 : decode cX2_copyFrom 0 = .ok (.aload_n 0, 1) := by decide +kernel
theorem dX2_copyFrom_1 : decode cX2_copyFrom 1 = .ok (.aload_n 1, 1) := by decide +kernel
theorem dX2_copyFrom_2 : decode cX2_copyFrom 2 = .ok (.getfield 9, 3) := by decide +kernel
theorem dX2_copyFrom_5 : decode cX2_copyFrom 5 = .ok (.aload_n 1, 1) := by decide +kernel
theorem dX2_copyFrom_6 : decode cX2_copyFrom 6 = .ok (.getfield 15, 3) := by decide +kernel
theorem dX2_copyFrom_9 : decode cX2_copyFrom 9 = .ok (.aload_n 1, 1) := by decide +kernel
theorem dX2_copyFrom_10 : decode cX2_copyFrom 10 = .ok (.getfield 18, 3) := by decide +kernel
theorem dX2_copyFrom_13 : decode cX2_copyFrom 13 = .ok (.invokevirtual 21, 3) := by decide +kernel
theorem dX2_copyFrom_16 : decode cX2_copyFrom 16 = .ok (.return_, 1) := by decide +kernel
def rmX2_copyFrom : Room := { frames := 1, cells := 0, slots := 0, locals := 23 }
set_option maxRecDepth 100000 in
def fX2_copyFrom (N : Nat) (g : Gs) (x0 : Nat) (x1 : Nat) (d : Ds) : Option (Unit × Ds) := gd (chk g x1 2) <| gd (chk g x0 2) <| cv (fX2_tell N g x0 (dI d x1 0) (dI d x1 1) (dI d x1 2) d) fun d3 => (some ((), d3))
set_option maxHeartbeats 4000000 in
set_option maxRecDepth 100000 in
theorem tX2_copyFrom_E {p : Program} {l : Launch} {e : Env} {s : State} {m : MethodId} {args : Array Value} {below : List Frame} {meth : Method} {c : Code} {D : va_G} {cy : Nat → ClassId} {B : Bs} (C : Cx p s m args c cX2_copyFrom 2 RX2 D cy B) (hr : meth.sig.returnType = none) (hlocks : meth.locks = false) {N : Nat} {g : Gs} {x0 : Nat} {x1 : Nat}  {dz : Ds} {d : Ds} (hf : fX2_copyFrom N g x0 x1 d = some ((), dz)) : WB p l e rmX2_copyFrom s m args below meth c 2 D cy B 0 0 (MQ below (QV D cy B g dz) args s 0 0 (wA B)) g d [(0, .ref (ad B x0)), (1, .ref (ad B x1))] 0 [] := by
  unfold fX2_copyFrom at hf
  refine b_aload_n C dX2_copyFrom_0 0 rfl rfl ?_
  refine b_aload_n C dX2_copyFrom_1 1 rfl rfl ?_
  obtain ⟨h1, hf⟩ := gd_s hf
  refine b_gI C dX2_copyFrom_2 fl_X2_9 h1 ?_
  refine b_aload_n C dX2_copyFrom_5 1 rfl rfl ?_
  refine b_gI C dX2_copyFrom_6 fl_X2_15 h1 ?_
  refine b_aload_n C dX2_copyFrom_9 1 rfl rfl ?_
  refine b_gI C dX2_copyFrom_10 fl_X2_18 h1 ?_
  obtain ⟨h2, hf⟩ := gd_s hf
  obtain ⟨d3, k4, hf⟩ := cv_s hf
  refine b_cVN C [] dX2_copyFrom_13 (kX2_tell l D cy B k4) lv_X2_21 ⟨rfl, rfl, Nat.le_of_ble_eq_true rfl, Nat.le_of_ble_eq_true rfl⟩ h2 (by decide) rfl (Nat.le_of_ble_eq_true rfl) ⟨Nat.zero_le _, Nat.zero_le _⟩ rfl ?_
  exact b_vret C hr hlocks hf dX2_copyFrom_16
theorem kX2_copyFrom (l : Launch) (D : va_G) (cy : Nat → ClassId) (B : Bs) {N : Nat} {g : Gs} {x0 : Nat} {x1 : Nat}  {dz : Ds} {d : Ds} (hf : fX2_copyFrom N g x0 x1 d = some ((), dz)) : Met l yX2_copyFrom (.code yX2_copyFrom cX2_copyFrom 2 none :: wl) rmX2_copyFrom (PC D cy B [.ref (ad B x0), .ref (ad B x1)] g d) (QV D cy B g dz) 0 0 (wA B) :=
  met_of (by decide +kernel) (Nat.le_of_ble_eq_true rfl) (fun p e s m args below meth c C hr hlocks _ => b_sub [(0, .ref (ad B x0)), (1, .ref (ad B x1))] [0, 1] rfl (tX2_copyFrom_E C hr hlocks hf))
/-! KeyMatrix$Scan.<init>()V -/
theorem oi_X6_3 : Cond.methodLink RX6 3 objectInit ∈ wl := mW (mT2 (List.mem_of_getElem? (i := 33) (by decide +kernel))) rfl
theorem inl6 : ∀ w ∈ u_ws RX6 TX6 9, w ∈ wl := by
  have h0 : u_ws RX6 TX6 9 = [Cond.lays "KeyMatrix$Scan" "KeyMatrix$Scan" "closed" "I", Cond.lays "KeyMatrix$Scan" "KeyMatrix$Scan" "seen" "I", Cond.lays "KeyMatrix$Scan" "KeyMatrix$Scan" "barred" "I", Cond.lays "KeyMatrix$Scan" "KeyMatrix$Scan" "down" "I", Cond.laysFinal "KeyMatrix$Scan" "KeyMatrix$Scan" "unlike" "[I", Cond.laysFinal "KeyMatrix$Scan" "KeyMatrix$Scan" "steady" "[F", Cond.laysFinal "KeyMatrix$Scan" "KeyMatrix$Scan" "strokes" "[I", Cond.laysFinal "KeyMatrix$Scan" "KeyMatrix$Scan" "longest" "[I", Cond.laysFinal "KeyMatrix$Scan" "KeyMatrix$Scan" "lastEvent" "[I"] := by decide +kernel
  rw [h0]
  exact List.forall_mem_cons.mpr ⟨mW (mT2 (List.mem_of_getElem? (i := 53) (by decide +kernel))) rfl, List.forall_mem_cons.mpr ⟨mW (mT2 (List.mem_of_getElem? (i := 55) (by decide +kernel))) rfl, List.forall_mem_cons.mpr ⟨mW (mT2 (List.mem_of_getElem? (i := 57) (by decide +kernel))) rfl, List.forall_mem_cons.mpr ⟨mW (mT2 (List.mem_of_getElem? (i := 59) (by decide +kernel))) rfl, List.forall_mem_cons.mpr ⟨mW (mT2 (List.mem_of_getElem? (i := 61) (by decide +kernel))) rfl, List.forall_mem_cons.mpr ⟨mW (mT2 (List.mem_of_getElem? (i := 63) (by decide +kernel))) rfl, List.forall_mem_cons.mpr ⟨mW (mT2 (List.mem_of_getElem? (i := 65) (by decide +kernel))) rfl, List.forall_mem_cons.mpr ⟨mW (mT2 (List.mem_of_getElem? (i := 67) (by decide +kernel))) rfl, List.forall_mem_cons.mpr ⟨mW (mT2 (List.mem_of_getElem? (i := 69) (by decide +kernel))) rfl, fun _ h => absurd h List.not_mem_nil⟩⟩⟩⟩⟩⟩⟩⟩⟩
theorem fq_X6_9 : FLP RX6 9 6 4 := ⟨⟨RX6, TX6, 9, rfl, by decide, inl6, mW (mT2 (List.mem_of_getElem? (i := 43) (by decide +kernel))) rfl⟩, by decide, by decide +kernel⟩
theorem ft6 : FT 6 := ⟨RX6, TX6, 9, tyX6, rfl, tyX6_ok, nmX6⟩
theorem fr6_4 : FPR 6 4 RX6 := ⟨ft6, (RX6, TX6, 9), rfl, by decide +kernel, rfl, fun ty h a => by rw [tyX6_ok 4 (by decide)] at h; cases h; exact ⟨rfl, rfl⟩⟩
theorem ar_float : Cond.arrayClass (newarray.typeOf .float) ∈ wl := mW (mT2 (List.mem_of_getElem? (i := 72) (by decide +kernel))) rfl
theorem fq_X6_15 : FLP RX6 15 6 5 := ⟨⟨RX6, TX6, 9, rfl, by decide, inl6, mW (mT2 (List.mem_of_getElem? (i := 45) (by decide +kernel))) rfl⟩, by decide, by decide +kernel⟩
theorem fr6_5 : FPR 6 5 RX6 := ⟨ft6, (RX6, TX6, 9), rfl, by decide +kernel, rfl, fun ty h a => by rw [tyX6_ok 5 (by decide)] at h; cases h; exact ⟨rfl, rfl⟩⟩
theorem fq_X6_19 : FLP RX6 19 6 6 := ⟨⟨RX6, TX6, 9, rfl, by decide, inl6, mW (mT2 (List.mem_of_getElem? (i := 47) (by decide +kernel))) rfl⟩, by decide, by decide +kernel⟩
theorem fr6_6 : FPR 6 6 RX6 := ⟨ft6, (RX6, TX6, 9), rfl, by decide +kernel, rfl, fun ty h a => by rw [tyX6_ok 6 (by decide)] at h; cases h; exact ⟨rfl, rfl⟩⟩
theorem fq_X6_22 : FLP RX6 22 6 7 := ⟨⟨RX6, TX6, 9, rfl, by decide, inl6, mW (mT2 (List.mem_of_getElem? (i := 49) (by decide +kernel))) rfl⟩, by decide, by decide +kernel⟩
theorem fr6_7 : FPR 6 7 RX6 := ⟨ft6, (RX6, TX6, 9), rfl, by decide +kernel, rfl, fun ty h a => by rw [tyX6_ok 7 (by decide)] at h; cases h; exact ⟨rfl, rfl⟩⟩
theorem fq_X6_25 : FLP RX6 25 6 8 := ⟨⟨RX6, TX6, 9, rfl, by decide, inl6, mW (mT2 (List.mem_of_getElem? (i := 51) (by decide +kernel))) rfl⟩, by decide, by decide +kernel⟩
theorem fr6_8 : FPR 6 8 RX6 := ⟨ft6, (RX6, TX6, 9), rfl, by decide +kernel, rfl, fun ty h a => by rw [tyX6_ok 8 (by decide)] at h; cases h; exact ⟨rfl, rfl⟩⟩
theorem dX6_init_0 : decode cX6_init 0 = .ok (.aload_n 0, 1) := by decide +kernel
theorem dX6_init_1 : decode cX6_init 1 = .ok (.invokespecial 3, 3) := by decide +kernel
theorem dX6_init_4 : decode cX6_init 4 = .ok (.aload_n 0, 1) := by decide +kernel
theorem dX6_init_5 : decode cX6_init 5 = .ok (.bipush 24, 2) := by decide +kernel
theorem dX6_init_7 : decode cX6_init 7 = .ok (.newarray .int, 2) := by decide +kernel
theorem dX6_init_9 : decode cX6_init 9 = .ok (.putfield 9, 3) := by decide +kernel
theorem dX6_init_12 : decode cX6_init 12 = .ok (.aload_n 0, 1) := by decide +kernel
theorem dX6_init_13 : decode cX6_init 13 = .ok (.bipush 24, 2) := by decide +kernel
theorem dX6_init_15 : decode cX6_init 15 = .ok (.newarray .float, 2) := by decide +kernel
theorem dX6_init_17 : decode cX6_init 17 = .ok (.putfield 15, 3) := by decide +kernel
theorem dX6_init_20 : decode cX6_init 20 = .ok (.aload_n 0, 1) := by decide +kernel
theorem dX6_init_21 : decode cX6_init 21 = .ok (.bipush 24, 2) := by decide +kernel
theorem dX6_init_23 : decode cX6_init 23 = .ok (.newarray .int, 2) := by decide +kernel
theorem dX6_init_25 : decode cX6_init 25 = .ok (.putfield 19, 3) := by decide +kernel
theorem dX6_init_28 : decode cX6_init 28 = .ok (.aload_n 0, 1) := by decide +kernel
theorem dX6_init_29 : decode cX6_init 29 = .ok (.bipush 24, 2) := by decide +kernel
theorem dX6_init_31 : decode cX6_init 31 = .ok (.newarray .int, 2) := by decide +kernel
theorem dX6_init_33 : decode cX6_init 33 = .ok (.putfield 22, 3) := by decide +kernel
theorem dX6_init_36 : decode cX6_init 36 = .ok (.aload_n 0, 1) := by decide +kernel
theorem dX6_init_37 : decode cX6_init 37 = .ok (.bipush 24, 2) := by decide +kernel
theorem dX6_init_39 : decode cX6_init 39 = .ok (.newarray .int, 2) := by decide +kernel
theorem dX6_init_41 : decode cX6_init 41 = .ok (.putfield 25, 3) := by decide +kernel
theorem dX6_init_44 : decode cX6_init 44 = .ok (.return_, 1) := by decide +kernel
def rmX6_init : Room := { frames := 1, cells := 5, slots := 120, locals := 20 }
set_option maxRecDepth 100000 in
def fX6_init_E (N : Nat) (x0 : Nat) (n0 s0 : Nat) (g : Gs) (d : Ds) : Option (Gs × Ds) := gd (¬ (24 : Int32) < 0) <| gd ((24 : Int32).toNatClampNeg ≤ 60000000) <| gd (gN g < 100000) <| gd (gN g + 1 - n0 ≤ 5 ∧ gS g + (24 : Int32).toNatClampNeg - s0 ≤ 120) <| bd (nG g 102 (24 : Int32).toNatClampNeg (24 : Int32).toNatClampNeg) fun g5 => (bd (nD g d) fun d6 => (bd (gN g) fun r7 => (gd (chk g5 x0 6) <| bd (sR g5 x0 4 r7) fun g10 => (gd (gN g10 < 100000) <| gd (gN g10 + 1 - n0 ≤ 5 ∧ gS g10 + (24 : Int32).toNatClampNeg - s0 ≤ 120) <| bd (nG g10 101 (24 : Int32).toNatClampNeg (24 : Int32).toNatClampNeg) fun g14 => (bd (nD g10 d6) fun d15 => (bd (gN g10) fun r16 => (gd (chk g14 x0 6) <| bd (sR g14 x0 5 r16) fun g19 => (gd (gN g19 < 100000) <| gd (gN g19 + 1 - n0 ≤ 5 ∧ gS g19 + (24 : Int32).toNatClampNeg - s0 ≤ 120) <| bd (nG g19 102 (24 : Int32).toNatClampNeg (24 : Int32).toNatClampNeg) fun g23 => (bd (nD g19 d15) fun d24 => (bd (gN g19) fun r25 => (gd (chk g23 x0 6) <| bd (sR g23 x0 6 r25) fun g28 => (gd (gN g28 < 100000) <| gd (gN g28 + 1 - n0 ≤ 5 ∧ gS g28 + (24 : Int32).toNatClampNeg - s0 ≤ 120) <| bd (nG g28 102 (24 : Int32).toNatClampNeg (24 : Int32).toNatClampNeg) fun g32 => (bd (nD g28 d24) fun d33 => (bd (gN g28) fun r34 => (gd (chk g32 x0 6) <| bd (sR g32 x0 7 r34) fun g37 => (gd (gN g37 < 100000) <| gd (gN g37 + 1 - n0 ≤ 5 ∧ gS g37 + (24 : Int32).toNatClampNeg - s0 ≤ 120) <| bd (nG g37 102 (24 : Int32).toNatClampNeg (24 : Int32).toNatClampNeg) fun g41 => (bd (nD g37 d33) fun d42 => (bd (gN g37) fun r43 => (gd (chk g41 x0 6) <| bd (sR g41 x0 8 r43) fun g46 => (gd (gN g46 = n0 + 5 ∧ gS g46 = s0 + 120) <| some (g46, d42)))))))))))))))))))))
def fX6_init (N : Nat) (x0 : Nat) (g : Gs) (d : Ds) : Option (Gs × Ds) := fX6_init_E N x0 (gN g) (gS g) g d
set_option maxHeartbeats 4000000 in
set_option maxRecDepth 100000 in
theorem tX6_init_E {p : Program} {l : Launch} {e : Env} {s : State} {m : MethodId} {args : Array Value} {below : List Frame} {meth : Method} {c : Code} {D : va_G} {cy : Nat → ClassId} {B : Bs} (C : Cx p s m args c cX6_init 1 RX6 D cy B) (hr : meth.sig.returnType = none) (hlocks : meth.locks = false) (hin : meth.name = "<init>") {n0 s0 : Nat} (hz : s.heap.size = B.1 + n0) {N : Nat} {x0 : Nat} {gz : Gs} {dz : Ds} {g : Gs} {d : Ds} (hn : n0 ≤ gN g) (hs : s0 ≤ gS g) (hf : fX6_init_E N x0 n0 s0 g d = some (gz, dz)) : WB p l e rmX6_init s m args below meth c 1 D cy B (gN g - n0) (gS g - s0) (MQ below (QV D cy B gz dz) args s 5 120 (wA B)) g d [(0, .ref (ad B x0))] 0 [] := by
  unfold fX6_init_E at hf
  refine b_aload_n C dX6_init_0 0 rfl rfl ?_
  refine b_objInit C oi_X6_3 oi_i oi_c (by decide) (by decide) dX6_init_1 ?_
  refine b_aload_n C dX6_init_4 0 rfl rfl ?_
  refine b_bipush C (v := 24) dX6_init_5 (by decide) ?_
  obtain ⟨h1, hf⟩ := gd_s hf
  obtain ⟨h2, hf⟩ := gd_s hf
  obtain ⟨h3, hf⟩ := gd_s hf
  obtain ⟨h4, hf⟩ := gd_s hf
  obtain ⟨g5, eg5, hf⟩ := bd_s hf
  obtain ⟨d6, ed6, hf⟩ := bd_s hf
  obtain ⟨r7, er7, hf⟩ := bd_s hf
  refine b_newaI C dX6_init_7 ar_int hz hn hs h3 h1 h2 h4 eg5 ed6 (fun hn8 hn8s => ?_)
  refine b_topR er7 ?_
  obtain ⟨h9, hf⟩ := gd_s hf
  obtain ⟨g10, eg10, hf⟩ := bd_s hf
  refine b_pRC C dX6_init_9 fq_X6_9 fr6_4 hin h9 eg10 ?_
  have hn11 : n0 ≤ gN g10 := by rw [eg10]; exact hn8
  have hn11s : s0 ≤ gS g10 := by rw [eg10]; exact hn8s
  refine b_aload_n C dX6_init_12 0 rfl rfl ?_
  refine b_bipush C (v := 24) dX6_init_13 (by decide) ?_
  obtain ⟨h12, hf⟩ := gd_s hf
  obtain ⟨h13, hf⟩ := gd_s hf
  obtain ⟨g14, eg14, hf⟩ := bd_s hf
  obtain ⟨d15, ed15, hf⟩ := bd_s hf
  obtain ⟨r16, er16, hf⟩ := bd_s hf
  refine b_newaF C dX6_init_15 ar_float hz hn11 hn11s h12 h1 h2 h13 eg14 ed15 (fun hn17 hn17s => ?_)
  refine b_topR er16 ?_
  obtain ⟨h18, hf⟩ := gd_s hf
  obtain ⟨g19, eg19, hf⟩ := bd_s hf
  refine b_pRC C dX6_init_17 fq_X6_15 fr6_5 hin h18 eg19 ?_
  have hn20 : n0 ≤ gN g19 := by rw [eg19]; exact hn17
  have hn20s : s0 ≤ gS g19 := by rw [eg19]; exact hn17s
  refine b_aload_n C dX6_init_20 0 rfl rfl ?_
  refine b_bipush C (v := 24) dX6_init_21 (by decide) ?_
  obtain ⟨h21, hf⟩ := gd_s hf
  obtain ⟨h22, hf⟩ := gd_s hf
  obtain ⟨g23, eg23, hf⟩ := bd_s hf
  obtain ⟨d24, ed24, hf⟩ := bd_s hf
  obtain ⟨r25, er25, hf⟩ := bd_s hf
  refine b_newaI C dX6_init_23 ar_int hz hn20 hn20s h21 h1 h2 h22 eg23 ed24 (fun hn26 hn26s => ?_)
  refine b_topR er25 ?_
  obtain ⟨h27, hf⟩ := gd_s hf
  obtain ⟨g28, eg28, hf⟩ := bd_s hf
  refine b_pRC C dX6_init_25 fq_X6_19 fr6_6 hin h27 eg28 ?_
  have hn29 : n0 ≤ gN g28 := by rw [eg28]; exact hn26
  have hn29s : s0 ≤ gS g28 := by rw [eg28]; exact hn26s
  refine b_aload_n C dX6_init_28 0 rfl rfl ?_
  refine b_bipush C (v := 24) dX6_init_29 (by decide) ?_
  obtain ⟨h30, hf⟩ := gd_s hf
  obtain ⟨h31, hf⟩ := gd_s hf
  obtain ⟨g32, eg32, hf⟩ := bd_s hf
  obtain ⟨d33, ed33, hf⟩ := bd_s hf
  obtain ⟨r34, er34, hf⟩ := bd_s hf
  refine b_newaI C dX6_init_31 ar_int hz hn29 hn29s h30 h1 h2 h31 eg32 ed33 (fun hn35 hn35s => ?_)
  refine b_topR er34 ?_
  obtain ⟨h36, hf⟩ := gd_s hf
  obtain ⟨g37, eg37, hf⟩ := bd_s hf
  refine b_pRC C dX6_init_33 fq_X6_22 fr6_7 hin h36 eg37 ?_
  have hn38 : n0 ≤ gN g37 := by rw [eg37]; exact hn35
  have hn38s : s0 ≤ gS g37 := by rw [eg37]; exact hn35s
  refine b_aload_n C dX6_init_36 0 rfl rfl ?_
  refine b_bipush C (v := 24) dX6_init_37 (by decide) ?_
  obtain ⟨h39, hf⟩ := gd_s hf
  obtain ⟨h40, hf⟩ := gd_s hf
  obtain ⟨g41, eg41, hf⟩ := bd_s hf
  obtain ⟨d42, ed42, hf⟩ := bd_s hf
  obtain ⟨r43, er43, hf⟩ := bd_s hf
  refine b_newaI C dX6_init_39 ar_int hz hn38 hn38s h39 h1 h2 h40 eg41 ed42 (fun hn44 hn44s => ?_)
  refine b_topR er43 ?_
  obtain ⟨h45, hf⟩ := gd_s hf
  obtain ⟨g46, eg46, hf⟩ := bd_s hf
  refine b_pRC C dX6_init_41 fq_X6_25 fr6_8 hin h45 eg46 ?_
  have hn47 : n0 ≤ gN g46 := by rw [eg46]; exact hn44
  have hn47s : s0 ≤ gS g46 := by rw [eg46]; exact hn44s
  obtain ⟨h48, hf⟩ := gd_s hf
  exact b_vretC C hr hlocks h48 hf dX6_init_44
theorem kX6_init (l : Launch) (D : va_G) (cy : Nat → ClassId) (B : Bs) {N : Nat} {g : Gs} {x0 : Nat} {gz : Gs} {dz : Ds} {d : Ds} (hf : fX6_init N x0 g d = some (gz, dz)) : Met l yX6_init (.code yX6_init cX6_init 1 none :: wl) rmX6_init (PCC D cy B [.ref (ad B x0)] g d) (QV D cy B gz dz) 5 120 (wA B) :=
  met_ofC (by decide +kernel) (Nat.le_of_ble_eq_true rfl) (fun p e s m args below meth c C hr hlocks hin hz => b_sub [(0, .ref (ad B x0))] [0] rfl (tX6_init_E C hr hlocks hin hz (Nat.le_refl _) (Nat.le_refl _) hf))
/-! KeyMatrix$Queue.<init>()V -/
theorem oi_X4_3 : Cond.methodLink RX4 3 objectInit ∈ wl := mW (mT2 (List.mem_of_getElem? (i := 78) (by decide +kernel))) rfl
theorem inl4 : ∀ w ∈ u_ws RX4 TX4 3, w ∈ wl := by
  have h0 : u_ws RX4 TX4 3 = [Cond.laysFinal "KeyMatrix$Queue" "KeyMatrix$Queue" "events" "[I", Cond.lays "KeyMatrix$Queue" "KeyMatrix$Queue" "size" "I", Cond.lays "KeyMatrix$Queue" "KeyMatrix$Queue" "total" "I"] := by decide +kernel
  rw [h0]
  exact List.forall_mem_cons.mpr ⟨mW (mT2 (List.mem_of_getElem? (i := 85) (by decide +kernel))) rfl, List.forall_mem_cons.mpr ⟨mW (mT2 (List.mem_of_getElem? (i := 87) (by decide +kernel))) rfl, List.forall_mem_cons.mpr ⟨mW (mT2 (List.mem_of_getElem? (i := 89) (by decide +kernel))) rfl, fun _ h => absurd h List.not_mem_nil⟩⟩⟩
theorem fq_X4_11 : FLP RX4 11 4 0 := ⟨⟨RX4, TX4, 3, rfl, by decide, inl4, mW (mT2 (List.mem_of_getElem? (i := 79) (by decide +kernel))) rfl⟩, by decide, by decide +kernel⟩
theorem ft4 : FT 4 := ⟨RX4, TX4, 3, tyX4, rfl, tyX4_ok, nmX4⟩
theorem fr4_0 : FPR 4 0 RX4 := ⟨ft4, (RX4, TX4, 3), rfl, by decide +kernel, rfl, fun ty h a => by rw [tyX4_ok 0 (by decide)] at h; cases h; exact ⟨rfl, rfl⟩⟩
theorem dX4_init_0 : decode cX4_init 0 = .ok (.aload_n 0, 1) := by decide +kernel
theorem dX4_init_1 : decode cX4_init 1 = .ok (.invokespecial 3, 3) := by decide +kernel
theorem dX4_init_4 : decode cX4_init 4 = .ok (.aload_n 0, 1) := by decide +kernel
theorem dX4_init_5 : decode cX4_init 5 = .ok (.sipush 2400, 3) := by decide +kernel
theorem dX4_init_8 : decode cX4_init 8 = .ok (.newarray .int, 2) := by decide +kernel
theorem dX4_init_10 : decode cX4_init 10 = .ok (.putfield 11, 3) := by decide +kernel
theorem dX4_init_13 : decode cX4_init 13 = .ok (.return_, 1) := by decide +kernel
def rmX4_init : Room := { frames := 1, cells := 1, slots := 2400, locals := 20 }
set_option maxRecDepth 100000 in
def fX4_init_E (N : Nat) (x0 : Nat) (n0 s0 : Nat) (g : Gs) (d : Ds) : Option (Gs × Ds) := gd (¬ (2400 : Int32) < 0) <| gd ((2400 : Int32).toNatClampNeg ≤ 60000000) <| gd (gN g < 100000) <| gd (gN g + 1 - n0 ≤ 1 ∧ gS g + (2400 : Int32).toNatClampNeg - s0 ≤ 2400) <| bd (nG g 102 (2400 : Int32).toNatClampNeg (2400 : Int32).toNatClampNeg) fun g5 => (bd (nD g d) fun d6 => (bd (gN g) fun r7 => (gd (chk g5 x0 4) <| bd (sR g5 x0 0 r7) fun g10 => (gd (gN g10 = n0 + 1 ∧ gS g10 = s0 + 2400) <| some (g10, d6)))))
def fX4_init (N : Nat) (x0 : Nat) (g : Gs) (d : Ds) : Option (Gs × Ds) := fX4_init_E N x0 (gN g) (gS g) g d
set_option maxHeartbeats 4000000 in
set_option maxRecDepth 100000 in
theorem tX4_init_E {p : Program} {l : Launch} {e : Env} {s : State} {m : MethodId} {args : Array Value} {below : List Frame} {meth : Method} {c : Code} {D : va_G} {cy : Nat → ClassId} {B : Bs} (C : Cx p s m args c cX4_init 1 RX4 D cy B) (hr : meth.sig.returnType = none) (hlocks : meth.locks = false) (hin : meth.name = "<init>") {n0 s0 : Nat} (hz : s.heap.size = B.1 + n0) {N : Nat} {x0 : Nat} {gz : Gs} {dz : Ds} {g : Gs} {d : Ds} (hn : n0 ≤ gN g) (hs : s0 ≤ gS g) (hf : fX4_init_E N x0 n0 s0 g d = some (gz, dz)) : WB p l e rmX4_init s m args below meth c 1 D cy B (gN g - n0) (gS g - s0) (MQ below (QV D cy B gz dz) args s 1 2400 (wA B)) g d [(0, .ref (ad B x0))] 0 [] := by
  unfold fX4_init_E at hf
  refine b_aload_n C dX4_init_0 0 rfl rfl ?_
  refine b_objInit C oi_X4_3 oi_i oi_c (by decide) (by decide) dX4_init_1 ?_
  refine b_aload_n C dX4_init_4 0 rfl rfl ?_
  refine b_sipush C (v := 2400) dX4_init_5 (by decide) ?_
  obtain ⟨h1, hf⟩ := gd_s hf
  obtain ⟨h2, hf⟩ := gd_s hf
  obtain ⟨h3, hf⟩ := gd_s hf
  obtain ⟨h4, hf⟩ := gd_s hf
  obtain ⟨g5, eg5, hf⟩ := bd_s hf
  obtain ⟨d6, ed6, hf⟩ := bd_s hf
  obtain ⟨r7, er7, hf⟩ := bd_s hf
  refine b_newaI C dX4_init_8 ar_int hz hn hs h3 h1 h2 h4 eg5 ed6 (fun hn8 hn8s => ?_)
  refine b_topR er7 ?_
  obtain ⟨h9, hf⟩ := gd_s hf
  obtain ⟨g10, eg10, hf⟩ := bd_s hf
  refine b_pRC C dX4_init_10 fq_X4_11 fr4_0 hin h9 eg10 ?_
  have hn11 : n0 ≤ gN g10 := by rw [eg10]; exact hn8
  have hn11s : s0 ≤ gS g10 := by rw [eg10]; exact hn8s
  obtain ⟨h12, hf⟩ := gd_s hf
  exact b_vretC C hr hlocks h12 hf dX4_init_13
theorem kX4_init (l : Launch) (D : va_G) (cy : Nat → ClassId) (B : Bs) {N : Nat} {g : Gs} {x0 : Nat} {gz : Gs} {dz : Ds} {d : Ds} (hf : fX4_init N x0 g d = some (gz, dz)) : Met l yX4_init (.code yX4_init cX4_init 1 none :: wl) rmX4_init (PCC D cy B [.ref (ad B x0)] g d) (QV D cy B gz dz) 1 2400 (wA B) :=
  met_ofC (by decide +kernel) (Nat.le_of_ble_eq_true rfl) (fun p e s m args below meth c C hr hlocks hin hz => b_sub [(0, .ref (ad B x0))] [0] rfl (tX4_init_E C hr hlocks hin hz (Nat.le_refl _) (Nat.le_refl _) hf))
/-! KeyMatrix$Doing.<init>()V -/
theorem oi_X3_3 : Cond.methodLink RX3 3 objectInit ∈ wl := mW (mT2 (List.mem_of_getElem? (i := 97) (by decide +kernel))) rfl
theorem inl3 : ∀ w ∈ u_ws RX3 TX3 9, w ∈ wl := by
  have h0 : u_ws RX3 TX3 9 = [Cond.laysFinal "KeyMatrix$Doing" "KeyMatrix$Doing" "kind" "[I", Cond.laysFinal "KeyMatrix$Doing" "KeyMatrix$Doing" "which" "[I", Cond.laysFinal "KeyMatrix$Doing" "KeyMatrix$Doing" "partner" "[I", Cond.laysFinal "KeyMatrix$Doing" "KeyMatrix$Doing" "order" "[I", Cond.lays "KeyMatrix$Doing" "KeyMatrix$Doing" "busy" "I", Cond.lays "KeyMatrix$Doing" "KeyMatrix$Doing" "toggled" "I", Cond.lays "KeyMatrix$Doing" "KeyMatrix$Doing" "mods" "I", Cond.laysFinal "KeyMatrix$Doing" "KeyMatrix$Doing" "codes" "[I", Cond.lays "KeyMatrix$Doing" "KeyMatrix$Doing" "codeCount" "I"] := by decide +kernel
  rw [h0]
  exact List.forall_mem_cons.mpr ⟨mW (mT2 (List.mem_of_getElem? (i := 120) (by decide +kernel))) rfl, List.forall_mem_cons.mpr ⟨mW (mT2 (List.mem_of_getElem? (i := 122) (by decide +kernel))) rfl, List.forall_mem_cons.mpr ⟨mW (mT2 (List.mem_of_getElem? (i := 124) (by decide +kernel))) rfl, List.forall_mem_cons.mpr ⟨mW (mT2 (List.mem_of_getElem? (i := 126) (by decide +kernel))) rfl, List.forall_mem_cons.mpr ⟨mW (mT2 (List.mem_of_getElem? (i := 128) (by decide +kernel))) rfl, List.forall_mem_cons.mpr ⟨mW (mT2 (List.mem_of_getElem? (i := 130) (by decide +kernel))) rfl, List.forall_mem_cons.mpr ⟨mW (mT2 (List.mem_of_getElem? (i := 132) (by decide +kernel))) rfl, List.forall_mem_cons.mpr ⟨mW (mT2 (List.mem_of_getElem? (i := 134) (by decide +kernel))) rfl, List.forall_mem_cons.mpr ⟨mW (mT2 (List.mem_of_getElem? (i := 136) (by decide +kernel))) rfl, fun _ h => absurd h List.not_mem_nil⟩⟩⟩⟩⟩⟩⟩⟩⟩
theorem fq_X3_9 : FLP RX3 9 3 0 := ⟨⟨RX3, TX3, 9, rfl, by decide, inl3, mW (mT2 (List.mem_of_getElem? (i := 98) (by decide +kernel))) rfl⟩, by decide, by decide +kernel⟩
theorem ft3 : FT 3 := ⟨RX3, TX3, 9, tyX3, rfl, tyX3_ok, nmX3⟩
theorem fr3_0 : FPR 3 0 RX3 := ⟨ft3, (RX3, TX3, 9), rfl, by decide +kernel, rfl, fun ty h a => by rw [tyX3_ok 0 (by decide)] at h; cases h; exact ⟨rfl, rfl⟩⟩
theorem fq_X3_15 : FLP RX3 15 3 1 := ⟨⟨RX3, TX3, 9, rfl, by decide, inl3, mW (mT2 (List.mem_of_getElem? (i := 101) (by decide +kernel))) rfl⟩, by decide, by decide +kernel⟩
theorem fr3_1 : FPR 3 1 RX3 := ⟨ft3, (RX3, TX3, 9), rfl, by decide +kernel, rfl, fun ty h a => by rw [tyX3_ok 1 (by decide)] at h; cases h; exact ⟨rfl, rfl⟩⟩
theorem fq_X3_18 : FLP RX3 18 3 2 := ⟨⟨RX3, TX3, 9, rfl, by decide, inl3, mW (mT2 (List.mem_of_getElem? (i := 104) (by decide +kernel))) rfl⟩, by decide, by decide +kernel⟩
theorem fr3_2 : FPR 3 2 RX3 := ⟨ft3, (RX3, TX3, 9), rfl, by decide +kernel, rfl, fun ty h a => by rw [tyX3_ok 2 (by decide)] at h; cases h; exact ⟨rfl, rfl⟩⟩
theorem fq_X3_21 : FLP RX3 21 3 3 := ⟨⟨RX3, TX3, 9, rfl, by decide, inl3, mW (mT2 (List.mem_of_getElem? (i := 106) (by decide +kernel))) rfl⟩, by decide, by decide +kernel⟩
theorem fr3_3 : FPR 3 3 RX3 := ⟨ft3, (RX3, TX3, 9), rfl, by decide +kernel, rfl, fun ty h a => by rw [tyX3_ok 3 (by decide)] at h; cases h; exact ⟨rfl, rfl⟩⟩
theorem fq_X3_24 : FLP RX3 24 3 7 := ⟨⟨RX3, TX3, 9, rfl, by decide, inl3, mW (mT2 (List.mem_of_getElem? (i := 114) (by decide +kernel))) rfl⟩, by decide, by decide +kernel⟩
theorem fr3_7 : FPR 3 7 RX3 := ⟨ft3, (RX3, TX3, 9), rfl, by decide +kernel, rfl, fun ty h a => by rw [tyX3_ok 7 (by decide)] at h; cases h; exact ⟨rfl, rfl⟩⟩
theorem dX3_init_0 : decode cX3_init 0 = .ok (.aload_n 0, 1) := by decide +kernel
theorem dX3_init_1 : decode cX3_init 1 = .ok (.invokespecial 3, 3) := by decide +kernel
theorem dX3_init_4 : decode cX3_init 4 = .ok (.aload_n 0, 1) := by decide +kernel
theorem dX3_init_5 : decode cX3_init 5 = .ok (.bipush 24, 2) := by decide +kernel
theorem dX3_init_7 : decode cX3_init 7 = .ok (.newarray .int, 2) := by decide +kernel
theorem dX3_init_9 : decode cX3_init 9 = .ok (.putfield 9, 3) := by decide +kernel
theorem dX3_init_12 : decode cX3_init 12 = .ok (.aload_n 0, 1) := by decide +kernel
theorem dX3_init_13 : decode cX3_init 13 = .ok (.bipush 24, 2) := by decide +kernel
theorem dX3_init_15 : decode cX3_init 15 = .ok (.newarray .int, 2) := by decide +kernel
theorem dX3_init_17 : decode cX3_init 17 = .ok (.putfield 15, 3) := by decide +kernel
theorem dX3_init_20 : decode cX3_init 20 = .ok (.aload_n 0, 1) := by decide +kernel
theorem dX3_init_21 : decode cX3_init 21 = .ok (.bipush 24, 2) := by decide +kernel
theorem dX3_init_23 : decode cX3_init 23 = .ok (.newarray .int, 2) := by decide +kernel
theorem dX3_init_25 : decode cX3_init 25 = .ok (.putfield 18, 3) := by decide +kernel
theorem dX3_init_28 : decode cX3_init 28 = .ok (.aload_n 0, 1) := by decide +kernel
theorem dX3_init_29 : decode cX3_init 29 = .ok (.bipush 24, 2) := by decide +kernel
theorem dX3_init_31 : decode cX3_init 31 = .ok (.newarray .int, 2) := by decide +kernel
theorem dX3_init_33 : decode cX3_init 33 = .ok (.putfield 21, 3) := by decide +kernel
theorem dX3_init_36 : decode cX3_init 36 = .ok (.aload_n 0, 1) := by decide +kernel
theorem dX3_init_37 : decode cX3_init 37 = .ok (.bipush 25, 2) := by decide +kernel
theorem dX3_init_39 : decode cX3_init 39 = .ok (.newarray .int, 2) := by decide +kernel
theorem dX3_init_41 : decode cX3_init 41 = .ok (.putfield 24, 3) := by decide +kernel
theorem dX3_init_44 : decode cX3_init 44 = .ok (.return_, 1) := by decide +kernel
def rmX3_init : Room := { frames := 1, cells := 5, slots := 121, locals := 20 }
set_option maxRecDepth 100000 in
def fX3_init_E (N : Nat) (x0 : Nat) (n0 s0 : Nat) (g : Gs) (d : Ds) : Option (Gs × Ds) := gd (¬ (24 : Int32) < 0) <| gd ((24 : Int32).toNatClampNeg ≤ 60000000) <| gd (gN g < 100000) <| gd (gN g + 1 - n0 ≤ 5 ∧ gS g + (24 : Int32).toNatClampNeg - s0 ≤ 121) <| bd (nG g 102 (24 : Int32).toNatClampNeg (24 : Int32).toNatClampNeg) fun g5 => (bd (nD g d) fun d6 => (bd (gN g) fun r7 => (gd (chk g5 x0 3) <| bd (sR g5 x0 0 r7) fun g10 => (gd (gN g10 < 100000) <| gd (gN g10 + 1 - n0 ≤ 5 ∧ gS g10 + (24 : Int32).toNatClampNeg - s0 ≤ 121) <| bd (nG g10 102 (24 : Int32).toNatClampNeg (24 : Int32).toNatClampNeg) fun g14 => (bd (nD g10 d6) fun d15 => (bd (gN g10) fun r16 => (gd (chk g14 x0 3) <| bd (sR g14 x0 1 r16) fun g19 => (gd (gN g19 < 100000) <| gd (gN g19 + 1 - n0 ≤ 5 ∧ gS g19 + (24 : Int32).toNatClampNeg - s0 ≤ 121) <| bd (nG g19 102 (24 : Int32).toNatClampNeg (24 : Int32).toNatClampNeg) fun g23 => (bd (nD g19 d15) fun d24 => (bd (gN g19) fun r25 => (gd (chk g23 x0 3) <| bd (sR g23 x0 2 r25) fun g28 => (gd (gN g28 < 100000) <| gd (gN g28 + 1 - n0 ≤ 5 ∧ gS g28 + (24 : Int32).toNatClampNeg - s0 ≤ 121) <| bd (nG g28 102 (24 : Int32).toNatClampNeg (24 : Int32).toNatClampNeg) fun g32 => (bd (nD g28 d24) fun d33 => (bd (gN g28) fun r34 => (gd (chk g32 x0 3) <| bd (sR g32 x0 3 r34) fun g37 => (gd (¬ (25 : Int32) < 0) <| gd ((25 : Int32).toNatClampNeg ≤ 60000000) <| gd (gN g37 < 100000) <| gd (gN g37 + 1 - n0 ≤ 5 ∧ gS g37 + (25 : Int32).toNatClampNeg - s0 ≤ 121) <| bd (nG g37 102 (25 : Int32).toNatClampNeg (25 : Int32).toNatClampNeg) fun g43 => (bd (nD g37 d33) fun d44 => (bd (gN g37) fun r45 => (gd (chk g43 x0 3) <| bd (sR g43 x0 7 r45) fun g48 => (gd (gN g48 = n0 + 5 ∧ gS g48 = s0 + 121) <| some (g48, d44)))))))))))))))))))))
def fX3_init (N : Nat) (x0 : Nat) (g : Gs) (d : Ds) : Option (Gs × Ds) := fX3_init_E N x0 (gN g) (gS g) g d
set_option maxHeartbeats 4000000 in
set_option maxRecDepth 100000 in
theorem tX3_init_E {p : Program} {l : Launch} {e : Env} {s : State} {m : MethodId} {args : Array Value} {below : List Frame} {meth : Method} {c : Code} {D : va_G} {cy : Nat → ClassId} {B : Bs} (C : Cx p s m args c cX3_init 1 RX3 D cy B) (hr : meth.sig.returnType = none) (hlocks : meth.locks = false) (hin : meth.name = "<init>") {n0 s0 : Nat} (hz : s.heap.size = B.1 + n0) {N : Nat} {x0 : Nat} {gz : Gs} {dz : Ds} {g : Gs} {d : Ds} (hn : n0 ≤ gN g) (hs : s0 ≤ gS g) (hf : fX3_init_E N x0 n0 s0 g d = some (gz, dz)) : WB p l e rmX3_init s m args below meth c 1 D cy B (gN g - n0) (gS g - s0) (MQ below (QV D cy B gz dz) args s 5 121 (wA B)) g d [(0, .ref (ad B x0))] 0 [] := by
  unfold fX3_init_E at hf
  refine b_aload_n C dX3_init_0 0 rfl rfl ?_
  refine b_objInit C oi_X3_3 oi_i oi_c (by decide) (by decide) dX3_init_1 ?_
  refine b_aload_n C dX3_init_4 0 rfl rfl ?_
  refine b_bipush C (v := 24) dX3_init_5 (by decide) ?_
  obtain ⟨h1, hf⟩ := gd_s hf
  obtain ⟨h2, hf⟩ := gd_s hf
  obtain ⟨h3, hf⟩ := gd_s hf
  obtain ⟨h4, hf⟩ := gd_s hf
  obtain ⟨g5, eg5, hf⟩ := bd_s hf
  obtain ⟨d6, ed6, hf⟩ := bd_s hf
  obtain ⟨r7, er7, hf⟩ := bd_s hf
  refine b_newaI C dX3_init_7 ar_int hz hn hs h3 h1 h2 h4 eg5 ed6 (fun hn8 hn8s => ?_)
  refine b_topR er7 ?_
  obtain ⟨h9, hf⟩ := gd_s hf
  obtain ⟨g10, eg10, hf⟩ := bd_s hf
  refine b_pRC C dX3_init_9 fq_X3_9 fr3_0 hin h9 eg10 ?_
  have hn11 : n0 ≤ gN g10 := by rw [eg10]; exact hn8
  have hn11s : s0 ≤ gS g10 := by rw [eg10]; exact hn8s
  refine b_aload_n C dX3_init_12 0 rfl rfl ?_
  refine b_bipush C (v := 24) dX3_init_13 (by decide) ?_
  obtain ⟨h12, hf⟩ := gd_s hf
  obtain ⟨h13, hf⟩ := gd_s hf
  obtain ⟨g14, eg14, hf⟩ := bd_s hf
  obtain ⟨d15, ed15, hf⟩ := bd_s hf
  obtain ⟨r16, er16, hf⟩ := bd_s hf
  refine b_newaI C dX3_init_15 ar_int hz hn11 hn11s h12 h1 h2 h13 eg14 ed15 (fun hn17 hn17s => ?_)
  refine b_topR er16 ?_
  obtain ⟨h18, hf⟩ := gd_s hf
  obtain ⟨g19, eg19, hf⟩ := bd_s hf
  refine b_pRC C dX3_init_17 fq_X3_15 fr3_1 hin h18 eg19 ?_
  have hn20 : n0 ≤ gN g19 := by rw [eg19]; exact hn17
  have hn20s : s0 ≤ gS g19 := by rw [eg19]; exact hn17s
  refine b_aload_n C dX3_init_20 0 rfl rfl ?_
  refine b_bipush C (v := 24) dX3_init_21 (by decide) ?_
  obtain ⟨h21, hf⟩ := gd_s hf
  obtain ⟨h22, hf⟩ := gd_s hf
  obtain ⟨g23, eg23, hf⟩ := bd_s hf
  obtain ⟨d24, ed24, hf⟩ := bd_s hf
  obtain ⟨r25, er25, hf⟩ := bd_s hf
  refine b_newaI C dX3_init_23 ar_int hz hn20 hn20s h21 h1 h2 h22 eg23 ed24 (fun hn26 hn26s => ?_)
  refine b_topR er25 ?_
  obtain ⟨h27, hf⟩ := gd_s hf
  obtain ⟨g28, eg28, hf⟩ := bd_s hf
  refine b_pRC C dX3_init_25 fq_X3_18 fr3_2 hin h27 eg28 ?_
  have hn29 : n0 ≤ gN g28 := by rw [eg28]; exact hn26
  have hn29s : s0 ≤ gS g28 := by rw [eg28]; exact hn26s
  refine b_aload_n C dX3_init_28 0 rfl rfl ?_
  refine b_bipush C (v := 24) dX3_init_29 (by decide) ?_
  obtain ⟨h30, hf⟩ := gd_s hf
  obtain ⟨h31, hf⟩ := gd_s hf
  obtain ⟨g32, eg32, hf⟩ := bd_s hf
  obtain ⟨d33, ed33, hf⟩ := bd_s hf
  obtain ⟨r34, er34, hf⟩ := bd_s hf
  refine b_newaI C dX3_init_31 ar_int hz hn29 hn29s h30 h1 h2 h31 eg32 ed33 (fun hn35 hn35s => ?_)
  refine b_topR er34 ?_
  obtain ⟨h36, hf⟩ := gd_s hf
  obtain ⟨g37, eg37, hf⟩ := bd_s hf
  refine b_pRC C dX3_init_33 fq_X3_21 fr3_3 hin h36 eg37 ?_
  have hn38 : n0 ≤ gN g37 := by rw [eg37]; exact hn35
  have hn38s : s0 ≤ gS g37 := by rw [eg37]; exact hn35s
  refine b_aload_n C dX3_init_36 0 rfl rfl ?_
  refine b_bipush C (v := 25) dX3_init_37 (by decide) ?_
  obtain ⟨h39, hf⟩ := gd_s hf
  obtain ⟨h40, hf⟩ := gd_s hf
  obtain ⟨h41, hf⟩ := gd_s hf
  obtain ⟨h42, hf⟩ := gd_s hf
  obtain ⟨g43, eg43, hf⟩ := bd_s hf
  obtain ⟨d44, ed44, hf⟩ := bd_s hf
  obtain ⟨r45, er45, hf⟩ := bd_s hf
  refine b_newaI C dX3_init_39 ar_int hz hn38 hn38s h41 h39 h40 h42 eg43 ed44 (fun hn46 hn46s => ?_)
  refine b_topR er45 ?_
  obtain ⟨h47, hf⟩ := gd_s hf
  obtain ⟨g48, eg48, hf⟩ := bd_s hf
  refine b_pRC C dX3_init_41 fq_X3_24 fr3_7 hin h47 eg48 ?_
  have hn49 : n0 ≤ gN g48 := by rw [eg48]; exact hn46
  have hn49s : s0 ≤ gS g48 := by rw [eg48]; exact hn46s
  obtain ⟨h50, hf⟩ := gd_s hf
  exact b_vretC C hr hlocks h50 hf dX3_init_44
theorem kX3_init (l : Launch) (D : va_G) (cy : Nat → ClassId) (B : Bs) {N : Nat} {g : Gs} {x0 : Nat} {gz : Gs} {dz : Ds} {d : Ds} (hf : fX3_init N x0 g d = some (gz, dz)) : Met l yX3_init (.code yX3_init cX3_init 1 none :: wl) rmX3_init (PCC D cy B [.ref (ad B x0)] g d) (QV D cy B gz dz) 5 121 (wA B) :=
  met_ofC (by decide +kernel) (Nat.le_of_ble_eq_true rfl) (fun p e s m args below meth c C hr hlocks hin hz => b_sub [(0, .ref (ad B x0))] [0] rfl (tX3_init_E C hr hlocks hin hz (Nat.le_refl _) (Nat.le_refl _) hf))
/-! KeyMatrix$Reports.<init>()V -/
theorem oi_X5_3 : Cond.methodLink RX5 3 objectInit ∈ wl := mW (mT2 (List.mem_of_getElem? (i := 144) (by decide +kernel))) rfl
theorem inl5 : ∀ w ∈ u_ws RX5 TX5 9, w ∈ wl := by
  have h0 : u_ws RX5 TX5 9 = [Cond.laysFinal "KeyMatrix$Reports" "KeyMatrix$Reports" "ticks" "[I", Cond.laysFinal "KeyMatrix$Reports" "KeyMatrix$Reports" "mods" "[I", Cond.laysFinal "KeyMatrix$Reports" "KeyMatrix$Reports" "counts" "[I", Cond.laysFinal "KeyMatrix$Reports" "KeyMatrix$Reports" "codes" "[I", Cond.lays "KeyMatrix$Reports" "KeyMatrix$Reports" "total" "I", Cond.lays "KeyMatrix$Reports" "KeyMatrix$Reports" "latest" "I", Cond.lays "KeyMatrix$Reports" "KeyMatrix$Reports" "since" "I", Cond.lays "KeyMatrix$Reports" "KeyMatrix$Reports" "repeats" "I", Cond.lays "KeyMatrix$Reports" "KeyMatrix$Reports" "repeatsOfLatest" "I"] := by decide +kernel
  rw [h0]
  exact List.forall_mem_cons.mpr ⟨mW (mT2 (List.mem_of_getElem? (i := 162) (by decide +kernel))) rfl, List.forall_mem_cons.mpr ⟨mW (mT2 (List.mem_of_getElem? (i := 164) (by decide +kernel))) rfl, List.forall_mem_cons.mpr ⟨mW (mT2 (List.mem_of_getElem? (i := 166) (by decide +kernel))) rfl, List.forall_mem_cons.mpr ⟨mW (mT2 (List.mem_of_getElem? (i := 168) (by decide +kernel))) rfl, List.forall_mem_cons.mpr ⟨mW (mT2 (List.mem_of_getElem? (i := 170) (by decide +kernel))) rfl, List.forall_mem_cons.mpr ⟨mW (mT2 (List.mem_of_getElem? (i := 172) (by decide +kernel))) rfl, List.forall_mem_cons.mpr ⟨mW (mT2 (List.mem_of_getElem? (i := 174) (by decide +kernel))) rfl, List.forall_mem_cons.mpr ⟨mW (mT2 (List.mem_of_getElem? (i := 176) (by decide +kernel))) rfl, List.forall_mem_cons.mpr ⟨mW (mT2 (List.mem_of_getElem? (i := 178) (by decide +kernel))) rfl, fun _ h => absurd h List.not_mem_nil⟩⟩⟩⟩⟩⟩⟩⟩⟩
theorem fq_X5_11 : FLP RX5 11 5 0 := ⟨⟨RX5, TX5, 9, rfl, by decide, inl5, mW (mT2 (List.mem_of_getElem? (i := 145) (by decide +kernel))) rfl⟩, by decide, by decide +kernel⟩
theorem ft5 : FT 5 := ⟨RX5, TX5, 9, tyX5, rfl, tyX5_ok, nmX5⟩
theorem fr5_0 : FPR 5 0 RX5 := ⟨ft5, (RX5, TX5, 9), rfl, by decide +kernel, rfl, fun ty h a => by rw [tyX5_ok 0 (by decide)] at h; cases h; exact ⟨rfl, rfl⟩⟩
theorem fq_X5_15 : FLP RX5 15 5 1 := ⟨⟨RX5, TX5, 9, rfl, by decide, inl5, mW (mT2 (List.mem_of_getElem? (i := 147) (by decide +kernel))) rfl⟩, by decide, by decide +kernel⟩
theorem fr5_1 : FPR 5 1 RX5 := ⟨ft5, (RX5, TX5, 9), rfl, by decide +kernel, rfl, fun ty h a => by rw [tyX5_ok 1 (by decide)] at h; cases h; exact ⟨rfl, rfl⟩⟩
theorem fq_X5_18 : FLP RX5 18 5 2 := ⟨⟨RX5, TX5, 9, rfl, by decide, inl5, mW (mT2 (List.mem_of_getElem? (i := 149) (by decide +kernel))) rfl⟩, by decide, by decide +kernel⟩
theorem fr5_2 : FPR 5 2 RX5 := ⟨ft5, (RX5, TX5, 9), rfl, by decide +kernel, rfl, fun ty h a => by rw [tyX5_ok 2 (by decide)] at h; cases h; exact ⟨rfl, rfl⟩⟩
theorem fq_X5_23 : FLP RX5 23 5 3 := ⟨⟨RX5, TX5, 9, rfl, by decide, inl5, mW (mT2 (List.mem_of_getElem? (i := 151) (by decide +kernel))) rfl⟩, by decide, by decide +kernel⟩
theorem fr5_3 : FPR 5 3 RX5 := ⟨ft5, (RX5, TX5, 9), rfl, by decide +kernel, rfl, fun ty h a => by rw [tyX5_ok 3 (by decide)] at h; cases h; exact ⟨rfl, rfl⟩⟩
theorem dX5_init_0 : decode cX5_init 0 = .ok (.aload_n 0, 1) := by decide +kernel
theorem dX5_init_1 : decode cX5_init 1 = .ok (.invokespecial 3, 3) := by decide +kernel
theorem dX5_init_4 : decode cX5_init 4 = .ok (.aload_n 0, 1) := by decide +kernel
theorem dX5_init_5 : decode cX5_init 5 = .ok (.bipush 40, 2) := by decide +kernel
theorem dX5_init_7 : decode cX5_init 7 = .ok (.newarray .int, 2) := by decide +kernel
theorem dX5_init_9 : decode cX5_init 9 = .ok (.putfield 11, 3) := by decide +kernel
theorem dX5_init_12 : decode cX5_init 12 = .ok (.aload_n 0, 1) := by decide +kernel
theorem dX5_init_13 : decode cX5_init 13 = .ok (.bipush 40, 2) := by decide +kernel
theorem dX5_init_15 : decode cX5_init 15 = .ok (.newarray .int, 2) := by decide +kernel
theorem dX5_init_17 : decode cX5_init 17 = .ok (.putfield 15, 3) := by decide +kernel
theorem dX5_init_20 : decode cX5_init 20 = .ok (.aload_n 0, 1) := by decide +kernel
theorem dX5_init_21 : decode cX5_init 21 = .ok (.bipush 40, 2) := by decide +kernel
theorem dX5_init_23 : decode cX5_init 23 = .ok (.newarray .int, 2) := by decide +kernel
theorem dX5_init_25 : decode cX5_init 25 = .ok (.putfield 18, 3) := by decide +kernel
theorem dX5_init_28 : decode cX5_init 28 = .ok (.aload_n 0, 1) := by decide +kernel
theorem dX5_init_29 : decode cX5_init 29 = .ok (.sipush 1000, 3) := by decide +kernel
theorem dX5_init_32 : decode cX5_init 32 = .ok (.newarray .int, 2) := by decide +kernel
theorem dX5_init_34 : decode cX5_init 34 = .ok (.putfield 23, 3) := by decide +kernel
theorem dX5_init_37 : decode cX5_init 37 = .ok (.return_, 1) := by decide +kernel
def rmX5_init : Room := { frames := 1, cells := 4, slots := 1120, locals := 20 }
set_option maxRecDepth 100000 in
def fX5_init_E (N : Nat) (x0 : Nat) (n0 s0 : Nat) (g : Gs) (d : Ds) : Option (Gs × Ds) := gd (¬ (40 : Int32) < 0) <| gd ((40 : Int32).toNatClampNeg ≤ 60000000) <| gd (gN g < 100000) <| gd (gN g + 1 - n0 ≤ 4 ∧ gS g + (40 : Int32).toNatClampNeg - s0 ≤ 1120) <| bd (nG g 102 (40 : Int32).toNatClampNeg (40 : Int32).toNatClampNeg) fun g5 => (bd (nD g d) fun d6 => (bd (gN g) fun r7 => (gd (chk g5 x0 5) <| bd (sR g5 x0 0 r7) fun g10 => (gd (gN g10 < 100000) <| gd (gN g10 + 1 - n0 ≤ 4 ∧ gS g10 + (40 : Int32).toNatClampNeg - s0 ≤ 1120) <| bd (nG g10 102 (40 : Int32).toNatClampNeg (40 : Int32).toNatClampNeg) fun g14 => (bd (nD g10 d6) fun d15 => (bd (gN g10) fun r16 => (gd (chk g14 x0 5) <| bd (sR g14 x0 1 r16) fun g19 => (gd (gN g19 < 100000) <| gd (gN g19 + 1 - n0 ≤ 4 ∧ gS g19 + (40 : Int32).toNatClampNeg - s0 ≤ 1120) <| bd (nG g19 102 (40 : Int32).toNatClampNeg (40 : Int32).toNatClampNeg) fun g23 => (bd (nD g19 d15) fun d24 => (bd (gN g19) fun r25 => (gd (chk g23 x0 5) <| bd (sR g23 x0 2 r25) fun g28 => (gd (¬ (1000 : Int32) < 0) <| gd ((1000 : Int32).toNatClampNeg ≤ 60000000) <| gd (gN g28 < 100000) <| gd (gN g28 + 1 - n0 ≤ 4 ∧ gS g28 + (1000 : Int32).toNatClampNeg - s0 ≤ 1120) <| bd (nG g28 102 (1000 : Int32).toNatClampNeg (1000 : Int32).toNatClampNeg) fun g34 => (bd (nD g28 d24) fun d35 => (bd (gN g28) fun r36 => (gd (chk g34 x0 5) <| bd (sR g34 x0 3 r36) fun g39 => (gd (gN g39 = n0 + 4 ∧ gS g39 = s0 + 1120) <| some (g39, d35)))))))))))))))))
def fX5_init (N : Nat) (x0 : Nat) (g : Gs) (d : Ds) : Option (Gs × Ds) := fX5_init_E N x0 (gN g) (gS g) g d
set_option maxHeartbeats 4000000 in
set_option maxRecDepth 100000 in
theorem tX5_init_E {p : Program} {l : Launch} {e : Env} {s : State} {m : MethodId} {args : Array Value} {below : List Frame} {meth : Method} {c : Code} {D : va_G} {cy : Nat → ClassId} {B : Bs} (C : Cx p s m args c cX5_init 1 RX5 D cy B) (hr : meth.sig.returnType = none) (hlocks : meth.locks = false) (hin : meth.name = "<init>") {n0 s0 : Nat} (hz : s.heap.size = B.1 + n0) {N : Nat} {x0 : Nat} {gz : Gs} {dz : Ds} {g : Gs} {d : Ds} (hn : n0 ≤ gN g) (hs : s0 ≤ gS g) (hf : fX5_init_E N x0 n0 s0 g d = some (gz, dz)) : WB p l e rmX5_init s m args below meth c 1 D cy B (gN g - n0) (gS g - s0) (MQ below (QV D cy B gz dz) args s 4 1120 (wA B)) g d [(0, .ref (ad B x0))] 0 [] := by
  unfold fX5_init_E at hf
  refine b_aload_n C dX5_init_0 0 rfl rfl ?_
  refine b_objInit C oi_X5_3 oi_i oi_c (by decide) (by decide) dX5_init_1 ?_
  refine b_aload_n C dX5_init_4 0 rfl rfl ?_
  refine b_bipush C (v := 40) dX5_init_5 (by decide) ?_
  obtain ⟨h1, hf⟩ := gd_s hf
  obtain ⟨h2, hf⟩ := gd_s hf
  obtain ⟨h3, hf⟩ := gd_s hf
  obtain ⟨h4, hf⟩ := gd_s hf
  obtain ⟨g5, eg5, hf⟩ := bd_s hf
  obtain ⟨d6, ed6, hf⟩ := bd_s hf
  obtain ⟨r7, er7, hf⟩ := bd_s hf
  refine b_newaI C dX5_init_7 ar_int hz hn hs h3 h1 h2 h4 eg5 ed6 (fun hn8 hn8s => ?_)
  refine b_topR er7 ?_
  obtain ⟨h9, hf⟩ := gd_s hf
  obtain ⟨g10, eg10, hf⟩ := bd_s hf
  refine b_pRC C dX5_init_9 fq_X5_11 fr5_0 hin h9 eg10 ?_
  have hn11 : n0 ≤ gN g10 := by rw [eg10]; exact hn8
  have hn11s : s0 ≤ gS g10 := by rw [eg10]; exact hn8s
  refine b_aload_n C dX5_init_12 0 rfl rfl ?_
  refine b_bipush C (v := 40) dX5_init_13 (by decide) ?_
  obtain ⟨h12, hf⟩ := gd_s hf
  obtain ⟨h13, hf⟩ := gd_s hf
  obtain ⟨g14, eg14, hf⟩ := bd_s hf
  obtain ⟨d15, ed15, hf⟩ := bd_s hf
  obtain ⟨r16, er16, hf⟩ := bd_s hf
  refine b_newaI C dX5_init_15 ar_int hz hn11 hn11s h12 h1 h2 h13 eg14 ed15 (fun hn17 hn17s => ?_)
  refine b_topR er16 ?_
  obtain ⟨h18, hf⟩ := gd_s hf
  obtain ⟨g19, eg19, hf⟩ := bd_s hf
  refine b_pRC C dX5_init_17 fq_X5_15 fr5_1 hin h18 eg19 ?_
  have hn20 : n0 ≤ gN g19 := by rw [eg19]; exact hn17
  have hn20s : s0 ≤ gS g19 := by rw [eg19]; exact hn17s
  refine b_aload_n C dX5_init_20 0 rfl rfl ?_
  refine b_bipush C (v := 40) dX5_init_21 (by decide) ?_
  obtain ⟨h21, hf⟩ := gd_s hf
  obtain ⟨h22, hf⟩ := gd_s hf
  obtain ⟨g23, eg23, hf⟩ := bd_s hf
  obtain ⟨d24, ed24, hf⟩ := bd_s hf
  obtain ⟨r25, er25, hf⟩ := bd_s hf
  refine b_newaI C dX5_init_23 ar_int hz hn20 hn20s h21 h1 h2 h22 eg23 ed24 (fun hn26 hn26s => ?_)
  refine b_topR er25 ?_
  obtain ⟨h27, hf⟩ := gd_s hf
  obtain ⟨g28, eg28, hf⟩ := bd_s hf
  refine b_pRC C dX5_init_25 fq_X5_18 fr5_2 hin h27 eg28 ?_
  have hn29 : n0 ≤ gN g28 := by rw [eg28]; exact hn26
  have hn29s : s0 ≤ gS g28 := by rw [eg28]; exact hn26s
  refine b_aload_n C dX5_init_28 0 rfl rfl ?_
  refine b_sipush C (v := 1000) dX5_init_29 (by decide) ?_
  obtain ⟨h30, hf⟩ := gd_s hf
  obtain ⟨h31, hf⟩ := gd_s hf
  obtain ⟨h32, hf⟩ := gd_s hf
  obtain ⟨h33, hf⟩ := gd_s hf
  obtain ⟨g34, eg34, hf⟩ := bd_s hf
  obtain ⟨d35, ed35, hf⟩ := bd_s hf
  obtain ⟨r36, er36, hf⟩ := bd_s hf
  refine b_newaI C dX5_init_32 ar_int hz hn29 hn29s h32 h30 h31 h33 eg34 ed35 (fun hn37 hn37s => ?_)
  refine b_topR er36 ?_
  obtain ⟨h38, hf⟩ := gd_s hf
  obtain ⟨g39, eg39, hf⟩ := bd_s hf
  refine b_pRC C dX5_init_34 fq_X5_23 fr5_3 hin h38 eg39 ?_
  have hn40 : n0 ≤ gN g39 := by rw [eg39]; exact hn37
  have hn40s : s0 ≤ gS g39 := by rw [eg39]; exact hn37s
  obtain ⟨h41, hf⟩ := gd_s hf
  exact b_vretC C hr hlocks h41 hf dX5_init_37
theorem kX5_init (l : Launch) (D : va_G) (cy : Nat → ClassId) (B : Bs) {N : Nat} {g : Gs} {x0 : Nat} {gz : Gs} {dz : Ds} {d : Ds} (hf : fX5_init N x0 g d = some (gz, dz)) : Met l yX5_init (.code yX5_init cX5_init 1 none :: wl) rmX5_init (PCC D cy B [.ref (ad B x0)] g d) (QV D cy B gz dz) 4 1120 (wA B) :=
  met_ofC (by decide +kernel) (Nat.le_of_ble_eq_true rfl) (fun p e s m args below meth c C hr hlocks hin hz => b_sub [(0, .ref (ad B x0))] [0] rfl (tX5_init_E C hr hlocks hin hz (Nat.le_refl _) (Nat.le_refl _) hf))
/-! KeyMatrix$Scan.clear()V -/
theorem fl_X6_28 : FLI RX6 28 6 0 := ⟨⟨RX6, TX6, 9, rfl, by decide, inl6, Or.inl (mW (mT2 (List.mem_of_getElem? (i := 34) (by decide +kernel))) rfl)⟩, by decide, by decide +kernel⟩
theorem fp6_0 : FPI 6 0 := ⟨ft6, (RX6, TX6, 9), rfl, by decide +kernel, by decide +kernel⟩
theorem fl_X6_32 : FLI RX6 32 6 1 := ⟨⟨RX6, TX6, 9, rfl, by decide, inl6, Or.inl (mW (mT2 (List.mem_of_getElem? (i := 36) (by decide +kernel))) rfl)⟩, by decide, by decide +kernel⟩
theorem fp6_1 : FPI 6 1 := ⟨ft6, (RX6, TX6, 9), rfl, by decide +kernel, by decide +kernel⟩
theorem fl_X6_35 : FLI RX6 35 6 2 := ⟨⟨RX6, TX6, 9, rfl, by decide, inl6, Or.inl (mW (mT2 (List.mem_of_getElem? (i := 38) (by decide +kernel))) rfl)⟩, by decide, by decide +kernel⟩
theorem fp6_2 : FPI 6 2 := ⟨ft6, (RX6, TX6, 9), rfl, by decide +kernel, by decide +kernel⟩
theorem fl_X6_38 : FLI RX6 38 6 3 := ⟨⟨RX6, TX6, 9, rfl, by decide, inl6, Or.inl (mW (mT2 (List.mem_of_getElem? (i := 40) (by decide +kernel))) rfl)⟩, by decide, by decide +kernel⟩
theorem fp6_3 : FPI 6 3 := ⟨ft6, (RX6, TX6, 9), rfl, by decide +kernel, by decide +kernel⟩
theorem fl_X6_9 : FLR RX6 9 6 4 := ⟨⟨RX6, TX6, 9, rfl, by decide, inl6, Or.inl (mW (mT2 (List.mem_of_getElem? (i := 43) (by decide +kernel))) rfl)⟩, by decide, by decide +kernel⟩
theorem fl_X6_15 : FLR RX6 15 6 5 := ⟨⟨RX6, TX6, 9, rfl, by decide, inl6, Or.inl (mW (mT2 (List.mem_of_getElem? (i := 45) (by decide +kernel))) rfl)⟩, by decide, by decide +kernel⟩
theorem fl_X6_19 : FLR RX6 19 6 6 := ⟨⟨RX6, TX6, 9, rfl, by decide, inl6, Or.inl (mW (mT2 (List.mem_of_getElem? (i := 47) (by decide +kernel))) rfl)⟩, by decide, by decide +kernel⟩
theorem fl_X6_22 : FLR RX6 22 6 7 := ⟨⟨RX6, TX6, 9, rfl, by decide, inl6, Or.inl (mW (mT2 (List.mem_of_getElem? (i := 49) (by decide +kernel))) rfl)⟩, by decide, by decide +kernel⟩
theorem fl_X6_25 : FLR RX6 25 6 8 := ⟨⟨RX6, TX6, 9, rfl, by decide, inl6, Or.inl (mW (mT2 (List.mem_of_getElem? (i := 51) (by decide +kernel))) rfl)⟩, by decide, by decide +kernel⟩
theorem dX6_clear_0 : decode cX6_clear 0 = .ok (.aload_n 0, 1) := by decide +kernel
theorem dX6_clear_1 : decode cX6_clear 1 = .ok (.iconst 0, 1) := by decide +kernel
theorem dX6_clear_2 : decode cX6_clear 2 = .ok (.putfield 28, 3) := by decide +kernel
theorem dX6_clear_5 : decode cX6_clear 5 = .ok (.aload_n 0, 1) := by decide +kernel
theorem dX6_clear_6 : decode cX6_clear 6 = .ok (.iconst 0, 1) := by decide +kernel
theorem dX6_clear_7 : decode cX6_clear 7 = .ok (.putfield 32, 3) := by decide +kernel
theorem dX6_clear_10 : decode cX6_clear 10 = .ok (.aload_n 0, 1) := by decide +kernel
theorem dX6_clear_11 : decode cX6_clear 11 = .ok (.iconst 0, 1) := by decide +kernel
theorem dX6_clear_12 : decode cX6_clear 12 = .ok (.putfield 35, 3) := by decide +kernel
theorem dX6_clear_15 : decode cX6_clear 15 = .ok (.aload_n 0, 1) := by decide +kernel
theorem dX6_clear_16 : decode cX6_clear 16 = .ok (.iconst 0, 1) := by decide +kernel
theorem dX6_clear_17 : decode cX6_clear 17 = .ok (.putfield 38, 3) := by decide +kernel
theorem dX6_clear_20 : decode cX6_clear 20 = .ok (.iconst 0, 1) := by decide +kernel
theorem dX6_clear_21 : decode cX6_clear 21 = .ok (.istore_n 1, 1) := by decide +kernel
theorem dX6_clear_22 : decode cX6_clear 22 = .ok (.iload_n 1, 1) := by decide +kernel
theorem dX6_clear_23 : decode cX6_clear 23 = .ok (.bipush 24, 2) := by decide +kernel
theorem dX6_clear_25 : decode cX6_clear 25 = .ok (.if_icmp .ge 44, 3) := by decide +kernel
theorem dX6_clear_28 : decode cX6_clear 28 = .ok (.aload_n 0, 1) := by decide +kernel
theorem dX6_clear_29 : decode cX6_clear 29 = .ok (.getfield 9, 3) := by decide +kernel
theorem dX6_clear_32 : decode cX6_clear 32 = .ok (.iload_n 1, 1) := by decide +kernel
theorem dX6_clear_33 : decode cX6_clear 33 = .ok (.iconst 0, 1) := by decide +kernel
theorem dX6_clear_34 : decode cX6_clear 34 = .ok (.iastore, 1) := by decide +kernel
theorem dX6_clear_35 : decode cX6_clear 35 = .ok (.aload_n 0, 1) := by decide +kernel
theorem dX6_clear_36 : decode cX6_clear 36 = .ok (.getfield 15, 3) := by decide +kernel
theorem dX6_clear_39 : decode cX6_clear 39 = .ok (.iload_n 1, 1) := by decide +kernel
theorem dX6_clear_40 : decode cX6_clear 40 = .ok (.fconst 0, 1) := by decide +kernel
theorem dX6_clear_41 : decode cX6_clear 41 = .ok (.fastore, 1) := by decide +kernel
theorem dX6_clear_42 : decode cX6_clear 42 = .ok (.aload_n 0, 1) := by decide +kernel
theorem dX6_clear_43 : decode cX6_clear 43 = .ok (.getfield 19, 3) := by decide +kernel
theorem dX6_clear_46 : decode cX6_clear 46 = .ok (.iload_n 1, 1) := by decide +kernel
theorem dX6_clear_47 : decode cX6_clear 47 = .ok (.iconst 0, 1) := by decide +kernel
theorem dX6_clear_48 : decode cX6_clear 48 = .ok (.iastore, 1) := by decide +kernel
theorem dX6_clear_49 : decode cX6_clear 49 = .ok (.aload_n 0, 1) := by decide +kernel
theorem dX6_clear_50 : decode cX6_clear 50 = .ok (.getfield 22, 3) := by decide +kernel
theorem dX6_clear_53 : decode cX6_clear 53 = .ok (.iload_n 1, 1) := by decide +kernel
theorem dX6_clear_54 : decode cX6_clear 54 = .ok (.iconst 0, 1) := by decide +kernel
theorem dX6_clear_55 : decode cX6_clear 55 = .ok (.iastore, 1) := by decide +kernel
theorem dX6_clear_56 : decode cX6_clear 56 = .ok (.aload_n 0, 1) := by decide +kernel
theorem dX6_clear_57 : decode cX6_clear 57 = .ok (.getfield 25, 3) := by decide +kernel
theorem dX6_clear_60 : decode cX6_clear 60 = .ok (.iload_n 1, 1) := by decide +kernel
theorem dX6_clear_61 : decode cX6_clear 61 = .ok (.iconst (-1), 1) := by decide +kernel
theorem dX6_clear_62 : decode cX6_clear 62 = .ok (.iastore, 1) := by decide +kernel
theorem dX6_clear_63 : decode cX6_clear 63 = .ok (.iinc 1 1, 3) := by decide +kernel
theorem dX6_clear_66 : decode cX6_clear 66 = .ok (.goto (-44), 3) := by decide +kernel
theorem dX6_clear_69 : decode cX6_clear 69 = .ok (.return_, 1) := by decide +kernel
def rmX6_clear : Room := { frames := 0, cells := 0, slots := 0, locals := 0 }
set_option maxRecDepth 100000 in
def fX6_clear_B22 (N : Nat) (g : Gs) (x0 : Nat) (K22 : Int32 × Ds → Option (Unit × Ds)) (y1 : Int32) (d : Ds) : Option (Unit × Ds) := if (24 : Int32) ≤ y1 then (some ((), d)) else (gd (chk g x0 6) <| ob (gR g x0 4) fun r8 => (gd (chk g r8 102) <| gd (¬ (y1 < 0 ∨ gL g r8 ≤ y1.toNatClampNeg)) <| bd (sI d r8 y1.toNatClampNeg 0) fun d11 => (ob (gR g x0 5) fun r12 => (gd (chk g r12 101) <| gd (¬ (y1 < 0 ∨ gL g r12 ≤ y1.toNatClampNeg)) <| bd (sF d11 r12 y1.toNatClampNeg FP.fconst0) fun d15 => (ob (gR g x0 6) fun r16 => (gd (chk g r16 102) <| gd (¬ (y1 < 0 ∨ gL g r16 ≤ y1.toNatClampNeg)) <| bd (sI d15 r16 y1.toNatClampNeg 0) fun d19 => (ob (gR g x0 7) fun r20 => (gd (chk g r20 102) <| gd (¬ (y1 < 0 ∨ gL g r20 ≤ y1.toNatClampNeg)) <| bd (sI d19 r20 y1.toNatClampNeg 0) fun d23 => (ob (gR g x0 8) fun r24 => (gd (chk g r24 102) <| gd (¬ (y1 < 0 ∨ gL g r24 ≤ y1.toNatClampNeg)) <| bd (sI d23 r24 y1.toNatClampNeg (-1)) fun d27 => (bd (y1 + 1) fun u28 => (K22 (u28, d27)))))))))))))
set_option maxHeartbeats 4000000 in
set_option maxRecDepth 100000 in
theorem tX6_clear_22 {p : Program} {l : Launch} {e : Env} {s : State} {m : MethodId} {args : Array Value} {below : List Frame} {meth : Method} {c : Code} {D : va_G} {cy : Nat → ClassId} {B : Bs} (C : Cx p s m args c cX6_clear 2 RX6 D cy B) (hr : meth.sig.returnType = none) (hlocks : meth.locks = false) {N : Nat} {g : Gs} {x0 : Nat}  {dz : Ds} {K22 : Int32 × Ds → Option (Unit × Ds)} (hK22 : ∀ a, K22 a = some ((), dz) → WB p l e rmX6_clear s m args below meth c 2 D cy B 0 0 (MQ below (QV D cy B g dz) args s 0 0 (wA B)) g a.2 [(0, .ref (ad B x0)), (1, .int a.1)] 22 []) {y1 : Int32} {d : Ds} (hf : fX6_clear_B22 N g x0 K22 y1 d = some ((), dz)) : WB p l e rmX6_clear s m args below meth c 2 D cy B 0 0 (MQ below (QV D cy B g dz) args s 0 0 (wA B)) g d [(0, .ref (ad B x0)), (1, .int y1)] 22 [] := by
  unfold fX6_clear_B22 at hf
  refine b_iload_n C dX6_clear_22 1 rfl rfl ?_
  refine b_bipush C (v := 24) dX6_clear_23 (by decide) ?_
  refine b_icmp_ge C (tgt := 69) dX6_clear_25 (by decide) (fun c6 => ?_) (fun c6 => ?_)
  · have hf := it_s c6 hf
    exact b_vret C hr hlocks hf dX6_clear_69
  · have hf := if_s c6 hf
    refine b_aload_n C dX6_clear_28 0 rfl rfl ?_
    obtain ⟨h7, hf⟩ := gd_s hf
    obtain ⟨r8, er8, hf⟩ := ob_s hf
    refine b_gR C dX6_clear_29 fl_X6_9 h7 er8 ?_
    refine b_iload_n C dX6_clear_32 1 rfl rfl ?_
    refine b_iconst C (v := 0) dX6_clear_33 (by decide) ?_
    obtain ⟨h9, hf⟩ := gd_s hf
    obtain ⟨h10, hf⟩ := gd_s hf
    obtain ⟨d11, ed11, hf⟩ := bd_s hf
    refine b_iast C h9 h10 ed11 dX6_clear_34 ?_
    refine b_aload_n C dX6_clear_35 0 rfl rfl ?_
    obtain ⟨r12, er12, hf⟩ := ob_s hf
    refine b_gR C dX6_clear_36 fl_X6_15 h7 er12 ?_
    refine b_iload_n C dX6_clear_39 1 rfl rfl ?_
    refine b_fconst0 C dX6_clear_40 ?_
    obtain ⟨h13, hf⟩ := gd_s hf
    obtain ⟨h14, hf⟩ := gd_s hf
    obtain ⟨d15, ed15, hf⟩ := bd_s hf
    refine b_fast C h13 h14 ed15 dX6_clear_41 ?_
    refine b_aload_n C dX6_clear_42 0 rfl rfl ?_
    obtain ⟨r16, er16, hf⟩ := ob_s hf
    refine b_gR C dX6_clear_43 fl_X6_19 h7 er16 ?_
    refine b_iload_n C dX6_clear_46 1 rfl rfl ?_
    refine b_iconst C (v := 0) dX6_clear_47 (by decide) ?_
    obtain ⟨h17, hf⟩ := gd_s hf
    obtain ⟨h18, hf⟩ := gd_s hf
    obtain ⟨d19, ed19, hf⟩ := bd_s hf
    refine b_iast C h17 h18 ed19 dX6_clear_48 ?_
    refine b_aload_n C dX6_clear_49 0 rfl rfl ?_
    obtain ⟨r20, er20, hf⟩ := ob_s hf
    refine b_gR C dX6_clear_50 fl_X6_22 h7 er20 ?_
    refine b_iload_n C dX6_clear_53 1 rfl rfl ?_
    refine b_iconst C (v := 0) dX6_clear_54 (by decide) ?_
    obtain ⟨h21, hf⟩ := gd_s hf
    obtain ⟨h22, hf⟩ := gd_s hf
    obtain ⟨d23, ed23, hf⟩ := bd_s hf
    refine b_iast C h21 h22 ed23 dX6_clear_55 ?_
    refine b_aload_n C dX6_clear_56 0 rfl rfl ?_
    obtain ⟨r24, er24, hf⟩ := ob_s hf
    refine b_gR C dX6_clear_57 fl_X6_25 h7 er24 ?_
    refine b_iload_n C dX6_clear_60 1 rfl rfl ?_
    refine b_iconst C (v := (-1)) dX6_clear_61 (by decide) ?_
    obtain ⟨h25, hf⟩ := gd_s hf
    obtain ⟨h26, hf⟩ := gd_s hf
    obtain ⟨d27, ed27, hf⟩ := bd_s hf
    refine b_iast C h25 h26 ed27 dX6_clear_62 ?_
    obtain ⟨u28, eu28, hf⟩ := bd_s hf
    refine b_iinc C dX6_clear_63 1 rfl (by rw [eu28]; rfl) [(1, .int u28), (0, .ref (ad B x0))] (by decide) rfl ?_
    refine b_goto C (tgt := 22) dX6_clear_66 (by decide) ?_
    refine b_sub [(0, .ref (ad B x0)), (1, .int u28)] [1, 0] rfl ?_
    exact hK22 (u28, d27) hf
def fX6_clear_L22 (N : Nat) (g : Gs) (x0 : Nat) : Int32 × Ds → Option (Unit × Ds) := lp (fun K22 a => fX6_clear_B22 N g x0 K22 a.1 a.2) N
theorem tX6_clear_L22 {p : Program} {l : Launch} {e : Env} {s : State} {m : MethodId} {args : Array Value} {below : List Frame} {meth : Method} {c : Code} {D : va_G} {cy : Nat → ClassId} {B : Bs} (C : Cx p s m args c cX6_clear 2 RX6 D cy B) (hr : meth.sig.returnType = none) (hlocks : meth.locks = false) {N : Nat} {g : Gs} {x0 : Nat}  {dz : Ds} (a : Int32 × Ds) (hf : fX6_clear_L22 N g x0 a = some ((), dz)) : WB p l e rmX6_clear s m args below meth c 2 D cy B 0 0 (MQ below (QV D cy B g dz) args s 0 0 (wA B)) g a.2 [(0, .ref (ad B x0)), (1, .int a.1)] 22 [] :=
  lp_w (fun K22 hK22 a ha => tX6_clear_22 C hr hlocks hK22 ha) N a hf
set_option maxRecDepth 100000 in
def fX6_clear (N : Nat) (g : Gs) (x0 : Nat) (d : Ds) : Option (Unit × Ds) := gd (chk g x0 6) <| bd (sI d x0 0 0) fun d2 => (bd (sI d2 x0 1 0) fun d3 => (bd (sI d3 x0 2 0) fun d4 => (bd (sI d4 x0 3 0) fun d5 => (fX6_clear_L22 N g x0 (0, d5)))))
set_option maxHeartbeats 4000000 in
set_option maxRecDepth 100000 in
theorem tX6_clear_E {p : Program} {l : Launch} {e : Env} {s : State} {m : MethodId} {args : Array Value} {below : List Frame} {meth : Method} {c : Code} {D : va_G} {cy : Nat → ClassId} {B : Bs} (C : Cx p s m args c cX6_clear 2 RX6 D cy B) (hr : meth.sig.returnType = none) (hlocks : meth.locks = false) {N : Nat} {g : Gs} {x0 : Nat}  {dz : Ds} {d : Ds} (hf : fX6_clear N g x0 d = some ((), dz)) : WB p l e rmX6_clear s m args below meth c 2 D cy B 0 0 (MQ below (QV D cy B g dz) args s 0 0 (wA B)) g d [(0, .ref (ad B x0))] 0 [] := by
  unfold fX6_clear at hf
  refine b_aload_n C dX6_clear_0 0 rfl rfl ?_
  refine b_iconst C (v := 0) dX6_clear_1 (by decide) ?_
  obtain ⟨h1, hf⟩ := gd_s hf
  obtain ⟨d2, ed2, hf⟩ := bd_s hf
  refine b_pI C dX6_clear_2 fl_X6_28 fp6_0 h1 ed2 ?_
  refine b_aload_n C dX6_clear_5 0 rfl rfl ?_
  refine b_iconst C (v := 0) dX6_clear_6 (by decide) ?_
  obtain ⟨d3, ed3, hf⟩ := bd_s hf
  refine b_pI C dX6_clear_7 fl_X6_32 fp6_1 h1 ed3 ?_
  refine b_aload_n C dX6_clear_10 0 rfl rfl ?_
  refine b_iconst C (v := 0) dX6_clear_11 (by decide) ?_
  obtain ⟨d4, ed4, hf⟩ := bd_s hf
  refine b_pI C dX6_clear_12 fl_X6_35 fp6_2 h1 ed4 ?_
  refine b_aload_n C dX6_clear_15 0 rfl rfl ?_
  refine b_iconst C (v := 0) dX6_clear_16 (by decide) ?_
  obtain ⟨d5, ed5, hf⟩ := bd_s hf
  refine b_pI C dX6_clear_17 fl_X6_38 fp6_3 h1 ed5 ?_
  refine b_iconst C (v := 0) dX6_clear_20 (by decide) ?_
  refine b_istore_n C dX6_clear_21 rfl [(1, .int 0), (0, .ref (ad B x0))] (by decide) rfl ?_
  refine b_sub [(0, .ref (ad B x0)), (1, .int 0)] [1, 0] rfl ?_
  exact tX6_clear_L22 C hr hlocks (0, d5) hf
theorem kX6_clear (l : Launch) (D : va_G) (cy : Nat → ClassId) (B : Bs) {N : Nat} {g : Gs} {x0 : Nat}  {dz : Ds} {d : Ds} (hf : fX6_clear N g x0 d = some ((), dz)) : Met l yX6_clear (.code yX6_clear cX6_clear 2 none :: wl) rmX6_clear (PC D cy B [.ref (ad B x0)] g d) (QV D cy B g dz) 0 0 (wA B) :=
  met_of (by decide +kernel) (Nat.le_of_ble_eq_true rfl) (fun p e s m args below meth c C hr hlocks _ => b_sub [(0, .ref (ad B x0))] [0] rfl (tX6_clear_E C hr hlocks hf))
/-! KeyMatrix$Queue.clear()V -/
theorem fl_X4_15 : FLI RX4 15 4 1 := ⟨⟨RX4, TX4, 3, rfl, by decide, inl4, Or.inl (mW (mT2 (List.mem_of_getElem? (i := 80) (by decide +kernel))) rfl)⟩, by decide, by decide +kernel⟩
theorem fp4_1 : FPI 4 1 := ⟨ft4, (RX4, TX4, 3), rfl, by decide +kernel, by decide +kernel⟩
theorem fl_X4_19 : FLI RX4 19 4 2 := ⟨⟨RX4, TX4, 3, rfl, by decide, inl4, Or.inl (mW (mT2 (List.mem_of_getElem? (i := 83) (by decide +kernel))) rfl)⟩, by decide, by decide +kernel⟩
theorem fp4_2 : FPI 4 2 := ⟨ft4, (RX4, TX4, 3), rfl, by decide +kernel, by decide +kernel⟩
theorem dX4_clear_0 : decode cX4_clear 0 = .ok (.aload_n 0, 1) := by decide +kernel
theorem dX4_clear_1 : decode cX4_clear 1 = .ok (.iconst 0, 1) := by decide +kernel
theorem dX4_clear_2 : decode cX4_clear 2 = .ok (.putfield 15, 3) := by decide +kernel
theorem dX4_clear_5 : decode cX4_clear 5 = .ok (.aload_n 0, 1) := by decide +kernel
theorem dX4_clear_6 : decode cX4_clear 6 = .ok (.iconst 0, 1) := by decide +kernel
theorem dX4_clear_7 : decode cX4_clear 7 = .ok (.putfield 19, 3) := by decide +kernel
theorem dX4_clear_10 : decode cX4_clear 10 = .ok (.return_, 1) := by decide +kernel
def rmX4_clear : Room := { frames := 0, cells := 0, slots := 0, locals := 0 }
set_option maxRecDepth 100000 in
def fX4_clear (N : Nat) (g : Gs) (x0 : Nat) (d : Ds) : Option (Unit × Ds) := gd (chk g x0 4) <| bd (sI d x0 1 0) fun d2 => (bd (sI d2 x0 2 0) fun d3 => (some ((), d3)))
set_option maxHeartbeats 4000000 in
set_option maxRecDepth 100000 in
theorem tX4_clear_E {p : Program} {l : Launch} {e : Env} {s : State} {m : MethodId} {args : Array Value} {below : List Frame} {meth : Method} {c : Code} {D : va_G} {cy : Nat → ClassId} {B : Bs} (C : Cx p s m args c cX4_clear 1 RX4 D cy B) (hr : meth.sig.returnType = none) (hlocks : meth.locks = false) {N : Nat} {g : Gs} {x0 : Nat}  {dz : Ds} {d : Ds} (hf : fX4_clear N g x0 d = some ((), dz)) : WB p l e rmX4_clear s m args below meth c 1 D cy B 0 0 (MQ below (QV D cy B g dz) args s 0 0 (wA B)) g d [(0, .ref (ad B x0))] 0 [] := by
  unfold fX4_clear at hf
  refine b_aload_n C dX4_clear_0 0 rfl rfl ?_
  refine b_iconst C (v := 0) dX4_clear_1 (by decide) ?_
  obtain ⟨h1, hf⟩ := gd_s hf
  obtain ⟨d2, ed2, hf⟩ := bd_s hf
  refine b_pI C dX4_clear_2 fl_X4_15 fp4_1 h1 ed2 ?_
  refine b_aload_n C dX4_clear_5 0 rfl rfl ?_
  refine b_iconst C (v := 0) dX4_clear_6 (by decide) ?_
  obtain ⟨d3, ed3, hf⟩ := bd_s hf
  refine b_pI C dX4_clear_7 fl_X4_19 fp4_2 h1 ed3 ?_
  exact b_vret C hr hlocks hf dX4_clear_10
theorem kX4_clear (l : Launch) (D : va_G) (cy : Nat → ClassId) (B : Bs) {N : Nat} {g : Gs} {x0 : Nat}  {dz : Ds} {d : Ds} (hf : fX4_clear N g x0 d = some ((), dz)) : Met l yX4_clear (.code yX4_clear cX4_clear 1 none :: wl) rmX4_clear (PC D cy B [.ref (ad B x0)] g d) (QV D cy B g dz) 0 0 (wA B) :=
  met_of (by decide +kernel) (Nat.le_of_ble_eq_true rfl) (fun p e s m args below meth c C hr hlocks _ => b_sub [(0, .ref (ad B x0))] [0] rfl (tX4_clear_E C hr hlocks hf))
/-! KeyMatrix$Doing.clear()V -/
theorem fl_X3_27 : FLI RX3 27 3 4 := ⟨⟨RX3, TX3, 9, rfl, by decide, inl3, Or.inl (mW (mT2 (List.mem_of_getElem? (i := 107) (by decide +kernel))) rfl)⟩, by decide, by decide +kernel⟩
theorem fp3_4 : FPI 3 4 := ⟨ft3, (RX3, TX3, 9), rfl, by decide +kernel, by decide +kernel⟩
theorem fl_X3_31 : FLI RX3 31 3 5 := ⟨⟨RX3, TX3, 9, rfl, by decide, inl3, Or.inl (mW (mT2 (List.mem_of_getElem? (i := 108) (by decide +kernel))) rfl)⟩, by decide, by decide +kernel⟩
theorem fp3_5 : FPI 3 5 := ⟨ft3, (RX3, TX3, 9), rfl, by decide +kernel, by decide +kernel⟩
theorem fl_X3_9 : FLR RX3 9 3 0 := ⟨⟨RX3, TX3, 9, rfl, by decide, inl3, Or.inl (mW (mT2 (List.mem_of_getElem? (i := 98) (by decide +kernel))) rfl)⟩, by decide, by decide +kernel⟩
theorem fl_X3_15 : FLR RX3 15 3 1 := ⟨⟨RX3, TX3, 9, rfl, by decide, inl3, Or.inl (mW (mT2 (List.mem_of_getElem? (i := 101) (by decide +kernel))) rfl)⟩, by decide, by decide +kernel⟩
theorem fl_X3_18 : FLR RX3 18 3 2 := ⟨⟨RX3, TX3, 9, rfl, by decide, inl3, Or.inl (mW (mT2 (List.mem_of_getElem? (i := 104) (by decide +kernel))) rfl)⟩, by decide, by decide +kernel⟩
theorem dX3_clear_0 : decode cX3_clear 0 = .ok (.iconst 0, 1) := by decide +kernel
theorem dX3_clear_1 : decode cX3_clear 1 = .ok (.istore_n 1, 1) := by decide +kernel
theorem dX3_clear_2 : decode cX3_clear 2 = .ok (.iload_n 1, 1) := by decide +kernel
theorem dX3_clear_3 : decode cX3_clear 3 = .ok (.bipush 24, 2) := by decide +kernel
theorem dX3_clear_5 : decode cX3_clear 5 = .ok (.if_icmp .ge 30, 3) := by decide +kernel
theorem dX3_clear_8 : decode cX3_clear 8 = .ok (.aload_n 0, 1) := by decide +kernel
theorem dX3_clear_9 : decode cX3_clear 9 = .ok (.getfield 9, 3) := by decide +kernel
theorem dX3_clear_12 : decode cX3_clear 12 = .ok (.iload_n 1, 1) := by decide +kernel
theorem dX3_clear_13 : decode cX3_clear 13 = .ok (.iconst (-1), 1) := by decide +kernel
theorem dX3_clear_14 : decode cX3_clear 14 = .ok (.iastore, 1) := by decide +kernel
theorem dX3_clear_15 : decode cX3_clear 15 = .ok (.aload_n 0, 1) := by decide +kernel
theorem dX3_clear_16 : decode cX3_clear 16 = .ok (.getfield 15, 3) := by decide +kernel
theorem dX3_clear_19 : decode cX3_clear 19 = .ok (.iload_n 1, 1) := by decide +kernel
theorem dX3_clear_20 : decode cX3_clear 20 = .ok (.iconst (-1), 1) := by decide +kernel
theorem dX3_clear_21 : decode cX3_clear 21 = .ok (.iastore, 1) := by decide +kernel
theorem dX3_clear_22 : decode cX3_clear 22 = .ok (.aload_n 0, 1) := by decide +kernel
theorem dX3_clear_23 : decode cX3_clear 23 = .ok (.getfield 18, 3) := by decide +kernel
theorem dX3_clear_26 : decode cX3_clear 26 = .ok (.iload_n 1, 1) := by decide +kernel
theorem dX3_clear_27 : decode cX3_clear 27 = .ok (.iconst (-1), 1) := by decide +kernel
theorem dX3_clear_28 : decode cX3_clear 28 = .ok (.iastore, 1) := by decide +kernel
theorem dX3_clear_29 : decode cX3_clear 29 = .ok (.iinc 1 1, 3) := by decide +kernel
theorem dX3_clear_32 : decode cX3_clear 32 = .ok (.goto (-30), 3) := by decide +kernel
theorem dX3_clear_35 : decode cX3_clear 35 = .ok (.aload_n 0, 1) := by decide +kernel
theorem dX3_clear_36 : decode cX3_clear 36 = .ok (.iconst 0, 1) := by decide +kernel
theorem dX3_clear_37 : decode cX3_clear 37 = .ok (.putfield 27, 3) := by decide +kernel
theorem dX3_clear_40 : decode cX3_clear 40 = .ok (.aload_n 0, 1) := by decide +kernel
theorem dX3_clear_41 : decode cX3_clear 41 = .ok (.iconst 0, 1) := by decide +kernel
theorem dX3_clear_42 : decode cX3_clear 42 = .ok (.putfield 31, 3) := by decide +kernel
theorem dX3_clear_45 : decode cX3_clear 45 = .ok (.return_, 1) := by decide +kernel
def rmX3_clear : Room := { frames := 0, cells := 0, slots := 0, locals := 0 }
set_option maxRecDepth 100000 in
def fX3_clear_B2 (N : Nat) (g : Gs) (x0 : Nat) (K2 : Int32 × Ds → Option (Unit × Ds)) (y1 : Int32) (d : Ds) : Option (Unit × Ds) := if (24 : Int32) ≤ y1 then (gd (chk g x0 3) <| bd (sI d x0 4 0) fun d3 => (bd (sI d3 x0 5 0) fun d4 => (some ((), d4)))) else (gd (chk g x0 3) <| ob (gR g x0 0) fun r6 => (gd (chk g r6 102) <| gd (¬ (y1 < 0 ∨ gL g r6 ≤ y1.toNatClampNeg)) <| bd (sI d r6 y1.toNatClampNeg (-1)) fun d9 => (ob (gR g x0 1) fun r10 => (gd (chk g r10 102) <| gd (¬ (y1 < 0 ∨ gL g r10 ≤ y1.toNatClampNeg)) <| bd (sI d9 r10 y1.toNatClampNeg (-1)) fun d13 => (ob (gR g x0 2) fun r14 => (gd (chk g r14 102) <| gd (¬ (y1 < 0 ∨ gL g r14 ≤ y1.toNatClampNeg)) <| bd (sI d13 r14 y1.toNatClampNeg (-1)) fun d17 => (bd (y1 + 1) fun u18 => (K2 (u18, d17)))))))))
set_option maxHeartbeats 4000000 in
set_option maxRecDepth 100000 in
theorem tX3_clear_2 {p : Program} {l : Launch} {e : Env} {s : State} {m : MethodId} {args : Array Value} {below : List Frame} {meth : Method} {c : Code} {D : va_G} {cy : Nat → ClassId} {B : Bs} (C : Cx p s m args c cX3_clear 2 RX3 D cy B) (hr : meth.sig.returnType = none) (hlocks : meth.locks = false) {N : Nat} {g : Gs} {x0 : Nat}  {dz : Ds} {K2 : Int32 × Ds → Option (Unit × Ds)} (hK2 : ∀ a, K2 a = some ((), dz) → WB p l e rmX3_clear s m args below meth c 2 D cy B 0 0 (MQ below (QV D cy B g dz) args s 0 0 (wA B)) g a.2 [(0, .ref (ad B x0)), (1, .int a.1)] 2 []) {y1 : Int32} {d : Ds} (hf : fX3_clear_B2 N g x0 K2 y1 d = some ((), dz)) : WB p l e rmX3_clear s m args below meth c 2 D cy B 0 0 (MQ below (QV D cy B g dz) args s 0 0 (wA B)) g d [(0, .ref (ad B x0)), (1, .int y1)] 2 [] := by
  unfold fX3_clear_B2 at hf
  refine b_iload_n C dX3_clear_2 1 rfl rfl ?_
  refine b_bipush C (v := 24) dX3_clear_3 (by decide) ?_
  refine b_icmp_ge C (tgt := 35) dX3_clear_5 (by decide) (fun c1 => ?_) (fun c1 => ?_)
  · have hf := it_s c1 hf
    refine b_aload_n C dX3_clear_35 0 rfl rfl ?_
    refine b_iconst C (v := 0) dX3_clear_36 (by decide) ?_
    obtain ⟨h2, hf⟩ := gd_s hf
    obtain ⟨d3, ed3, hf⟩ := bd_s hf
    refine b_pI C dX3_clear_37 fl_X3_27 fp3_4 h2 ed3 ?_
    refine b_aload_n C dX3_clear_40 0 rfl rfl ?_
    refine b_iconst C (v := 0) dX3_clear_41 (by decide) ?_
    obtain ⟨d4, ed4, hf⟩ := bd_s hf
    refine b_pI C dX3_clear_42 fl_X3_31 fp3_5 h2 ed4 ?_
    exact b_vret C hr hlocks hf dX3_clear_45
  · have hf := if_s c1 hf
    refine b_aload_n C dX3_clear_8 0 rfl rfl ?_
    obtain ⟨h5, hf⟩ := gd_s hf
    obtain ⟨r6, er6, hf⟩ := ob_s hf
    refine b_gR C dX3_clear_9 fl_X3_9 h5 er6 ?_
    refine b_iload_n C dX3_clear_12 1 rfl rfl ?_
    refine b_iconst C (v := (-1)) dX3_clear_13 (by decide) ?_
    obtain ⟨h7, hf⟩ := gd_s hf
    obtain ⟨h8, hf⟩ := gd_s hf
    obtain ⟨d9, ed9, hf⟩ := bd_s hf
    refine b_iast C h7 h8 ed9 dX3_clear_14 ?_
    refine b_aload_n C dX3_clear_15 0 rfl rfl ?_
    obtain ⟨r10, er10, hf⟩ := ob_s hf
    refine b_gR C dX3_clear_16 fl_X3_15 h5 er10 ?_
    refine b_iload_n C dX3_clear_19 1 rfl rfl ?_
    refine b_iconst C (v := (-1)) dX3_clear_20 (by decide) ?_
    obtain ⟨h11, hf⟩ := gd_s hf
    obtain ⟨h12, hf⟩ := gd_s hf
    obtain ⟨d13, ed13, hf⟩ := bd_s hf
    refine b_iast C h11 h12 ed13 dX3_clear_21 ?_
    refine b_aload_n C dX3_clear_22 0 rfl rfl ?_
    obtain ⟨r14, er14, hf⟩ := ob_s hf
    refine b_gR C dX3_clear_23 fl_X3_18 h5 er14 ?_
    refine b_iload_n C dX3_clear_26 1 rfl rfl ?_
    refine b_iconst C (v := (-1)) dX3_clear_27 (by decide) ?_
    obtain ⟨h15, hf⟩ := gd_s hf
    obtain ⟨h16, hf⟩ := gd_s hf
    obtain ⟨d17, ed17, hf⟩ := bd_s hf
    refine b_iast C h15 h16 ed17 dX3_clear_28 ?_
    obtain ⟨u18, eu18, hf⟩ := bd_s hf
    refine b_iinc C dX3_clear_29 1 rfl (by rw [eu18]; rfl) [(1, .int u18), (0, .ref (ad B x0))] (by decide) rfl ?_
    refine b_goto C (tgt := 2) dX3_clear_32 (by decide) ?_
    refine b_sub [(0, .ref (ad B x0)), (1, .int u18)] [1, 0] rfl ?_
    exact hK2 (u18, d17) hf
def fX3_clear_L2 (N : Nat) (g : Gs) (x0 : Nat) : Int32 × Ds → Option (Unit × Ds) := lp (fun K2 a => fX3_clear_B2 N g x0 K2 a.1 a.2) N
theorem tX3_clear_L2 {p : Program} {l : Launch} {e : Env} {s : State} {m : MethodId} {args : Array Value} {below : List Frame} {meth : Method} {c : Code} {D : va_G} {cy : Nat → ClassId} {B : Bs} (C : Cx p s m args c cX3_clear 2 RX3 D cy B) (hr : meth.sig.returnType = none) (hlocks : meth.locks = false) {N : Nat} {g : Gs} {x0 : Nat}  {dz : Ds} (a : Int32 × Ds) (hf : fX3_clear_L2 N g x0 a = some ((), dz)) : WB p l e rmX3_clear s m args below meth c 2 D cy B 0 0 (MQ below (QV D cy B g dz) args s 0 0 (wA B)) g a.2 [(0, .ref (ad B x0)), (1, .int a.1)] 2 [] :=
  lp_w (fun K2 hK2 a ha => tX3_clear_2 C hr hlocks hK2 ha) N a hf
set_option maxRecDepth 100000 in
def fX3_clear (N : Nat) (g : Gs) (x0 : Nat) (d : Ds) : Option (Unit × Ds) := fX3_clear_L2 N g x0 (0, d)
set_option maxHeartbeats 4000000 in
set_option maxRecDepth 100000 in
theorem tX3_clear_E {p : Program} {l : Launch} {e : Env} {s : State} {m : MethodId} {args : Array Value} {below : List Frame} {meth : Method} {c : Code} {D : va_G} {cy : Nat → ClassId} {B : Bs} (C : Cx p s m args c cX3_clear 2 RX3 D cy B) (hr : meth.sig.returnType = none) (hlocks : meth.locks = false) {N : Nat} {g : Gs} {x0 : Nat}  {dz : Ds} {d : Ds} (hf : fX3_clear N g x0 d = some ((), dz)) : WB p l e rmX3_clear s m args below meth c 2 D cy B 0 0 (MQ below (QV D cy B g dz) args s 0 0 (wA B)) g d [(0, .ref (ad B x0))] 0 [] := by
  unfold fX3_clear at hf
  refine b_iconst C (v := 0) dX3_clear_0 (by decide) ?_
  refine b_istore_n C dX3_clear_1 rfl [(1, .int 0), (0, .ref (ad B x0))] (by decide) rfl ?_
  refine b_sub [(0, .ref (ad B x0)), (1, .int 0)] [1, 0] rfl ?_
  exact tX3_clear_L2 C hr hlocks (0, d) hf
theorem kX3_clear (l : Launch) (D : va_G) (cy : Nat → ClassId) (B : Bs) {N : Nat} {g : Gs} {x0 : Nat}  {dz : Ds} {d : Ds} (hf : fX3_clear N g x0 d = some ((), dz)) : Met l yX3_clear (.code yX3_clear cX3_clear 2 none :: wl) rmX3_clear (PC D cy B [.ref (ad B x0)] g d) (QV D cy B g dz) 0 0 (wA B) :=
  met_of (by decide +kernel) (Nat.le_of_ble_eq_true rfl) (fun p e s m args below meth c C hr hlocks _ => b_sub [(0, .ref (ad B x0))] [0] rfl (tX3_clear_E C hr hlocks hf))
/-! KeyMatrix$Reports.makeLatest(II)V -/
theorem fl_X5_43 : FLI RX5 43 5 5 := ⟨⟨RX5, TX5, 9, rfl, by decide, inl5, Or.inl (mW (mT2 (List.mem_of_getElem? (i := 154) (by decide +kernel))) rfl)⟩, by decide, by decide +kernel⟩
theorem fp5_5 : FPI 5 5 := ⟨ft5, (RX5, TX5, 9), rfl, by decide +kernel, by decide +kernel⟩
theorem fl_X5_46 : FLI RX5 46 5 6 := ⟨⟨RX5, TX5, 9, rfl, by decide, inl5, Or.inl (mW (mT2 (List.mem_of_getElem? (i := 156) (by decide +kernel))) rfl)⟩, by decide, by decide +kernel⟩
theorem fp5_6 : FPI 5 6 := ⟨ft5, (RX5, TX5, 9), rfl, by decide +kernel, by decide +kernel⟩
theorem fl_X5_49 : FLI RX5 49 5 8 := ⟨⟨RX5, TX5, 9, rfl, by decide, inl5, Or.inl (mW (mT2 (List.mem_of_getElem? (i := 160) (by decide +kernel))) rfl)⟩, by decide, by decide +kernel⟩
theorem fp5_8 : FPI 5 8 := ⟨ft5, (RX5, TX5, 9), rfl, by decide +kernel, by decide +kernel⟩
theorem dX5_makeLatest_0 : decode cX5_makeLatest 0 = .ok (.aload_n 0, 1) := by decide +kernel
theorem dX5_makeLatest_1 : decode cX5_makeLatest 1 = .ok (.iload_n 1, 1) := by decide +kernel
theorem dX5_makeLatest_2 : decode cX5_makeLatest 2 = .ok (.putfield 43, 3) := by decide +kernel
theorem dX5_makeLatest_5 : decode cX5_makeLatest 5 = .ok (.aload_n 0, 1) := by decide +kernel
theorem dX5_makeLatest_6 : decode cX5_makeLatest 6 = .ok (.iload_n 2, 1) := by decide +kernel
theorem dX5_makeLatest_7 : decode cX5_makeLatest 7 = .ok (.putfield 46, 3) := by decide +kernel
theorem dX5_makeLatest_10 : decode cX5_makeLatest 10 = .ok (.aload_n 0, 1) := by decide +kernel
theorem dX5_makeLatest_11 : decode cX5_makeLatest 11 = .ok (.iload_n 1, 1) := by decide +kernel
theorem dX5_makeLatest_12 : decode cX5_makeLatest 12 = .ok (.iconst (-1), 1) := by decide +kernel
theorem dX5_makeLatest_13 : decode cX5_makeLatest 13 = .ok (.if_icmp .ne 7, 3) := by decide +kernel
theorem dX5_makeLatest_16 : decode cX5_makeLatest 16 = .ok (.iconst (-1), 1) := by decide +kernel
theorem dX5_makeLatest_17 : decode cX5_makeLatest 17 = .ok (.goto 4, 3) := by decide +kernel
theorem dX5_makeLatest_20 : decode cX5_makeLatest 20 = .ok (.iconst 0, 1) := by decide +kernel
theorem dX5_makeLatest_21 : decode cX5_makeLatest 21 = .ok (.putfield 49, 3) := by decide +kernel
theorem dX5_makeLatest_24 : decode cX5_makeLatest 24 = .ok (.return_, 1) := by decide +kernel
def rmX5_makeLatest : Room := { frames := 0, cells := 0, slots := 0, locals := 0 }
set_option maxRecDepth 100000 in
def fX5_makeLatest_J21 (N : Nat) (g : Gs) (x0 : Nat) (x1 : Int32) (x2 : Int32) (z0 : Int32) (z1 : Nat) (d : Ds) : Option (Unit × Ds) := gd (chk g z1 5) <| bd (sI d z1 8 z0) fun d6 => (some ((), d6))
set_option maxHeartbeats 4000000 in
set_option maxRecDepth 100000 in
theorem tX5_makeLatest_21 {p : Program} {l : Launch} {e : Env} {s : State} {m : MethodId} {args : Array Value} {below : List Frame} {meth : Method} {c : Code} {D : va_G} {cy : Nat → ClassId} {B : Bs} (C : Cx p s m args c cX5_makeLatest 3 RX5 D cy B) (hr : meth.sig.returnType = none) (hlocks : meth.locks = false) {N : Nat} {g : Gs} {x0 : Nat} {x1 : Int32} {x2 : Int32}  {dz : Ds} {z0 : Int32} {z1 : Nat} {d : Ds} (hf : fX5_makeLatest_J21 N g x0 x1 x2 z0 z1 d = some ((), dz)) : WB p l e rmX5_makeLatest s m args below meth c 3 D cy B 0 0 (MQ below (QV D cy B g dz) args s 0 0 (wA B)) g d [(0, .ref (ad B x0)), (1, .int x1), (2, .int x2)] 21 [.int z0, .ref (ad B z1)] := by
  unfold fX5_makeLatest_J21 at hf
  obtain ⟨h5, hf⟩ := gd_s hf
  obtain ⟨d6, ed6, hf⟩ := bd_s hf
  refine b_pI C dX5_makeLatest_21 fl_X5_49 fp5_8 h5 ed6 ?_
  exact b_vret C hr hlocks hf dX5_makeLatest_24
set_option maxRecDepth 100000 in
def fX5_makeLatest (N : Nat) (g : Gs) (x0 : Nat) (x1 : Int32) (x2 : Int32) (d : Ds) : Option (Unit × Ds) := gd (chk g x0 5) <| bd (sI d x0 5 x1) fun d2 => (bd (sI d2 x0 6 x2) fun d3 => (if x1 = (-1 : Int32) then (fX5_makeLatest_J21 N g x0 x1 x2 (-1) x0 d3) else (fX5_makeLatest_J21 N g x0 x1 x2 0 x0 d3)))
set_option maxHeartbeats 4000000 in
set_option maxRecDepth 100000 in
theorem tX5_makeLatest_E {p : Program} {l : Launch} {e : Env} {s : State} {m : MethodId} {args : Array Value} {below : List Frame} {meth : Method} {c : Code} {D : va_G} {cy : Nat → ClassId} {B : Bs} (C : Cx p s m args c cX5_makeLatest 3 RX5 D cy B) (hr : meth.sig.returnType = none) (hlocks : meth.locks = false) {N : Nat} {g : Gs} {x0 : Nat} {x1 : Int32} {x2 : Int32}  {dz : Ds} {d : Ds} (hf : fX5_makeLatest N g x0 x1 x2 d = some ((), dz)) : WB p l e rmX5_makeLatest s m args below meth c 3 D cy B 0 0 (MQ below (QV D cy B g dz) args s 0 0 (wA B)) g d [(0, .ref (ad B x0)), (1, .int x1), (2, .int x2)] 0 [] := by
  unfold fX5_makeLatest at hf
  refine b_aload_n C dX5_makeLatest_0 0 rfl rfl ?_
  refine b_iload_n C dX5_makeLatest_1 1 rfl rfl ?_
  obtain ⟨h1, hf⟩ := gd_s hf
  obtain ⟨d2, ed2, hf⟩ := bd_s hf
  refine b_pI C dX5_makeLatest_2 fl_X5_43 fp5_5 h1 ed2 ?_
  refine b_aload_n C dX5_makeLatest_5 0 rfl rfl ?_
  refine b_iload_n C dX5_makeLatest_6 2 rfl rfl ?_
  obtain ⟨d3, ed3, hf⟩ := bd_s hf
  refine b_pI C dX5_makeLatest_7 fl_X5_46 fp5_6 h1 ed3 ?_
  refine b_aload_n C dX5_makeLatest_10 0 rfl rfl ?_
  refine b_iload_n C dX5_makeLatest_11 1 rfl rfl ?_
  refine b_iconst C (v := (-1)) dX5_makeLatest_12 (by decide) ?_
  refine b_icmp_ne C (tgt := 20) dX5_makeLatest_13 (by decide) (fun c4 => ?_) (fun c4 => ?_)
  · have hf := if_s c4 hf
    refine b_iconst C (v := 0) dX5_makeLatest_20 (by decide) ?_
    refine b_sub [(0, .ref (ad B x0)), (1, .int x1), (2, .int x2)] [0, 1, 2] rfl ?_
    exact tX5_makeLatest_21 C hr hlocks hf
  · have hf := it_s c4 hf
    refine b_iconst C (v := (-1)) dX5_makeLatest_16 (by decide) ?_
    refine b_goto C (tgt := 21) dX5_makeLatest_17 (by decide) ?_
    refine b_sub [(0, .ref (ad B x0)), (1, .int x1), (2, .int x2)] [0, 1, 2] rfl ?_
    exact tX5_makeLatest_21 C hr hlocks hf
theorem kX5_makeLatest (l : Launch) (D : va_G) (cy : Nat → ClassId) (B : Bs) {N : Nat} {g : Gs} {x0 : Nat} {x1 : Int32} {x2 : Int32}  {dz : Ds} {d : Ds} (hf : fX5_makeLatest N g x0 x1 x2 d = some ((), dz)) : Met l yX5_makeLatest (.code yX5_makeLatest cX5_makeLatest 3 none :: wl) rmX5_makeLatest (PC D cy B [.ref (ad B x0), .int x1, .int x2] g d) (QV D cy B g dz) 0 0 (wA B) :=
  met_of (by decide +kernel) (Nat.le_of_ble_eq_true rfl) (fun p e s m args below meth c C hr hlocks _ => b_sub [(0, .ref (ad B x0)), (1, .int x1), (2, .int x2)] [0, 1, 2] rfl (tX5_makeLatest_E C hr hlocks hf))
/-! KeyMatrix$Reports.clear()V -/
theorem fl_X5_26 : FLI RX5 26 5 4 := ⟨⟨RX5, TX5, 9, rfl, by decide, inl5, Or.inl (mW (mT2 (List.mem_of_getElem? (i := 152) (by decide +kernel))) rfl)⟩, by decide, by decide +kernel⟩
theorem fp5_4 : FPI 5 4 := ⟨ft5, (RX5, TX5, 9), rfl, by decide +kernel, by decide +kernel⟩
theorem fl_X5_30 : FLI RX5 30 5 7 := ⟨⟨RX5, TX5, 9, rfl, by decide, inl5, Or.inl (mW (mT2 (List.mem_of_getElem? (i := 158) (by decide +kernel))) rfl)⟩, by decide, by decide +kernel⟩
theorem fp5_7 : FPI 5 7 := ⟨ft5, (RX5, TX5, 9), rfl, by decide +kernel, by decide +kernel⟩
theorem yo_X5_makeLatest : yX5_makeLatest.cls ≠ "java/lang/invoke/MethodHandle" ∧ yX5_makeLatest.cls ≠ "java/lang/invoke/VarHandle" ∧ (parseMethodDescriptor yX5_makeLatest.desc).map (fun d => d.parameters.length) = some 2 := by decide +kernel
theorem co_X5_makeLatest : Cond.code yX5_makeLatest cX5_makeLatest 3 none ∈ wl := mW (mT2 (List.mem_of_getElem? (i := 204) (by decide +kernel))) rfl
theorem in_X5_makeLatest : Cond.initialized yX5_makeLatest.cls ∈ wl := mW (mT1 (List.mem_of_getElem? (i := 11) (by decide +kernel))) rfl
theorem im_X5_makeLatest : Cond.instanceMethod yX5_makeLatest ∈ wl := mW (mT2 (List.mem_of_getElem? (i := 203) (by decide +kernel))) rfl
theorem se_X5_makeLatest : Cond.selects yX5_makeLatest.cls yX5_makeLatest yX5_makeLatest ∈ wl := mW (mT0 (List.mem_of_getElem? (i := 0) (by decide +kernel))) rfl
theorem lv_X5_33 : LV RX5 33 yX5_makeLatest cX5_makeLatest 3 none 2 5 := ⟨⟨(RX5, TX5, 9), rfl, rfl⟩, yo_X5_makeLatest, mW (mT2 (List.mem_of_getElem? (i := 201) (by decide +kernel))) rfl, im_X5_makeLatest, se_X5_makeLatest, in_X5_makeLatest, co_X5_makeLatest⟩
theorem dX5_clear_0 : decode cX5_clear 0 = .ok (.aload_n 0, 1) := by decide +kernel
theorem dX5_clear_1 : decode cX5_clear 1 = .ok (.iconst 0, 1) := by decide +kernel
theorem dX5_clear_2 : decode cX5_clear 2 = .ok (.putfield 26, 3) := by decide +kernel
theorem dX5_clear_5 : decode cX5_clear 5 = .ok (.aload_n 0, 1) := by decide +kernel
theorem dX5_clear_6 : decode cX5_clear 6 = .ok (.iconst 0, 1) := by decide +kernel
theorem dX5_clear_7 : decode cX5_clear 7 = .ok (.putfield 30, 3) := by decide +kernel
theorem dX5_clear_10 : decode cX5_clear 10 = .ok (.aload_n 0, 1) := by decide +kernel
theorem dX5_clear_11 : decode cX5_clear 11 = .ok (.iconst (-1), 1) := by decide +kernel
theorem dX5_clear_12 : decode cX5_clear 12 = .ok (.iconst (-1), 1) := by decide +kernel
theorem dX5_clear_13 : decode cX5_clear 13 = .ok (.invokevirtual 33, 3) := by decide +kernel
theorem dX5_clear_16 : decode cX5_clear 16 = .ok (.return_, 1) := by decide +kernel
def rmX5_clear : Room := { frames := 1, cells := 0, slots := 0, locals := 22 }
set_option maxRecDepth 100000 in
def fX5_clear (N : Nat) (g : Gs) (x0 : Nat) (d : Ds) : Option (Unit × Ds) := gd (chk g x0 5) <| bd (sI d x0 4 0) fun d2 => (bd (sI d2 x0 7 0) fun d3 => (cv (fX5_makeLatest N g x0 (-1) (-1) d3) fun d4 => (some ((), d4))))
set_option maxHeartbeats 4000000 in
set_option maxRecDepth 100000 in
theorem tX5_clear_E {p : Program} {l : Launch} {e : Env} {s : State} {m : MethodId} {args : Array Value} {below : List Frame} {meth : Method} {c : Code} {D : va_G} {cy : Nat → ClassId} {B : Bs} (C : Cx p s m args c cX5_clear 1 RX5 D cy B) (hr : meth.sig.returnType = none) (hlocks : meth.locks = false) {N : Nat} {g : Gs} {x0 : Nat}  {dz : Ds} {d : Ds} (hf : fX5_clear N g x0 d = some ((), dz)) : WB p l e rmX5_clear s m args below meth c 1 D cy B 0 0 (MQ below (QV D cy B g dz) args s 0 0 (wA B)) g d [(0, .ref (ad B x0))] 0 [] := by
  unfold fX5_clear at hf
  refine b_aload_n C dX5_clear_0 0 rfl rfl ?_
  refine b_iconst C (v := 0) dX5_clear_1 (by decide) ?_
  obtain ⟨h1, hf⟩ := gd_s hf
  obtain ⟨d2, ed2, hf⟩ := bd_s hf
  refine b_pI C dX5_clear_2 fl_X5_26 fp5_4 h1 ed2 ?_
  refine b_aload_n C dX5_clear_5 0 rfl rfl ?_
  refine b_iconst C (v := 0) dX5_clear_6 (by decide) ?_
  obtain ⟨d3, ed3, hf⟩ := bd_s hf
  refine b_pI C dX5_clear_7 fl_X5_30 fp5_7 h1 ed3 ?_
  refine b_aload_n C dX5_clear_10 0 rfl rfl ?_
  refine b_iconst C (v := (-1)) dX5_clear_11 (by decide) ?_
  refine b_iconst C (v := (-1)) dX5_clear_12 (by decide) ?_
  obtain ⟨d4, k5, hf⟩ := cv_s hf
  refine b_cVN C [] dX5_clear_13 (kX5_makeLatest l D cy B k5) lv_X5_33 ⟨rfl, rfl, Nat.le_of_ble_eq_true rfl, Nat.le_of_ble_eq_true rfl⟩ h1 (by decide) rfl (Nat.le_of_ble_eq_true rfl) ⟨Nat.zero_le _, Nat.zero_le _⟩ rfl ?_
  exact b_vret C hr hlocks hf dX5_clear_16
theorem kX5_clear (l : Launch) (D : va_G) (cy : Nat → ClassId) (B : Bs) {N : Nat} {g : Gs} {x0 : Nat}  {dz : Ds} {d : Ds} (hf : fX5_clear N g x0 d = some ((), dz)) : Met l yX5_clear (.code yX5_clear cX5_clear 1 none :: wl) rmX5_clear (PC D cy B [.ref (ad B x0)] g d) (QV D cy B g dz) 0 0 (wA B) :=
  met_of (by decide +kernel) (Nat.le_of_ble_eq_true rfl) (fun p e s m args below meth c C hr hlocks _ => b_sub [(0, .ref (ad B x0))] [0] rfl (tX5_clear_E C hr hlocks hf))
/-! KeyMatrix$Course.clear()V -/
theorem inl1 : ∀ w ∈ u_ws RX1 TX1 6, w ∈ wl := by
  have h0 : u_ws RX1 TX1 6 = [Cond.laysFinal "KeyMatrix$Course" "KeyMatrix$Course" "board" "LKeyMatrix$Board;", Cond.laysFinal "KeyMatrix$Course" "KeyMatrix$Course" "scan" "LKeyMatrix$Scan;", Cond.laysFinal "KeyMatrix$Course" "KeyMatrix$Course" "queue" "LKeyMatrix$Queue;", Cond.laysFinal "KeyMatrix$Course" "KeyMatrix$Course" "doing" "LKeyMatrix$Doing;", Cond.laysFinal "KeyMatrix$Course" "KeyMatrix$Course" "reports" "LKeyMatrix$Reports;", Cond.lays "KeyMatrix$Course" "KeyMatrix$Course" "now" "I"] := by decide +kernel
  rw [h0]
  exact List.forall_mem_cons.mpr ⟨mW (mT2 (List.mem_of_getElem? (i := 216) (by decide +kernel))) rfl, List.forall_mem_cons.mpr ⟨mW (mT2 (List.mem_of_getElem? (i := 218) (by decide +kernel))) rfl, List.forall_mem_cons.mpr ⟨mW (mT2 (List.mem_of_getElem? (i := 220) (by decide +kernel))) rfl, List.forall_mem_cons.mpr ⟨mW (mT2 (List.mem_of_getElem? (i := 222) (by decide +kernel))) rfl, List.forall_mem_cons.mpr ⟨mW (mT2 (List.mem_of_getElem? (i := 224) (by decide +kernel))) rfl, List.forall_mem_cons.mpr ⟨mW (mT2 (List.mem_of_getElem? (i := 226) (by decide +kernel))) rfl, fun _ h => absurd h List.not_mem_nil⟩⟩⟩⟩⟩⟩
theorem fl_X1_46 : FLI RX1 46 1 5 := ⟨⟨RX1, TX1, 6, rfl, by decide, inl1, Or.inl (mW (mT2 (List.mem_of_getElem? (i := 214) (by decide +kernel))) rfl)⟩, by decide, by decide +kernel⟩
theorem ft1 : FT 1 := ⟨RX1, TX1, 6, tyX1, rfl, tyX1_ok, nmX1⟩
theorem fp1_5 : FPI 1 5 := ⟨ft1, (RX1, TX1, 6), rfl, by decide +kernel, by decide +kernel⟩
theorem fl_X1_12 : FLR RX1 12 1 1 := ⟨⟨RX1, TX1, 6, rfl, by decide, inl1, Or.inl (mW (mT2 (List.mem_of_getElem? (i := 206) (by decide +kernel))) rfl)⟩, by decide, by decide +kernel⟩
theorem yo_X6_clear : yX6_clear.cls ≠ "java/lang/invoke/MethodHandle" ∧ yX6_clear.cls ≠ "java/lang/invoke/VarHandle" ∧ (parseMethodDescriptor yX6_clear.desc).map (fun d => d.parameters.length) = some 0 := by decide +kernel
theorem co_X6_clear : Cond.code yX6_clear cX6_clear 2 none ∈ wl := mW (mT2 (List.mem_of_getElem? (i := 188) (by decide +kernel))) rfl
theorem in_X6_clear : Cond.initialized yX6_clear.cls ∈ wl := mW (mT1 (List.mem_of_getElem? (i := 8) (by decide +kernel))) rfl
theorem im_X6_clear : Cond.instanceMethod yX6_clear ∈ wl := mW (mT2 (List.mem_of_getElem? (i := 186) (by decide +kernel))) rfl
theorem se_X6_clear : Cond.selects yX6_clear.cls yX6_clear yX6_clear ∈ wl := mW (mT2 (List.mem_of_getElem? (i := 187) (by decide +kernel))) rfl
theorem lv_X1_50 : LV RX1 50 yX6_clear cX6_clear 2 none 0 6 := ⟨⟨(RX6, TX6, 9), rfl, rfl⟩, yo_X6_clear, mW (mT2 (List.mem_of_getElem? (i := 185) (by decide +kernel))) rfl, im_X6_clear, se_X6_clear, in_X6_clear, co_X6_clear⟩
theorem fl_X1_21 : FLR RX1 21 1 2 := ⟨⟨RX1, TX1, 6, rfl, by decide, inl1, Or.inl (mW (mT2 (List.mem_of_getElem? (i := 208) (by decide +kernel))) rfl)⟩, by decide, by decide +kernel⟩
theorem yo_X4_clear : yX4_clear.cls ≠ "java/lang/invoke/MethodHandle" ∧ yX4_clear.cls ≠ "java/lang/invoke/VarHandle" ∧ (parseMethodDescriptor yX4_clear.desc).map (fun d => d.parameters.length) = some 0 := by decide +kernel
theorem co_X4_clear : Cond.code yX4_clear cX4_clear 1 none ∈ wl := mW (mT2 (List.mem_of_getElem? (i := 192) (by decide +kernel))) rfl
theorem in_X4_clear : Cond.initialized yX4_clear.cls ∈ wl := mW (mT1 (List.mem_of_getElem? (i := 9) (by decide +kernel))) rfl
theorem im_X4_clear : Cond.instanceMethod yX4_clear ∈ wl := mW (mT2 (List.mem_of_getElem? (i := 190) (by decide +kernel))) rfl
theorem se_X4_clear : Cond.selects yX4_clear.cls yX4_clear yX4_clear ∈ wl := mW (mT2 (List.mem_of_getElem? (i := 191) (by decide +kernel))) rfl
theorem lv_X1_51 : LV RX1 51 yX4_clear cX4_clear 1 none 0 4 := ⟨⟨(RX4, TX4, 3), rfl, rfl⟩, yo_X4_clear, mW (mT2 (List.mem_of_getElem? (i := 189) (by decide +kernel))) rfl, im_X4_clear, se_X4_clear, in_X4_clear, co_X4_clear⟩
theorem fl_X1_28 : FLR RX1 28 1 3 := ⟨⟨RX1, TX1, 6, rfl, by decide, inl1, Or.inl (mW (mT2 (List.mem_of_getElem? (i := 210) (by decide +kernel))) rfl)⟩, by decide, by decide +kernel⟩
theorem yo_X3_clear : yX3_clear.cls ≠ "java/lang/invoke/MethodHandle" ∧ yX3_clear.cls ≠ "java/lang/invoke/VarHandle" ∧ (parseMethodDescriptor yX3_clear.desc).map (fun d => d.parameters.length) = some 0 := by decide +kernel
theorem co_X3_clear : Cond.code yX3_clear cX3_clear 2 none ∈ wl := mW (mT2 (List.mem_of_getElem? (i := 196) (by decide +kernel))) rfl
theorem in_X3_clear : Cond.initialized yX3_clear.cls ∈ wl := mW (mT1 (List.mem_of_getElem? (i := 10) (by decide +kernel))) rfl
theorem im_X3_clear : Cond.instanceMethod yX3_clear ∈ wl := mW (mT2 (List.mem_of_getElem? (i := 194) (by decide +kernel))) rfl
theorem se_X3_clear : Cond.selects yX3_clear.cls yX3_clear yX3_clear ∈ wl := mW (mT2 (List.mem_of_getElem? (i := 195) (by decide +kernel))) rfl
theorem lv_X1_52 : LV RX1 52 yX3_clear cX3_clear 2 none 0 3 := ⟨⟨(RX3, TX3, 9), rfl, rfl⟩, yo_X3_clear, mW (mT2 (List.mem_of_getElem? (i := 193) (by decide +kernel))) rfl, im_X3_clear, se_X3_clear, in_X3_clear, co_X3_clear⟩
theorem fl_X1_35 : FLR RX1 35 1 4 := ⟨⟨RX1, TX1, 6, rfl, by decide, inl1, Or.inl (mW (mT2 (List.mem_of_getElem? (i := 212) (by decide +kernel))) rfl)⟩, by decide, by decide +kernel⟩
theorem yo_X5_clear : yX5_clear.cls ≠ "java/lang/invoke/MethodHandle" ∧ yX5_clear.cls ≠ "java/lang/invoke/VarHandle" ∧ (parseMethodDescriptor yX5_clear.desc).map (fun d => d.parameters.length) = some 0 := by decide +kernel
theorem co_X5_clear : Cond.code yX5_clear cX5_clear 1 none ∈ wl := mW (mT2 (List.mem_of_getElem? (i := 200) (by decide +kernel))) rfl
theorem in_X5_clear : Cond.initialized yX5_clear.cls ∈ wl := mW (mT1 (List.mem_of_getElem? (i := 11) (by decide +kernel))) rfl
theorem im_X5_clear : Cond.instanceMethod yX5_clear ∈ wl := mW (mT2 (List.mem_of_getElem? (i := 198) (by decide +kernel))) rfl
theorem se_X5_clear : Cond.selects yX5_clear.cls yX5_clear yX5_clear ∈ wl := mW (mT2 (List.mem_of_getElem? (i := 199) (by decide +kernel))) rfl
theorem lv_X1_53 : LV RX1 53 yX5_clear cX5_clear 1 none 0 5 := ⟨⟨(RX5, TX5, 9), rfl, rfl⟩, yo_X5_clear, mW (mT2 (List.mem_of_getElem? (i := 197) (by decide +kernel))) rfl, im_X5_clear, se_X5_clear, in_X5_clear, co_X5_clear⟩
theorem dX1_clear_0 : decode cX1_clear 0 = .ok (.aload_n 0, 1) := by decide +kernel
theorem dX1_clear_1 : decode cX1_clear 1 = .ok (.iconst 0, 1) := by decide +kernel
theorem dX1_clear_2 : decode cX1_clear 2 = .ok (.putfield 46, 3) := by decide +kernel
theorem dX1_clear_5 : decode cX1_clear 5 = .ok (.aload_n 0, 1) := by decide +kernel
theorem dX1_clear_6 : decode cX1_clear 6 = .ok (.getfield 12, 3) := by decide +kernel
theorem dX1_clear_9 : decode cX1_clear 9 = .ok (.invokevirtual 50, 3) := by decide +kernel
theorem dX1_clear_12 : decode cX1_clear 12 = .ok (.aload_n 0, 1) := by decide +kernel
theorem dX1_clear_13 : decode cX1_clear 13 = .ok (.getfield 21, 3) := by decide +kernel
theorem dX1_clear_16 : decode cX1_clear 16 = .ok (.invokevirtual 51, 3) := by decide +kernel
theorem dX1_clear_19 : decode cX1_clear 19 = .ok (.aload_n 0, 1) := by decide +kernel
theorem dX1_clear_20 : decode cX1_clear 20 = .ok (.getfield 28, 3) := by decide +kernel
theorem dX1_clear_23 : decode cX1_clear 23 = .ok (.invokevirtual 52, 3) := by decide +kernel
theorem dX1_clear_26 : decode cX1_clear 26 = .ok (.aload_n 0, 1) := by decide +kernel
theorem dX1_clear_27 : decode cX1_clear 27 = .ok (.getfield 35, 3) := by decide +kernel
theorem dX1_clear_30 : decode cX1_clear 30 = .ok (.invokevirtual 53, 3) := by decide +kernel
theorem dX1_clear_33 : decode cX1_clear 33 = .ok (.return_, 1) := by decide +kernel
def rmX1_clear : Room := { frames := 2, cells := 0, slots := 0, locals := 42 }
set_option maxRecDepth 100000 in
def fX1_clear (N : Nat) (g : Gs) (x0 : Nat) (d : Ds) : Option (Unit × Ds) := gd (chk g x0 1) <| bd (sI d x0 5 0) fun d2 => (ob (gR g x0 1) fun r3 => (gd (chk g r3 6) <| cv (fX6_clear N g r3 d2) fun d5 => (ob (gR g x0 2) fun r7 => (gd (chk g r7 4) <| cv (fX4_clear N g r7 d5) fun d9 => (ob (gR g x0 3) fun r11 => (gd (chk g r11 3) <| cv (fX3_clear N g r11 d9) fun d13 => (ob (gR g x0 4) fun r15 => (gd (chk g r15 5) <| cv (fX5_clear N g r15 d13) fun d17 => (some ((), d17))))))))))
set_option maxHeartbeats 4000000 in
set_option maxRecDepth 100000 in
theorem tX1_clear_E {p : Program} {l : Launch} {e : Env} {s : State} {m : MethodId} {args : Array Value} {below : List Frame} {meth : Method} {c : Code} {D : va_G} {cy : Nat → ClassId} {B : Bs} (C : Cx p s m args c cX1_clear 1 RX1 D cy B) (hr : meth.sig.returnType = none) (hlocks : meth.locks = false) {N : Nat} {g : Gs} {x0 : Nat}  {dz : Ds} {d : Ds} (hf : fX1_clear N g x0 d = some ((), dz)) : WB p l e rmX1_clear s m args below meth c 1 D cy B 0 0 (MQ below (QV D cy B g dz) args s 0 0 (wA B)) g d [(0, .ref (ad B x0))] 0 [] := by
  unfold fX1_clear at hf
  refine b_aload_n C dX1_clear_0 0 rfl rfl ?_
  refine b_iconst C (v := 0) dX1_clear_1 (by decide) ?_
  obtain ⟨h1, hf⟩ := gd_s hf
  obtain ⟨d2, ed2, hf⟩ := bd_s hf
  refine b_pI C dX1_clear_2 fl_X1_46 fp1_5 h1 ed2 ?_
  refine b_aload_n C dX1_clear_5 0 rfl rfl ?_
  obtain ⟨r3, er3, hf⟩ := ob_s hf
  refine b_gR C dX1_clear_6 fl_X1_12 h1 er3 ?_
  obtain ⟨h4, hf⟩ := gd_s hf
  obtain ⟨d5, k6, hf⟩ := cv_s hf
  refine b_cVN C [] dX1_clear_9 (kX6_clear l D cy B k6) lv_X1_50 ⟨rfl, rfl, Nat.le_of_ble_eq_true rfl, Nat.le_of_ble_eq_true rfl⟩ h4 (by decide) rfl (Nat.le_of_ble_eq_true rfl) ⟨Nat.zero_le _, Nat.zero_le _⟩ rfl ?_
  refine b_aload_n C dX1_clear_12 0 rfl rfl ?_
  obtain ⟨r7, er7, hf⟩ := ob_s hf
  refine b_gR C dX1_clear_13 fl_X1_21 h1 er7 ?_
  obtain ⟨h8, hf⟩ := gd_s hf
  obtain ⟨d9, k10, hf⟩ := cv_s hf
  refine b_cVN C [] dX1_clear_16 (kX4_clear l D cy B k10) lv_X1_51 ⟨rfl, rfl, Nat.le_of_ble_eq_true rfl, Nat.le_of_ble_eq_true rfl⟩ h8 (by decide) rfl (Nat.le_of_ble_eq_true rfl) ⟨Nat.zero_le _, Nat.zero_le _⟩ rfl ?_
  refine b_aload_n C dX1_clear_19 0 rfl rfl ?_
  obtain ⟨r11, er11, hf⟩ := ob_s hf
  refine b_gR C dX1_clear_20 fl_X1_28 h1 er11 ?_
  obtain ⟨h12, hf⟩ := gd_s hf
  obtain ⟨d13, k14, hf⟩ := cv_s hf
  refine b_cVN C [] dX1_clear_23 (kX3_clear l D cy B k14) lv_X1_52 ⟨rfl, rfl, Nat.le_of_ble_eq_true rfl, Nat.le_of_ble_eq_true rfl⟩ h12 (by decide) rfl (Nat.le_of_ble_eq_true rfl) ⟨Nat.zero_le _, Nat.zero_le _⟩ rfl ?_
  refine b_aload_n C dX1_clear_26 0 rfl rfl ?_
  obtain ⟨r15, er15, hf⟩ := ob_s hf
  refine b_gR C dX1_clear_27 fl_X1_35 h1 er15 ?_
  obtain ⟨h16, hf⟩ := gd_s hf
  obtain ⟨d17, k18, hf⟩ := cv_s hf
  refine b_cVN C [] dX1_clear_30 (kX5_clear l D cy B k18) lv_X1_53 ⟨rfl, rfl, Nat.le_of_ble_eq_true rfl, Nat.le_of_ble_eq_true rfl⟩ h16 (by decide) rfl (Nat.le_of_ble_eq_true rfl) ⟨Nat.zero_le _, Nat.zero_le _⟩ rfl ?_
  exact b_vret C hr hlocks hf dX1_clear_33
theorem kX1_clear (l : Launch) (D : va_G) (cy : Nat → ClassId) (B : Bs) {N : Nat} {g : Gs} {x0 : Nat}  {dz : Ds} {d : Ds} (hf : fX1_clear N g x0 d = some ((), dz)) : Met l yX1_clear (.code yX1_clear cX1_clear 1 none :: wl) rmX1_clear (PC D cy B [.ref (ad B x0)] g d) (QV D cy B g dz) 0 0 (wA B) :=
  met_of (by decide +kernel) (Nat.le_of_ble_eq_true rfl) (fun p e s m args below meth c C hr hlocks _ => b_sub [(0, .ref (ad B x0))] [0] rfl (tX1_clear_E C hr hlocks hf))
/-! KeyMatrix$Course.<init>(LKeyMatrix$Board;)V -/
theorem oi_X1_3 : Cond.methodLink RX1 3 objectInit ∈ wl := mW (mT2 (List.mem_of_getElem? (i := 27) (by decide +kernel))) rfl
theorem df6 : ∀ j, j < 9 → defaultValue (tyX6 j) = if fR 6 j then .null else .int 0 := by
  intro j hj
  rcases (show j = 0 ∨ j = 1 ∨ j = 2 ∨ j = 3 ∨ j = 4 ∨ j = 5 ∨ j = 6 ∨ j = 7 ∨ j = 8 by omega) with rfl | rfl | rfl | rfl | rfl | rfl | rfl | rfl | rfl
  · rw [show fR 6 0 = false by decide +kernel]; rfl
  · rw [show fR 6 1 = false by decide +kernel]; rfl
  · rw [show fR 6 2 = false by decide +kernel]; rfl
  · rw [show fR 6 3 = false by decide +kernel]; rfl
  · rw [show fR 6 4 = true by decide +kernel]; rfl
  · rw [show fR 6 5 = true by decide +kernel]; rfl
  · rw [show fR 6 6 = true by decide +kernel]; rfl
  · rw [show fR 6 7 = true by decide +kernel]; rfl
  · rw [show fR 6 8 = true by decide +kernel]; rfl
theorem ic6 : Cond.instantiable RX6 9 ∈ wl := mW (mT2 (List.mem_of_getElem? (i := 29) (by decide +kernel))) rfl
theorem ii6 : Cond.initialized RX6 ∈ wl := mW (mT1 (List.mem_of_getElem? (i := 8) (by decide +kernel))) rfl
theorem nw_X1_9 : FNW RX1 9 6 9 := ⟨RX6, TX6, tyX6, rfl, by decide, inl6, tyX6_ok, mW (mT2 (List.mem_of_getElem? (i := 28) (by decide +kernel))) rfl, ic6, ii6, df6⟩
theorem yo_X6_init : yX6_init.cls ≠ "java/lang/invoke/MethodHandle" ∧ yX6_init.cls ≠ "java/lang/invoke/VarHandle" ∧ (parseMethodDescriptor yX6_init.desc).map (fun d => d.parameters.length) = some 0 := by decide +kernel
theorem co_X6_init : Cond.code yX6_init cX6_init 1 none ∈ wl := mW (mT2 (List.mem_of_getElem? (i := 32) (by decide +kernel))) rfl
theorem in_X6_init : Cond.initialized yX6_init.cls ∈ wl := mW (mT1 (List.mem_of_getElem? (i := 8) (by decide +kernel))) rfl
theorem im_X6_init : Cond.instanceMethod yX6_init ∈ wl := mW (mT2 (List.mem_of_getElem? (i := 31) (by decide +kernel))) rfl
theorem lv_X1_11 : LCo RX1 11 yX6_init cX6_init 1 0 := ⟨rfl, yo_X6_init, Or.inr (mT2 (List.mem_of_getElem? (i := 30) (by decide +kernel))), im_X6_init, in_X6_init, co_X6_init⟩
theorem fq_X1_12 : FLP RX1 12 1 1 := ⟨⟨RX1, TX1, 6, rfl, by decide, inl1, mW (mT2 (List.mem_of_getElem? (i := 206) (by decide +kernel))) rfl⟩, by decide, by decide +kernel⟩
theorem fr1_1 : FPR 1 1 RX1 := ⟨ft1, (RX1, TX1, 6), rfl, by decide +kernel, rfl, fun ty h a => by rw [tyX1_ok 1 (by decide)] at h; cases h; exact ⟨rfl, rfl⟩⟩
theorem df4 : ∀ j, j < 3 → defaultValue (tyX4 j) = if fR 4 j then .null else .int 0 := by
  intro j hj
  rcases (show j = 0 ∨ j = 1 ∨ j = 2 by omega) with rfl | rfl | rfl
  · rw [show fR 4 0 = true by decide +kernel]; rfl
  · rw [show fR 4 1 = false by decide +kernel]; rfl
  · rw [show fR 4 2 = false by decide +kernel]; rfl
theorem ic4 : Cond.instantiable RX4 3 ∈ wl := mW (mT2 (List.mem_of_getElem? (i := 74) (by decide +kernel))) rfl
theorem ii4 : Cond.initialized RX4 ∈ wl := mW (mT1 (List.mem_of_getElem? (i := 9) (by decide +kernel))) rfl
theorem nw_X1_18 : FNW RX1 18 4 3 := ⟨RX4, TX4, tyX4, rfl, by decide, inl4, tyX4_ok, mW (mT2 (List.mem_of_getElem? (i := 73) (by decide +kernel))) rfl, ic4, ii4, df4⟩
theorem yo_X4_init : yX4_init.cls ≠ "java/lang/invoke/MethodHandle" ∧ yX4_init.cls ≠ "java/lang/invoke/VarHandle" ∧ (parseMethodDescriptor yX4_init.desc).map (fun d => d.parameters.length) = some 0 := by decide +kernel
theorem co_X4_init : Cond.code yX4_init cX4_init 1 none ∈ wl := mW (mT2 (List.mem_of_getElem? (i := 77) (by decide +kernel))) rfl
theorem in_X4_init : Cond.initialized yX4_init.cls ∈ wl := mW (mT1 (List.mem_of_getElem? (i := 9) (by decide +kernel))) rfl
theorem im_X4_init : Cond.instanceMethod yX4_init ∈ wl := mW (mT2 (List.mem_of_getElem? (i := 76) (by decide +kernel))) rfl
theorem lv_X1_20 : LCo RX1 20 yX4_init cX4_init 1 0 := ⟨rfl, yo_X4_init, Or.inr (mT2 (List.mem_of_getElem? (i := 75) (by decide +kernel))), im_X4_init, in_X4_init, co_X4_init⟩
theorem fq_X1_21 : FLP RX1 21 1 2 := ⟨⟨RX1, TX1, 6, rfl, by decide, inl1, mW (mT2 (List.mem_of_getElem? (i := 208) (by decide +kernel))) rfl⟩, by decide, by decide +kernel⟩
theorem fr1_2 : FPR 1 2 RX1 := ⟨ft1, (RX1, TX1, 6), rfl, by decide +kernel, rfl, fun ty h a => by rw [tyX1_ok 2 (by decide)] at h; cases h; exact ⟨rfl, rfl⟩⟩
theorem df3 : ∀ j, j < 9 → defaultValue (tyX3 j) = if fR 3 j then .null else .int 0 := by
  intro j hj
  rcases (show j = 0 ∨ j = 1 ∨ j = 2 ∨ j = 3 ∨ j = 4 ∨ j = 5 ∨ j = 6 ∨ j = 7 ∨ j = 8 by omega) with rfl | rfl | rfl | rfl | rfl | rfl | rfl | rfl | rfl
  · rw [show fR 3 0 = true by decide +kernel]; rfl
  · rw [show fR 3 1 = true by decide +kernel]; rfl
  · rw [show fR 3 2 = true by decide +kernel]; rfl
  · rw [show fR 3 3 = true by decide +kernel]; rfl
  · rw [show fR 3 4 = false by decide +kernel]; rfl
  · rw [show fR 3 5 = false by decide +kernel]; rfl
  · rw [show fR 3 6 = false by decide +kernel]; rfl
  · rw [show fR 3 7 = true by decide +kernel]; rfl
  · rw [show fR 3 8 = false by decide +kernel]; rfl
theorem ic3 : Cond.instantiable RX3 9 ∈ wl := mW (mT2 (List.mem_of_getElem? (i := 93) (by decide +kernel))) rfl
theorem ii3 : Cond.initialized RX3 ∈ wl := mW (mT1 (List.mem_of_getElem? (i := 10) (by decide +kernel))) rfl
theorem nw_X1_25 : FNW RX1 25 3 9 := ⟨RX3, TX3, tyX3, rfl, by decide, inl3, tyX3_ok, mW (mT2 (List.mem_of_getElem? (i := 92) (by decide +kernel))) rfl, ic3, ii3, df3⟩
theorem yo_X3_init : yX3_init.cls ≠ "java/lang/invoke/MethodHandle" ∧ yX3_init.cls ≠ "java/lang/invoke/VarHandle" ∧ (parseMethodDescriptor yX3_init.desc).map (fun d => d.parameters.length) = some 0 := by decide +kernel
theorem co_X3_init : Cond.code yX3_init cX3_init 1 none ∈ wl := mW (mT2 (List.mem_of_getElem? (i := 96) (by decide +kernel))) rfl
theorem in_X3_init : Cond.initialized yX3_init.cls ∈ wl := mW (mT1 (List.mem_of_getElem? (i := 10) (by decide +kernel))) rfl
theorem im_X3_init : Cond.instanceMethod yX3_init ∈ wl := mW (mT2 (List.mem_of_getElem? (i := 95) (by decide +kernel))) rfl
theorem lv_X1_27 : LCo RX1 27 yX3_init cX3_init 1 0 := ⟨rfl, yo_X3_init, Or.inr (mT2 (List.mem_of_getElem? (i := 94) (by decide +kernel))), im_X3_init, in_X3_init, co_X3_init⟩
theorem fq_X1_28 : FLP RX1 28 1 3 := ⟨⟨RX1, TX1, 6, rfl, by decide, inl1, mW (mT2 (List.mem_of_getElem? (i := 210) (by decide +kernel))) rfl⟩, by decide, by decide +kernel⟩
theorem fr1_3 : FPR 1 3 RX1 := ⟨ft1, (RX1, TX1, 6), rfl, by decide +kernel, rfl, fun ty h a => by rw [tyX1_ok 3 (by decide)] at h; cases h; exact ⟨rfl, rfl⟩⟩
theorem df5 : ∀ j, j < 9 → defaultValue (tyX5 j) = if fR 5 j then .null else .int 0 := by
  intro j hj
  rcases (show j = 0 ∨ j = 1 ∨ j = 2 ∨ j = 3 ∨ j = 4 ∨ j = 5 ∨ j = 6 ∨ j = 7 ∨ j = 8 by omega) with rfl | rfl | rfl | rfl | rfl | rfl | rfl | rfl | rfl
  · rw [show fR 5 0 = true by decide +kernel]; rfl
  · rw [show fR 5 1 = true by decide +kernel]; rfl
  · rw [show fR 5 2 = true by decide +kernel]; rfl
  · rw [show fR 5 3 = true by decide +kernel]; rfl
  · rw [show fR 5 4 = false by decide +kernel]; rfl
  · rw [show fR 5 5 = false by decide +kernel]; rfl
  · rw [show fR 5 6 = false by decide +kernel]; rfl
  · rw [show fR 5 7 = false by decide +kernel]; rfl
  · rw [show fR 5 8 = false by decide +kernel]; rfl
theorem ic5 : Cond.instantiable RX5 9 ∈ wl := mW (mT2 (List.mem_of_getElem? (i := 140) (by decide +kernel))) rfl
theorem ii5 : Cond.initialized RX5 ∈ wl := mW (mT1 (List.mem_of_getElem? (i := 11) (by decide +kernel))) rfl
theorem nw_X1_32 : FNW RX1 32 5 9 := ⟨RX5, TX5, tyX5, rfl, by decide, inl5, tyX5_ok, mW (mT2 (List.mem_of_getElem? (i := 139) (by decide +kernel))) rfl, ic5, ii5, df5⟩
theorem yo_X5_init : yX5_init.cls ≠ "java/lang/invoke/MethodHandle" ∧ yX5_init.cls ≠ "java/lang/invoke/VarHandle" ∧ (parseMethodDescriptor yX5_init.desc).map (fun d => d.parameters.length) = some 0 := by decide +kernel
theorem co_X5_init : Cond.code yX5_init cX5_init 1 none ∈ wl := mW (mT2 (List.mem_of_getElem? (i := 143) (by decide +kernel))) rfl
theorem in_X5_init : Cond.initialized yX5_init.cls ∈ wl := mW (mT1 (List.mem_of_getElem? (i := 11) (by decide +kernel))) rfl
theorem im_X5_init : Cond.instanceMethod yX5_init ∈ wl := mW (mT2 (List.mem_of_getElem? (i := 142) (by decide +kernel))) rfl
theorem lv_X1_34 : LCo RX1 34 yX5_init cX5_init 1 0 := ⟨rfl, yo_X5_init, Or.inr (mT2 (List.mem_of_getElem? (i := 141) (by decide +kernel))), im_X5_init, in_X5_init, co_X5_init⟩
theorem fq_X1_35 : FLP RX1 35 1 4 := ⟨⟨RX1, TX1, 6, rfl, by decide, inl1, mW (mT2 (List.mem_of_getElem? (i := 212) (by decide +kernel))) rfl⟩, by decide, by decide +kernel⟩
theorem fr1_4 : FPR 1 4 RX1 := ⟨ft1, (RX1, TX1, 6), rfl, by decide +kernel, rfl, fun ty h a => by rw [tyX1_ok 4 (by decide)] at h; cases h; exact ⟨rfl, rfl⟩⟩
theorem fq_X1_39 : FLP RX1 39 1 0 := ⟨⟨RX1, TX1, 6, rfl, by decide, inl1, mW (mT2 (List.mem_of_getElem? (i := 205) (by decide +kernel))) rfl⟩, by decide, by decide +kernel⟩
theorem fr1_0 : FPR 1 0 RX1 := ⟨ft1, (RX1, TX1, 6), rfl, by decide +kernel, rfl, fun ty h a => by rw [tyX1_ok 0 (by decide)] at h; cases h; exact ⟨rfl, rfl⟩⟩
theorem yo_X1_clear : yX1_clear.cls ≠ "java/lang/invoke/MethodHandle" ∧ yX1_clear.cls ≠ "java/lang/invoke/VarHandle" ∧ (parseMethodDescriptor yX1_clear.desc).map (fun d => d.parameters.length) = some 0 := by decide +kernel
theorem co_X1_clear : Cond.code yX1_clear cX1_clear 1 none ∈ wl := mW (mT2 (List.mem_of_getElem? (i := 184) (by decide +kernel))) rfl
theorem in_X1_clear : Cond.initialized yX1_clear.cls ∈ wl := mW (mT1 (List.mem_of_getElem? (i := 7) (by decide +kernel))) rfl
theorem im_X1_clear : Cond.instanceMethod yX1_clear ∈ wl := mW (mT2 (List.mem_of_getElem? (i := 182) (by decide +kernel))) rfl
theorem se_X1_clear : Cond.selects yX1_clear.cls yX1_clear yX1_clear ∈ wl := mW (mT2 (List.mem_of_getElem? (i := 183) (by decide +kernel))) rfl
theorem lv_X1_43 : LV RX1 43 yX1_clear cX1_clear 1 none 0 1 := ⟨⟨(RX1, TX1, 6), rfl, rfl⟩, yo_X1_clear, mW (mT2 (List.mem_of_getElem? (i := 181) (by decide +kernel))) rfl, im_X1_clear, se_X1_clear, in_X1_clear, co_X1_clear⟩
theorem dX1_init_0 : decode cX1_init 0 = .ok (.aload_n 0, 1) := by decide +kernel
theorem dX1_init_1 : decode cX1_init 1 = .ok (.invokespecial 3, 3) := by decide +kernel
theorem dX1_init_4 : decode cX1_init 4 = .ok (.aload_n 0, 1) := by decide +kernel
theorem dX1_init_5 : decode cX1_init 5 = .ok (.new 9, 3) := by decide +kernel
theorem dX1_init_8 : decode cX1_init 8 = .ok (.dup, 1) := by decide +kernel
theorem dX1_init_9 : decode cX1_init 9 = .ok (.invokespecial 11, 3) := by decide +kernel
theorem dX1_init_12 : decode cX1_init 12 = .ok (.putfield 12, 3) := by decide +kernel
theorem dX1_init_15 : decode cX1_init 15 = .ok (.aload_n 0, 1) := by decide +kernel
theorem dX1_init_16 : decode cX1_init 16 = .ok (.new 18, 3) := by decide +kernel
theorem dX1_init_19 : decode cX1_init 19 = .ok (.dup, 1) := by decide +kernel
theorem dX1_init_20 : decode cX1_init 20 = .ok (.invokespecial 20, 3) := by decide +kernel
theorem dX1_init_23 : decode cX1_init 23 = .ok (.putfield 21, 3) := by decide +kernel
theorem dX1_init_26 : decode cX1_init 26 = .ok (.aload_n 0, 1) := by decide +kernel
theorem dX1_init_27 : decode cX1_init 27 = .ok (.new 25, 3) := by decide +kernel
theorem dX1_init_30 : decode cX1_init 30 = .ok (.dup, 1) := by decide +kernel
theorem dX1_init_31 : decode cX1_init 31 = .ok (.invokespecial 27, 3) := by decide +kernel
theorem dX1_init_34 : decode cX1_init 34 = .ok (.putfield 28, 3) := by decide +kernel
theorem dX1_init_37 : decode cX1_init 37 = .ok (.aload_n 0, 1) := by decide +kernel
theorem dX1_init_38 : decode cX1_init 38 = .ok (.new 32, 3) := by decide +kernel
theorem dX1_init_41 : decode cX1_init 41 = .ok (.dup, 1) := by decide +kernel
theorem dX1_init_42 : decode cX1_init 42 = .ok (.invokespecial 34, 3) := by decide +kernel
theorem dX1_init_45 : decode cX1_init 45 = .ok (.putfield 35, 3) := by decide +kernel
theorem dX1_init_48 : decode cX1_init 48 = .ok (.aload_n 0, 1) := by decide +kernel
theorem dX1_init_49 : decode cX1_init 49 = .ok (.aload_n 1, 1) := by decide +kernel
theorem dX1_init_50 : decode cX1_init 50 = .ok (.putfield 39, 3) := by decide +kernel
theorem dX1_init_53 : decode cX1_init 53 = .ok (.aload_n 0, 1) := by decide +kernel
theorem dX1_init_54 : decode cX1_init 54 = .ok (.invokevirtual 43, 3) := by decide +kernel
theorem dX1_init_57 : decode cX1_init 57 = .ok (.return_, 1) := by decide +kernel
def rmX1_init : Room := { frames := 3, cells := 19, slots := 3791, locals := 62 }
set_option maxRecDepth 100000 in
def fX1_init_E (N : Nat) (x0 : Nat) (x1 : Nat) (n0 s0 : Nat) (g : Gs) (d : Ds) : Option (Gs × Ds) := gd (gN g < 100000) <| gd (gN g + 1 - n0 ≤ 19 ∧ gS g + 9 - s0 ≤ 3791) <| bd (nG g 6 0 9) fun g3 => (bd (nD g d) fun d4 => (bd (gN g) fun r5 => (gd (0 < gN g3) <| cb (fX6_init N r5 g3 d4) fun g8 d9 => (gd (gN g8 = gN g3 + 5 ∧ gS g8 = gS g3 + 120) <| gd (gN g8 - n0 ≤ 19 ∧ gS g8 - s0 ≤ 3791) <| gd (chk g8 x0 1) <| bd (sR g8 x0 1 r5) fun g15 => (gd (gN g15 < 100000) <| gd (gN g15 + 1 - n0 ≤ 19 ∧ gS g15 + 3 - s0 ≤ 3791) <| bd (nG g15 4 0 3) fun g19 => (bd (nD g15 d9) fun d20 => (bd (gN g15) fun r21 => (gd (0 < gN g19) <| cb (fX4_init N r21 g19 d20) fun g24 d25 => (gd (gN g24 = gN g19 + 1 ∧ gS g24 = gS g19 + 2400) <| gd (gN g24 - n0 ≤ 19 ∧ gS g24 - s0 ≤ 3791) <| gd (chk g24 x0 1) <| bd (sR g24 x0 2 r21) fun g31 => (gd (gN g31 < 100000) <| gd (gN g31 + 1 - n0 ≤ 19 ∧ gS g31 + 9 - s0 ≤ 3791) <| bd (nG g31 3 0 9) fun g35 => (bd (nD g31 d25) fun d36 => (bd (gN g31) fun r37 => (gd (0 < gN g35) <| cb (fX3_init N r37 g35 d36) fun g40 d41 => (gd (gN g40 = gN g35 + 5 ∧ gS g40 = gS g35 + 121) <| gd (gN g40 - n0 ≤ 19 ∧ gS g40 - s0 ≤ 3791) <| gd (chk g40 x0 1) <| bd (sR g40 x0 3 r37) fun g47 => (gd (gN g47 < 100000) <| gd (gN g47 + 1 - n0 ≤ 19 ∧ gS g47 + 9 - s0 ≤ 3791) <| bd (nG g47 5 0 9) fun g51 => (bd (nD g47 d41) fun d52 => (bd (gN g47) fun r53 => (gd (0 < gN g51) <| cb (fX5_init N r53 g51 d52) fun g56 d57 => (gd (gN g56 = gN g51 + 4 ∧ gS g56 = gS g51 + 1120) <| gd (gN g56 - n0 ≤ 19 ∧ gS g56 - s0 ≤ 3791) <| gd (chk g56 x0 1) <| bd (sR g56 x0 4 r53) fun g63 => (gd (chk g63 x0 1) <| bd (sR g63 x0 0 x1) fun g66 => (gd (chk g66 x0 1) <| gd (gN g66 - n0 ≤ 19 ∧ gS g66 - s0 ≤ 3791) <| cv (fX1_clear N g66 x0 d57) fun d70 => (gd (gN g66 = n0 + 19 ∧ gS g66 = s0 + 3791) <| some (g66, d70)))))))))))))))))))))))
def fX1_init (N : Nat) (x0 : Nat) (x1 : Nat) (g : Gs) (d : Ds) : Option (Gs × Ds) := fX1_init_E N x0 x1 (gN g) (gS g) g d
set_option maxHeartbeats 4000000 in
set_option maxRecDepth 100000 in
theorem tX1_init_E {p : Program} {l : Launch} {e : Env} {s : State} {m : MethodId} {args : Array Value} {below : List Frame} {meth : Method} {c : Code} {D : va_G} {cy : Nat → ClassId} {B : Bs} (C : Cx p s m args c cX1_init 2 RX1 D cy B) (hr : meth.sig.returnType = none) (hlocks : meth.locks = false) (hin : meth.name = "<init>") {n0 s0 : Nat} (hz : s.heap.size = B.1 + n0) {N : Nat} {x0 : Nat} {x1 : Nat} {gz : Gs} {dz : Ds} {g : Gs} {d : Ds} (hn : n0 ≤ gN g) (hs : s0 ≤ gS g) (hf : fX1_init_E N x0 x1 n0 s0 g d = some (gz, dz)) : WB p l e rmX1_init s m args below meth c 2 D cy B (gN g - n0) (gS g - s0) (MQ below (QV D cy B gz dz) args s 19 3791 (wA B)) g d [(0, .ref (ad B x0)), (1, .ref (ad B x1))] 0 [] := by
  unfold fX1_init_E at hf
  refine b_aload_n C dX1_init_0 0 rfl rfl ?_
  refine b_objInit C oi_X1_3 oi_i oi_c (by decide) (by decide) dX1_init_1 ?_
  refine b_aload_n C dX1_init_4 0 rfl rfl ?_
  obtain ⟨h1, hf⟩ := gd_s hf
  obtain ⟨h2, hf⟩ := gd_s hf
  obtain ⟨g3, eg3, hf⟩ := bd_s hf
  obtain ⟨d4, ed4, hf⟩ := bd_s hf
  obtain ⟨r5, er5, hf⟩ := bd_s hf
  refine b_new C dX1_init_5 nw_X1_9 hz hn hs h1 h2 eg3 ed4 (fun hn6 hn6s => ?_)
  refine b_topR er5 ?_
  refine b_dup C dX1_init_8 rfl ?_
  obtain ⟨h7, hf⟩ := gd_s hf
  obtain ⟨g8, d9, k10, hf⟩ := cb_s hf
  obtain ⟨h12, hf⟩ := gd_s hf
  obtain ⟨h13, hf⟩ := gd_s hf
  refine b_callC C [.ref (ad B r5), .ref (ad B x0)] dX1_init_9 (kX6_init l D cy B k10) lv_X1_11 ⟨rfl, rfl, Nat.le_of_ble_eq_true rfl, Nat.le_of_ble_eq_true rfl⟩ rfl (Nat.le_of_ble_eq_true rfl) hz hn6 hn6s h7 h12 h13 rfl (fun hn11 hn11s => ?_)
  obtain ⟨h14, hf⟩ := gd_s hf
  obtain ⟨g15, eg15, hf⟩ := bd_s hf
  refine b_pRC C dX1_init_12 fq_X1_12 fr1_1 hin h14 eg15 ?_
  have hn16 : n0 ≤ gN g15 := by rw [eg15]; exact hn11
  have hn16s : s0 ≤ gS g15 := by rw [eg15]; exact hn11s
  refine b_aload_n C dX1_init_15 0 rfl rfl ?_
  obtain ⟨h17, hf⟩ := gd_s hf
  obtain ⟨h18, hf⟩ := gd_s hf
  obtain ⟨g19, eg19, hf⟩ := bd_s hf
  obtain ⟨d20, ed20, hf⟩ := bd_s hf
  obtain ⟨r21, er21, hf⟩ := bd_s hf
  refine b_new C dX1_init_16 nw_X1_18 hz hn16 hn16s h17 h18 eg19 ed20 (fun hn22 hn22s => ?_)
  refine b_topR er21 ?_
  refine b_dup C dX1_init_19 rfl ?_
  obtain ⟨h23, hf⟩ := gd_s hf
  obtain ⟨g24, d25, k26, hf⟩ := cb_s hf
  obtain ⟨h28, hf⟩ := gd_s hf
  obtain ⟨h29, hf⟩ := gd_s hf
  refine b_callC C [.ref (ad B r21), .ref (ad B x0)] dX1_init_20 (kX4_init l D cy B k26) lv_X1_20 ⟨rfl, rfl, Nat.le_of_ble_eq_true rfl, Nat.le_of_ble_eq_true rfl⟩ rfl (Nat.le_of_ble_eq_true rfl) hz hn22 hn22s h23 h28 h29 rfl (fun hn27 hn27s => ?_)
  obtain ⟨h30, hf⟩ := gd_s hf
  obtain ⟨g31, eg31, hf⟩ := bd_s hf
  refine b_pRC C dX1_init_23 fq_X1_21 fr1_2 hin h30 eg31 ?_
  have hn32 : n0 ≤ gN g31 := by rw [eg31]; exact hn27
  have hn32s : s0 ≤ gS g31 := by rw [eg31]; exact hn27s
  refine b_aload_n C dX1_init_26 0 rfl rfl ?_
  obtain ⟨h33, hf⟩ := gd_s hf
  obtain ⟨h34, hf⟩ := gd_s hf
  obtain ⟨g35, eg35, hf⟩ := bd_s hf
  obtain ⟨d36, ed36, hf⟩ := bd_s hf
  obtain ⟨r37, er37, hf⟩ := bd_s hf
  refine b_new C dX1_init_27 nw_X1_25 hz hn32 hn32s h33 h34 eg35 ed36 (fun hn38 hn38s => ?_)
  refine b_topR er37 ?_
  refine b_dup C dX1_init_30 rfl ?_
  obtain ⟨h39, hf⟩ := gd_s hf
  obtain ⟨g40, d41, k42, hf⟩ := cb_s hf
  obtain ⟨h44, hf⟩ := gd_s hf
  obtain ⟨h45, hf⟩ := gd_s hf
  refine b_callC C [.ref (ad B r37), .ref (ad B x0)] dX1_init_31 (kX3_init l D cy B k42) lv_X1_27 ⟨rfl, rfl, Nat.le_of_ble_eq_true rfl, Nat.le_of_ble_eq_true rfl⟩ rfl (Nat.le_of_ble_eq_true rfl) hz hn38 hn38s h39 h44 h45 rfl (fun hn43 hn43s => ?_)
  obtain ⟨h46, hf⟩ := gd_s hf
  obtain ⟨g47, eg47, hf⟩ := bd_s hf
  refine b_pRC C dX1_init_34 fq_X1_28 fr1_3 hin h46 eg47 ?_
  have hn48 : n0 ≤ gN g47 := by rw [eg47]; exact hn43
  have hn48s : s0 ≤ gS g47 := by rw [eg47]; exact hn43s
  refine b_aload_n C dX1_init_37 0 rfl rfl ?_
  obtain ⟨h49, hf⟩ := gd_s hf
  obtain ⟨h50, hf⟩ := gd_s hf
  obtain ⟨g51, eg51, hf⟩ := bd_s hf
  obtain ⟨d52, ed52, hf⟩ := bd_s hf
  obtain ⟨r53, er53, hf⟩ := bd_s hf
  refine b_new C dX1_init_38 nw_X1_32 hz hn48 hn48s h49 h50 eg51 ed52 (fun hn54 hn54s => ?_)
  refine b_topR er53 ?_
  refine b_dup C dX1_init_41 rfl ?_
  obtain ⟨h55, hf⟩ := gd_s hf
  obtain ⟨g56, d57, k58, hf⟩ := cb_s hf
  obtain ⟨h60, hf⟩ := gd_s hf
  obtain ⟨h61, hf⟩ := gd_s hf
  refine b_callC C [.ref (ad B r53), .ref (ad B x0)] dX1_init_42 (kX5_init l D cy B k58) lv_X1_34 ⟨rfl, rfl, Nat.le_of_ble_eq_true rfl, Nat.le_of_ble_eq_true rfl⟩ rfl (Nat.le_of_ble_eq_true rfl) hz hn54 hn54s h55 h60 h61 rfl (fun hn59 hn59s => ?_)
  obtain ⟨h62, hf⟩ := gd_s hf
  obtain ⟨g63, eg63, hf⟩ := bd_s hf
  refine b_pRC C dX1_init_45 fq_X1_35 fr1_4 hin h62 eg63 ?_
  have hn64 : n0 ≤ gN g63 := by rw [eg63]; exact hn59
  have hn64s : s0 ≤ gS g63 := by rw [eg63]; exact hn59s
  refine b_aload_n C dX1_init_48 0 rfl rfl ?_
  refine b_aload_n C dX1_init_49 1 rfl rfl ?_
  obtain ⟨h65, hf⟩ := gd_s hf
  obtain ⟨g66, eg66, hf⟩ := bd_s hf
  refine b_pRC C dX1_init_50 fq_X1_39 fr1_0 hin h65 eg66 ?_
  have hn67 : n0 ≤ gN g66 := by rw [eg66]; exact hn64
  have hn67s : s0 ≤ gS g66 := by rw [eg66]; exact hn64s
  refine b_aload_n C dX1_init_53 0 rfl rfl ?_
  obtain ⟨h68, hf⟩ := gd_s hf
  obtain ⟨h69, hf⟩ := gd_s hf
  obtain ⟨d70, k71, hf⟩ := cv_s hf
  refine b_cVN C [] dX1_init_54 (kX1_clear l D cy B k71) lv_X1_43 ⟨rfl, rfl, Nat.le_of_ble_eq_true rfl, Nat.le_of_ble_eq_true rfl⟩ h68 (by decide) rfl (Nat.le_of_ble_eq_true rfl) h69 rfl ?_
  obtain ⟨h72, hf⟩ := gd_s hf
  exact b_vretC C hr hlocks h72 hf dX1_init_57
theorem kX1_init (l : Launch) (D : va_G) (cy : Nat → ClassId) (B : Bs) {N : Nat} {g : Gs} {x0 : Nat} {x1 : Nat} {gz : Gs} {dz : Ds} {d : Ds} (hf : fX1_init N x0 x1 g d = some (gz, dz)) : Met l yX1_init (.code yX1_init cX1_init 2 none :: wl) rmX1_init (PCC D cy B [.ref (ad B x0), .ref (ad B x1)] g d) (QV D cy B gz dz) 19 3791 (wA B) :=
  met_ofC (by decide +kernel) (Nat.le_of_ble_eq_true rfl) (fun p e s m args below meth c C hr hlocks hin hz => b_sub [(0, .ref (ad B x0)), (1, .ref (ad B x1))] [0, 1] rfl (tX1_init_E C hr hlocks hin hz (Nat.le_refl _) (Nat.le_refl _) hf))
/-! KeyMatrix$Tokens.<init>()V -/
theorem oi_X8_1 : Cond.methodLink RX8 1 objectInit ∈ wl := mW (mT1 (List.mem_of_getElem? (i := 41) (by decide +kernel))) rfl
theorem inl8 : ∀ w ∈ u_ws RX8 TX8 6, w ∈ wl := by
  have h0 : u_ws RX8 TX8 6 = [Cond.laysFinal "KeyMatrix$Tokens" "KeyMatrix$Tokens" "kinds" "[I", Cond.laysFinal "KeyMatrix$Tokens" "KeyMatrix$Tokens" "places" "[I", Cond.laysFinal "KeyMatrix$Tokens" "KeyMatrix$Tokens" "numbers" "[I", Cond.laysFinal "KeyMatrix$Tokens" "KeyMatrix$Tokens" "words" "[LKeyMatrix$Word;", Cond.lays "KeyMatrix$Tokens" "KeyMatrix$Tokens" "size" "I", Cond.lays "KeyMatrix$Tokens" "KeyMatrix$Tokens" "end" "I"] := by decide +kernel
  rw [h0]
  exact List.forall_mem_cons.mpr ⟨mW (mT1 (List.mem_of_getElem? (i := 50) (by decide +kernel))) rfl, List.forall_mem_cons.mpr ⟨mW (mT1 (List.mem_of_getElem? (i := 52) (by decide +kernel))) rfl, List.forall_mem_cons.mpr ⟨mW (mT1 (List.mem_of_getElem? (i := 54) (by decide +kernel))) rfl, List.forall_mem_cons.mpr ⟨mW (mT1 (List.mem_of_getElem? (i := 56) (by decide +kernel))) rfl, List.forall_mem_cons.mpr ⟨mW (mT1 (List.mem_of_getElem? (i := 58) (by decide +kernel))) rfl, List.forall_mem_cons.mpr ⟨mW (mT1 (List.mem_of_getElem? (i := 60) (by decide +kernel))) rfl, fun _ h => absurd h List.not_mem_nil⟩⟩⟩⟩⟩⟩
theorem fq_X8_9 : FLP RX8 9 8 0 := ⟨⟨RX8, TX8, 6, rfl, by decide, inl8, mW (mT1 (List.mem_of_getElem? (i := 44) (by decide +kernel))) rfl⟩, by decide, by decide +kernel⟩
theorem ft8 : FT 8 := ⟨RX8, TX8, 6, tyX8, rfl, tyX8_ok, nmX8⟩
theorem fr8_0 : FPR 8 0 RX8 := ⟨ft8, (RX8, TX8, 6), rfl, by decide +kernel, rfl, fun ty h a => by rw [tyX8_ok 0 (by decide)] at h; cases h; exact ⟨rfl, rfl⟩⟩
theorem fq_X8_13 : FLP RX8 13 8 1 := ⟨⟨RX8, TX8, 6, rfl, by decide, inl8, mW (mT1 (List.mem_of_getElem? (i := 45) (by decide +kernel))) rfl⟩, by decide, by decide +kernel⟩
theorem fr8_1 : FPR 8 1 RX8 := ⟨ft8, (RX8, TX8, 6), rfl, by decide +kernel, rfl, fun ty h a => by rw [tyX8_ok 1 (by decide)] at h; cases h; exact ⟨rfl, rfl⟩⟩
theorem fq_X8_16 : FLP RX8 16 8 2 := ⟨⟨RX8, TX8, 6, rfl, by decide, inl8, mW (mT1 (List.mem_of_getElem? (i := 46) (by decide +kernel))) rfl⟩, by decide, by decide +kernel⟩
theorem fr8_2 : FPR 8 2 RX8 := ⟨ft8, (RX8, TX8, 6), rfl, by decide +kernel, rfl, fun ty h a => by rw [tyX8_ok 2 (by decide)] at h; cases h; exact ⟨rfl, rfl⟩⟩
theorem cw_X8_19 : Cond.classLink RX8 19 "KeyMatrix$Word" ∈ wl := mW (mT1 (List.mem_of_getElem? (i := 42) (by decide +kernel))) rfl
theorem fq_X8_21 : FLP RX8 21 8 3 := ⟨⟨RX8, TX8, 6, rfl, by decide, inl8, mW (mT1 (List.mem_of_getElem? (i := 47) (by decide +kernel))) rfl⟩, by decide, by decide +kernel⟩
theorem fr8_3 : FPR 8 3 RX8 := ⟨ft8, (RX8, TX8, 6), rfl, by decide +kernel, rfl, fun ty h a => by rw [tyX8_ok 3 (by decide)] at h; cases h; exact ⟨rfl, rfl⟩⟩
theorem dX8_init_0 : decode cX8_init 0 = .ok (.aload_n 0, 1) := by decide +kernel
theorem dX8_init_1 : decode cX8_init 1 = .ok (.invokespecial 1, 3) := by decide +kernel
theorem dX8_init_4 : decode cX8_init 4 = .ok (.aload_n 0, 1) := by decide +kernel
theorem dX8_init_5 : decode cX8_init 5 = .ok (.sipush 401, 3) := by decide +kernel
theorem dX8_init_8 : decode cX8_init 8 = .ok (.newarray .int, 2) := by decide +kernel
theorem dX8_init_10 : decode cX8_init 10 = .ok (.putfield 9, 3) := by decide +kernel
theorem dX8_init_13 : decode cX8_init 13 = .ok (.aload_n 0, 1) := by decide +kernel
theorem dX8_init_14 : decode cX8_init 14 = .ok (.sipush 401, 3) := by decide +kernel
theorem dX8_init_17 : decode cX8_init 17 = .ok (.newarray .int, 2) := by decide +kernel
theorem dX8_init_19 : decode cX8_init 19 = .ok (.putfield 13, 3) := by decide +kernel
theorem dX8_init_22 : decode cX8_init 22 = .ok (.aload_n 0, 1) := by decide +kernel
theorem dX8_init_23 : decode cX8_init 23 = .ok (.sipush 401, 3) := by decide +kernel
theorem dX8_init_26 : decode cX8_init 26 = .ok (.newarray .int, 2) := by decide +kernel
theorem dX8_init_28 : decode cX8_init 28 = .ok (.putfield 16, 3) := by decide +kernel
theorem dX8_init_31 : decode cX8_init 31 = .ok (.aload_n 0, 1) := by decide +kernel
theorem dX8_init_32 : decode cX8_init 32 = .ok (.sipush 401, 3) := by decide +kernel
theorem dX8_init_35 : decode cX8_init 35 = .ok (.anewarray 19, 3) := by decide +kernel
theorem dX8_init_38 : decode cX8_init 38 = .ok (.putfield 21, 3) := by decide +kernel
theorem dX8_init_41 : decode cX8_init 41 = .ok (.return_, 1) := by decide +kernel
def rmX8_init : Room := { frames := 1, cells := 4, slots := 1604, locals := 20 }
set_option maxRecDepth 100000 in
def fX8_init_E (N : Nat) (x0 : Nat) (n0 s0 : Nat) (g : Gs) (d : Ds) : Option (Gs × Ds) := gd (¬ (401 : Int32) < 0) <| gd ((401 : Int32).toNatClampNeg ≤ 60000000) <| gd (gN g < 100000) <| gd (gN g + 1 - n0 ≤ 4 ∧ gS g + (401 : Int32).toNatClampNeg - s0 ≤ 1604) <| bd (nG g 102 (401 : Int32).toNatClampNeg (401 : Int32).toNatClampNeg) fun g5 => (bd (nD g d) fun d6 => (bd (gN g) fun r7 => (gd (chk g5 x0 8) <| bd (sR g5 x0 0 r7) fun g10 => (gd (gN g10 < 100000) <| gd (gN g10 + 1 - n0 ≤ 4 ∧ gS g10 + (401 : Int32).toNatClampNeg - s0 ≤ 1604) <| bd (nG g10 102 (401 : Int32).toNatClampNeg (401 : Int32).toNatClampNeg) fun g14 => (bd (nD g10 d6) fun d15 => (bd (gN g10) fun r16 => (gd (chk g14 x0 8) <| bd (sR g14 x0 1 r16) fun g19 => (gd (gN g19 < 100000) <| gd (gN g19 + 1 - n0 ≤ 4 ∧ gS g19 + (401 : Int32).toNatClampNeg - s0 ≤ 1604) <| bd (nG g19 102 (401 : Int32).toNatClampNeg (401 : Int32).toNatClampNeg) fun g23 => (bd (nD g19 d15) fun d24 => (bd (gN g19) fun r25 => (gd (chk g23 x0 8) <| bd (sR g23 x0 2 r25) fun g28 => (gd (gN g28 < 100000) <| gd (gN g28 + 1 - n0 ≤ 4 ∧ gS g28 + (401 : Int32).toNatClampNeg - s0 ≤ 1604) <| bd (nG g28 107 (401 : Int32).toNatClampNeg (401 : Int32).toNatClampNeg) fun g32 => (bd (nD g28 d24) fun d33 => (bd (gN g28) fun r34 => (gd (chk g32 x0 8) <| bd (sR g32 x0 3 r34) fun g37 => (gd (gN g37 = n0 + 4 ∧ gS g37 = s0 + 1604) <| some (g37, d33)))))))))))))))))
def fX8_init (N : Nat) (x0 : Nat) (g : Gs) (d : Ds) : Option (Gs × Ds) := fX8_init_E N x0 (gN g) (gS g) g d
set_option maxHeartbeats 4000000 in
set_option maxRecDepth 100000 in
theorem tX8_init_E {p : Program} {l : Launch} {e : Env} {s : State} {m : MethodId} {args : Array Value} {below : List Frame} {meth : Method} {c : Code} {D : va_G} {cy : Nat → ClassId} {B : Bs} (C : Cx p s m args c cX8_init 1 RX8 D cy B) (hr : meth.sig.returnType = none) (hlocks : meth.locks = false) (hin : meth.name = "<init>") {n0 s0 : Nat} (hz : s.heap.size = B.1 + n0) {N : Nat} {x0 : Nat} {gz : Gs} {dz : Ds} {g : Gs} {d : Ds} (hn : n0 ≤ gN g) (hs : s0 ≤ gS g) (hf : fX8_init_E N x0 n0 s0 g d = some (gz, dz)) : WB p l e rmX8_init s m args below meth c 1 D cy B (gN g - n0) (gS g - s0) (MQ below (QV D cy B gz dz) args s 4 1604 (wA B)) g d [(0, .ref (ad B x0))] 0 [] := by
  unfold fX8_init_E at hf
  refine b_aload_n C dX8_init_0 0 rfl rfl ?_
  refine b_objInit C oi_X8_1 oi_i oi_c (by decide) (by decide) dX8_init_1 ?_
  refine b_aload_n C dX8_init_4 0 rfl rfl ?_
  refine b_sipush C (v := 401) dX8_init_5 (by decide) ?_
  obtain ⟨h1, hf⟩ := gd_s hf
  obtain ⟨h2, hf⟩ := gd_s hf
  obtain ⟨h3, hf⟩ := gd_s hf
  obtain ⟨h4, hf⟩ := gd_s hf
  obtain ⟨g5, eg5, hf⟩ := bd_s hf
  obtain ⟨d6, ed6, hf⟩ := bd_s hf
  obtain ⟨r7, er7, hf⟩ := bd_s hf
  refine b_newaI C dX8_init_8 ar_int hz hn hs h3 h1 h2 h4 eg5 ed6 (fun hn8 hn8s => ?_)
  refine b_topR er7 ?_
  obtain ⟨h9, hf⟩ := gd_s hf
  obtain ⟨g10, eg10, hf⟩ := bd_s hf
  refine b_pRC C dX8_init_10 fq_X8_9 fr8_0 hin h9 eg10 ?_
  have hn11 : n0 ≤ gN g10 := by rw [eg10]; exact hn8
  have hn11s : s0 ≤ gS g10 := by rw [eg10]; exact hn8s
  refine b_aload_n C dX8_init_13 0 rfl rfl ?_
  refine b_sipush C (v := 401) dX8_init_14 (by decide) ?_
  obtain ⟨h12, hf⟩ := gd_s hf
  obtain ⟨h13, hf⟩ := gd_s hf
  obtain ⟨g14, eg14, hf⟩ := bd_s hf
  obtain ⟨d15, ed15, hf⟩ := bd_s hf
  obtain ⟨r16, er16, hf⟩ := bd_s hf
  refine b_newaI C dX8_init_17 ar_int hz hn11 hn11s h12 h1 h2 h13 eg14 ed15 (fun hn17 hn17s => ?_)
  refine b_topR er16 ?_
  obtain ⟨h18, hf⟩ := gd_s hf
  obtain ⟨g19, eg19, hf⟩ := bd_s hf
  refine b_pRC C dX8_init_19 fq_X8_13 fr8_1 hin h18 eg19 ?_
  have hn20 : n0 ≤ gN g19 := by rw [eg19]; exact hn17
  have hn20s : s0 ≤ gS g19 := by rw [eg19]; exact hn17s
  refine b_aload_n C dX8_init_22 0 rfl rfl ?_
  refine b_sipush C (v := 401) dX8_init_23 (by decide) ?_
  obtain ⟨h21, hf⟩ := gd_s hf
  obtain ⟨h22, hf⟩ := gd_s hf
  obtain ⟨g23, eg23, hf⟩ := bd_s hf
  obtain ⟨d24, ed24, hf⟩ := bd_s hf
  obtain ⟨r25, er25, hf⟩ := bd_s hf
  refine b_newaI C dX8_init_26 ar_int hz hn20 hn20s h21 h1 h2 h22 eg23 ed24 (fun hn26 hn26s => ?_)
  refine b_topR er25 ?_
  obtain ⟨h27, hf⟩ := gd_s hf
  obtain ⟨g28, eg28, hf⟩ := bd_s hf
  refine b_pRC C dX8_init_28 fq_X8_16 fr8_2 hin h27 eg28 ?_
  have hn29 : n0 ≤ gN g28 := by rw [eg28]; exact hn26
  have hn29s : s0 ≤ gS g28 := by rw [eg28]; exact hn26s
  refine b_aload_n C dX8_init_31 0 rfl rfl ?_
  refine b_sipush C (v := 401) dX8_init_32 (by decide) ?_
  obtain ⟨h30, hf⟩ := gd_s hf
  obtain ⟨h31, hf⟩ := gd_s hf
  obtain ⟨g32, eg32, hf⟩ := bd_s hf
  obtain ⟨d33, ed33, hf⟩ := bd_s hf
  obtain ⟨r34, er34, hf⟩ := bd_s hf
  refine b_newqW C dX8_init_35 cw_X8_19 hz hn29 hn29s h30 h1 h2 h31 eg32 ed33 (fun hn35 hn35s => ?_)
  refine b_topR er34 ?_
  obtain ⟨h36, hf⟩ := gd_s hf
  obtain ⟨g37, eg37, hf⟩ := bd_s hf
  refine b_pRC C dX8_init_38 fq_X8_21 fr8_3 hin h36 eg37 ?_
  have hn38 : n0 ≤ gN g37 := by rw [eg37]; exact hn35
  have hn38s : s0 ≤ gS g37 := by rw [eg37]; exact hn35s
  obtain ⟨h39, hf⟩ := gd_s hf
  exact b_vretC C hr hlocks h39 hf dX8_init_41
theorem kX8_init (l : Launch) (D : va_G) (cy : Nat → ClassId) (B : Bs) {N : Nat} {g : Gs} {x0 : Nat} {gz : Gs} {dz : Ds} {d : Ds} (hf : fX8_init N x0 g d = some (gz, dz)) : Met l yX8_init (.code yX8_init cX8_init 1 none :: wl) rmX8_init (PCC D cy B [.ref (ad B x0)] g d) (QV D cy B gz dz) 4 1604 (wA B) :=
  met_ofC (by decide +kernel) (Nat.le_of_ble_eq_true rfl) (fun p e s m args below meth c C hr hlocks hin hz => b_sub [(0, .ref (ad B x0))] [0] rfl (tX8_init_E C hr hlocks hin hz (Nat.le_refl _) (Nat.le_refl _) hf))
/-! KeyMatrix$TextReader.<init>()V -/
theorem oi_X7_3 : Cond.methodLink RX7 3 objectInit ∈ wl := mW (mT1 (List.mem_of_getElem? (i := 35) (by decide +kernel))) rfl
theorem df8 : ∀ j, j < 6 → defaultValue (tyX8 j) = if fR 8 j then .null else .int 0 := by
  intro j hj
  rcases (show j = 0 ∨ j = 1 ∨ j = 2 ∨ j = 3 ∨ j = 4 ∨ j = 5 by omega) with rfl | rfl | rfl | rfl | rfl | rfl
  · rw [show fR 8 0 = true by decide +kernel]; rfl
  · rw [show fR 8 1 = true by decide +kernel]; rfl
  · rw [show fR 8 2 = true by decide +kernel]; rfl
  · rw [show fR 8 3 = true by decide +kernel]; rfl
  · rw [show fR 8 4 = false by decide +kernel]; rfl
  · rw [show fR 8 5 = false by decide +kernel]; rfl
theorem ic8 : Cond.instantiable RX8 6 ∈ wl := mW (mT1 (List.mem_of_getElem? (i := 37) (by decide +kernel))) rfl
theorem ii8 : Cond.initialized RX8 ∈ wl := mW (mT1 (List.mem_of_getElem? (i := 3) (by decide +kernel))) rfl
theorem nw_X7_9 : FNW RX7 9 8 6 := ⟨RX8, TX8, tyX8, rfl, by decide, inl8, tyX8_ok, mW (mT1 (List.mem_of_getElem? (i := 36) (by decide +kernel))) rfl, ic8, ii8, df8⟩
theorem yo_X8_init : yX8_init.cls ≠ "java/lang/invoke/MethodHandle" ∧ yX8_init.cls ≠ "java/lang/invoke/VarHandle" ∧ (parseMethodDescriptor yX8_init.desc).map (fun d => d.parameters.length) = some 0 := by decide +kernel
theorem co_X8_init : Cond.code yX8_init cX8_init 1 none ∈ wl := mW (mT1 (List.mem_of_getElem? (i := 40) (by decide +kernel))) rfl
theorem in_X8_init : Cond.initialized yX8_init.cls ∈ wl := mW (mT1 (List.mem_of_getElem? (i := 3) (by decide +kernel))) rfl
theorem im_X8_init : Cond.instanceMethod yX8_init ∈ wl := mW (mT1 (List.mem_of_getElem? (i := 39) (by decide +kernel))) rfl
theorem lv_X7_11 : LCo RX7 11 yX8_init cX8_init 1 0 := ⟨rfl, yo_X8_init, Or.inr (mT1 (List.mem_of_getElem? (i := 38) (by decide +kernel))), im_X8_init, in_X8_init, co_X8_init⟩
theorem inl7 : ∀ w ∈ u_ws RX7 TX7 10, w ∈ wl := by
  have h0 : u_ws RX7 TX7 10 = [Cond.laysFinal "KeyMatrix$TextReader" "KeyMatrix$TextReader" "tokens" "LKeyMatrix$Tokens;", Cond.laysFinal "KeyMatrix$TextReader" "KeyMatrix$TextReader" "told" "LKeyMatrix$Deed;", Cond.laysFinal "KeyMatrix$TextReader" "KeyMatrix$TextReader" "draft" "LKeyMatrix$Board;", Cond.lays "KeyMatrix$TextReader" "KeyMatrix$TextReader" "at" "I", Cond.lays "KeyMatrix$TextReader" "KeyMatrix$TextReader" "number" "I", Cond.lays "KeyMatrix$TextReader" "KeyMatrix$TextReader" "fault" "I", Cond.lays "KeyMatrix$TextReader" "KeyMatrix$TextReader" "faultToken" "I", Cond.lays "KeyMatrix$TextReader" "KeyMatrix$TextReader" "faultPlace" "I", Cond.lays "KeyMatrix$TextReader" "KeyMatrix$TextReader" "laterFault" "I", Cond.lays "KeyMatrix$TextReader" "KeyMatrix$TextReader" "laterToken" "I"] := by decide +kernel
  rw [h0]
  exact List.forall_mem_cons.mpr ⟨mW (mT1 (List.mem_of_getElem? (i := 217) (by decide +kernel))) rfl, List.forall_mem_cons.mpr ⟨mW (mT1 (List.mem_of_getElem? (i := 219) (by decide +kernel))) rfl, List.forall_mem_cons.mpr ⟨mW (mT1 (List.mem_of_getElem? (i := 221) (by decide +kernel))) rfl, List.forall_mem_cons.mpr ⟨mW (mT1 (List.mem_of_getElem? (i := 223) (by decide +kernel))) rfl, List.forall_mem_cons.mpr ⟨mW (mT1 (List.mem_of_getElem? (i := 225) (by decide +kernel))) rfl, List.forall_mem_cons.mpr ⟨mW (mT1 (List.mem_of_getElem? (i := 227) (by decide +kernel))) rfl, List.forall_mem_cons.mpr ⟨mW (mT1 (List.mem_of_getElem? (i := 229) (by decide +kernel))) rfl, List.forall_mem_cons.mpr ⟨mW (mT1 (List.mem_of_getElem? (i := 231) (by decide +kernel))) rfl, List.forall_mem_cons.mpr ⟨mW (mT1 (List.mem_of_getElem? (i := 233) (by decide +kernel))) rfl, List.forall_mem_cons.mpr ⟨mW (mT1 (List.mem_of_getElem? (i := 235) (by decide +kernel))) rfl, fun _ h => absurd h List.not_mem_nil⟩⟩⟩⟩⟩⟩⟩⟩⟩⟩
theorem fq_X7_12 : FLP RX7 12 7 0 := ⟨⟨RX7, TX7, 10, rfl, by decide, inl7, mW (mT1 (List.mem_of_getElem? (i := 205) (by decide +kernel))) rfl⟩, by decide, by decide +kernel⟩
theorem ft7 : FT 7 := ⟨RX7, TX7, 10, tyX7, rfl, tyX7_ok, nmX7⟩
theorem fr7_0 : FPR 7 0 RX7 := ⟨ft7, (RX7, TX7, 10), rfl, by decide +kernel, rfl, fun ty h a => by rw [tyX7_ok 0 (by decide)] at h; cases h; exact ⟨rfl, rfl⟩⟩
theorem nw_X7_18 : FNW RX7 18 2 3 := ⟨RX2, TX2, tyX2, rfl, by decide, inl2, tyX2_ok, mW (mT1 (List.mem_of_getElem? (i := 65) (by decide +kernel))) rfl, ic2, ii2, df2⟩
theorem lv_X7_20 : LCo RX7 20 yX2_init cX2_init 1 0 := ⟨rfl, yo_X2_init, Or.inr (mT1 (List.mem_of_getElem? (i := 67) (by decide +kernel))), im_X2_init, in_X2_init, co_X2_init⟩
theorem fq_X7_21 : FLP RX7 21 7 1 := ⟨⟨RX7, TX7, 10, rfl, by decide, inl7, mW (mT1 (List.mem_of_getElem? (i := 206) (by decide +kernel))) rfl⟩, by decide, by decide +kernel⟩
theorem fr7_1 : FPR 7 1 RX7 := ⟨ft7, (RX7, TX7, 10), rfl, by decide +kernel, rfl, fun ty h a => by rw [tyX7_ok 1 (by decide)] at h; cases h; exact ⟨rfl, rfl⟩⟩
theorem df0 : ∀ j, j < 19 → defaultValue (tyX0 j) = if fR 0 j then .null else .int 0 := by
  intro j hj
  rcases (show j = 0 ∨ j = 1 ∨ j = 2 ∨ j = 3 ∨ j = 4 ∨ j = 5 ∨ j = 6 ∨ j = 7 ∨ j = 8 ∨ j = 9 ∨ j = 10 ∨ j = 11 ∨ j = 12 ∨ j = 13 ∨ j = 14 ∨ j = 15 ∨ j = 16 ∨ j = 17 ∨ j = 18 by omega) with rfl | rfl | rfl | rfl | rfl | rfl | rfl | rfl | rfl | rfl | rfl | rfl | rfl | rfl | rfl | rfl | rfl | rfl | rfl
  · rw [show fR 0 0 = false by decide +kernel]; rfl
  · rw [show fR 0 1 = false by decide +kernel]; rfl
  · rw [show fR 0 2 = false by decide +kernel]; rfl
  · rw [show fR 0 3 = false by decide +kernel]; rfl
  · rw [show fR 0 4 = false by decide +kernel]; rfl
  · rw [show fR 0 5 = false by decide +kernel]; rfl
  · rw [show fR 0 6 = false by decide +kernel]; rfl
  · rw [show fR 0 7 = false by decide +kernel]; rfl
  · rw [show fR 0 8 = false by decide +kernel]; rfl
  · rw [show fR 0 9 = false by decide +kernel]; rfl
  · rw [show fR 0 10 = true by decide +kernel]; rfl
  · rw [show fR 0 11 = true by decide +kernel]; rfl
  · rw [show fR 0 12 = false by decide +kernel]; rfl
  · rw [show fR 0 13 = true by decide +kernel]; rfl
  · rw [show fR 0 14 = true by decide +kernel]; rfl
  · rw [show fR 0 15 = true by decide +kernel]; rfl
  · rw [show fR 0 16 = false by decide +kernel]; rfl
  · rw [show fR 0 17 = true by decide +kernel]; rfl
  · rw [show fR 0 18 = true by decide +kernel]; rfl
theorem ic0 : Cond.instantiable RX0 19 ∈ wl := mW (mT1 (List.mem_of_getElem? (i := 92) (by decide +kernel))) rfl
theorem ii0 : Cond.initialized RX0 ∈ wl := mW (mT1 (List.mem_of_getElem? (i := 5) (by decide +kernel))) rfl
theorem nw_X7_25 : FNW RX7 25 0 19 := ⟨RX0, TX0, tyX0, rfl, by decide, inl0, tyX0_ok, mW (mT1 (List.mem_of_getElem? (i := 91) (by decide +kernel))) rfl, ic0, ii0, df0⟩
theorem yo_X0_init : yX0_init.cls ≠ "java/lang/invoke/MethodHandle" ∧ yX0_init.cls ≠ "java/lang/invoke/VarHandle" ∧ (parseMethodDescriptor yX0_init.desc).map (fun d => d.parameters.length) = some 0 := by decide +kernel
theorem co_X0_init : Cond.code yX0_init cX0_init 2 none ∈ wl := mW (mT1 (List.mem_of_getElem? (i := 95) (by decide +kernel))) rfl
theorem in_X0_init : Cond.initialized yX0_init.cls ∈ wl := mW (mT1 (List.mem_of_getElem? (i := 5) (by decide +kernel))) rfl
theorem im_X0_init : Cond.instanceMethod yX0_init ∈ wl := mW (mT1 (List.mem_of_getElem? (i := 94) (by decide +kernel))) rfl
theorem lv_X7_27 : LCo RX7 27 yX0_init cX0_init 2 0 := ⟨rfl, yo_X0_init, Or.inl (mW (mT1 (List.mem_of_getElem? (i := 93) (by decide +kernel))) rfl), im_X0_init, in_X0_init, co_X0_init⟩
theorem fq_X7_28 : FLP RX7 28 7 2 := ⟨⟨RX7, TX7, 10, rfl, by decide, inl7, mW (mT1 (List.mem_of_getElem? (i := 207) (by decide +kernel))) rfl⟩, by decide, by decide +kernel⟩
theorem fr7_2 : FPR 7 2 RX7 := ⟨ft7, (RX7, TX7, 10), rfl, by decide +kernel, rfl, fun ty h a => by rw [tyX7_ok 2 (by decide)] at h; cases h; exact ⟨rfl, rfl⟩⟩
theorem dX7_init_0 : decode cX7_init 0 = .ok (.aload_n 0, 1) := by decide +kernel
theorem dX7_init_1 : decode cX7_init 1 = .ok (.invokespecial 3, 3) := by decide +kernel
theorem dX7_init_4 : decode cX7_init 4 = .ok (.aload_n 0, 1) := by decide +kernel
theorem dX7_init_5 : decode cX7_init 5 = .ok (.new 9, 3) := by decide +kernel
theorem dX7_init_8 : decode cX7_init 8 = .ok (.dup, 1) := by decide +kernel
theorem dX7_init_9 : decode cX7_init 9 = .ok (.invokespecial 11, 3) := by decide +kernel
theorem dX7_init_12 : decode cX7_init 12 = .ok (.putfield 12, 3) := by decide +kernel
theorem dX7_init_15 : decode cX7_init 15 = .ok (.aload_n 0, 1) := by decide +kernel
theorem dX7_init_16 : decode cX7_init 16 = .ok (.new 18, 3) := by decide +kernel
theorem dX7_init_19 : decode cX7_init 19 = .ok (.dup, 1) := by decide +kernel
theorem dX7_init_20 : decode cX7_init 20 = .ok (.invokespecial 20, 3) := by decide +kernel
theorem dX7_init_23 : decode cX7_init 23 = .ok (.putfield 21, 3) := by decide +kernel
theorem dX7_init_26 : decode cX7_init 26 = .ok (.aload_n 0, 1) := by decide +kernel
theorem dX7_init_27 : decode cX7_init 27 = .ok (.new 25, 3) := by decide +kernel
theorem dX7_init_30 : decode cX7_init 30 = .ok (.dup, 1) := by decide +kernel
theorem dX7_init_31 : decode cX7_init 31 = .ok (.invokespecial 27, 3) := by decide +kernel
theorem dX7_init_34 : decode cX7_init 34 = .ok (.putfield 28, 3) := by decide +kernel
theorem dX7_init_37 : decode cX7_init 37 = .ok (.return_, 1) := by decide +kernel
def rmX7_init : Room := { frames := 3, cells := 114, slots := 2079, locals := 65 }
set_option maxRecDepth 100000 in
def fX7_init_E (N : Nat) (x0 : Nat) (n0 s0 : Nat) (g : Gs) (d : Ds) : Option (Gs × Ds) := gd (gN g < 100000) <| gd (gN g + 1 - n0 ≤ 114 ∧ gS g + 6 - s0 ≤ 2079) <| bd (nG g 8 0 6) fun g3 => (bd (nD g d) fun d4 => (bd (gN g) fun r5 => (gd (0 < gN g3) <| cb (fX8_init N r5 g3 d4) fun g8 d9 => (gd (gN g8 = gN g3 + 4 ∧ gS g8 = gS g3 + 1604) <| gd (gN g8 - n0 ≤ 114 ∧ gS g8 - s0 ≤ 2079) <| gd (chk g8 x0 7) <| bd (sR g8 x0 0 r5) fun g15 => (gd (gN g15 < 100000) <| gd (gN g15 + 1 - n0 ≤ 114 ∧ gS g15 + 3 - s0 ≤ 2079) <| bd (nG g15 2 0 3) fun g19 => (bd (nD g15 d9) fun d20 => (bd (gN g15) fun r21 => (gd (0 < gN g19) <| cb (fX2_init N r21 g19 d20) fun g24 d25 => (gd (gN g24 = gN g19 + 0 ∧ gS g24 = gS g19 + 0) <| gd (gN g24 - n0 ≤ 114 ∧ gS g24 - s0 ≤ 2079) <| gd (chk g24 x0 7) <| bd (sR g24 x0 1 r21) fun g31 => (gd (gN g31 < 100000) <| gd (gN g31 + 1 - n0 ≤ 114 ∧ gS g31 + 19 - s0 ≤ 2079) <| bd (nG g31 0 0 19) fun g35 => (bd (nD g31 d25) fun d36 => (bd (gN g31) fun r37 => (gd (0 < gN g35) <| cb (fX0_init N r37 g35 d36) fun g40 d41 => (gd (gN g40 = gN g35 + 107 ∧ gS g40 = gS g35 + 447) <| gd (gN g40 - n0 ≤ 114 ∧ gS g40 - s0 ≤ 2079) <| gd (chk g40 x0 7) <| bd (sR g40 x0 2 r37) fun g47 => (gd (gN g47 = n0 + 114 ∧ gS g47 = s0 + 2079) <| some (g47, d41))))))))))))))))
def fX7_init (N : Nat) (x0 : Nat) (g : Gs) (d : Ds) : Option (Gs × Ds) := fX7_init_E N x0 (gN g) (gS g) g d
set_option maxHeartbeats 4000000 in
set_option maxRecDepth 100000 in
theorem tX7_init_E {p : Program} {l : Launch} {e : Env} {s : State} {m : MethodId} {args : Array Value} {below : List Frame} {meth : Method} {c : Code} {D : va_G} {cy : Nat → ClassId} {B : Bs} (C : Cx p s m args c cX7_init 1 RX7 D cy B) (hr : meth.sig.returnType = none) (hlocks : meth.locks = false) (hin : meth.name = "<init>") {n0 s0 : Nat} (hz : s.heap.size = B.1 + n0) {N : Nat} {x0 : Nat} {gz : Gs} {dz : Ds} {g : Gs} {d : Ds} (hn : n0 ≤ gN g) (hs : s0 ≤ gS g) (hf : fX7_init_E N x0 n0 s0 g d = some (gz, dz)) : WB p l e rmX7_init s m args below meth c 1 D cy B (gN g - n0) (gS g - s0) (MQ below (QV D cy B gz dz) args s 114 2079 (wA B)) g d [(0, .ref (ad B x0))] 0 [] := by
  unfold fX7_init_E at hf
  refine b_aload_n C dX7_init_0 0 rfl rfl ?_
  refine b_objInit C oi_X7_3 oi_i oi_c (by decide) (by decide) dX7_init_1 ?_
  refine b_aload_n C dX7_init_4 0 rfl rfl ?_
  obtain ⟨h1, hf⟩ := gd_s hf
  obtain ⟨h2, hf⟩ := gd_s hf
  obtain ⟨g3, eg3, hf⟩ := bd_s hf
  obtain ⟨d4, ed4, hf⟩ := bd_s hf
  obtain ⟨r5, er5, hf⟩ := bd_s hf
  refine b_new C dX7_init_5 nw_X7_9 hz hn hs h1 h2 eg3 ed4 (fun hn6 hn6s => ?_)
  refine b_topR er5 ?_
  refine b_dup C dX7_init_8 rfl ?_
  obtain ⟨h7, hf⟩ := gd_s hf
  obtain ⟨g8, d9, k10, hf⟩ := cb_s hf
  obtain ⟨h12, hf⟩ := gd_s hf
  obtain ⟨h13, hf⟩ := gd_s hf
  refine b_callC C [.ref (ad B r5), .ref (ad B x0)] dX7_init_9 (kX8_init l D cy B k10) lv_X7_11 ⟨rfl, rfl, Nat.le_of_ble_eq_true rfl, Nat.le_of_ble_eq_true rfl⟩ rfl (Nat.le_of_ble_eq_true rfl) hz hn6 hn6s h7 h12 h13 rfl (fun hn11 hn11s => ?_)
  obtain ⟨h14, hf⟩ := gd_s hf
  obtain ⟨g15, eg15, hf⟩ := bd_s hf
  refine b_pRC C dX7_init_12 fq_X7_12 fr7_0 hin h14 eg15 ?_
  have hn16 : n0 ≤ gN g15 := by rw [eg15]; exact hn11
  have hn16s : s0 ≤ gS g15 := by rw [eg15]; exact hn11s
  refine b_aload_n C dX7_init_15 0 rfl rfl ?_
  obtain ⟨h17, hf⟩ := gd_s hf
  obtain ⟨h18, hf⟩ := gd_s hf
  obtain ⟨g19, eg19, hf⟩ := bd_s hf
  obtain ⟨d20, ed20, hf⟩ := bd_s hf
  obtain ⟨r21, er21, hf⟩ := bd_s hf
  refine b_new C dX7_init_16 nw_X7_18 hz hn16 hn16s h17 h18 eg19 ed20 (fun hn22 hn22s => ?_)
  refine b_topR er21 ?_
  refine b_dup C dX7_init_19 rfl ?_
  obtain ⟨h23, hf⟩ := gd_s hf
  obtain ⟨g24, d25, k26, hf⟩ := cb_s hf
  obtain ⟨h28, hf⟩ := gd_s hf
  obtain ⟨h29, hf⟩ := gd_s hf
  refine b_callC C [.ref (ad B r21), .ref (ad B x0)] dX7_init_20 (kX2_init l D cy B k26) lv_X7_20 ⟨rfl, rfl, Nat.le_of_ble_eq_true rfl, Nat.le_of_ble_eq_true rfl⟩ rfl (Nat.le_of_ble_eq_true rfl) hz hn22 hn22s h23 h28 h29 rfl (fun hn27 hn27s => ?_)
  obtain ⟨h30, hf⟩ := gd_s hf
  obtain ⟨g31, eg31, hf⟩ := bd_s hf
  refine b_pRC C dX7_init_23 fq_X7_21 fr7_1 hin h30 eg31 ?_
  have hn32 : n0 ≤ gN g31 := by rw [eg31]; exact hn27
  have hn32s : s0 ≤ gS g31 := by rw [eg31]; exact hn27s
  refine b_aload_n C dX7_init_26 0 rfl rfl ?_
  obtain ⟨h33, hf⟩ := gd_s hf
  obtain ⟨h34, hf⟩ := gd_s hf
  obtain ⟨g35, eg35, hf⟩ := bd_s hf
  obtain ⟨d36, ed36, hf⟩ := bd_s hf
  obtain ⟨r37, er37, hf⟩ := bd_s hf
  refine b_new C dX7_init_27 nw_X7_25 hz hn32 hn32s h33 h34 eg35 ed36 (fun hn38 hn38s => ?_)
  refine b_topR er37 ?_
  refine b_dup C dX7_init_30 rfl ?_
  obtain ⟨h39, hf⟩ := gd_s hf
  obtain ⟨g40, d41, k42, hf⟩ := cb_s hf
  obtain ⟨h44, hf⟩ := gd_s hf
  obtain ⟨h45, hf⟩ := gd_s hf
  refine b_callC C [.ref (ad B r37), .ref (ad B x0)] dX7_init_31 (kX0_init l D cy B k42) lv_X7_27 ⟨rfl, rfl, Nat.le_of_ble_eq_true rfl, Nat.le_of_ble_eq_true rfl⟩ rfl (Nat.le_of_ble_eq_true rfl) hz hn38 hn38s h39 h44 h45 rfl (fun hn43 hn43s => ?_)
  obtain ⟨h46, hf⟩ := gd_s hf
  obtain ⟨g47, eg47, hf⟩ := bd_s hf
  refine b_pRC C dX7_init_34 fq_X7_28 fr7_2 hin h46 eg47 ?_
  have hn48 : n0 ≤ gN g47 := by rw [eg47]; exact hn43
  have hn48s : s0 ≤ gS g47 := by rw [eg47]; exact hn43s
  obtain ⟨h49, hf⟩ := gd_s hf
  exact b_vretC C hr hlocks h49 hf dX7_init_37
theorem kX7_init (l : Launch) (D : va_G) (cy : Nat → ClassId) (B : Bs) {N : Nat} {g : Gs} {x0 : Nat} {gz : Gs} {dz : Ds} {d : Ds} (hf : fX7_init N x0 g d = some (gz, dz)) : Met l yX7_init (.code yX7_init cX7_init 1 none :: wl) rmX7_init (PCC D cy B [.ref (ad B x0)] g d) (QV D cy B gz dz) 114 2079 (wA B) :=
  met_ofC (by decide +kernel) (Nat.le_of_ble_eq_true rfl) (fun p e s m args below meth c C hr hlocks hin hz => b_sub [(0, .ref (ad B x0))] [0] rfl (tX7_init_E C hr hlocks hin hz (Nat.le_refl _) (Nat.le_refl _) hf))
/-! KeyMatrix$Wiring.<init>()V -/
theorem oi_X9_3 : Cond.methodLink RX9 3 objectInit ∈ wl := mW (mT2 (List.mem_of_getElem? (i := 5) (by decide +kernel))) rfl
theorem inl9 : ∀ w ∈ u_ws RX9 TX9 4, w ∈ wl := by
  have h0 : u_ws RX9 TX9 4 = [Cond.laysFinal "KeyMatrix$Wiring" "KeyMatrix$Wiring" "partOf" "[I", Cond.lays "KeyMatrix$Wiring" "KeyMatrix$Wiring" "parts" "I", Cond.lays "KeyMatrix$Wiring" "KeyMatrix$Wiring" "seen" "I", Cond.lays "KeyMatrix$Wiring" "KeyMatrix$Wiring" "barred" "I"] := by decide +kernel
  rw [h0]
  exact List.forall_mem_cons.mpr ⟨mW (mT2 (List.mem_of_getElem? (i := 13) (by decide +kernel))) rfl, List.forall_mem_cons.mpr ⟨mW (mT2 (List.mem_of_getElem? (i := 15) (by decide +kernel))) rfl, List.forall_mem_cons.mpr ⟨mW (mT2 (List.mem_of_getElem? (i := 17) (by decide +kernel))) rfl, List.forall_mem_cons.mpr ⟨mW (mT2 (List.mem_of_getElem? (i := 19) (by decide +kernel))) rfl, fun _ h => absurd h List.not_mem_nil⟩⟩⟩⟩
theorem fq_X9_9 : FLP RX9 9 9 0 := ⟨⟨RX9, TX9, 4, rfl, by decide, inl9, mW (mT2 (List.mem_of_getElem? (i := 6) (by decide +kernel))) rfl⟩, by decide, by decide +kernel⟩
theorem ft9 : FT 9 := ⟨RX9, TX9, 4, tyX9, rfl, tyX9_ok, nmX9⟩
theorem fr9_0 : FPR 9 0 RX9 := ⟨ft9, (RX9, TX9, 4), rfl, by decide +kernel, rfl, fun ty h a => by rw [tyX9_ok 0 (by decide)] at h; cases h; exact ⟨rfl, rfl⟩⟩
theorem dX9_init_0 : decode cX9_init 0 = .ok (.aload_n 0, 1) := by decide +kernel
theorem dX9_init_1 : decode cX9_init 1 = .ok (.invokespecial 3, 3) := by decide +kernel
theorem dX9_init_4 : decode cX9_init 4 = .ok (.aload_n 0, 1) := by decide +kernel
theorem dX9_init_5 : decode cX9_init 5 = .ok (.bipush 10, 2) := by decide +kernel
theorem dX9_init_7 : decode cX9_init 7 = .ok (.newarray .int, 2) := by decide +kernel
theorem dX9_init_9 : decode cX9_init 9 = .ok (.putfield 9, 3) := by decide +kernel
theorem dX9_init_12 : decode cX9_init 12 = .ok (.return_, 1) := by decide +kernel
def rmX9_init : Room := { frames := 1, cells := 1, slots := 10, locals := 20 }
set_option maxRecDepth 100000 in
def fX9_init_E (N : Nat) (x0 : Nat) (n0 s0 : Nat) (g : Gs) (d : Ds) : Option (Gs × Ds) := gd (¬ (10 : Int32) < 0) <| gd ((10 : Int32).toNatClampNeg ≤ 60000000) <| gd (gN g < 100000) <| gd (gN g + 1 - n0 ≤ 1 ∧ gS g + (10 : Int32).toNatClampNeg - s0 ≤ 10) <| bd (nG g 102 (10 : Int32).toNatClampNeg (10 : Int32).toNatClampNeg) fun g5 => (bd (nD g d) fun d6 => (bd (gN g) fun r7 => (gd (chk g5 x0 9) <| bd (sR g5 x0 0 r7) fun g10 => (gd (gN g10 = n0 + 1 ∧ gS g10 = s0 + 10) <| some (g10, d6)))))
def fX9_init (N : Nat) (x0 : Nat) (g : Gs) (d : Ds) : Option (Gs × Ds) := fX9_init_E N x0 (gN g) (gS g) g d
set_option maxHeartbeats 4000000 in
set_option maxRecDepth 100000 in
theorem tX9_init_E {p : Program} {l : Launch} {e : Env} {s : State} {m : MethodId} {args : Array Value} {below : List Frame} {meth : Method} {c : Code} {D : va_G} {cy : Nat → ClassId} {B : Bs} (C : Cx p s m args c cX9_init 1 RX9 D cy B) (hr : meth.sig.returnType = none) (hlocks : meth.locks = false) (hin : meth.name = "<init>") {n0 s0 : Nat} (hz : s.heap.size = B.1 + n0) {N : Nat} {x0 : Nat} {gz : Gs} {dz : Ds} {g : Gs} {d : Ds} (hn : n0 ≤ gN g) (hs : s0 ≤ gS g) (hf : fX9_init_E N x0 n0 s0 g d = some (gz, dz)) : WB p l e rmX9_init s m args below meth c 1 D cy B (gN g - n0) (gS g - s0) (MQ below (QV D cy B gz dz) args s 1 10 (wA B)) g d [(0, .ref (ad B x0))] 0 [] := by
  unfold fX9_init_E at hf
  refine b_aload_n C dX9_init_0 0 rfl rfl ?_
  refine b_objInit C oi_X9_3 oi_i oi_c (by decide) (by decide) dX9_init_1 ?_
  refine b_aload_n C dX9_init_4 0 rfl rfl ?_
  refine b_bipush C (v := 10) dX9_init_5 (by decide) ?_
  obtain ⟨h1, hf⟩ := gd_s hf
  obtain ⟨h2, hf⟩ := gd_s hf
  obtain ⟨h3, hf⟩ := gd_s hf
  obtain ⟨h4, hf⟩ := gd_s hf
  obtain ⟨g5, eg5, hf⟩ := bd_s hf
  obtain ⟨d6, ed6, hf⟩ := bd_s hf
  obtain ⟨r7, er7, hf⟩ := bd_s hf
  refine b_newaI C dX9_init_7 ar_int hz hn hs h3 h1 h2 h4 eg5 ed6 (fun hn8 hn8s => ?_)
  refine b_topR er7 ?_
  obtain ⟨h9, hf⟩ := gd_s hf
  obtain ⟨g10, eg10, hf⟩ := bd_s hf
  refine b_pRC C dX9_init_9 fq_X9_9 fr9_0 hin h9 eg10 ?_
  have hn11 : n0 ≤ gN g10 := by rw [eg10]; exact hn8
  have hn11s : s0 ≤ gS g10 := by rw [eg10]; exact hn8s
  obtain ⟨h12, hf⟩ := gd_s hf
  exact b_vretC C hr hlocks h12 hf dX9_init_12
theorem kX9_init (l : Launch) (D : va_G) (cy : Nat → ClassId) (B : Bs) {N : Nat} {g : Gs} {x0 : Nat} {gz : Gs} {dz : Ds} {d : Ds} (hf : fX9_init N x0 g d = some (gz, dz)) : Met l yX9_init (.code yX9_init cX9_init 1 none :: wl) rmX9_init (PCC D cy B [.ref (ad B x0)] g d) (QV D cy B gz dz) 1 10 (wA B) :=
  met_ofC (by decide +kernel) (Nat.le_of_ble_eq_true rfl) (fun p e s m args below meth c C hr hlocks hin hz => b_sub [(0, .ref (ad B x0))] [0] rfl (tX9_init_E C hr hlocks hin hz (Nat.le_refl _) (Nat.le_refl _) hf))
/-! KeyMatrix.<init>()V -/
theorem oi_X11_3 : Cond.methodLink RX11 3 objectInit ∈ wl := mW (mT1 (List.mem_of_getElem? (i := 27) (by decide +kernel))) rfl
theorem ar_byte : Cond.arrayClass (newarray.typeOf .byte) ∈ wl := mW (mT1 (List.mem_of_getElem? (i := 63) (by decide +kernel))) rfl
theorem inl10 : ∀ w ∈ u_ws RX11 TX11 10, w ∈ wl := by
  have h0 : u_ws RX11 TX11 10 = [Cond.laysFinal "KeyMatrix" "KeyMatrix" "tape" "[B", Cond.lays "KeyMatrix" "KeyMatrix" "tapeLength" "I", Cond.lays "KeyMatrix" "KeyMatrix" "faultPlace" "I", Cond.laysFinal "KeyMatrix" "KeyMatrix" "reader" "LKeyMatrix$TextReader;", Cond.laysFinal "KeyMatrix" "KeyMatrix" "board" "LKeyMatrix$Board;", Cond.laysFinal "KeyMatrix" "KeyMatrix" "wiring" "LKeyMatrix$Wiring;", Cond.laysFinal "KeyMatrix" "KeyMatrix" "course" "LKeyMatrix$Course;", Cond.laysFinal "KeyMatrix" "KeyMatrix" "preview" "LKeyMatrix$Course;", Cond.laysFinal "KeyMatrix" "KeyMatrix" "slots" "[LKeyMatrix$Course;", Cond.lays "KeyMatrix" "KeyMatrix" "slotsHeld" "I"] := by decide +kernel
  rw [h0]
  exact List.forall_mem_cons.mpr ⟨mW (mT3 (List.mem_of_getElem? (i := 0) (by decide +kernel))) rfl, List.forall_mem_cons.mpr ⟨mW (mT3 (List.mem_of_getElem? (i := 2) (by decide +kernel))) rfl, List.forall_mem_cons.mpr ⟨mW (mT3 (List.mem_of_getElem? (i := 4) (by decide +kernel))) rfl, List.forall_mem_cons.mpr ⟨mW (mT3 (List.mem_of_getElem? (i := 6) (by decide +kernel))) rfl, List.forall_mem_cons.mpr ⟨mW (mT3 (List.mem_of_getElem? (i := 8) (by decide +kernel))) rfl, List.forall_mem_cons.mpr ⟨mW (mT3 (List.mem_of_getElem? (i := 10) (by decide +kernel))) rfl, List.forall_mem_cons.mpr ⟨mW (mT3 (List.mem_of_getElem? (i := 12) (by decide +kernel))) rfl, List.forall_mem_cons.mpr ⟨mW (mT3 (List.mem_of_getElem? (i := 14) (by decide +kernel))) rfl, List.forall_mem_cons.mpr ⟨mW (mT3 (List.mem_of_getElem? (i := 16) (by decide +kernel))) rfl, List.forall_mem_cons.mpr ⟨mW (mT3 (List.mem_of_getElem? (i := 18) (by decide +kernel))) rfl, fun _ h => absurd h List.not_mem_nil⟩⟩⟩⟩⟩⟩⟩⟩⟩⟩
theorem fq_X11_9 : FLP RX11 9 10 0 := ⟨⟨RX11, TX11, 10, rfl, by decide, inl10, mW (mT2 (List.mem_of_getElem? (i := 230) (by decide +kernel))) rfl⟩, by decide, by decide +kernel⟩
theorem ft10 : FT 10 := ⟨RX11, TX11, 10, tyX11, rfl, tyX11_ok, nmX11⟩
theorem fr10_0 : FPR 10 0 RX11 := ⟨ft10, (RX11, TX11, 10), rfl, by decide +kernel, rfl, fun ty h a => by rw [tyX11_ok 0 (by decide)] at h; cases h; exact ⟨rfl, rfl⟩⟩
theorem fl_X11_13 : FLI RX11 13 10 1 := ⟨⟨RX11, TX11, 10, rfl, by decide, inl10, Or.inl (mW (mT2 (List.mem_of_getElem? (i := 231) (by decide +kernel))) rfl)⟩, by decide, by decide +kernel⟩
theorem fp10_1 : FPI 10 1 := ⟨ft10, (RX11, TX11, 10), rfl, by decide +kernel, by decide +kernel⟩
theorem fl_X11_17 : FLI RX11 17 10 2 := ⟨⟨RX11, TX11, 10, rfl, by decide, inl10, Or.inl (mW (mT2 (List.mem_of_getElem? (i := 232) (by decide +kernel))) rfl)⟩, by decide, by decide +kernel⟩
theorem fp10_2 : FPI 10 2 := ⟨ft10, (RX11, TX11, 10), rfl, by decide +kernel, by decide +kernel⟩
theorem df7 : ∀ j, j < 10 → defaultValue (tyX7 j) = if fR 7 j then .null else .int 0 := by
  intro j hj
  rcases (show j = 0 ∨ j = 1 ∨ j = 2 ∨ j = 3 ∨ j = 4 ∨ j = 5 ∨ j = 6 ∨ j = 7 ∨ j = 8 ∨ j = 9 by omega) with rfl | rfl | rfl | rfl | rfl | rfl | rfl | rfl | rfl | rfl
  · rw [show fR 7 0 = true by decide +kernel]; rfl
  · rw [show fR 7 1 = true by decide +kernel]; rfl
  · rw [show fR 7 2 = true by decide +kernel]; rfl
  · rw [show fR 7 3 = false by decide +kernel]; rfl
  · rw [show fR 7 4 = false by decide +kernel]; rfl
  · rw [show fR 7 5 = false by decide +kernel]; rfl
  · rw [show fR 7 6 = false by decide +kernel]; rfl
  · rw [show fR 7 7 = false by decide +kernel]; rfl
  · rw [show fR 7 8 = false by decide +kernel]; rfl
  · rw [show fR 7 9 = false by decide +kernel]; rfl
theorem ic7 : Cond.instantiable RX7 10 ∈ wl := mW (mT1 (List.mem_of_getElem? (i := 31) (by decide +kernel))) rfl
theorem ii7 : Cond.initialized RX7 ∈ wl := mW (mT1 (List.mem_of_getElem? (i := 2) (by decide +kernel))) rfl
theorem nw_X11_20 : FNW RX11 20 7 10 := ⟨RX7, TX7, tyX7, rfl, by decide, inl7, tyX7_ok, mW (mT1 (List.mem_of_getElem? (i := 30) (by decide +kernel))) rfl, ic7, ii7, df7⟩
theorem yo_X7_init : yX7_init.cls ≠ "java/lang/invoke/MethodHandle" ∧ yX7_init.cls ≠ "java/lang/invoke/VarHandle" ∧ (parseMethodDescriptor yX7_init.desc).map (fun d => d.parameters.length) = some 0 := by decide +kernel
theorem co_X7_init : Cond.code yX7_init cX7_init 1 none ∈ wl := mW (mT1 (List.mem_of_getElem? (i := 34) (by decide +kernel))) rfl
theorem in_X7_init : Cond.initialized yX7_init.cls ∈ wl := mW (mT1 (List.mem_of_getElem? (i := 2) (by decide +kernel))) rfl
theorem im_X7_init : Cond.instanceMethod yX7_init ∈ wl := mW (mT1 (List.mem_of_getElem? (i := 33) (by decide +kernel))) rfl
theorem lv_X11_22 : LCo RX11 22 yX7_init cX7_init 1 0 := ⟨rfl, yo_X7_init, Or.inr (mT1 (List.mem_of_getElem? (i := 32) (by decide +kernel))), im_X7_init, in_X7_init, co_X7_init⟩
theorem fq_X11_23 : FLP RX11 23 10 3 := ⟨⟨RX11, TX11, 10, rfl, by decide, inl10, mW (mT2 (List.mem_of_getElem? (i := 233) (by decide +kernel))) rfl⟩, by decide, by decide +kernel⟩
theorem fr10_3 : FPR 10 3 RX11 := ⟨ft10, (RX11, TX11, 10), rfl, by decide +kernel, rfl, fun ty h a => by rw [tyX11_ok 3 (by decide)] at h; cases h; exact ⟨rfl, rfl⟩⟩
theorem nw_X11_27 : FNW RX11 27 0 19 := ⟨RX0, TX0, tyX0, rfl, by decide, inl0, tyX0_ok, mW (mT1 (List.mem_of_getElem? (i := 238) (by decide +kernel))) rfl, ic0, ii0, df0⟩
theorem lv_X11_29 : LCo RX11 29 yX0_init cX0_init 2 0 := ⟨rfl, yo_X0_init, Or.inl (mW (mT1 (List.mem_of_getElem? (i := 239) (by decide +kernel))) rfl), im_X0_init, in_X0_init, co_X0_init⟩
theorem fq_X11_30 : FLP RX11 30 10 4 := ⟨⟨RX11, TX11, 10, rfl, by decide, inl10, mW (mT2 (List.mem_of_getElem? (i := 234) (by decide +kernel))) rfl⟩, by decide, by decide +kernel⟩
theorem fr10_4 : FPR 10 4 RX11 := ⟨ft10, (RX11, TX11, 10), rfl, by decide +kernel, rfl, fun ty h a => by rw [tyX11_ok 4 (by decide)] at h; cases h; exact ⟨rfl, rfl⟩⟩
theorem df9 : ∀ j, j < 4 → defaultValue (tyX9 j) = if fR 9 j then .null else .int 0 := by
  intro j hj
  rcases (show j = 0 ∨ j = 1 ∨ j = 2 ∨ j = 3 by omega) with rfl | rfl | rfl | rfl
  · rw [show fR 9 0 = true by decide +kernel]; rfl
  · rw [show fR 9 1 = false by decide +kernel]; rfl
  · rw [show fR 9 2 = false by decide +kernel]; rfl
  · rw [show fR 9 3 = false by decide +kernel]; rfl
theorem ic9 : Cond.instantiable RX9 4 ∈ wl := mW (mT2 (List.mem_of_getElem? (i := 1) (by decide +kernel))) rfl
theorem ii9 : Cond.initialized RX9 ∈ wl := mW (mT1 (List.mem_of_getElem? (i := 6) (by decide +kernel))) rfl
theorem nw_X11_34 : FNW RX11 34 9 4 := ⟨RX9, TX9, tyX9, rfl, by decide, inl9, tyX9_ok, mW (mT2 (List.mem_of_getElem? (i := 0) (by decide +kernel))) rfl, ic9, ii9, df9⟩
theorem yo_X9_init : yX9_init.cls ≠ "java/lang/invoke/MethodHandle" ∧ yX9_init.cls ≠ "java/lang/invoke/VarHandle" ∧ (parseMethodDescriptor yX9_init.desc).map (fun d => d.parameters.length) = some 0 := by decide +kernel
theorem co_X9_init : Cond.code yX9_init cX9_init 1 none ∈ wl := mW (mT2 (List.mem_of_getElem? (i := 4) (by decide +kernel))) rfl
theorem in_X9_init : Cond.initialized yX9_init.cls ∈ wl := mW (mT1 (List.mem_of_getElem? (i := 6) (by decide +kernel))) rfl
theorem im_X9_init : Cond.instanceMethod yX9_init ∈ wl := mW (mT2 (List.mem_of_getElem? (i := 3) (by decide +kernel))) rfl
theorem lv_X11_36 : LCo RX11 36 yX9_init cX9_init 1 0 := ⟨rfl, yo_X9_init, Or.inr (mT2 (List.mem_of_getElem? (i := 2) (by decide +kernel))), im_X9_init, in_X9_init, co_X9_init⟩
theorem fq_X11_37 : FLP RX11 37 10 5 := ⟨⟨RX11, TX11, 10, rfl, by decide, inl10, mW (mT2 (List.mem_of_getElem? (i := 235) (by decide +kernel))) rfl⟩, by decide, by decide +kernel⟩
theorem fr10_5 : FPR 10 5 RX11 := ⟨ft10, (RX11, TX11, 10), rfl, by decide +kernel, rfl, fun ty h a => by rw [tyX11_ok 5 (by decide)] at h; cases h; exact ⟨rfl, rfl⟩⟩
theorem df1 : ∀ j, j < 6 → defaultValue (tyX1 j) = if fR 1 j then .null else .int 0 := by
  intro j hj
  rcases (show j = 0 ∨ j = 1 ∨ j = 2 ∨ j = 3 ∨ j = 4 ∨ j = 5 by omega) with rfl | rfl | rfl | rfl | rfl | rfl
  · rw [show fR 1 0 = true by decide +kernel]; rfl
  · rw [show fR 1 1 = true by decide +kernel]; rfl
  · rw [show fR 1 2 = true by decide +kernel]; rfl
  · rw [show fR 1 3 = true by decide +kernel]; rfl
  · rw [show fR 1 4 = true by decide +kernel]; rfl
  · rw [show fR 1 5 = false by decide +kernel]; rfl
theorem ic1 : Cond.instantiable RX1 6 ∈ wl := mW (mT2 (List.mem_of_getElem? (i := 23) (by decide +kernel))) rfl
theorem ii1 : Cond.initialized RX1 ∈ wl := mW (mT1 (List.mem_of_getElem? (i := 7) (by decide +kernel))) rfl
theorem nw_X11_41 : FNW RX11 41 1 6 := ⟨RX1, TX1, tyX1, rfl, by decide, inl1, tyX1_ok, mW (mT2 (List.mem_of_getElem? (i := 22) (by decide +kernel))) rfl, ic1, ii1, df1⟩
theorem fl_X11_30 : FLR RX11 30 10 4 := ⟨⟨RX11, TX11, 10, rfl, by decide, inl10, Or.inl (mW (mT2 (List.mem_of_getElem? (i := 234) (by decide +kernel))) rfl)⟩, by decide, by decide +kernel⟩
theorem yo_X1_init : yX1_init.cls ≠ "java/lang/invoke/MethodHandle" ∧ yX1_init.cls ≠ "java/lang/invoke/VarHandle" ∧ (parseMethodDescriptor yX1_init.desc).map (fun d => d.parameters.length) = some 1 := by decide +kernel
theorem co_X1_init : Cond.code yX1_init cX1_init 2 none ∈ wl := mW (mT2 (List.mem_of_getElem? (i := 26) (by decide +kernel))) rfl
theorem in_X1_init : Cond.initialized yX1_init.cls ∈ wl := mW (mT1 (List.mem_of_getElem? (i := 7) (by decide +kernel))) rfl
theorem im_X1_init : Cond.instanceMethod yX1_init ∈ wl := mW (mT2 (List.mem_of_getElem? (i := 25) (by decide +kernel))) rfl
theorem lv_X11_43 : LCo RX11 43 yX1_init cX1_init 2 1 := ⟨rfl, yo_X1_init, Or.inl (mW (mT2 (List.mem_of_getElem? (i := 24) (by decide +kernel))) rfl), im_X1_init, in_X1_init, co_X1_init⟩
theorem fq_X11_46 : FLP RX11 46 10 6 := ⟨⟨RX11, TX11, 10, rfl, by decide, inl10, mW (mT2 (List.mem_of_getElem? (i := 236) (by decide +kernel))) rfl⟩, by decide, by decide +kernel⟩
theorem fr10_6 : FPR 10 6 RX11 := ⟨ft10, (RX11, TX11, 10), rfl, by decide +kernel, rfl, fun ty h a => by rw [tyX11_ok 6 (by decide)] at h; cases h; exact ⟨rfl, rfl⟩⟩
theorem fq_X11_50 : FLP RX11 50 10 7 := ⟨⟨RX11, TX11, 10, rfl, by decide, inl10, mW (mT2 (List.mem_of_getElem? (i := 237) (by decide +kernel))) rfl⟩, by decide, by decide +kernel⟩
theorem fr10_7 : FPR 10 7 RX11 := ⟨ft10, (RX11, TX11, 10), rfl, by decide +kernel, rfl, fun ty h a => by rw [tyX11_ok 7 (by decide)] at h; cases h; exact ⟨rfl, rfl⟩⟩
theorem cw_X11_41 : Cond.classLink RX11 41 "KeyMatrix$Course" ∈ wl := mW (mT2 (List.mem_of_getElem? (i := 22) (by decide +kernel))) rfl
theorem fq_X11_53 : FLP RX11 53 10 8 := ⟨⟨RX11, TX11, 10, rfl, by decide, inl10, mW (mT2 (List.mem_of_getElem? (i := 238) (by decide +kernel))) rfl⟩, by decide, by decide +kernel⟩
theorem fr10_8 : FPR 10 8 RX11 := ⟨ft10, (RX11, TX11, 10), rfl, by decide +kernel, rfl, fun ty h a => by rw [tyX11_ok 8 (by decide)] at h; cases h; exact ⟨rfl, rfl⟩⟩
theorem fl_X11_57 : FLI RX11 57 10 9 := ⟨⟨RX11, TX11, 10, rfl, by decide, inl10, Or.inl (mW (mT2 (List.mem_of_getElem? (i := 239) (by decide +kernel))) rfl)⟩, by decide, by decide +kernel⟩
theorem fp10_9 : FPI 10 9 := ⟨ft10, (RX11, TX11, 10), rfl, by decide +kernel, by decide +kernel⟩
theorem fl_X11_53 : FLR RX11 53 10 8 := ⟨⟨RX11, TX11, 10, rfl, by decide, inl10, Or.inl (mW (mT2 (List.mem_of_getElem? (i := 238) (by decide +kernel))) rfl)⟩, by decide, by decide +kernel⟩
theorem dX11_init_0 : decode cX11_init 0 = .ok (.aload_n 0, 1) := by decide +kernel
theorem dX11_init_1 : decode cX11_init 1 = .ok (.invokespecial 3, 3) := by decide +kernel
theorem dX11_init_4 : decode cX11_init 4 = .ok (.aload_n 0, 1) := by decide +kernel
theorem dX11_init_5 : decode cX11_init 5 = .ok (.sipush 2000, 3) := by decide +kernel
theorem dX11_init_8 : decode cX11_init 8 = .ok (.newarray .byte, 2) := by decide +kernel
theorem dX11_init_10 : decode cX11_init 10 = .ok (.putfield 9, 3) := by decide +kernel
theorem dX11_init_13 : decode cX11_init 13 = .ok (.aload_n 0, 1) := by decide +kernel
theorem dX11_init_14 : decode cX11_init 14 = .ok (.iconst 0, 1) := by decide +kernel
theorem dX11_init_15 : decode cX11_init 15 = .ok (.putfield 13, 3) := by decide +kernel
theorem dX11_init_18 : decode cX11_init 18 = .ok (.aload_n 0, 1) := by decide +kernel
theorem dX11_init_19 : decode cX11_init 19 = .ok (.iconst (-1), 1) := by decide +kernel
theorem dX11_init_20 : decode cX11_init 20 = .ok (.putfield 17, 3) := by decide +kernel
theorem dX11_init_23 : decode cX11_init 23 = .ok (.aload_n 0, 1) := by decide +kernel
theorem dX11_init_24 : decode cX11_init 24 = .ok (.new 20, 3) := by decide +kernel
theorem dX11_init_27 : decode cX11_init 27 = .ok (.dup, 1) := by decide +kernel
theorem dX11_init_28 : decode cX11_init 28 = .ok (.invokespecial 22, 3) := by decide +kernel
theorem dX11_init_31 : decode cX11_init 31 = .ok (.putfield 23, 3) := by decide +kernel
theorem dX11_init_34 : decode cX11_init 34 = .ok (.aload_n 0, 1) := by decide +kernel
theorem dX11_init_35 : decode cX11_init 35 = .ok (.new 27, 3) := by decide +kernel
theorem dX11_init_38 : decode cX11_init 38 = .ok (.dup, 1) := by decide +kernel
theorem dX11_init_39 : decode cX11_init 39 = .ok (.invokespecial 29, 3) := by decide +kernel
theorem dX11_init_42 : decode cX11_init 42 = .ok (.putfield 30, 3) := by decide +kernel
theorem dX11_init_45 : decode cX11_init 45 = .ok (.aload_n 0, 1) := by decide +kernel
theorem dX11_init_46 : decode cX11_init 46 = .ok (.new 34, 3) := by decide +kernel
theorem dX11_init_49 : decode cX11_init 49 = .ok (.dup, 1) := by decide +kernel
theorem dX11_init_50 : decode cX11_init 50 = .ok (.invokespecial 36, 3) := by decide +kernel
theorem dX11_init_53 : decode cX11_init 53 = .ok (.putfield 37, 3) := by decide +kernel
theorem dX11_init_56 : decode cX11_init 56 = .ok (.aload_n 0, 1) := by decide +kernel
theorem dX11_init_57 : decode cX11_init 57 = .ok (.new 41, 3) := by decide +kernel
theorem dX11_init_60 : decode cX11_init 60 = .ok (.dup, 1) := by decide +kernel
theorem dX11_init_61 : decode cX11_init 61 = .ok (.aload_n 0, 1) := by decide +kernel
theorem dX11_init_62 : decode cX11_init 62 = .ok (.getfield 30, 3) := by decide +kernel
theorem dX11_init_65 : decode cX11_init 65 = .ok (.invokespecial 43, 3) := by decide +kernel
theorem dX11_init_68 : decode cX11_init 68 = .ok (.putfield 46, 3) := by decide +kernel
theorem dX11_init_71 : decode cX11_init 71 = .ok (.aload_n 0, 1) := by decide +kernel
theorem dX11_init_72 : decode cX11_init 72 = .ok (.new 41, 3) := by decide +kernel
theorem dX11_init_75 : decode cX11_init 75 = .ok (.dup, 1) := by decide +kernel
theorem dX11_init_76 : decode cX11_init 76 = .ok (.aload_n 0, 1) := by decide +kernel
theorem dX11_init_77 : decode cX11_init 77 = .ok (.getfield 30, 3) := by decide +kernel
theorem dX11_init_80 : decode cX11_init 80 = .ok (.invokespecial 43, 3) := by decide +kernel
theorem dX11_init_83 : decode cX11_init 83 = .ok (.putfield 50, 3) := by decide +kernel
theorem dX11_init_86 : decode cX11_init 86 = .ok (.aload_n 0, 1) := by decide +kernel
theorem dX11_init_87 : decode cX11_init 87 = .ok (.iconst 3, 1) := by decide +kernel
theorem dX11_init_88 : decode cX11_init 88 = .ok (.anewarray 41, 3) := by decide +kernel
theorem dX11_init_91 : decode cX11_init 91 = .ok (.putfield 53, 3) := by decide +kernel
theorem dX11_init_94 : decode cX11_init 94 = .ok (.iconst 0, 1) := by decide +kernel
theorem dX11_init_95 : decode cX11_init 95 = .ok (.istore_n 1, 1) := by decide +kernel
theorem dX11_init_96 : decode cX11_init 96 = .ok (.iload_n 1, 1) := by decide +kernel
theorem dX11_init_97 : decode cX11_init 97 = .ok (.iconst 3, 1) := by decide +kernel
theorem dX11_init_98 : decode cX11_init 98 = .ok (.if_icmp .ge 26, 3) := by decide +kernel
theorem dX11_init_101 : decode cX11_init 101 = .ok (.aload_n 0, 1) := by decide +kernel
theorem dX11_init_102 : decode cX11_init 102 = .ok (.getfield 53, 3) := by decide +kernel
theorem dX11_init_105 : decode cX11_init 105 = .ok (.iload_n 1, 1) := by decide +kernel
theorem dX11_init_106 : decode cX11_init 106 = .ok (.new 41, 3) := by decide +kernel
theorem dX11_init_109 : decode cX11_init 109 = .ok (.dup, 1) := by decide +kernel
theorem dX11_init_110 : decode cX11_init 110 = .ok (.aload_n 0, 1) := by decide +kernel
theorem dX11_init_111 : decode cX11_init 111 = .ok (.getfield 30, 3) := by decide +kernel
theorem dX11_init_114 : decode cX11_init 114 = .ok (.invokespecial 43, 3) := by decide +kernel
theorem dX11_init_117 : decode cX11_init 117 = .ok (.aastore, 1) := by decide +kernel
theorem dX11_init_118 : decode cX11_init 118 = .ok (.iinc 1 1, 3) := by decide +kernel
theorem dX11_init_121 : decode cX11_init 121 = .ok (.goto (-25), 3) := by decide +kernel
theorem dX11_init_124 : decode cX11_init 124 = .ok (.aload_n 0, 1) := by decide +kernel
theorem dX11_init_125 : decode cX11_init 125 = .ok (.iconst 0, 1) := by decide +kernel
theorem dX11_init_126 : decode cX11_init 126 = .ok (.putfield 57, 3) := by decide +kernel
theorem dX11_init_129 : decode cX11_init 129 = .ok (.return_, 1) := by decide +kernel
def rmX11_init : Room := { frames := 4, cells := 327, slots := 23557, locals := 85 }
set_option maxRecDepth 100000 in
def fX11_init_B96 (N : Nat)  (x0 : Nat) (n0 s0 : Nat) (K96 : Int32 × Gs × Ds → Option (Gs × Ds)) (y1 : Int32) (g : Gs) (d : Ds) : Option (Gs × Ds) := if (3 : Int32) ≤ y1 then (gd (chk g x0 10) <| bd (sI d x0 9 0) fun d112 => (gd (gN g = n0 + 327 ∧ gS g = s0 + 23557) <| some (g, d112))) else (gd (chk g x0 10) <| ob (gR g x0 8) fun r115 => (gd (gN g < 100000) <| gd (gN g + 1 - n0 ≤ 327 ∧ gS g + 6 - s0 ≤ 23557) <| bd (nG g 1 0 6) fun g118 => (bd (nD g d) fun d119 => (bd (gN g) fun r120 => (gd (chk g118 x0 10) <| ob (gR g118 x0 4) fun r123 => (gd (0 < gN g118) <| cb (fX1_init N r120 r123 g118 d119) fun g125 d126 => (gd (gN g125 = gN g118 + 19 ∧ gS g125 = gS g118 + 3791) <| gd (gN g125 - n0 ≤ 327 ∧ gS g125 - s0 ≤ 23557) <| gd (chk g125 r115 106) <| gd (chk g125 r120 1) <| gd (¬ (y1 < 0 ∨ gL g125 r115 ≤ y1.toNatClampNeg)) <| bd (sR g125 r115 y1.toNatClampNeg r120) fun g134 => (bd (y1 + 1) fun u136 => (K96 (u136, g134, d126))))))))))
set_option maxHeartbeats 4000000 in
set_option maxRecDepth 100000 in
theorem tX11_init_96 {p : Program} {l : Launch} {e : Env} {s : State} {m : MethodId} {args : Array Value} {below : List Frame} {meth : Method} {c : Code} {D : va_G} {cy : Nat → ClassId} {B : Bs} (C : Cx p s m args c cX11_init 2 RX11 D cy B) (hr : meth.sig.returnType = none) (hlocks : meth.locks = false) (hin : meth.name = "<init>") {n0 s0 : Nat} (hz : s.heap.size = B.1 + n0) {N : Nat} {x0 : Nat} {gz : Gs} {dz : Ds} {K96 : Int32 × Gs × Ds → Option (Gs × Ds)} (hK96 : ∀ a, K96 a = some (gz, dz) → n0 ≤ gN a.2.1 → s0 ≤ gS a.2.1 → WB p l e rmX11_init s m args below meth c 2 D cy B (gN a.2.1 - n0) (gS a.2.1 - s0) (MQ below (QV D cy B gz dz) args s 327 23557 (wA B)) a.2.1 a.2.2 [(0, .ref (ad B x0)), (1, .int a.1)] 96 []) {y1 : Int32} {g : Gs} {d : Ds} (hn : n0 ≤ gN g) (hs : s0 ≤ gS g) (hf : fX11_init_B96 N x0 n0 s0 K96 y1 g d = some (gz, dz)) : WB p l e rmX11_init s m args below meth c 2 D cy B (gN g - n0) (gS g - s0) (MQ below (QV D cy B gz dz) args s 327 23557 (wA B)) g d [(0, .ref (ad B x0)), (1, .int y1)] 96 [] := by
  unfold fX11_init_B96 at hf
  refine b_iload_n C dX11_init_96 1 rfl rfl ?_
  refine b_iconst C (v := 3) dX11_init_97 (by decide) ?_
  refine b_icmp_ge C (tgt := 124) dX11_init_98 (by decide) (fun c110 => ?_) (fun c110 => ?_)
  · have hf := it_s c110 hf
    refine b_aload_n C dX11_init_124 0 rfl rfl ?_
    refine b_iconst C (v := 0) dX11_init_125 (by decide) ?_
    obtain ⟨h111, hf⟩ := gd_s hf
    obtain ⟨d112, ed112, hf⟩ := bd_s hf
    refine b_pI C dX11_init_126 fl_X11_57 fp10_9 h111 ed112 ?_
    obtain ⟨h113, hf⟩ := gd_s hf
    exact b_vretC C hr hlocks h113 hf dX11_init_129
  · have hf := if_s c110 hf
    refine b_aload_n C dX11_init_101 0 rfl rfl ?_
    obtain ⟨h114, hf⟩ := gd_s hf
    obtain ⟨r115, er115, hf⟩ := ob_s hf
    refine b_gR C dX11_init_102 fl_X11_53 h114 er115 ?_
    refine b_iload_n C dX11_init_105 1 rfl rfl ?_
    obtain ⟨h116, hf⟩ := gd_s hf
    obtain ⟨h117, hf⟩ := gd_s hf
    obtain ⟨g118, eg118, hf⟩ := bd_s hf
    obtain ⟨d119, ed119, hf⟩ := bd_s hf
    obtain ⟨r120, er120, hf⟩ := bd_s hf
    refine b_new C dX11_init_106 nw_X11_41 hz hn hs h116 h117 eg118 ed119 (fun hn121 hn121s => ?_)
    refine b_topR er120 ?_
    refine b_dup C dX11_init_109 rfl ?_
    refine b_aload_n C dX11_init_110 0 rfl rfl ?_
    obtain ⟨h122, hf⟩ := gd_s hf
    obtain ⟨r123, er123, hf⟩ := ob_s hf
    refine b_gR C dX11_init_111 fl_X11_30 h122 er123 ?_
    obtain ⟨h124, hf⟩ := gd_s hf
    obtain ⟨g125, d126, k127, hf⟩ := cb_s hf
    obtain ⟨h129, hf⟩ := gd_s hf
    obtain ⟨h130, hf⟩ := gd_s hf
    refine b_callC C [.ref (ad B r120), .int y1, .ref (ad B r115)] dX11_init_114 (kX1_init l D cy B k127) lv_X11_43 ⟨rfl, rfl, Nat.le_of_ble_eq_true rfl, Nat.le_of_ble_eq_true rfl⟩ rfl (Nat.le_of_ble_eq_true rfl) hz hn121 hn121s h124 h129 h130 rfl (fun hn128 hn128s => ?_)
    obtain ⟨h131, hf⟩ := gd_s hf
    obtain ⟨h132, hf⟩ := gd_s hf
    obtain ⟨h133, hf⟩ := gd_s hf
    obtain ⟨g134, eg134, hf⟩ := bd_s hf
    refine b_aastCC C dX11_init_117 h131 h132 h133 eg134 ?_
    have hn135 : n0 ≤ gN g134 := by rw [eg134]; exact hn128
    have hn135s : s0 ≤ gS g134 := by rw [eg134]; exact hn128s
    obtain ⟨u136, eu136, hf⟩ := bd_s hf
    refine b_iinc C dX11_init_118 1 rfl (by rw [eu136]; rfl) [(1, .int u136), (0, .ref (ad B x0))] (by decide) rfl ?_
    refine b_goto C (tgt := 96) dX11_init_121 (by decide) ?_
    refine b_sub [(0, .ref (ad B x0)), (1, .int u136)] [1, 0] rfl ?_
    exact hK96 (u136, g134, d126) hf hn135 hn135s
def fX11_init_L96 (N : Nat)  (x0 : Nat) (n0 s0 : Nat) : Int32 × Gs × Ds → Option (Gs × Ds) := lp (fun K96 a => fX11_init_B96 N x0 n0 s0 K96 a.1 a.2.1 a.2.2) N
theorem tX11_init_L96 {p : Program} {l : Launch} {e : Env} {s : State} {m : MethodId} {args : Array Value} {below : List Frame} {meth : Method} {c : Code} {D : va_G} {cy : Nat → ClassId} {B : Bs} (C : Cx p s m args c cX11_init 2 RX11 D cy B) (hr : meth.sig.returnType = none) (hlocks : meth.locks = false) (hin : meth.name = "<init>") {n0 s0 : Nat} (hz : s.heap.size = B.1 + n0) {N : Nat} {x0 : Nat} {gz : Gs} {dz : Ds} (a : Int32 × Gs × Ds) (hn : n0 ≤ gN a.2.1) (hs : s0 ≤ gS a.2.1) (hf : fX11_init_L96 N x0 n0 s0 a = some (gz, dz)) : WB p l e rmX11_init s m args below meth c 2 D cy B (gN a.2.1 - n0) (gS a.2.1 - s0) (MQ below (QV D cy B gz dz) args s 327 23557 (wA B)) a.2.1 a.2.2 [(0, .ref (ad B x0)), (1, .int a.1)] 96 [] := by
  unfold fX11_init_L96 at hf
  exact lp_w (G := fun a => n0 ≤ gN a.2.1 → s0 ≤ gS a.2.1 → WB p l e rmX11_init s m args below meth c 2 D cy B (gN a.2.1 - n0) (gS a.2.1 - s0) (MQ below (QV D cy B gz dz) args s 327 23557 (wA B)) a.2.1 a.2.2 [(0, .ref (ad B x0)), (1, .int a.1)] 96 []) (fun K96 hK96 a ha hn hs => tX11_init_96 C hr hlocks hin hz hK96 hn hs ha) N a hf hn hs
set_option maxRecDepth 100000 in
def fX11_init_E (N : Nat) (x0 : Nat) (n0 s0 : Nat) (g : Gs) (d : Ds) : Option (Gs × Ds) := gd (¬ (2000 : Int32) < 0) <| gd ((2000 : Int32).toNatClampNeg ≤ 60000000) <| gd (gN g < 100000) <| gd (gN g + 1 - n0 ≤ 327 ∧ gS g + (2000 : Int32).toNatClampNeg - s0 ≤ 23557) <| bd (nG g 100 (2000 : Int32).toNatClampNeg (2000 : Int32).toNatClampNeg) fun g5 => (bd (nD g d) fun d6 => (bd (gN g) fun r7 => (gd (chk g5 x0 10) <| bd (sR g5 x0 0 r7) fun g10 => (gd (chk g10 x0 10) <| bd (sI d6 x0 1 0) fun d13 => (bd (sI d13 x0 2 (-1)) fun d14 => (gd (gN g10 < 100000) <| gd (gN g10 + 1 - n0 ≤ 327 ∧ gS g10 + 10 - s0 ≤ 23557) <| bd (nG g10 7 0 10) fun g17 => (bd (nD g10 d14) fun d18 => (bd (gN g10) fun r19 => (gd (0 < gN g17) <| cb (fX7_init N r19 g17 d18) fun g22 d23 => (gd (gN g22 = gN g17 + 114 ∧ gS g22 = gS g17 + 2079) <| gd (gN g22 - n0 ≤ 327 ∧ gS g22 - s0 ≤ 23557) <| gd (chk g22 x0 10) <| bd (sR g22 x0 3 r19) fun g29 => (gd (gN g29 < 100000) <| gd (gN g29 + 1 - n0 ≤ 327 ∧ gS g29 + 19 - s0 ≤ 23557) <| bd (nG g29 0 0 19) fun g33 => (bd (nD g29 d23) fun d34 => (bd (gN g29) fun r35 => (gd (0 < gN g33) <| cb (fX0_init N r35 g33 d34) fun g38 d39 => (gd (gN g38 = gN g33 + 107 ∧ gS g38 = gS g33 + 447) <| gd (gN g38 - n0 ≤ 327 ∧ gS g38 - s0 ≤ 23557) <| gd (chk g38 x0 10) <| bd (sR g38 x0 4 r35) fun g45 => (gd (gN g45 < 100000) <| gd (gN g45 + 1 - n0 ≤ 327 ∧ gS g45 + 4 - s0 ≤ 23557) <| bd (nG g45 9 0 4) fun g49 => (bd (nD g45 d39) fun d50 => (bd (gN g45) fun r51 => (gd (0 < gN g49) <| cb (fX9_init N r51 g49 d50) fun g54 d55 => (gd (gN g54 = gN g49 + 1 ∧ gS g54 = gS g49 + 10) <| gd (gN g54 - n0 ≤ 327 ∧ gS g54 - s0 ≤ 23557) <| gd (chk g54 x0 10) <| bd (sR g54 x0 5 r51) fun g61 => (gd (gN g61 < 100000) <| gd (gN g61 + 1 - n0 ≤ 327 ∧ gS g61 + 6 - s0 ≤ 23557) <| bd (nG g61 1 0 6) fun g65 => (bd (nD g61 d55) fun d66 => (bd (gN g61) fun r67 => (gd (chk g65 x0 10) <| ob (gR g65 x0 4) fun r70 => (gd (0 < gN g65) <| cb (fX1_init N r67 r70 g65 d66) fun g72 d73 => (gd (gN g72 = gN g65 + 19 ∧ gS g72 = gS g65 + 3791) <| gd (gN g72 - n0 ≤ 327 ∧ gS g72 - s0 ≤ 23557) <| gd (chk g72 x0 10) <| bd (sR g72 x0 6 r67) fun g79 => (gd (gN g79 < 100000) <| gd (gN g79 + 1 - n0 ≤ 327 ∧ gS g79 + 6 - s0 ≤ 23557) <| bd (nG g79 1 0 6) fun g83 => (bd (nD g79 d73) fun d84 => (bd (gN g79) fun r85 => (gd (chk g83 x0 10) <| ob (gR g83 x0 4) fun r88 => (gd (0 < gN g83) <| cb (fX1_init N r85 r88 g83 d84) fun g90 d91 => (gd (gN g90 = gN g83 + 19 ∧ gS g90 = gS g83 + 3791) <| gd (gN g90 - n0 ≤ 327 ∧ gS g90 - s0 ≤ 23557) <| gd (chk g90 x0 10) <| bd (sR g90 x0 7 r85) fun g97 => (gd (¬ (3 : Int32) < 0) <| gd ((3 : Int32).toNatClampNeg ≤ 60000000) <| gd (gN g97 < 100000) <| gd (gN g97 + 1 - n0 ≤ 327 ∧ gS g97 + (3 : Int32).toNatClampNeg - s0 ≤ 23557) <| bd (nG g97 106 (3 : Int32).toNatClampNeg (3 : Int32).toNatClampNeg) fun g103 => (bd (nD g97 d91) fun d104 => (bd (gN g97) fun r105 => (gd (chk g103 x0 10) <| bd (sR g103 x0 8 r105) fun g108 => (fX11_init_L96 N x0 n0 s0 (0, g108, d104))))))))))))))))))))))))))))))))))))))
def fX11_init (N : Nat) (x0 : Nat) (g : Gs) (d : Ds) : Option (Gs × Ds) := fX11_init_E N x0 (gN g) (gS g) g d
set_option maxHeartbeats 4000000 in
set_option maxRecDepth 100000 in
theorem tX11_init_E {p : Program} {l : Launch} {e : Env} {s : State} {m : MethodId} {args : Array Value} {below : List Frame} {meth : Method} {c : Code} {D : va_G} {cy : Nat → ClassId} {B : Bs} (C : Cx p s m args c cX11_init 2 RX11 D cy B) (hr : meth.sig.returnType = none) (hlocks : meth.locks = false) (hin : meth.name = "<init>") {n0 s0 : Nat} (hz : s.heap.size = B.1 + n0) {N : Nat} {x0 : Nat} {gz : Gs} {dz : Ds} {g : Gs} {d : Ds} (hn : n0 ≤ gN g) (hs : s0 ≤ gS g) (hf : fX11_init_E N x0 n0 s0 g d = some (gz, dz)) : WB p l e rmX11_init s m args below meth c 2 D cy B (gN g - n0) (gS g - s0) (MQ below (QV D cy B gz dz) args s 327 23557 (wA B)) g d [(0, .ref (ad B x0))] 0 [] := by
  unfold fX11_init_E at hf
  refine b_aload_n C dX11_init_0 0 rfl rfl ?_
  refine b_objInit C oi_X11_3 oi_i oi_c (by decide) (by decide) dX11_init_1 ?_
  refine b_aload_n C dX11_init_4 0 rfl rfl ?_
  refine b_sipush C (v := 2000) dX11_init_5 (by decide) ?_
  obtain ⟨h1, hf⟩ := gd_s hf
  obtain ⟨h2, hf⟩ := gd_s hf
  obtain ⟨h3, hf⟩ := gd_s hf
  obtain ⟨h4, hf⟩ := gd_s hf
  obtain ⟨g5, eg5, hf⟩ := bd_s hf
  obtain ⟨d6, ed6, hf⟩ := bd_s hf
  obtain ⟨r7, er7, hf⟩ := bd_s hf
  refine b_newaB C dX11_init_8 ar_byte hz hn hs h3 h1 h2 h4 eg5 ed6 (fun hn8 hn8s => ?_)
  refine b_topR er7 ?_
  obtain ⟨h9, hf⟩ := gd_s hf
  obtain ⟨g10, eg10, hf⟩ := bd_s hf
  refine b_pRC C dX11_init_10 fq_X11_9 fr10_0 hin h9 eg10 ?_
  have hn11 : n0 ≤ gN g10 := by rw [eg10]; exact hn8
  have hn11s : s0 ≤ gS g10 := by rw [eg10]; exact hn8s
  refine b_aload_n C dX11_init_13 0 rfl rfl ?_
  refine b_iconst C (v := 0) dX11_init_14 (by decide) ?_
  obtain ⟨h12, hf⟩ := gd_s hf
  obtain ⟨d13, ed13, hf⟩ := bd_s hf
  refine b_pI C dX11_init_15 fl_X11_13 fp10_1 h12 ed13 ?_
  refine b_aload_n C dX11_init_18 0 rfl rfl ?_
  refine b_iconst C (v := (-1)) dX11_init_19 (by decide) ?_
  obtain ⟨d14, ed14, hf⟩ := bd_s hf
  refine b_pI C dX11_init_20 fl_X11_17 fp10_2 h12 ed14 ?_
  refine b_aload_n C dX11_init_23 0 rfl rfl ?_
  obtain ⟨h15, hf⟩ := gd_s hf
  obtain ⟨h16, hf⟩ := gd_s hf
  obtain ⟨g17, eg17, hf⟩ := bd_s hf
  obtain ⟨d18, ed18, hf⟩ := bd_s hf
  obtain ⟨r19, er19, hf⟩ := bd_s hf
  refine b_new C dX11_init_24 nw_X11_20 hz hn11 hn11s h15 h16 eg17 ed18 (fun hn20 hn20s => ?_)
  refine b_topR er19 ?_
  refine b_dup C dX11_init_27 rfl ?_
  obtain ⟨h21, hf⟩ := gd_s hf
  obtain ⟨g22, d23, k24, hf⟩ := cb_s hf
  obtain ⟨h26, hf⟩ := gd_s hf
  obtain ⟨h27, hf⟩ := gd_s hf
  refine b_callC C [.ref (ad B r19), .ref (ad B x0)] dX11_init_28 (kX7_init l D cy B k24) lv_X11_22 ⟨rfl, rfl, Nat.le_of_ble_eq_true rfl, Nat.le_of_ble_eq_true rfl⟩ rfl (Nat.le_of_ble_eq_true rfl) hz hn20 hn20s h21 h26 h27 rfl (fun hn25 hn25s => ?_)
  obtain ⟨h28, hf⟩ := gd_s hf
  obtain ⟨g29, eg29, hf⟩ := bd_s hf
  refine b_pRC C dX11_init_31 fq_X11_23 fr10_3 hin h28 eg29 ?_
  have hn30 : n0 ≤ gN g29 := by rw [eg29]; exact hn25
  have hn30s : s0 ≤ gS g29 := by rw [eg29]; exact hn25s
  refine b_aload_n C dX11_init_34 0 rfl rfl ?_
  obtain ⟨h31, hf⟩ := gd_s hf
  obtain ⟨h32, hf⟩ := gd_s hf
  obtain ⟨g33, eg33, hf⟩ := bd_s hf
  obtain ⟨d34, ed34, hf⟩ := bd_s hf
  obtain ⟨r35, er35, hf⟩ := bd_s hf
  refine b_new C dX11_init_35 nw_X11_27 hz hn30 hn30s h31 h32 eg33 ed34 (fun hn36 hn36s => ?_)
  refine b_topR er35 ?_
  refine b_dup C dX11_init_38 rfl ?_
  obtain ⟨h37, hf⟩ := gd_s hf
  obtain ⟨g38, d39, k40, hf⟩ := cb_s hf
  obtain ⟨h42, hf⟩ := gd_s hf
  obtain ⟨h43, hf⟩ := gd_s hf
  refine b_callC C [.ref (ad B r35), .ref (ad B x0)] dX11_init_39 (kX0_init l D cy B k40) lv_X11_29 ⟨rfl, rfl, Nat.le_of_ble_eq_true rfl, Nat.le_of_ble_eq_true rfl⟩ rfl (Nat.le_of_ble_eq_true rfl) hz hn36 hn36s h37 h42 h43 rfl (fun hn41 hn41s => ?_)
  obtain ⟨h44, hf⟩ := gd_s hf
  obtain ⟨g45, eg45, hf⟩ := bd_s hf
  refine b_pRC C dX11_init_42 fq_X11_30 fr10_4 hin h44 eg45 ?_
  have hn46 : n0 ≤ gN g45 := by rw [eg45]; exact hn41
  have hn46s : s0 ≤ gS g45 := by rw [eg45]; exact hn41s
  refine b_aload_n C dX11_init_45 0 rfl rfl ?_
  obtain ⟨h47, hf⟩ := gd_s hf
  obtain ⟨h48, hf⟩ := gd_s hf
  obtain ⟨g49, eg49, hf⟩ := bd_s hf
  obtain ⟨d50, ed50, hf⟩ := bd_s hf
  obtain ⟨r51, er51, hf⟩ := bd_s hf
  refine b_new C dX11_init_46 nw_X11_34 hz hn46 hn46s h47 h48 eg49 ed50 (fun hn52 hn52s => ?_)
  refine b_topR er51 ?_
  refine b_dup C dX11_init_49 rfl ?_
  obtain ⟨h53, hf⟩ := gd_s hf
  obtain ⟨g54, d55, k56, hf⟩ := cb_s hf
  obtain ⟨h58, hf⟩ := gd_s hf
  obtain ⟨h59, hf⟩ := gd_s hf
  refine b_callC C [.ref (ad B r51), .ref (ad B x0)] dX11_init_50 (kX9_init l D cy B k56) lv_X11_36 ⟨rfl, rfl, Nat.le_of_ble_eq_true rfl, Nat.le_of_ble_eq_true rfl⟩ rfl (Nat.le_of_ble_eq_true rfl) hz hn52 hn52s h53 h58 h59 rfl (fun hn57 hn57s => ?_)
  obtain ⟨h60, hf⟩ := gd_s hf
  obtain ⟨g61, eg61, hf⟩ := bd_s hf
  refine b_pRC C dX11_init_53 fq_X11_37 fr10_5 hin h60 eg61 ?_
  have hn62 : n0 ≤ gN g61 := by rw [eg61]; exact hn57
  have hn62s : s0 ≤ gS g61 := by rw [eg61]; exact hn57s
  refine b_aload_n C dX11_init_56 0 rfl rfl ?_
  obtain ⟨h63, hf⟩ := gd_s hf
  obtain ⟨h64, hf⟩ := gd_s hf
  obtain ⟨g65, eg65, hf⟩ := bd_s hf
  obtain ⟨d66, ed66, hf⟩ := bd_s hf
  obtain ⟨r67, er67, hf⟩ := bd_s hf
  refine b_new C dX11_init_57 nw_X11_41 hz hn62 hn62s h63 h64 eg65 ed66 (fun hn68 hn68s => ?_)
  refine b_topR er67 ?_
  refine b_dup C dX11_init_60 rfl ?_
  refine b_aload_n C dX11_init_61 0 rfl rfl ?_
  obtain ⟨h69, hf⟩ := gd_s hf
  obtain ⟨r70, er70, hf⟩ := ob_s hf
  refine b_gR C dX11_init_62 fl_X11_30 h69 er70 ?_
  obtain ⟨h71, hf⟩ := gd_s hf
  obtain ⟨g72, d73, k74, hf⟩ := cb_s hf
  obtain ⟨h76, hf⟩ := gd_s hf
  obtain ⟨h77, hf⟩ := gd_s hf
  refine b_callC C [.ref (ad B r67), .ref (ad B x0)] dX11_init_65 (kX1_init l D cy B k74) lv_X11_43 ⟨rfl, rfl, Nat.le_of_ble_eq_true rfl, Nat.le_of_ble_eq_true rfl⟩ rfl (Nat.le_of_ble_eq_true rfl) hz hn68 hn68s h71 h76 h77 rfl (fun hn75 hn75s => ?_)
  obtain ⟨h78, hf⟩ := gd_s hf
  obtain ⟨g79, eg79, hf⟩ := bd_s hf
  refine b_pRC C dX11_init_68 fq_X11_46 fr10_6 hin h78 eg79 ?_
  have hn80 : n0 ≤ gN g79 := by rw [eg79]; exact hn75
  have hn80s : s0 ≤ gS g79 := by rw [eg79]; exact hn75s
  refine b_aload_n C dX11_init_71 0 rfl rfl ?_
  obtain ⟨h81, hf⟩ := gd_s hf
  obtain ⟨h82, hf⟩ := gd_s hf
  obtain ⟨g83, eg83, hf⟩ := bd_s hf
  obtain ⟨d84, ed84, hf⟩ := bd_s hf
  obtain ⟨r85, er85, hf⟩ := bd_s hf
  refine b_new C dX11_init_72 nw_X11_41 hz hn80 hn80s h81 h82 eg83 ed84 (fun hn86 hn86s => ?_)
  refine b_topR er85 ?_
  refine b_dup C dX11_init_75 rfl ?_
  refine b_aload_n C dX11_init_76 0 rfl rfl ?_
  obtain ⟨h87, hf⟩ := gd_s hf
  obtain ⟨r88, er88, hf⟩ := ob_s hf
  refine b_gR C dX11_init_77 fl_X11_30 h87 er88 ?_
  obtain ⟨h89, hf⟩ := gd_s hf
  obtain ⟨g90, d91, k92, hf⟩ := cb_s hf
  obtain ⟨h94, hf⟩ := gd_s hf
  obtain ⟨h95, hf⟩ := gd_s hf
  refine b_callC C [.ref (ad B r85), .ref (ad B x0)] dX11_init_80 (kX1_init l D cy B k92) lv_X11_43 ⟨rfl, rfl, Nat.le_of_ble_eq_true rfl, Nat.le_of_ble_eq_true rfl⟩ rfl (Nat.le_of_ble_eq_true rfl) hz hn86 hn86s h89 h94 h95 rfl (fun hn93 hn93s => ?_)
  obtain ⟨h96, hf⟩ := gd_s hf
  obtain ⟨g97, eg97, hf⟩ := bd_s hf
  refine b_pRC C dX11_init_83 fq_X11_50 fr10_7 hin h96 eg97 ?_
  have hn98 : n0 ≤ gN g97 := by rw [eg97]; exact hn93
  have hn98s : s0 ≤ gS g97 := by rw [eg97]; exact hn93s
  refine b_aload_n C dX11_init_86 0 rfl rfl ?_
  refine b_iconst C (v := 3) dX11_init_87 (by decide) ?_
  obtain ⟨h99, hf⟩ := gd_s hf
  obtain ⟨h100, hf⟩ := gd_s hf
  obtain ⟨h101, hf⟩ := gd_s hf
  obtain ⟨h102, hf⟩ := gd_s hf
  obtain ⟨g103, eg103, hf⟩ := bd_s hf
  obtain ⟨d104, ed104, hf⟩ := bd_s hf
  obtain ⟨r105, er105, hf⟩ := bd_s hf
  refine b_newqC C dX11_init_88 cw_X11_41 hz hn98 hn98s h101 h99 h100 h102 eg103 ed104 (fun hn106 hn106s => ?_)
  refine b_topR er105 ?_
  obtain ⟨h107, hf⟩ := gd_s hf
  obtain ⟨g108, eg108, hf⟩ := bd_s hf
  refine b_pRC C dX11_init_91 fq_X11_53 fr10_8 hin h107 eg108 ?_
  have hn109 : n0 ≤ gN g108 := by rw [eg108]; exact hn106
  have hn109s : s0 ≤ gS g108 := by rw [eg108]; exact hn106s
  refine b_iconst C (v := 0) dX11_init_94 (by decide) ?_
  refine b_istore_n C dX11_init_95 rfl [(1, .int 0), (0, .ref (ad B x0))] (by decide) rfl ?_
  refine b_sub [(0, .ref (ad B x0)), (1, .int 0)] [1, 0] rfl ?_
  exact tX11_init_L96 C hr hlocks hin hz (0, g108, d104) hn109 hn109s hf
theorem kX11_init (l : Launch) (D : va_G) (cy : Nat → ClassId) (B : Bs) {N : Nat} {g : Gs} {x0 : Nat} {gz : Gs} {dz : Ds} {d : Ds} (hf : fX11_init N x0 g d = some (gz, dz)) : Met l yX11_init (.code yX11_init cX11_init 2 none :: wl) rmX11_init (PCC D cy B [.ref (ad B x0)] g d) (QV D cy B gz dz) 327 23557 (wA B) :=
  met_ofC (by decide +kernel) (Nat.le_of_ble_eq_true rfl) (fun p e s m args below meth c C hr hlocks hin hz => b_sub [(0, .ref (ad B x0))] [0] rfl (tX11_init_E C hr hlocks hin hz (Nat.le_refl _) (Nat.le_refl _) hf))
end
section
/-! KeyMatrixModel.appends(JI)J -/
theorem ct_X12_100 : Cond.constantLong RX12 100 27 ∈ wl := mW (mT5 (List.mem_of_getElem? (i := 84) (by decide +kernel))) rfl
theorem dX12_appends_0 : decode cX12_appends 0 = .ok (.iload_n 2, 1) := by decide +kernel
theorem dX12_appends_1 : decode cX12_appends 1 = .ok (.ifCond .ne 7, 3) := by decide +kernel
theorem dX12_appends_4 : decode cX12_appends 4 = .ok (.lload_n 0, 1) := by decide +kernel
theorem dX12_appends_5 : decode cX12_appends 5 = .ok (.goto 16, 3) := by decide +kernel
theorem dX12_appends_8 : decode cX12_appends 8 = .ok (.ldc2_w 100, 3) := by decide +kernel
theorem dX12_appends_11 : decode cX12_appends 11 = .ok (.lload_n 0, 1) := by decide +kernel
theorem dX12_appends_12 : decode cX12_appends 12 = .ok (.lmul, 1) := by decide +kernel
theorem dX12_appends_13 : decode cX12_appends 13 = .ok (.iload_n 2, 1) := by decide +kernel
theorem dX12_appends_14 : decode cX12_appends 14 = .ok (.bipush 97, 2) := by decide +kernel
theorem dX12_appends_16 : decode cX12_appends 16 = .ok (.isub, 1) := by decide +kernel
theorem dX12_appends_17 : decode cX12_appends 17 = .ok (.iconst 1, 1) := by decide +kernel
theorem dX12_appends_18 : decode cX12_appends 18 = .ok (.iadd, 1) := by decide +kernel
theorem dX12_appends_19 : decode cX12_appends 19 = .ok (.i2l, 1) := by decide +kernel
theorem dX12_appends_20 : decode cX12_appends 20 = .ok (.ladd, 1) := by decide +kernel
theorem dX12_appends_21 : decode cX12_appends 21 = .ok (.lreturn, 1) := by decide +kernel
def rmX12_appends : Room := { frames := 0, cells := 0, slots := 0, locals := 0 }
set_option maxRecDepth 100000 in
def fX12_appends_J21 (N : Nat) (g : Gs) (x0 : Int64) (x2 : Int32) (z0 : Int64) (d : Ds) : Option (Int64 × Ds) := some (z0, d)
set_option maxHeartbeats 4000000 in
set_option maxRecDepth 100000 in
theorem tX12_appends_21 {p : Program} {l : Launch} {e : Env} {s : State} {m : MethodId} {args : Array Value} {below : List Frame} {meth : Method} {c : Code} {D : va_G} {cy : Nat → ClassId} {B : Bs} (C : Cx p s m args c cX12_appends 3 RX12 D cy B) (hr : meth.sig.returnType = (some .long)) (hlocks : meth.locks = false) {N : Nat} {g : Gs} {x0 : Int64} {x2 : Int32} {vz : Int64} {dz : Ds} {z0 : Int64} {d : Ds} (hf : fX12_appends_J21 N g x0 x2 z0 d = some (vz, dz)) : WB p l e rmX12_appends s m args below meth c 3 D cy B 0 0 (MQ below (QJ D cy B vz g dz) args s 0 0 (wA B)) g d [(0, .long x0), (2, .int x2)] 21 [.long z0] := by
  unfold fX12_appends_J21 at hf
  exact b_lret C hr hlocks hf dX12_appends_21
set_option maxRecDepth 100000 in
def fX12_appends (N : Nat) (g : Gs) (x0 : Int64) (x2 : Int32) (d : Ds) : Option (Int64 × Ds) := if x2 = 0 then (fX12_appends_J21 N g x0 x2 x0 d) else (fX12_appends_J21 N g x0 x2 ((27 * x0) + (((x2 - 97) + 1).toInt64)) d)
set_option maxHeartbeats 4000000 in
set_option maxRecDepth 100000 in
theorem tX12_appends_E {p : Program} {l : Launch} {e : Env} {s : State} {m : MethodId} {args : Array Value} {below : List Frame} {meth : Method} {c : Code} {D : va_G} {cy : Nat → ClassId} {B : Bs} (C : Cx p s m args c cX12_appends 3 RX12 D cy B) (hr : meth.sig.returnType = (some .long)) (hlocks : meth.locks = false) {N : Nat} {g : Gs} {x0 : Int64} {x2 : Int32} {vz : Int64} {dz : Ds} {d : Ds} (hf : fX12_appends N g x0 x2 d = some (vz, dz)) : WB p l e rmX12_appends s m args below meth c 3 D cy B 0 0 (MQ below (QJ D cy B vz g dz) args s 0 0 (wA B)) g d [(0, .long x0), (2, .int x2)] 0 [] := by
  unfold fX12_appends at hf
  refine b_iload_n C dX12_appends_0 1 rfl rfl ?_
  refine b_if_ne C (tgt := 8) dX12_appends_1 (by decide) (fun c1 => ?_) (fun c1 => ?_)
  · have hf := if_s c1 hf
    refine b_ldc2 C ct_X12_100 dX12_appends_8 ?_
    refine b_lload_n C dX12_appends_11 0 rfl rfl ?_
    refine b_lmul C dX12_appends_12 ?_
    refine b_iload_n C dX12_appends_13 1 rfl rfl ?_
    refine b_bipush C (v := 97) dX12_appends_14 (by decide) ?_
    refine b_isub C dX12_appends_16 ?_
    refine b_iconst C (v := 1) dX12_appends_17 (by decide) ?_
    refine b_iadd C dX12_appends_18 ?_
    refine b_i2l C dX12_appends_19 ?_
    refine b_ladd C dX12_appends_20 ?_
    refine b_sub [(0, .long x0), (2, .int x2)] [0, 1] rfl ?_
    exact tX12_appends_21 C hr hlocks hf
  · have hf := it_s c1 hf
    refine b_lload_n C dX12_appends_4 0 rfl rfl ?_
    refine b_goto C (tgt := 21) dX12_appends_5 (by decide) ?_
    refine b_sub [(0, .long x0), (2, .int x2)] [0, 1] rfl ?_
    exact tX12_appends_21 C hr hlocks hf
theorem kX12_appends (l : Launch) (D : va_G) (cy : Nat → ClassId) (B : Bs) {N : Nat} {g : Gs} {x0 : Int64} {x2 : Int32} {vz : Int64} {dz : Ds} {d : Ds} (hf : fX12_appends N g x0 x2 d = some (vz, dz)) : Met l yX12_appends (.code yX12_appends cX12_appends 3 (some .long) :: wl) rmX12_appends (PC D cy B [.long x0, .int x2] g d) (QJ D cy B vz g dz) 0 0 (wA B) :=
  met_of (by decide +kernel) (Nat.le_of_ble_eq_true rfl) (fun p e s m args below meth c C hr hlocks _ => b_sub [(0, .long x0), (2, .int x2)] [0, 1] rfl (tX12_appends_E C hr hlocks hf))
/-! KeyMatrixModel.letters(IIIIIII)J -/
theorem yo_X12_appends : yX12_appends.cls ≠ "java/lang/invoke/MethodHandle" ∧ yX12_appends.cls ≠ "java/lang/invoke/VarHandle" ∧ (parseMethodDescriptor yX12_appends.desc).map (fun d => d.parameters.length) = some 2 := by decide +kernel
theorem co_X12_appends : Cond.code yX12_appends cX12_appends 3 (some .long) ∈ wl := mW (mT5 (List.mem_of_getElem? (i := 83) (by decide +kernel))) rfl
theorem in_X12_appends : Cond.initialized yX12_appends.cls ∈ wl := mW (mT1 (List.mem_of_getElem? (i := 12) (by decide +kernel))) rfl
theorem st_X12_appends : Cond.static yX12_appends ∈ wl := mW (mT5 (List.mem_of_getElem? (i := 82) (by decide +kernel))) rfl
theorem lv_X12_79 : LSt RX12 79 yX12_appends cX12_appends 3 (some .long) 2 := ⟨yo_X12_appends, Or.inl (mW (mT5 (List.mem_of_getElem? (i := 81) (by decide +kernel))) rfl), st_X12_appends, in_X12_appends, co_X12_appends⟩
theorem dX12_letters_0 : decode cX12_letters 0 = .ok (.lconst 0, 1) := by decide +kernel
theorem dX12_letters_1 : decode cX12_letters 1 = .ok (.iload_n 0, 1) := by decide +kernel
theorem dX12_letters_2 : decode cX12_letters 2 = .ok (.invokestatic 79, 3) := by decide +kernel
theorem dX12_letters_5 : decode cX12_letters 5 = .ok (.iload_n 1, 1) := by decide +kernel
theorem dX12_letters_6 : decode cX12_letters 6 = .ok (.invokestatic 79, 3) := by decide +kernel
theorem dX12_letters_9 : decode cX12_letters 9 = .ok (.iload_n 2, 1) := by decide +kernel
theorem dX12_letters_10 : decode cX12_letters 10 = .ok (.invokestatic 79, 3) := by decide +kernel
theorem dX12_letters_13 : decode cX12_letters 13 = .ok (.iload_n 3, 1) := by decide +kernel
theorem dX12_letters_14 : decode cX12_letters 14 = .ok (.invokestatic 79, 3) := by decide +kernel
theorem dX12_letters_17 : decode cX12_letters 17 = .ok (.iload 4, 2) := by decide +kernel
theorem dX12_letters_19 : decode cX12_letters 19 = .ok (.invokestatic 79, 3) := by decide +kernel
theorem dX12_letters_22 : decode cX12_letters 22 = .ok (.iload 5, 2) := by decide +kernel
theorem dX12_letters_24 : decode cX12_letters 24 = .ok (.invokestatic 79, 3) := by decide +kernel
theorem dX12_letters_27 : decode cX12_letters 27 = .ok (.iload 6, 2) := by decide +kernel
theorem dX12_letters_29 : decode cX12_letters 29 = .ok (.invokestatic 79, 3) := by decide +kernel
theorem dX12_letters_32 : decode cX12_letters 32 = .ok (.lreturn, 1) := by decide +kernel
def rmX12_letters : Room := { frames := 1, cells := 0, slots := 0, locals := 22 }
set_option maxRecDepth 100000 in
def fX12_letters (N : Nat) (g : Gs) (x0 : Int32) (x1 : Int32) (x2 : Int32) (x3 : Int32) (x4 : Int32) (x5 : Int32) (x6 : Int32) (d : Ds) : Option (Int64 × Ds) := cb (fX12_appends N g 0 x0 d) fun u3 d1 => (cb (fX12_appends N g u3 x1 d1) fun u6 d4 => (cb (fX12_appends N g u6 x2 d4) fun u9 d7 => (cb (fX12_appends N g u9 x3 d7) fun u12 d10 => (cb (fX12_appends N g u12 x4 d10) fun u15 d13 => (cb (fX12_appends N g u15 x5 d13) fun u18 d16 => (cb (fX12_appends N g u18 x6 d16) fun u21 d19 => (some (u21, d19))))))))
set_option maxHeartbeats 4000000 in
set_option maxRecDepth 100000 in
theorem tX12_letters_E {p : Program} {l : Launch} {e : Env} {s : State} {m : MethodId} {args : Array Value} {below : List Frame} {meth : Method} {c : Code} {D : va_G} {cy : Nat → ClassId} {B : Bs} (C : Cx p s m args c cX12_letters 7 RX12 D cy B) (hr : meth.sig.returnType = (some .long)) (hlocks : meth.locks = false) {N : Nat} {g : Gs} {x0 : Int32} {x1 : Int32} {x2 : Int32} {x3 : Int32} {x4 : Int32} {x5 : Int32} {x6 : Int32} {vz : Int64} {dz : Ds} {d : Ds} (hf : fX12_letters N g x0 x1 x2 x3 x4 x5 x6 d = some (vz, dz)) : WB p l e rmX12_letters s m args below meth c 7 D cy B 0 0 (MQ below (QJ D cy B vz g dz) args s 0 0 (wA B)) g d [(0, .int x0), (1, .int x1), (2, .int x2), (3, .int x3), (4, .int x4), (5, .int x5), (6, .int x6)] 0 [] := by
  unfold fX12_letters at hf
  refine b_lconst C (v := 0) dX12_letters_0 (by decide) ?_
  refine b_iload_n C dX12_letters_1 0 rfl rfl ?_
  obtain ⟨u3, d1, k2, hf⟩ := cb_s hf
  refine b_cSJ C [] dX12_letters_2 (kX12_appends l D cy B k2) lv_X12_79 ⟨rfl, rfl, Nat.le_of_ble_eq_true rfl, Nat.le_of_ble_eq_true rfl⟩ rfl (Nat.le_of_ble_eq_true rfl) ⟨Nat.zero_le _, Nat.zero_le _⟩ rfl ?_
  refine b_iload_n C dX12_letters_5 1 rfl rfl ?_
  obtain ⟨u6, d4, k5, hf⟩ := cb_s hf
  refine b_cSJ C [] dX12_letters_6 (kX12_appends l D cy B k5) lv_X12_79 ⟨rfl, rfl, Nat.le_of_ble_eq_true rfl, Nat.le_of_ble_eq_true rfl⟩ rfl (Nat.le_of_ble_eq_true rfl) ⟨Nat.zero_le _, Nat.zero_le _⟩ rfl ?_
  refine b_iload_n C dX12_letters_9 2 rfl rfl ?_
  obtain ⟨u9, d7, k8, hf⟩ := cb_s hf
  refine b_cSJ C [] dX12_letters_10 (kX12_appends l D cy B k8) lv_X12_79 ⟨rfl, rfl, Nat.le_of_ble_eq_true rfl, Nat.le_of_ble_eq_true rfl⟩ rfl (Nat.le_of_ble_eq_true rfl) ⟨Nat.zero_le _, Nat.zero_le _⟩ rfl ?_
  refine b_iload_n C dX12_letters_13 3 rfl rfl ?_
  obtain ⟨u12, d10, k11, hf⟩ := cb_s hf
  refine b_cSJ C [] dX12_letters_14 (kX12_appends l D cy B k11) lv_X12_79 ⟨rfl, rfl, Nat.le_of_ble_eq_true rfl, Nat.le_of_ble_eq_true rfl⟩ rfl (Nat.le_of_ble_eq_true rfl) ⟨Nat.zero_le _, Nat.zero_le _⟩ rfl ?_
  refine b_iload C dX12_letters_17 4 rfl ?_
  obtain ⟨u15, d13, k14, hf⟩ := cb_s hf
  refine b_cSJ C [] dX12_letters_19 (kX12_appends l D cy B k14) lv_X12_79 ⟨rfl, rfl, Nat.le_of_ble_eq_true rfl, Nat.le_of_ble_eq_true rfl⟩ rfl (Nat.le_of_ble_eq_true rfl) ⟨Nat.zero_le _, Nat.zero_le _⟩ rfl ?_
  refine b_iload C dX12_letters_22 5 rfl ?_
  obtain ⟨u18, d16, k17, hf⟩ := cb_s hf
  refine b_cSJ C [] dX12_letters_24 (kX12_appends l D cy B k17) lv_X12_79 ⟨rfl, rfl, Nat.le_of_ble_eq_true rfl, Nat.le_of_ble_eq_true rfl⟩ rfl (Nat.le_of_ble_eq_true rfl) ⟨Nat.zero_le _, Nat.zero_le _⟩ rfl ?_
  refine b_iload C dX12_letters_27 6 rfl ?_
  obtain ⟨u21, d19, k20, hf⟩ := cb_s hf
  refine b_cSJ C [] dX12_letters_29 (kX12_appends l D cy B k20) lv_X12_79 ⟨rfl, rfl, Nat.le_of_ble_eq_true rfl, Nat.le_of_ble_eq_true rfl⟩ rfl (Nat.le_of_ble_eq_true rfl) ⟨Nat.zero_le _, Nat.zero_le _⟩ rfl ?_
  exact b_lret C hr hlocks hf dX12_letters_32
theorem kX12_letters (l : Launch) (D : va_G) (cy : Nat → ClassId) (B : Bs) {N : Nat} {g : Gs} {x0 : Int32} {x1 : Int32} {x2 : Int32} {x3 : Int32} {x4 : Int32} {x5 : Int32} {x6 : Int32} {vz : Int64} {dz : Ds} {d : Ds} (hf : fX12_letters N g x0 x1 x2 x3 x4 x5 x6 d = some (vz, dz)) : Met l yX12_letters (.code yX12_letters cX12_letters 7 (some .long) :: wl) rmX12_letters (PC D cy B [.int x0, .int x1, .int x2, .int x3, .int x4, .int x5, .int x6] g d) (QJ D cy B vz g dz) 0 0 (wA B) :=
  met_of (by decide +kernel) (Nat.le_of_ble_eq_true rfl) (fun p e s m args below meth c C hr hlocks _ => b_sub [(0, .int x0), (1, .int x1), (2, .int x2), (3, .int x3), (4, .int x4), (5, .int x5), (6, .int x6)] [0, 1, 2, 3, 4, 5, 6] rfl (tX12_letters_E C hr hlocks hf))
/-! KeyMatrixModel.begins([I)V -/
theorem dX12_begins_0 : decode cX12_begins 0 = .ok (.iconst 0, 1) := by decide +kernel
theorem dX12_begins_1 : decode cX12_begins 1 = .ok (.istore_n 1, 1) := by decide +kernel
theorem dX12_begins_2 : decode cX12_begins 2 = .ok (.iload_n 1, 1) := by decide +kernel
theorem dX12_begins_3 : decode cX12_begins 3 = .ok (.sipush 352, 3) := by decide +kernel
theorem dX12_begins_6 : decode cX12_begins 6 = .ok (.if_icmp .ge 13, 3) := by decide +kernel
theorem dX12_begins_9 : decode cX12_begins 9 = .ok (.aload_n 0, 1) := by decide +kernel
theorem dX12_begins_10 : decode cX12_begins 10 = .ok (.iload_n 1, 1) := by decide +kernel
theorem dX12_begins_11 : decode cX12_begins 11 = .ok (.iconst 0, 1) := by decide +kernel
theorem dX12_begins_12 : decode cX12_begins 12 = .ok (.iastore, 1) := by decide +kernel
theorem dX12_begins_13 : decode cX12_begins 13 = .ok (.iinc 1 1, 3) := by decide +kernel
theorem dX12_begins_16 : decode cX12_begins 16 = .ok (.goto (-14), 3) := by decide +kernel
theorem dX12_begins_19 : decode cX12_begins 19 = .ok (.aload_n 0, 1) := by decide +kernel
theorem dX12_begins_20 : decode cX12_begins 20 = .ok (.iconst 4, 1) := by decide +kernel
theorem dX12_begins_21 : decode cX12_begins 21 = .ok (.iconst 2, 1) := by decide +kernel
theorem dX12_begins_22 : decode cX12_begins 22 = .ok (.iastore, 1) := by decide +kernel
theorem dX12_begins_23 : decode cX12_begins 23 = .ok (.aload_n 0, 1) := by decide +kernel
theorem dX12_begins_24 : decode cX12_begins 24 = .ok (.iconst 5, 1) := by decide +kernel
theorem dX12_begins_25 : decode cX12_begins 25 = .ok (.bipush 8, 2) := by decide +kernel
theorem dX12_begins_27 : decode cX12_begins 27 = .ok (.iastore, 1) := by decide +kernel
theorem dX12_begins_28 : decode cX12_begins 28 = .ok (.aload_n 0, 1) := by decide +kernel
theorem dX12_begins_29 : decode cX12_begins 29 = .ok (.bipush 6, 2) := by decide +kernel
theorem dX12_begins_31 : decode cX12_begins 31 = .ok (.iconst 3, 1) := by decide +kernel
theorem dX12_begins_32 : decode cX12_begins 32 = .ok (.iastore, 1) := by decide +kernel
theorem dX12_begins_33 : decode cX12_begins 33 = .ok (.aload_n 0, 1) := by decide +kernel
theorem dX12_begins_34 : decode cX12_begins 34 = .ok (.bipush 7, 2) := by decide +kernel
theorem dX12_begins_36 : decode cX12_begins 36 = .ok (.bipush 6, 2) := by decide +kernel
theorem dX12_begins_38 : decode cX12_begins 38 = .ok (.iastore, 1) := by decide +kernel
theorem dX12_begins_39 : decode cX12_begins 39 = .ok (.aload_n 0, 1) := by decide +kernel
theorem dX12_begins_40 : decode cX12_begins 40 = .ok (.bipush 8, 2) := by decide +kernel
theorem dX12_begins_42 : decode cX12_begins 42 = .ok (.bipush 20, 2) := by decide +kernel
theorem dX12_begins_44 : decode cX12_begins 44 = .ok (.iastore, 1) := by decide +kernel
theorem dX12_begins_45 : decode cX12_begins 45 = .ok (.aload_n 0, 1) := by decide +kernel
theorem dX12_begins_46 : decode cX12_begins 46 = .ok (.bipush 9, 2) := by decide +kernel
theorem dX12_begins_48 : decode cX12_begins 48 = .ok (.iconst 5, 1) := by decide +kernel
theorem dX12_begins_49 : decode cX12_begins 49 = .ok (.iastore, 1) := by decide +kernel
theorem dX12_begins_50 : decode cX12_begins 50 = .ok (.iconst 0, 1) := by decide +kernel
theorem dX12_begins_51 : decode cX12_begins 51 = .ok (.istore_n 1, 1) := by decide +kernel
theorem dX12_begins_52 : decode cX12_begins 52 = .ok (.iload_n 1, 1) := by decide +kernel
theorem dX12_begins_53 : decode cX12_begins 53 = .ok (.bipush 96, 2) := by decide +kernel
theorem dX12_begins_55 : decode cX12_begins 55 = .ok (.if_icmp .ge 50, 3) := by decide +kernel
theorem dX12_begins_58 : decode cX12_begins 58 = .ok (.aload_n 0, 1) := by decide +kernel
theorem dX12_begins_59 : decode cX12_begins 59 = .ok (.bipush 12, 2) := by decide +kernel
theorem dX12_begins_61 : decode cX12_begins 61 = .ok (.iconst 3, 1) := by decide +kernel
theorem dX12_begins_62 : decode cX12_begins 62 = .ok (.iload_n 1, 1) := by decide +kernel
theorem dX12_begins_63 : decode cX12_begins 63 = .ok (.imul, 1) := by decide +kernel
theorem dX12_begins_64 : decode cX12_begins 64 = .ok (.iadd, 1) := by decide +kernel
theorem dX12_begins_65 : decode cX12_begins 65 = .ok (.iload_n 1, 1) := by decide +kernel
theorem dX12_begins_66 : decode cX12_begins 66 = .ok (.bipush 24, 2) := by decide +kernel
theorem dX12_begins_68 : decode cX12_begins 68 = .ok (.if_icmp .ge 7, 3) := by decide +kernel
theorem dX12_begins_71 : decode cX12_begins 71 = .ok (.iconst 4, 1) := by decide +kernel
theorem dX12_begins_72 : decode cX12_begins 72 = .ok (.goto 4, 3) := by decide +kernel
theorem dX12_begins_75 : decode cX12_begins 75 = .ok (.iconst 5, 1) := by decide +kernel
theorem dX12_begins_76 : decode cX12_begins 76 = .ok (.iastore, 1) := by decide +kernel
theorem dX12_begins_77 : decode cX12_begins 77 = .ok (.aload_n 0, 1) := by decide +kernel
theorem dX12_begins_78 : decode cX12_begins 78 = .ok (.bipush 12, 2) := by decide +kernel
theorem dX12_begins_80 : decode cX12_begins 80 = .ok (.iconst 3, 1) := by decide +kernel
theorem dX12_begins_81 : decode cX12_begins 81 = .ok (.iload_n 1, 1) := by decide +kernel
theorem dX12_begins_82 : decode cX12_begins 82 = .ok (.imul, 1) := by decide +kernel
theorem dX12_begins_83 : decode cX12_begins 83 = .ok (.iadd, 1) := by decide +kernel
theorem dX12_begins_84 : decode cX12_begins 84 = .ok (.iconst 1, 1) := by decide +kernel
theorem dX12_begins_85 : decode cX12_begins 85 = .ok (.iadd, 1) := by decide +kernel
theorem dX12_begins_86 : decode cX12_begins 86 = .ok (.iconst (-1), 1) := by decide +kernel
theorem dX12_begins_87 : decode cX12_begins 87 = .ok (.iastore, 1) := by decide +kernel
theorem dX12_begins_88 : decode cX12_begins 88 = .ok (.aload_n 0, 1) := by decide +kernel
theorem dX12_begins_89 : decode cX12_begins 89 = .ok (.bipush 12, 2) := by decide +kernel
theorem dX12_begins_91 : decode cX12_begins 91 = .ok (.iconst 3, 1) := by decide +kernel
theorem dX12_begins_92 : decode cX12_begins 92 = .ok (.iload_n 1, 1) := by decide +kernel
theorem dX12_begins_93 : decode cX12_begins 93 = .ok (.imul, 1) := by decide +kernel
theorem dX12_begins_94 : decode cX12_begins 94 = .ok (.iadd, 1) := by decide +kernel
theorem dX12_begins_95 : decode cX12_begins 95 = .ok (.iconst 2, 1) := by decide +kernel
theorem dX12_begins_96 : decode cX12_begins 96 = .ok (.iadd, 1) := by decide +kernel
theorem dX12_begins_97 : decode cX12_begins 97 = .ok (.iconst (-1), 1) := by decide +kernel
theorem dX12_begins_98 : decode cX12_begins 98 = .ok (.iastore, 1) := by decide +kernel
theorem dX12_begins_99 : decode cX12_begins 99 = .ok (.iinc 1 1, 3) := by decide +kernel
theorem dX12_begins_102 : decode cX12_begins 102 = .ok (.goto (-50), 3) := by decide +kernel
theorem dX12_begins_105 : decode cX12_begins 105 = .ok (.return_, 1) := by decide +kernel
def rmX12_begins : Room := { frames := 0, cells := 0, slots := 0, locals := 0 }
set_option maxRecDepth 100000 in
def fX12_begins_J76 (N : Nat) (g : Gs) (x0 : Nat) (K52 : Int32 × Ds → Option (Unit × Ds)) (y1 : Int32) (z0 : Int32) (z1 : Int32) (z2 : Nat) (d : Ds) : Option (Unit × Ds) := gd (chk g z2 102) <| gd (¬ (z1 < 0 ∨ gL g z2 ≤ z1.toNatClampNeg)) <| bd (sI d z2 z1.toNatClampNeg z0) fun d19 => (gd (chk g x0 102) <| gd (¬ ((((12 : Int32) + ((3 : Int32) * y1)) + 1) < 0 ∨ gL g x0 ≤ (((12 : Int32) + ((3 : Int32) * y1)) + 1).toNatClampNeg)) <| bd (sI d19 x0 (((12 : Int32) + ((3 : Int32) * y1)) + 1).toNatClampNeg (-1)) fun d22 => (gd (¬ ((((12 : Int32) + ((3 : Int32) * y1)) + 2) < 0 ∨ gL g x0 ≤ (((12 : Int32) + ((3 : Int32) * y1)) + 2).toNatClampNeg)) <| bd (sI d22 x0 (((12 : Int32) + ((3 : Int32) * y1)) + 2).toNatClampNeg (-1)) fun d24 => (bd (y1 + 1) fun u25 => (K52 (u25, d24)))))
set_option maxHeartbeats 4000000 in
set_option maxRecDepth 100000 in
theorem tX12_begins_76 {p : Program} {l : Launch} {e : Env} {s : State} {m : MethodId} {args : Array Value} {below : List Frame} {meth : Method} {c : Code} {D : va_G} {cy : Nat → ClassId} {B : Bs} (C : Cx p s m args c cX12_begins 2 RX12 D cy B) (hr : meth.sig.returnType = none) (hlocks : meth.locks = false) {N : Nat} {g : Gs} {x0 : Nat}  {dz : Ds} {K52 : Int32 × Ds → Option (Unit × Ds)} (hK52 : ∀ a, K52 a = some ((), dz) → WB p l e rmX12_begins s m args below meth c 2 D cy B 0 0 (MQ below (QV D cy B g dz) args s 0 0 (wA B)) g a.2 [(0, .ref (ad B x0)), (1, .int a.1)] 52 []) {y1 : Int32} {z0 : Int32} {z1 : Int32} {z2 : Nat} {d : Ds} (hf : fX12_begins_J76 N g x0 K52 y1 z0 z1 z2 d = some ((), dz)) : WB p l e rmX12_begins s m args below meth c 2 D cy B 0 0 (MQ below (QV D cy B g dz) args s 0 0 (wA B)) g d [(0, .ref (ad B x0)), (1, .int y1)] 76 [.int z0, .int z1, .ref (ad B z2)] := by
  unfold fX12_begins_J76 at hf
  obtain ⟨h17, hf⟩ := gd_s hf
  obtain ⟨h18, hf⟩ := gd_s hf
  obtain ⟨d19, ed19, hf⟩ := bd_s hf
  refine b_iast C h17 h18 ed19 dX12_begins_76 ?_
  refine b_aload_n C dX12_begins_77 0 rfl rfl ?_
  refine b_bipush C (v := 12) dX12_begins_78 (by decide) ?_
  refine b_iconst C (v := 3) dX12_begins_80 (by decide) ?_
  refine b_iload_n C dX12_begins_81 1 rfl rfl ?_
  refine b_imul C dX12_begins_82 ?_
  refine b_iadd C dX12_begins_83 ?_
  refine b_iconst C (v := 1) dX12_begins_84 (by decide) ?_
  refine b_iadd C dX12_begins_85 ?_
  refine b_iconst C (v := (-1)) dX12_begins_86 (by decide) ?_
  obtain ⟨h20, hf⟩ := gd_s hf
  obtain ⟨h21, hf⟩ := gd_s hf
  obtain ⟨d22, ed22, hf⟩ := bd_s hf
  refine b_iast C h20 h21 ed22 dX12_begins_87 ?_
  refine b_aload_n C dX12_begins_88 0 rfl rfl ?_
  refine b_bipush C (v := 12) dX12_begins_89 (by decide) ?_
  refine b_iconst C (v := 3) dX12_begins_91 (by decide) ?_
  refine b_iload_n C dX12_begins_92 1 rfl rfl ?_
  refine b_imul C dX12_begins_93 ?_
  refine b_iadd C dX12_begins_94 ?_
  refine b_iconst C (v := 2) dX12_begins_95 (by decide) ?_
  refine b_iadd C dX12_begins_96 ?_
  refine b_iconst C (v := (-1)) dX12_begins_97 (by decide) ?_
  obtain ⟨h23, hf⟩ := gd_s hf
  obtain ⟨d24, ed24, hf⟩ := bd_s hf
  refine b_iast C h20 h23 ed24 dX12_begins_98 ?_
  obtain ⟨u25, eu25, hf⟩ := bd_s hf
  refine b_iinc C dX12_begins_99 1 rfl (by rw [eu25]; rfl) [(1, .int u25), (0, .ref (ad B x0))] (by decide) rfl ?_
  refine b_goto C (tgt := 52) dX12_begins_102 (by decide) ?_
  refine b_sub [(0, .ref (ad B x0)), (1, .int u25)] [1, 0] rfl ?_
  exact hK52 (u25, d24) hf
set_option maxRecDepth 100000 in
def fX12_begins_B52 (N : Nat) (g : Gs) (x0 : Nat) (K52 : Int32 × Ds → Option (Unit × Ds)) (y1 : Int32) (d : Ds) : Option (Unit × Ds) := if (96 : Int32) ≤ y1 then (some ((), d)) else (if (24 : Int32) ≤ y1 then (fX12_begins_J76 N g x0 K52 y1 5 ((12 : Int32) + ((3 : Int32) * y1)) x0 d) else (fX12_begins_J76 N g x0 K52 y1 4 ((12 : Int32) + ((3 : Int32) * y1)) x0 d))
set_option maxHeartbeats 4000000 in
set_option maxRecDepth 100000 in
theorem tX12_begins_52 {p : Program} {l : Launch} {e : Env} {s : State} {m : MethodId} {args : Array Value} {below : List Frame} {meth : Method} {c : Code} {D : va_G} {cy : Nat → ClassId} {B : Bs} (C : Cx p s m args c cX12_begins 2 RX12 D cy B) (hr : meth.sig.returnType = none) (hlocks : meth.locks = false) {N : Nat} {g : Gs} {x0 : Nat}  {dz : Ds} {K52 : Int32 × Ds → Option (Unit × Ds)} (hK52 : ∀ a, K52 a = some ((), dz) → WB p l e rmX12_begins s m args below meth c 2 D cy B 0 0 (MQ below (QV D cy B g dz) args s 0 0 (wA B)) g a.2 [(0, .ref (ad B x0)), (1, .int a.1)] 52 []) {y1 : Int32} {d : Ds} (hf : fX12_begins_B52 N g x0 K52 y1 d = some ((), dz)) : WB p l e rmX12_begins s m args below meth c 2 D cy B 0 0 (MQ below (QV D cy B g dz) args s 0 0 (wA B)) g d [(0, .ref (ad B x0)), (1, .int y1)] 52 [] := by
  unfold fX12_begins_B52 at hf
  refine b_iload_n C dX12_begins_52 1 rfl rfl ?_
  refine b_bipush C (v := 96) dX12_begins_53 (by decide) ?_
  refine b_icmp_ge C (tgt := 105) dX12_begins_55 (by decide) (fun c15 => ?_) (fun c15 => ?_)
  · have hf := it_s c15 hf
    exact b_vret C hr hlocks hf dX12_begins_105
  · have hf := if_s c15 hf
    refine b_aload_n C dX12_begins_58 0 rfl rfl ?_
    refine b_bipush C (v := 12) dX12_begins_59 (by decide) ?_
    refine b_iconst C (v := 3) dX12_begins_61 (by decide) ?_
    refine b_iload_n C dX12_begins_62 1 rfl rfl ?_
    refine b_imul C dX12_begins_63 ?_
    refine b_iadd C dX12_begins_64 ?_
    refine b_iload_n C dX12_begins_65 1 rfl rfl ?_
    refine b_bipush C (v := 24) dX12_begins_66 (by decide) ?_
    refine b_icmp_ge C (tgt := 75) dX12_begins_68 (by decide) (fun c16 => ?_) (fun c16 => ?_)
    · have hf := it_s c16 hf
      refine b_iconst C (v := 5) dX12_begins_75 (by decide) ?_
      refine b_sub [(0, .ref (ad B x0)), (1, .int y1)] [0, 1] rfl ?_
      exact tX12_begins_76 C hr hlocks hK52 hf
    · have hf := if_s c16 hf
      refine b_iconst C (v := 4) dX12_begins_71 (by decide) ?_
      refine b_goto C (tgt := 76) dX12_begins_72 (by decide) ?_
      refine b_sub [(0, .ref (ad B x0)), (1, .int y1)] [0, 1] rfl ?_
      exact tX12_begins_76 C hr hlocks hK52 hf
def fX12_begins_L52 (N : Nat) (g : Gs) (x0 : Nat) : Int32 × Ds → Option (Unit × Ds) := lp (fun K52 a => fX12_begins_B52 N g x0 K52 a.1 a.2) N
theorem tX12_begins_L52 {p : Program} {l : Launch} {e : Env} {s : State} {m : MethodId} {args : Array Value} {below : List Frame} {meth : Method} {c : Code} {D : va_G} {cy : Nat → ClassId} {B : Bs} (C : Cx p s m args c cX12_begins 2 RX12 D cy B) (hr : meth.sig.returnType = none) (hlocks : meth.locks = false) {N : Nat} {g : Gs} {x0 : Nat}  {dz : Ds} (a : Int32 × Ds) (hf : fX12_begins_L52 N g x0 a = some ((), dz)) : WB p l e rmX12_begins s m args below meth c 2 D cy B 0 0 (MQ below (QV D cy B g dz) args s 0 0 (wA B)) g a.2 [(0, .ref (ad B x0)), (1, .int a.1)] 52 [] :=
  lp_w (fun K52 hK52 a ha => tX12_begins_52 C hr hlocks hK52 ha) N a hf
set_option maxRecDepth 100000 in
def fX12_begins_B2 (N : Nat) (g : Gs) (x0 : Nat) (K2 : Int32 × Ds → Option (Unit × Ds)) (y1 : Int32) (d : Ds) : Option (Unit × Ds) := if (352 : Int32) ≤ y1 then (gd (chk g x0 102) <| gd (¬ ((4 : Int32) < 0 ∨ gL g x0 ≤ (4 : Int32).toNatClampNeg)) <| bd (sI d x0 (4 : Int32).toNatClampNeg 2) fun d4 => (gd (¬ ((5 : Int32) < 0 ∨ gL g x0 ≤ (5 : Int32).toNatClampNeg)) <| bd (sI d4 x0 (5 : Int32).toNatClampNeg 8) fun d6 => (gd (¬ ((6 : Int32) < 0 ∨ gL g x0 ≤ (6 : Int32).toNatClampNeg)) <| bd (sI d6 x0 (6 : Int32).toNatClampNeg 3) fun d8 => (gd (¬ ((7 : Int32) < 0 ∨ gL g x0 ≤ (7 : Int32).toNatClampNeg)) <| bd (sI d8 x0 (7 : Int32).toNatClampNeg 6) fun d10 => (gd (¬ ((8 : Int32) < 0 ∨ gL g x0 ≤ (8 : Int32).toNatClampNeg)) <| bd (sI d10 x0 (8 : Int32).toNatClampNeg 20) fun d12 => (gd (¬ ((9 : Int32) < 0 ∨ gL g x0 ≤ (9 : Int32).toNatClampNeg)) <| bd (sI d12 x0 (9 : Int32).toNatClampNeg 5) fun d14 => (fX12_begins_L52 N g x0 (0, d14)))))))) else (gd (chk g x0 102) <| gd (¬ (y1 < 0 ∨ gL g x0 ≤ y1.toNatClampNeg)) <| bd (sI d x0 y1.toNatClampNeg 0) fun d28 => (bd (y1 + 1) fun u29 => (K2 (u29, d28))))
set_option maxHeartbeats 4000000 in
set_option maxRecDepth 100000 in
theorem tX12_begins_2 {p : Program} {l : Launch} {e : Env} {s : State} {m : MethodId} {args : Array Value} {below : List Frame} {meth : Method} {c : Code} {D : va_G} {cy : Nat → ClassId} {B : Bs} (C : Cx p s m args c cX12_begins 2 RX12 D cy B) (hr : meth.sig.returnType = none) (hlocks : meth.locks = false) {N : Nat} {g : Gs} {x0 : Nat}  {dz : Ds} {K2 : Int32 × Ds → Option (Unit × Ds)} (hK2 : ∀ a, K2 a = some ((), dz) → WB p l e rmX12_begins s m args below meth c 2 D cy B 0 0 (MQ below (QV D cy B g dz) args s 0 0 (wA B)) g a.2 [(0, .ref (ad B x0)), (1, .int a.1)] 2 []) {y1 : Int32} {d : Ds} (hf : fX12_begins_B2 N g x0 K2 y1 d = some ((), dz)) : WB p l e rmX12_begins s m args below meth c 2 D cy B 0 0 (MQ below (QV D cy B g dz) args s 0 0 (wA B)) g d [(0, .ref (ad B x0)), (1, .int y1)] 2 [] := by
  unfold fX12_begins_B2 at hf
  refine b_iload_n C dX12_begins_2 1 rfl rfl ?_
  refine b_sipush C (v := 352) dX12_begins_3 (by decide) ?_
  refine b_icmp_ge C (tgt := 19) dX12_begins_6 (by decide) (fun c1 => ?_) (fun c1 => ?_)
  · have hf := it_s c1 hf
    refine b_aload_n C dX12_begins_19 0 rfl rfl ?_
    refine b_iconst C (v := 4) dX12_begins_20 (by decide) ?_
    refine b_iconst C (v := 2) dX12_begins_21 (by decide) ?_
    obtain ⟨h2, hf⟩ := gd_s hf
    obtain ⟨h3, hf⟩ := gd_s hf
    obtain ⟨d4, ed4, hf⟩ := bd_s hf
    refine b_iast C h2 h3 ed4 dX12_begins_22 ?_
    refine b_aload_n C dX12_begins_23 0 rfl rfl ?_
    refine b_iconst C (v := 5) dX12_begins_24 (by decide) ?_
    refine b_bipush C (v := 8) dX12_begins_25 (by decide) ?_
    obtain ⟨h5, hf⟩ := gd_s hf
    obtain ⟨d6, ed6, hf⟩ := bd_s hf
    refine b_iast C h2 h5 ed6 dX12_begins_27 ?_
    refine b_aload_n C dX12_begins_28 0 rfl rfl ?_
    refine b_bipush C (v := 6) dX12_begins_29 (by decide) ?_
    refine b_iconst C (v := 3) dX12_begins_31 (by decide) ?_
    obtain ⟨h7, hf⟩ := gd_s hf
    obtain ⟨d8, ed8, hf⟩ := bd_s hf
    refine b_iast C h2 h7 ed8 dX12_begins_32 ?_
    refine b_aload_n C dX12_begins_33 0 rfl rfl ?_
    refine b_bipush C (v := 7) dX12_begins_34 (by decide) ?_
    refine b_bipush C (v := 6) dX12_begins_36 (by decide) ?_
    obtain ⟨h9, hf⟩ := gd_s hf
    obtain ⟨d10, ed10, hf⟩ := bd_s hf
    refine b_iast C h2 h9 ed10 dX12_begins_38 ?_
    refine b_aload_n C dX12_begins_39 0 rfl rfl ?_
    refine b_bipush C (v := 8) dX12_begins_40 (by decide) ?_
    refine b_bipush C (v := 20) dX12_begins_42 (by decide) ?_
    obtain ⟨h11, hf⟩ := gd_s hf
    obtain ⟨d12, ed12, hf⟩ := bd_s hf
    refine b_iast C h2 h11 ed12 dX12_begins_44 ?_
    refine b_aload_n C dX12_begins_45 0 rfl rfl ?_
    refine b_bipush C (v := 9) dX12_begins_46 (by decide) ?_
    refine b_iconst C (v := 5) dX12_begins_48 (by decide) ?_
    obtain ⟨h13, hf⟩ := gd_s hf
    obtain ⟨d14, ed14, hf⟩ := bd_s hf
    refine b_iast C h2 h13 ed14 dX12_begins_49 ?_
    refine b_iconst C (v := 0) dX12_begins_50 (by decide) ?_
    refine b_istore_n C dX12_begins_51 rfl [(1, .int 0), (0, .ref (ad B x0))] (by decide) rfl ?_
    refine b_sub [(0, .ref (ad B x0)), (1, .int 0)] [1, 0] rfl ?_
    exact tX12_begins_L52 C hr hlocks (0, d14) hf
  · have hf := if_s c1 hf
    refine b_aload_n C dX12_begins_9 0 rfl rfl ?_
    refine b_iload_n C dX12_begins_10 1 rfl rfl ?_
    refine b_iconst C (v := 0) dX12_begins_11 (by decide) ?_
    obtain ⟨h26, hf⟩ := gd_s hf
    obtain ⟨h27, hf⟩ := gd_s hf
    obtain ⟨d28, ed28, hf⟩ := bd_s hf
    refine b_iast C h26 h27 ed28 dX12_begins_12 ?_
    obtain ⟨u29, eu29, hf⟩ := bd_s hf
    refine b_iinc C dX12_begins_13 1 rfl (by rw [eu29]; rfl) [(1, .int u29), (0, .ref (ad B x0))] (by decide) rfl ?_
    refine b_goto C (tgt := 2) dX12_begins_16 (by decide) ?_
    refine b_sub [(0, .ref (ad B x0)), (1, .int u29)] [1, 0] rfl ?_
    exact hK2 (u29, d28) hf
def fX12_begins_L2 (N : Nat) (g : Gs) (x0 : Nat) : Int32 × Ds → Option (Unit × Ds) := lp (fun K2 a => fX12_begins_B2 N g x0 K2 a.1 a.2) N
theorem tX12_begins_L2 {p : Program} {l : Launch} {e : Env} {s : State} {m : MethodId} {args : Array Value} {below : List Frame} {meth : Method} {c : Code} {D : va_G} {cy : Nat → ClassId} {B : Bs} (C : Cx p s m args c cX12_begins 2 RX12 D cy B) (hr : meth.sig.returnType = none) (hlocks : meth.locks = false) {N : Nat} {g : Gs} {x0 : Nat}  {dz : Ds} (a : Int32 × Ds) (hf : fX12_begins_L2 N g x0 a = some ((), dz)) : WB p l e rmX12_begins s m args below meth c 2 D cy B 0 0 (MQ below (QV D cy B g dz) args s 0 0 (wA B)) g a.2 [(0, .ref (ad B x0)), (1, .int a.1)] 2 [] :=
  lp_w (fun K2 hK2 a ha => tX12_begins_2 C hr hlocks hK2 ha) N a hf
set_option maxRecDepth 100000 in
def fX12_begins (N : Nat) (g : Gs) (x0 : Nat) (d : Ds) : Option (Unit × Ds) := fX12_begins_L2 N g x0 (0, d)
set_option maxHeartbeats 4000000 in
set_option maxRecDepth 100000 in
theorem tX12_begins_E {p : Program} {l : Launch} {e : Env} {s : State} {m : MethodId} {args : Array Value} {below : List Frame} {meth : Method} {c : Code} {D : va_G} {cy : Nat → ClassId} {B : Bs} (C : Cx p s m args c cX12_begins 2 RX12 D cy B) (hr : meth.sig.returnType = none) (hlocks : meth.locks = false) {N : Nat} {g : Gs} {x0 : Nat}  {dz : Ds} {d : Ds} (hf : fX12_begins N g x0 d = some ((), dz)) : WB p l e rmX12_begins s m args below meth c 2 D cy B 0 0 (MQ below (QV D cy B g dz) args s 0 0 (wA B)) g d [(0, .ref (ad B x0))] 0 [] := by
  unfold fX12_begins at hf
  refine b_iconst C (v := 0) dX12_begins_0 (by decide) ?_
  refine b_istore_n C dX12_begins_1 rfl [(1, .int 0), (0, .ref (ad B x0))] (by decide) rfl ?_
  refine b_sub [(0, .ref (ad B x0)), (1, .int 0)] [1, 0] rfl ?_
  exact tX12_begins_L2 C hr hlocks (0, d) hf
theorem kX12_begins (l : Launch) (D : va_G) (cy : Nat → ClassId) (B : Bs) {N : Nat} {g : Gs} {x0 : Nat}  {dz : Ds} {d : Ds} (hf : fX12_begins N g x0 d = some ((), dz)) : Met l yX12_begins (.code yX12_begins cX12_begins 2 none :: wl) rmX12_begins (PC D cy B [.ref (ad B x0)] g d) (QV D cy B g dz) 0 0 (wA B) :=
  met_of (by decide +kernel) (Nat.le_of_ble_eq_true rfl) (fun p e s m args below meth c C hr hlocks _ => b_sub [(0, .ref (ad B x0))] [0] rfl (tX12_begins_E C hr hlocks hf))
/-! KeyMatrixModel.startsAnew()V -/
theorem inl11 : ∀ w ∈ u_ws RX12 TX12 33, w ∈ wl := by
  have h0 : u_ws RX12 TX12 33 = [Cond.lays "KeyMatrixModel" "KeyMatrixModel" "thrown" "I", Cond.laysFinal "KeyMatrixModel" "KeyMatrixModel" "tape" "[B", Cond.lays "KeyMatrixModel" "KeyMatrixModel" "taped" "I", Cond.laysFinal "KeyMatrixModel" "KeyMatrixModel" "text" "[B", Cond.lays "KeyMatrixModel" "KeyMatrixModel" "size" "I", Cond.laysFinal "KeyMatrixModel" "KeyMatrixModel" "tKind" "[I", Cond.laysFinal "KeyMatrixModel" "KeyMatrixModel" "tPlace" "[I", Cond.laysFinal "KeyMatrixModel" "KeyMatrixModel" "tValue" "[I", Cond.laysFinal "KeyMatrixModel" "KeyMatrixModel" "tName" "[J", Cond.laysFinal "KeyMatrixModel" "KeyMatrixModel" "keys" "[J", Cond.lays "KeyMatrixModel" "KeyMatrixModel" "tokens" "I", Cond.lays "KeyMatrixModel" "KeyMatrixModel" "t" "I", Cond.lays "KeyMatrixModel" "KeyMatrixModel" "fault" "I", Cond.lays "KeyMatrixModel" "KeyMatrixModel" "faultPlace" "I", Cond.lays "KeyMatrixModel" "KeyMatrixModel" "worst" "I", Cond.lays "KeyMatrixModel" "KeyMatrixModel" "worstPlace" "I", Cond.lays "KeyMatrixModel" "KeyMatrixModel" "place" "I", Cond.laysFinal "KeyMatrixModel" "KeyMatrixModel" "now" "[I", Cond.laysFinal "KeyMatrixModel" "KeyMatrixModel" "draft" "[I", Cond.laysFinal "KeyMatrixModel" "KeyMatrixModel" "steady" "[F", Cond.lays "KeyMatrixModel" "KeyMatrixModel" "chordLines" "I", Cond.lays "KeyMatrixModel" "KeyMatrixModel" "macroLines" "I", Cond.lays "KeyMatrixModel" "KeyMatrixModel" "isBoard" "Z", Cond.laysFinal "KeyMatrixModel" "KeyMatrixModel" "deedTold" "[I", Cond.laysFinal "KeyMatrixModel" "KeyMatrixModel" "partOf" "[I", Cond.lays "KeyMatrixModel" "KeyMatrixModel" "sentMods" "I", Cond.lays "KeyMatrixModel" "KeyMatrixModel" "sentMany" "I", Cond.laysFinal "KeyMatrixModel" "KeyMatrixModel" "sentCodes" "[I", Cond.laysFinal "KeyMatrixModel" "KeyMatrixModel" "aside" "[I", Cond.laysFinal "KeyMatrixModel" "KeyMatrixModel" "asideSteady" "[F", Cond.laysFinal "KeyMatrixModel" "KeyMatrixModel" "held" "[I", Cond.laysFinal "KeyMatrixModel" "KeyMatrixModel" "heldSteady" "[F", Cond.laysFinal "KeyMatrixModel" "KeyMatrixModel" "isHeld" "[Z"] := by decide +kernel
  rw [h0]
  exact List.forall_mem_cons.mpr ⟨mW (mT5 (List.mem_of_getElem? (i := 124) (by decide +kernel))) rfl, List.forall_mem_cons.mpr ⟨mW (mT5 (List.mem_of_getElem? (i := 126) (by decide +kernel))) rfl, List.forall_mem_cons.mpr ⟨mW (mT5 (List.mem_of_getElem? (i := 128) (by decide +kernel))) rfl, List.forall_mem_cons.mpr ⟨mW (mT5 (List.mem_of_getElem? (i := 130) (by decide +kernel))) rfl, List.forall_mem_cons.mpr ⟨mW (mT5 (List.mem_of_getElem? (i := 132) (by decide +kernel))) rfl, List.forall_mem_cons.mpr ⟨mW (mT5 (List.mem_of_getElem? (i := 134) (by decide +kernel))) rfl, List.forall_mem_cons.mpr ⟨mW (mT5 (List.mem_of_getElem? (i := 136) (by decide +kernel))) rfl, List.forall_mem_cons.mpr ⟨mW (mT5 (List.mem_of_getElem? (i := 138) (by decide +kernel))) rfl, List.forall_mem_cons.mpr ⟨mW (mT5 (List.mem_of_getElem? (i := 140) (by decide +kernel))) rfl, List.forall_mem_cons.mpr ⟨mW (mT5 (List.mem_of_getElem? (i := 142) (by decide +kernel))) rfl, List.forall_mem_cons.mpr ⟨mW (mT5 (List.mem_of_getElem? (i := 144) (by decide +kernel))) rfl, List.forall_mem_cons.mpr ⟨mW (mT5 (List.mem_of_getElem? (i := 146) (by decide +kernel))) rfl, List.forall_mem_cons.mpr ⟨mW (mT5 (List.mem_of_getElem? (i := 148) (by decide +kernel))) rfl, List.forall_mem_cons.mpr ⟨mW (mT5 (List.mem_of_getElem? (i := 150) (by decide +kernel))) rfl, List.forall_mem_cons.mpr ⟨mW (mT5 (List.mem_of_getElem? (i := 152) (by decide +kernel))) rfl, List.forall_mem_cons.mpr ⟨mW (mT5 (List.mem_of_getElem? (i := 154) (by decide +kernel))) rfl, List.forall_mem_cons.mpr ⟨mW (mT5 (List.mem_of_getElem? (i := 156) (by decide +kernel))) rfl, List.forall_mem_cons.mpr ⟨mW (mT5 (List.mem_of_getElem? (i := 158) (by decide +kernel))) rfl, List.forall_mem_cons.mpr ⟨mW (mT5 (List.mem_of_getElem? (i := 160) (by decide +kernel))) rfl, List.forall_mem_cons.mpr ⟨mW (mT5 (List.mem_of_getElem? (i := 162) (by decide +kernel))) rfl, List.forall_mem_cons.mpr ⟨mW (mT5 (List.mem_of_getElem? (i := 164) (by decide +kernel))) rfl, List.forall_mem_cons.mpr ⟨mW (mT5 (List.mem_of_getElem? (i := 166) (by decide +kernel))) rfl, List.forall_mem_cons.mpr ⟨mW (mT5 (List.mem_of_getElem? (i := 168) (by decide +kernel))) rfl, List.forall_mem_cons.mpr ⟨mW (mT5 (List.mem_of_getElem? (i := 170) (by decide +kernel))) rfl, List.forall_mem_cons.mpr ⟨mW (mT5 (List.mem_of_getElem? (i := 172) (by decide +kernel))) rfl, List.forall_mem_cons.mpr ⟨mW (mT5 (List.mem_of_getElem? (i := 174) (by decide +kernel))) rfl, List.forall_mem_cons.mpr ⟨mW (mT5 (List.mem_of_getElem? (i := 176) (by decide +kernel))) rfl, List.forall_mem_cons.mpr ⟨mW (mT5 (List.mem_of_getElem? (i := 178) (by decide +kernel))) rfl, List.forall_mem_cons.mpr ⟨mW (mT5 (List.mem_of_getElem? (i := 180) (by decide +kernel))) rfl, List.forall_mem_cons.mpr ⟨mW (mT5 (List.mem_of_getElem? (i := 182) (by decide +kernel))) rfl, List.forall_mem_cons.mpr ⟨mW (mT5 (List.mem_of_getElem? (i := 184) (by decide +kernel))) rfl, List.forall_mem_cons.mpr ⟨mW (mT5 (List.mem_of_getElem? (i := 186) (by decide +kernel))) rfl, List.forall_mem_cons.mpr ⟨mW (mT5 (List.mem_of_getElem? (i := 188) (by decide +kernel))) rfl, fun _ h => absurd h List.not_mem_nil⟩⟩⟩⟩⟩⟩⟩⟩⟩⟩⟩⟩⟩⟩⟩⟩⟩⟩⟩⟩⟩⟩⟩⟩⟩⟩⟩⟩⟩⟩⟩⟩⟩
theorem fl_X12_40 : FLR RX12 40 11 17 := ⟨⟨RX12, TX12, 33, rfl, by decide, inl11, Or.inl (mW (mT5 (List.mem_of_getElem? (i := 108) (by decide +kernel))) rfl)⟩, by decide, by decide +kernel⟩
theorem fl_X12_46 : FLR RX12 46 11 19 := ⟨⟨RX12, TX12, 33, rfl, by decide, inl11, Or.inl (mW (mT5 (List.mem_of_getElem? (i := 110) (by decide +kernel))) rfl)⟩, by decide, by decide +kernel⟩
theorem dX12_startsAnew_0 : decode cX12_startsAnew 0 = .ok (.sipush 352, 3) := by decide +kernel
theorem dX12_startsAnew_3 : decode cX12_startsAnew 3 = .ok (.istore_n 1, 1) := by decide +kernel
theorem dX12_startsAnew_4 : decode cX12_startsAnew 4 = .ok (.iload_n 1, 1) := by decide +kernel
theorem dX12_startsAnew_5 : decode cX12_startsAnew 5 = .ok (.sipush 9178, 3) := by decide +kernel
theorem dX12_startsAnew_8 : decode cX12_startsAnew 8 = .ok (.if_icmp .ge 16, 3) := by decide +kernel
theorem dX12_startsAnew_11 : decode cX12_startsAnew 11 = .ok (.aload_n 0, 1) := by decide +kernel
theorem dX12_startsAnew_12 : decode cX12_startsAnew 12 = .ok (.getfield 40, 3) := by decide +kernel
theorem dX12_startsAnew_15 : decode cX12_startsAnew 15 = .ok (.iload_n 1, 1) := by decide +kernel
theorem dX12_startsAnew_16 : decode cX12_startsAnew 16 = .ok (.iconst 0, 1) := by decide +kernel
theorem dX12_startsAnew_17 : decode cX12_startsAnew 17 = .ok (.iastore, 1) := by decide +kernel
theorem dX12_startsAnew_18 : decode cX12_startsAnew 18 = .ok (.iinc 1 1, 3) := by decide +kernel
theorem dX12_startsAnew_21 : decode cX12_startsAnew 21 = .ok (.goto (-17), 3) := by decide +kernel
theorem dX12_startsAnew_24 : decode cX12_startsAnew 24 = .ok (.iconst 0, 1) := by decide +kernel
theorem dX12_startsAnew_25 : decode cX12_startsAnew 25 = .ok (.istore_n 1, 1) := by decide +kernel
theorem dX12_startsAnew_26 : decode cX12_startsAnew 26 = .ok (.iload_n 1, 1) := by decide +kernel
theorem dX12_startsAnew_27 : decode cX12_startsAnew 27 = .ok (.bipush 24, 2) := by decide +kernel
theorem dX12_startsAnew_29 : decode cX12_startsAnew 29 = .ok (.if_icmp .ge 55, 3) := by decide +kernel
theorem dX12_startsAnew_32 : decode cX12_startsAnew 32 = .ok (.aload_n 0, 1) := by decide +kernel
theorem dX12_startsAnew_33 : decode cX12_startsAnew 33 = .ok (.getfield 46, 3) := by decide +kernel
theorem dX12_startsAnew_36 : decode cX12_startsAnew 36 = .ok (.iload_n 1, 1) := by decide +kernel
theorem dX12_startsAnew_37 : decode cX12_startsAnew 37 = .ok (.fconst 0, 1) := by decide +kernel
theorem dX12_startsAnew_38 : decode cX12_startsAnew 38 = .ok (.fastore, 1) := by decide +kernel
theorem dX12_startsAnew_39 : decode cX12_startsAnew 39 = .ok (.aload_n 0, 1) := by decide +kernel
theorem dX12_startsAnew_40 : decode cX12_startsAnew 40 = .ok (.getfield 40, 3) := by decide +kernel
theorem dX12_startsAnew_43 : decode cX12_startsAnew 43 = .ok (.sipush 379, 3) := by decide +kernel
theorem dX12_startsAnew_46 : decode cX12_startsAnew 46 = .ok (.iconst 3, 1) := by decide +kernel
theorem dX12_startsAnew_47 : decode cX12_startsAnew 47 = .ok (.iload_n 1, 1) := by decide +kernel
theorem dX12_startsAnew_48 : decode cX12_startsAnew 48 = .ok (.imul, 1) := by decide +kernel
theorem dX12_startsAnew_49 : decode cX12_startsAnew 49 = .ok (.iadd, 1) := by decide +kernel
theorem dX12_startsAnew_50 : decode cX12_startsAnew 50 = .ok (.iconst (-1), 1) := by decide +kernel
theorem dX12_startsAnew_51 : decode cX12_startsAnew 51 = .ok (.iastore, 1) := by decide +kernel
theorem dX12_startsAnew_52 : decode cX12_startsAnew 52 = .ok (.aload_n 0, 1) := by decide +kernel
theorem dX12_startsAnew_53 : decode cX12_startsAnew 53 = .ok (.getfield 40, 3) := by decide +kernel
theorem dX12_startsAnew_56 : decode cX12_startsAnew 56 = .ok (.sipush 379, 3) := by decide +kernel
theorem dX12_startsAnew_59 : decode cX12_startsAnew 59 = .ok (.iconst 3, 1) := by decide +kernel
theorem dX12_startsAnew_60 : decode cX12_startsAnew 60 = .ok (.iload_n 1, 1) := by decide +kernel
theorem dX12_startsAnew_61 : decode cX12_startsAnew 61 = .ok (.imul, 1) := by decide +kernel
theorem dX12_startsAnew_62 : decode cX12_startsAnew 62 = .ok (.iadd, 1) := by decide +kernel
theorem dX12_startsAnew_63 : decode cX12_startsAnew 63 = .ok (.iconst 1, 1) := by decide +kernel
theorem dX12_startsAnew_64 : decode cX12_startsAnew 64 = .ok (.iadd, 1) := by decide +kernel
theorem dX12_startsAnew_65 : decode cX12_startsAnew 65 = .ok (.iconst (-1), 1) := by decide +kernel
theorem dX12_startsAnew_66 : decode cX12_startsAnew 66 = .ok (.iastore, 1) := by decide +kernel
theorem dX12_startsAnew_67 : decode cX12_startsAnew 67 = .ok (.aload_n 0, 1) := by decide +kernel
theorem dX12_startsAnew_68 : decode cX12_startsAnew 68 = .ok (.getfield 40, 3) := by decide +kernel
theorem dX12_startsAnew_71 : decode cX12_startsAnew 71 = .ok (.sipush 507, 3) := by decide +kernel
theorem dX12_startsAnew_74 : decode cX12_startsAnew 74 = .ok (.iload_n 1, 1) := by decide +kernel
theorem dX12_startsAnew_75 : decode cX12_startsAnew 75 = .ok (.iadd, 1) := by decide +kernel
theorem dX12_startsAnew_76 : decode cX12_startsAnew 76 = .ok (.iconst (-1), 1) := by decide +kernel
theorem dX12_startsAnew_77 : decode cX12_startsAnew 77 = .ok (.iastore, 1) := by decide +kernel
theorem dX12_startsAnew_78 : decode cX12_startsAnew 78 = .ok (.iinc 1 1, 3) := by decide +kernel
theorem dX12_startsAnew_81 : decode cX12_startsAnew 81 = .ok (.goto (-55), 3) := by decide +kernel
theorem dX12_startsAnew_84 : decode cX12_startsAnew 84 = .ok (.aload_n 0, 1) := by decide +kernel
theorem dX12_startsAnew_85 : decode cX12_startsAnew 85 = .ok (.getfield 40, 3) := by decide +kernel
theorem dX12_startsAnew_88 : decode cX12_startsAnew 88 = .ok (.sipush 454, 3) := by decide +kernel
theorem dX12_startsAnew_91 : decode cX12_startsAnew 91 = .ok (.iconst (-1), 1) := by decide +kernel
theorem dX12_startsAnew_92 : decode cX12_startsAnew 92 = .ok (.iastore, 1) := by decide +kernel
theorem dX12_startsAnew_93 : decode cX12_startsAnew 93 = .ok (.aload_n 0, 1) := by decide +kernel
theorem dX12_startsAnew_94 : decode cX12_startsAnew 94 = .ok (.getfield 40, 3) := by decide +kernel
theorem dX12_startsAnew_97 : decode cX12_startsAnew 97 = .ok (.sipush 455, 3) := by decide +kernel
theorem dX12_startsAnew_100 : decode cX12_startsAnew 100 = .ok (.iconst (-1), 1) := by decide +kernel
theorem dX12_startsAnew_101 : decode cX12_startsAnew 101 = .ok (.iastore, 1) := by decide +kernel
theorem dX12_startsAnew_102 : decode cX12_startsAnew 102 = .ok (.aload_n 0, 1) := by decide +kernel
theorem dX12_startsAnew_103 : decode cX12_startsAnew 103 = .ok (.getfield 40, 3) := by decide +kernel
theorem dX12_startsAnew_106 : decode cX12_startsAnew 106 = .ok (.sipush 456, 3) := by decide +kernel
theorem dX12_startsAnew_109 : decode cX12_startsAnew 109 = .ok (.iconst (-1), 1) := by decide +kernel
theorem dX12_startsAnew_110 : decode cX12_startsAnew 110 = .ok (.iastore, 1) := by decide +kernel
theorem dX12_startsAnew_111 : decode cX12_startsAnew 111 = .ok (.aload_n 0, 1) := by decide +kernel
theorem dX12_startsAnew_112 : decode cX12_startsAnew 112 = .ok (.getfield 40, 3) := by decide +kernel
theorem dX12_startsAnew_115 : decode cX12_startsAnew 115 = .ok (.sipush 458, 3) := by decide +kernel
theorem dX12_startsAnew_118 : decode cX12_startsAnew 118 = .ok (.iconst (-1), 1) := by decide +kernel
theorem dX12_startsAnew_119 : decode cX12_startsAnew 119 = .ok (.iastore, 1) := by decide +kernel
theorem dX12_startsAnew_120 : decode cX12_startsAnew 120 = .ok (.return_, 1) := by decide +kernel
def rmX12_startsAnew : Room := { frames := 0, cells := 0, slots := 0, locals := 0 }
set_option maxRecDepth 100000 in
def fX12_startsAnew_B26 (N : Nat) (g : Gs) (x0 : Nat) (K26 : Int32 × Ds → Option (Unit × Ds)) (y1 : Int32) (d : Ds) : Option (Unit × Ds) := if (24 : Int32) ≤ y1 then (gd (chk g x0 11) <| ob (gR g x0 17) fun r4 => (gd (chk g r4 102) <| gd (¬ ((454 : Int32) < 0 ∨ gL g r4 ≤ (454 : Int32).toNatClampNeg)) <| bd (sI d r4 (454 : Int32).toNatClampNeg (-1)) fun d7 => (gd (¬ ((455 : Int32) < 0 ∨ gL g r4 ≤ (455 : Int32).toNatClampNeg)) <| bd (sI d7 r4 (455 : Int32).toNatClampNeg (-1)) fun d9 => (gd (¬ ((456 : Int32) < 0 ∨ gL g r4 ≤ (456 : Int32).toNatClampNeg)) <| bd (sI d9 r4 (456 : Int32).toNatClampNeg (-1)) fun d11 => (gd (¬ ((458 : Int32) < 0 ∨ gL g r4 ≤ (458 : Int32).toNatClampNeg)) <| bd (sI d11 r4 (458 : Int32).toNatClampNeg (-1)) fun d13 => (some ((), d13))))))) else (gd (chk g x0 11) <| ob (gR g x0 19) fun r15 => (gd (chk g r15 101) <| gd (¬ (y1 < 0 ∨ gL g r15 ≤ y1.toNatClampNeg)) <| bd (sF d r15 y1.toNatClampNeg FP.fconst0) fun d18 => (ob (gR g x0 17) fun r19 => (gd (chk g r19 102) <| gd (¬ (((379 : Int32) + ((3 : Int32) * y1)) < 0 ∨ gL g r19 ≤ ((379 : Int32) + ((3 : Int32) * y1)).toNatClampNeg)) <| bd (sI d18 r19 ((379 : Int32) + ((3 : Int32) * y1)).toNatClampNeg (-1)) fun d22 => (gd (¬ ((((379 : Int32) + ((3 : Int32) * y1)) + 1) < 0 ∨ gL g r19 ≤ (((379 : Int32) + ((3 : Int32) * y1)) + 1).toNatClampNeg)) <| bd (sI d22 r19 (((379 : Int32) + ((3 : Int32) * y1)) + 1).toNatClampNeg (-1)) fun d24 => (gd (¬ (((507 : Int32) + y1) < 0 ∨ gL g r19 ≤ ((507 : Int32) + y1).toNatClampNeg)) <| bd (sI d24 r19 ((507 : Int32) + y1).toNatClampNeg (-1)) fun d26 => (bd (y1 + 1) fun u27 => (K26 (u27, d26)))))))))
set_option maxHeartbeats 4000000 in
set_option maxRecDepth 100000 in
theorem tX12_startsAnew_26 {p : Program} {l : Launch} {e : Env} {s : State} {m : MethodId} {args : Array Value} {below : List Frame} {meth : Method} {c : Code} {D : va_G} {cy : Nat → ClassId} {B : Bs} (C : Cx p s m args c cX12_startsAnew 2 RX12 D cy B) (hr : meth.sig.returnType = none) (hlocks : meth.locks = false) {N : Nat} {g : Gs} {x0 : Nat}  {dz : Ds} {K26 : Int32 × Ds → Option (Unit × Ds)} (hK26 : ∀ a, K26 a = some ((), dz) → WB p l e rmX12_startsAnew s m args below meth c 2 D cy B 0 0 (MQ below (QV D cy B g dz) args s 0 0 (wA B)) g a.2 [(0, .ref (ad B x0)), (1, .int a.1)] 26 []) {y1 : Int32} {d : Ds} (hf : fX12_startsAnew_B26 N g x0 K26 y1 d = some ((), dz)) : WB p l e rmX12_startsAnew s m args below meth c 2 D cy B 0 0 (MQ below (QV D cy B g dz) args s 0 0 (wA B)) g d [(0, .ref (ad B x0)), (1, .int y1)] 26 [] := by
  unfold fX12_startsAnew_B26 at hf
  refine b_iload_n C dX12_startsAnew_26 1 rfl rfl ?_
  refine b_bipush C (v := 24) dX12_startsAnew_27 (by decide) ?_
  refine b_icmp_ge C (tgt := 84) dX12_startsAnew_29 (by decide) (fun c2 => ?_) (fun c2 => ?_)
  · have hf := it_s c2 hf
    refine b_aload_n C dX12_startsAnew_84 0 rfl rfl ?_
    obtain ⟨h3, hf⟩ := gd_s hf
    obtain ⟨r4, er4, hf⟩ := ob_s hf
    refine b_gR C dX12_startsAnew_85 fl_X12_40 h3 er4 ?_
    refine b_sipush C (v := 454) dX12_startsAnew_88 (by decide) ?_
    refine b_iconst C (v := (-1)) dX12_startsAnew_91 (by decide) ?_
    obtain ⟨h5, hf⟩ := gd_s hf
    obtain ⟨h6, hf⟩ := gd_s hf
    obtain ⟨d7, ed7, hf⟩ := bd_s hf
    refine b_iast C h5 h6 ed7 dX12_startsAnew_92 ?_
    refine b_aload_n C dX12_startsAnew_93 0 rfl rfl ?_
    refine b_gR C dX12_startsAnew_94 fl_X12_40 h3 er4 ?_
    refine b_sipush C (v := 455) dX12_startsAnew_97 (by decide) ?_
    refine b_iconst C (v := (-1)) dX12_startsAnew_100 (by decide) ?_
    obtain ⟨h8, hf⟩ := gd_s hf
    obtain ⟨d9, ed9, hf⟩ := bd_s hf
    refine b_iast C h5 h8 ed9 dX12_startsAnew_101 ?_
    refine b_aload_n C dX12_startsAnew_102 0 rfl rfl ?_
    refine b_gR C dX12_startsAnew_103 fl_X12_40 h3 er4 ?_
    refine b_sipush C (v := 456) dX12_startsAnew_106 (by decide) ?_
    refine b_iconst C (v := (-1)) dX12_startsAnew_109 (by decide) ?_
    obtain ⟨h10, hf⟩ := gd_s hf
    obtain ⟨d11, ed11, hf⟩ := bd_s hf
    refine b_iast C h5 h10 ed11 dX12_startsAnew_110 ?_
    refine b_aload_n C dX12_startsAnew_111 0 rfl rfl ?_
    refine b_gR C dX12_startsAnew_112 fl_X12_40 h3 er4 ?_
    refine b_sipush C (v := 458) dX12_startsAnew_115 (by decide) ?_
    refine b_iconst C (v := (-1)) dX12_startsAnew_118 (by decide) ?_
    obtain ⟨h12, hf⟩ := gd_s hf
    obtain ⟨d13, ed13, hf⟩ := bd_s hf
    refine b_iast C h5 h12 ed13 dX12_startsAnew_119 ?_
    exact b_vret C hr hlocks hf dX12_startsAnew_120
  · have hf := if_s c2 hf
    refine b_aload_n C dX12_startsAnew_32 0 rfl rfl ?_
    obtain ⟨h14, hf⟩ := gd_s hf
    obtain ⟨r15, er15, hf⟩ := ob_s hf
    refine b_gR C dX12_startsAnew_33 fl_X12_46 h14 er15 ?_
    refine b_iload_n C dX12_startsAnew_36 1 rfl rfl ?_
    refine b_fconst0 C dX12_startsAnew_37 ?_
    obtain ⟨h16, hf⟩ := gd_s hf
    obtain ⟨h17, hf⟩ := gd_s hf
    obtain ⟨d18, ed18, hf⟩ := bd_s hf
    refine b_fast C h16 h17 ed18 dX12_startsAnew_38 ?_
    refine b_aload_n C dX12_startsAnew_39 0 rfl rfl ?_
    obtain ⟨r19, er19, hf⟩ := ob_s hf
    refine b_gR C dX12_startsAnew_40 fl_X12_40 h14 er19 ?_
    refine b_sipush C (v := 379) dX12_startsAnew_43 (by decide) ?_
    refine b_iconst C (v := 3) dX12_startsAnew_46 (by decide) ?_
    refine b_iload_n C dX12_startsAnew_47 1 rfl rfl ?_
    refine b_imul C dX12_startsAnew_48 ?_
    refine b_iadd C dX12_startsAnew_49 ?_
    refine b_iconst C (v := (-1)) dX12_startsAnew_50 (by decide) ?_
    obtain ⟨h20, hf⟩ := gd_s hf
    obtain ⟨h21, hf⟩ := gd_s hf
    obtain ⟨d22, ed22, hf⟩ := bd_s hf
    refine b_iast C h20 h21 ed22 dX12_startsAnew_51 ?_
    refine b_aload_n C dX12_startsAnew_52 0 rfl rfl ?_
    refine b_gR C dX12_startsAnew_53 fl_X12_40 h14 er19 ?_
    refine b_sipush C (v := 379) dX12_startsAnew_56 (by decide) ?_
    refine b_iconst C (v := 3) dX12_startsAnew_59 (by decide) ?_
    refine b_iload_n C dX12_startsAnew_60 1 rfl rfl ?_
    refine b_imul C dX12_startsAnew_61 ?_
    refine b_iadd C dX12_startsAnew_62 ?_
    refine b_iconst C (v := 1) dX12_startsAnew_63 (by decide) ?_
    refine b_iadd C dX12_startsAnew_64 ?_
    refine b_iconst C (v := (-1)) dX12_startsAnew_65 (by decide) ?_
    obtain ⟨h23, hf⟩ := gd_s hf
    obtain ⟨d24, ed24, hf⟩ := bd_s hf
    refine b_iast C h20 h23 ed24 dX12_startsAnew_66 ?_
    refine b_aload_n C dX12_startsAnew_67 0 rfl rfl ?_
    refine b_gR C dX12_startsAnew_68 fl_X12_40 h14 er19 ?_
    refine b_sipush C (v := 507) dX12_startsAnew_71 (by decide) ?_
    refine b_iload_n C dX12_startsAnew_74 1 rfl rfl ?_
    refine b_iadd C dX12_startsAnew_75 ?_
    refine b_iconst C (v := (-1)) dX12_startsAnew_76 (by decide) ?_
    obtain ⟨h25, hf⟩ := gd_s hf
    obtain ⟨d26, ed26, hf⟩ := bd_s hf
    refine b_iast C h20 h25 ed26 dX12_startsAnew_77 ?_
    obtain ⟨u27, eu27, hf⟩ := bd_s hf
    refine b_iinc C dX12_startsAnew_78 1 rfl (by rw [eu27]; rfl) [(1, .int u27), (0, .ref (ad B x0))] (by decide) rfl ?_
    refine b_goto C (tgt := 26) dX12_startsAnew_81 (by decide) ?_
    refine b_sub [(0, .ref (ad B x0)), (1, .int u27)] [1, 0] rfl ?_
    exact hK26 (u27, d26) hf
def fX12_startsAnew_L26 (N : Nat) (g : Gs) (x0 : Nat) : Int32 × Ds → Option (Unit × Ds) := lp (fun K26 a => fX12_startsAnew_B26 N g x0 K26 a.1 a.2) N
theorem tX12_startsAnew_L26 {p : Program} {l : Launch} {e : Env} {s : State} {m : MethodId} {args : Array Value} {below : List Frame} {meth : Method} {c : Code} {D : va_G} {cy : Nat → ClassId} {B : Bs} (C : Cx p s m args c cX12_startsAnew 2 RX12 D cy B) (hr : meth.sig.returnType = none) (hlocks : meth.locks = false) {N : Nat} {g : Gs} {x0 : Nat}  {dz : Ds} (a : Int32 × Ds) (hf : fX12_startsAnew_L26 N g x0 a = some ((), dz)) : WB p l e rmX12_startsAnew s m args below meth c 2 D cy B 0 0 (MQ below (QV D cy B g dz) args s 0 0 (wA B)) g a.2 [(0, .ref (ad B x0)), (1, .int a.1)] 26 [] :=
  lp_w (fun K26 hK26 a ha => tX12_startsAnew_26 C hr hlocks hK26 ha) N a hf
set_option maxRecDepth 100000 in
def fX12_startsAnew_B4 (N : Nat) (g : Gs) (x0 : Nat) (K4 : Int32 × Ds → Option (Unit × Ds)) (y1 : Int32) (d : Ds) : Option (Unit × Ds) := if (9178 : Int32) ≤ y1 then (fX12_startsAnew_L26 N g x0 (0, d)) else (gd (chk g x0 11) <| ob (gR g x0 17) fun r29 => (gd (chk g r29 102) <| gd (¬ (y1 < 0 ∨ gL g r29 ≤ y1.toNatClampNeg)) <| bd (sI d r29 y1.toNatClampNeg 0) fun d32 => (bd (y1 + 1) fun u33 => (K4 (u33, d32)))))
set_option maxHeartbeats 4000000 in
set_option maxRecDepth 100000 in
theorem tX12_startsAnew_4 {p : Program} {l : Launch} {e : Env} {s : State} {m : MethodId} {args : Array Value} {below : List Frame} {meth : Method} {c : Code} {D : va_G} {cy : Nat → ClassId} {B : Bs} (C : Cx p s m args c cX12_startsAnew 2 RX12 D cy B) (hr : meth.sig.returnType = none) (hlocks : meth.locks = false) {N : Nat} {g : Gs} {x0 : Nat}  {dz : Ds} {K4 : Int32 × Ds → Option (Unit × Ds)} (hK4 : ∀ a, K4 a = some ((), dz) → WB p l e rmX12_startsAnew s m args below meth c 2 D cy B 0 0 (MQ below (QV D cy B g dz) args s 0 0 (wA B)) g a.2 [(0, .ref (ad B x0)), (1, .int a.1)] 4 []) {y1 : Int32} {d : Ds} (hf : fX12_startsAnew_B4 N g x0 K4 y1 d = some ((), dz)) : WB p l e rmX12_startsAnew s m args below meth c 2 D cy B 0 0 (MQ below (QV D cy B g dz) args s 0 0 (wA B)) g d [(0, .ref (ad B x0)), (1, .int y1)] 4 [] := by
  unfold fX12_startsAnew_B4 at hf
  refine b_iload_n C dX12_startsAnew_4 1 rfl rfl ?_
  refine b_sipush C (v := 9178) dX12_startsAnew_5 (by decide) ?_
  refine b_icmp_ge C (tgt := 24) dX12_startsAnew_8 (by decide) (fun c1 => ?_) (fun c1 => ?_)
  · have hf := it_s c1 hf
    refine b_iconst C (v := 0) dX12_startsAnew_24 (by decide) ?_
    refine b_istore_n C dX12_startsAnew_25 rfl [(1, .int 0), (0, .ref (ad B x0))] (by decide) rfl ?_
    refine b_sub [(0, .ref (ad B x0)), (1, .int 0)] [1, 0] rfl ?_
    exact tX12_startsAnew_L26 C hr hlocks (0, d) hf
  · have hf := if_s c1 hf
    refine b_aload_n C dX12_startsAnew_11 0 rfl rfl ?_
    obtain ⟨h28, hf⟩ := gd_s hf
    obtain ⟨r29, er29, hf⟩ := ob_s hf
    refine b_gR C dX12_startsAnew_12 fl_X12_40 h28 er29 ?_
    refine b_iload_n C dX12_startsAnew_15 1 rfl rfl ?_
    refine b_iconst C (v := 0) dX12_startsAnew_16 (by decide) ?_
    obtain ⟨h30, hf⟩ := gd_s hf
    obtain ⟨h31, hf⟩ := gd_s hf
    obtain ⟨d32, ed32, hf⟩ := bd_s hf
    refine b_iast C h30 h31 ed32 dX12_startsAnew_17 ?_
    obtain ⟨u33, eu33, hf⟩ := bd_s hf
    refine b_iinc C dX12_startsAnew_18 1 rfl (by rw [eu33]; rfl) [(1, .int u33), (0, .ref (ad B x0))] (by decide) rfl ?_
    refine b_goto C (tgt := 4) dX12_startsAnew_21 (by decide) ?_
    refine b_sub [(0, .ref (ad B x0)), (1, .int u33)] [1, 0] rfl ?_
    exact hK4 (u33, d32) hf
def fX12_startsAnew_L4 (N : Nat) (g : Gs) (x0 : Nat) : Int32 × Ds → Option (Unit × Ds) := lp (fun K4 a => fX12_startsAnew_B4 N g x0 K4 a.1 a.2) N
theorem tX12_startsAnew_L4 {p : Program} {l : Launch} {e : Env} {s : State} {m : MethodId} {args : Array Value} {below : List Frame} {meth : Method} {c : Code} {D : va_G} {cy : Nat → ClassId} {B : Bs} (C : Cx p s m args c cX12_startsAnew 2 RX12 D cy B) (hr : meth.sig.returnType = none) (hlocks : meth.locks = false) {N : Nat} {g : Gs} {x0 : Nat}  {dz : Ds} (a : Int32 × Ds) (hf : fX12_startsAnew_L4 N g x0 a = some ((), dz)) : WB p l e rmX12_startsAnew s m args below meth c 2 D cy B 0 0 (MQ below (QV D cy B g dz) args s 0 0 (wA B)) g a.2 [(0, .ref (ad B x0)), (1, .int a.1)] 4 [] :=
  lp_w (fun K4 hK4 a ha => tX12_startsAnew_4 C hr hlocks hK4 ha) N a hf
set_option maxRecDepth 100000 in
def fX12_startsAnew (N : Nat) (g : Gs) (x0 : Nat) (d : Ds) : Option (Unit × Ds) := fX12_startsAnew_L4 N g x0 (352, d)
set_option maxHeartbeats 4000000 in
set_option maxRecDepth 100000 in
theorem tX12_startsAnew_E {p : Program} {l : Launch} {e : Env} {s : State} {m : MethodId} {args : Array Value} {below : List Frame} {meth : Method} {c : Code} {D : va_G} {cy : Nat → ClassId} {B : Bs} (C : Cx p s m args c cX12_startsAnew 2 RX12 D cy B) (hr : meth.sig.returnType = none) (hlocks : meth.locks = false) {N : Nat} {g : Gs} {x0 : Nat}  {dz : Ds} {d : Ds} (hf : fX12_startsAnew N g x0 d = some ((), dz)) : WB p l e rmX12_startsAnew s m args below meth c 2 D cy B 0 0 (MQ below (QV D cy B g dz) args s 0 0 (wA B)) g d [(0, .ref (ad B x0))] 0 [] := by
  unfold fX12_startsAnew at hf
  refine b_sipush C (v := 352) dX12_startsAnew_0 (by decide) ?_
  refine b_istore_n C dX12_startsAnew_3 rfl [(1, .int 352), (0, .ref (ad B x0))] (by decide) rfl ?_
  refine b_sub [(0, .ref (ad B x0)), (1, .int 352)] [1, 0] rfl ?_
  exact tX12_startsAnew_L4 C hr hlocks (352, d) hf
theorem kX12_startsAnew (l : Launch) (D : va_G) (cy : Nat → ClassId) (B : Bs) {N : Nat} {g : Gs} {x0 : Nat}  {dz : Ds} {d : Ds} (hf : fX12_startsAnew N g x0 d = some ((), dz)) : Met l yX12_startsAnew (.code yX12_startsAnew cX12_startsAnew 2 none :: wl) rmX12_startsAnew (PC D cy B [.ref (ad B x0)] g d) (QV D cy B g dz) 0 0 (wA B) :=
  met_of (by decide +kernel) (Nat.le_of_ble_eq_true rfl) (fun p e s m args below meth c C hr hlocks _ => b_sub [(0, .ref (ad B x0))] [0] rfl (tX12_startsAnew_E C hr hlocks hf))
/-! KeyMatrixModel.<init>()V -/
theorem oi_X12_7 : Cond.methodLink RX12 7 objectInit ∈ wl := mW (mT5 (List.mem_of_getElem? (i := 77) (by decide +kernel))) rfl
theorem fq_X12_13 : FLP RX12 13 11 1 := ⟨⟨RX12, TX12, 33, rfl, by decide, inl11, mW (mT5 (List.mem_of_getElem? (i := 92) (by decide +kernel))) rfl⟩, by decide, by decide +kernel⟩
theorem ft11 : FT 11 := ⟨RX12, TX12, 33, tyX12, rfl, tyX12_ok, nmX12⟩
theorem fr11_1 : FPR 11 1 RX12 := ⟨ft11, (RX12, TX12, 33), rfl, by decide +kernel, rfl, fun ty h a => by rw [tyX12_ok 1 (by decide)] at h; cases h; exact ⟨rfl, rfl⟩⟩
theorem fq_X12_17 : FLP RX12 17 11 3 := ⟨⟨RX12, TX12, 33, rfl, by decide, inl11, mW (mT5 (List.mem_of_getElem? (i := 94) (by decide +kernel))) rfl⟩, by decide, by decide +kernel⟩
theorem fr11_3 : FPR 11 3 RX12 := ⟨ft11, (RX12, TX12, 33), rfl, by decide +kernel, rfl, fun ty h a => by rw [tyX12_ok 3 (by decide)] at h; cases h; exact ⟨rfl, rfl⟩⟩
theorem fq_X12_20 : FLP RX12 20 11 5 := ⟨⟨RX12, TX12, 33, rfl, by decide, inl11, mW (mT5 (List.mem_of_getElem? (i := 96) (by decide +kernel))) rfl⟩, by decide, by decide +kernel⟩
theorem fr11_5 : FPR 11 5 RX12 := ⟨ft11, (RX12, TX12, 33), rfl, by decide +kernel, rfl, fun ty h a => by rw [tyX12_ok 5 (by decide)] at h; cases h; exact ⟨rfl, rfl⟩⟩
theorem fq_X12_24 : FLP RX12 24 11 6 := ⟨⟨RX12, TX12, 33, rfl, by decide, inl11, mW (mT5 (List.mem_of_getElem? (i := 97) (by decide +kernel))) rfl⟩, by decide, by decide +kernel⟩
theorem fr11_6 : FPR 11 6 RX12 := ⟨ft11, (RX12, TX12, 33), rfl, by decide +kernel, rfl, fun ty h a => by rw [tyX12_ok 6 (by decide)] at h; cases h; exact ⟨rfl, rfl⟩⟩
theorem fq_X12_27 : FLP RX12 27 11 7 := ⟨⟨RX12, TX12, 33, rfl, by decide, inl11, mW (mT5 (List.mem_of_getElem? (i := 98) (by decide +kernel))) rfl⟩, by decide, by decide +kernel⟩
theorem fr11_7 : FPR 11 7 RX12 := ⟨ft11, (RX12, TX12, 33), rfl, by decide +kernel, rfl, fun ty h a => by rw [tyX12_ok 7 (by decide)] at h; cases h; exact ⟨rfl, rfl⟩⟩
theorem ar_long : Cond.arrayClass (newarray.typeOf .long) ∈ wl := mW (mT5 (List.mem_of_getElem? (i := 191) (by decide +kernel))) rfl
theorem fq_X12_30 : FLP RX12 30 11 8 := ⟨⟨RX12, TX12, 33, rfl, by decide, inl11, mW (mT5 (List.mem_of_getElem? (i := 99) (by decide +kernel))) rfl⟩, by decide, by decide +kernel⟩
theorem fr11_8 : FPR 11 8 RX12 := ⟨ft11, (RX12, TX12, 33), rfl, by decide +kernel, rfl, fun ty h a => by rw [tyX12_ok 8 (by decide)] at h; cases h; exact ⟨rfl, rfl⟩⟩
theorem fq_X12_34 : FLP RX12 34 11 9 := ⟨⟨RX12, TX12, 33, rfl, by decide, inl11, mW (mT5 (List.mem_of_getElem? (i := 100) (by decide +kernel))) rfl⟩, by decide, by decide +kernel⟩
theorem fr11_9 : FPR 11 9 RX12 := ⟨ft11, (RX12, TX12, 33), rfl, by decide +kernel, rfl, fun ty h a => by rw [tyX12_ok 9 (by decide)] at h; cases h; exact ⟨rfl, rfl⟩⟩
theorem fl_X12_37 : FLI RX12 37 11 16 := ⟨⟨RX12, TX12, 33, rfl, by decide, inl11, Or.inl (mW (mT5 (List.mem_of_getElem? (i := 107) (by decide +kernel))) rfl)⟩, by decide, by decide +kernel⟩
theorem fp11_16 : FPI 11 16 := ⟨ft11, (RX12, TX12, 33), rfl, by decide +kernel, by decide +kernel⟩
theorem fq_X12_40 : FLP RX12 40 11 17 := ⟨⟨RX12, TX12, 33, rfl, by decide, inl11, mW (mT5 (List.mem_of_getElem? (i := 108) (by decide +kernel))) rfl⟩, by decide, by decide +kernel⟩
theorem fr11_17 : FPR 11 17 RX12 := ⟨ft11, (RX12, TX12, 33), rfl, by decide +kernel, rfl, fun ty h a => by rw [tyX12_ok 17 (by decide)] at h; cases h; exact ⟨rfl, rfl⟩⟩
theorem fq_X12_43 : FLP RX12 43 11 18 := ⟨⟨RX12, TX12, 33, rfl, by decide, inl11, mW (mT5 (List.mem_of_getElem? (i := 109) (by decide +kernel))) rfl⟩, by decide, by decide +kernel⟩
theorem fr11_18 : FPR 11 18 RX12 := ⟨ft11, (RX12, TX12, 33), rfl, by decide +kernel, rfl, fun ty h a => by rw [tyX12_ok 18 (by decide)] at h; cases h; exact ⟨rfl, rfl⟩⟩
theorem fq_X12_46 : FLP RX12 46 11 19 := ⟨⟨RX12, TX12, 33, rfl, by decide, inl11, mW (mT5 (List.mem_of_getElem? (i := 110) (by decide +kernel))) rfl⟩, by decide, by decide +kernel⟩
theorem fr11_19 : FPR 11 19 RX12 := ⟨ft11, (RX12, TX12, 33), rfl, by decide +kernel, rfl, fun ty h a => by rw [tyX12_ok 19 (by decide)] at h; cases h; exact ⟨rfl, rfl⟩⟩
theorem fq_X12_50 : FLP RX12 50 11 23 := ⟨⟨RX12, TX12, 33, rfl, by decide, inl11, mW (mT5 (List.mem_of_getElem? (i := 114) (by decide +kernel))) rfl⟩, by decide, by decide +kernel⟩
theorem fr11_23 : FPR 11 23 RX12 := ⟨ft11, (RX12, TX12, 33), rfl, by decide +kernel, rfl, fun ty h a => by rw [tyX12_ok 23 (by decide)] at h; cases h; exact ⟨rfl, rfl⟩⟩
theorem fq_X12_53 : FLP RX12 53 11 24 := ⟨⟨RX12, TX12, 33, rfl, by decide, inl11, mW (mT5 (List.mem_of_getElem? (i := 115) (by decide +kernel))) rfl⟩, by decide, by decide +kernel⟩
theorem fr11_24 : FPR 11 24 RX12 := ⟨ft11, (RX12, TX12, 33), rfl, by decide +kernel, rfl, fun ty h a => by rw [tyX12_ok 24 (by decide)] at h; cases h; exact ⟨rfl, rfl⟩⟩
theorem fq_X12_56 : FLP RX12 56 11 27 := ⟨⟨RX12, TX12, 33, rfl, by decide, inl11, mW (mT5 (List.mem_of_getElem? (i := 118) (by decide +kernel))) rfl⟩, by decide, by decide +kernel⟩
theorem fr11_27 : FPR 11 27 RX12 := ⟨ft11, (RX12, TX12, 33), rfl, by decide +kernel, rfl, fun ty h a => by rw [tyX12_ok 27 (by decide)] at h; cases h; exact ⟨rfl, rfl⟩⟩
theorem fq_X12_59 : FLP RX12 59 11 28 := ⟨⟨RX12, TX12, 33, rfl, by decide, inl11, mW (mT5 (List.mem_of_getElem? (i := 119) (by decide +kernel))) rfl⟩, by decide, by decide +kernel⟩
theorem fr11_28 : FPR 11 28 RX12 := ⟨ft11, (RX12, TX12, 33), rfl, by decide +kernel, rfl, fun ty h a => by rw [tyX12_ok 28 (by decide)] at h; cases h; exact ⟨rfl, rfl⟩⟩
theorem fq_X12_62 : FLP RX12 62 11 29 := ⟨⟨RX12, TX12, 33, rfl, by decide, inl11, mW (mT5 (List.mem_of_getElem? (i := 120) (by decide +kernel))) rfl⟩, by decide, by decide +kernel⟩
theorem fr11_29 : FPR 11 29 RX12 := ⟨ft11, (RX12, TX12, 33), rfl, by decide +kernel, rfl, fun ty h a => by rw [tyX12_ok 29 (by decide)] at h; cases h; exact ⟨rfl, rfl⟩⟩
theorem fq_X12_65 : FLP RX12 65 11 30 := ⟨⟨RX12, TX12, 33, rfl, by decide, inl11, mW (mT5 (List.mem_of_getElem? (i := 121) (by decide +kernel))) rfl⟩, by decide, by decide +kernel⟩
theorem fr11_30 : FPR 11 30 RX12 := ⟨ft11, (RX12, TX12, 33), rfl, by decide +kernel, rfl, fun ty h a => by rw [tyX12_ok 30 (by decide)] at h; cases h; exact ⟨rfl, rfl⟩⟩
theorem fq_X12_68 : FLP RX12 68 11 31 := ⟨⟨RX12, TX12, 33, rfl, by decide, inl11, mW (mT5 (List.mem_of_getElem? (i := 122) (by decide +kernel))) rfl⟩, by decide, by decide +kernel⟩
theorem fr11_31 : FPR 11 31 RX12 := ⟨ft11, (RX12, TX12, 33), rfl, by decide +kernel, rfl, fun ty h a => by rw [tyX12_ok 31 (by decide)] at h; cases h; exact ⟨rfl, rfl⟩⟩
theorem ar_boolean : Cond.arrayClass (newarray.typeOf .boolean) ∈ wl := mW (mT5 (List.mem_of_getElem? (i := 192) (by decide +kernel))) rfl
theorem fq_X12_71 : FLP RX12 71 11 32 := ⟨⟨RX12, TX12, 33, rfl, by decide, inl11, mW (mT5 (List.mem_of_getElem? (i := 123) (by decide +kernel))) rfl⟩, by decide, by decide +kernel⟩
theorem fr11_32 : FPR 11 32 RX12 := ⟨ft11, (RX12, TX12, 33), rfl, by decide +kernel, rfl, fun ty h a => by rw [tyX12_ok 32 (by decide)] at h; cases h; exact ⟨rfl, rfl⟩⟩
theorem fl_X12_34 : FLR RX12 34 11 9 := ⟨⟨RX12, TX12, 33, rfl, by decide, inl11, Or.inl (mW (mT5 (List.mem_of_getElem? (i := 100) (by decide +kernel))) rfl)⟩, by decide, by decide +kernel⟩
theorem yo_X12_letters : yX12_letters.cls ≠ "java/lang/invoke/MethodHandle" ∧ yX12_letters.cls ≠ "java/lang/invoke/VarHandle" ∧ (parseMethodDescriptor yX12_letters.desc).map (fun d => d.parameters.length) = some 7 := by decide +kernel
theorem co_X12_letters : Cond.code yX12_letters cX12_letters 7 (some .long) ∈ wl := mW (mT5 (List.mem_of_getElem? (i := 80) (by decide +kernel))) rfl
theorem in_X12_letters : Cond.initialized yX12_letters.cls ∈ wl := mW (mT1 (List.mem_of_getElem? (i := 12) (by decide +kernel))) rfl
theorem st_X12_letters : Cond.static yX12_letters ∈ wl := mW (mT5 (List.mem_of_getElem? (i := 79) (by decide +kernel))) rfl
theorem lv_X12_75 : LSt RX12 75 yX12_letters cX12_letters 7 (some .long) 7 := ⟨yo_X12_letters, Or.inl (mW (mT5 (List.mem_of_getElem? (i := 78) (by decide +kernel))) rfl), st_X12_letters, in_X12_letters, co_X12_letters⟩
theorem yo_X12_begins : yX12_begins.cls ≠ "java/lang/invoke/MethodHandle" ∧ yX12_begins.cls ≠ "java/lang/invoke/VarHandle" ∧ (parseMethodDescriptor yX12_begins.desc).map (fun d => d.parameters.length) = some 1 := by decide +kernel
theorem co_X12_begins : Cond.code yX12_begins cX12_begins 2 none ∈ wl := mW (mT5 (List.mem_of_getElem? (i := 87) (by decide +kernel))) rfl
theorem in_X12_begins : Cond.initialized yX12_begins.cls ∈ wl := mW (mT1 (List.mem_of_getElem? (i := 12) (by decide +kernel))) rfl
theorem st_X12_begins : Cond.static yX12_begins ∈ wl := mW (mT5 (List.mem_of_getElem? (i := 86) (by decide +kernel))) rfl
theorem lv_X12_83 : LSt RX12 83 yX12_begins cX12_begins 2 none 1 := ⟨yo_X12_begins, Or.inl (mW (mT5 (List.mem_of_getElem? (i := 85) (by decide +kernel))) rfl), st_X12_begins, in_X12_begins, co_X12_begins⟩
theorem yo_X12_startsAnew : yX12_startsAnew.cls ≠ "java/lang/invoke/MethodHandle" ∧ yX12_startsAnew.cls ≠ "java/lang/invoke/VarHandle" ∧ (parseMethodDescriptor yX12_startsAnew.desc).map (fun d => d.parameters.length) = some 0 := by decide +kernel
theorem co_X12_startsAnew : Cond.code yX12_startsAnew cX12_startsAnew 2 none ∈ wl := mW (mT5 (List.mem_of_getElem? (i := 91) (by decide +kernel))) rfl
theorem in_X12_startsAnew : Cond.initialized yX12_startsAnew.cls ∈ wl := mW (mT1 (List.mem_of_getElem? (i := 12) (by decide +kernel))) rfl
theorem im_X12_startsAnew : Cond.instanceMethod yX12_startsAnew ∈ wl := mW (mT5 (List.mem_of_getElem? (i := 90) (by decide +kernel))) rfl
theorem se_X12_startsAnew : Cond.selects yX12_startsAnew.cls yX12_startsAnew yX12_startsAnew ∈ wl := mW (mT0 (List.mem_of_getElem? (i := 31) (by decide +kernel))) rfl
theorem lv_X12_87 : LV RX12 87 yX12_startsAnew cX12_startsAnew 2 none 0 11 := ⟨⟨(RX12, TX12, 33), rfl, rfl⟩, yo_X12_startsAnew, mW (mT5 (List.mem_of_getElem? (i := 88) (by decide +kernel))) rfl, im_X12_startsAnew, se_X12_startsAnew, in_X12_startsAnew, co_X12_startsAnew⟩
theorem dX12_init_0 : decode cX12_init 0 = .ok (.aload_n 0, 1) := by decide +kernel
theorem dX12_init_1 : decode cX12_init 1 = .ok (.invokespecial 7, 3) := by decide +kernel
theorem dX12_init_4 : decode cX12_init 4 = .ok (.aload_n 0, 1) := by decide +kernel
theorem dX12_init_5 : decode cX12_init 5 = .ok (.sipush 2000, 3) := by decide +kernel
theorem dX12_init_8 : decode cX12_init 8 = .ok (.newarray .byte, 2) := by decide +kernel
theorem dX12_init_10 : decode cX12_init 10 = .ok (.putfield 13, 3) := by decide +kernel
theorem dX12_init_13 : decode cX12_init 13 = .ok (.aload_n 0, 1) := by decide +kernel
theorem dX12_init_14 : decode cX12_init 14 = .ok (.sipush 2000, 3) := by decide +kernel
theorem dX12_init_17 : decode cX12_init 17 = .ok (.newarray .byte, 2) := by decide +kernel
theorem dX12_init_19 : decode cX12_init 19 = .ok (.putfield 17, 3) := by decide +kernel
theorem dX12_init_22 : decode cX12_init 22 = .ok (.aload_n 0, 1) := by decide +kernel
theorem dX12_init_23 : decode cX12_init 23 = .ok (.sipush 403, 3) := by decide +kernel
theorem dX12_init_26 : decode cX12_init 26 = .ok (.newarray .int, 2) := by decide +kernel
theorem dX12_init_28 : decode cX12_init 28 = .ok (.putfield 20, 3) := by decide +kernel
theorem dX12_init_31 : decode cX12_init 31 = .ok (.aload_n 0, 1) := by decide +kernel
theorem dX12_init_32 : decode cX12_init 32 = .ok (.sipush 403, 3) := by decide +kernel
theorem dX12_init_35 : decode cX12_init 35 = .ok (.newarray .int, 2) := by decide +kernel
theorem dX12_init_37 : decode cX12_init 37 = .ok (.putfield 24, 3) := by decide +kernel
theorem dX12_init_40 : decode cX12_init 40 = .ok (.aload_n 0, 1) := by decide +kernel
theorem dX12_init_41 : decode cX12_init 41 = .ok (.sipush 403, 3) := by decide +kernel
theorem dX12_init_44 : decode cX12_init 44 = .ok (.newarray .int, 2) := by decide +kernel
theorem dX12_init_46 : decode cX12_init 46 = .ok (.putfield 27, 3) := by decide +kernel
theorem dX12_init_49 : decode cX12_init 49 = .ok (.aload_n 0, 1) := by decide +kernel
theorem dX12_init_50 : decode cX12_init 50 = .ok (.sipush 403, 3) := by decide +kernel
theorem dX12_init_53 : decode cX12_init 53 = .ok (.newarray .long, 2) := by decide +kernel
theorem dX12_init_55 : decode cX12_init 55 = .ok (.putfield 30, 3) := by decide +kernel
theorem dX12_init_58 : decode cX12_init 58 = .ok (.aload_n 0, 1) := by decide +kernel
theorem dX12_init_59 : decode cX12_init 59 = .ok (.bipush 20, 2) := by decide +kernel
theorem dX12_init_61 : decode cX12_init 61 = .ok (.newarray .long, 2) := by decide +kernel
theorem dX12_init_63 : decode cX12_init 63 = .ok (.putfield 34, 3) := by decide +kernel
theorem dX12_init_66 : decode cX12_init 66 = .ok (.aload_n 0, 1) := by decide +kernel
theorem dX12_init_67 : decode cX12_init 67 = .ok (.iconst (-1), 1) := by decide +kernel
theorem dX12_init_68 : decode cX12_init 68 = .ok (.putfield 37, 3) := by decide +kernel
theorem dX12_init_71 : decode cX12_init 71 = .ok (.aload_n 0, 1) := by decide +kernel
theorem dX12_init_72 : decode cX12_init 72 = .ok (.sipush 9178, 3) := by decide +kernel
theorem dX12_init_75 : decode cX12_init 75 = .ok (.newarray .int, 2) := by decide +kernel
theorem dX12_init_77 : decode cX12_init 77 = .ok (.putfield 40, 3) := by decide +kernel
theorem dX12_init_80 : decode cX12_init 80 = .ok (.aload_n 0, 1) := by decide +kernel
theorem dX12_init_81 : decode cX12_init 81 = .ok (.sipush 352, 3) := by decide +kernel
theorem dX12_init_84 : decode cX12_init 84 = .ok (.newarray .int, 2) := by decide +kernel
theorem dX12_init_86 : decode cX12_init 86 = .ok (.putfield 43, 3) := by decide +kernel
theorem dX12_init_89 : decode cX12_init 89 = .ok (.aload_n 0, 1) := by decide +kernel
theorem dX12_init_90 : decode cX12_init 90 = .ok (.bipush 24, 2) := by decide +kernel
theorem dX12_init_92 : decode cX12_init 92 = .ok (.newarray .float, 2) := by decide +kernel
theorem dX12_init_94 : decode cX12_init 94 = .ok (.putfield 46, 3) := by decide +kernel
theorem dX12_init_97 : decode cX12_init 97 = .ok (.aload_n 0, 1) := by decide +kernel
theorem dX12_init_98 : decode cX12_init 98 = .ok (.iconst 3, 1) := by decide +kernel
theorem dX12_init_99 : decode cX12_init 99 = .ok (.newarray .int, 2) := by decide +kernel
theorem dX12_init_101 : decode cX12_init 101 = .ok (.putfield 50, 3) := by decide +kernel
theorem dX12_init_104 : decode cX12_init 104 = .ok (.aload_n 0, 1) := by decide +kernel
theorem dX12_init_105 : decode cX12_init 105 = .ok (.bipush 10, 2) := by decide +kernel
theorem dX12_init_107 : decode cX12_init 107 = .ok (.newarray .int, 2) := by decide +kernel
theorem dX12_init_109 : decode cX12_init 109 = .ok (.putfield 53, 3) := by decide +kernel
theorem dX12_init_112 : decode cX12_init 112 = .ok (.aload_n 0, 1) := by decide +kernel
theorem dX12_init_113 : decode cX12_init 113 = .ok (.bipush 25, 2) := by decide +kernel
theorem dX12_init_115 : decode cX12_init 115 = .ok (.newarray .int, 2) := by decide +kernel
theorem dX12_init_117 : decode cX12_init 117 = .ok (.putfield 56, 3) := by decide +kernel
theorem dX12_init_120 : decode cX12_init 120 = .ok (.aload_n 0, 1) := by decide +kernel
theorem dX12_init_121 : decode cX12_init 121 = .ok (.sipush 9178, 3) := by decide +kernel
theorem dX12_init_124 : decode cX12_init 124 = .ok (.newarray .int, 2) := by decide +kernel
theorem dX12_init_126 : decode cX12_init 126 = .ok (.putfield 59, 3) := by decide +kernel
theorem dX12_init_129 : decode cX12_init 129 = .ok (.aload_n 0, 1) := by decide +kernel
theorem dX12_init_130 : decode cX12_init 130 = .ok (.bipush 24, 2) := by decide +kernel
theorem dX12_init_132 : decode cX12_init 132 = .ok (.newarray .float, 2) := by decide +kernel
theorem dX12_init_134 : decode cX12_init 134 = .ok (.putfield 62, 3) := by decide +kernel
theorem dX12_init_137 : decode cX12_init 137 = .ok (.aload_n 0, 1) := by decide +kernel
theorem dX12_init_138 : decode cX12_init 138 = .ok (.sipush 27534, 3) := by decide +kernel
theorem dX12_init_141 : decode cX12_init 141 = .ok (.newarray .int, 2) := by decide +kernel
theorem dX12_init_143 : decode cX12_init 143 = .ok (.putfield 65, 3) := by decide +kernel
theorem dX12_init_146 : decode cX12_init 146 = .ok (.aload_n 0, 1) := by decide +kernel
theorem dX12_init_147 : decode cX12_init 147 = .ok (.bipush 72, 2) := by decide +kernel
theorem dX12_init_149 : decode cX12_init 149 = .ok (.newarray .float, 2) := by decide +kernel
theorem dX12_init_151 : decode cX12_init 151 = .ok (.putfield 68, 3) := by decide +kernel
theorem dX12_init_154 : decode cX12_init 154 = .ok (.aload_n 0, 1) := by decide +kernel
theorem dX12_init_155 : decode cX12_init 155 = .ok (.iconst 3, 1) := by decide +kernel
theorem dX12_init_156 : decode cX12_init 156 = .ok (.newarray .boolean, 2) := by decide +kernel
theorem dX12_init_158 : decode cX12_init 158 = .ok (.putfield 71, 3) := by decide +kernel
theorem dX12_init_161 : decode cX12_init 161 = .ok (.aload_n 0, 1) := by decide +kernel
theorem dX12_init_162 : decode cX12_init 162 = .ok (.getfield 34, 3) := by decide +kernel
theorem dX12_init_165 : decode cX12_init 165 = .ok (.iconst 0, 1) := by decide +kernel
theorem dX12_init_166 : decode cX12_init 166 = .ok (.bipush 98, 2) := by decide +kernel
theorem dX12_init_168 : decode cX12_init 168 = .ok (.bipush 111, 2) := by decide +kernel
theorem dX12_init_170 : decode cX12_init 170 = .ok (.bipush 97, 2) := by decide +kernel
theorem dX12_init_172 : decode cX12_init 172 = .ok (.bipush 114, 2) := by decide +kernel
theorem dX12_init_174 : decode cX12_init 174 = .ok (.bipush 100, 2) := by decide +kernel
theorem dX12_init_176 : decode cX12_init 176 = .ok (.iconst 0, 1) := by decide +kernel
theorem dX12_init_177 : decode cX12_init 177 = .ok (.iconst 0, 1) := by decide +kernel
theorem dX12_init_178 : decode cX12_init 178 = .ok (.invokestatic 75, 3) := by decide +kernel
theorem dX12_init_181 : decode cX12_init 181 = .ok (.lastore, 1) := by decide +kernel
theorem dX12_init_182 : decode cX12_init 182 = .ok (.aload_n 0, 1) := by decide +kernel
theorem dX12_init_183 : decode cX12_init 183 = .ok (.getfield 34, 3) := by decide +kernel
theorem dX12_init_186 : decode cX12_init 186 = .ok (.iconst 1, 1) := by decide +kernel
theorem dX12_init_187 : decode cX12_init 187 = .ok (.bipush 100, 2) := by decide +kernel
theorem dX12_init_189 : decode cX12_init 189 = .ok (.bipush 105, 2) := by decide +kernel
theorem dX12_init_191 : decode cX12_init 191 = .ok (.bipush 111, 2) := by decide +kernel
theorem dX12_init_193 : decode cX12_init 193 = .ok (.bipush 100, 2) := by decide +kernel
theorem dX12_init_195 : decode cX12_init 195 = .ok (.bipush 101, 2) := by decide +kernel
theorem dX12_init_197 : decode cX12_init 197 = .ok (.bipush 115, 2) := by decide +kernel
theorem dX12_init_199 : decode cX12_init 199 = .ok (.iconst 0, 1) := by decide +kernel
theorem dX12_init_200 : decode cX12_init 200 = .ok (.invokestatic 75, 3) := by decide +kernel
theorem dX12_init_203 : decode cX12_init 203 = .ok (.lastore, 1) := by decide +kernel
theorem dX12_init_204 : decode cX12_init 204 = .ok (.aload_n 0, 1) := by decide +kernel
theorem dX12_init_205 : decode cX12_init 205 = .ok (.getfield 34, 3) := by decide +kernel
theorem dX12_init_208 : decode cX12_init 208 = .ok (.iconst 2, 1) := by decide +kernel
theorem dX12_init_209 : decode cX12_init 209 = .ok (.bipush 115, 2) := by decide +kernel
theorem dX12_init_211 : decode cX12_init 211 = .ok (.bipush 105, 2) := by decide +kernel
theorem dX12_init_213 : decode cX12_init 213 = .ok (.bipush 120, 2) := by decide +kernel
theorem dX12_init_215 : decode cX12_init 215 = .ok (.iconst 0, 1) := by decide +kernel
theorem dX12_init_216 : decode cX12_init 216 = .ok (.iconst 0, 1) := by decide +kernel
theorem dX12_init_217 : decode cX12_init 217 = .ok (.iconst 0, 1) := by decide +kernel
theorem dX12_init_218 : decode cX12_init 218 = .ok (.iconst 0, 1) := by decide +kernel
theorem dX12_init_219 : decode cX12_init 219 = .ok (.invokestatic 75, 3) := by decide +kernel
theorem dX12_init_222 : decode cX12_init 222 = .ok (.lastore, 1) := by decide +kernel
theorem dX12_init_223 : decode cX12_init 223 = .ok (.aload_n 0, 1) := by decide +kernel
theorem dX12_init_224 : decode cX12_init 224 = .ok (.getfield 34, 3) := by decide +kernel
theorem dX12_init_227 : decode cX12_init 227 = .ok (.iconst 3, 1) := by decide +kernel
theorem dX12_init_228 : decode cX12_init 228 = .ok (.bipush 98, 2) := by decide +kernel
theorem dX12_init_230 : decode cX12_init 230 = .ok (.bipush 111, 2) := by decide +kernel
theorem dX12_init_232 : decode cX12_init 232 = .ok (.bipush 117, 2) := by decide +kernel
theorem dX12_init_234 : decode cX12_init 234 = .ok (.bipush 110, 2) := by decide +kernel
theorem dX12_init_236 : decode cX12_init 236 = .ok (.bipush 99, 2) := by decide +kernel
theorem dX12_init_238 : decode cX12_init 238 = .ok (.bipush 101, 2) := by decide +kernel
theorem dX12_init_240 : decode cX12_init 240 = .ok (.iconst 0, 1) := by decide +kernel
theorem dX12_init_241 : decode cX12_init 241 = .ok (.invokestatic 75, 3) := by decide +kernel
theorem dX12_init_244 : decode cX12_init 244 = .ok (.lastore, 1) := by decide +kernel
theorem dX12_init_245 : decode cX12_init 245 = .ok (.aload_n 0, 1) := by decide +kernel
theorem dX12_init_246 : decode cX12_init 246 = .ok (.getfield 34, 3) := by decide +kernel
theorem dX12_init_249 : decode cX12_init 249 = .ok (.iconst 4, 1) := by decide +kernel
theorem dX12_init_250 : decode cX12_init 250 = .ok (.bipush 116, 2) := by decide +kernel
theorem dX12_init_252 : decode cX12_init 252 = .ok (.bipush 101, 2) := by decide +kernel
theorem dX12_init_254 : decode cX12_init 254 = .ok (.bipush 114, 2) := by decide +kernel
theorem dX12_init_256 : decode cX12_init 256 = .ok (.bipush 109, 2) := by decide +kernel
theorem dX12_init_258 : decode cX12_init 258 = .ok (.iconst 0, 1) := by decide +kernel
theorem dX12_init_259 : decode cX12_init 259 = .ok (.iconst 0, 1) := by decide +kernel
theorem dX12_init_260 : decode cX12_init 260 = .ok (.iconst 0, 1) := by decide +kernel
theorem dX12_init_261 : decode cX12_init 261 = .ok (.invokestatic 75, 3) := by decide +kernel
theorem dX12_init_264 : decode cX12_init 264 = .ok (.lastore, 1) := by decide +kernel
theorem dX12_init_265 : decode cX12_init 265 = .ok (.aload_n 0, 1) := by decide +kernel
theorem dX12_init_266 : decode cX12_init 266 = .ok (.getfield 34, 3) := by decide +kernel
theorem dX12_init_269 : decode cX12_init 269 = .ok (.iconst 5, 1) := by decide +kernel
theorem dX12_init_270 : decode cX12_init 270 = .ok (.bipush 99, 2) := by decide +kernel
theorem dX12_init_272 : decode cX12_init 272 = .ok (.bipush 104, 2) := by decide +kernel
theorem dX12_init_274 : decode cX12_init 274 = .ok (.bipush 111, 2) := by decide +kernel
theorem dX12_init_276 : decode cX12_init 276 = .ok (.bipush 114, 2) := by decide +kernel
theorem dX12_init_278 : decode cX12_init 278 = .ok (.bipush 100, 2) := by decide +kernel
theorem dX12_init_280 : decode cX12_init 280 = .ok (.bipush 105, 2) := by decide +kernel
theorem dX12_init_282 : decode cX12_init 282 = .ok (.bipush 110, 2) := by decide +kernel
theorem dX12_init_284 : decode cX12_init 284 = .ok (.invokestatic 75, 3) := by decide +kernel
theorem dX12_init_287 : decode cX12_init 287 = .ok (.bipush 103, 2) := by decide +kernel
theorem dX12_init_289 : decode cX12_init 289 = .ok (.invokestatic 79, 3) := by decide +kernel
theorem dX12_init_292 : decode cX12_init 292 = .ok (.lastore, 1) := by decide +kernel
theorem dX12_init_293 : decode cX12_init 293 = .ok (.aload_n 0, 1) := by decide +kernel
theorem dX12_init_294 : decode cX12_init 294 = .ok (.getfield 34, 3) := by decide +kernel
theorem dX12_init_297 : decode cX12_init 297 = .ok (.bipush 6, 2) := by decide +kernel
theorem dX12_init_299 : decode cX12_init 299 = .ok (.bipush 116, 2) := by decide +kernel
theorem dX12_init_301 : decode cX12_init 301 = .ok (.bipush 119, 2) := by decide +kernel
theorem dX12_init_303 : decode cX12_init 303 = .ok (.bipush 105, 2) := by decide +kernel
theorem dX12_init_305 : decode cX12_init 305 = .ok (.bipush 99, 2) := by decide +kernel
theorem dX12_init_307 : decode cX12_init 307 = .ok (.bipush 101, 2) := by decide +kernel
theorem dX12_init_309 : decode cX12_init 309 = .ok (.iconst 0, 1) := by decide +kernel
theorem dX12_init_310 : decode cX12_init 310 = .ok (.iconst 0, 1) := by decide +kernel
theorem dX12_init_311 : decode cX12_init 311 = .ok (.invokestatic 75, 3) := by decide +kernel
theorem dX12_init_314 : decode cX12_init 314 = .ok (.lastore, 1) := by decide +kernel
theorem dX12_init_315 : decode cX12_init 315 = .ok (.aload_n 0, 1) := by decide +kernel
theorem dX12_init_316 : decode cX12_init 316 = .ok (.getfield 34, 3) := by decide +kernel
theorem dX12_init_319 : decode cX12_init 319 = .ok (.bipush 7, 2) := by decide +kernel
theorem dX12_init_321 : decode cX12_init 321 = .ok (.bipush 114, 2) := by decide +kernel
theorem dX12_init_323 : decode cX12_init 323 = .ok (.bipush 101, 2) := by decide +kernel
theorem dX12_init_325 : decode cX12_init 325 = .ok (.bipush 112, 2) := by decide +kernel
theorem dX12_init_327 : decode cX12_init 327 = .ok (.bipush 101, 2) := by decide +kernel
theorem dX12_init_329 : decode cX12_init 329 = .ok (.bipush 97, 2) := by decide +kernel
theorem dX12_init_331 : decode cX12_init 331 = .ok (.bipush 116, 2) := by decide +kernel
theorem dX12_init_333 : decode cX12_init 333 = .ok (.iconst 0, 1) := by decide +kernel
theorem dX12_init_334 : decode cX12_init 334 = .ok (.invokestatic 75, 3) := by decide +kernel
theorem dX12_init_337 : decode cX12_init 337 = .ok (.lastore, 1) := by decide +kernel
theorem dX12_init_338 : decode cX12_init 338 = .ok (.aload_n 0, 1) := by decide +kernel
theorem dX12_init_339 : decode cX12_init 339 = .ok (.getfield 34, 3) := by decide +kernel
theorem dX12_init_342 : decode cX12_init 342 = .ok (.bipush 8, 2) := by decide +kernel
theorem dX12_init_344 : decode cX12_init 344 = .ok (.bipush 107, 2) := by decide +kernel
theorem dX12_init_346 : decode cX12_init 346 = .ok (.bipush 101, 2) := by decide +kernel
theorem dX12_init_348 : decode cX12_init 348 = .ok (.bipush 121, 2) := by decide +kernel
theorem dX12_init_350 : decode cX12_init 350 = .ok (.iconst 0, 1) := by decide +kernel
theorem dX12_init_351 : decode cX12_init 351 = .ok (.iconst 0, 1) := by decide +kernel
theorem dX12_init_352 : decode cX12_init 352 = .ok (.iconst 0, 1) := by decide +kernel
theorem dX12_init_353 : decode cX12_init 353 = .ok (.iconst 0, 1) := by decide +kernel
theorem dX12_init_354 : decode cX12_init 354 = .ok (.invokestatic 75, 3) := by decide +kernel
theorem dX12_init_357 : decode cX12_init 357 = .ok (.lastore, 1) := by decide +kernel
theorem dX12_init_358 : decode cX12_init 358 = .ok (.aload_n 0, 1) := by decide +kernel
theorem dX12_init_359 : decode cX12_init 359 = .ok (.getfield 34, 3) := by decide +kernel
theorem dX12_init_362 : decode cX12_init 362 = .ok (.bipush 9, 2) := by decide +kernel
theorem dX12_init_364 : decode cX12_init 364 = .ok (.bipush 99, 2) := by decide +kernel
theorem dX12_init_366 : decode cX12_init 366 = .ok (.bipush 104, 2) := by decide +kernel
theorem dX12_init_368 : decode cX12_init 368 = .ok (.bipush 111, 2) := by decide +kernel
theorem dX12_init_370 : decode cX12_init 370 = .ok (.bipush 114, 2) := by decide +kernel
theorem dX12_init_372 : decode cX12_init 372 = .ok (.bipush 100, 2) := by decide +kernel
theorem dX12_init_374 : decode cX12_init 374 = .ok (.iconst 0, 1) := by decide +kernel
theorem dX12_init_375 : decode cX12_init 375 = .ok (.iconst 0, 1) := by decide +kernel
theorem dX12_init_376 : decode cX12_init 376 = .ok (.invokestatic 75, 3) := by decide +kernel
theorem dX12_init_379 : decode cX12_init 379 = .ok (.lastore, 1) := by decide +kernel
theorem dX12_init_380 : decode cX12_init 380 = .ok (.aload_n 0, 1) := by decide +kernel
theorem dX12_init_381 : decode cX12_init 381 = .ok (.getfield 34, 3) := by decide +kernel
theorem dX12_init_384 : decode cX12_init 384 = .ok (.bipush 10, 2) := by decide +kernel
theorem dX12_init_386 : decode cX12_init 386 = .ok (.bipush 109, 2) := by decide +kernel
theorem dX12_init_388 : decode cX12_init 388 = .ok (.bipush 97, 2) := by decide +kernel
theorem dX12_init_390 : decode cX12_init 390 = .ok (.bipush 99, 2) := by decide +kernel
theorem dX12_init_392 : decode cX12_init 392 = .ok (.bipush 114, 2) := by decide +kernel
theorem dX12_init_394 : decode cX12_init 394 = .ok (.bipush 111, 2) := by decide +kernel
theorem dX12_init_396 : decode cX12_init 396 = .ok (.iconst 0, 1) := by decide +kernel
theorem dX12_init_397 : decode cX12_init 397 = .ok (.iconst 0, 1) := by decide +kernel
theorem dX12_init_398 : decode cX12_init 398 = .ok (.invokestatic 75, 3) := by decide +kernel
theorem dX12_init_401 : decode cX12_init 401 = .ok (.lastore, 1) := by decide +kernel
theorem dX12_init_402 : decode cX12_init 402 = .ok (.aload_n 0, 1) := by decide +kernel
theorem dX12_init_403 : decode cX12_init 403 = .ok (.getfield 34, 3) := by decide +kernel
theorem dX12_init_406 : decode cX12_init 406 = .ok (.bipush 11, 2) := by decide +kernel
theorem dX12_init_408 : decode cX12_init 408 = .ok (.bipush 99, 2) := by decide +kernel
theorem dX12_init_410 : decode cX12_init 410 = .ok (.bipush 111, 2) := by decide +kernel
theorem dX12_init_412 : decode cX12_init 412 = .ok (.bipush 100, 2) := by decide +kernel
theorem dX12_init_414 : decode cX12_init 414 = .ok (.bipush 101, 2) := by decide +kernel
theorem dX12_init_416 : decode cX12_init 416 = .ok (.iconst 0, 1) := by decide +kernel
theorem dX12_init_417 : decode cX12_init 417 = .ok (.iconst 0, 1) := by decide +kernel
theorem dX12_init_418 : decode cX12_init 418 = .ok (.iconst 0, 1) := by decide +kernel
theorem dX12_init_419 : decode cX12_init 419 = .ok (.invokestatic 75, 3) := by decide +kernel
theorem dX12_init_422 : decode cX12_init 422 = .ok (.lastore, 1) := by decide +kernel
theorem dX12_init_423 : decode cX12_init 423 = .ok (.aload_n 0, 1) := by decide +kernel
theorem dX12_init_424 : decode cX12_init 424 = .ok (.getfield 34, 3) := by decide +kernel
theorem dX12_init_427 : decode cX12_init 427 = .ok (.bipush 12, 2) := by decide +kernel
theorem dX12_init_429 : decode cX12_init 429 = .ok (.bipush 109, 2) := by decide +kernel
theorem dX12_init_431 : decode cX12_init 431 = .ok (.bipush 111, 2) := by decide +kernel
theorem dX12_init_433 : decode cX12_init 433 = .ok (.bipush 100, 2) := by decide +kernel
theorem dX12_init_435 : decode cX12_init 435 = .ok (.iconst 0, 1) := by decide +kernel
theorem dX12_init_436 : decode cX12_init 436 = .ok (.iconst 0, 1) := by decide +kernel
theorem dX12_init_437 : decode cX12_init 437 = .ok (.iconst 0, 1) := by decide +kernel
theorem dX12_init_438 : decode cX12_init 438 = .ok (.iconst 0, 1) := by decide +kernel
theorem dX12_init_439 : decode cX12_init 439 = .ok (.invokestatic 75, 3) := by decide +kernel
theorem dX12_init_442 : decode cX12_init 442 = .ok (.lastore, 1) := by decide +kernel
theorem dX12_init_443 : decode cX12_init 443 = .ok (.aload_n 0, 1) := by decide +kernel
theorem dX12_init_444 : decode cX12_init 444 = .ok (.getfield 34, 3) := by decide +kernel
theorem dX12_init_447 : decode cX12_init 447 = .ok (.bipush 13, 2) := by decide +kernel
theorem dX12_init_449 : decode cX12_init 449 = .ok (.bipush 108, 2) := by decide +kernel
theorem dX12_init_451 : decode cX12_init 451 = .ok (.bipush 97, 2) := by decide +kernel
theorem dX12_init_453 : decode cX12_init 453 = .ok (.bipush 121, 2) := by decide +kernel
theorem dX12_init_455 : decode cX12_init 455 = .ok (.bipush 101, 2) := by decide +kernel
theorem dX12_init_457 : decode cX12_init 457 = .ok (.bipush 114, 2) := by decide +kernel
theorem dX12_init_459 : decode cX12_init 459 = .ok (.iconst 0, 1) := by decide +kernel
theorem dX12_init_460 : decode cX12_init 460 = .ok (.iconst 0, 1) := by decide +kernel
theorem dX12_init_461 : decode cX12_init 461 = .ok (.invokestatic 75, 3) := by decide +kernel
theorem dX12_init_464 : decode cX12_init 464 = .ok (.lastore, 1) := by decide +kernel
theorem dX12_init_465 : decode cX12_init 465 = .ok (.aload_n 0, 1) := by decide +kernel
theorem dX12_init_466 : decode cX12_init 466 = .ok (.getfield 34, 3) := by decide +kernel
theorem dX12_init_469 : decode cX12_init 469 = .ok (.bipush 14, 2) := by decide +kernel
theorem dX12_init_471 : decode cX12_init 471 = .ok (.bipush 116, 2) := by decide +kernel
theorem dX12_init_473 : decode cX12_init 473 = .ok (.bipush 111, 2) := by decide +kernel
theorem dX12_init_475 : decode cX12_init 475 = .ok (.bipush 103, 2) := by decide +kernel
theorem dX12_init_477 : decode cX12_init 477 = .ok (.bipush 103, 2) := by decide +kernel
theorem dX12_init_479 : decode cX12_init 479 = .ok (.bipush 108, 2) := by decide +kernel
theorem dX12_init_481 : decode cX12_init 481 = .ok (.bipush 101, 2) := by decide +kernel
theorem dX12_init_483 : decode cX12_init 483 = .ok (.iconst 0, 1) := by decide +kernel
theorem dX12_init_484 : decode cX12_init 484 = .ok (.invokestatic 75, 3) := by decide +kernel
theorem dX12_init_487 : decode cX12_init 487 = .ok (.lastore, 1) := by decide +kernel
theorem dX12_init_488 : decode cX12_init 488 = .ok (.aload_n 0, 1) := by decide +kernel
theorem dX12_init_489 : decode cX12_init 489 = .ok (.getfield 34, 3) := by decide +kernel
theorem dX12_init_492 : decode cX12_init 492 = .ok (.bipush 15, 2) := by decide +kernel
theorem dX12_init_494 : decode cX12_init 494 = .ok (.bipush 110, 2) := by decide +kernel
theorem dX12_init_496 : decode cX12_init 496 = .ok (.bipush 111, 2) := by decide +kernel
theorem dX12_init_498 : decode cX12_init 498 = .ok (.bipush 116, 2) := by decide +kernel
theorem dX12_init_500 : decode cX12_init 500 = .ok (.bipush 104, 2) := by decide +kernel
theorem dX12_init_502 : decode cX12_init 502 = .ok (.bipush 105, 2) := by decide +kernel
theorem dX12_init_504 : decode cX12_init 504 = .ok (.bipush 110, 2) := by decide +kernel
theorem dX12_init_506 : decode cX12_init 506 = .ok (.bipush 103, 2) := by decide +kernel
theorem dX12_init_508 : decode cX12_init 508 = .ok (.invokestatic 75, 3) := by decide +kernel
theorem dX12_init_511 : decode cX12_init 511 = .ok (.lastore, 1) := by decide +kernel
theorem dX12_init_512 : decode cX12_init 512 = .ok (.aload_n 0, 1) := by decide +kernel
theorem dX12_init_513 : decode cX12_init 513 = .ok (.getfield 34, 3) := by decide +kernel
theorem dX12_init_516 : decode cX12_init 516 = .ok (.bipush 16, 2) := by decide +kernel
theorem dX12_init_518 : decode cX12_init 518 = .ok (.bipush 98, 2) := by decide +kernel
theorem dX12_init_520 : decode cX12_init 520 = .ok (.bipush 101, 2) := by decide +kernel
theorem dX12_init_522 : decode cX12_init 522 = .ok (.bipush 108, 2) := by decide +kernel
theorem dX12_init_524 : decode cX12_init 524 = .ok (.bipush 111, 2) := by decide +kernel
theorem dX12_init_526 : decode cX12_init 526 = .ok (.bipush 119, 2) := by decide +kernel
theorem dX12_init_528 : decode cX12_init 528 = .ok (.iconst 0, 1) := by decide +kernel
theorem dX12_init_529 : decode cX12_init 529 = .ok (.iconst 0, 1) := by decide +kernel
theorem dX12_init_530 : decode cX12_init 530 = .ok (.invokestatic 75, 3) := by decide +kernel
theorem dX12_init_533 : decode cX12_init 533 = .ok (.lastore, 1) := by decide +kernel
theorem dX12_init_534 : decode cX12_init 534 = .ok (.aload_n 0, 1) := by decide +kernel
theorem dX12_init_535 : decode cX12_init 535 = .ok (.getfield 34, 3) := by decide +kernel
theorem dX12_init_538 : decode cX12_init 538 = .ok (.bipush 17, 2) := by decide +kernel
theorem dX12_init_540 : decode cX12_init 540 = .ok (.bipush 104, 2) := by decide +kernel
theorem dX12_init_542 : decode cX12_init 542 = .ok (.bipush 111, 2) := by decide +kernel
theorem dX12_init_544 : decode cX12_init 544 = .ok (.bipush 108, 2) := by decide +kernel
theorem dX12_init_546 : decode cX12_init 546 = .ok (.bipush 100, 2) := by decide +kernel
theorem dX12_init_548 : decode cX12_init 548 = .ok (.iconst 0, 1) := by decide +kernel
theorem dX12_init_549 : decode cX12_init 549 = .ok (.iconst 0, 1) := by decide +kernel
theorem dX12_init_550 : decode cX12_init 550 = .ok (.iconst 0, 1) := by decide +kernel
theorem dX12_init_551 : decode cX12_init 551 = .ok (.invokestatic 75, 3) := by decide +kernel
theorem dX12_init_554 : decode cX12_init 554 = .ok (.lastore, 1) := by decide +kernel
theorem dX12_init_555 : decode cX12_init 555 = .ok (.aload_n 0, 1) := by decide +kernel
theorem dX12_init_556 : decode cX12_init 556 = .ok (.getfield 34, 3) := by decide +kernel
theorem dX12_init_559 : decode cX12_init 559 = .ok (.bipush 18, 2) := by decide +kernel
theorem dX12_init_561 : decode cX12_init 561 = .ok (.bipush 100, 2) := by decide +kernel
theorem dX12_init_563 : decode cX12_init 563 = .ok (.bipush 111, 2) := by decide +kernel
theorem dX12_init_565 : decode cX12_init 565 = .ok (.bipush 117, 2) := by decide +kernel
theorem dX12_init_567 : decode cX12_init 567 = .ok (.bipush 98, 2) := by decide +kernel
theorem dX12_init_569 : decode cX12_init 569 = .ok (.bipush 108, 2) := by decide +kernel
theorem dX12_init_571 : decode cX12_init 571 = .ok (.bipush 101, 2) := by decide +kernel
theorem dX12_init_573 : decode cX12_init 573 = .ok (.iconst 0, 1) := by decide +kernel
theorem dX12_init_574 : decode cX12_init 574 = .ok (.invokestatic 75, 3) := by decide +kernel
theorem dX12_init_577 : decode cX12_init 577 = .ok (.lastore, 1) := by decide +kernel
theorem dX12_init_578 : decode cX12_init 578 = .ok (.aload_n 0, 1) := by decide +kernel
theorem dX12_init_579 : decode cX12_init 579 = .ok (.getfield 34, 3) := by decide +kernel
theorem dX12_init_582 : decode cX12_init 582 = .ok (.bipush 19, 2) := by decide +kernel
theorem dX12_init_584 : decode cX12_init 584 = .ok (.bipush 112, 2) := by decide +kernel
theorem dX12_init_586 : decode cX12_init 586 = .ok (.bipush 108, 2) := by decide +kernel
theorem dX12_init_588 : decode cX12_init 588 = .ok (.bipush 97, 2) := by decide +kernel
theorem dX12_init_590 : decode cX12_init 590 = .ok (.bipush 121, 2) := by decide +kernel
theorem dX12_init_592 : decode cX12_init 592 = .ok (.iconst 0, 1) := by decide +kernel
theorem dX12_init_593 : decode cX12_init 593 = .ok (.iconst 0, 1) := by decide +kernel
theorem dX12_init_594 : decode cX12_init 594 = .ok (.iconst 0, 1) := by decide +kernel
theorem dX12_init_595 : decode cX12_init 595 = .ok (.invokestatic 75, 3) := by decide +kernel
theorem dX12_init_598 : decode cX12_init 598 = .ok (.lastore, 1) := by decide +kernel
theorem dX12_init_599 : decode cX12_init 599 = .ok (.aload_n 0, 1) := by decide +kernel
theorem dX12_init_600 : decode cX12_init 600 = .ok (.getfield 40, 3) := by decide +kernel
theorem dX12_init_603 : decode cX12_init 603 = .ok (.invokestatic 83, 3) := by decide +kernel
theorem dX12_init_606 : decode cX12_init 606 = .ok (.aload_n 0, 1) := by decide +kernel
theorem dX12_init_607 : decode cX12_init 607 = .ok (.invokevirtual 87, 3) := by decide +kernel
theorem dX12_init_610 : decode cX12_init 610 = .ok (.return_, 1) := by decide +kernel
def rmX12_init : Room := { frames := 2, cells := 18, slots := 52035, locals := 48 }
set_option maxRecDepth 100000 in
def fX12_init_J555 (N : Nat)  (x0 : Nat) (n0 s0 : Nat) (g : Gs) (d : Ds) : Option (Gs × Ds) := gd (chk g x0 11) <| ob (gR g x0 9) fun r295 => (gd (gN g - n0 ≤ 18 ∧ gS g - s0 ≤ 52035) <| cb (fX12_letters N g 100 111 117 98 108 101 0 d) fun u299 d297 => (gd (chk g r295 103) <| gd (¬ ((18 : Int32) < 0 ∨ gL g r295 ≤ (18 : Int32).toNatClampNeg)) <| bd (sL d297 r295 (18 : Int32).toNatClampNeg u299) fun d302 => (cb (fX12_letters N g 112 108 97 121 0 0 0 d302) fun u305 d303 => (gd (¬ ((19 : Int32) < 0 ∨ gL g r295 ≤ (19 : Int32).toNatClampNeg)) <| bd (sL d303 r295 (19 : Int32).toNatClampNeg u305) fun d307 => (ob (gR g x0 17) fun r308 => (cv (fX12_begins N g r308 d307) fun d309 => (cv (fX12_startsAnew N g x0 d309) fun d311 => (gd (gN g = n0 + 18 ∧ gS g = s0 + 52035) <| some (g, d311)))))))))
set_option maxHeartbeats 4000000 in
set_option maxRecDepth 100000 in
theorem tX12_init_555 {p : Program} {l : Launch} {e : Env} {s : State} {m : MethodId} {args : Array Value} {below : List Frame} {meth : Method} {c : Code} {D : va_G} {cy : Nat → ClassId} {B : Bs} (C : Cx p s m args c cX12_init 1 RX12 D cy B) (hr : meth.sig.returnType = none) (hlocks : meth.locks = false) (hin : meth.name = "<init>") {n0 s0 : Nat} (hz : s.heap.size = B.1 + n0) {N : Nat} {x0 : Nat} {gz : Gs} {dz : Ds} {g : Gs} {d : Ds} (hn : n0 ≤ gN g) (hs : s0 ≤ gS g) (hf : fX12_init_J555 N x0 n0 s0 g d = some (gz, dz)) : WB p l e rmX12_init s m args below meth c 1 D cy B (gN g - n0) (gS g - s0) (MQ below (QV D cy B gz dz) args s 18 52035 (wA B)) g d [(0, .ref (ad B x0))] 555 [] := by
  unfold fX12_init_J555 at hf
  refine b_aload_n C dX12_init_555 0 rfl rfl ?_
  obtain ⟨h294, hf⟩ := gd_s hf
  obtain ⟨r295, er295, hf⟩ := ob_s hf
  refine b_gR C dX12_init_556 fl_X12_34 h294 er295 ?_
  refine b_bipush C (v := 18) dX12_init_559 (by decide) ?_
  refine b_bipush C (v := 100) dX12_init_561 (by decide) ?_
  refine b_bipush C (v := 111) dX12_init_563 (by decide) ?_
  refine b_bipush C (v := 117) dX12_init_565 (by decide) ?_
  refine b_bipush C (v := 98) dX12_init_567 (by decide) ?_
  refine b_bipush C (v := 108) dX12_init_569 (by decide) ?_
  refine b_bipush C (v := 101) dX12_init_571 (by decide) ?_
  refine b_iconst C (v := 0) dX12_init_573 (by decide) ?_
  obtain ⟨h296, hf⟩ := gd_s hf
  obtain ⟨u299, d297, k298, hf⟩ := cb_s hf
  refine b_cSJ C [.int 18, .ref (ad B r295)] dX12_init_574 (kX12_letters l D cy B k298) lv_X12_75 ⟨rfl, rfl, Nat.le_of_ble_eq_true rfl, Nat.le_of_ble_eq_true rfl⟩ rfl (Nat.le_of_ble_eq_true rfl) h296 rfl ?_
  obtain ⟨h300, hf⟩ := gd_s hf
  obtain ⟨h301, hf⟩ := gd_s hf
  obtain ⟨d302, ed302, hf⟩ := bd_s hf
  refine b_last C h300 h301 ed302 dX12_init_577 ?_
  refine b_aload_n C dX12_init_578 0 rfl rfl ?_
  refine b_gR C dX12_init_579 fl_X12_34 h294 er295 ?_
  refine b_bipush C (v := 19) dX12_init_582 (by decide) ?_
  refine b_bipush C (v := 112) dX12_init_584 (by decide) ?_
  refine b_bipush C (v := 108) dX12_init_586 (by decide) ?_
  refine b_bipush C (v := 97) dX12_init_588 (by decide) ?_
  refine b_bipush C (v := 121) dX12_init_590 (by decide) ?_
  refine b_iconst C (v := 0) dX12_init_592 (by decide) ?_
  refine b_iconst C (v := 0) dX12_init_593 (by decide) ?_
  refine b_iconst C (v := 0) dX12_init_594 (by decide) ?_
  obtain ⟨u305, d303, k304, hf⟩ := cb_s hf
  refine b_cSJ C [.int 19, .ref (ad B r295)] dX12_init_595 (kX12_letters l D cy B k304) lv_X12_75 ⟨rfl, rfl, Nat.le_of_ble_eq_true rfl, Nat.le_of_ble_eq_true rfl⟩ rfl (Nat.le_of_ble_eq_true rfl) h296 rfl ?_
  obtain ⟨h306, hf⟩ := gd_s hf
  obtain ⟨d307, ed307, hf⟩ := bd_s hf
  refine b_last C h300 h306 ed307 dX12_init_598 ?_
  refine b_aload_n C dX12_init_599 0 rfl rfl ?_
  obtain ⟨r308, er308, hf⟩ := ob_s hf
  refine b_gR C dX12_init_600 fl_X12_40 h294 er308 ?_
  obtain ⟨d309, k310, hf⟩ := cv_s hf
  refine b_cSN C [] dX12_init_603 (kX12_begins l D cy B k310) lv_X12_83 ⟨rfl, rfl, Nat.le_of_ble_eq_true rfl, Nat.le_of_ble_eq_true rfl⟩ rfl (Nat.le_of_ble_eq_true rfl) h296 rfl ?_
  refine b_aload_n C dX12_init_606 0 rfl rfl ?_
  obtain ⟨d311, k312, hf⟩ := cv_s hf
  refine b_cVN C [] dX12_init_607 (kX12_startsAnew l D cy B k312) lv_X12_87 ⟨rfl, rfl, Nat.le_of_ble_eq_true rfl, Nat.le_of_ble_eq_true rfl⟩ h294 (by decide) rfl (Nat.le_of_ble_eq_true rfl) h296 rfl ?_
  obtain ⟨h313, hf⟩ := gd_s hf
  exact b_vretC C hr hlocks h313 hf dX12_init_610
set_option maxRecDepth 100000 in
def fX12_init_J423 (N : Nat)  (x0 : Nat) (n0 s0 : Nat) (g : Gs) (d : Ds) : Option (Gs × Ds) := gd (chk g x0 11) <| ob (gR g x0 9) fun r261 => (gd (gN g - n0 ≤ 18 ∧ gS g - s0 ≤ 52035) <| cb (fX12_letters N g 109 111 100 0 0 0 0 d) fun u265 d263 => (gd (chk g r261 103) <| gd (¬ ((12 : Int32) < 0 ∨ gL g r261 ≤ (12 : Int32).toNatClampNeg)) <| bd (sL d263 r261 (12 : Int32).toNatClampNeg u265) fun d268 => (cb (fX12_letters N g 108 97 121 101 114 0 0 d268) fun u271 d269 => (gd (¬ ((13 : Int32) < 0 ∨ gL g r261 ≤ (13 : Int32).toNatClampNeg)) <| bd (sL d269 r261 (13 : Int32).toNatClampNeg u271) fun d273 => (cb (fX12_letters N g 116 111 103 103 108 101 0 d273) fun u276 d274 => (gd (¬ ((14 : Int32) < 0 ∨ gL g r261 ≤ (14 : Int32).toNatClampNeg)) <| bd (sL d274 r261 (14 : Int32).toNatClampNeg u276) fun d278 => (cb (fX12_letters N g 110 111 116 104 105 110 103 d278) fun u281 d279 => (gd (¬ ((15 : Int32) < 0 ∨ gL g r261 ≤ (15 : Int32).toNatClampNeg)) <| bd (sL d279 r261 (15 : Int32).toNatClampNeg u281) fun d283 => (cb (fX12_letters N g 98 101 108 111 119 0 0 d283) fun u286 d284 => (gd (¬ ((16 : Int32) < 0 ∨ gL g r261 ≤ (16 : Int32).toNatClampNeg)) <| bd (sL d284 r261 (16 : Int32).toNatClampNeg u286) fun d288 => (cb (fX12_letters N g 104 111 108 100 0 0 0 d288) fun u291 d289 => (gd (¬ ((17 : Int32) < 0 ∨ gL g r261 ≤ (17 : Int32).toNatClampNeg)) <| bd (sL d289 r261 (17 : Int32).toNatClampNeg u291) fun d293 => (fX12_init_J555 N x0 n0 s0 g d293)))))))))))))
set_option maxHeartbeats 4000000 in
set_option maxRecDepth 100000 in
theorem tX12_init_423 {p : Program} {l : Launch} {e : Env} {s : State} {m : MethodId} {args : Array Value} {below : List Frame} {meth : Method} {c : Code} {D : va_G} {cy : Nat → ClassId} {B : Bs} (C : Cx p s m args c cX12_init 1 RX12 D cy B) (hr : meth.sig.returnType = none) (hlocks : meth.locks = false) (hin : meth.name = "<init>") {n0 s0 : Nat} (hz : s.heap.size = B.1 + n0) {N : Nat} {x0 : Nat} {gz : Gs} {dz : Ds} {g : Gs} {d : Ds} (hn : n0 ≤ gN g) (hs : s0 ≤ gS g) (hf : fX12_init_J423 N x0 n0 s0 g d = some (gz, dz)) : WB p l e rmX12_init s m args below meth c 1 D cy B (gN g - n0) (gS g - s0) (MQ below (QV D cy B gz dz) args s 18 52035 (wA B)) g d [(0, .ref (ad B x0))] 423 [] := by
  unfold fX12_init_J423 at hf
  refine b_aload_n C dX12_init_423 0 rfl rfl ?_
  obtain ⟨h260, hf⟩ := gd_s hf
  obtain ⟨r261, er261, hf⟩ := ob_s hf
  refine b_gR C dX12_init_424 fl_X12_34 h260 er261 ?_
  refine b_bipush C (v := 12) dX12_init_427 (by decide) ?_
  refine b_bipush C (v := 109) dX12_init_429 (by decide) ?_
  refine b_bipush C (v := 111) dX12_init_431 (by decide) ?_
  refine b_bipush C (v := 100) dX12_init_433 (by decide) ?_
  refine b_iconst C (v := 0) dX12_init_435 (by decide) ?_
  refine b_iconst C (v := 0) dX12_init_436 (by decide) ?_
  refine b_iconst C (v := 0) dX12_init_437 (by decide) ?_
  refine b_iconst C (v := 0) dX12_init_438 (by decide) ?_
  obtain ⟨h262, hf⟩ := gd_s hf
  obtain ⟨u265, d263, k264, hf⟩ := cb_s hf
  refine b_cSJ C [.int 12, .ref (ad B r261)] dX12_init_439 (kX12_letters l D cy B k264) lv_X12_75 ⟨rfl, rfl, Nat.le_of_ble_eq_true rfl, Nat.le_of_ble_eq_true rfl⟩ rfl (Nat.le_of_ble_eq_true rfl) h262 rfl ?_
  obtain ⟨h266, hf⟩ := gd_s hf
  obtain ⟨h267, hf⟩ := gd_s hf
  obtain ⟨d268, ed268, hf⟩ := bd_s hf
  refine b_last C h266 h267 ed268 dX12_init_442 ?_
  refine b_aload_n C dX12_init_443 0 rfl rfl ?_
  refine b_gR C dX12_init_444 fl_X12_34 h260 er261 ?_
  refine b_bipush C (v := 13) dX12_init_447 (by decide) ?_
  refine b_bipush C (v := 108) dX12_init_449 (by decide) ?_
  refine b_bipush C (v := 97) dX12_init_451 (by decide) ?_
  refine b_bipush C (v := 121) dX12_init_453 (by decide) ?_
  refine b_bipush C (v := 101) dX12_init_455 (by decide) ?_
  refine b_bipush C (v := 114) dX12_init_457 (by decide) ?_
  refine b_iconst C (v := 0) dX12_init_459 (by decide) ?_
  refine b_iconst C (v := 0) dX12_init_460 (by decide) ?_
  obtain ⟨u271, d269, k270, hf⟩ := cb_s hf
  refine b_cSJ C [.int 13, .ref (ad B r261)] dX12_init_461 (kX12_letters l D cy B k270) lv_X12_75 ⟨rfl, rfl, Nat.le_of_ble_eq_true rfl, Nat.le_of_ble_eq_true rfl⟩ rfl (Nat.le_of_ble_eq_true rfl) h262 rfl ?_
  obtain ⟨h272, hf⟩ := gd_s hf
  obtain ⟨d273, ed273, hf⟩ := bd_s hf
  refine b_last C h266 h272 ed273 dX12_init_464 ?_
  refine b_aload_n C dX12_init_465 0 rfl rfl ?_
  refine b_gR C dX12_init_466 fl_X12_34 h260 er261 ?_
  refine b_bipush C (v := 14) dX12_init_469 (by decide) ?_
  refine b_bipush C (v := 116) dX12_init_471 (by decide) ?_
  refine b_bipush C (v := 111) dX12_init_473 (by decide) ?_
  refine b_bipush C (v := 103) dX12_init_475 (by decide) ?_
  refine b_bipush C (v := 103) dX12_init_477 (by decide) ?_
  refine b_bipush C (v := 108) dX12_init_479 (by decide) ?_
  refine b_bipush C (v := 101) dX12_init_481 (by decide) ?_
  refine b_iconst C (v := 0) dX12_init_483 (by decide) ?_
  obtain ⟨u276, d274, k275, hf⟩ := cb_s hf
  refine b_cSJ C [.int 14, .ref (ad B r261)] dX12_init_484 (kX12_letters l D cy B k275) lv_X12_75 ⟨rfl, rfl, Nat.le_of_ble_eq_true rfl, Nat.le_of_ble_eq_true rfl⟩ rfl (Nat.le_of_ble_eq_true rfl) h262 rfl ?_
  obtain ⟨h277, hf⟩ := gd_s hf
  obtain ⟨d278, ed278, hf⟩ := bd_s hf
  refine b_last C h266 h277 ed278 dX12_init_487 ?_
  refine b_aload_n C dX12_init_488 0 rfl rfl ?_
  refine b_gR C dX12_init_489 fl_X12_34 h260 er261 ?_
  refine b_bipush C (v := 15) dX12_init_492 (by decide) ?_
  refine b_bipush C (v := 110) dX12_init_494 (by decide) ?_
  refine b_bipush C (v := 111) dX12_init_496 (by decide) ?_
  refine b_bipush C (v := 116) dX12_init_498 (by decide) ?_
  refine b_bipush C (v := 104) dX12_init_500 (by decide) ?_
  refine b_bipush C (v := 105) dX12_init_502 (by decide) ?_
  refine b_bipush C (v := 110) dX12_init_504 (by decide) ?_
  refine b_bipush C (v := 103) dX12_init_506 (by decide) ?_
  obtain ⟨u281, d279, k280, hf⟩ := cb_s hf
  refine b_cSJ C [.int 15, .ref (ad B r261)] dX12_init_508 (kX12_letters l D cy B k280) lv_X12_75 ⟨rfl, rfl, Nat.le_of_ble_eq_true rfl, Nat.le_of_ble_eq_true rfl⟩ rfl (Nat.le_of_ble_eq_true rfl) h262 rfl ?_
  obtain ⟨h282, hf⟩ := gd_s hf
  obtain ⟨d283, ed283, hf⟩ := bd_s hf
  refine b_last C h266 h282 ed283 dX12_init_511 ?_
  refine b_aload_n C dX12_init_512 0 rfl rfl ?_
  refine b_gR C dX12_init_513 fl_X12_34 h260 er261 ?_
  refine b_bipush C (v := 16) dX12_init_516 (by decide) ?_
  refine b_bipush C (v := 98) dX12_init_518 (by decide) ?_
  refine b_bipush C (v := 101) dX12_init_520 (by decide) ?_
  refine b_bipush C (v := 108) dX12_init_522 (by decide) ?_
  refine b_bipush C (v := 111) dX12_init_524 (by decide) ?_
  refine b_bipush C (v := 119) dX12_init_526 (by decide) ?_
  refine b_iconst C (v := 0) dX12_init_528 (by decide) ?_
  refine b_iconst C (v := 0) dX12_init_529 (by decide) ?_
  obtain ⟨u286, d284, k285, hf⟩ := cb_s hf
  refine b_cSJ C [.int 16, .ref (ad B r261)] dX12_init_530 (kX12_letters l D cy B k285) lv_X12_75 ⟨rfl, rfl, Nat.le_of_ble_eq_true rfl, Nat.le_of_ble_eq_true rfl⟩ rfl (Nat.le_of_ble_eq_true rfl) h262 rfl ?_
  obtain ⟨h287, hf⟩ := gd_s hf
  obtain ⟨d288, ed288, hf⟩ := bd_s hf
  refine b_last C h266 h287 ed288 dX12_init_533 ?_
  refine b_aload_n C dX12_init_534 0 rfl rfl ?_
  refine b_gR C dX12_init_535 fl_X12_34 h260 er261 ?_
  refine b_bipush C (v := 17) dX12_init_538 (by decide) ?_
  refine b_bipush C (v := 104) dX12_init_540 (by decide) ?_
  refine b_bipush C (v := 111) dX12_init_542 (by decide) ?_
  refine b_bipush C (v := 108) dX12_init_544 (by decide) ?_
  refine b_bipush C (v := 100) dX12_init_546 (by decide) ?_
  refine b_iconst C (v := 0) dX12_init_548 (by decide) ?_
  refine b_iconst C (v := 0) dX12_init_549 (by decide) ?_
  refine b_iconst C (v := 0) dX12_init_550 (by decide) ?_
  obtain ⟨u291, d289, k290, hf⟩ := cb_s hf
  refine b_cSJ C [.int 17, .ref (ad B r261)] dX12_init_551 (kX12_letters l D cy B k290) lv_X12_75 ⟨rfl, rfl, Nat.le_of_ble_eq_true rfl, Nat.le_of_ble_eq_true rfl⟩ rfl (Nat.le_of_ble_eq_true rfl) h262 rfl ?_
  obtain ⟨h292, hf⟩ := gd_s hf
  obtain ⟨d293, ed293, hf⟩ := bd_s hf
  refine b_last C h266 h292 ed293 dX12_init_554 ?_
  refine b_sub [(0, .ref (ad B x0))] [0] rfl ?_
  exact tX12_init_555 C hr hlocks hin hz hn hs hf
set_option maxRecDepth 100000 in
def fX12_init_J293 (N : Nat)  (x0 : Nat) (n0 s0 : Nat) (g : Gs) (d : Ds) : Option (Gs × Ds) := gd (chk g x0 11) <| ob (gR g x0 9) fun r227 => (gd (gN g - n0 ≤ 18 ∧ gS g - s0 ≤ 52035) <| cb (fX12_letters N g 116 119 105 99 101 0 0 d) fun u231 d229 => (gd (chk g r227 103) <| gd (¬ ((6 : Int32) < 0 ∨ gL g r227 ≤ (6 : Int32).toNatClampNeg)) <| bd (sL d229 r227 (6 : Int32).toNatClampNeg u231) fun d234 => (cb (fX12_letters N g 114 101 112 101 97 116 0 d234) fun u237 d235 => (gd (¬ ((7 : Int32) < 0 ∨ gL g r227 ≤ (7 : Int32).toNatClampNeg)) <| bd (sL d235 r227 (7 : Int32).toNatClampNeg u237) fun d239 => (cb (fX12_letters N g 107 101 121 0 0 0 0 d239) fun u242 d240 => (gd (¬ ((8 : Int32) < 0 ∨ gL g r227 ≤ (8 : Int32).toNatClampNeg)) <| bd (sL d240 r227 (8 : Int32).toNatClampNeg u242) fun d244 => (cb (fX12_letters N g 99 104 111 114 100 0 0 d244) fun u247 d245 => (gd (¬ ((9 : Int32) < 0 ∨ gL g r227 ≤ (9 : Int32).toNatClampNeg)) <| bd (sL d245 r227 (9 : Int32).toNatClampNeg u247) fun d249 => (cb (fX12_letters N g 109 97 99 114 111 0 0 d249) fun u252 d250 => (gd (¬ ((10 : Int32) < 0 ∨ gL g r227 ≤ (10 : Int32).toNatClampNeg)) <| bd (sL d250 r227 (10 : Int32).toNatClampNeg u252) fun d254 => (cb (fX12_letters N g 99 111 100 101 0 0 0 d254) fun u257 d255 => (gd (¬ ((11 : Int32) < 0 ∨ gL g r227 ≤ (11 : Int32).toNatClampNeg)) <| bd (sL d255 r227 (11 : Int32).toNatClampNeg u257) fun d259 => (fX12_init_J423 N x0 n0 s0 g d259)))))))))))))
set_option maxHeartbeats 4000000 in
set_option maxRecDepth 100000 in
theorem tX12_init_293 {p : Program} {l : Launch} {e : Env} {s : State} {m : MethodId} {args : Array Value} {below : List Frame} {meth : Method} {c : Code} {D : va_G} {cy : Nat → ClassId} {B : Bs} (C : Cx p s m args c cX12_init 1 RX12 D cy B) (hr : meth.sig.returnType = none) (hlocks : meth.locks = false) (hin : meth.name = "<init>") {n0 s0 : Nat} (hz : s.heap.size = B.1 + n0) {N : Nat} {x0 : Nat} {gz : Gs} {dz : Ds} {g : Gs} {d : Ds} (hn : n0 ≤ gN g) (hs : s0 ≤ gS g) (hf : fX12_init_J293 N x0 n0 s0 g d = some (gz, dz)) : WB p l e rmX12_init s m args below meth c 1 D cy B (gN g - n0) (gS g - s0) (MQ below (QV D cy B gz dz) args s 18 52035 (wA B)) g d [(0, .ref (ad B x0))] 293 [] := by
  unfold fX12_init_J293 at hf
  refine b_aload_n C dX12_init_293 0 rfl rfl ?_
  obtain ⟨h226, hf⟩ := gd_s hf
  obtain ⟨r227, er227, hf⟩ := ob_s hf
  refine b_gR C dX12_init_294 fl_X12_34 h226 er227 ?_
  refine b_bipush C (v := 6) dX12_init_297 (by decide) ?_
  refine b_bipush C (v := 116) dX12_init_299 (by decide) ?_
  refine b_bipush C (v := 119) dX12_init_301 (by decide) ?_
  refine b_bipush C (v := 105) dX12_init_303 (by decide) ?_
  refine b_bipush C (v := 99) dX12_init_305 (by decide) ?_
  refine b_bipush C (v := 101) dX12_init_307 (by decide) ?_
  refine b_iconst C (v := 0) dX12_init_309 (by decide) ?_
  refine b_iconst C (v := 0) dX12_init_310 (by decide) ?_
  obtain ⟨h228, hf⟩ := gd_s hf
  obtain ⟨u231, d229, k230, hf⟩ := cb_s hf
  refine b_cSJ C [.int 6, .ref (ad B r227)] dX12_init_311 (kX12_letters l D cy B k230) lv_X12_75 ⟨rfl, rfl, Nat.le_of_ble_eq_true rfl, Nat.le_of_ble_eq_true rfl⟩ rfl (Nat.le_of_ble_eq_true rfl) h228 rfl ?_
  obtain ⟨h232, hf⟩ := gd_s hf
  obtain ⟨h233, hf⟩ := gd_s hf
  obtain ⟨d234, ed234, hf⟩ := bd_s hf
  refine b_last C h232 h233 ed234 dX12_init_314 ?_
  refine b_aload_n C dX12_init_315 0 rfl rfl ?_
  refine b_gR C dX12_init_316 fl_X12_34 h226 er227 ?_
  refine b_bipush C (v := 7) dX12_init_319 (by decide) ?_
  refine b_bipush C (v := 114) dX12_init_321 (by decide) ?_
  refine b_bipush C (v := 101) dX12_init_323 (by decide) ?_
  refine b_bipush C (v := 112) dX12_init_325 (by decide) ?_
  refine b_bipush C (v := 101) dX12_init_327 (by decide) ?_
  refine b_bipush C (v := 97) dX12_init_329 (by decide) ?_
  refine b_bipush C (v := 116) dX12_init_331 (by decide) ?_
  refine b_iconst C (v := 0) dX12_init_333 (by decide) ?_
  obtain ⟨u237, d235, k236, hf⟩ := cb_s hf
  refine b_cSJ C [.int 7, .ref (ad B r227)] dX12_init_334 (kX12_letters l D cy B k236) lv_X12_75 ⟨rfl, rfl, Nat.le_of_ble_eq_true rfl, Nat.le_of_ble_eq_true rfl⟩ rfl (Nat.le_of_ble_eq_true rfl) h228 rfl ?_
  obtain ⟨h238, hf⟩ := gd_s hf
  obtain ⟨d239, ed239, hf⟩ := bd_s hf
  refine b_last C h232 h238 ed239 dX12_init_337 ?_
  refine b_aload_n C dX12_init_338 0 rfl rfl ?_
  refine b_gR C dX12_init_339 fl_X12_34 h226 er227 ?_
  refine b_bipush C (v := 8) dX12_init_342 (by decide) ?_
  refine b_bipush C (v := 107) dX12_init_344 (by decide) ?_
  refine b_bipush C (v := 101) dX12_init_346 (by decide) ?_
  refine b_bipush C (v := 121) dX12_init_348 (by decide) ?_
  refine b_iconst C (v := 0) dX12_init_350 (by decide) ?_
  refine b_iconst C (v := 0) dX12_init_351 (by decide) ?_
  refine b_iconst C (v := 0) dX12_init_352 (by decide) ?_
  refine b_iconst C (v := 0) dX12_init_353 (by decide) ?_
  obtain ⟨u242, d240, k241, hf⟩ := cb_s hf
  refine b_cSJ C [.int 8, .ref (ad B r227)] dX12_init_354 (kX12_letters l D cy B k241) lv_X12_75 ⟨rfl, rfl, Nat.le_of_ble_eq_true rfl, Nat.le_of_ble_eq_true rfl⟩ rfl (Nat.le_of_ble_eq_true rfl) h228 rfl ?_
  obtain ⟨h243, hf⟩ := gd_s hf
  obtain ⟨d244, ed244, hf⟩ := bd_s hf
  refine b_last C h232 h243 ed244 dX12_init_357 ?_
  refine b_aload_n C dX12_init_358 0 rfl rfl ?_
  refine b_gR C dX12_init_359 fl_X12_34 h226 er227 ?_
  refine b_bipush C (v := 9) dX12_init_362 (by decide) ?_
  refine b_bipush C (v := 99) dX12_init_364 (by decide) ?_
  refine b_bipush C (v := 104) dX12_init_366 (by decide) ?_
  refine b_bipush C (v := 111) dX12_init_368 (by decide) ?_
  refine b_bipush C (v := 114) dX12_init_370 (by decide) ?_
  refine b_bipush C (v := 100) dX12_init_372 (by decide) ?_
  refine b_iconst C (v := 0) dX12_init_374 (by decide) ?_
  refine b_iconst C (v := 0) dX12_init_375 (by decide) ?_
  obtain ⟨u247, d245, k246, hf⟩ := cb_s hf
  refine b_cSJ C [.int 9, .ref (ad B r227)] dX12_init_376 (kX12_letters l D cy B k246) lv_X12_75 ⟨rfl, rfl, Nat.le_of_ble_eq_true rfl, Nat.le_of_ble_eq_true rfl⟩ rfl (Nat.le_of_ble_eq_true rfl) h228 rfl ?_
  obtain ⟨h248, hf⟩ := gd_s hf
  obtain ⟨d249, ed249, hf⟩ := bd_s hf
  refine b_last C h232 h248 ed249 dX12_init_379 ?_
  refine b_aload_n C dX12_init_380 0 rfl rfl ?_
  refine b_gR C dX12_init_381 fl_X12_34 h226 er227 ?_
  refine b_bipush C (v := 10) dX12_init_384 (by decide) ?_
  refine b_bipush C (v := 109) dX12_init_386 (by decide) ?_
  refine b_bipush C (v := 97) dX12_init_388 (by decide) ?_
  refine b_bipush C (v := 99) dX12_init_390 (by decide) ?_
  refine b_bipush C (v := 114) dX12_init_392 (by decide) ?_
  refine b_bipush C (v := 111) dX12_init_394 (by decide) ?_
  refine b_iconst C (v := 0) dX12_init_396 (by decide) ?_
  refine b_iconst C (v := 0) dX12_init_397 (by decide) ?_
  obtain ⟨u252, d250, k251, hf⟩ := cb_s hf
  refine b_cSJ C [.int 10, .ref (ad B r227)] dX12_init_398 (kX12_letters l D cy B k251) lv_X12_75 ⟨rfl, rfl, Nat.le_of_ble_eq_true rfl, Nat.le_of_ble_eq_true rfl⟩ rfl (Nat.le_of_ble_eq_true rfl) h228 rfl ?_
  obtain ⟨h253, hf⟩ := gd_s hf
  obtain ⟨d254, ed254, hf⟩ := bd_s hf
  refine b_last C h232 h253 ed254 dX12_init_401 ?_
  refine b_aload_n C dX12_init_402 0 rfl rfl ?_
  refine b_gR C dX12_init_403 fl_X12_34 h226 er227 ?_
  refine b_bipush C (v := 11) dX12_init_406 (by decide) ?_
  refine b_bipush C (v := 99) dX12_init_408 (by decide) ?_
  refine b_bipush C (v := 111) dX12_init_410 (by decide) ?_
  refine b_bipush C (v := 100) dX12_init_412 (by decide) ?_
  refine b_bipush C (v := 101) dX12_init_414 (by decide) ?_
  refine b_iconst C (v := 0) dX12_init_416 (by decide) ?_
  refine b_iconst C (v := 0) dX12_init_417 (by decide) ?_
  refine b_iconst C (v := 0) dX12_init_418 (by decide) ?_
  obtain ⟨u257, d255, k256, hf⟩ := cb_s hf
  refine b_cSJ C [.int 11, .ref (ad B r227)] dX12_init_419 (kX12_letters l D cy B k256) lv_X12_75 ⟨rfl, rfl, Nat.le_of_ble_eq_true rfl, Nat.le_of_ble_eq_true rfl⟩ rfl (Nat.le_of_ble_eq_true rfl) h228 rfl ?_
  obtain ⟨h258, hf⟩ := gd_s hf
  obtain ⟨d259, ed259, hf⟩ := bd_s hf
  refine b_last C h232 h258 ed259 dX12_init_422 ?_
  refine b_sub [(0, .ref (ad B x0))] [0] rfl ?_
  exact tX12_init_423 C hr hlocks hin hz hn hs hf
set_option maxRecDepth 100000 in
def fX12_init_J154 (N : Nat)  (x0 : Nat) (n0 s0 : Nat) (g : Gs) (d : Ds) : Option (Gs × Ds) := gd (¬ (3 : Int32) < 0) <| gd ((3 : Int32).toNatClampNeg ≤ 60000000) <| gd (gN g < 100000) <| gd (gN g + 1 - n0 ≤ 18 ∧ gS g + (3 : Int32).toNatClampNeg - s0 ≤ 52035) <| bd (nG g 104 (3 : Int32).toNatClampNeg (3 : Int32).toNatClampNeg) fun g182 => (bd (nD g d) fun d183 => (bd (gN g) fun r184 => (gd (chk g182 x0 11) <| bd (sR g182 x0 32 r184) fun g187 => (gd (chk g187 x0 11) <| ob (gR g187 x0 9) fun r190 => (gd (gN g187 - n0 ≤ 18 ∧ gS g187 - s0 ≤ 52035) <| cb (fX12_letters N g187 98 111 97 114 100 0 0 d183) fun u194 d192 => (gd (chk g187 r190 103) <| gd (¬ ((0 : Int32) < 0 ∨ gL g187 r190 ≤ (0 : Int32).toNatClampNeg)) <| bd (sL d192 r190 (0 : Int32).toNatClampNeg u194) fun d197 => (cb (fX12_letters N g187 100 105 111 100 101 115 0 d197) fun u200 d198 => (gd (¬ ((1 : Int32) < 0 ∨ gL g187 r190 ≤ (1 : Int32).toNatClampNeg)) <| bd (sL d198 r190 (1 : Int32).toNatClampNeg u200) fun d202 => (cb (fX12_letters N g187 115 105 120 0 0 0 0 d202) fun u205 d203 => (gd (¬ ((2 : Int32) < 0 ∨ gL g187 r190 ≤ (2 : Int32).toNatClampNeg)) <| bd (sL d203 r190 (2 : Int32).toNatClampNeg u205) fun d207 => (cb (fX12_letters N g187 98 111 117 110 99 101 0 d207) fun u210 d208 => (gd (¬ ((3 : Int32) < 0 ∨ gL g187 r190 ≤ (3 : Int32).toNatClampNeg)) <| bd (sL d208 r190 (3 : Int32).toNatClampNeg u210) fun d212 => (cb (fX12_letters N g187 116 101 114 109 0 0 0 d212) fun u215 d213 => (gd (¬ ((4 : Int32) < 0 ∨ gL g187 r190 ≤ (4 : Int32).toNatClampNeg)) <| bd (sL d213 r190 (4 : Int32).toNatClampNeg u215) fun d217 => (cb (fX12_letters N g187 99 104 111 114 100 105 110 d217) fun u220 d218 => (cb (fX12_appends N g187 u220 103 d218) fun u223 d221 => (gd (¬ ((5 : Int32) < 0 ∨ gL g187 r190 ≤ (5 : Int32).toNatClampNeg)) <| bd (sL d221 r190 (5 : Int32).toNatClampNeg u223) fun d225 => (fX12_init_J293 N x0 n0 s0 g187 d225))))))))))))))))))
set_option maxHeartbeats 4000000 in
set_option maxRecDepth 100000 in
theorem tX12_init_154 {p : Program} {l : Launch} {e : Env} {s : State} {m : MethodId} {args : Array Value} {below : List Frame} {meth : Method} {c : Code} {D : va_G} {cy : Nat → ClassId} {B : Bs} (C : Cx p s m args c cX12_init 1 RX12 D cy B) (hr : meth.sig.returnType = none) (hlocks : meth.locks = false) (hin : meth.name = "<init>") {n0 s0 : Nat} (hz : s.heap.size = B.1 + n0) {N : Nat} {x0 : Nat} {gz : Gs} {dz : Ds} {g : Gs} {d : Ds} (hn : n0 ≤ gN g) (hs : s0 ≤ gS g) (hf : fX12_init_J154 N x0 n0 s0 g d = some (gz, dz)) : WB p l e rmX12_init s m args below meth c 1 D cy B (gN g - n0) (gS g - s0) (MQ below (QV D cy B gz dz) args s 18 52035 (wA B)) g d [(0, .ref (ad B x0))] 154 [] := by
  unfold fX12_init_J154 at hf
  refine b_aload_n C dX12_init_154 0 rfl rfl ?_
  refine b_iconst C (v := 3) dX12_init_155 (by decide) ?_
  obtain ⟨h178, hf⟩ := gd_s hf
  obtain ⟨h179, hf⟩ := gd_s hf
  obtain ⟨h180, hf⟩ := gd_s hf
  obtain ⟨h181, hf⟩ := gd_s hf
  obtain ⟨g182, eg182, hf⟩ := bd_s hf
  obtain ⟨d183, ed183, hf⟩ := bd_s hf
  obtain ⟨r184, er184, hf⟩ := bd_s hf
  refine b_newaZ C dX12_init_156 ar_boolean hz hn hs h180 h178 h179 h181 eg182 ed183 (fun hn185 hn185s => ?_)
  refine b_topR er184 ?_
  obtain ⟨h186, hf⟩ := gd_s hf
  obtain ⟨g187, eg187, hf⟩ := bd_s hf
  refine b_pRC C dX12_init_158 fq_X12_71 fr11_32 hin h186 eg187 ?_
  have hn188 : n0 ≤ gN g187 := by rw [eg187]; exact hn185
  have hn188s : s0 ≤ gS g187 := by rw [eg187]; exact hn185s
  refine b_aload_n C dX12_init_161 0 rfl rfl ?_
  obtain ⟨h189, hf⟩ := gd_s hf
  obtain ⟨r190, er190, hf⟩ := ob_s hf
  refine b_gR C dX12_init_162 fl_X12_34 h189 er190 ?_
  refine b_iconst C (v := 0) dX12_init_165 (by decide) ?_
  refine b_bipush C (v := 98) dX12_init_166 (by decide) ?_
  refine b_bipush C (v := 111) dX12_init_168 (by decide) ?_
  refine b_bipush C (v := 97) dX12_init_170 (by decide) ?_
  refine b_bipush C (v := 114) dX12_init_172 (by decide) ?_
  refine b_bipush C (v := 100) dX12_init_174 (by decide) ?_
  refine b_iconst C (v := 0) dX12_init_176 (by decide) ?_
  refine b_iconst C (v := 0) dX12_init_177 (by decide) ?_
  obtain ⟨h191, hf⟩ := gd_s hf
  obtain ⟨u194, d192, k193, hf⟩ := cb_s hf
  refine b_cSJ C [.int 0, .ref (ad B r190)] dX12_init_178 (kX12_letters l D cy B k193) lv_X12_75 ⟨rfl, rfl, Nat.le_of_ble_eq_true rfl, Nat.le_of_ble_eq_true rfl⟩ rfl (Nat.le_of_ble_eq_true rfl) h191 rfl ?_
  obtain ⟨h195, hf⟩ := gd_s hf
  obtain ⟨h196, hf⟩ := gd_s hf
  obtain ⟨d197, ed197, hf⟩ := bd_s hf
  refine b_last C h195 h196 ed197 dX12_init_181 ?_
  refine b_aload_n C dX12_init_182 0 rfl rfl ?_
  refine b_gR C dX12_init_183 fl_X12_34 h189 er190 ?_
  refine b_iconst C (v := 1) dX12_init_186 (by decide) ?_
  refine b_bipush C (v := 100) dX12_init_187 (by decide) ?_
  refine b_bipush C (v := 105) dX12_init_189 (by decide) ?_
  refine b_bipush C (v := 111) dX12_init_191 (by decide) ?_
  refine b_bipush C (v := 100) dX12_init_193 (by decide) ?_
  refine b_bipush C (v := 101) dX12_init_195 (by decide) ?_
  refine b_bipush C (v := 115) dX12_init_197 (by decide) ?_
  refine b_iconst C (v := 0) dX12_init_199 (by decide) ?_
  obtain ⟨u200, d198, k199, hf⟩ := cb_s hf
  refine b_cSJ C [.int 1, .ref (ad B r190)] dX12_init_200 (kX12_letters l D cy B k199) lv_X12_75 ⟨rfl, rfl, Nat.le_of_ble_eq_true rfl, Nat.le_of_ble_eq_true rfl⟩ rfl (Nat.le_of_ble_eq_true rfl) h191 rfl ?_
  obtain ⟨h201, hf⟩ := gd_s hf
  obtain ⟨d202, ed202, hf⟩ := bd_s hf
  refine b_last C h195 h201 ed202 dX12_init_203 ?_
  refine b_aload_n C dX12_init_204 0 rfl rfl ?_
  refine b_gR C dX12_init_205 fl_X12_34 h189 er190 ?_
  refine b_iconst C (v := 2) dX12_init_208 (by decide) ?_
  refine b_bipush C (v := 115) dX12_init_209 (by decide) ?_
  refine b_bipush C (v := 105) dX12_init_211 (by decide) ?_
  refine b_bipush C (v := 120) dX12_init_213 (by decide) ?_
  refine b_iconst C (v := 0) dX12_init_215 (by decide) ?_
  refine b_iconst C (v := 0) dX12_init_216 (by decide) ?_
  refine b_iconst C (v := 0) dX12_init_217 (by decide) ?_
  refine b_iconst C (v := 0) dX12_init_218 (by decide) ?_
  obtain ⟨u205, d203, k204, hf⟩ := cb_s hf
  refine b_cSJ C [.int 2, .ref (ad B r190)] dX12_init_219 (kX12_letters l D cy B k204) lv_X12_75 ⟨rfl, rfl, Nat.le_of_ble_eq_true rfl, Nat.le_of_ble_eq_true rfl⟩ rfl (Nat.le_of_ble_eq_true rfl) h191 rfl ?_
  obtain ⟨h206, hf⟩ := gd_s hf
  obtain ⟨d207, ed207, hf⟩ := bd_s hf
  refine b_last C h195 h206 ed207 dX12_init_222 ?_
  refine b_aload_n C dX12_init_223 0 rfl rfl ?_
  refine b_gR C dX12_init_224 fl_X12_34 h189 er190 ?_
  refine b_iconst C (v := 3) dX12_init_227 (by decide) ?_
  refine b_bipush C (v := 98) dX12_init_228 (by decide) ?_
  refine b_bipush C (v := 111) dX12_init_230 (by decide) ?_
  refine b_bipush C (v := 117) dX12_init_232 (by decide) ?_
  refine b_bipush C (v := 110) dX12_init_234 (by decide) ?_
  refine b_bipush C (v := 99) dX12_init_236 (by decide) ?_
  refine b_bipush C (v := 101) dX12_init_238 (by decide) ?_
  refine b_iconst C (v := 0) dX12_init_240 (by decide) ?_
  obtain ⟨u210, d208, k209, hf⟩ := cb_s hf
  refine b_cSJ C [.int 3, .ref (ad B r190)] dX12_init_241 (kX12_letters l D cy B k209) lv_X12_75 ⟨rfl, rfl, Nat.le_of_ble_eq_true rfl, Nat.le_of_ble_eq_true rfl⟩ rfl (Nat.le_of_ble_eq_true rfl) h191 rfl ?_
  obtain ⟨h211, hf⟩ := gd_s hf
  obtain ⟨d212, ed212, hf⟩ := bd_s hf
  refine b_last C h195 h211 ed212 dX12_init_244 ?_
  refine b_aload_n C dX12_init_245 0 rfl rfl ?_
  refine b_gR C dX12_init_246 fl_X12_34 h189 er190 ?_
  refine b_iconst C (v := 4) dX12_init_249 (by decide) ?_
  refine b_bipush C (v := 116) dX12_init_250 (by decide) ?_
  refine b_bipush C (v := 101) dX12_init_252 (by decide) ?_
  refine b_bipush C (v := 114) dX12_init_254 (by decide) ?_
  refine b_bipush C (v := 109) dX12_init_256 (by decide) ?_
  refine b_iconst C (v := 0) dX12_init_258 (by decide) ?_
  refine b_iconst C (v := 0) dX12_init_259 (by decide) ?_
  refine b_iconst C (v := 0) dX12_init_260 (by decide) ?_
  obtain ⟨u215, d213, k214, hf⟩ := cb_s hf
  refine b_cSJ C [.int 4, .ref (ad B r190)] dX12_init_261 (kX12_letters l D cy B k214) lv_X12_75 ⟨rfl, rfl, Nat.le_of_ble_eq_true rfl, Nat.le_of_ble_eq_true rfl⟩ rfl (Nat.le_of_ble_eq_true rfl) h191 rfl ?_
  obtain ⟨h216, hf⟩ := gd_s hf
  obtain ⟨d217, ed217, hf⟩ := bd_s hf
  refine b_last C h195 h216 ed217 dX12_init_264 ?_
  refine b_aload_n C dX12_init_265 0 rfl rfl ?_
  refine b_gR C dX12_init_266 fl_X12_34 h189 er190 ?_
  refine b_iconst C (v := 5) dX12_init_269 (by decide) ?_
  refine b_bipush C (v := 99) dX12_init_270 (by decide) ?_
  refine b_bipush C (v := 104) dX12_init_272 (by decide) ?_
  refine b_bipush C (v := 111) dX12_init_274 (by decide) ?_
  refine b_bipush C (v := 114) dX12_init_276 (by decide) ?_
  refine b_bipush C (v := 100) dX12_init_278 (by decide) ?_
  refine b_bipush C (v := 105) dX12_init_280 (by decide) ?_
  refine b_bipush C (v := 110) dX12_init_282 (by decide) ?_
  obtain ⟨u220, d218, k219, hf⟩ := cb_s hf
  refine b_cSJ C [.int 5, .ref (ad B r190)] dX12_init_284 (kX12_letters l D cy B k219) lv_X12_75 ⟨rfl, rfl, Nat.le_of_ble_eq_true rfl, Nat.le_of_ble_eq_true rfl⟩ rfl (Nat.le_of_ble_eq_true rfl) h191 rfl ?_
  refine b_bipush C (v := 103) dX12_init_287 (by decide) ?_
  obtain ⟨u223, d221, k222, hf⟩ := cb_s hf
  refine b_cSJ C [.int 5, .ref (ad B r190)] dX12_init_289 (kX12_appends l D cy B k222) lv_X12_79 ⟨rfl, rfl, Nat.le_of_ble_eq_true rfl, Nat.le_of_ble_eq_true rfl⟩ rfl (Nat.le_of_ble_eq_true rfl) h191 rfl ?_
  obtain ⟨h224, hf⟩ := gd_s hf
  obtain ⟨d225, ed225, hf⟩ := bd_s hf
  refine b_last C h195 h224 ed225 dX12_init_292 ?_
  refine b_sub [(0, .ref (ad B x0))] [0] rfl ?_
  exact tX12_init_293 C hr hlocks hin hz hn188 hn188s hf
set_option maxRecDepth 100000 in
def fX12_init_E (N : Nat) (x0 : Nat) (n0 s0 : Nat) (g : Gs) (d : Ds) : Option (Gs × Ds) := gd (¬ (2000 : Int32) < 0) <| gd ((2000 : Int32).toNatClampNeg ≤ 60000000) <| gd (gN g < 100000) <| gd (gN g + 1 - n0 ≤ 18 ∧ gS g + (2000 : Int32).toNatClampNeg - s0 ≤ 52035) <| bd (nG g 100 (2000 : Int32).toNatClampNeg (2000 : Int32).toNatClampNeg) fun g5 => (bd (nD g d) fun d6 => (bd (gN g) fun r7 => (gd (chk g5 x0 11) <| bd (sR g5 x0 1 r7) fun g10 => (gd (gN g10 < 100000) <| gd (gN g10 + 1 - n0 ≤ 18 ∧ gS g10 + (2000 : Int32).toNatClampNeg - s0 ≤ 52035) <| bd (nG g10 100 (2000 : Int32).toNatClampNeg (2000 : Int32).toNatClampNeg) fun g14 => (bd (nD g10 d6) fun d15 => (bd (gN g10) fun r16 => (gd (chk g14 x0 11) <| bd (sR g14 x0 3 r16) fun g19 => (gd (¬ (403 : Int32) < 0) <| gd ((403 : Int32).toNatClampNeg ≤ 60000000) <| gd (gN g19 < 100000) <| gd (gN g19 + 1 - n0 ≤ 18 ∧ gS g19 + (403 : Int32).toNatClampNeg - s0 ≤ 52035) <| bd (nG g19 102 (403 : Int32).toNatClampNeg (403 : Int32).toNatClampNeg) fun g25 => (bd (nD g19 d15) fun d26 => (bd (gN g19) fun r27 => (gd (chk g25 x0 11) <| bd (sR g25 x0 5 r27) fun g30 => (gd (gN g30 < 100000) <| gd (gN g30 + 1 - n0 ≤ 18 ∧ gS g30 + (403 : Int32).toNatClampNeg - s0 ≤ 52035) <| bd (nG g30 102 (403 : Int32).toNatClampNeg (403 : Int32).toNatClampNeg) fun g34 => (bd (nD g30 d26) fun d35 => (bd (gN g30) fun r36 => (gd (chk g34 x0 11) <| bd (sR g34 x0 6 r36) fun g39 => (gd (gN g39 < 100000) <| gd (gN g39 + 1 - n0 ≤ 18 ∧ gS g39 + (403 : Int32).toNatClampNeg - s0 ≤ 52035) <| bd (nG g39 102 (403 : Int32).toNatClampNeg (403 : Int32).toNatClampNeg) fun g43 => (bd (nD g39 d35) fun d44 => (bd (gN g39) fun r45 => (gd (chk g43 x0 11) <| bd (sR g43 x0 7 r45) fun g48 => (gd (gN g48 < 100000) <| gd (gN g48 + 1 - n0 ≤ 18 ∧ gS g48 + (403 : Int32).toNatClampNeg - s0 ≤ 52035) <| bd (nG g48 103 (403 : Int32).toNatClampNeg (403 : Int32).toNatClampNeg) fun g52 => (bd (nD g48 d44) fun d53 => (bd (gN g48) fun r54 => (gd (chk g52 x0 11) <| bd (sR g52 x0 8 r54) fun g57 => (gd (¬ (20 : Int32) < 0) <| gd ((20 : Int32).toNatClampNeg ≤ 60000000) <| gd (gN g57 < 100000) <| gd (gN g57 + 1 - n0 ≤ 18 ∧ gS g57 + (20 : Int32).toNatClampNeg - s0 ≤ 52035) <| bd (nG g57 103 (20 : Int32).toNatClampNeg (20 : Int32).toNatClampNeg) fun g63 => (bd (nD g57 d53) fun d64 => (bd (gN g57) fun r65 => (gd (chk g63 x0 11) <| bd (sR g63 x0 9 r65) fun g68 => (gd (chk g68 x0 11) <| bd (sI d64 x0 16 (-1)) fun d71 => (gd (¬ (9178 : Int32) < 0) <| gd ((9178 : Int32).toNatClampNeg ≤ 60000000) <| gd (gN g68 < 100000) <| gd (gN g68 + 1 - n0 ≤ 18 ∧ gS g68 + (9178 : Int32).toNatClampNeg - s0 ≤ 52035) <| bd (nG g68 102 (9178 : Int32).toNatClampNeg (9178 : Int32).toNatClampNeg) fun g76 => (bd (nD g68 d71) fun d77 => (bd (gN g68) fun r78 => (gd (chk g76 x0 11) <| bd (sR g76 x0 17 r78) fun g81 => (gd (¬ (352 : Int32) < 0) <| gd ((352 : Int32).toNatClampNeg ≤ 60000000) <| gd (gN g81 < 100000) <| gd (gN g81 + 1 - n0 ≤ 18 ∧ gS g81 + (352 : Int32).toNatClampNeg - s0 ≤ 52035) <| bd (nG g81 102 (352 : Int32).toNatClampNeg (352 : Int32).toNatClampNeg) fun g87 => (bd (nD g81 d77) fun d88 => (bd (gN g81) fun r89 => (gd (chk g87 x0 11) <| bd (sR g87 x0 18 r89) fun g92 => (gd (¬ (24 : Int32) < 0) <| gd ((24 : Int32).toNatClampNeg ≤ 60000000) <| gd (gN g92 < 100000) <| gd (gN g92 + 1 - n0 ≤ 18 ∧ gS g92 + (24 : Int32).toNatClampNeg - s0 ≤ 52035) <| bd (nG g92 101 (24 : Int32).toNatClampNeg (24 : Int32).toNatClampNeg) fun g98 => (bd (nD g92 d88) fun d99 => (bd (gN g92) fun r100 => (gd (chk g98 x0 11) <| bd (sR g98 x0 19 r100) fun g103 => (gd (¬ (3 : Int32) < 0) <| gd ((3 : Int32).toNatClampNeg ≤ 60000000) <| gd (gN g103 < 100000) <| gd (gN g103 + 1 - n0 ≤ 18 ∧ gS g103 + (3 : Int32).toNatClampNeg - s0 ≤ 52035) <| bd (nG g103 102 (3 : Int32).toNatClampNeg (3 : Int32).toNatClampNeg) fun g109 => (bd (nD g103 d99) fun d110 => (bd (gN g103) fun r111 => (gd (chk g109 x0 11) <| bd (sR g109 x0 23 r111) fun g114 => (gd (¬ (10 : Int32) < 0) <| gd ((10 : Int32).toNatClampNeg ≤ 60000000) <| gd (gN g114 < 100000) <| gd (gN g114 + 1 - n0 ≤ 18 ∧ gS g114 + (10 : Int32).toNatClampNeg - s0 ≤ 52035) <| bd (nG g114 102 (10 : Int32).toNatClampNeg (10 : Int32).toNatClampNeg) fun g120 => (bd (nD g114 d110) fun d121 => (bd (gN g114) fun r122 => (gd (chk g120 x0 11) <| bd (sR g120 x0 24 r122) fun g125 => (gd (¬ (25 : Int32) < 0) <| gd ((25 : Int32).toNatClampNeg ≤ 60000000) <| gd (gN g125 < 100000) <| gd (gN g125 + 1 - n0 ≤ 18 ∧ gS g125 + (25 : Int32).toNatClampNeg - s0 ≤ 52035) <| bd (nG g125 102 (25 : Int32).toNatClampNeg (25 : Int32).toNatClampNeg) fun g131 => (bd (nD g125 d121) fun d132 => (bd (gN g125) fun r133 => (gd (chk g131 x0 11) <| bd (sR g131 x0 27 r133) fun g136 => (gd (gN g136 < 100000) <| gd (gN g136 + 1 - n0 ≤ 18 ∧ gS g136 + (9178 : Int32).toNatClampNeg - s0 ≤ 52035) <| bd (nG g136 102 (9178 : Int32).toNatClampNeg (9178 : Int32).toNatClampNeg) fun g140 => (bd (nD g136 d132) fun d141 => (bd (gN g136) fun r142 => (gd (chk g140 x0 11) <| bd (sR g140 x0 28 r142) fun g145 => (gd (gN g145 < 100000) <| gd (gN g145 + 1 - n0 ≤ 18 ∧ gS g145 + (24 : Int32).toNatClampNeg - s0 ≤ 52035) <| bd (nG g145 101 (24 : Int32).toNatClampNeg (24 : Int32).toNatClampNeg) fun g149 => (bd (nD g145 d141) fun d150 => (bd (gN g145) fun r151 => (gd (chk g149 x0 11) <| bd (sR g149 x0 29 r151) fun g154 => (gd (¬ (27534 : Int32) < 0) <| gd ((27534 : Int32).toNatClampNeg ≤ 60000000) <| gd (gN g154 < 100000) <| gd (gN g154 + 1 - n0 ≤ 18 ∧ gS g154 + (27534 : Int32).toNatClampNeg - s0 ≤ 52035) <| bd (nG g154 102 (27534 : Int32).toNatClampNeg (27534 : Int32).toNatClampNeg) fun g160 => (bd (nD g154 d150) fun d161 => (bd (gN g154) fun r162 => (gd (chk g160 x0 11) <| bd (sR g160 x0 30 r162) fun g165 => (gd (¬ (72 : Int32) < 0) <| gd ((72 : Int32).toNatClampNeg ≤ 60000000) <| gd (gN g165 < 100000) <| gd (gN g165 + 1 - n0 ≤ 18 ∧ gS g165 + (72 : Int32).toNatClampNeg - s0 ≤ 52035) <| bd (nG g165 101 (72 : Int32).toNatClampNeg (72 : Int32).toNatClampNeg) fun g171 => (bd (nD g165 d161) fun d172 => (bd (gN g165) fun r173 => (gd (chk g171 x0 11) <| bd (sR g171 x0 31 r173) fun g176 => (fX12_init_J154 N x0 n0 s0 g176 d172)))))))))))))))))))))))))))))))))))))))))))))))))))))))))))))))))))))
def fX12_init (N : Nat) (x0 : Nat) (g : Gs) (d : Ds) : Option (Gs × Ds) := fX12_init_E N x0 (gN g) (gS g) g d
set_option maxHeartbeats 4000000 in
set_option maxRecDepth 100000 in
theorem tX12_init_E {p : Program} {l : Launch} {e : Env} {s : State} {m : MethodId} {args : Array Value} {below : List Frame} {meth : Method} {c : Code} {D : va_G} {cy : Nat → ClassId} {B : Bs} (C : Cx p s m args c cX12_init 1 RX12 D cy B) (hr : meth.sig.returnType = none) (hlocks : meth.locks = false) (hin : meth.name = "<init>") {n0 s0 : Nat} (hz : s.heap.size = B.1 + n0) {N : Nat} {x0 : Nat} {gz : Gs} {dz : Ds} {g : Gs} {d : Ds} (hn : n0 ≤ gN g) (hs : s0 ≤ gS g) (hf : fX12_init_E N x0 n0 s0 g d = some (gz, dz)) : WB p l e rmX12_init s m args below meth c 1 D cy B (gN g - n0) (gS g - s0) (MQ below (QV D cy B gz dz) args s 18 52035 (wA B)) g d [(0, .ref (ad B x0))] 0 [] := by
  unfold fX12_init_E at hf
  refine b_aload_n C dX12_init_0 0 rfl rfl ?_
  refine b_objInit C oi_X12_7 oi_i oi_c (by decide) (by decide) dX12_init_1 ?_
  refine b_aload_n C dX12_init_4 0 rfl rfl ?_
  refine b_sipush C (v := 2000) dX12_init_5 (by decide) ?_
  obtain ⟨h1, hf⟩ := gd_s hf
  obtain ⟨h2, hf⟩ := gd_s hf
  obtain ⟨h3, hf⟩ := gd_s hf
  obtain ⟨h4, hf⟩ := gd_s hf
  obtain ⟨g5, eg5, hf⟩ := bd_s hf
  obtain ⟨d6, ed6, hf⟩ := bd_s hf
  obtain ⟨r7, er7, hf⟩ := bd_s hf
  refine b_newaB C dX12_init_8 ar_byte hz hn hs h3 h1 h2 h4 eg5 ed6 (fun hn8 hn8s => ?_)
  refine b_topR er7 ?_
  obtain ⟨h9, hf⟩ := gd_s hf
  obtain ⟨g10, eg10, hf⟩ := bd_s hf
  refine b_pRC C dX12_init_10 fq_X12_13 fr11_1 hin h9 eg10 ?_
  have hn11 : n0 ≤ gN g10 := by rw [eg10]; exact hn8
  have hn11s : s0 ≤ gS g10 := by rw [eg10]; exact hn8s
  refine b_aload_n C dX12_init_13 0 rfl rfl ?_
  refine b_sipush C (v := 2000) dX12_init_14 (by decide) ?_
  obtain ⟨h12, hf⟩ := gd_s hf
  obtain ⟨h13, hf⟩ := gd_s hf
  obtain ⟨g14, eg14, hf⟩ := bd_s hf
  obtain ⟨d15, ed15, hf⟩ := bd_s hf
  obtain ⟨r16, er16, hf⟩ := bd_s hf
  refine b_newaB C dX12_init_17 ar_byte hz hn11 hn11s h12 h1 h2 h13 eg14 ed15 (fun hn17 hn17s => ?_)
  refine b_topR er16 ?_
  obtain ⟨h18, hf⟩ := gd_s hf
  obtain ⟨g19, eg19, hf⟩ := bd_s hf
  refine b_pRC C dX12_init_19 fq_X12_17 fr11_3 hin h18 eg19 ?_
  have hn20 : n0 ≤ gN g19 := by rw [eg19]; exact hn17
  have hn20s : s0 ≤ gS g19 := by rw [eg19]; exact hn17s
  refine b_aload_n C dX12_init_22 0 rfl rfl ?_
  refine b_sipush C (v := 403) dX12_init_23 (by decide) ?_
  obtain ⟨h21, hf⟩ := gd_s hf
  obtain ⟨h22, hf⟩ := gd_s hf
  obtain ⟨h23, hf⟩ := gd_s hf
  obtain ⟨h24, hf⟩ := gd_s hf
  obtain ⟨g25, eg25, hf⟩ := bd_s hf
  obtain ⟨d26, ed26, hf⟩ := bd_s hf
  obtain ⟨r27, er27, hf⟩ := bd_s hf
  refine b_newaI C dX12_init_26 ar_int hz hn20 hn20s h23 h21 h22 h24 eg25 ed26 (fun hn28 hn28s => ?_)
  refine b_topR er27 ?_
  obtain ⟨h29, hf⟩ := gd_s hf
  obtain ⟨g30, eg30, hf⟩ := bd_s hf
  refine b_pRC C dX12_init_28 fq_X12_20 fr11_5 hin h29 eg30 ?_
  have hn31 : n0 ≤ gN g30 := by rw [eg30]; exact hn28
  have hn31s : s0 ≤ gS g30 := by rw [eg30]; exact hn28s
  refine b_aload_n C dX12_init_31 0 rfl rfl ?_
  refine b_sipush C (v := 403) dX12_init_32 (by decide) ?_
  obtain ⟨h32, hf⟩ := gd_s hf
  obtain ⟨h33, hf⟩ := gd_s hf
  obtain ⟨g34, eg34, hf⟩ := bd_s hf
  obtain ⟨d35, ed35, hf⟩ := bd_s hf
  obtain ⟨r36, er36, hf⟩ := bd_s hf
  refine b_newaI C dX12_init_35 ar_int hz hn31 hn31s h32 h21 h22 h33 eg34 ed35 (fun hn37 hn37s => ?_)
  refine b_topR er36 ?_
  obtain ⟨h38, hf⟩ := gd_s hf
  obtain ⟨g39, eg39, hf⟩ := bd_s hf
  refine b_pRC C dX12_init_37 fq_X12_24 fr11_6 hin h38 eg39 ?_
  have hn40 : n0 ≤ gN g39 := by rw [eg39]; exact hn37
  have hn40s : s0 ≤ gS g39 := by rw [eg39]; exact hn37s
  refine b_aload_n C dX12_init_40 0 rfl rfl ?_
  refine b_sipush C (v := 403) dX12_init_41 (by decide) ?_
  obtain ⟨h41, hf⟩ := gd_s hf
  obtain ⟨h42, hf⟩ := gd_s hf
  obtain ⟨g43, eg43, hf⟩ := bd_s hf
  obtain ⟨d44, ed44, hf⟩ := bd_s hf
  obtain ⟨r45, er45, hf⟩ := bd_s hf
  refine b_newaI C dX12_init_44 ar_int hz hn40 hn40s h41 h21 h22 h42 eg43 ed44 (fun hn46 hn46s => ?_)
  refine b_topR er45 ?_
  obtain ⟨h47, hf⟩ := gd_s hf
  obtain ⟨g48, eg48, hf⟩ := bd_s hf
  refine b_pRC C dX12_init_46 fq_X12_27 fr11_7 hin h47 eg48 ?_
  have hn49 : n0 ≤ gN g48 := by rw [eg48]; exact hn46
  have hn49s : s0 ≤ gS g48 := by rw [eg48]; exact hn46s
  refine b_aload_n C dX12_init_49 0 rfl rfl ?_
  refine b_sipush C (v := 403) dX12_init_50 (by decide) ?_
  obtain ⟨h50, hf⟩ := gd_s hf
  obtain ⟨h51, hf⟩ := gd_s hf
  obtain ⟨g52, eg52, hf⟩ := bd_s hf
  obtain ⟨d53, ed53, hf⟩ := bd_s hf
  obtain ⟨r54, er54, hf⟩ := bd_s hf
  refine b_newaJ C dX12_init_53 ar_long hz hn49 hn49s h50 h21 h22 h51 eg52 ed53 (fun hn55 hn55s => ?_)
  refine b_topR er54 ?_
  obtain ⟨h56, hf⟩ := gd_s hf
  obtain ⟨g57, eg57, hf⟩ := bd_s hf
  refine b_pRC C dX12_init_55 fq_X12_30 fr11_8 hin h56 eg57 ?_
  have hn58 : n0 ≤ gN g57 := by rw [eg57]; exact hn55
  have hn58s : s0 ≤ gS g57 := by rw [eg57]; exact hn55s
  refine b_aload_n C dX12_init_58 0 rfl rfl ?_
  refine b_bipush C (v := 20) dX12_init_59 (by decide) ?_
  obtain ⟨h59, hf⟩ := gd_s hf
  obtain ⟨h60, hf⟩ := gd_s hf
  obtain ⟨h61, hf⟩ := gd_s hf
  obtain ⟨h62, hf⟩ := gd_s hf
  obtain ⟨g63, eg63, hf⟩ := bd_s hf
  obtain ⟨d64, ed64, hf⟩ := bd_s hf
  obtain ⟨r65, er65, hf⟩ := bd_s hf
  refine b_newaJ C dX12_init_61 ar_long hz hn58 hn58s h61 h59 h60 h62 eg63 ed64 (fun hn66 hn66s => ?_)
  refine b_topR er65 ?_
  obtain ⟨h67, hf⟩ := gd_s hf
  obtain ⟨g68, eg68, hf⟩ := bd_s hf
  refine b_pRC C dX12_init_63 fq_X12_34 fr11_9 hin h67 eg68 ?_
  have hn69 : n0 ≤ gN g68 := by rw [eg68]; exact hn66
  have hn69s : s0 ≤ gS g68 := by rw [eg68]; exact hn66s
  refine b_aload_n C dX12_init_66 0 rfl rfl ?_
  refine b_iconst C (v := (-1)) dX12_init_67 (by decide) ?_
  obtain ⟨h70, hf⟩ := gd_s hf
  obtain ⟨d71, ed71, hf⟩ := bd_s hf
  refine b_pI C dX12_init_68 fl_X12_37 fp11_16 h70 ed71 ?_
  refine b_aload_n C dX12_init_71 0 rfl rfl ?_
  refine b_sipush C (v := 9178) dX12_init_72 (by decide) ?_
  obtain ⟨h72, hf⟩ := gd_s hf
  obtain ⟨h73, hf⟩ := gd_s hf
  obtain ⟨h74, hf⟩ := gd_s hf
  obtain ⟨h75, hf⟩ := gd_s hf
  obtain ⟨g76, eg76, hf⟩ := bd_s hf
  obtain ⟨d77, ed77, hf⟩ := bd_s hf
  obtain ⟨r78, er78, hf⟩ := bd_s hf
  refine b_newaI C dX12_init_75 ar_int hz hn69 hn69s h74 h72 h73 h75 eg76 ed77 (fun hn79 hn79s => ?_)
  refine b_topR er78 ?_
  obtain ⟨h80, hf⟩ := gd_s hf
  obtain ⟨g81, eg81, hf⟩ := bd_s hf
  refine b_pRC C dX12_init_77 fq_X12_40 fr11_17 hin h80 eg81 ?_
  have hn82 : n0 ≤ gN g81 := by rw [eg81]; exact hn79
  have hn82s : s0 ≤ gS g81 := by rw [eg81]; exact hn79s
  refine b_aload_n C dX12_init_80 0 rfl rfl ?_
  refine b_sipush C (v := 352) dX12_init_81 (by decide) ?_
  obtain ⟨h83, hf⟩ := gd_s hf
  obtain ⟨h84, hf⟩ := gd_s hf
  obtain ⟨h85, hf⟩ := gd_s hf
  obtain ⟨h86, hf⟩ := gd_s hf
  obtain ⟨g87, eg87, hf⟩ := bd_s hf
  obtain ⟨d88, ed88, hf⟩ := bd_s hf
  obtain ⟨r89, er89, hf⟩ := bd_s hf
  refine b_newaI C dX12_init_84 ar_int hz hn82 hn82s h85 h83 h84 h86 eg87 ed88 (fun hn90 hn90s => ?_)
  refine b_topR er89 ?_
  obtain ⟨h91, hf⟩ := gd_s hf
  obtain ⟨g92, eg92, hf⟩ := bd_s hf
  refine b_pRC C dX12_init_86 fq_X12_43 fr11_18 hin h91 eg92 ?_
  have hn93 : n0 ≤ gN g92 := by rw [eg92]; exact hn90
  have hn93s : s0 ≤ gS g92 := by rw [eg92]; exact hn90s
  refine b_aload_n C dX12_init_89 0 rfl rfl ?_
  refine b_bipush C (v := 24) dX12_init_90 (by decide) ?_
  obtain ⟨h94, hf⟩ := gd_s hf
  obtain ⟨h95, hf⟩ := gd_s hf
  obtain ⟨h96, hf⟩ := gd_s hf
  obtain ⟨h97, hf⟩ := gd_s hf
  obtain ⟨g98, eg98, hf⟩ := bd_s hf
  obtain ⟨d99, ed99, hf⟩ := bd_s hf
  obtain ⟨r100, er100, hf⟩ := bd_s hf
  refine b_newaF C dX12_init_92 ar_float hz hn93 hn93s h96 h94 h95 h97 eg98 ed99 (fun hn101 hn101s => ?_)
  refine b_topR er100 ?_
  obtain ⟨h102, hf⟩ := gd_s hf
  obtain ⟨g103, eg103, hf⟩ := bd_s hf
  refine b_pRC C dX12_init_94 fq_X12_46 fr11_19 hin h102 eg103 ?_
  have hn104 : n0 ≤ gN g103 := by rw [eg103]; exact hn101
  have hn104s : s0 ≤ gS g103 := by rw [eg103]; exact hn101s
  refine b_aload_n C dX12_init_97 0 rfl rfl ?_
  refine b_iconst C (v := 3) dX12_init_98 (by decide) ?_
  obtain ⟨h105, hf⟩ := gd_s hf
  obtain ⟨h106, hf⟩ := gd_s hf
  obtain ⟨h107, hf⟩ := gd_s hf
  obtain ⟨h108, hf⟩ := gd_s hf
  obtain ⟨g109, eg109, hf⟩ := bd_s hf
  obtain ⟨d110, ed110, hf⟩ := bd_s hf
  obtain ⟨r111, er111, hf⟩ := bd_s hf
  refine b_newaI C dX12_init_99 ar_int hz hn104 hn104s h107 h105 h106 h108 eg109 ed110 (fun hn112 hn112s => ?_)
  refine b_topR er111 ?_
  obtain ⟨h113, hf⟩ := gd_s hf
  obtain ⟨g114, eg114, hf⟩ := bd_s hf
  refine b_pRC C dX12_init_101 fq_X12_50 fr11_23 hin h113 eg114 ?_
  have hn115 : n0 ≤ gN g114 := by rw [eg114]; exact hn112
  have hn115s : s0 ≤ gS g114 := by rw [eg114]; exact hn112s
  refine b_aload_n C dX12_init_104 0 rfl rfl ?_
  refine b_bipush C (v := 10) dX12_init_105 (by decide) ?_
  obtain ⟨h116, hf⟩ := gd_s hf
  obtain ⟨h117, hf⟩ := gd_s hf
  obtain ⟨h118, hf⟩ := gd_s hf
  obtain ⟨h119, hf⟩ := gd_s hf
  obtain ⟨g120, eg120, hf⟩ := bd_s hf
  obtain ⟨d121, ed121, hf⟩ := bd_s hf
  obtain ⟨r122, er122, hf⟩ := bd_s hf
  refine b_newaI C dX12_init_107 ar_int hz hn115 hn115s h118 h116 h117 h119 eg120 ed121 (fun hn123 hn123s => ?_)
  refine b_topR er122 ?_
  obtain ⟨h124, hf⟩ := gd_s hf
  obtain ⟨g125, eg125, hf⟩ := bd_s hf
  refine b_pRC C dX12_init_109 fq_X12_53 fr11_24 hin h124 eg125 ?_
  have hn126 : n0 ≤ gN g125 := by rw [eg125]; exact hn123
  have hn126s : s0 ≤ gS g125 := by rw [eg125]; exact hn123s
  refine b_aload_n C dX12_init_112 0 rfl rfl ?_
  refine b_bipush C (v := 25) dX12_init_113 (by decide) ?_
  obtain ⟨h127, hf⟩ := gd_s hf
  obtain ⟨h128, hf⟩ := gd_s hf
  obtain ⟨h129, hf⟩ := gd_s hf
  obtain ⟨h130, hf⟩ := gd_s hf
  obtain ⟨g131, eg131, hf⟩ := bd_s hf
  obtain ⟨d132, ed132, hf⟩ := bd_s hf
  obtain ⟨r133, er133, hf⟩ := bd_s hf
  refine b_newaI C dX12_init_115 ar_int hz hn126 hn126s h129 h127 h128 h130 eg131 ed132 (fun hn134 hn134s => ?_)
  refine b_topR er133 ?_
  obtain ⟨h135, hf⟩ := gd_s hf
  obtain ⟨g136, eg136, hf⟩ := bd_s hf
  refine b_pRC C dX12_init_117 fq_X12_56 fr11_27 hin h135 eg136 ?_
  have hn137 : n0 ≤ gN g136 := by rw [eg136]; exact hn134
  have hn137s : s0 ≤ gS g136 := by rw [eg136]; exact hn134s
  refine b_aload_n C dX12_init_120 0 rfl rfl ?_
  refine b_sipush C (v := 9178) dX12_init_121 (by decide) ?_
  obtain ⟨h138, hf⟩ := gd_s hf
  obtain ⟨h139, hf⟩ := gd_s hf
  obtain ⟨g140, eg140, hf⟩ := bd_s hf
  obtain ⟨d141, ed141, hf⟩ := bd_s hf
  obtain ⟨r142, er142, hf⟩ := bd_s hf
  refine b_newaI C dX12_init_124 ar_int hz hn137 hn137s h138 h72 h73 h139 eg140 ed141 (fun hn143 hn143s => ?_)
  refine b_topR er142 ?_
  obtain ⟨h144, hf⟩ := gd_s hf
  obtain ⟨g145, eg145, hf⟩ := bd_s hf
  refine b_pRC C dX12_init_126 fq_X12_59 fr11_28 hin h144 eg145 ?_
  have hn146 : n0 ≤ gN g145 := by rw [eg145]; exact hn143
  have hn146s : s0 ≤ gS g145 := by rw [eg145]; exact hn143s
  refine b_aload_n C dX12_init_129 0 rfl rfl ?_
  refine b_bipush C (v := 24) dX12_init_130 (by decide) ?_
  obtain ⟨h147, hf⟩ := gd_s hf
  obtain ⟨h148, hf⟩ := gd_s hf
  obtain ⟨g149, eg149, hf⟩ := bd_s hf
  obtain ⟨d150, ed150, hf⟩ := bd_s hf
  obtain ⟨r151, er151, hf⟩ := bd_s hf
  refine b_newaF C dX12_init_132 ar_float hz hn146 hn146s h147 h94 h95 h148 eg149 ed150 (fun hn152 hn152s => ?_)
  refine b_topR er151 ?_
  obtain ⟨h153, hf⟩ := gd_s hf
  obtain ⟨g154, eg154, hf⟩ := bd_s hf
  refine b_pRC C dX12_init_134 fq_X12_62 fr11_29 hin h153 eg154 ?_
  have hn155 : n0 ≤ gN g154 := by rw [eg154]; exact hn152
  have hn155s : s0 ≤ gS g154 := by rw [eg154]; exact hn152s
  refine b_aload_n C dX12_init_137 0 rfl rfl ?_
  refine b_sipush C (v := 27534) dX12_init_138 (by decide) ?_
  obtain ⟨h156, hf⟩ := gd_s hf
  obtain ⟨h157, hf⟩ := gd_s hf
  obtain ⟨h158, hf⟩ := gd_s hf
  obtain ⟨h159, hf⟩ := gd_s hf
  obtain ⟨g160, eg160, hf⟩ := bd_s hf
  obtain ⟨d161, ed161, hf⟩ := bd_s hf
  obtain ⟨r162, er162, hf⟩ := bd_s hf
  refine b_newaI C dX12_init_141 ar_int hz hn155 hn155s h158 h156 h157 h159 eg160 ed161 (fun hn163 hn163s => ?_)
  refine b_topR er162 ?_
  obtain ⟨h164, hf⟩ := gd_s hf
  obtain ⟨g165, eg165, hf⟩ := bd_s hf
  refine b_pRC C dX12_init_143 fq_X12_65 fr11_30 hin h164 eg165 ?_
  have hn166 : n0 ≤ gN g165 := by rw [eg165]; exact hn163
  have hn166s : s0 ≤ gS g165 := by rw [eg165]; exact hn163s
  refine b_aload_n C dX12_init_146 0 rfl rfl ?_
  refine b_bipush C (v := 72) dX12_init_147 (by decide) ?_
  obtain ⟨h167, hf⟩ := gd_s hf
  obtain ⟨h168, hf⟩ := gd_s hf
  obtain ⟨h169, hf⟩ := gd_s hf
  obtain ⟨h170, hf⟩ := gd_s hf
  obtain ⟨g171, eg171, hf⟩ := bd_s hf
  obtain ⟨d172, ed172, hf⟩ := bd_s hf
  obtain ⟨r173, er173, hf⟩ := bd_s hf
  refine b_newaF C dX12_init_149 ar_float hz hn166 hn166s h169 h167 h168 h170 eg171 ed172 (fun hn174 hn174s => ?_)
  refine b_topR er173 ?_
  obtain ⟨h175, hf⟩ := gd_s hf
  obtain ⟨g176, eg176, hf⟩ := bd_s hf
  refine b_pRC C dX12_init_151 fq_X12_68 fr11_31 hin h175 eg176 ?_
  have hn177 : n0 ≤ gN g176 := by rw [eg176]; exact hn174
  have hn177s : s0 ≤ gS g176 := by rw [eg176]; exact hn174s
  refine b_sub [(0, .ref (ad B x0))] [0] rfl ?_
  exact tX12_init_154 C hr hlocks hin hz hn177 hn177s hf
theorem kX12_init (l : Launch) (D : va_G) (cy : Nat → ClassId) (B : Bs) {N : Nat} {g : Gs} {x0 : Nat} {gz : Gs} {dz : Ds} {d : Ds} (hf : fX12_init N x0 g d = some (gz, dz)) : Met l yX12_init (.code yX12_init cX12_init 1 none :: wl) rmX12_init (PCC D cy B [.ref (ad B x0)] g d) (QV D cy B gz dz) 18 52035 (wA B) :=
  met_ofC (by decide +kernel) (Nat.le_of_ble_eq_true rfl) (fun p e s m args below meth c C hr hlocks hin hz => b_sub [(0, .ref (ad B x0))] [0] rfl (tX12_init_E C hr hlocks hin hz (Nat.le_refl _) (Nat.le_refl _) hf))
end
