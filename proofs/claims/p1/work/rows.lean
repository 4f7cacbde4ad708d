section
-- ===== PART A: goes FIRST, ahead of the names: the tables' words, and 'selects' of the private methods out of them =====
/-- a private method of a class that the tables say can be made, by its rows of tables_1 -/
def lw_okq (q : MethodName × Nat) : Prop := (q.1.cls ≠ "java/lang/invoke/MethodHandle" ∧ q.1.cls ≠ "java/lang/invoke/VarHandle") ∧ Cond.instantiable q.1.cls q.2 ∈ tables_1 ∧ Cond.privateMethod q.1 ∈ tables_1 ∧ Cond.instanceMethod q.1 ∈ tables_1
theorem lw_p0 : lw_okq (⟨"KeyMatrix$Reports", "makeLatest", "(II)V"⟩, 9) := ⟨⟨by decide +kernel, by decide +kernel⟩, List.mem_of_getElem? (i := 380) (by decide +kernel), List.mem_of_getElem? (i := 442) (by decide +kernel), List.mem_of_getElem? (i := 443) (by decide +kernel)⟩
theorem lw_p1 : lw_okq (⟨"KeyMatrix", "appendFour", "(I)V"⟩, 10) := ⟨⟨by decide +kernel, by decide +kernel⟩, List.mem_of_getElem? (i := 23) (by decide +kernel), List.mem_of_getElem? (i := 506) (by decide +kernel), List.mem_of_getElem? (i := 507) (by decide +kernel)⟩
theorem lw_p2 : lw_okq (⟨"KeyMatrix$Tokens", "skipBlanks", "([BI)I"⟩, 6) := ⟨⟨by decide +kernel, by decide +kernel⟩, List.mem_of_getElem? (i := 37) (by decide +kernel), List.mem_of_getElem? (i := 526) (by decide +kernel), List.mem_of_getElem? (i := 527) (by decide +kernel)⟩
theorem lw_p3 : lw_okq (⟨"KeyMatrix$Tokens", "cutWord", "([BI)I"⟩, 6) := ⟨⟨by decide +kernel, by decide +kernel⟩, List.mem_of_getElem? (i := 37) (by decide +kernel), List.mem_of_getElem? (i := 533) (by decide +kernel), List.mem_of_getElem? (i := 534) (by decide +kernel)⟩
theorem lw_p4 : lw_okq (⟨"KeyMatrix$Tokens", "cutInt", "([BI)I"⟩, 6) := ⟨⟨by decide +kernel, by decide +kernel⟩, List.mem_of_getElem? (i := 37) (by decide +kernel), List.mem_of_getElem? (i := 593) (by decide +kernel), List.mem_of_getElem? (i := 594) (by decide +kernel)⟩
theorem lw_p5 : lw_okq (⟨"KeyMatrix$TextReader", "takeBoard", "()Z"⟩, 10) := ⟨⟨by decide +kernel, by decide +kernel⟩, List.mem_of_getElem? (i := 31) (by decide +kernel), List.mem_of_getElem? (i := 598) (by decide +kernel), List.mem_of_getElem? (i := 599) (by decide +kernel)⟩
theorem lw_p6 : lw_okq (⟨"KeyMatrix$TextReader", "fail", "(I)Z"⟩, 10) := ⟨⟨by decide +kernel, by decide +kernel⟩, List.mem_of_getElem? (i := 31) (by decide +kernel), List.mem_of_getElem? (i := 608) (by decide +kernel), List.mem_of_getElem? (i := 609) (by decide +kernel)⟩
theorem lw_p7 : lw_okq (⟨"KeyMatrix$TextReader", "takeToken", "(I)Z"⟩, 10) := ⟨⟨by decide +kernel, by decide +kernel⟩, List.mem_of_getElem? (i := 31) (by decide +kernel), List.mem_of_getElem? (i := 612) (by decide +kernel), List.mem_of_getElem? (i := 613) (by decide +kernel)⟩
theorem lw_p8 : lw_okq (⟨"KeyMatrix$TextReader", "takeNumber", "(II)Z"⟩, 10) := ⟨⟨by decide +kernel, by decide +kernel⟩, List.mem_of_getElem? (i := 31) (by decide +kernel), List.mem_of_getElem? (i := 620) (by decide +kernel), List.mem_of_getElem? (i := 621) (by decide +kernel)⟩
theorem lw_p9 : lw_okq (⟨"KeyMatrix$TextReader", "noteLater", "(II)V"⟩, 10) := ⟨⟨by decide +kernel, by decide +kernel⟩, List.mem_of_getElem? (i := 31) (by decide +kernel), List.mem_of_getElem? (i := 628) (by decide +kernel), List.mem_of_getElem? (i := 629) (by decide +kernel)⟩
theorem lw_p10 : lw_okq (⟨"KeyMatrix$TextReader", "takeLine", "()Z"⟩, 10) := ⟨⟨by decide +kernel, by decide +kernel⟩, List.mem_of_getElem? (i := 31) (by decide +kernel), List.mem_of_getElem? (i := 632) (by decide +kernel), List.mem_of_getElem? (i := 633) (by decide +kernel)⟩
theorem lw_p11 : lw_okq (⟨"KeyMatrix$TextReader", "takeKey", "()Z"⟩, 10) := ⟨⟨by decide +kernel, by decide +kernel⟩, List.mem_of_getElem? (i := 31) (by decide +kernel), List.mem_of_getElem? (i := 646) (by decide +kernel), List.mem_of_getElem? (i := 647) (by decide +kernel)⟩
theorem lw_p12 : lw_okq (⟨"KeyMatrix$TextReader", "takeDeed", "()Z"⟩, 10) := ⟨⟨by decide +kernel, by decide +kernel⟩, List.mem_of_getElem? (i := 31) (by decide +kernel), List.mem_of_getElem? (i := 658) (by decide +kernel), List.mem_of_getElem? (i := 659) (by decide +kernel)⟩
theorem lw_p13 : lw_okq (⟨"KeyMatrix$TextReader", "takeChord", "()Z"⟩, 10) := ⟨⟨by decide +kernel, by decide +kernel⟩, List.mem_of_getElem? (i := 31) (by decide +kernel), List.mem_of_getElem? (i := 680) (by decide +kernel), List.mem_of_getElem? (i := 681) (by decide +kernel)⟩
theorem lw_p14 : lw_okq (⟨"KeyMatrix$TextReader", "takeChordKey", "(I)Z"⟩, 10) := ⟨⟨by decide +kernel, by decide +kernel⟩, List.mem_of_getElem? (i := 31) (by decide +kernel), List.mem_of_getElem? (i := 684) (by decide +kernel), List.mem_of_getElem? (i := 685) (by decide +kernel)⟩
theorem lw_p15 : lw_okq (⟨"KeyMatrix$TextReader", "takeMacro", "()Z"⟩, 10) := ⟨⟨by decide +kernel, by decide +kernel⟩, List.mem_of_getElem? (i := 31) (by decide +kernel), List.mem_of_getElem? (i := 701) (by decide +kernel), List.mem_of_getElem? (i := 702) (by decide +kernel)⟩
def lw_privs_1 : List (MethodName × Nat) := [(⟨"KeyMatrix$Reports", "makeLatest", "(II)V"⟩, 9), (⟨"KeyMatrix", "appendFour", "(I)V"⟩, 10), (⟨"KeyMatrix$Tokens", "skipBlanks", "([BI)I"⟩, 6), (⟨"KeyMatrix$Tokens", "cutWord", "([BI)I"⟩, 6), (⟨"KeyMatrix$Tokens", "cutInt", "([BI)I"⟩, 6), (⟨"KeyMatrix$TextReader", "takeBoard", "()Z"⟩, 10), (⟨"KeyMatrix$TextReader", "fail", "(I)Z"⟩, 10), (⟨"KeyMatrix$TextReader", "takeToken", "(I)Z"⟩, 10), (⟨"KeyMatrix$TextReader", "takeNumber", "(II)Z"⟩, 10), (⟨"KeyMatrix$TextReader", "noteLater", "(II)V"⟩, 10), (⟨"KeyMatrix$TextReader", "takeLine", "()Z"⟩, 10), (⟨"KeyMatrix$TextReader", "takeKey", "()Z"⟩, 10), (⟨"KeyMatrix$TextReader", "takeDeed", "()Z"⟩, 10), (⟨"KeyMatrix$TextReader", "takeChord", "()Z"⟩, 10), (⟨"KeyMatrix$TextReader", "takeChordKey", "(I)Z"⟩, 10), (⟨"KeyMatrix$TextReader", "takeMacro", "()Z"⟩, 10)]
theorem lw_r1 : ∀ q ∈ lw_privs_1, lw_okq q := List.forall_mem_cons.mpr ⟨lw_p0, List.forall_mem_cons.mpr ⟨lw_p1, List.forall_mem_cons.mpr ⟨lw_p2, List.forall_mem_cons.mpr ⟨lw_p3, List.forall_mem_cons.mpr ⟨lw_p4, List.forall_mem_cons.mpr ⟨lw_p5, List.forall_mem_cons.mpr ⟨lw_p6, List.forall_mem_cons.mpr ⟨lw_p7, List.forall_mem_cons.mpr ⟨lw_p8, List.forall_mem_cons.mpr ⟨lw_p9, List.forall_mem_cons.mpr ⟨lw_p10, List.forall_mem_cons.mpr ⟨lw_p11, List.forall_mem_cons.mpr ⟨lw_p12, List.forall_mem_cons.mpr ⟨lw_p13, List.forall_mem_cons.mpr ⟨lw_p14, List.forall_mem_cons.mpr ⟨lw_p15, fun _ h => absurd h List.not_mem_nil⟩⟩⟩⟩⟩⟩⟩⟩⟩⟩⟩⟩⟩⟩⟩⟩
theorem lw_p16 : lw_okq (⟨"KeyMatrix$TextReader", "takeSetting", "(LKeyMatrix$Word;)Z"⟩, 10) := ⟨⟨by decide +kernel, by decide +kernel⟩, List.mem_of_getElem? (i := 31) (by decide +kernel), List.mem_of_getElem? (i := 714) (by decide +kernel), List.mem_of_getElem? (i := 715) (by decide +kernel)⟩
theorem lw_p17 : lw_okq (⟨"KeyMatrix$Wiring", "join", "(LKeyMatrix$Board;I)V"⟩, 4) := ⟨⟨by decide +kernel, by decide +kernel⟩, List.mem_of_getElem? (i := 241) (by decide +kernel), List.mem_of_getElem? (i := 760) (by decide +kernel), List.mem_of_getElem? (i := 761) (by decide +kernel)⟩
theorem lw_p18 : lw_okq (⟨"KeyMatrix$Wiring", "bar", "(LKeyMatrix$Board;I)V"⟩, 4) := ⟨⟨by decide +kernel, by decide +kernel⟩, List.mem_of_getElem? (i := 241) (by decide +kernel), List.mem_of_getElem? (i := 766) (by decide +kernel), List.mem_of_getElem? (i := 767) (by decide +kernel)⟩
theorem lw_p19 : lw_okq (⟨"KeyMatrix$Course", "fateOfFirst", "()I"⟩, 6) := ⟨⟨by decide +kernel, by decide +kernel⟩, List.mem_of_getElem? (i := 263) (by decide +kernel), List.mem_of_getElem? (i := 809) (by decide +kernel), List.mem_of_getElem? (i := 810) (by decide +kernel)⟩
theorem lw_p20 : lw_okq (⟨"KeyMatrix$Course", "fateOfHold", "(II)I"⟩, 6) := ⟨⟨by decide +kernel, by decide +kernel⟩, List.mem_of_getElem? (i := 263) (by decide +kernel), List.mem_of_getElem? (i := 836) (by decide +kernel), List.mem_of_getElem? (i := 837) (by decide +kernel)⟩
theorem lw_p21 : lw_okq (⟨"KeyMatrix$Course", "fateOfDouble", "(II)I"⟩, 6) := ⟨⟨by decide +kernel, by decide +kernel⟩, List.mem_of_getElem? (i := 263) (by decide +kernel), List.mem_of_getElem? (i := 840) (by decide +kernel), List.mem_of_getElem? (i := 841) (by decide +kernel)⟩
theorem lw_p22 : lw_okq (⟨"KeyMatrix$Course", "workOff", "(I)V"⟩, 6) := ⟨⟨by decide +kernel, by decide +kernel⟩, List.mem_of_getElem? (i := 263) (by decide +kernel), List.mem_of_getElem? (i := 844) (by decide +kernel), List.mem_of_getElem? (i := 845) (by decide +kernel)⟩
theorem lw_p23 : lw_okq (⟨"KeyMatrix$Doing", "drop", "(I)V"⟩, 9) := ⟨⟨by decide +kernel, by decide +kernel⟩, List.mem_of_getElem? (i := 333) (by decide +kernel), List.mem_of_getElem? (i := 857) (by decide +kernel), List.mem_of_getElem? (i := 858) (by decide +kernel)⟩
theorem lw_p24 : lw_okq (⟨"KeyMatrix$Course", "send", "(I)V"⟩, 6) := ⟨⟨by decide +kernel, by decide +kernel⟩, List.mem_of_getElem? (i := 263) (by decide +kernel), List.mem_of_getElem? (i := 861) (by decide +kernel), List.mem_of_getElem? (i := 862) (by decide +kernel)⟩
theorem lw_p25 : lw_okq (⟨"KeyMatrix$Doing", "addCode", "(I)V"⟩, 9) := ⟨⟨by decide +kernel, by decide +kernel⟩, List.mem_of_getElem? (i := 333) (by decide +kernel), List.mem_of_getElem? (i := 869) (by decide +kernel), List.mem_of_getElem? (i := 870) (by decide +kernel)⟩
theorem lw_p26 : lw_okq (⟨"KeyMatrix$Reports", "isAlike", "(ILKeyMatrix$Doing;Z)Z"⟩, 9) := ⟨⟨by decide +kernel, by decide +kernel⟩, List.mem_of_getElem? (i := 380) (by decide +kernel), List.mem_of_getElem? (i := 881) (by decide +kernel), List.mem_of_getElem? (i := 882) (by decide +kernel)⟩
theorem lw_p27 : lw_okq (⟨"KeyMatrix$Reports", "renewLatest", "(ILKeyMatrix$Doing;ZI)V"⟩, 9) := ⟨⟨by decide +kernel, by decide +kernel⟩, List.mem_of_getElem? (i := 380) (by decide +kernel), List.mem_of_getElem? (i := 889) (by decide +kernel), List.mem_of_getElem? (i := 890) (by decide +kernel)⟩
theorem lw_p28 : lw_okq (⟨"KeyMatrix$Reports", "hasCode", "(II)Z"⟩, 9) := ⟨⟨by decide +kernel, by decide +kernel⟩, List.mem_of_getElem? (i := 380) (by decide +kernel), List.mem_of_getElem? (i := 893) (by decide +kernel), List.mem_of_getElem? (i := 894) (by decide +kernel)⟩
theorem lw_p29 : lw_okq (⟨"KeyMatrix$Course", "perform", "(IIII)V"⟩, 6) := ⟨⟨by decide +kernel, by decide +kernel⟩, List.mem_of_getElem? (i := 263) (by decide +kernel), List.mem_of_getElem? (i := 906) (by decide +kernel), List.mem_of_getElem? (i := 907) (by decide +kernel)⟩
theorem lw_p30 : lw_okq (⟨"KeyMatrix", "setting", "(I)I"⟩, 10) := ⟨⟨by decide +kernel, by decide +kernel⟩, List.mem_of_getElem? (i := 23) (by decide +kernel), List.mem_of_getElem? (i := 1029) (by decide +kernel), List.mem_of_getElem? (i := 1030) (by decide +kernel)⟩
theorem lw_p31 : lw_okq (⟨"KeyMatrixModel", "startsAnew", "()V"⟩, 33) := ⟨⟨by decide +kernel, by decide +kernel⟩, List.mem_of_getElem? (i := 1033) (by decide +kernel), List.mem_of_getElem? (i := 1049) (by decide +kernel), List.mem_of_getElem? (i := 1050) (by decide +kernel)⟩
def lw_privs_2 : List (MethodName × Nat) := [(⟨"KeyMatrix$TextReader", "takeSetting", "(LKeyMatrix$Word;)Z"⟩, 10), (⟨"KeyMatrix$Wiring", "join", "(LKeyMatrix$Board;I)V"⟩, 4), (⟨"KeyMatrix$Wiring", "bar", "(LKeyMatrix$Board;I)V"⟩, 4), (⟨"KeyMatrix$Course", "fateOfFirst", "()I"⟩, 6), (⟨"KeyMatrix$Course", "fateOfHold", "(II)I"⟩, 6), (⟨"KeyMatrix$Course", "fateOfDouble", "(II)I"⟩, 6), (⟨"KeyMatrix$Course", "workOff", "(I)V"⟩, 6), (⟨"KeyMatrix$Doing", "drop", "(I)V"⟩, 9), (⟨"KeyMatrix$Course", "send", "(I)V"⟩, 6), (⟨"KeyMatrix$Doing", "addCode", "(I)V"⟩, 9), (⟨"KeyMatrix$Reports", "isAlike", "(ILKeyMatrix$Doing;Z)Z"⟩, 9), (⟨"KeyMatrix$Reports", "renewLatest", "(ILKeyMatrix$Doing;ZI)V"⟩, 9), (⟨"KeyMatrix$Reports", "hasCode", "(II)Z"⟩, 9), (⟨"KeyMatrix$Course", "perform", "(IIII)V"⟩, 6), (⟨"KeyMatrix", "setting", "(I)I"⟩, 10), (⟨"KeyMatrixModel", "startsAnew", "()V"⟩, 33)]
theorem lw_r2 : ∀ q ∈ lw_privs_2, lw_okq q := List.forall_mem_cons.mpr ⟨lw_p16, List.forall_mem_cons.mpr ⟨lw_p17, List.forall_mem_cons.mpr ⟨lw_p18, List.forall_mem_cons.mpr ⟨lw_p19, List.forall_mem_cons.mpr ⟨lw_p20, List.forall_mem_cons.mpr ⟨lw_p21, List.forall_mem_cons.mpr ⟨lw_p22, List.forall_mem_cons.mpr ⟨lw_p23, List.forall_mem_cons.mpr ⟨lw_p24, List.forall_mem_cons.mpr ⟨lw_p25, List.forall_mem_cons.mpr ⟨lw_p26, List.forall_mem_cons.mpr ⟨lw_p27, List.forall_mem_cons.mpr ⟨lw_p28, List.forall_mem_cons.mpr ⟨lw_p29, List.forall_mem_cons.mpr ⟨lw_p30, List.forall_mem_cons.mpr ⟨lw_p31, fun _ h => absurd h List.not_mem_nil⟩⟩⟩⟩⟩⟩⟩⟩⟩⟩⟩⟩⟩⟩⟩⟩
theorem lw_p32 : lw_okq (⟨"KeyMatrixModel", "lays", "(I)V"⟩, 33) := ⟨⟨by decide +kernel, by decide +kernel⟩, List.mem_of_getElem? (i := 1033) (by decide +kernel), List.mem_of_getElem? (i := 1158) (by decide +kernel), List.mem_of_getElem? (i := 1159) (by decide +kernel)⟩
theorem lw_p33 : lw_okq (⟨"KeyMatrixModel", "cutsText", "()V"⟩, 33) := ⟨⟨by decide +kernel, by decide +kernel⟩, List.mem_of_getElem? (i := 1033) (by decide +kernel), List.mem_of_getElem? (i := 1170) (by decide +kernel), List.mem_of_getElem? (i := 1171) (by decide +kernel)⟩
theorem lw_p34 : lw_okq (⟨"KeyMatrixModel", "byteAt", "(I)I"⟩, 33) := ⟨⟨by decide +kernel, by decide +kernel⟩, List.mem_of_getElem? (i := 1033) (by decide +kernel), List.mem_of_getElem? (i := 1174) (by decide +kernel), List.mem_of_getElem? (i := 1175) (by decide +kernel)⟩
theorem lw_p35 : lw_okq (⟨"KeyMatrixModel", "token", "(IIIJ)V"⟩, 33) := ⟨⟨by decide +kernel, by decide +kernel⟩, List.mem_of_getElem? (i := 1033) (by decide +kernel), List.mem_of_getElem? (i := 1178) (by decide +kernel), List.mem_of_getElem? (i := 1179) (by decide +kernel)⟩
theorem lw_p36 : lw_okq (⟨"KeyMatrixModel", "sign", "(II)I"⟩, 33) := ⟨⟨by decide +kernel, by decide +kernel⟩, List.mem_of_getElem? (i := 1033) (by decide +kernel), List.mem_of_getElem? (i := 1188) (by decide +kernel), List.mem_of_getElem? (i := 1189) (by decide +kernel)⟩
theorem lw_p37 : lw_okq (⟨"KeyMatrixModel", "must", "(I)V"⟩, 33) := ⟨⟨by decide +kernel, by decide +kernel⟩, List.mem_of_getElem? (i := 1033) (by decide +kernel), List.mem_of_getElem? (i := 1192) (by decide +kernel), List.mem_of_getElem? (i := 1193) (by decide +kernel)⟩
theorem lw_p38 : lw_okq (⟨"KeyMatrixModel", "is", "(I)Z"⟩, 33) := ⟨⟨by decide +kernel, by decide +kernel⟩, List.mem_of_getElem? (i := 1033) (by decide +kernel), List.mem_of_getElem? (i := 1196) (by decide +kernel), List.mem_of_getElem? (i := 1197) (by decide +kernel)⟩
theorem lw_p39 : lw_okq (⟨"KeyMatrixModel", "passes", "()V"⟩, 33) := ⟨⟨by decide +kernel, by decide +kernel⟩, List.mem_of_getElem? (i := 1033) (by decide +kernel), List.mem_of_getElem? (i := 1200) (by decide +kernel), List.mem_of_getElem? (i := 1201) (by decide +kernel)⟩
theorem lw_p40 : lw_okq (⟨"KeyMatrixModel", "fail", "(I)V"⟩, 33) := ⟨⟨by decide +kernel, by decide +kernel⟩, List.mem_of_getElem? (i := 1033) (by decide +kernel), List.mem_of_getElem? (i := 1204) (by decide +kernel), List.mem_of_getElem? (i := 1205) (by decide +kernel)⟩
theorem lw_p41 : lw_okq (⟨"KeyMatrixModel", "tell", "()V"⟩, 33) := ⟨⟨by decide +kernel, by decide +kernel⟩, List.mem_of_getElem? (i := 1033) (by decide +kernel), List.mem_of_getElem? (i := 1208) (by decide +kernel), List.mem_of_getElem? (i := 1209) (by decide +kernel)⟩
theorem lw_p42 : lw_okq (⟨"KeyMatrixModel", "deedRead", "()V"⟩, 33) := ⟨⟨by decide +kernel, by decide +kernel⟩, List.mem_of_getElem? (i := 1033) (by decide +kernel), List.mem_of_getElem? (i := 1212) (by decide +kernel), List.mem_of_getElem? (i := 1213) (by decide +kernel)⟩
theorem lw_p43 : lw_okq (⟨"KeyMatrixModel", "means", "()V"⟩, 33) := ⟨⟨by decide +kernel, by decide +kernel⟩, List.mem_of_getElem? (i := 1033) (by decide +kernel), List.mem_of_getElem? (i := 1216) (by decide +kernel), List.mem_of_getElem? (i := 1217) (by decide +kernel)⟩
theorem lw_p44 : lw_okq (⟨"KeyMatrixModel", "within", "(III)I"⟩, 33) := ⟨⟨by decide +kernel, by decide +kernel⟩, List.mem_of_getElem? (i := 1033) (by decide +kernel), List.mem_of_getElem? (i := 1220) (by decide +kernel), List.mem_of_getElem? (i := 1221) (by decide +kernel)⟩
theorem lw_p45 : lw_okq (⟨"KeyMatrixModel", "wrong", "(II)V"⟩, 33) := ⟨⟨by decide +kernel, by decide +kernel⟩, List.mem_of_getElem? (i := 1033) (by decide +kernel), List.mem_of_getElem? (i := 1227) (by decide +kernel), List.mem_of_getElem? (i := 1228) (by decide +kernel)⟩
theorem lw_p46 : lw_okq (⟨"KeyMatrixModel", "meansLine", "(I)V"⟩, 33) := ⟨⟨by decide +kernel, by decide +kernel⟩, List.mem_of_getElem? (i := 1033) (by decide +kernel), List.mem_of_getElem? (i := 1231) (by decide +kernel), List.mem_of_getElem? (i := 1232) (by decide +kernel)⟩
theorem lw_p47 : lw_okq (⟨"KeyMatrixModel", "meansKey", "(I)V"⟩, 33) := ⟨⟨by decide +kernel, by decide +kernel⟩, List.mem_of_getElem? (i := 1033) (by decide +kernel), List.mem_of_getElem? (i := 1235) (by decide +kernel), List.mem_of_getElem? (i := 1236) (by decide +kernel)⟩
def lw_privs_3 : List (MethodName × Nat) := [(⟨"KeyMatrixModel", "lays", "(I)V"⟩, 33), (⟨"KeyMatrixModel", "cutsText", "()V"⟩, 33), (⟨"KeyMatrixModel", "byteAt", "(I)I"⟩, 33), (⟨"KeyMatrixModel", "token", "(IIIJ)V"⟩, 33), (⟨"KeyMatrixModel", "sign", "(II)I"⟩, 33), (⟨"KeyMatrixModel", "must", "(I)V"⟩, 33), (⟨"KeyMatrixModel", "is", "(I)Z"⟩, 33), (⟨"KeyMatrixModel", "passes", "()V"⟩, 33), (⟨"KeyMatrixModel", "fail", "(I)V"⟩, 33), (⟨"KeyMatrixModel", "tell", "()V"⟩, 33), (⟨"KeyMatrixModel", "deedRead", "()V"⟩, 33), (⟨"KeyMatrixModel", "means", "()V"⟩, 33), (⟨"KeyMatrixModel", "within", "(III)I"⟩, 33), (⟨"KeyMatrixModel", "wrong", "(II)V"⟩, 33), (⟨"KeyMatrixModel", "meansLine", "(I)V"⟩, 33), (⟨"KeyMatrixModel", "meansKey", "(I)V"⟩, 33)]
theorem lw_r3 : ∀ q ∈ lw_privs_3, lw_okq q := List.forall_mem_cons.mpr ⟨lw_p32, List.forall_mem_cons.mpr ⟨lw_p33, List.forall_mem_cons.mpr ⟨lw_p34, List.forall_mem_cons.mpr ⟨lw_p35, List.forall_mem_cons.mpr ⟨lw_p36, List.forall_mem_cons.mpr ⟨lw_p37, List.forall_mem_cons.mpr ⟨lw_p38, List.forall_mem_cons.mpr ⟨lw_p39, List.forall_mem_cons.mpr ⟨lw_p40, List.forall_mem_cons.mpr ⟨lw_p41, List.forall_mem_cons.mpr ⟨lw_p42, List.forall_mem_cons.mpr ⟨lw_p43, List.forall_mem_cons.mpr ⟨lw_p44, List.forall_mem_cons.mpr ⟨lw_p45, List.forall_mem_cons.mpr ⟨lw_p46, List.forall_mem_cons.mpr ⟨lw_p47, fun _ h => absurd h List.not_mem_nil⟩⟩⟩⟩⟩⟩⟩⟩⟩⟩⟩⟩⟩⟩⟩⟩
theorem lw_p48 : lw_okq (⟨"KeyMatrixModel", "keyTold", "(I)I"⟩, 33) := ⟨⟨by decide +kernel, by decide +kernel⟩, List.mem_of_getElem? (i := 1033) (by decide +kernel), List.mem_of_getElem? (i := 1239) (by decide +kernel), List.mem_of_getElem? (i := 1240) (by decide +kernel)⟩
theorem lw_p49 : lw_okq (⟨"KeyMatrixModel", "meansDeed", "(I)V"⟩, 33) := ⟨⟨by decide +kernel, by decide +kernel⟩, List.mem_of_getElem? (i := 1033) (by decide +kernel), List.mem_of_getElem? (i := 1243) (by decide +kernel), List.mem_of_getElem? (i := 1244) (by decide +kernel)⟩
theorem lw_p50 : lw_okq (⟨"KeyMatrixModel", "meansChord", "(I)V"⟩, 33) := ⟨⟨by decide +kernel, by decide +kernel⟩, List.mem_of_getElem? (i := 1033) (by decide +kernel), List.mem_of_getElem? (i := 1247) (by decide +kernel), List.mem_of_getElem? (i := 1248) (by decide +kernel)⟩
theorem lw_p51 : lw_okq (⟨"KeyMatrixModel", "isChorded", "(I)Z"⟩, 33) := ⟨⟨by decide +kernel, by decide +kernel⟩, List.mem_of_getElem? (i := 1033) (by decide +kernel), List.mem_of_getElem? (i := 1251) (by decide +kernel), List.mem_of_getElem? (i := 1252) (by decide +kernel)⟩
theorem lw_p52 : lw_okq (⟨"KeyMatrixModel", "meansMacro", "(I)V"⟩, 33) := ⟨⟨by decide +kernel, by decide +kernel⟩, List.mem_of_getElem? (i := 1033) (by decide +kernel), List.mem_of_getElem? (i := 1255) (by decide +kernel), List.mem_of_getElem? (i := 1256) (by decide +kernel)⟩
theorem lw_p53 : lw_okq (⟨"KeyMatrixModel", "isKey", "(I)Z"⟩, 33) := ⟨⟨by decide +kernel, by decide +kernel⟩, List.mem_of_getElem? (i := 1033) (by decide +kernel), List.mem_of_getElem? (i := 1267) (by decide +kernel), List.mem_of_getElem? (i := 1268) (by decide +kernel)⟩
theorem lw_p54 : lw_okq (⟨"KeyMatrixModel", "keysMany", "()I"⟩, 33) := ⟨⟨by decide +kernel, by decide +kernel⟩, List.mem_of_getElem? (i := 1033) (by decide +kernel), List.mem_of_getElem? (i := 1271) (by decide +kernel), List.mem_of_getElem? (i := 1272) (by decide +kernel)⟩
theorem lw_p55 : lw_okq (⟨"KeyMatrixModel", "seenBy", "(I)I"⟩, 33) := ⟨⟨by decide +kernel, by decide +kernel⟩, List.mem_of_getElem? (i := 1033) (by decide +kernel), List.mem_of_getElem? (i := 1282) (by decide +kernel), List.mem_of_getElem? (i := 1283) (by decide +kernel)⟩
theorem lw_p56 : lw_okq (⟨"KeyMatrixModel", "laysParts", "(I)I"⟩, 33) := ⟨⟨by decide +kernel, by decide +kernel⟩, List.mem_of_getElem? (i := 1033) (by decide +kernel), List.mem_of_getElem? (i := 1286) (by decide +kernel), List.mem_of_getElem? (i := 1287) (by decide +kernel)⟩
theorem lw_p57 : lw_okq (⟨"KeyMatrixModel", "barredBy", "(I)I"⟩, 33) := ⟨⟨by decide +kernel, by decide +kernel⟩, List.mem_of_getElem? (i := 1033) (by decide +kernel), List.mem_of_getElem? (i := 1293) (by decide +kernel), List.mem_of_getElem? (i := 1294) (by decide +kernel)⟩
theorem lw_p58 : lw_okq (⟨"KeyMatrixModel", "isCornered", "(III)Z"⟩, 33) := ⟨⟨by decide +kernel, by decide +kernel⟩, List.mem_of_getElem? (i := 1033) (by decide +kernel), List.mem_of_getElem? (i := 1297) (by decide +kernel), List.mem_of_getElem? (i := 1298) (by decide +kernel)⟩
theorem lw_p59 : lw_okq (⟨"KeyMatrixModel", "layerOf", "(I)I"⟩, 33) := ⟨⟨by decide +kernel, by decide +kernel⟩, List.mem_of_getElem? (i := 1033) (by decide +kernel), List.mem_of_getElem? (i := 1305) (by decide +kernel), List.mem_of_getElem? (i := 1306) (by decide +kernel)⟩
theorem lw_p60 : lw_okq (⟨"KeyMatrixModel", "activeLayers", "()I"⟩, 33) := ⟨⟨by decide +kernel, by decide +kernel⟩, List.mem_of_getElem? (i := 1033) (by decide +kernel), List.mem_of_getElem? (i := 1309) (by decide +kernel), List.mem_of_getElem? (i := 1310) (by decide +kernel)⟩
theorem lw_p61 : lw_okq (⟨"KeyMatrixModel", "ticks", "()V"⟩, 33) := ⟨⟨by decide +kernel, by decide +kernel⟩, List.mem_of_getElem? (i := 1033) (by decide +kernel), List.mem_of_getElem? (i := 1317) (by decide +kernel), List.mem_of_getElem? (i := 1318) (by decide +kernel)⟩
theorem lw_p62 : lw_okq (⟨"KeyMatrixModel", "changes", "(I)V"⟩, 33) := ⟨⟨by decide +kernel, by decide +kernel⟩, List.mem_of_getElem? (i := 1033) (by decide +kernel), List.mem_of_getElem? (i := 1321) (by decide +kernel), List.mem_of_getElem? (i := 1322) (by decide +kernel)⟩
theorem lw_p63 : lw_okq (⟨"KeyMatrixModel", "works", "()Z"⟩, 33) := ⟨⟨by decide +kernel, by decide +kernel⟩, List.mem_of_getElem? (i := 1033) (by decide +kernel), List.mem_of_getElem? (i := 1325) (by decide +kernel), List.mem_of_getElem? (i := 1326) (by decide +kernel)⟩
def lw_privs_4 : List (MethodName × Nat) := [(⟨"KeyMatrixModel", "keyTold", "(I)I"⟩, 33), (⟨"KeyMatrixModel", "meansDeed", "(I)V"⟩, 33), (⟨"KeyMatrixModel", "meansChord", "(I)V"⟩, 33), (⟨"KeyMatrixModel", "isChorded", "(I)Z"⟩, 33), (⟨"KeyMatrixModel", "meansMacro", "(I)V"⟩, 33), (⟨"KeyMatrixModel", "isKey", "(I)Z"⟩, 33), (⟨"KeyMatrixModel", "keysMany", "()I"⟩, 33), (⟨"KeyMatrixModel", "seenBy", "(I)I"⟩, 33), (⟨"KeyMatrixModel", "laysParts", "(I)I"⟩, 33), (⟨"KeyMatrixModel", "barredBy", "(I)I"⟩, 33), (⟨"KeyMatrixModel", "isCornered", "(III)Z"⟩, 33), (⟨"KeyMatrixModel", "layerOf", "(I)I"⟩, 33), (⟨"KeyMatrixModel", "activeLayers", "()I"⟩, 33), (⟨"KeyMatrixModel", "ticks", "()V"⟩, 33), (⟨"KeyMatrixModel", "changes", "(I)V"⟩, 33), (⟨"KeyMatrixModel", "works", "()Z"⟩, 33)]
theorem lw_r4 : ∀ q ∈ lw_privs_4, lw_okq q := List.forall_mem_cons.mpr ⟨lw_p48, List.forall_mem_cons.mpr ⟨lw_p49, List.forall_mem_cons.mpr ⟨lw_p50, List.forall_mem_cons.mpr ⟨lw_p51, List.forall_mem_cons.mpr ⟨lw_p52, List.forall_mem_cons.mpr ⟨lw_p53, List.forall_mem_cons.mpr ⟨lw_p54, List.forall_mem_cons.mpr ⟨lw_p55, List.forall_mem_cons.mpr ⟨lw_p56, List.forall_mem_cons.mpr ⟨lw_p57, List.forall_mem_cons.mpr ⟨lw_p58, List.forall_mem_cons.mpr ⟨lw_p59, List.forall_mem_cons.mpr ⟨lw_p60, List.forall_mem_cons.mpr ⟨lw_p61, List.forall_mem_cons.mpr ⟨lw_p62, List.forall_mem_cons.mpr ⟨lw_p63, fun _ h => absurd h List.not_mem_nil⟩⟩⟩⟩⟩⟩⟩⟩⟩⟩⟩⟩⟩⟩⟩⟩
theorem lw_p64 : lw_okq (⟨"KeyMatrixModel", "keyAt", "(I)I"⟩, 33) := ⟨⟨by decide +kernel, by decide +kernel⟩, List.mem_of_getElem? (i := 1033) (by decide +kernel), List.mem_of_getElem? (i := 1329) (by decide +kernel), List.mem_of_getElem? (i := 1330) (by decide +kernel)⟩
theorem lw_p65 : lw_okq (⟨"KeyMatrixModel", "isDownAt", "(I)Z"⟩, 33) := ⟨⟨by decide +kernel, by decide +kernel⟩, List.mem_of_getElem? (i := 1033) (by decide +kernel), List.mem_of_getElem? (i := 1333) (by decide +kernel), List.mem_of_getElem? (i := 1334) (by decide +kernel)⟩
theorem lw_p66 : lw_okq (⟨"KeyMatrixModel", "drops", "(I)V"⟩, 33) := ⟨⟨by decide +kernel, by decide +kernel⟩, List.mem_of_getElem? (i := 1033) (by decide +kernel), List.mem_of_getElem? (i := 1337) (by decide +kernel), List.mem_of_getElem? (i := 1338) (by decide +kernel)⟩
theorem lw_p67 : lw_okq (⟨"KeyMatrixModel", "ends", "(I)V"⟩, 33) := ⟨⟨by decide +kernel, by decide +kernel⟩, List.mem_of_getElem? (i := 1033) (by decide +kernel), List.mem_of_getElem? (i := 1341) (by decide +kernel), List.mem_of_getElem? (i := 1342) (by decide +kernel)⟩
theorem lw_p68 : lw_okq (⟨"KeyMatrixModel", "chordOf", "(I)I"⟩, 33) := ⟨⟨by decide +kernel, by decide +kernel⟩, List.mem_of_getElem? (i := 1033) (by decide +kernel), List.mem_of_getElem? (i := 1345) (by decide +kernel), List.mem_of_getElem? (i := 1346) (by decide +kernel)⟩
theorem lw_p69 : lw_okq (⟨"KeyMatrixModel", "stops", "(I)V"⟩, 33) := ⟨⟨by decide +kernel, by decide +kernel⟩, List.mem_of_getElem? (i := 1033) (by decide +kernel), List.mem_of_getElem? (i := 1349) (by decide +kernel), List.mem_of_getElem? (i := 1350) (by decide +kernel)⟩
theorem lw_p70 : lw_okq (⟨"KeyMatrixModel", "reports", "()V"⟩, 33) := ⟨⟨by decide +kernel, by decide +kernel⟩, List.mem_of_getElem? (i := 1033) (by decide +kernel), List.mem_of_getElem? (i := 1353) (by decide +kernel), List.mem_of_getElem? (i := 1354) (by decide +kernel)⟩
theorem lw_p71 : lw_okq (⟨"KeyMatrixModel", "laysSent", "()V"⟩, 33) := ⟨⟨by decide +kernel, by decide +kernel⟩, List.mem_of_getElem? (i := 1033) (by decide +kernel), List.mem_of_getElem? (i := 1357) (by decide +kernel), List.mem_of_getElem? (i := 1358) (by decide +kernel)⟩
theorem lw_p72 : lw_okq (⟨"KeyMatrixModel", "nextBegun", "(I)I"⟩, 33) := ⟨⟨by decide +kernel, by decide +kernel⟩, List.mem_of_getElem? (i := 1033) (by decide +kernel), List.mem_of_getElem? (i := 1361) (by decide +kernel), List.mem_of_getElem? (i := 1362) (by decide +kernel)⟩
theorem lw_p73 : lw_okq (⟨"KeyMatrixModel", "adds", "(I)V"⟩, 33) := ⟨⟨by decide +kernel, by decide +kernel⟩, List.mem_of_getElem? (i := 1033) (by decide +kernel), List.mem_of_getElem? (i := 1365) (by decide +kernel), List.mem_of_getElem? (i := 1366) (by decide +kernel)⟩
theorem lw_p74 : lw_okq (⟨"KeyMatrixModel", "isLatest", "(I)Z"⟩, 33) := ⟨⟨by decide +kernel, by decide +kernel⟩, List.mem_of_getElem? (i := 1033) (by decide +kernel), List.mem_of_getElem? (i := 1369) (by decide +kernel), List.mem_of_getElem? (i := 1370) (by decide +kernel)⟩
theorem lw_p75 : lw_okq (⟨"KeyMatrixModel", "reportAt", "(I)I"⟩, 33) := ⟨⟨by decide +kernel, by decide +kernel⟩, List.mem_of_getElem? (i := 1033) (by decide +kernel), List.mem_of_getElem? (i := 1373) (by decide +kernel), List.mem_of_getElem? (i := 1374) (by decide +kernel)⟩
theorem lw_p76 : lw_okq (⟨"KeyMatrixModel", "hears", "(I)V"⟩, 33) := ⟨⟨by decide +kernel, by decide +kernel⟩, List.mem_of_getElem? (i := 1033) (by decide +kernel), List.mem_of_getElem? (i := 1377) (by decide +kernel), List.mem_of_getElem? (i := 1378) (by decide +kernel)⟩
theorem lw_p77 : lw_okq (⟨"KeyMatrixModel", "reportHas", "(II)Z"⟩, 33) := ⟨⟨by decide +kernel, by decide +kernel⟩, List.mem_of_getElem? (i := 1033) (by decide +kernel), List.mem_of_getElem? (i := 1381) (by decide +kernel), List.mem_of_getElem? (i := 1382) (by decide +kernel)⟩
theorem lw_p78 : lw_okq (⟨"KeyMatrixModel", "timeAt", "(I)I"⟩, 33) := ⟨⟨by decide +kernel, by decide +kernel⟩, List.mem_of_getElem? (i := 1033) (by decide +kernel), List.mem_of_getElem? (i := 1385) (by decide +kernel), List.mem_of_getElem? (i := 1386) (by decide +kernel)⟩
theorem lw_p79 : lw_okq (⟨"KeyMatrixModel", "chords", "(III)V"⟩, 33) := ⟨⟨by decide +kernel, by decide +kernel⟩, List.mem_of_getElem? (i := 1033) (by decide +kernel), List.mem_of_getElem? (i := 1389) (by decide +kernel), List.mem_of_getElem? (i := 1390) (by decide +kernel)⟩
def lw_privs_5 : List (MethodName × Nat) := [(⟨"KeyMatrixModel", "keyAt", "(I)I"⟩, 33), (⟨"KeyMatrixModel", "isDownAt", "(I)Z"⟩, 33), (⟨"KeyMatrixModel", "drops", "(I)V"⟩, 33), (⟨"KeyMatrixModel", "ends", "(I)V"⟩, 33), (⟨"KeyMatrixModel", "chordOf", "(I)I"⟩, 33), (⟨"KeyMatrixModel", "stops", "(I)V"⟩, 33), (⟨"KeyMatrixModel", "reports", "()V"⟩, 33), (⟨"KeyMatrixModel", "laysSent", "()V"⟩, 33), (⟨"KeyMatrixModel", "nextBegun", "(I)I"⟩, 33), (⟨"KeyMatrixModel", "adds", "(I)V"⟩, 33), (⟨"KeyMatrixModel", "isLatest", "(I)Z"⟩, 33), (⟨"KeyMatrixModel", "reportAt", "(I)I"⟩, 33), (⟨"KeyMatrixModel", "hears", "(I)V"⟩, 33), (⟨"KeyMatrixModel", "reportHas", "(II)Z"⟩, 33), (⟨"KeyMatrixModel", "timeAt", "(I)I"⟩, 33), (⟨"KeyMatrixModel", "chords", "(III)V"⟩, 33)]
theorem lw_r5 : ∀ q ∈ lw_privs_5, lw_okq q := List.forall_mem_cons.mpr ⟨lw_p64, List.forall_mem_cons.mpr ⟨lw_p65, List.forall_mem_cons.mpr ⟨lw_p66, List.forall_mem_cons.mpr ⟨lw_p67, List.forall_mem_cons.mpr ⟨lw_p68, List.forall_mem_cons.mpr ⟨lw_p69, List.forall_mem_cons.mpr ⟨lw_p70, List.forall_mem_cons.mpr ⟨lw_p71, List.forall_mem_cons.mpr ⟨lw_p72, List.forall_mem_cons.mpr ⟨lw_p73, List.forall_mem_cons.mpr ⟨lw_p74, List.forall_mem_cons.mpr ⟨lw_p75, List.forall_mem_cons.mpr ⟨lw_p76, List.forall_mem_cons.mpr ⟨lw_p77, List.forall_mem_cons.mpr ⟨lw_p78, List.forall_mem_cons.mpr ⟨lw_p79, fun _ h => absurd h List.not_mem_nil⟩⟩⟩⟩⟩⟩⟩⟩⟩⟩⟩⟩⟩⟩⟩⟩
theorem lw_p80 : lw_okq (⟨"KeyMatrixModel", "plays", "(I)V"⟩, 33) := ⟨⟨by decide +kernel, by decide +kernel⟩, List.mem_of_getElem? (i := 1033) (by decide +kernel), List.mem_of_getElem? (i := 1393) (by decide +kernel), List.mem_of_getElem? (i := 1394) (by decide +kernel)⟩
theorem lw_p81 : lw_okq (⟨"KeyMatrixModel", "begin", "(III)V"⟩, 33) := ⟨⟨by decide +kernel, by decide +kernel⟩, List.mem_of_getElem? (i := 1033) (by decide +kernel), List.mem_of_getElem? (i := 1397) (by decide +kernel), List.mem_of_getElem? (i := 1398) (by decide +kernel)⟩
theorem lw_p82 : lw_okq (⟨"KeyMatrixModel", "worksAlone", "(II)Z"⟩, 33) := ⟨⟨by decide +kernel, by decide +kernel⟩, List.mem_of_getElem? (i := 1033) (by decide +kernel), List.mem_of_getElem? (i := 1401) (by decide +kernel), List.mem_of_getElem? (i := 1402) (by decide +kernel)⟩
theorem lw_p83 : lw_okq (⟨"KeyMatrixModel", "heldOrTapped", "(II)I"⟩, 33) := ⟨⟨by decide +kernel, by decide +kernel⟩, List.mem_of_getElem? (i := 1033) (by decide +kernel), List.mem_of_getElem? (i := 1405) (by decide +kernel), List.mem_of_getElem? (i := 1406) (by decide +kernel)⟩
theorem lw_p84 : lw_okq (⟨"KeyMatrixModel", "onceOrTwice", "(II)I"⟩, 33) := ⟨⟨by decide +kernel, by decide +kernel⟩, List.mem_of_getElem? (i := 1033) (by decide +kernel), List.mem_of_getElem? (i := 1409) (by decide +kernel), List.mem_of_getElem? (i := 1410) (by decide +kernel)⟩
theorem lw_p85 : lw_okq (⟨"KeyMatrixModel", "dropsTwo", "(I)V"⟩, 33) := ⟨⟨by decide +kernel, by decide +kernel⟩, List.mem_of_getElem? (i := 1033) (by decide +kernel), List.mem_of_getElem? (i := 1413) (by decide +kernel), List.mem_of_getElem? (i := 1414) (by decide +kernel)⟩
theorem lw_p86 : lw_okq (⟨"KeyMatrixModel", "doesPlainly", "(III)V"⟩, 33) := ⟨⟨by decide +kernel, by decide +kernel⟩, List.mem_of_getElem? (i := 1033) (by decide +kernel), List.mem_of_getElem? (i := 1417) (by decide +kernel), List.mem_of_getElem? (i := 1418) (by decide +kernel)⟩
theorem lw_p87 : lw_okq (⟨"KeyMatrixModel", "repeats", "()V"⟩, 33) := ⟨⟨by decide +kernel, by decide +kernel⟩, List.mem_of_getElem? (i := 1033) (by decide +kernel), List.mem_of_getElem? (i := 1423) (by decide +kernel), List.mem_of_getElem? (i := 1424) (by decide +kernel)⟩
theorem lw_p88 : lw_okq (⟨"KeyMatrixModel", "reportsKept", "()I"⟩, 33) := ⟨⟨by decide +kernel, by decide +kernel⟩, List.mem_of_getElem? (i := 1033) (by decide +kernel), List.mem_of_getElem? (i := 1448) (by decide +kernel), List.mem_of_getElem? (i := 1449) (by decide +kernel)⟩
def lw_privs_6 : List (MethodName × Nat) := [(⟨"KeyMatrixModel", "plays", "(I)V"⟩, 33), (⟨"KeyMatrixModel", "begin", "(III)V"⟩, 33), (⟨"KeyMatrixModel", "worksAlone", "(II)Z"⟩, 33), (⟨"KeyMatrixModel", "heldOrTapped", "(II)I"⟩, 33), (⟨"KeyMatrixModel", "onceOrTwice", "(II)I"⟩, 33), (⟨"KeyMatrixModel", "dropsTwo", "(I)V"⟩, 33), (⟨"KeyMatrixModel", "doesPlainly", "(III)V"⟩, 33), (⟨"KeyMatrixModel", "repeats", "()V"⟩, 33), (⟨"KeyMatrixModel", "reportsKept", "()I"⟩, 33)]
theorem lw_r6 : ∀ q ∈ lw_privs_6, lw_okq q := List.forall_mem_cons.mpr ⟨lw_p80, List.forall_mem_cons.mpr ⟨lw_p81, List.forall_mem_cons.mpr ⟨lw_p82, List.forall_mem_cons.mpr ⟨lw_p83, List.forall_mem_cons.mpr ⟨lw_p84, List.forall_mem_cons.mpr ⟨lw_p85, List.forall_mem_cons.mpr ⟨lw_p86, List.forall_mem_cons.mpr ⟨lw_p87, List.forall_mem_cons.mpr ⟨lw_p88, fun _ h => absurd h List.not_mem_nil⟩⟩⟩⟩⟩⟩⟩⟩⟩
def lw_privs : List (MethodName × Nat) := lw_privs_1 ++ (lw_privs_2 ++ (lw_privs_3 ++ (lw_privs_4 ++ (lw_privs_5 ++ (lw_privs_6)))))
def lw_tbl : List Cond := k2_sels lw_privs ++ tables_1
theorem lw_privs_ok : ∀ q ∈ lw_privs, lw_okq q := by
  show ∀ q ∈ lw_privs_1 ++ (lw_privs_2 ++ (lw_privs_3 ++ (lw_privs_4 ++ (lw_privs_5 ++ (lw_privs_6))))), lw_okq q
  exact List.forall_mem_append.mpr ⟨lw_r1, List.forall_mem_append.mpr ⟨lw_r2, List.forall_mem_append.mpr ⟨lw_r3, List.forall_mem_append.mpr ⟨lw_r4, List.forall_mem_append.mpr ⟨lw_r5, lw_r6⟩⟩⟩⟩⟩
/-- the streams that the claim lets the run draw from -/
abbrev lw_cs : List Choice := [Jvm.Choice.named "NaN.bits"]
theorem lw_bits : nanBits ∈ lw_cs := by first | decide | exact List.mem_cons_self | simp [lw_cs, nanBits]
-- ===== end of PART A; then your names; then what follows =====
/-! ===== BEGIN words of one list among another's, by their places ===== -/
theorem goodIn_r {big : List Cond} (ws : List Cond) (ps : List Nat) (hp : ws = ps.filterMap (fun i => big[i]?)) (h : ws.all goodWord = true) : GoodIn big ws := by
  intro w hw
  have h1 := List.all_eq_true.mp h w hw
  rw [hp] at hw
  obtain ⟨i, -, hi⟩ := List.mem_filterMap.mp hw
  have hm : w ∈ big := by first | exact List.mem_of_getElem? hi | exact List.getElem?_mem hi
  exact ⟨hm, good_of_word h1⟩
theorem goodIn_app {big a b : List Cond} (ha : GoodIn big a) (hb : GoodIn big b) : GoodIn big (a ++ b) := fun w h => (List.mem_append.mp h).elim (ha w) (hb w)
theorem goodIn_ca {big a b : List Cond} {c : Cond} (ha : GoodIn big (c :: a)) (hb : GoodIn big b) : GoodIn big (c :: (a ++ b)) := fun w h => (List.mem_cons.mp h).elim (fun e => ha w (List.mem_cons.mpr (Or.inl e))) (fun h => (List.mem_append.mp h).elim (fun h => ha w (List.mem_cons.mpr (Or.inr h))) (hb w))
theorem goodIn_sub {big ws : List Cond} (hm : ∀ w ∈ ws, w ∈ big) (h : ws.all goodWord = true) : GoodIn big ws := fun w hw => ⟨hm w hw, good_of_word (List.all_eq_true.mp h w hw)⟩
/-! ===== END ===== -/

/-! ===== BEGIN printed: names, fields, word lists, decode rows ===== -/
def RX0 : String := "KeyMatrix$Board"
def TX0 : u_T := fun k => match k with
  | 0 => ("KeyMatrix$Board", "rows", "I", false)
  | 1 => ("KeyMatrix$Board", "columns", "I", false)
  | 2 => ("KeyMatrix$Board", "diodes", "Z", false)
  | 3 => ("KeyMatrix$Board", "six", "Z", false)
  | 4 => ("KeyMatrix$Board", "bounce", "I", false)
  | 5 => ("KeyMatrix$Board", "term", "I", false)
  | 6 => ("KeyMatrix$Board", "chording", "I", false)
  | 7 => ("KeyMatrix$Board", "twice", "I", false)
  | 8 => ("KeyMatrix$Board", "delay", "I", false)
  | 9 => ("KeyMatrix$Board", "rate", "I", false)
  | 10 => ("KeyMatrix$Board", "deeds", "[LKeyMatrix$Deed;", true)
  | 11 => ("KeyMatrix$Board", "nothing", "LKeyMatrix$Deed;", true)
  | 12 => ("KeyMatrix$Board", "chordCount", "I", false)
  | 13 => ("KeyMatrix$Board", "chordFirst", "[I", true)
  | 14 => ("KeyMatrix$Board", "chordOther", "[I", true)
  | 15 => ("KeyMatrix$Board", "chordDeeds", "[LKeyMatrix$Deed;", true)
  | 16 => ("KeyMatrix$Board", "macroCount", "I", false)
  | 17 => ("KeyMatrix$Board", "macroLengths", "[I", true)
  | _ => ("KeyMatrix$Board", "macroCodes", "[I", true)
def tyX0 : Nat → FieldType := fun k => match k with
  | 0 => .int
  | 1 => .int
  | 2 => .boolean
  | 3 => .boolean
  | 4 => .int
  | 5 => .int
  | 6 => .int
  | 7 => .int
  | 8 => .int
  | 9 => .int
  | 10 => .array (.object "KeyMatrix$Deed")
  | 11 => .object "KeyMatrix$Deed"
  | 12 => .int
  | 13 => .array .int
  | 14 => .array .int
  | 15 => .array (.object "KeyMatrix$Deed")
  | 16 => .int
  | 17 => .array .int
  | _ => .array .int
abbrev wsX00 : List Cond := u_ws RX0 TX0 19
theorem nmX0 : ∀ a, a < 19 → ∀ b, b < 19 → a ≠ b → (TX0 a).2.1 ≠ (TX0 b).2.1 := by decide +kernel
theorem tyX0_ok : ∀ k, k < 19 → parseFieldDescriptor (TX0 k).2.2.1 = some (tyX0 k) := by decide +kernel
abbrev cX0_init : ByteArray := prog_2_method_1_code
def yX0_init : MethodName := ⟨RX0, "<init>", "()V"⟩
abbrev cX0_clear : ByteArray := prog_2_method_2_code
def yX0_clear : MethodName := ⟨RX0, "clear", "()V"⟩
abbrev cX0_copyFrom : ByteArray := prog_2_method_3_code
def yX0_copyFrom : MethodName := ⟨RX0, "copyFrom", "(LKeyMatrix$Board;)V"⟩
abbrev cX0_keys : ByteArray := prog_2_method_4_code
def yX0_keys : MethodName := ⟨RX0, "keys", "()I"⟩
abbrev cX0_hasKey : ByteArray := prog_2_method_5_code
def yX0_hasKey : MethodName := ⟨RX0, "hasKey", "(I)Z"⟩
abbrev cX0_toldDeed : ByteArray := prog_2_method_6_code
def yX0_toldDeed : MethodName := ⟨RX0, "toldDeed", "(II)LKeyMatrix$Deed;"⟩
abbrev cX0_deedIn : ByteArray := prog_2_method_7_code
def yX0_deedIn : MethodName := ⟨RX0, "deedIn", "(II)LKeyMatrix$Deed;"⟩
abbrev cX0_addChord : ByteArray := prog_2_method_8_code
def yX0_addChord : MethodName := ⟨RX0, "addChord", "(IILKeyMatrix$Deed;)V"⟩
abbrev cX0_chordOf : ByteArray := prog_2_method_9_code
def yX0_chordOf : MethodName := ⟨RX0, "chordOf", "(I)I"⟩
abbrev cX0_chordDeed : ByteArray := prog_2_method_10_code
def yX0_chordDeed : MethodName := ⟨RX0, "chordDeed", "(I)LKeyMatrix$Deed;"⟩
abbrev cX0_addMacro : ByteArray := prog_2_method_11_code
def yX0_addMacro : MethodName := ⟨RX0, "addMacro", "(I)V"⟩
abbrev cX0_addMacroCode : ByteArray := prog_2_method_12_code
def yX0_addMacroCode : MethodName := ⟨RX0, "addMacroCode", "(I)V"⟩
abbrev cX0_macroCode : ByteArray := prog_2_method_13_code
def yX0_macroCode : MethodName := ⟨RX0, "macroCode", "(II)I"⟩
def RX1 : String := "KeyMatrix$Course"
def TX1 : u_T := fun k => match k with
  | 0 => ("KeyMatrix$Course", "board", "LKeyMatrix$Board;", true)
  | 1 => ("KeyMatrix$Course", "scan", "LKeyMatrix$Scan;", true)
  | 2 => ("KeyMatrix$Course", "queue", "LKeyMatrix$Queue;", true)
  | 3 => ("KeyMatrix$Course", "doing", "LKeyMatrix$Doing;", true)
  | 4 => ("KeyMatrix$Course", "reports", "LKeyMatrix$Reports;", true)
  | _ => ("KeyMatrix$Course", "now", "I", false)
def tyX1 : Nat → FieldType := fun k => match k with
  | 0 => .object "KeyMatrix$Board"
  | 1 => .object "KeyMatrix$Scan"
  | 2 => .object "KeyMatrix$Queue"
  | 3 => .object "KeyMatrix$Doing"
  | 4 => .object "KeyMatrix$Reports"
  | _ => .int
abbrev wsX10 : List Cond := u_ws RX1 TX1 6
theorem nmX1 : ∀ a, a < 6 → ∀ b, b < 6 → a ≠ b → (TX1 a).2.1 ≠ (TX1 b).2.1 := by decide +kernel
theorem tyX1_ok : ∀ k, k < 6 → parseFieldDescriptor (TX1 k).2.2.1 = some (tyX1 k) := by decide +kernel
abbrev cX1_init : ByteArray := prog_3_method_1_code
def yX1_init : MethodName := ⟨RX1, "<init>", "(LKeyMatrix$Board;)V"⟩
abbrev cX1_clear : ByteArray := prog_3_method_2_code
def yX1_clear : MethodName := ⟨RX1, "clear", "()V"⟩
abbrev cX1_copyFrom : ByteArray := prog_3_method_3_code
def yX1_copyFrom : MethodName := ⟨RX1, "copyFrom", "(LKeyMatrix$Course;)V"⟩
abbrev cX1_activeLayers : ByteArray := prog_3_method_4_code
def yX1_activeLayers : MethodName := ⟨RX1, "activeLayers", "()I"⟩
abbrev cX1_passTick : ByteArray := prog_3_method_5_code
def yX1_passTick : MethodName := ⟨RX1, "passTick", "()V"⟩
abbrev cX1_fateOfFirst : ByteArray := prog_3_method_6_code
def yX1_fateOfFirst : MethodName := ⟨RX1, "fateOfFirst", "()I"⟩
abbrev cX1_fateOfHold : ByteArray := prog_3_method_7_code
def yX1_fateOfHold : MethodName := ⟨RX1, "fateOfHold", "(II)I"⟩
abbrev cX1_fateOfDouble : ByteArray := prog_3_method_8_code
def yX1_fateOfDouble : MethodName := ⟨RX1, "fateOfDouble", "(II)I"⟩
abbrev cX1_workOff : ByteArray := prog_3_method_9_code
def yX1_workOff : MethodName := ⟨RX1, "workOff", "(I)V"⟩
abbrev cX1_perform : ByteArray := prog_3_method_10_code
def yX1_perform : MethodName := ⟨RX1, "perform", "(IIII)V"⟩
abbrev cX1_send : ByteArray := prog_3_method_11_code
def yX1_send : MethodName := ⟨RX1, "send", "(I)V"⟩
def RX2 : String := "KeyMatrix$Deed"
def TX2 : u_T := fun k => match k with
  | 0 => ("KeyMatrix$Deed", "kind", "I", false)
  | 1 => ("KeyMatrix$Deed", "first", "I", false)
  | _ => ("KeyMatrix$Deed", "second", "I", false)
def tyX2 : Nat → FieldType := fun k => match k with
  | 0 => .int
  | 1 => .int
  | _ => .int
abbrev wsX20 : List Cond := u_ws RX2 TX2 3
theorem nmX2 : ∀ a, a < 3 → ∀ b, b < 3 → a ≠ b → (TX2 a).2.1 ≠ (TX2 b).2.1 := by decide +kernel
theorem tyX2_ok : ∀ k, k < 3 → parseFieldDescriptor (TX2 k).2.2.1 = some (tyX2 k) := by decide +kernel
abbrev cX2_init : ByteArray := prog_4_method_1_code
def yX2_init : MethodName := ⟨RX2, "<init>", "()V"⟩
abbrev cX2_tell : ByteArray := prog_4_method_2_code
def yX2_tell : MethodName := ⟨RX2, "tell", "(III)V"⟩
abbrev cX2_copyFrom : ByteArray := prog_4_method_3_code
def yX2_copyFrom : MethodName := ⟨RX2, "copyFrom", "(LKeyMatrix$Deed;)V"⟩
def RX3 : String := "KeyMatrix$Doing"
def TX3 : u_T := fun k => match k with
  | 0 => ("KeyMatrix$Doing", "kind", "[I", true)
  | 1 => ("KeyMatrix$Doing", "which", "[I", true)
  | 2 => ("KeyMatrix$Doing", "partner", "[I", true)
  | 3 => ("KeyMatrix$Doing", "order", "[I", true)
  | 4 => ("KeyMatrix$Doing", "busy", "I", false)
  | 5 => ("KeyMatrix$Doing", "toggled", "I", false)
  | 6 => ("KeyMatrix$Doing", "mods", "I", false)
  | 7 => ("KeyMatrix$Doing", "codes", "[I", true)
  | _ => ("KeyMatrix$Doing", "codeCount", "I", false)
def tyX3 : Nat → FieldType := fun k => match k with
  | 0 => .array .int
  | 1 => .array .int
  | 2 => .array .int
  | 3 => .array .int
  | 4 => .int
  | 5 => .int
  | 6 => .int
  | 7 => .array .int
  | _ => .int
abbrev wsX30 : List Cond := u_ws RX3 TX3 9
theorem nmX3 : ∀ a, a < 9 → ∀ b, b < 9 → a ≠ b → (TX3 a).2.1 ≠ (TX3 b).2.1 := by decide +kernel
theorem tyX3_ok : ∀ k, k < 9 → parseFieldDescriptor (TX3 k).2.2.1 = some (tyX3 k) := by decide +kernel
abbrev cX3_init : ByteArray := prog_5_method_1_code
def yX3_init : MethodName := ⟨RX3, "<init>", "()V"⟩
abbrev cX3_clear : ByteArray := prog_5_method_2_code
def yX3_clear : MethodName := ⟨RX3, "clear", "()V"⟩
abbrev cX3_copyFrom : ByteArray := prog_5_method_3_code
def yX3_copyFrom : MethodName := ⟨RX3, "copyFrom", "(LKeyMatrix$Doing;)V"⟩
abbrev cX3_begin : ByteArray := prog_5_method_4_code
def yX3_begin : MethodName := ⟨RX3, "begin", "(IIII)V"⟩
abbrev cX3_end : ByteArray := prog_5_method_5_code
def yX3_end : MethodName := ⟨RX3, "end", "(I)V"⟩
abbrev cX3_drop : ByteArray := prog_5_method_6_code
def yX3_drop : MethodName := ⟨RX3, "drop", "(I)V"⟩
abbrev cX3_gather : ByteArray := prog_5_method_7_code
def yX3_gather : MethodName := ⟨RX3, "gather", "(I)V"⟩
abbrev cX3_addCode : ByteArray := prog_5_method_8_code
def yX3_addCode : MethodName := ⟨RX3, "addCode", "(I)V"⟩
abbrev cX3_sends : ByteArray := prog_5_method_9_code
def yX3_sends : MethodName := ⟨RX3, "sends", "(I)Z"⟩
def RX4 : String := "KeyMatrix$Queue"
def TX4 : u_T := fun k => match k with
  | 0 => ("KeyMatrix$Queue", "events", "[I", true)
  | 1 => ("KeyMatrix$Queue", "size", "I", false)
  | _ => ("KeyMatrix$Queue", "total", "I", false)
def tyX4 : Nat → FieldType := fun k => match k with
  | 0 => .array .int
  | 1 => .int
  | _ => .int
abbrev wsX40 : List Cond := u_ws RX4 TX4 3
theorem nmX4 : ∀ a, a < 3 → ∀ b, b < 3 → a ≠ b → (TX4 a).2.1 ≠ (TX4 b).2.1 := by decide +kernel
theorem tyX4_ok : ∀ k, k < 3 → parseFieldDescriptor (TX4 k).2.2.1 = some (tyX4 k) := by decide +kernel
abbrev cX4_init : ByteArray := prog_6_method_1_code
def yX4_init : MethodName := ⟨RX4, "<init>", "()V"⟩
abbrev cX4_clear : ByteArray := prog_6_method_2_code
def yX4_clear : MethodName := ⟨RX4, "clear", "()V"⟩
abbrev cX4_copyFrom : ByteArray := prog_6_method_3_code
def yX4_copyFrom : MethodName := ⟨RX4, "copyFrom", "(LKeyMatrix$Queue;)V"⟩
abbrev cX4_add : ByteArray := prog_6_method_4_code
def yX4_add : MethodName := ⟨RX4, "add", "(IZI)V"⟩
abbrev cX4_drop : ByteArray := prog_6_method_5_code
def yX4_drop : MethodName := ⟨RX4, "drop", "(I)V"⟩
abbrev cX4_dropNext : ByteArray := prog_6_method_6_code
def yX4_dropNext : MethodName := ⟨RX4, "dropNext", "(IZ)V"⟩
abbrev cX4_keyAt : ByteArray := prog_6_method_7_code
def yX4_keyAt : MethodName := ⟨RX4, "keyAt", "(I)I"⟩
abbrev cX4_isDownAt : ByteArray := prog_6_method_8_code
def yX4_isDownAt : MethodName := ⟨RX4, "isDownAt", "(I)Z"⟩
abbrev cX4_tickAt : ByteArray := prog_6_method_9_code
def yX4_tickAt : MethodName := ⟨RX4, "tickAt", "(I)I"⟩
def RX5 : String := "KeyMatrix$Reports"
def TX5 : u_T := fun k => match k with
  | 0 => ("KeyMatrix$Reports", "ticks", "[I", true)
  | 1 => ("KeyMatrix$Reports", "mods", "[I", true)
  | 2 => ("KeyMatrix$Reports", "counts", "[I", true)
  | 3 => ("KeyMatrix$Reports", "codes", "[I", true)
  | 4 => ("KeyMatrix$Reports", "total", "I", false)
  | 5 => ("KeyMatrix$Reports", "latest", "I", false)
  | 6 => ("KeyMatrix$Reports", "since", "I", false)
  | 7 => ("KeyMatrix$Reports", "repeats", "I", false)
  | _ => ("KeyMatrix$Reports", "repeatsOfLatest", "I", false)
def tyX5 : Nat → FieldType := fun k => match k with
  | 0 => .array .int
  | 1 => .array .int
  | 2 => .array .int
  | 3 => .array .int
  | 4 => .int
  | 5 => .int
  | 6 => .int
  | 7 => .int
  | _ => .int
abbrev wsX50 : List Cond := u_ws RX5 TX5 9
theorem nmX5 : ∀ a, a < 9 → ∀ b, b < 9 → a ≠ b → (TX5 a).2.1 ≠ (TX5 b).2.1 := by decide +kernel
theorem tyX5_ok : ∀ k, k < 9 → parseFieldDescriptor (TX5 k).2.2.1 = some (tyX5 k) := by decide +kernel
abbrev cX5_init : ByteArray := prog_7_method_1_code
def yX5_init : MethodName := ⟨RX5, "<init>", "()V"⟩
abbrev cX5_clear : ByteArray := prog_7_method_2_code
def yX5_clear : MethodName := ⟨RX5, "clear", "()V"⟩
abbrev cX5_copyFrom : ByteArray := prog_7_method_3_code
def yX5_copyFrom : MethodName := ⟨RX5, "copyFrom", "(LKeyMatrix$Reports;)V"⟩
abbrev cX5_rowOf : ByteArray := prog_7_method_4_code
def yX5_rowOf : MethodName := ⟨RX5, "rowOf", "(I)I"⟩
abbrev cX5_codeAt : ByteArray := prog_7_method_5_code
def yX5_codeAt : MethodName := ⟨RX5, "codeAt", "(II)I"⟩
abbrev cX5_reportIfUnlike : ByteArray := prog_7_method_6_code
def yX5_reportIfUnlike : MethodName := ⟨RX5, "reportIfUnlike", "(LKeyMatrix$Doing;ZI)V"⟩
abbrev cX5_isAlike : ByteArray := prog_7_method_7_code
def yX5_isAlike : MethodName := ⟨RX5, "isAlike", "(ILKeyMatrix$Doing;Z)Z"⟩
abbrev cX5_renewLatest : ByteArray := prog_7_method_8_code
def yX5_renewLatest : MethodName := ⟨RX5, "renewLatest", "(ILKeyMatrix$Doing;ZI)V"⟩
abbrev cX5_makeLatest : ByteArray := prog_7_method_9_code
def yX5_makeLatest : MethodName := ⟨RX5, "makeLatest", "(II)V"⟩
abbrev cX5_hasCode : ByteArray := prog_7_method_10_code
def yX5_hasCode : MethodName := ⟨RX5, "hasCode", "(II)Z"⟩
abbrev cX5_repeatLatest : ByteArray := prog_7_method_11_code
def yX5_repeatLatest : MethodName := ⟨RX5, "repeatLatest", "(III)V"⟩
def RX6 : String := "KeyMatrix$Scan"
def TX6 : u_T := fun k => match k with
  | 0 => ("KeyMatrix$Scan", "closed", "I", false)
  | 1 => ("KeyMatrix$Scan", "seen", "I", false)
  | 2 => ("KeyMatrix$Scan", "barred", "I", false)
  | 3 => ("KeyMatrix$Scan", "down", "I", false)
  | 4 => ("KeyMatrix$Scan", "unlike", "[I", true)
  | 5 => ("KeyMatrix$Scan", "steady", "[F", true)
  | 6 => ("KeyMatrix$Scan", "strokes", "[I", true)
  | 7 => ("KeyMatrix$Scan", "longest", "[I", true)
  | _ => ("KeyMatrix$Scan", "lastEvent", "[I", true)
def tyX6 : Nat → FieldType := fun k => match k with
  | 0 => .int
  | 1 => .int
  | 2 => .int
  | 3 => .int
  | 4 => .array .int
  | 5 => .array .float
  | 6 => .array .int
  | 7 => .array .int
  | _ => .array .int
abbrev wsX60 : List Cond := u_ws RX6 TX6 9
theorem nmX6 : ∀ a, a < 9 → ∀ b, b < 9 → a ≠ b → (TX6 a).2.1 ≠ (TX6 b).2.1 := by decide +kernel
theorem tyX6_ok : ∀ k, k < 9 → parseFieldDescriptor (TX6 k).2.2.1 = some (tyX6 k) := by decide +kernel
abbrev cX6_init : ByteArray := prog_8_method_1_code
def yX6_init : MethodName := ⟨RX6, "<init>", "()V"⟩
abbrev cX6_clear : ByteArray := prog_8_method_2_code
def yX6_clear : MethodName := ⟨RX6, "clear", "()V"⟩
abbrev cX6_copyFrom : ByteArray := prog_8_method_3_code
def yX6_copyFrom : MethodName := ⟨RX6, "copyFrom", "(LKeyMatrix$Scan;)V"⟩
abbrev cX6_weighSteady : ByteArray := prog_8_method_4_code
def yX6_weighSteady : MethodName := ⟨RX6, "weighSteady", "(I)V"⟩
abbrev cX6_changes : ByteArray := prog_8_method_5_code
def yX6_changes : MethodName := ⟨RX6, "changes", "(II)Z"⟩
abbrev cX6_change : ByteArray := prog_8_method_6_code
def yX6_change : MethodName := ⟨RX6, "change", "(II)V"⟩
def RX7 : String := "KeyMatrix$TextReader"
def TX7 : u_T := fun k => match k with
  | 0 => ("KeyMatrix$TextReader", "tokens", "LKeyMatrix$Tokens;", true)
  | 1 => ("KeyMatrix$TextReader", "told", "LKeyMatrix$Deed;", true)
  | 2 => ("KeyMatrix$TextReader", "draft", "LKeyMatrix$Board;", true)
  | 3 => ("KeyMatrix$TextReader", "at", "I", false)
  | 4 => ("KeyMatrix$TextReader", "number", "I", false)
  | 5 => ("KeyMatrix$TextReader", "fault", "I", false)
  | 6 => ("KeyMatrix$TextReader", "faultToken", "I", false)
  | 7 => ("KeyMatrix$TextReader", "faultPlace", "I", false)
  | 8 => ("KeyMatrix$TextReader", "laterFault", "I", false)
  | _ => ("KeyMatrix$TextReader", "laterToken", "I", false)
def tyX7 : Nat → FieldType := fun k => match k with
  | 0 => .object "KeyMatrix$Tokens"
  | 1 => .object "KeyMatrix$Deed"
  | 2 => .object "KeyMatrix$Board"
  | 3 => .int
  | 4 => .int
  | 5 => .int
  | 6 => .int
  | 7 => .int
  | 8 => .int
  | _ => .int
abbrev wsX70 : List Cond := u_ws RX7 TX7 10
theorem nmX7 : ∀ a, a < 10 → ∀ b, b < 10 → a ≠ b → (TX7 a).2.1 ≠ (TX7 b).2.1 := by decide +kernel
theorem tyX7_ok : ∀ k, k < 10 → parseFieldDescriptor (TX7 k).2.2.1 = some (tyX7 k) := by decide +kernel
abbrev cX7_init : ByteArray := prog_9_method_1_code
def yX7_init : MethodName := ⟨RX7, "<init>", "()V"⟩
abbrev cX7_readTape : ByteArray := prog_9_method_2_code
def yX7_readTape : MethodName := ⟨RX7, "readTape", "([BI)I"⟩
abbrev cX7_takeBoard : ByteArray := prog_9_method_3_code
def yX7_takeBoard : MethodName := ⟨RX7, "takeBoard", "()Z"⟩
abbrev cX7_takeLine : ByteArray := prog_9_method_4_code
def yX7_takeLine : MethodName := ⟨RX7, "takeLine", "()Z"⟩
abbrev cX7_takeSetting : ByteArray := prog_9_method_5_code
def yX7_takeSetting : MethodName := ⟨RX7, "takeSetting", "(LKeyMatrix$Word;)Z"⟩
abbrev cX7_takeKey : ByteArray := prog_9_method_6_code
def yX7_takeKey : MethodName := ⟨RX7, "takeKey", "()Z"⟩
abbrev cX7_takeChord : ByteArray := prog_9_method_7_code
def yX7_takeChord : MethodName := ⟨RX7, "takeChord", "()Z"⟩
abbrev cX7_takeChordKey : ByteArray := prog_9_method_8_code
def yX7_takeChordKey : MethodName := ⟨RX7, "takeChordKey", "(I)Z"⟩
abbrev cX7_takeMacro : ByteArray := prog_9_method_9_code
def yX7_takeMacro : MethodName := ⟨RX7, "takeMacro", "()Z"⟩
abbrev cX7_takeDeed : ByteArray := prog_9_method_10_code
def yX7_takeDeed : MethodName := ⟨RX7, "takeDeed", "()Z"⟩
abbrev cX7_takeNumber : ByteArray := prog_9_method_11_code
def yX7_takeNumber : MethodName := ⟨RX7, "takeNumber", "(II)Z"⟩
abbrev cX7_takeToken : ByteArray := prog_9_method_12_code
def yX7_takeToken : MethodName := ⟨RX7, "takeToken", "(I)Z"⟩
abbrev cX7_fail : ByteArray := prog_9_method_13_code
def yX7_fail : MethodName := ⟨RX7, "fail", "(I)Z"⟩
abbrev cX7_noteLater : ByteArray := prog_9_method_14_code
def yX7_noteLater : MethodName := ⟨RX7, "noteLater", "(II)V"⟩
def RX8 : String := "KeyMatrix$Tokens"
def TX8 : u_T := fun k => match k with
  | 0 => ("KeyMatrix$Tokens", "kinds", "[I", true)
  | 1 => ("KeyMatrix$Tokens", "places", "[I", true)
  | 2 => ("KeyMatrix$Tokens", "numbers", "[I", true)
  | 3 => ("KeyMatrix$Tokens", "words", "[LKeyMatrix$Word;", true)
  | 4 => ("KeyMatrix$Tokens", "size", "I", false)
  | _ => ("KeyMatrix$Tokens", "end", "I", false)
def tyX8 : Nat → FieldType := fun k => match k with
  | 0 => .array .int
  | 1 => .array .int
  | 2 => .array .int
  | 3 => .array (.object "KeyMatrix$Word")
  | 4 => .int
  | _ => .int
abbrev wsX80 : List Cond := u_ws RX8 TX8 6
theorem nmX8 : ∀ a, a < 6 → ∀ b, b < 6 → a ≠ b → (TX8 a).2.1 ≠ (TX8 b).2.1 := by decide +kernel
theorem tyX8_ok : ∀ k, k < 6 → parseFieldDescriptor (TX8 k).2.2.1 = some (tyX8 k) := by decide +kernel
abbrev cX8_init : ByteArray := prog_10_method_1_code
def yX8_init : MethodName := ⟨RX8, "<init>", "()V"⟩
abbrev cX8_cut : ByteArray := prog_10_method_2_code
def yX8_cut : MethodName := ⟨RX8, "cut", "([BI)V"⟩
abbrev cX8_skipBlanks : ByteArray := prog_10_method_3_code
def yX8_skipBlanks : MethodName := ⟨RX8, "skipBlanks", "([BI)I"⟩
abbrev cX8_cutWord : ByteArray := prog_10_method_4_code
def yX8_cutWord : MethodName := ⟨RX8, "cutWord", "([BI)I"⟩
abbrev cX8_cutInt : ByteArray := prog_10_method_5_code
def yX8_cutInt : MethodName := ⟨RX8, "cutInt", "([BI)I"⟩
abbrev cX8_isSpelt : ByteArray := prog_10_method_6_code
def yX8_isSpelt : MethodName := ⟨RX8, "isSpelt", "(Ljava/lang/String;[BII)Z"⟩
abbrev cX8_isLetter : ByteArray := prog_10_method_7_code
def yX8_isLetter : MethodName := ⟨RX8, "isLetter", "(I)Z"⟩
abbrev cX8_isDigit : ByteArray := prog_10_method_8_code
def yX8_isDigit : MethodName := ⟨RX8, "isDigit", "(I)Z"⟩
abbrev cX8_kindAt : ByteArray := prog_10_method_9_code
def yX8_kindAt : MethodName := ⟨RX8, "kindAt", "(I)I"⟩
abbrev cX8_placeAt : ByteArray := prog_10_method_10_code
def yX8_placeAt : MethodName := ⟨RX8, "placeAt", "(I)I"⟩
abbrev cX8_numberAt : ByteArray := prog_10_method_11_code
def yX8_numberAt : MethodName := ⟨RX8, "numberAt", "(I)I"⟩
abbrev cX8_wordAt : ByteArray := prog_10_method_12_code
def yX8_wordAt : MethodName := ⟨RX8, "wordAt", "(I)LKeyMatrix$Word;"⟩
def RX9 : String := "KeyMatrix$Wiring"
def TX9 : u_T := fun k => match k with
  | 0 => ("KeyMatrix$Wiring", "partOf", "[I", true)
  | 1 => ("KeyMatrix$Wiring", "parts", "I", false)
  | 2 => ("KeyMatrix$Wiring", "seen", "I", false)
  | _ => ("KeyMatrix$Wiring", "barred", "I", false)
def tyX9 : Nat → FieldType := fun k => match k with
  | 0 => .array .int
  | 1 => .int
  | 2 => .int
  | _ => .int
abbrev wsX90 : List Cond := u_ws RX9 TX9 4
theorem nmX9 : ∀ a, a < 4 → ∀ b, b < 4 → a ≠ b → (TX9 a).2.1 ≠ (TX9 b).2.1 := by decide +kernel
theorem tyX9_ok : ∀ k, k < 4 → parseFieldDescriptor (TX9 k).2.2.1 = some (tyX9 k) := by decide +kernel
abbrev cX9_init : ByteArray := prog_11_method_1_code
def yX9_init : MethodName := ⟨RX9, "<init>", "()V"⟩
abbrev cX9_follow : ByteArray := prog_11_method_2_code
def yX9_follow : MethodName := ⟨RX9, "follow", "(LKeyMatrix$Board;I)V"⟩
abbrev cX9_join : ByteArray := prog_11_method_3_code
def yX9_join : MethodName := ⟨RX9, "join", "(LKeyMatrix$Board;I)V"⟩
abbrev cX9_bar : ByteArray := prog_11_method_4_code
def yX9_bar : MethodName := ⟨RX9, "bar", "(LKeyMatrix$Board;I)V"⟩
def RX10 : String := "KeyMatrix$Word"
def TX10 : u_T := fun k => match k with
  | _ => ("", "", "", false)
def tyX10 : Nat → FieldType := fun k => match k with
  | _ => .int
abbrev wsX100 : List Cond := u_ws RX10 TX10 0
theorem nmX10 : ∀ a, a < 0 → ∀ b, b < 0 → a ≠ b → (TX10 a).2.1 ≠ (TX10 b).2.1 := by decide +kernel
theorem tyX10_ok : ∀ k, k < 0 → parseFieldDescriptor (TX10 k).2.2.1 = some (tyX10 k) := by decide +kernel
def RX11 : String := "KeyMatrix"
def TX11 : u_T := fun k => match k with
  | 0 => ("KeyMatrix", "tape", "[B", true)
  | 1 => ("KeyMatrix", "tapeLength", "I", false)
  | 2 => ("KeyMatrix", "faultPlace", "I", false)
  | 3 => ("KeyMatrix", "reader", "LKeyMatrix$TextReader;", true)
  | 4 => ("KeyMatrix", "board", "LKeyMatrix$Board;", true)
  | 5 => ("KeyMatrix", "wiring", "LKeyMatrix$Wiring;", true)
  | 6 => ("KeyMatrix", "course", "LKeyMatrix$Course;", true)
  | 7 => ("KeyMatrix", "preview", "LKeyMatrix$Course;", true)
  | 8 => ("KeyMatrix", "slots", "[LKeyMatrix$Course;", true)
  | _ => ("KeyMatrix", "slotsHeld", "I", false)
def tyX11 : Nat → FieldType := fun k => match k with
  | 0 => .array .byte
  | 1 => .int
  | 2 => .int
  | 3 => .object "KeyMatrix$TextReader"
  | 4 => .object "KeyMatrix$Board"
  | 5 => .object "KeyMatrix$Wiring"
  | 6 => .object "KeyMatrix$Course"
  | 7 => .object "KeyMatrix$Course"
  | 8 => .array (.object "KeyMatrix$Course")
  | _ => .int
abbrev wsX110 : List Cond := u_ws RX11 TX11 10
theorem nmX11 : ∀ a, a < 10 → ∀ b, b < 10 → a ≠ b → (TX11 a).2.1 ≠ (TX11 b).2.1 := by decide +kernel
theorem tyX11_ok : ∀ k, k < 10 → parseFieldDescriptor (TX11 k).2.2.1 = some (tyX11 k) := by decide +kernel
abbrev cX11_init : ByteArray := prog_1_method_1_code
def yX11_init : MethodName := ⟨RX11, "<init>", "()V"⟩
abbrev cX11_feed : ByteArray := prog_1_method_2_code
def yX11_feed : MethodName := ⟨RX11, "feed", "(IIIII)I"⟩
abbrev cX11_appendFour : ByteArray := prog_1_method_3_code
def yX11_appendFour : MethodName := ⟨RX11, "appendFour", "(I)V"⟩
abbrev cX11_back : ByteArray := prog_1_method_4_code
def yX11_back : MethodName := ⟨RX11, "back", "(I)I"⟩
abbrev cX11_read : ByteArray := prog_1_method_5_code
def yX11_read : MethodName := ⟨RX11, "read", "()I"⟩
abbrev cX11_place : ByteArray := prog_1_method_6_code
def yX11_place : MethodName := ⟨RX11, "place", "()I"⟩
abbrev cX11_press : ByteArray := prog_1_method_7_code
def yX11_press : MethodName := ⟨RX11, "press", "(IZ)Z"⟩
abbrev cX11_tick : ByteArray := prog_1_method_8_code
def yX11_tick : MethodName := ⟨RX11, "tick", "(I)I"⟩
abbrev cX11_key : ByteArray := prog_1_method_9_code
def yX11_key : MethodName := ⟨RX11, "key", "(II)I"⟩
abbrev cX11_deed : ByteArray := prog_1_method_10_code
def yX11_deed : MethodName := ⟨RX11, "deed", "(III)I"⟩
abbrev cX11_does : ByteArray := prog_1_method_11_code
def yX11_does : MethodName := ⟨RX11, "does", "(II)I"⟩
abbrev cX11_event : ByteArray := prog_1_method_12_code
def yX11_event : MethodName := ⟨RX11, "event", "(II)I"⟩
abbrev cX11_report : ByteArray := prog_1_method_13_code
def yX11_report : MethodName := ⟨RX11, "report", "(II)I"⟩
abbrev cX11_sent : ByteArray := prog_1_method_14_code
def yX11_sent : MethodName := ⟨RX11, "sent", "(I)I"⟩
abbrev cX11_host : ByteArray := prog_1_method_15_code
def yX11_host : MethodName := ⟨RX11, "host", "(I)I"⟩
abbrev cX11_strokes : ByteArray := prog_1_method_16_code
def yX11_strokes : MethodName := ⟨RX11, "strokes", "(II)I"⟩
abbrev cX11_chord : ByteArray := prog_1_method_17_code
def yX11_chord : MethodName := ⟨RX11, "chord", "(II)I"⟩
abbrev cX11_macro : ByteArray := prog_1_method_18_code
def yX11_macro : MethodName := ⟨RX11, "macro", "(II)I"⟩
abbrev cX11_ghosts : ByteArray := prog_1_method_19_code
def yX11_ghosts : MethodName := ⟨RX11, "ghosts", "(II)I"⟩
abbrev cX11_ahead : ByteArray := prog_1_method_20_code
def yX11_ahead : MethodName := ⟨RX11, "ahead", "(II)I"⟩
abbrev cX11_hold : ByteArray := prog_1_method_21_code
def yX11_hold : MethodName := ⟨RX11, "hold", "(I)Z"⟩
abbrev cX11_restore : ByteArray := prog_1_method_22_code
def yX11_restore : MethodName := ⟨RX11, "restore", "(I)Z"⟩
abbrev cX11_count : ByteArray := prog_1_method_23_code
def yX11_count : MethodName := ⟨RX11, "count", "(I)I"⟩
abbrev cX11_setting : ByteArray := prog_1_method_24_code
def yX11_setting : MethodName := ⟨RX11, "setting", "(I)I"⟩
abbrev cX11_isIn : ByteArray := prog_1_method_25_code
def yX11_isIn : MethodName := ⟨RX11, "isIn", "(II)Z"⟩
abbrev cX11_bitOf : ByteArray := prog_1_method_26_code
def yX11_bitOf : MethodName := ⟨RX11, "bitOf", "(II)I"⟩
abbrev cX11_floatBits : ByteArray := prog_1_method_27_code
def yX11_floatBits : MethodName := ⟨RX11, "floatBits", "(F)I"⟩
def RX12 : String := "KeyMatrixModel"
def TX12 : u_T := fun k => match k with
  | 0 => ("KeyMatrixModel", "thrown", "I", false)
  | 1 => ("KeyMatrixModel", "tape", "[B", true)
  | 2 => ("KeyMatrixModel", "taped", "I", false)
  | 3 => ("KeyMatrixModel", "text", "[B", true)
  | 4 => ("KeyMatrixModel", "size", "I", false)
  | 5 => ("KeyMatrixModel", "tKind", "[I", true)
  | 6 => ("KeyMatrixModel", "tPlace", "[I", true)
  | 7 => ("KeyMatrixModel", "tValue", "[I", true)
  | 8 => ("KeyMatrixModel", "tName", "[J", true)
  | 9 => ("KeyMatrixModel", "keys", "[J", true)
  | 10 => ("KeyMatrixModel", "tokens", "I", false)
  | 11 => ("KeyMatrixModel", "t", "I", false)
  | 12 => ("KeyMatrixModel", "fault", "I", false)
  | 13 => ("KeyMatrixModel", "faultPlace", "I", false)
  | 14 => ("KeyMatrixModel", "worst", "I", false)
  | 15 => ("KeyMatrixModel", "worstPlace", "I", false)
  | 16 => ("KeyMatrixModel", "place", "I", false)
  | 17 => ("KeyMatrixModel", "now", "[I", true)
  | 18 => ("KeyMatrixModel", "draft", "[I", true)
  | 19 => ("KeyMatrixModel", "steady", "[F", true)
  | 20 => ("KeyMatrixModel", "chordLines", "I", false)
  | 21 => ("KeyMatrixModel", "macroLines", "I", false)
  | 22 => ("KeyMatrixModel", "isBoard", "Z", false)
  | 23 => ("KeyMatrixModel", "deedTold", "[I", true)
  | 24 => ("KeyMatrixModel", "partOf", "[I", true)
  | 25 => ("KeyMatrixModel", "sentMods", "I", false)
  | 26 => ("KeyMatrixModel", "sentMany", "I", false)
  | 27 => ("KeyMatrixModel", "sentCodes", "[I", true)
  | 28 => ("KeyMatrixModel", "aside", "[I", true)
  | 29 => ("KeyMatrixModel", "asideSteady", "[F", true)
  | 30 => ("KeyMatrixModel", "held", "[I", true)
  | 31 => ("KeyMatrixModel", "heldSteady", "[F", true)
  | _ => ("KeyMatrixModel", "isHeld", "[Z", true)
def tyX12 : Nat → FieldType := fun k => match k with
  | 0 => .int
  | 1 => .array .byte
  | 2 => .int
  | 3 => .array .byte
  | 4 => .int
  | 5 => .array .int
  | 6 => .array .int
  | 7 => .array .int
  | 8 => .array .long
  | 9 => .array .long
  | 10 => .int
  | 11 => .int
  | 12 => .int
  | 13 => .int
  | 14 => .int
  | 15 => .int
  | 16 => .int
  | 17 => .array .int
  | 18 => .array .int
  | 19 => .array .float
  | 20 => .int
  | 21 => .int
  | 22 => .boolean
  | 23 => .array .int
  | 24 => .array .int
  | 25 => .int
  | 26 => .int
  | 27 => .array .int
  | 28 => .array .int
  | 29 => .array .float
  | 30 => .array .int
  | 31 => .array .float
  | _ => .array .boolean
abbrev wsX120 : List Cond := u_ws RX12 TX12 33
theorem nmX12 : ∀ a, a < 33 → ∀ b, b < 33 → a ≠ b → (TX12 a).2.1 ≠ (TX12 b).2.1 := by decide +kernel
theorem tyX12_ok : ∀ k, k < 33 → parseFieldDescriptor (TX12 k).2.2.1 = some (tyX12 k) := by decide +kernel
abbrev cX12_init : ByteArray := prog_14_method_2_code
def yX12_init : MethodName := ⟨RX12, "<init>", "()V"⟩
abbrev cX12_feed : ByteArray := prog_14_method_3_code
def yX12_feed : MethodName := ⟨RX12, "feed", "(IIIII)I"⟩
abbrev cX12_lays : ByteArray := prog_14_method_4_code
def yX12_lays : MethodName := ⟨RX12, "lays", "(I)V"⟩
abbrev cX12_back : ByteArray := prog_14_method_5_code
def yX12_back : MethodName := ⟨RX12, "back", "(I)I"⟩
abbrev cX12_byteAt : ByteArray := prog_14_method_6_code
def yX12_byteAt : MethodName := ⟨RX12, "byteAt", "(I)I"⟩
abbrev cX12_isDigit : ByteArray := prog_14_method_7_code
def yX12_isDigit : MethodName := ⟨RX12, "isDigit", "(I)Z"⟩
abbrev cX12_isLetter : ByteArray := prog_14_method_8_code
def yX12_isLetter : MethodName := ⟨RX12, "isLetter", "(I)Z"⟩
abbrev cX12_appends : ByteArray := prog_14_method_9_code
def yX12_appends : MethodName := ⟨RX12, "appends", "(JI)J"⟩
abbrev cX12_letters : ByteArray := prog_14_method_10_code
def yX12_letters : MethodName := ⟨RX12, "letters", "(IIIIIII)J"⟩
abbrev cX12_token : ByteArray := prog_14_method_11_code
def yX12_token : MethodName := ⟨RX12, "token", "(IIIJ)V"⟩
abbrev cX12_cutsText : ByteArray := prog_14_method_12_code
def yX12_cutsText : MethodName := ⟨RX12, "cutsText", "()V"⟩
abbrev cX12_sign : ByteArray := prog_14_method_13_code
def yX12_sign : MethodName := ⟨RX12, "sign", "(II)I"⟩
abbrev cX12_is : ByteArray := prog_14_method_14_code
def yX12_is : MethodName := ⟨RX12, "is", "(I)Z"⟩
abbrev cX12_fail : ByteArray := prog_14_method_15_code
def yX12_fail : MethodName := ⟨RX12, "fail", "(I)V"⟩
abbrev cX12_wrong : ByteArray := prog_14_method_16_code
def yX12_wrong : MethodName := ⟨RX12, "wrong", "(II)V"⟩
abbrev cX12_passes : ByteArray := prog_14_method_17_code
def yX12_passes : MethodName := ⟨RX12, "passes", "()V"⟩
abbrev cX12_must : ByteArray := prog_14_method_18_code
def yX12_must : MethodName := ⟨RX12, "must", "(I)V"⟩
abbrev cX12_begins : ByteArray := prog_14_method_19_code
def yX12_begins : MethodName := ⟨RX12, "begins", "([I)V"⟩
abbrev cX12_startsAnew : ByteArray := prog_14_method_20_code
def yX12_startsAnew : MethodName := ⟨RX12, "startsAnew", "()V"⟩
abbrev cX12_read : ByteArray := prog_14_method_21_code
def yX12_read : MethodName := ⟨RX12, "read", "()I"⟩
abbrev cX12_place : ByteArray := prog_14_method_22_code
def yX12_place : MethodName := ⟨RX12, "place", "()I"⟩
abbrev cX12_tell : ByteArray := prog_14_method_23_code
def yX12_tell : MethodName := ⟨RX12, "tell", "()V"⟩
abbrev cX12_deedRead : ByteArray := prog_14_method_24_code
def yX12_deedRead : MethodName := ⟨RX12, "deedRead", "()V"⟩
abbrev cX12_within : ByteArray := prog_14_method_25_code
def yX12_within : MethodName := ⟨RX12, "within", "(III)I"⟩
abbrev cX12_means : ByteArray := prog_14_method_26_code
def yX12_means : MethodName := ⟨RX12, "means", "()V"⟩
abbrev cX12_meansLine : ByteArray := prog_14_method_27_code
def yX12_meansLine : MethodName := ⟨RX12, "meansLine", "(I)V"⟩
abbrev cX12_meansDeed : ByteArray := prog_14_method_28_code
def yX12_meansDeed : MethodName := ⟨RX12, "meansDeed", "(I)V"⟩
abbrev cX12_keyTold : ByteArray := prog_14_method_29_code
def yX12_keyTold : MethodName := ⟨RX12, "keyTold", "(I)I"⟩
abbrev cX12_meansKey : ByteArray := prog_14_method_30_code
def yX12_meansKey : MethodName := ⟨RX12, "meansKey", "(I)V"⟩
abbrev cX12_isChorded : ByteArray := prog_14_method_31_code
def yX12_isChorded : MethodName := ⟨RX12, "isChorded", "(I)Z"⟩
abbrev cX12_meansChord : ByteArray := prog_14_method_32_code
def yX12_meansChord : MethodName := ⟨RX12, "meansChord", "(I)V"⟩
abbrev cX12_meansMacro : ByteArray := prog_14_method_33_code
def yX12_meansMacro : MethodName := ⟨RX12, "meansMacro", "(I)V"⟩
abbrev cX12_in : ByteArray := prog_14_method_34_code
def yX12_in : MethodName := ⟨RX12, "in", "(III)Z"⟩
abbrev cX12_has : ByteArray := prog_14_method_35_code
def yX12_has : MethodName := ⟨RX12, "has", "(II)Z"⟩
abbrev cX12_bitsOf : ByteArray := prog_14_method_36_code
def yX12_bitsOf : MethodName := ⟨RX12, "bitsOf", "(I)I"⟩
abbrev cX12_keysMany : ByteArray := prog_14_method_37_code
def yX12_keysMany : MethodName := ⟨RX12, "keysMany", "()I"⟩
abbrev cX12_isKey : ByteArray := prog_14_method_38_code
def yX12_isKey : MethodName := ⟨RX12, "isKey", "(I)Z"⟩
abbrev cX12_laysParts : ByteArray := prog_14_method_39_code
def yX12_laysParts : MethodName := ⟨RX12, "laysParts", "(I)I"⟩
abbrev cX12_seenBy : ByteArray := prog_14_method_40_code
def yX12_seenBy : MethodName := ⟨RX12, "seenBy", "(I)I"⟩
abbrev cX12_barredBy : ByteArray := prog_14_method_41_code
def yX12_barredBy : MethodName := ⟨RX12, "barredBy", "(I)I"⟩
abbrev cX12_isCornered : ByteArray := prog_14_method_42_code
def yX12_isCornered : MethodName := ⟨RX12, "isCornered", "(III)Z"⟩
abbrev cX12_press : ByteArray := prog_14_method_43_code
def yX12_press : MethodName := ⟨RX12, "press", "(IZ)Z"⟩
abbrev cX12_ghosts : ByteArray := prog_14_method_44_code
def yX12_ghosts : MethodName := ⟨RX12, "ghosts", "(II)I"⟩
abbrev cX12_ticks : ByteArray := prog_14_method_45_code
def yX12_ticks : MethodName := ⟨RX12, "ticks", "()V"⟩
abbrev cX12_changes : ByteArray := prog_14_method_46_code
def yX12_changes : MethodName := ⟨RX12, "changes", "(I)V"⟩
abbrev cX12_keyAt : ByteArray := prog_14_method_47_code
def yX12_keyAt : MethodName := ⟨RX12, "keyAt", "(I)I"⟩
abbrev cX12_isDownAt : ByteArray := prog_14_method_48_code
def yX12_isDownAt : MethodName := ⟨RX12, "isDownAt", "(I)Z"⟩
abbrev cX12_timeAt : ByteArray := prog_14_method_49_code
def yX12_timeAt : MethodName := ⟨RX12, "timeAt", "(I)I"⟩
abbrev cX12_drops : ByteArray := prog_14_method_50_code
def yX12_drops : MethodName := ⟨RX12, "drops", "(I)V"⟩
abbrev cX12_chordOf : ByteArray := prog_14_method_51_code
def yX12_chordOf : MethodName := ⟨RX12, "chordOf", "(I)I"⟩
abbrev cX12_works : ByteArray := prog_14_method_52_code
def yX12_works : MethodName := ⟨RX12, "works", "()Z"⟩
abbrev cX12_worksAlone : ByteArray := prog_14_method_53_code
def yX12_worksAlone : MethodName := ⟨RX12, "worksAlone", "(II)Z"⟩
abbrev cX12_heldOrTapped : ByteArray := prog_14_method_54_code
def yX12_heldOrTapped : MethodName := ⟨RX12, "heldOrTapped", "(II)I"⟩
abbrev cX12_onceOrTwice : ByteArray := prog_14_method_55_code
def yX12_onceOrTwice : MethodName := ⟨RX12, "onceOrTwice", "(II)I"⟩
abbrev cX12_dropsTwo : ByteArray := prog_14_method_56_code
def yX12_dropsTwo : MethodName := ⟨RX12, "dropsTwo", "(I)V"⟩
abbrev cX12_begin : ByteArray := prog_14_method_57_code
def yX12_begin : MethodName := ⟨RX12, "begin", "(III)V"⟩
abbrev cX12_doesPlainly : ByteArray := prog_14_method_58_code
def yX12_doesPlainly : MethodName := ⟨RX12, "doesPlainly", "(III)V"⟩
abbrev cX12_chords : ByteArray := prog_14_method_59_code
def yX12_chords : MethodName := ⟨RX12, "chords", "(III)V"⟩
abbrev cX12_plays : ByteArray := prog_14_method_60_code
def yX12_plays : MethodName := ⟨RX12, "plays", "(I)V"⟩
abbrev cX12_ends : ByteArray := prog_14_method_61_code
def yX12_ends : MethodName := ⟨RX12, "ends", "(I)V"⟩
abbrev cX12_stops : ByteArray := prog_14_method_62_code
def yX12_stops : MethodName := ⟨RX12, "stops", "(I)V"⟩
abbrev cX12_activeLayers : ByteArray := prog_14_method_63_code
def yX12_activeLayers : MethodName := ⟨RX12, "activeLayers", "()I"⟩
abbrev cX12_layerOf : ByteArray := prog_14_method_64_code
def yX12_layerOf : MethodName := ⟨RX12, "layerOf", "(I)I"⟩
abbrev cX12_deed : ByteArray := prog_14_method_65_code
def yX12_deed : MethodName := ⟨RX12, "deed", "(III)I"⟩
abbrev cX12_adds : ByteArray := prog_14_method_66_code
def yX12_adds : MethodName := ⟨RX12, "adds", "(I)V"⟩
abbrev cX12_laysSent : ByteArray := prog_14_method_67_code
def yX12_laysSent : MethodName := ⟨RX12, "laysSent", "()V"⟩
abbrev cX12_nextBegun : ByteArray := prog_14_method_68_code
def yX12_nextBegun : MethodName := ⟨RX12, "nextBegun", "(I)I"⟩
abbrev cX12_reportAt : ByteArray := prog_14_method_69_code
def yX12_reportAt : MethodName := ⟨RX12, "reportAt", "(I)I"⟩
abbrev cX12_isLatest : ByteArray := prog_14_method_70_code
def yX12_isLatest : MethodName := ⟨RX12, "isLatest", "(I)Z"⟩
abbrev cX12_reportHas : ByteArray := prog_14_method_71_code
def yX12_reportHas : MethodName := ⟨RX12, "reportHas", "(II)Z"⟩
abbrev cX12_reports : ByteArray := prog_14_method_72_code
def yX12_reports : MethodName := ⟨RX12, "reports", "()V"⟩
abbrev cX12_hears : ByteArray := prog_14_method_73_code
def yX12_hears : MethodName := ⟨RX12, "hears", "(I)V"⟩
abbrev cX12_repeats : ByteArray := prog_14_method_74_code
def yX12_repeats : MethodName := ⟨RX12, "repeats", "()V"⟩
abbrev cX12_tick : ByteArray := prog_14_method_75_code
def yX12_tick : MethodName := ⟨RX12, "tick", "(I)I"⟩
abbrev cX12_bitsOfNumber : ByteArray := prog_14_method_76_code
def yX12_bitsOfNumber : MethodName := ⟨RX12, "bitsOfNumber", "(F)I"⟩
abbrev cX12_key : ByteArray := prog_14_method_77_code
def yX12_key : MethodName := ⟨RX12, "key", "(II)I"⟩
abbrev cX12_does : ByteArray := prog_14_method_78_code
def yX12_does : MethodName := ⟨RX12, "does", "(II)I"⟩
abbrev cX12_event : ByteArray := prog_14_method_79_code
def yX12_event : MethodName := ⟨RX12, "event", "(II)I"⟩
abbrev cX12_reportsKept : ByteArray := prog_14_method_80_code
def yX12_reportsKept : MethodName := ⟨RX12, "reportsKept", "()I"⟩
abbrev cX12_report : ByteArray := prog_14_method_81_code
def yX12_report : MethodName := ⟨RX12, "report", "(II)I"⟩
abbrev cX12_sent : ByteArray := prog_14_method_82_code
def yX12_sent : MethodName := ⟨RX12, "sent", "(I)I"⟩
abbrev cX12_host : ByteArray := prog_14_method_83_code
def yX12_host : MethodName := ⟨RX12, "host", "(I)I"⟩
abbrev cX12_strokes : ByteArray := prog_14_method_84_code
def yX12_strokes : MethodName := ⟨RX12, "strokes", "(II)I"⟩
abbrev cX12_chord : ByteArray := prog_14_method_85_code
def yX12_chord : MethodName := ⟨RX12, "chord", "(II)I"⟩
abbrev cX12_macro : ByteArray := prog_14_method_86_code
def yX12_macro : MethodName := ⟨RX12, "macro", "(II)I"⟩
abbrev cX12_ahead : ByteArray := prog_14_method_87_code
def yX12_ahead : MethodName := ⟨RX12, "ahead", "(II)I"⟩
abbrev cX12_hold : ByteArray := prog_14_method_88_code
def yX12_hold : MethodName := ⟨RX12, "hold", "(I)Z"⟩
abbrev cX12_restore : ByteArray := prog_14_method_89_code
def yX12_restore : MethodName := ⟨RX12, "restore", "(I)Z"⟩
abbrev cX12_count : ByteArray := prog_14_method_90_code
def yX12_count : MethodName := ⟨RX12, "count", "(I)I"⟩
def RJx29ce0 : String := "java/lang/Enum"
def TJx29ce0 : u_T := fun k => match k with
  | _ => ("", "", "", false)
def tyJx29ce0 : Nat → FieldType := fun k => match k with
  | _ => .int
abbrev wsJx29ce00 : List Cond := u_ws RJx29ce0 TJx29ce0 0
theorem nmJx29ce0 : ∀ a, a < 0 → ∀ b, b < 0 → a ≠ b → (TJx29ce0 a).2.1 ≠ (TJx29ce0 b).2.1 := by decide +kernel
theorem tyJx29ce0_ok : ∀ k, k < 0 → parseFieldDescriptor (TJx29ce0 k).2.2.1 = some (tyJx29ce0 k) := by decide +kernel
def RJ6 : String := "java/lang/Integer"
def TJ6 : u_T := fun k => match k with
  | _ => ("", "", "", false)
def tyJ6 : Nat → FieldType := fun k => match k with
  | _ => .int
abbrev wsJ60 : List Cond := u_ws RJ6 TJ6 0
theorem nmJ6 : ∀ a, a < 0 → ∀ b, b < 0 → a ≠ b → (TJ6 a).2.1 ≠ (TJ6 b).2.1 := by decide +kernel
theorem tyJ6_ok : ∀ k, k < 0 → parseFieldDescriptor (TJ6 k).2.2.1 = some (tyJ6 k) := by decide +kernel
abbrev cJ6_bitCount_0f7a4 : ByteArray := prog_16_method_49_code
def yJ6_bitCount_0f7a4 : MethodName := ⟨RJ6, "bitCount", "(I)I"⟩
def RJ9 : String := "java/lang/Math"
def TJ9 : u_T := fun k => match k with
  | _ => ("", "", "", false)
def tyJ9 : Nat → FieldType := fun k => match k with
  | _ => .int
abbrev wsJ90 : List Cond := u_ws RJ9 TJ9 0
theorem nmJ9 : ∀ a, a < 0 → ∀ b, b < 0 → a ≠ b → (TJ9 a).2.1 ≠ (TJ9 b).2.1 := by decide +kernel
theorem tyJ9_ok : ∀ k, k < 0 → parseFieldDescriptor (TJ9 k).2.2.1 = some (tyJ9 k) := by decide +kernel
abbrev cJ9_max_7cf53 : ByteArray := prog_17_method_65_code
def yJ9_max_7cf53 : MethodName := ⟨RJ9, "max", "(II)I"⟩
def RJ0 : String := "java/lang/String"
def TJ0 : u_T := fun k => match k with
  | _ => ("", "", "", false)
def tyJ0 : Nat → FieldType := fun k => match k with
  | _ => .int
abbrev wsJ00 : List Cond := u_ws RJ0 TJ0 0
theorem nmJ0 : ∀ a, a < 0 → ∀ b, b < 0 → a ≠ b → (TJ0 a).2.1 ≠ (TJ0 b).2.1 := by decide +kernel
theorem tyJ0_ok : ∀ k, k < 0 → parseFieldDescriptor (TJ0 k).2.2.1 = some (tyJ0 k) := by decide +kernel
abbrev cJ0_length_8abf5 : ByteArray := prog_18_method_54_code
def yJ0_length_8abf5 : MethodName := ⟨RJ0, "length", "()I"⟩
abbrev cJ0_charAt_5068e : ByteArray := prog_18_method_56_code
def yJ0_charAt_5068e : MethodName := ⟨RJ0, "charAt", "(I)C"⟩
abbrev cJ0_coder_7d493 : ByteArray := prog_18_method_152_code
def yJ0_coder_7d493 : MethodName := ⟨RJ0, "coder", "()B"⟩
abbrev cJ0_isLatin1_aae02 : ByteArray := prog_18_method_154_code
def yJ0_isLatin1_aae02 : MethodName := ⟨RJ0, "isLatin1", "()Z"⟩
abbrev cJ0_checkIndex_df160 : ByteArray := prog_18_method_155_code
def yJ0_checkIndex_df160 : MethodName := ⟨RJ0, "checkIndex", "(II)V"⟩
def RJ1 : String := "java/lang/StringLatin1"
def TJ1 : u_T := fun k => match k with
  | _ => ("", "", "", false)
def tyJ1 : Nat → FieldType := fun k => match k with
  | _ => .int
abbrev wsJ10 : List Cond := u_ws RJ1 TJ1 0
theorem nmJ1 : ∀ a, a < 0 → ∀ b, b < 0 → a ≠ b → (TJ1 a).2.1 ≠ (TJ1 b).2.1 := by decide +kernel
theorem tyJ1_ok : ∀ k, k < 0 → parseFieldDescriptor (TJ1 k).2.2.1 = some (tyJ1 k) := by decide +kernel
abbrev cJ1_charAt_3b067 : ByteArray := prog_19_method_2_code
def yJ1_charAt_3b067 : MethodName := ⟨RJ1, "charAt", "([BI)C"⟩
def RJ2 : String := "java/lang/StringUTF16"
def TJ2 : u_T := fun k => match k with
  | _ => ("", "", "", false)
def tyJ2 : Nat → FieldType := fun k => match k with
  | _ => .int
abbrev wsJ20 : List Cond := u_ws RJ2 TJ2 0
theorem nmJ2 : ∀ a, a < 0 → ∀ b, b < 0 → a ≠ b → (TJ2 a).2.1 ≠ (TJ2 b).2.1 := by decide +kernel
theorem tyJ2_ok : ∀ k, k < 0 → parseFieldDescriptor (TJ2 k).2.2.1 = some (tyJ2 k) := by decide +kernel
abbrev cJ2_getChar_3b067 : ByteArray := prog_20_method_5_code
def yJ2_getChar_3b067 : MethodName := ⟨RJ2, "getChar", "([BI)C"⟩
abbrev cJ2_length_9d52b : ByteArray := prog_20_method_6_code
def yJ2_length_9d52b : MethodName := ⟨RJ2, "length", "([B)I"⟩
abbrev cJ2_charAt_3b067 : ByteArray := prog_20_method_83_code
def yJ2_charAt_3b067 : MethodName := ⟨RJ2, "charAt", "([BI)C"⟩
abbrev cJ2_checkIndex_2214a : ByteArray := prog_20_method_91_code
def yJ2_checkIndex_2214a : MethodName := ⟨RJ2, "checkIndex", "(I[B)V"⟩
def RJ10 : String := "java/lang/System"
def TJ10 : u_T := fun k => match k with
  | _ => ("", "", "", false)
def tyJ10 : Nat → FieldType := fun k => match k with
  | _ => .int
abbrev wsJ100 : List Cond := u_ws RJ10 TJ10 0
theorem nmJ10 : ∀ a, a < 0 → ∀ b, b < 0 → a ≠ b → (TJ10 a).2.1 ≠ (TJ10 b).2.1 := by decide +kernel
theorem tyJ10_ok : ∀ k, k < 0 → parseFieldDescriptor (TJ10 k).2.2.1 = some (tyJ10 k) := by decide +kernel
def RJ3 : String := "jdk/internal/util/Preconditions"
def TJ3 : u_T := fun k => match k with
  | _ => ("", "", "", false)
def tyJ3 : Nat → FieldType := fun k => match k with
  | _ => .int
abbrev wsJ30 : List Cond := u_ws RJ3 TJ3 0
theorem nmJ3 : ∀ a, a < 0 → ∀ b, b < 0 → a ≠ b → (TJ3 a).2.1 ≠ (TJ3 b).2.1 := by decide +kernel
theorem tyJ3_ok : ∀ k, k < 0 → parseFieldDescriptor (TJ3 k).2.2.1 = some (tyJ3 k) := by decide +kernel
abbrev cJ3_checkIndex_8e157 : ByteArray := prog_22_method_11_code
def yJ3_checkIndex_8e157 : MethodName := ⟨RJ3, "checkIndex", "(IILjava/util/function/BiFunction;)I"⟩
def RL : String := "KeyMatrixLaw"
abbrev cL_law : ByteArray := code
def yL_law : MethodName := ⟨RL, "law", "([I)Z"⟩
theorem inJx29ce0 : ∀ w ∈ wsJx29ce00, w ∈ lw_tbl := by decide +kernel
theorem inJ6 : ∀ w ∈ wsJ60, w ∈ lw_tbl := by decide +kernel
theorem inJ9 : ∀ w ∈ wsJ90, w ∈ lw_tbl := by decide +kernel
theorem inJ0 : ∀ w ∈ wsJ00, w ∈ lw_tbl := by decide +kernel
theorem inJ1 : ∀ w ∈ wsJ10, w ∈ lw_tbl := by decide +kernel
theorem inJ2 : ∀ w ∈ wsJ20, w ∈ lw_tbl := by decide +kernel
theorem inJ10 : ∀ w ∈ wsJ100, w ∈ lw_tbl := by decide +kernel
theorem inJ3 : ∀ w ∈ wsJ30, w ∈ lw_tbl := by decide +kernel
abbrev vwCl : List vw_C := [(RX0, TX0, 19), (RX1, TX1, 6), (RX2, TX2, 3), (RX3, TX3, 9), (RX4, TX4, 3), (RX5, TX5, 9), (RX6, TX6, 9), (RX7, TX7, 10), (RX8, TX8, 6), (RX9, TX9, 4), (RX11, TX11, 10), (RX12, TX12, 33)]
end
section
/-! The world of roles: every cell that the law's two constructors make has a number (its role), in the order of their making.
Shape g: how many, how many slots, kind (below 100: a class of vwCl; from 100 on: a row), length, references. Data d: ints, floats, longs, Words. -/
abbrev Bs : Type := Nat × (Nat → Nat)
def ad (B : Bs) (r : Nat) : Nat := if r < 100000 then B.1 + r else B.2 (r - 100000)
abbrev Gs : Type := Nat × Nat × (Nat → Nat) × (Nat → Nat) × (Nat → Nat → Option Nat)
abbrev Ds : Type := (Nat → Nat → Int32) × (Nat → Nat → UInt32) × (Nat → Nat → Int64) × (Nat → Nat → Option Nat)
def gN (g : Gs) : Nat := g.1
def gS (g : Gs) : Nat := g.2.1
def gK (g : Gs) : Nat → Nat := g.2.2.1
def gL (g : Gs) : Nat → Nat := g.2.2.2.1
def gR (g : Gs) : Nat → Nat → Option Nat := g.2.2.2.2
def dI (d : Ds) : Nat → Nat → Int32 := d.1
def dF (d : Ds) : Nat → Nat → UInt32 := d.2.1
def dL (d : Ds) : Nat → Nat → Int64 := d.2.2.1
def dW (d : Ds) : Nat → Nat → Option Nat := d.2.2.2
def sI (d : Ds) (r j : Nat) (v : Int32) : Ds := (va_up d.1 r (va_up (d.1 r) j v), d.2)
def sF (d : Ds) (r j : Nat) (v : UInt32) : Ds := (d.1, va_up d.2.1 r (va_up (d.2.1 r) j v), d.2.2)
def sL (d : Ds) (r j : Nat) (v : Int64) : Ds := (d.1, d.2.1, va_up d.2.2.1 r (va_up (d.2.2.1 r) j v), d.2.2.2)
def sW (d : Ds) (r j : Nat) (v : Option Nat) : Ds := (d.1, d.2.1, d.2.2.1, va_up d.2.2.2 r (va_up (d.2.2.2 r) j v))
def cI (d : Ds) (a b sp dp n : Nat) : Ds := (va_up d.1 b (va_cpy (d.1 a) (d.1 b) sp dp n), d.2)
def cF (d : Ds) (a b sp dp n : Nat) : Ds := (d.1, va_up d.2.1 b (va_cpy (d.2.1 a) (d.2.1 b) sp dp n), d.2.2)
def sR (g : Gs) (r j : Nat) (v : Nat) : Gs := (g.1, g.2.1, g.2.2.1, g.2.2.2.1, va_up g.2.2.2.2 r (va_up (g.2.2.2.2 r) j (some v)))
/-- a new cell: kind, length, slots -/
def nG (g : Gs) (k ln sl : Nat) : Gs := (g.1 + 1, g.2.1 + sl, va_up g.2.2.1 g.1 k, va_up g.2.2.2.1 g.1 ln, va_up g.2.2.2.2 g.1 (fun _ => none))
def nD (g : Gs) (d : Ds) : Ds := (va_up d.1 g.1 (fun _ => 0), va_up d.2.1 g.1 (fun _ => 0), va_up d.2.2.1 g.1 (fun _ => 0), va_up d.2.2.2 g.1 (fun _ => none))
def tyk (t : Nat) : FieldType := match t with
  | 0 => .byte
  | 1 => .float
  | 2 => .int
  | 3 => .long
  | 4 => .boolean
  | 5 => .object "KeyMatrix$Deed"
  | 6 => .object "KeyMatrix$Course"
  | _ => .object "KeyMatrix$Word"
def tys8 (cy : Nat → ClassId) : List (ClassId × FieldType) := [(cy 0, tyk 0), (cy 1, tyk 1), (cy 2, tyk 2), (cy 3, tyk 3), (cy 4, tyk 4), (cy 5, tyk 5), (cy 6, tyk 6), (cy 7, tyk 7)]
def fN (c : Nat) : Nat := match vwCl[c]? with
  | some q => q.2.2
  | none => 0
/-- is the field a reference? by its descriptor -/
def fR (c j : Nat) : Bool := match vwCl[c]? with
  | some q => !((q.2.1 j).2.2.1 == "I" || (q.2.1 j).2.2.1 == "Z")
  | none => false
def rv (B : Bs) (x : Option Nat) : Value := va_rf (x.map (ad B))
def fv (B : Bs) (g : Gs) (d : Ds) (r c j : Nat) : Value := if fR c j then rv B (gR g r j) else .int (dI d r j)
def ar (B : Bs) (g : Gs) (d : Ds) (r t : Nat) : vp_A := (gL g r, match t with
  | 1 => .inr (.inr (.inl (dF d r)))
  | 3 => .inr (.inl (dL d r))
  | 5 => .inr (.inr (.inr (.inr (fun i => (gR g r i).map (ad B)))))
  | 6 => .inr (.inr (.inr (.inr (fun i => (gR g r i).map (ad B)))))
  | 7 => .inr (.inr (.inr (.inr (fun i => (dW d r i).map (ad B)))))
  | _ => .inl (dI d r))
def fls (B : Bs) (g : Gs) (d : Ds) (r c : Nat) : List Value := (List.range (fN c)).map (fun j => fv B g d r c j)
def cel (B : Bs) (cy : Nat → ClassId) (g : Gs) (d : Ds) (r : Nat) : va_E := if gK g r < 100 then .inr (gK g r, fls B g d r (gK g r)) else .inl (cy (gK g r - 100), ar B g d r (gK g r - 100))
def wls (B : Bs) (cy : Nat → ClassId) (g : Gs) (d : Ds) : va_W := (List.range (gN g)).map (fun r => (ad B r, cel B cy g d r))
def WP (D : va_G) (cy : Nat → ClassId) (B : Bs) (g : Gs) (d : Ds) (H : Heap) : Prop := gN g ≤ 100000 ∧ va_P D vwCl (wls B cy g d) H
def wA (B : Bs) : Nat → Prop := fun q => B.1 ≤ q
abbrev chk (g : Gs) (r k : Nat) : Prop := r < gN g ∧ gK g r = k
/-- the constants of Word: their names in their order -/
def wnm (i : Nat) : String := (["BOARD", "DIODES", "SIX", "BOUNCE", "TERM", "CHORDING", "TWICE", "REPEAT", "KEY", "CHORD", "MACRO", "CODE", "MOD", "LAYER", "TOGGLE", "NOTHING", "BELOW", "HOLD", "DOUBLE", "PLAY"] : List String).getD i ""
def Sx (B : Bs) (U : State) : Prop := (∀ i, i < 20 → va_Z "KeyMatrix$Word" (wnm i) "LKeyMatrix$Word;" (.ref (ad B (100000 + i))) (wA B) U U.heap) ∧ ∀ i j, i < 20 → j < 20 → ad B (100000 + i) = ad B (100000 + j) → i = j
theorem vp_in_dec (i : Int32) (n : Nat) (h : ¬ (i < 0 ∨ n ≤ i.toNatClampNeg)) : vp_in i n := h
/-! the words: those of the tables that a method's start may name; the nest's links beside them -/
def wl : List Cond := lw_tbl.filter goodWord
theorem wl_good {w : Cond} (h : w ∈ wl) : goodWord w = true := (List.mem_filter.mp h).2
theorem wl_in {w : Cond} (h : w ∈ wl) : w ∈ lw_tbl := (List.mem_filter.mp h).1
theorem mW {w : Cond} (h : w ∈ lw_tbl) (hg : goodWord w = true) : w ∈ wl := List.mem_filter.mpr ⟨h, hg⟩
theorem mT0 {w : Cond} (h : w ∈ k2_sels lw_privs) : w ∈ lw_tbl := List.mem_append_left _ h
theorem mT1 {w : Cond} (h : w ∈ tables_1_1) : w ∈ lw_tbl := List.mem_append_right _ (List.mem_append_left _ h)
theorem mT2 {w : Cond} (h : w ∈ tables_1_2) : w ∈ lw_tbl := List.mem_append_right _ (List.mem_append_right _ (List.mem_append_left _ h))
theorem mT3 {w : Cond} (h : w ∈ tables_1_3) : w ∈ lw_tbl := List.mem_append_right _ (List.mem_append_right _ (List.mem_append_right _ (List.mem_append_left _ h)))
theorem mT4 {w : Cond} (h : w ∈ tables_1_4) : w ∈ lw_tbl := List.mem_append_right _ (List.mem_append_right _ (List.mem_append_right _ (List.mem_append_right _ (List.mem_append_left _ h))))
theorem mT5 {w : Cond} (h : w ∈ tables_1_5) : w ∈ lw_tbl := List.mem_append_right _ (List.mem_append_right _ (List.mem_append_right _ (List.mem_append_right _ (List.mem_append_right _ (List.mem_append_left _ h)))))
theorem mT6 {w : Cond} (h : w ∈ tables_1_6) : w ∈ lw_tbl := List.mem_append_right _ (List.mem_append_right _ (List.mem_append_right _ (List.mem_append_right _ (List.mem_append_right _ (List.mem_append_right _ (List.mem_append_left _ h))))))
theorem mT7 {w : Cond} (h : w ∈ tables_1_7) : w ∈ lw_tbl := List.mem_append_right _ (List.mem_append_right _ (List.mem_append_right _ (List.mem_append_right _ (List.mem_append_right _ (List.mem_append_right _ (List.mem_append_right _ h))))))
def isN : Cond → Bool
  | .fieldLinkNest _ _ _ _ _ _ => true
  | .methodLinkNest _ _ _ _ => true
  | _ => false
def NzS (U : State) : Prop := ∀ w : Cond, w ∈ lw_tbl → isN w = true → va_Nw w U
theorem NzS.warm {s U : State} (hW : s.WarmedH U.vm) (h : NzS s) : NzS U := by
  intro w h1 h2
  have h3 := h w h1 h2
  cases w <;> first | exact va_Nw.warmF hW h3 | exact va_Nw.warmM hW h3 | cases h2
theorem NzS.same {s U : State} (hv : s.vm = U.vm) (h : NzS s) : NzS U := by
  intro w h1 h2
  have h3 := h w h1 h2
  cases w <;> first | exact va_Nw.same rfl hv h3 | cases h2
theorem sub_of {big : List Cond} (ws : List Cond) (ps : List Nat) (hp : ws = ps.filterMap (fun i => big[i]?)) : ∀ w ∈ ws, w ∈ big := by
  intro w hw
  rw [hp] at hw
  obtain ⟨i, -, hi⟩ := List.mem_filterMap.mp hw
  exact List.mem_of_getElem? hi
/-! the combinators of the pure functions -/
def gd {β : Type} (c : Prop) [Decidable c] (x : Option β) : Option β := if c then x else none
def bd {α β : Type} (a : α) (f : α → Option β) : Option β := f a
def ob {α β : Type} (x : Option α) (f : α → Option β) : Option β := match x with
  | some a => f a
  | none => none
def cb {α β : Type} (x : Option (α × Ds)) (f : α → Ds → Option β) : Option β := match x with
  | some a => f a.1 a.2
  | none => none
def cv {β : Type} (x : Option (Unit × Ds)) (f : Ds → Option β) : Option β := match x with
  | some a => f a.2
  | none => none
theorem cb_s {α β : Type} {x : Option (α × Ds)} {f : α → Ds → Option β} {y : β} (h : cb x f = some y) : ∃ (a : α) (b : Ds), x = some (a, b) ∧ f a b = some y := by
  cases x with
  | none => cases h
  | some a => exact ⟨a.1, a.2, rfl, h⟩
theorem cv_s {β : Type} {x : Option (Unit × Ds)} {f : Ds → Option β} {y : β} (h : cv x f = some y) : ∃ (b : Ds), x = some ((), b) ∧ f b = some y := by
  cases x with
  | none => cases h
  | some a => exact ⟨a.2, rfl, h⟩
theorem cb_t {α β : Type} (a : α) (b : Ds) (f : α → Ds → Option β) : cb (some (a, b)) f = f a b := rfl
theorem cv_t {β : Type} (a : Unit) (b : Ds) (f : Ds → Option β) : cv (some (a, b)) f = f b := rfl
theorem gd_s {β : Type} {c : Prop} [Decidable c] {x : Option β} {y : β} (h : gd c x = some y) : c ∧ x = some y := by
  unfold gd at h
  split at h
  · exact ⟨‹c›, h⟩
  · cases h
theorem bd_s {α β : Type} {a : α} {f : α → Option β} {y : β} (h : bd a f = some y) : ∃ z, z = a ∧ f z = some y := ⟨a, rfl, h⟩
theorem ob_s {α β : Type} {x : Option α} {f : α → Option β} {y : β} (h : ob x f = some y) : ∃ a, x = some a ∧ f a = some y := by
  cases x with
  | none => cases h
  | some a => exact ⟨a, rfl, h⟩
theorem it_s {β : Type} {c : Prop} [Decidable c] {x z : Option β} {y : β} (hc : c) (h : (if c then x else z) = some y) : x = some y := by rwa [if_pos hc] at h
theorem if_s {β : Type} {c : Prop} [Decidable c] {x z : Option β} {y : β} (hc : ¬ c) (h : (if c then x else z) = some y) : z = some y := by rwa [if_neg hc] at h
theorem gd_t {β : Type} {c : Prop} [Decidable c] {x : Option β} (h : c) : gd c x = x := if_pos h
theorem bd_t {α β : Type} (a : α) (f : α → Option β) : bd a f = f a := rfl
theorem ob_t {α β : Type} (a : α) (f : α → Option β) : ob (some a) f = f a := rfl
/-! the world's rows -/
theorem ad_lt {B : Bs} {r : Nat} (h : r < 100000) : ad B r = B.1 + r := if_pos h
theorem wls_at {B : Bs} {cy : Nat → ClassId} {g : Gs} {d : Ds} {r : Nat} (h : r < gN g) : (wls B cy g d)[r]? = some (ad B r, cel B cy g d r) := by
  simp [wls, h]
theorem wls_in {B : Bs} {cy : Nat → ClassId} {g : Gs} {d : Ds} {k : Nat} {q : Nat × va_E} (h : (wls B cy g d)[k]? = some q) : k < gN g ∧ q = (ad B k, cel B cy g d k) := by
  have hl : k < gN g := by
    have := (List.getElem?_eq_some_iff.mp h).1
    simpa [wls] using this
  rw [wls_at hl] at h
  exact ⟨hl, (Option.some.inj h).symm⟩
theorem wls_D {B : Bs} {cy : Nat → ClassId} {g : Gs} {d : Ds} (h : gN g ≤ 100000) : va_D (wA B) (wls B cy g d) := by
  refine ⟨fun i j p q hi hj hpq => ?_, fun k q hk => ?_⟩
  · obtain ⟨h1, rfl⟩ := wls_in hi
    obtain ⟨h2, rfl⟩ := wls_in hj
    simp only [ad_lt (Nat.lt_of_lt_of_le h1 h), ad_lt (Nat.lt_of_lt_of_le h2 h)] at hpq
    omega
  · obtain ⟨h1, rfl⟩ := wls_in hk
    simp only [ad_lt (Nat.lt_of_lt_of_le h1 h)]
    exact Nat.le_add_right _ _
theorem wls_set {B : Bs} {cy : Nat → ClassId} {g g1 : Gs} {d d1 : Ds} {r : Nat} {e : va_E} (hr : r < gN g) (hg : gN g1 = gN g) (ho : ∀ x, x < gN g → x ≠ r → cel B cy g d x = cel B cy g1 d1 x) (he : cel B cy g1 d1 r = e) : (wls B cy g d).set r (ad B r, e) = wls B cy g1 d1 := by
  apply List.ext_getElem?
  intro k
  by_cases hk : k < gN g
  · rw [wls_at (g := g1) (by omega)]
    by_cases hkr : k = r
    · subst hkr
      rw [List.getElem?_set_self (by simpa [wls] using hk), he]
    · rw [List.getElem?_set_ne (Ne.symm hkr), wls_at hk, ho k hk hkr]
  · rw [List.getElem?_eq_none (by simp [wls]; omega), List.getElem?_eq_none (by simp [wls]; omega)]
theorem cel_o {B : Bs} {cy : Nat → ClassId} {g : Gs} {d : Ds} {r c : Nat} (h : gK g r = c) (hc : c < 100) : cel B cy g d r = .inr (c, fls B g d r c) := by
  subst h
  exact if_pos hc
theorem cel_a {B : Bs} {cy : Nat → ClassId} {g : Gs} {d : Ds} {r t : Nat} (h : gK g r = 100 + t) : cel B cy g d r = .inl (cy t, ar B g d r t) := by
  have h2 : ¬ gK g r < 100 := by omega
  have h3 : gK g r - 100 = t := by omega
  unfold cel
  rw [if_neg h2, h3]
theorem fls_at {B : Bs} {g : Gs} {d : Ds} {r c j : Nat} (h : j < fN c) : (fls B g d r c)[j]? = some (fv B g d r c j) := by simp [fls, h]
theorem fls_set {B : Bs} {g g1 : Gs} {d d1 : Ds} {r c j : Nat} {v : Value} (hj : j < fN c) (ho : ∀ x, x ≠ j → fv B g d r c x = fv B g1 d1 r c x) (he : fv B g1 d1 r c j = v) : (fls B g d r c).set j v = fls B g1 d1 r c := by
  apply List.ext_getElem?
  intro k
  by_cases hk : k < fN c
  · rw [fls_at hk]
    by_cases hkr : k = j
    · subst hkr
      rw [List.getElem?_set_self (by simpa [fls] using hk), he]
    · rw [List.getElem?_set_ne (Ne.symm hkr), fls_at hk, ho k hkr]
  · rw [List.getElem?_eq_none (by simp [fls]; omega), List.getElem?_eq_none (by simp [fls]; omega)]
theorem upd_up (f : Nat → Int32) (k : Nat) (x : Int32) : upd f k x = va_up f k x := rfl
theorem sI_o {B : Bs} {cy : Nat → ClassId} {g : Gs} {d : Ds} {r j x : Nat} {v : Int32} (h : x ≠ r) : cel B cy g d x = cel B cy g (sI d r j v) x := by
  have h1 : dI (sI d r j v) x = dI d x := by simp [dI, sI, va_up, h]
  have h2 : ∀ t, ar B g (sI d r j v) x t = ar B g d x t := by
    intro t
    unfold ar
    rw [h1]
    rfl
  have h3 : ∀ c, fls B g (sI d r j v) x c = fls B g d x c := by
    intro c
    unfold fls fv
    rw [h1]
  unfold cel
  rw [h2, h3]
theorem sF_o {B : Bs} {cy : Nat → ClassId} {g : Gs} {d : Ds} {r j x : Nat} {v : UInt32} (h : x ≠ r) : cel B cy g d x = cel B cy g (sF d r j v) x := by
  have h1 : dF (sF d r j v) x = dF d x := by simp [dF, sF, va_up, h]
  have h2 : ∀ t, ar B g (sF d r j v) x t = ar B g d x t := by
    intro t
    unfold ar
    rw [h1]
    rfl
  unfold cel
  rw [h2]
  rfl
theorem sL_o {B : Bs} {cy : Nat → ClassId} {g : Gs} {d : Ds} {r j x : Nat} {v : Int64} (h : x ≠ r) : cel B cy g d x = cel B cy g (sL d r j v) x := by
  have h1 : dL (sL d r j v) x = dL d x := by simp [dL, sL, va_up, h]
  have h2 : ∀ t, ar B g (sL d r j v) x t = ar B g d x t := by
    intro t
    unfold ar
    rw [h1]
    rfl
  unfold cel
  rw [h2]
  rfl
theorem sW_o {B : Bs} {cy : Nat → ClassId} {g : Gs} {d : Ds} {r j x : Nat} {v : Option Nat} (h : x ≠ r) : cel B cy g d x = cel B cy g (sW d r j v) x := by
  have h1 : dW (sW d r j v) x = dW d x := by simp [dW, sW, va_up, h]
  have h2 : ∀ t, ar B g (sW d r j v) x t = ar B g d x t := by
    intro t
    unfold ar
    rw [h1]
    rfl
  unfold cel
  rw [h2]
  rfl
theorem cI_o {B : Bs} {cy : Nat → ClassId} {g : Gs} {d : Ds} {a r sp dp n x : Nat} (h : x ≠ r) : cel B cy g d x = cel B cy g (cI d a r sp dp n) x := by
  have h1 : dI (cI d a r sp dp n) x = dI d x := by simp [dI, cI, va_up, h]
  have h2 : ∀ t, ar B g (cI d a r sp dp n) x t = ar B g d x t := by
    intro t
    unfold ar
    rw [h1]
    rfl
  have h3 : ∀ c, fls B g (cI d a r sp dp n) x c = fls B g d x c := by
    intro c
    unfold fls fv
    rw [h1]
  unfold cel
  rw [h2, h3]
theorem cF_o {B : Bs} {cy : Nat → ClassId} {g : Gs} {d : Ds} {a r sp dp n x : Nat} (h : x ≠ r) : cel B cy g d x = cel B cy g (cF d a r sp dp n) x := by
  have h1 : dF (cF d a r sp dp n) x = dF d x := by simp [dF, cF, va_up, h]
  have h2 : ∀ t, ar B g (cF d a r sp dp n) x t = ar B g d x t := by
    intro t
    unfold ar
    rw [h1]
    rfl
  unfold cel
  rw [h2]
  rfl
theorem sR_o {B : Bs} {cy : Nat → ClassId} {g : Gs} {d : Ds} {r j x v : Nat} (h : x ≠ r) : cel B cy g d x = cel B cy (sR g r j v) d x := by
  have h1 : gR (sR g r j v) x = gR g x := by simp [gR, sR, va_up, h]
  have h2 : ∀ t, ar B (sR g r j v) d x t = ar B g d x t := by
    intro t
    unfold ar
    rw [h1]
    rfl
  have h3 : ∀ c, fls B (sR g r j v) d x c = fls B g d x c := by
    intro c
    unfold fls fv
    rw [h1]
  have h4 : gK (sR g r j v) x = gK g x := rfl
  unfold cel
  rw [h2, h3, h4]
end
section
/-- what stays through a method: the machine, the code, the tables' words, the classes, the statics -/
def Cx (p : Program) (s : State) (m : MethodId) (args : Array Value) (c : Code) (cc : ByteArray) (nL : Nat) (own : String) (D : va_G) (cy : Nat → ClassId) (B : Bs) : Prop :=
  p.tables.exec = Jvm.exec ∧ c.code = cc ∧ c.maxLocals = nL ∧ s.vm.findClass own = some m.cls ∧ (∀ w ∈ wl, w.before args s = true) ∧ va_K D vwCl (tys8 cy) s ∧ Sx B s ∧ NzS s
/-- from any heap that holds (g, d), any locals that hold lv, the machine at pc with the stack st comes to Q -/
def WB (p : Program) (l : Launch) (e : Env) (R : Room) (s : State) (m : MethodId) (args : Array Value) (below : List Frame) (meth : Method) (c : Code) (nL : Nat) (D : va_G) (cy : Nat → ClassId) (B : Bs) (cells slots : Nat) (Q : State → Prop) (g : Gs) (d : Ds) (lv : List (Nat × Value)) (pc : Nat) (st : List Value) : Prop :=
  ∀ (H : Heap) (locs : List Loc) (ls : Array Slot), lv_has ls nL lv → WP D cy B g d H → va_S (wA B) s.heap H locs → W p l e R s m args below meth c H locs cells slots Q (F0 m pc ls st)
section BR
variable {p : Program} {l : Launch} {e : Env} {R : Room} {s : State} {m : MethodId} {args : Array Value} {below : List Frame} {meth : Method} {c : Code} {cells slots : Nat} {Q : State → Prop} {nL : Nat} {D : va_G} {cy : Nat → ClassId} {B : Bs} {g : Gs} {d : Ds} {lv : List (Nat × Value)} {pc : Nat} {cc : ByteArray} {own : String} {rest : List Value}
theorem b_iconst (C : Cx p s m args c cc nL own D cy B) {n : Int} {v : Int32} (hdg : decode cc pc = .ok (.iconst n, 1)) (hv : Int32.ofInt n = v) (k : WB p l e R s m args below meth c nL D cy B cells slots Q g d lv (pc + 1) (.int v :: rest)) : WB p l e R s m args below meth c nL D cy B cells slots Q g d lv pc rest := fun H locs ls hl hP hS => lv_iconst C.1 C.2.1 hdg hv (k H locs ls hl hP hS)
theorem b_bipush (C : Cx p s m args c cc nL own D cy B) {n : Int} {v : Int32} (hdg : decode cc pc = .ok (.bipush n, 2)) (hv : (Int8.ofInt n).toInt32 = v) (k : WB p l e R s m args below meth c nL D cy B cells slots Q g d lv (pc + 2) (.int v :: rest)) : WB p l e R s m args below meth c nL D cy B cells slots Q g d lv pc rest := fun H locs ls hl hP hS => lv_bipush C.1 C.2.1 hdg hv (k H locs ls hl hP hS)
theorem b_sipush (C : Cx p s m args c cc nL own D cy B) {n : Int} {v : Int32} (hdg : decode cc pc = .ok (.sipush n, 3)) (hv : (Int16.ofInt n).toInt32 = v) (k : WB p l e R s m args below meth c nL D cy B cells slots Q g d lv (pc + 3) (.int v :: rest)) : WB p l e R s m args below meth c nL D cy B cells slots Q g d lv pc rest := fun H locs ls hl hP hS => lv_sipush C.1 C.2.1 hdg hv (k H locs ls hl hP hS)
theorem b_lconst (C : Cx p s m args c cc nL own D cy B) {n : Fin 2} {v : Int64} (hdg : decode cc pc = .ok (.lconst n, 1)) (hv : Int64.ofNat (n : Nat) = v) (k : WB p l e R s m args below meth c nL D cy B cells slots Q g d lv (pc + 1) (.long v :: rest)) : WB p l e R s m args below meth c nL D cy B cells slots Q g d lv pc rest := fun H locs ls hl hP hS => lv_lconst C.1 C.2.1 hdg hv (k H locs ls hl hP hS)
theorem b_null (C : Cx p s m args c cc nL own D cy B)  (hdg : decode cc pc = .ok (.aconst_null, 1))  (k : WB p l e R s m args below meth c nL D cy B cells slots Q g d lv (pc + 1) (.null :: rest)) : WB p l e R s m args below meth c nL D cy B cells slots Q g d lv pc rest := fun H locs ls hl hP hS => lv_null C.1 C.2.1 hdg (k H locs ls hl hP hS)
theorem b_iload_n (C : Cx p s m args c cc nL own D cy B) {k : Fin 4} {i : Nat} {x : Int32} (hdg : decode cc pc = .ok (.iload_n k, 1)) (q : Nat) (hq : lv[q]? = some (i, .int x)) (hi : (k : Nat) = i) (k : WB p l e R s m args below meth c nL D cy B cells slots Q g d lv (pc + 1) (.int x :: rest)) : WB p l e R s m args below meth c nL D cy B cells slots Q g d lv pc rest := fun H locs ls hl hP hS => lv_iload_n C.1 C.2.1 hdg hi (lv_at hl q hq) (k H locs ls hl hP hS)
theorem b_iload (C : Cx p s m args c cc nL own D cy B) {i : Nat} {x : Int32} (hdg : decode cc pc = .ok (.iload i, 2)) (q : Nat) (hq : lv[q]? = some (i, .int x)) (k : WB p l e R s m args below meth c nL D cy B cells slots Q g d lv (pc + 2) (.int x :: rest)) : WB p l e R s m args below meth c nL D cy B cells slots Q g d lv pc rest := fun H locs ls hl hP hS => lv_iload C.1 C.2.1 hdg (lv_at hl q hq) (k H locs ls hl hP hS)
theorem b_lload_n (C : Cx p s m args c cc nL own D cy B) {k : Fin 4} {i : Nat} {x : Int64} (hdg : decode cc pc = .ok (.lload_n k, 1)) (q : Nat) (hq : lv[q]? = some (i, .long x)) (hi : (k : Nat) = i) (k : WB p l e R s m args below meth c nL D cy B cells slots Q g d lv (pc + 1) (.long x :: rest)) : WB p l e R s m args below meth c nL D cy B cells slots Q g d lv pc rest := fun H locs ls hl hP hS => lv_lload_n C.1 C.2.1 hdg hi (lv_at hl q hq) (k H locs ls hl hP hS)
theorem b_lload (C : Cx p s m args c cc nL own D cy B) {i : Nat} {x : Int64} (hdg : decode cc pc = .ok (.lload i, 2)) (q : Nat) (hq : lv[q]? = some (i, .long x)) (k : WB p l e R s m args below meth c nL D cy B cells slots Q g d lv (pc + 2) (.long x :: rest)) : WB p l e R s m args below meth c nL D cy B cells slots Q g d lv pc rest := fun H locs ls hl hP hS => lv_lload C.1 C.2.1 hdg (lv_at hl q hq) (k H locs ls hl hP hS)
theorem b_fload_n (C : Cx p s m args c cc nL own D cy B) {k : Fin 4} {i : Nat} {x : UInt32} (hdg : decode cc pc = .ok (.fload_n k, 1)) (q : Nat) (hq : lv[q]? = some (i, .float x)) (hi : (k : Nat) = i) (k : WB p l e R s m args below meth c nL D cy B cells slots Q g d lv (pc + 1) (.float x :: rest)) : WB p l e R s m args below meth c nL D cy B cells slots Q g d lv pc rest := fun H locs ls hl hP hS => lv_fload_n C.1 C.2.1 hdg hi (lv_at hl q hq) (k H locs ls hl hP hS)
theorem b_fload (C : Cx p s m args c cc nL own D cy B) {i : Nat} {x : UInt32} (hdg : decode cc pc = .ok (.fload i, 2)) (q : Nat) (hq : lv[q]? = some (i, .float x)) (k : WB p l e R s m args below meth c nL D cy B cells slots Q g d lv (pc + 2) (.float x :: rest)) : WB p l e R s m args below meth c nL D cy B cells slots Q g d lv pc rest := fun H locs ls hl hP hS => lv_fload C.1 C.2.1 hdg (lv_at hl q hq) (k H locs ls hl hP hS)
theorem b_aload_n (C : Cx p s m args c cc nL own D cy B) {k : Fin 4} {i : Nat} {x : Nat} (hdg : decode cc pc = .ok (.aload_n k, 1)) (q : Nat) (hq : lv[q]? = some (i, .ref x)) (hi : (k : Nat) = i) (k : WB p l e R s m args below meth c nL D cy B cells slots Q g d lv (pc + 1) (.ref x :: rest)) : WB p l e R s m args below meth c nL D cy B cells slots Q g d lv pc rest := fun H locs ls hl hP hS => lv_aload_n C.1 C.2.1 hdg hi (lv_at hl q hq) (k H locs ls hl hP hS)
theorem b_aload (C : Cx p s m args c cc nL own D cy B) {i : Nat} {x : Nat} (hdg : decode cc pc = .ok (.aload i, 2)) (q : Nat) (hq : lv[q]? = some (i, .ref x)) (k : WB p l e R s m args below meth c nL D cy B cells slots Q g d lv (pc + 2) (.ref x :: rest)) : WB p l e R s m args below meth c nL D cy B cells slots Q g d lv pc rest := fun H locs ls hl hP hS => lv_aload C.1 C.2.1 hdg (lv_at hl q hq) (k H locs ls hl hP hS)
theorem b_aload_nQ (C : Cx p s m args c cc nL own D cy B) {k : Fin 4} {i : Nat} {x : Option Nat} (hdg : decode cc pc = .ok (.aload_n k, 1)) (q : Nat) (hq : lv[q]? = some (i, rv B x)) (hi : (k : Nat) = i) (k0 : WB p l e R s m args below meth c nL D cy B cells slots Q g d lv (pc + 1) (rv B x :: rest)) : WB p l e R s m args below meth c nL D cy B cells slots Q g d lv pc rest := fun H locs ls hl hP hS => by
  cases x with
  | none => exact lv_aload_nN C.1 C.2.1 hdg hi (lv_at hl q hq) (k0 H locs ls hl hP hS)
  | some y => exact lv_aload_n C.1 C.2.1 hdg hi (lv_at hl q hq) (k0 H locs ls hl hP hS)
theorem b_aloadQ (C : Cx p s m args c cc nL own D cy B) {i : Nat} {x : Option Nat} (hdg : decode cc pc = .ok (.aload i, 2)) (q : Nat) (hq : lv[q]? = some (i, rv B x))  (k0 : WB p l e R s m args below meth c nL D cy B cells slots Q g d lv (pc + 2) (rv B x :: rest)) : WB p l e R s m args below meth c nL D cy B cells slots Q g d lv pc rest := fun H locs ls hl hP hS => by
  cases x with
  | none => exact lv_aloadN C.1 C.2.1 hdg (lv_at hl q hq) (k0 H locs ls hl hP hS)
  | some y => exact lv_aload C.1 C.2.1 hdg (lv_at hl q hq) (k0 H locs ls hl hP hS)
theorem b_istore_n (C : Cx p s m args c cc nL own D cy B) {k : Fin 4} {i : Nat} {x : Int32} (hdg : decode cc pc = .ok (.istore_n k, 1)) (hi : (k : Nat) = i) (lv' : List (Nat × Value)) (hn : i < nL) (he : (i, .int x) :: lv.filter (fun q => !(q.1 == i) && !(q.1 + 1 == i && q.2.category == 2)) = lv') (k1 : WB p l e R s m args below meth c nL D cy B cells slots Q g d lv' (pc + 1) rest) : WB p l e R s m args below meth c nL D cy B cells slots Q g d lv pc (.int x :: rest) := fun H locs ls hl hP hS => lv_istore_n C.1 C.2.1 hdg hi hl hn he (fun ls1 hl1 => k1 H locs ls1 hl1 hP hS)
theorem b_istore (C : Cx p s m args c cc nL own D cy B) {i : Nat} {x : Int32} (hdg : decode cc pc = .ok (.istore i, 2))  (lv' : List (Nat × Value)) (hn : i < nL) (he : (i, .int x) :: lv.filter (fun q => !(q.1 == i) && !(q.1 + 1 == i && q.2.category == 2)) = lv') (k1 : WB p l e R s m args below meth c nL D cy B cells slots Q g d lv' (pc + 2) rest) : WB p l e R s m args below meth c nL D cy B cells slots Q g d lv pc (.int x :: rest) := fun H locs ls hl hP hS => lv_istore C.1 C.2.1 hdg hl hn he (fun ls1 hl1 => k1 H locs ls1 hl1 hP hS)
theorem b_lstore_n (C : Cx p s m args c cc nL own D cy B) {k : Fin 4} {i : Nat} {x : Int64} (hdg : decode cc pc = .ok (.lstore_n k, 1)) (hi : (k : Nat) = i) (lv' : List (Nat × Value)) (hn : i + 1 < nL) (he : (i, .long x) :: lv.filter (fun q => !(q.1 == i) && (!(q.1 == i + 1) && !(q.1 + 1 == i && q.2.category == 2))) = lv') (k1 : WB p l e R s m args below meth c nL D cy B cells slots Q g d lv' (pc + 1) rest) : WB p l e R s m args below meth c nL D cy B cells slots Q g d lv pc (.long x :: rest) := fun H locs ls hl hP hS => lv_lstore_n C.1 C.2.1 hdg hi hl hn he (fun ls1 hl1 => k1 H locs ls1 hl1 hP hS)
theorem b_lstore (C : Cx p s m args c cc nL own D cy B) {i : Nat} {x : Int64} (hdg : decode cc pc = .ok (.lstore i, 2))  (lv' : List (Nat × Value)) (hn : i + 1 < nL) (he : (i, .long x) :: lv.filter (fun q => !(q.1 == i) && (!(q.1 == i + 1) && !(q.1 + 1 == i && q.2.category == 2))) = lv') (k1 : WB p l e R s m args below meth c nL D cy B cells slots Q g d lv' (pc + 2) rest) : WB p l e R s m args below meth c nL D cy B cells slots Q g d lv pc (.long x :: rest) := fun H locs ls hl hP hS => lv_lstore C.1 C.2.1 hdg hl hn he (fun ls1 hl1 => k1 H locs ls1 hl1 hP hS)
theorem b_fstore_n (C : Cx p s m args c cc nL own D cy B) {k : Fin 4} {i : Nat} {x : UInt32} (hdg : decode cc pc = .ok (.fstore_n k, 1)) (hi : (k : Nat) = i) (lv' : List (Nat × Value)) (hn : i < nL) (he : (i, .float x) :: lv.filter (fun q => !(q.1 == i) && !(q.1 + 1 == i && q.2.category == 2)) = lv') (k1 : WB p l e R s m args below meth c nL D cy B cells slots Q g d lv' (pc + 1) rest) : WB p l e R s m args below meth c nL D cy B cells slots Q g d lv pc (.float x :: rest) := fun H locs ls hl hP hS => lv_fstore_n C.1 C.2.1 hdg hi hl hn he (fun ls1 hl1 => k1 H locs ls1 hl1 hP hS)
theorem b_fstore (C : Cx p s m args c cc nL own D cy B) {i : Nat} {x : UInt32} (hdg : decode cc pc = .ok (.fstore i, 2))  (lv' : List (Nat × Value)) (hn : i < nL) (he : (i, .float x) :: lv.filter (fun q => !(q.1 == i) && !(q.1 + 1 == i && q.2.category == 2)) = lv') (k1 : WB p l e R s m args below meth c nL D cy B cells slots Q g d lv' (pc + 2) rest) : WB p l e R s m args below meth c nL D cy B cells slots Q g d lv pc (.float x :: rest) := fun H locs ls hl hP hS => lv_fstore C.1 C.2.1 hdg hl hn he (fun ls1 hl1 => k1 H locs ls1 hl1 hP hS)
theorem b_astore_n (C : Cx p s m args c cc nL own D cy B) {k : Fin 4} {i : Nat} {x : Nat} (hdg : decode cc pc = .ok (.astore_n k, 1)) (hi : (k : Nat) = i) (lv' : List (Nat × Value)) (hn : i < nL) (he : (i, .ref x) :: lv.filter (fun q => !(q.1 == i) && !(q.1 + 1 == i && q.2.category == 2)) = lv') (k1 : WB p l e R s m args below meth c nL D cy B cells slots Q g d lv' (pc + 1) rest) : WB p l e R s m args below meth c nL D cy B cells slots Q g d lv pc (.ref x :: rest) := fun H locs ls hl hP hS => lv_astore_n C.1 C.2.1 hdg hi hl hn he (fun ls1 hl1 => k1 H locs ls1 hl1 hP hS)
theorem b_astore (C : Cx p s m args c cc nL own D cy B) {i : Nat} {x : Nat} (hdg : decode cc pc = .ok (.astore i, 2))  (lv' : List (Nat × Value)) (hn : i < nL) (he : (i, .ref x) :: lv.filter (fun q => !(q.1 == i) && !(q.1 + 1 == i && q.2.category == 2)) = lv') (k1 : WB p l e R s m args below meth c nL D cy B cells slots Q g d lv' (pc + 2) rest) : WB p l e R s m args below meth c nL D cy B cells slots Q g d lv pc (.ref x :: rest) := fun H locs ls hl hP hS => lv_astore C.1 C.2.1 hdg hl hn he (fun ls1 hl1 => k1 H locs ls1 hl1 hP hS)
theorem b_astore_nQ (C : Cx p s m args c cc nL own D cy B) {k : Fin 4} {i : Nat} {x : Option Nat} (hdg : decode cc pc = .ok (.astore_n k, 1)) (hi : (k : Nat) = i) (lv' : List (Nat × Value)) (hn : i < nL) (he : (i, rv B x) :: lv.filter (fun q => !(q.1 == i) && !(q.1 + 1 == i && q.2.category == 2)) = lv') (k1 : WB p l e R s m args below meth c nL D cy B cells slots Q g d lv' (pc + 1) rest) : WB p l e R s m args below meth c nL D cy B cells slots Q g d lv pc (rv B x :: rest) := fun H locs ls hl hP hS => by
  cases x with
  | none => exact lv_astore_nN C.1 C.2.1 hdg hi hl hn he (fun ls1 hl1 => k1 H locs ls1 hl1 hP hS)
  | some y => exact lv_astore_n C.1 C.2.1 hdg hi hl hn he (fun ls1 hl1 => k1 H locs ls1 hl1 hP hS)
theorem b_astoreQ (C : Cx p s m args c cc nL own D cy B) {i : Nat} {x : Option Nat} (hdg : decode cc pc = .ok (.astore i, 2))  (lv' : List (Nat × Value)) (hn : i < nL) (he : (i, rv B x) :: lv.filter (fun q => !(q.1 == i) && !(q.1 + 1 == i && q.2.category == 2)) = lv') (k1 : WB p l e R s m args below meth c nL D cy B cells slots Q g d lv' (pc + 2) rest) : WB p l e R s m args below meth c nL D cy B cells slots Q g d lv pc (rv B x :: rest) := fun H locs ls hl hP hS => by
  cases x with
  | none => exact lv_astoreN C.1 C.2.1 hdg hl hn he (fun ls1 hl1 => k1 H locs ls1 hl1 hP hS)
  | some y => exact lv_astore C.1 C.2.1 hdg hl hn he (fun ls1 hl1 => k1 H locs ls1 hl1 hP hS)
theorem b_iinc (C : Cx p s m args c cc nL own D cy B) {i : Nat} {n : Int} {x v : Int32} (hdg : decode cc pc = .ok (.iinc i n, 3)) (q : Nat) (hq : lv[q]? = some (i, .int x)) (hv : x + Int32.ofInt n = v) (lv' : List (Nat × Value)) (hn : i < nL) (he : (i, .int v) :: lv.filter (fun q => !(q.1 == i) && !(q.1 + 1 == i && q.2.category == 2)) = lv') (k1 : WB p l e R s m args below meth c nL D cy B cells slots Q g d lv' (pc + 3) rest) : WB p l e R s m args below meth c nL D cy B cells slots Q g d lv pc rest := fun H locs ls hl hP hS => lv_iinc C.1 C.2.1 hdg hl hq hv hn he (fun ls1 hl1 => k1 H locs ls1 hl1 hP hS)
theorem b_iadd (C : Cx p s m args c cc nL own D cy B) {x y : Int32} (hdg : decode cc pc = .ok (.iadd, 1))  (k : WB p l e R s m args below meth c nL D cy B cells slots Q g d lv (pc + 1) (.int (x + y) :: rest)) : WB p l e R s m args below meth c nL D cy B cells slots Q g d lv pc (.int y :: .int x :: rest) := fun H locs ls hl hP hS => lv_iadd C.1 C.2.1 hdg (k H locs ls hl hP hS)
theorem b_isub (C : Cx p s m args c cc nL own D cy B) {x y : Int32} (hdg : decode cc pc = .ok (.isub, 1))  (k : WB p l e R s m args below meth c nL D cy B cells slots Q g d lv (pc + 1) (.int (x - y) :: rest)) : WB p l e R s m args below meth c nL D cy B cells slots Q g d lv pc (.int y :: .int x :: rest) := fun H locs ls hl hP hS => lv_isub C.1 C.2.1 hdg (k H locs ls hl hP hS)
theorem b_imul (C : Cx p s m args c cc nL own D cy B) {x y : Int32} (hdg : decode cc pc = .ok (.imul, 1))  (k : WB p l e R s m args below meth c nL D cy B cells slots Q g d lv (pc + 1) (.int (x * y) :: rest)) : WB p l e R s m args below meth c nL D cy B cells slots Q g d lv pc (.int y :: .int x :: rest) := fun H locs ls hl hP hS => lv_imul C.1 C.2.1 hdg (k H locs ls hl hP hS)
theorem b_iand (C : Cx p s m args c cc nL own D cy B) {x y : Int32} (hdg : decode cc pc = .ok (.iand, 1))  (k : WB p l e R s m args below meth c nL D cy B cells slots Q g d lv (pc + 1) (.int (x &&& y) :: rest)) : WB p l e R s m args below meth c nL D cy B cells slots Q g d lv pc (.int y :: .int x :: rest) := fun H locs ls hl hP hS => lv_iand C.1 C.2.1 hdg (k H locs ls hl hP hS)
theorem b_ior (C : Cx p s m args c cc nL own D cy B) {x y : Int32} (hdg : decode cc pc = .ok (.ior, 1))  (k : WB p l e R s m args below meth c nL D cy B cells slots Q g d lv (pc + 1) (.int (x ||| y) :: rest)) : WB p l e R s m args below meth c nL D cy B cells slots Q g d lv pc (.int y :: .int x :: rest) := fun H locs ls hl hP hS => lv_ior C.1 C.2.1 hdg (k H locs ls hl hP hS)
theorem b_ixor (C : Cx p s m args c cc nL own D cy B) {x y : Int32} (hdg : decode cc pc = .ok (.ixor, 1))  (k : WB p l e R s m args below meth c nL D cy B cells slots Q g d lv (pc + 1) (.int (x ^^^ y) :: rest)) : WB p l e R s m args below meth c nL D cy B cells slots Q g d lv pc (.int y :: .int x :: rest) := fun H locs ls hl hP hS => lv_ixor C.1 C.2.1 hdg (k H locs ls hl hP hS)
theorem b_ishl (C : Cx p s m args c cc nL own D cy B) {x y : Int32} (hdg : decode cc pc = .ok (.ishl, 1))  (k : WB p l e R s m args below meth c nL D cy B cells slots Q g d lv (pc + 1) (.int (x <<< (y &&& 31)) :: rest)) : WB p l e R s m args below meth c nL D cy B cells slots Q g d lv pc (.int y :: .int x :: rest) := fun H locs ls hl hP hS => lv_ishl C.1 C.2.1 hdg (k H locs ls hl hP hS)
theorem b_ishr (C : Cx p s m args c cc nL own D cy B) {x y : Int32} (hdg : decode cc pc = .ok (.ishr, 1))  (k : WB p l e R s m args below meth c nL D cy B cells slots Q g d lv (pc + 1) (.int (x >>> (y &&& 31)) :: rest)) : WB p l e R s m args below meth c nL D cy B cells slots Q g d lv pc (.int y :: .int x :: rest) := fun H locs ls hl hP hS => lv_ishr C.1 C.2.1 hdg (k H locs ls hl hP hS)
theorem b_iushr (C : Cx p s m args c cc nL own D cy B) {x y : Int32} (hdg : decode cc pc = .ok (.iushr, 1))  (k : WB p l e R s m args below meth c nL D cy B cells slots Q g d lv (pc + 1) (.int ((x.toUInt32 >>> (y.toUInt32 &&& Int32.toUInt32 31)).toInt32) :: rest)) : WB p l e R s m args below meth c nL D cy B cells slots Q g d lv pc (.int y :: .int x :: rest) := fun H locs ls hl hP hS => lv_iushr C.1 C.2.1 hdg rfl (k H locs ls hl hP hS)
theorem b_idiv (C : Cx p s m args c cc nL own D cy B) {x y : Int32} (hdg : decode cc pc = .ok (.idiv, 1)) (hne : ¬ y = 0) (k : WB p l e R s m args below meth c nL D cy B cells slots Q g d lv (pc + 1) (.int (x / y) :: rest)) : WB p l e R s m args below meth c nL D cy B cells slots Q g d lv pc (.int y :: .int x :: rest) := fun H locs ls hl hP hS => lv_idiv C.1 C.2.1 hdg hne (k H locs ls hl hP hS)
theorem b_irem (C : Cx p s m args c cc nL own D cy B) {x y : Int32} (hdg : decode cc pc = .ok (.irem, 1)) (hne : ¬ y = 0) (k : WB p l e R s m args below meth c nL D cy B cells slots Q g d lv (pc + 1) (.int (x - x / y * y) :: rest)) : WB p l e R s m args below meth c nL D cy B cells slots Q g d lv pc (.int y :: .int x :: rest) := fun H locs ls hl hP hS => lv_irem C.1 C.2.1 hdg hne (k H locs ls hl hP hS)
theorem b_ladd (C : Cx p s m args c cc nL own D cy B) {x y : Int64} (hdg : decode cc pc = .ok (.ladd, 1))  (k : WB p l e R s m args below meth c nL D cy B cells slots Q g d lv (pc + 1) (.long (x + y) :: rest)) : WB p l e R s m args below meth c nL D cy B cells slots Q g d lv pc (.long y :: .long x :: rest) := fun H locs ls hl hP hS => lv_ladd C.1 C.2.1 hdg (k H locs ls hl hP hS)
theorem b_lmul (C : Cx p s m args c cc nL own D cy B) {x y : Int64} (hdg : decode cc pc = .ok (.lmul, 1))  (k : WB p l e R s m args below meth c nL D cy B cells slots Q g d lv (pc + 1) (.long (x * y) :: rest)) : WB p l e R s m args below meth c nL D cy B cells slots Q g d lv pc (.long y :: .long x :: rest) := fun H locs ls hl hP hS => lv_lmul C.1 C.2.1 hdg (k H locs ls hl hP hS)
theorem b_i2l (C : Cx p s m args c cc nL own D cy B) {x : Int32} (hdg : decode cc pc = .ok (.i2l, 1))  (k : WB p l e R s m args below meth c nL D cy B cells slots Q g d lv (pc + 1) (.long (x.toInt64) :: rest)) : WB p l e R s m args below meth c nL D cy B cells slots Q g d lv pc (.int x :: rest) := fun H locs ls hl hP hS => lv_i2l C.1 C.2.1 hdg rfl (k H locs ls hl hP hS)
theorem b_i2b (C : Cx p s m args c cc nL own D cy B) {x : Int32} (hdg : decode cc pc = .ok (.i2b, 1))  (k : WB p l e R s m args below meth c nL D cy B cells slots Q g d lv (pc + 1) (.int (x.toInt8.toInt32) :: rest)) : WB p l e R s m args below meth c nL D cy B cells slots Q g d lv pc (.int x :: rest) := fun H locs ls hl hP hS => lv_i2b C.1 C.2.1 hdg rfl (k H locs ls hl hP hS)
theorem b_dup (C : Cx p s m args c cc nL own D cy B) {v : Value} (hdg : decode cc pc = .ok (.dup, 1)) (hv : v.category = 1) (k : WB p l e R s m args below meth c nL D cy B cells slots Q g d lv (pc + 1) (v :: v :: rest)) : WB p l e R s m args below meth c nL D cy B cells slots Q g d lv pc (v :: rest) := fun H locs ls hl hP hS => lv_dup C.1 C.2.1 hdg hv (k H locs ls hl hP hS)
theorem b_dup2 (C : Cx p s m args c cc nL own D cy B) {v u : Value} (hdg : decode cc pc = .ok (.dup2, 1)) (hv : v.category = 1) (hu : u.category = 1) (k : WB p l e R s m args below meth c nL D cy B cells slots Q g d lv (pc + 1) (v :: u :: v :: u :: rest)) : WB p l e R s m args below meth c nL D cy B cells slots Q g d lv pc (v :: u :: rest) := fun H locs ls hl hP hS => lv_dup2_11 C.1 C.2.1 hdg hv hu (k H locs ls hl hP hS)
theorem b_fconst0 (C : Cx p s m args c cc nL own D cy B)  (hdg : decode cc pc = .ok (.fconst 0, 1))  (k : WB p l e R s m args below meth c nL D cy B cells slots Q g d lv (pc + 1) (.float FP.fconst0 :: rest)) : WB p l e R s m args below meth c nL D cy B cells slots Q g d lv pc rest := fun H locs ls hl hP hS => lv_fconst0 C.1 C.2.1 hdg (k H locs ls hl hP hS)
theorem b_fcmp (C : Cx p s m args c cc nL own D cy B) {x y : UInt32} {op : CmpOp} (hdg : decode cc pc = .ok (.fcmp op, 1))  (k : WB p l e R s m args below meth c nL D cy B cells slots Q g d lv (pc + 1) (.int (Op.cmpValue (FP.fcmp x y) op) :: rest)) : WB p l e R s m args below meth c nL D cy B cells slots Q g d lv pc (.float y :: .float x :: rest) := fun H locs ls hl hP hS => lv_fcmp C.1 C.2.1 hdg (k H locs ls hl hP hS)
theorem b_lcmp (C : Cx p s m args c cc nL own D cy B) {x y : Int64} (hdg : decode cc pc = .ok (.lcmp, 1))  (k : WB p l e R s m args below meth c nL D cy B cells slots Q g d lv (pc + 1) (.int (lg_cmp x y) :: rest)) : WB p l e R s m args below meth c nL D cy B cells slots Q g d lv pc (.long y :: .long x :: rest) := fun H locs ls hl hP hS => W.lcmp C.1 C.2.1 hdg (k H locs ls hl hP hS)
theorem b_if_eq (C : Cx p s m args c cc nL own D cy B) {x : Int32} {off : Int} {tgt : Nat} (hdg : decode cc pc = .ok (.ifCond .eq off, 3)) (ht : (pc : Int) + off = (tgt : Int)) (kt : x = 0 → WB p l e R s m args below meth c nL D cy B cells slots Q g d lv tgt rest) (kf : ¬ x = 0 → WB p l e R s m args below meth c nL D cy B cells slots Q g d lv (pc + 3) rest) : WB p l e R s m args below meth c nL D cy B cells slots Q g d lv pc (.int x :: rest) := fun H locs ls hl hP hS => lv_if_eq C.1 C.2.1 hdg ht (fun h => kt h H locs ls hl hP hS) (fun h => kf h H locs ls hl hP hS)
theorem b_if_ne (C : Cx p s m args c cc nL own D cy B) {x : Int32} {off : Int} {tgt : Nat} (hdg : decode cc pc = .ok (.ifCond .ne off, 3)) (ht : (pc : Int) + off = (tgt : Int)) (kt : ¬ x = 0 → WB p l e R s m args below meth c nL D cy B cells slots Q g d lv tgt rest) (kf : x = 0 → WB p l e R s m args below meth c nL D cy B cells slots Q g d lv (pc + 3) rest) : WB p l e R s m args below meth c nL D cy B cells slots Q g d lv pc (.int x :: rest) := fun H locs ls hl hP hS => lv_if_ne C.1 C.2.1 hdg ht (fun h => kt h H locs ls hl hP hS) (fun h => kf h H locs ls hl hP hS)
theorem b_if_lt (C : Cx p s m args c cc nL own D cy B) {x : Int32} {off : Int} {tgt : Nat} (hdg : decode cc pc = .ok (.ifCond .lt off, 3)) (ht : (pc : Int) + off = (tgt : Int)) (kt : x < 0 → WB p l e R s m args below meth c nL D cy B cells slots Q g d lv tgt rest) (kf : ¬ x < 0 → WB p l e R s m args below meth c nL D cy B cells slots Q g d lv (pc + 3) rest) : WB p l e R s m args below meth c nL D cy B cells slots Q g d lv pc (.int x :: rest) := fun H locs ls hl hP hS => lv_if_lt C.1 C.2.1 hdg ht (fun h => kt h H locs ls hl hP hS) (fun h => kf h H locs ls hl hP hS)
theorem b_if_ge (C : Cx p s m args c cc nL own D cy B) {x : Int32} {off : Int} {tgt : Nat} (hdg : decode cc pc = .ok (.ifCond .ge off, 3)) (ht : (pc : Int) + off = (tgt : Int)) (kt : 0 ≤ x → WB p l e R s m args below meth c nL D cy B cells slots Q g d lv tgt rest) (kf : ¬ 0 ≤ x → WB p l e R s m args below meth c nL D cy B cells slots Q g d lv (pc + 3) rest) : WB p l e R s m args below meth c nL D cy B cells slots Q g d lv pc (.int x :: rest) := fun H locs ls hl hP hS => lv_if_ge C.1 C.2.1 hdg ht (fun h => kt h H locs ls hl hP hS) (fun h => kf h H locs ls hl hP hS)
theorem b_if_gt (C : Cx p s m args c cc nL own D cy B) {x : Int32} {off : Int} {tgt : Nat} (hdg : decode cc pc = .ok (.ifCond .gt off, 3)) (ht : (pc : Int) + off = (tgt : Int)) (kt : 0 < x → WB p l e R s m args below meth c nL D cy B cells slots Q g d lv tgt rest) (kf : ¬ 0 < x → WB p l e R s m args below meth c nL D cy B cells slots Q g d lv (pc + 3) rest) : WB p l e R s m args below meth c nL D cy B cells slots Q g d lv pc (.int x :: rest) := fun H locs ls hl hP hS => lv_if_gt C.1 C.2.1 hdg ht (fun h => kt h H locs ls hl hP hS) (fun h => kf h H locs ls hl hP hS)
theorem b_if_le (C : Cx p s m args c cc nL own D cy B) {x : Int32} {off : Int} {tgt : Nat} (hdg : decode cc pc = .ok (.ifCond .le off, 3)) (ht : (pc : Int) + off = (tgt : Int)) (kt : x ≤ 0 → WB p l e R s m args below meth c nL D cy B cells slots Q g d lv tgt rest) (kf : ¬ x ≤ 0 → WB p l e R s m args below meth c nL D cy B cells slots Q g d lv (pc + 3) rest) : WB p l e R s m args below meth c nL D cy B cells slots Q g d lv pc (.int x :: rest) := fun H locs ls hl hP hS => lv_if_le C.1 C.2.1 hdg ht (fun h => kt h H locs ls hl hP hS) (fun h => kf h H locs ls hl hP hS)
theorem b_icmp_eq (C : Cx p s m args c cc nL own D cy B) {x y : Int32} {off : Int} {tgt : Nat} (hdg : decode cc pc = .ok (.if_icmp .eq off, 3)) (ht : (pc : Int) + off = (tgt : Int)) (kt : x = y → WB p l e R s m args below meth c nL D cy B cells slots Q g d lv tgt rest) (kf : ¬ x = y → WB p l e R s m args below meth c nL D cy B cells slots Q g d lv (pc + 3) rest) : WB p l e R s m args below meth c nL D cy B cells slots Q g d lv pc (.int y :: .int x :: rest) := fun H locs ls hl hP hS => lv_icmp_eq C.1 C.2.1 hdg ht (fun h => kt h H locs ls hl hP hS) (fun h => kf h H locs ls hl hP hS)
theorem b_icmp_ne (C : Cx p s m args c cc nL own D cy B) {x y : Int32} {off : Int} {tgt : Nat} (hdg : decode cc pc = .ok (.if_icmp .ne off, 3)) (ht : (pc : Int) + off = (tgt : Int)) (kt : ¬ x = y → WB p l e R s m args below meth c nL D cy B cells slots Q g d lv tgt rest) (kf : x = y → WB p l e R s m args below meth c nL D cy B cells slots Q g d lv (pc + 3) rest) : WB p l e R s m args below meth c nL D cy B cells slots Q g d lv pc (.int y :: .int x :: rest) := fun H locs ls hl hP hS => lv_icmp_ne C.1 C.2.1 hdg ht (fun h => kt h H locs ls hl hP hS) (fun h => kf h H locs ls hl hP hS)
theorem b_icmp_lt (C : Cx p s m args c cc nL own D cy B) {x y : Int32} {off : Int} {tgt : Nat} (hdg : decode cc pc = .ok (.if_icmp .lt off, 3)) (ht : (pc : Int) + off = (tgt : Int)) (kt : x < y → WB p l e R s m args below meth c nL D cy B cells slots Q g d lv tgt rest) (kf : ¬ x < y → WB p l e R s m args below meth c nL D cy B cells slots Q g d lv (pc + 3) rest) : WB p l e R s m args below meth c nL D cy B cells slots Q g d lv pc (.int y :: .int x :: rest) := fun H locs ls hl hP hS => lv_icmp_lt C.1 C.2.1 hdg ht (fun h => kt h H locs ls hl hP hS) (fun h => kf h H locs ls hl hP hS)
theorem b_icmp_ge (C : Cx p s m args c cc nL own D cy B) {x y : Int32} {off : Int} {tgt : Nat} (hdg : decode cc pc = .ok (.if_icmp .ge off, 3)) (ht : (pc : Int) + off = (tgt : Int)) (kt : y ≤ x → WB p l e R s m args below meth c nL D cy B cells slots Q g d lv tgt rest) (kf : ¬ y ≤ x → WB p l e R s m args below meth c nL D cy B cells slots Q g d lv (pc + 3) rest) : WB p l e R s m args below meth c nL D cy B cells slots Q g d lv pc (.int y :: .int x :: rest) := fun H locs ls hl hP hS => lv_icmp_ge C.1 C.2.1 hdg ht (fun h => kt h H locs ls hl hP hS) (fun h => kf h H locs ls hl hP hS)
theorem b_icmp_gt (C : Cx p s m args c cc nL own D cy B) {x y : Int32} {off : Int} {tgt : Nat} (hdg : decode cc pc = .ok (.if_icmp .gt off, 3)) (ht : (pc : Int) + off = (tgt : Int)) (kt : y < x → WB p l e R s m args below meth c nL D cy B cells slots Q g d lv tgt rest) (kf : ¬ y < x → WB p l e R s m args below meth c nL D cy B cells slots Q g d lv (pc + 3) rest) : WB p l e R s m args below meth c nL D cy B cells slots Q g d lv pc (.int y :: .int x :: rest) := fun H locs ls hl hP hS => lv_icmp_gt C.1 C.2.1 hdg ht (fun h => kt h H locs ls hl hP hS) (fun h => kf h H locs ls hl hP hS)
theorem b_icmp_le (C : Cx p s m args c cc nL own D cy B) {x y : Int32} {off : Int} {tgt : Nat} (hdg : decode cc pc = .ok (.if_icmp .le off, 3)) (ht : (pc : Int) + off = (tgt : Int)) (kt : x ≤ y → WB p l e R s m args below meth c nL D cy B cells slots Q g d lv tgt rest) (kf : ¬ x ≤ y → WB p l e R s m args below meth c nL D cy B cells slots Q g d lv (pc + 3) rest) : WB p l e R s m args below meth c nL D cy B cells slots Q g d lv pc (.int y :: .int x :: rest) := fun H locs ls hl hP hS => lv_icmp_le C.1 C.2.1 hdg ht (fun h => kt h H locs ls hl hP hS) (fun h => kf h H locs ls hl hP hS)
theorem b_goto (C : Cx p s m args c cc nL own D cy B) {off : Int} {tgt : Nat} (hdg : decode cc pc = .ok (.goto off, 3)) (ht : (pc : Int) + off = (tgt : Int)) (k : WB p l e R s m args below meth c nL D cy B cells slots Q g d lv tgt rest) : WB p l e R s m args below meth c nL D cy B cells slots Q g d lv pc rest := fun H locs ls hl hP hS => lv_goto C.1 C.2.1 hdg ht (k H locs ls hl hP hS)
theorem b_tabOut (C : Cx p s m args c cc nL own D cy B) {dflt lo hi : Int} {offs : Array Int} {len : Nat} {x : Int32} {tgt : Nat} (hdg : decode cc pc = .ok (.tableswitch dflt lo hi offs, len)) (h : x.toInt < lo ∨ hi < x.toInt) (ht : (pc : Int) + dflt = (tgt : Int)) (k : WB p l e R s m args below meth c nL D cy B cells slots Q g d lv tgt rest) : WB p l e R s m args below meth c nL D cy B cells slots Q g d lv pc (.int x :: rest) := fun H locs ls hl hP hS => lv_tableOut C.1 C.2.1 hdg h ht (k H locs ls hl hP hS)
theorem b_tabIn (C : Cx p s m args c cc nL own D cy B) {dflt lo hi off : Int} {offs : Array Int} {len : Nat} {x v : Int32} {tgt : Nat} (hdg : decode cc pc = .ok (.tableswitch dflt lo hi offs, len)) (hx : x = v) (h1 : ¬ v.toInt < lo) (h2 : ¬ hi < v.toInt) (ho : offs[(v.toInt - lo).toNat]? = some off) (ht : (pc : Int) + off = (tgt : Int)) (k : WB p l e R s m args below meth c nL D cy B cells slots Q g d lv tgt rest) : WB p l e R s m args below meth c nL D cy B cells slots Q g d lv pc (.int x :: rest) := fun H locs ls hl hP hS => lv_tableIn C.1 C.2.1 hdg (by rw [hx]; exact h1) (by rw [hx]; exact h2) (by rw [hx]; exact ho) ht (k H locs ls hl hP hS)
theorem b_sub (lv' : List (Nat × Value)) (ks : List Nat) (h : lv_pick lv ks = lv') (k : WB p l e R s m args below meth c nL D cy B cells slots Q g d lv' pc rest) : WB p l e R s m args below meth c nL D cy B cells slots Q g d lv pc rest := fun H locs ls hl hP hS => k H locs ls (lv_sub hl ks h) hP hS
theorem b_eq {g1 : Gs} {d1 : Ds} {st1 : List Value} (hg : g = g1) (hd : d = d1) (hs : rest = st1) (k : WB p l e R s m args below meth c nL D cy B cells slots Q g1 d1 lv pc st1) : WB p l e R s m args below meth c nL D cy B cells slots Q g d lv pc rest := by
  subst hg; subst hd; subst hs
  exact k
theorem WP.set {H1 : Heap} {g1 : Gs} {d1 : Ds} {r : Nat} {e : va_E} {H : Heap} (hP : WP D cy B g d H) (hr : r < gN g) (hg : gN g1 = gN g) (ho : ∀ x, x < gN g → x ≠ r → cel B cy g d x = cel B cy g1 d1 x) (he : cel B cy g1 d1 r = e) (hP1 : va_P D vwCl ((wls B cy g d).set r (ad B r, e)) H1) : WP D cy B g1 d1 H1 := by
  rw [wls_set hr hg ho he] at hP1
  exact ⟨by rw [hg]; exact hP.1, hP1⟩
theorem tys8_at {t : Nat} (h : t < 8) : (tys8 cy)[t]? = some (cy t, tyk t) := by
  match t, h with
  | 0, _ => rfl
  | 1, _ => rfl
  | 2, _ => rfl
  | 3, _ => rfl
  | 4, _ => rfl
  | 5, _ => rfl
  | 6, _ => rfl
  | 7, _ => rfl
  | n + 8, h => exact absurd h (by omega)
/-- what a field's access rests on: own class, place in its pool, class and field -/
def FL (own : String) (index cl j : Nat) : Prop := ∃ (CN : String) (T : u_T) (N : Nat), vwCl[cl]? = some (CN, T, N) ∧ j < N ∧ (∀ w ∈ u_ws CN T N, w ∈ wl) ∧ (Cond.fieldLink own index (T j).1 (T j).2.1 (T j).2.2.1 ∈ wl ∨ Cond.fieldLinkNest own index (T j).1 (T j).2.1 (T j).2.2.1 "KeyMatrix" ∈ lw_tbl)
def FT (cl : Nat) : Prop := ∃ (CN : String) (T : u_T) (N : Nat) (ty : Nat → FieldType), vwCl[cl]? = some (CN, T, N) ∧ (∀ k, k < N → parseFieldDescriptor (T k).2.2.1 = some (ty k)) ∧ (∀ a, a < N → ∀ b, b < N → a ≠ b → (T a).2.1 ≠ (T b).2.1)
theorem fN_of {cl : Nat} {q : vw_C} (h : vwCl[cl]? = some q) : fN cl = q.2.2 := by
  unfold fN
  rw [h]
theorem vp_in_of2 {i : Int32} {n : Nat} (h : ¬ (i < 0 ∨ n ≤ i.toNatClampNeg)) : vp_in i n := h
theorem b_get0 (C : Cx p s m args c cc nL own D cy B) {index cl j r : Nat} (hf : FL own index cl j) (hq : chk g r cl) (hc : cl < 100) (hdg : decode cc pc = .ok (.getfield index, 3)) (k : WB p l e R s m args below meth c nL D cy B cells slots Q g d lv (pc + 3) (fv B g d r cl j :: rest)) : WB p l e R s m args below meth c nL D cy B cells slots Q g d lv pc (.ref (ad B r) :: rest) := by
  intro H locs ls hl hP hS
  obtain ⟨CN, T, N, h1, h2, h3, h4⟩ := hf
  obtain ⟨hx, hb, hml, hown, hts, hK, -, hN⟩ := C
  have hj : j < fN cl := by rw [fN_of h1]; exact h2
  rcases h4 with h4 | h4
  · exact va_get (D := D) hx hb hts h3 hown hK hP.2 r ((wls_at hq.1).trans (by rw [cel_o hq.2 hc])) h1 j h2 (hts _ h4) (fun _ h9 => h9) (fls_at hj) hdg (k H locs ls hl hP hS)
  · exact va_getN (D := D) hx hb hts h3 hown hK hP.2 r ((wls_at hq.1).trans (by rw [cel_o hq.2 hc])) h1 j h2 (va_Nw.use rfl (hN _ h4 rfl)) (fun _ h9 => h9) (fls_at hj) hdg (k H locs ls hl hP hS)
theorem b_getI (C : Cx p s m args c cc nL own D cy B) {index cl j r : Nat} (hf : FL own index cl j) (hq : chk g r cl) (hc : cl < 100) (hr : fR cl j = false) (hdg : decode cc pc = .ok (.getfield index, 3)) (k : WB p l e R s m args below meth c nL D cy B cells slots Q g d lv (pc + 3) (.int (dI d r j) :: rest)) : WB p l e R s m args below meth c nL D cy B cells slots Q g d lv pc (.ref (ad B r) :: rest) := by
  refine b_get0 C hf hq hc hdg ?_
  have e : fv B g d r cl j = .int (dI d r j) := by unfold fv; rw [hr]; rfl
  rw [e]
  exact k
theorem b_getR (C : Cx p s m args c cc nL own D cy B) {index cl j r r1 : Nat} (hf : FL own index cl j) (hq : chk g r cl) (hc : cl < 100) (hr : fR cl j = true) (he : gR g r j = some r1) (hdg : decode cc pc = .ok (.getfield index, 3)) (k : WB p l e R s m args below meth c nL D cy B cells slots Q g d lv (pc + 3) (.ref (ad B r1) :: rest)) : WB p l e R s m args below meth c nL D cy B cells slots Q g d lv pc (.ref (ad B r) :: rest) := by
  refine b_get0 C hf hq hc hdg ?_
  have e : fv B g d r cl j = .ref (ad B r1) := by unfold fv; rw [hr, he]; rfl
  rw [e]
  exact k
def okb (cl j : Nat) (v : Int32) : Prop := ∃ q : vw_C, vwCl[cl]? = some q ∧ (q.2.1 j).2.2.2 = false ∧ ((q.2.1 j).2.2.1 = "I" ∨ ((q.2.1 j).2.2.1 = "Z" ∧ (v = 0 ∨ v = 1)))
theorem nar_ib {ds : String} {ty : FieldType} {v : Int32} (h : ds = "I" ∨ (ds = "Z" ∧ (v = 0 ∨ v = 1))) (hp : parseFieldDescriptor ds = some ty) : narrow ty (.int v) = .int v ∧ fits ty (.int v) = true := by
  rcases h with rfl | ⟨rfl, h⟩
  · have e : parseFieldDescriptor "I" = some .int := by decide +kernel
    rw [e] at hp
    cases hp
    exact ⟨rfl, rfl⟩
  · have e : parseFieldDescriptor "Z" = some .boolean := by decide +kernel
    rw [e] at hp
    cases hp
    rcases h with rfl | rfl <;> exact ⟨by decide +kernel, by decide +kernel⟩
theorem sI_at {r j k : Nat} {v : Int32} : dI (sI d r j v) r k = if k = j then v else dI d r k := by
  by_cases h : k = j <;> simp [dI, sI, va_up, h]
theorem b_putI (C : Cx p s m args c cc nL own D cy B) {index cl j r : Nat} {v : Int32} {d1 : Ds} (hf : FL own index cl j) (ht : FT cl) (hq : chk g r cl) (hc : cl < 100) (hr : fR cl j = false) (ho : okb cl j v) (hd1 : d1 = sI d r j v) (hdg : decode cc pc = .ok (.putfield index, 3)) (k : WB p l e R s m args below meth c nL D cy B cells slots Q g d1 lv (pc + 3) rest) : WB p l e R s m args below meth c nL D cy B cells slots Q g d lv pc (.int v :: .ref (ad B r) :: rest) := by
  intro H locs ls hl hP hS
  obtain ⟨CN, T, N, h1, h2, h3, h4⟩ := hf
  obtain ⟨CN', T', N', ty, t1, t2, t3⟩ := ht
  rw [h1] at t1
  cases t1
  obtain ⟨hx, hb, hml, hown, hts, hK, hSx, hN⟩ := C
  have hj : j < fN cl := by rw [fN_of h1]; exact h2
  obtain ⟨q, e1, ho1, ho2⟩ := ho
  rw [h1] at e1
  cases e1
  have hn := nar_ib ho2 (t2 j h2)
  subst hd1
  have fin : cel B cy g (sI d r j v) r = .inr (cl, (fls B g d r cl).set j (.int v)) := by
    rw [cel_o hq.2 hc]
    congr 2
    refine (fls_set hj (fun x hx => ?_) ?_).symm
    · unfold fv
      rw [sI_at, if_neg hx]
    · unfold fv
      rw [hr, sI_at, if_pos rfl]
      rfl
  rcases h4 with h4 | h4
  · exact va_put (D := D) hx hb hts h3 ty t2 t3 hown hK hP.2 (wls_D hP.1) hS r ((wls_at hq.1).trans (by rw [cel_o hq.2 hc])) h1 j h2 (hts _ h4) (fun _ h9 => h9) ho1 (t2 j h2) hn.1 hn.2 (by simpa [fls] using hj) hdg (fun H1 locs1 hP1 hD1 hS1 => k H1 locs1 ls hl (hP.set hq.1 rfl (fun x _ hx => sI_o hx) fin hP1) hS1)
  · exact va_putN (D := D) hx hb hts h3 ty t2 t3 hown hK hP.2 (wls_D hP.1) hS r ((wls_at hq.1).trans (by rw [cel_o hq.2 hc])) h1 j h2 (va_Nw.use rfl (hN _ h4 rfl)) (fun _ h9 => h9) ho1 (t2 j h2) hn.1 hn.2 (by simpa [fls] using hj) hdg (fun H1 locs1 hP1 hD1 hS1 => k H1 locs1 ls hl (hP.set hq.1 rfl (fun x _ hx => sI_o hx) fin hP1) hS1)
theorem upd_eq (f : Nat → Int32) (k : Nat) (x : Int32) : upd f k x = va_up f k x := by
  funext j
  by_cases h : j = k <;> simp [upd, va_up, h]
theorem updL_eq (f : Nat → Int64) (k : Nat) (x : Int64) : vp_updL f k x = va_up f k x := by
  funext j
  by_cases h : j = k <;> simp [vp_updL, va_up, h]
theorem updF_eq (f : Nat → UInt32) (k : Nat) (x : UInt32) : vf_upd f k x = va_up f k x := by
  funext j
  by_cases h : j = k <;> simp [vf_upd, va_up, h]
theorem sI_row {r j : Nat} {v : Int32} : dI (sI d r j v) r = va_up (dI d r) j v := by simp [dI, sI, va_up]
theorem sF_row {r j : Nat} {v : UInt32} : dF (sF d r j v) r = va_up (dF d r) j v := by simp [dF, sF, va_up]
theorem sL_row {r j : Nat} {v : Int64} : dL (sL d r j v) r = va_up (dL d r) j v := by simp [dL, sL, va_up]
theorem sW_row {r j : Nat} {v : Option Nat} : dW (sW d r j v) r = va_up (dW d r) j v := by simp [dW, sW, va_up]
theorem cI_row {a r sp dp n : Nat} : dI (cI d a r sp dp n) r = va_cpy (dI d a) (dI d r) sp dp n := by simp [dI, cI, va_up]
theorem cF_row {a r sp dp n : Nat} : dF (cF d a r sp dp n) r = va_cpy (dF d a) (dF d r) sp dp n := by simp [dF, cF, va_up]
theorem b_iald (C : Cx p s m args c cc nL own D cy B) {r : Nat} {i : Int32} (hq : chk g r 102) (hi : ¬ (i < 0 ∨ gL g r ≤ i.toNatClampNeg)) (hdg : decode cc pc = .ok (.iaload, 1)) (k : WB p l e R s m args below meth c nL D cy B cells slots Q g d lv (pc + 1) (.int (dI d r i.toNatClampNeg) :: rest)) : WB p l e R s m args below meth c nL D cy B cells slots Q g d lv pc (.int i :: .ref (ad B r) :: rest) := by
  intro H locs ls hl hP hS
  obtain ⟨hx, hb, hml, hown, hts, hK, -⟩ := C
  exact va_iald (D := D) hx hb hK hP.2 r 2 ((wls_at hq.1).trans (by rw [cel_a (t := 2) hq.2]; rfl)) rfl hi hdg (k H locs ls hl hP hS)
theorem b_bald (C : Cx p s m args c cc nL own D cy B) {r : Nat} {i : Int32} (hq : chk g r 100) (hi : ¬ (i < 0 ∨ gL g r ≤ i.toNatClampNeg)) (hdg : decode cc pc = .ok (.baload, 1)) (k : WB p l e R s m args below meth c nL D cy B cells slots Q g d lv (pc + 1) (.int (dI d r i.toNatClampNeg) :: rest)) : WB p l e R s m args below meth c nL D cy B cells slots Q g d lv pc (.int i :: .ref (ad B r) :: rest) := by
  intro H locs ls hl hP hS
  obtain ⟨hx, hb, hml, hown, hts, hK, -⟩ := C
  exact va_bald (D := D) hx hb hK hP.2 r 0 ((wls_at hq.1).trans (by rw [cel_a (t := 0) hq.2]; rfl)) rfl hi hdg (k H locs ls hl hP hS)
theorem b_zald (C : Cx p s m args c cc nL own D cy B) {r : Nat} {i : Int32} (hq : chk g r 104) (hi : ¬ (i < 0 ∨ gL g r ≤ i.toNatClampNeg)) (hdg : decode cc pc = .ok (.baload, 1)) (k : WB p l e R s m args below meth c nL D cy B cells slots Q g d lv (pc + 1) (.int (dI d r i.toNatClampNeg) :: rest)) : WB p l e R s m args below meth c nL D cy B cells slots Q g d lv pc (.int i :: .ref (ad B r) :: rest) := by
  intro H locs ls hl hP hS
  obtain ⟨hx, hb, hml, hown, hts, hK, -⟩ := C
  exact va_zald (D := D) hx hb hK hP.2 r 4 ((wls_at hq.1).trans (by rw [cel_a (t := 4) hq.2]; rfl)) rfl hi hdg (k H locs ls hl hP hS)
theorem b_lald (C : Cx p s m args c cc nL own D cy B) {r : Nat} {i : Int32} (hq : chk g r 103) (hi : ¬ (i < 0 ∨ gL g r ≤ i.toNatClampNeg)) (hdg : decode cc pc = .ok (.laload, 1)) (k : WB p l e R s m args below meth c nL D cy B cells slots Q g d lv (pc + 1) (.long (dL d r i.toNatClampNeg) :: rest)) : WB p l e R s m args below meth c nL D cy B cells slots Q g d lv pc (.int i :: .ref (ad B r) :: rest) := by
  intro H locs ls hl hP hS
  obtain ⟨hx, hb, hml, hown, hts, hK, -⟩ := C
  exact va_lald (D := D) hx hb hK hP.2 r 3 ((wls_at hq.1).trans (by rw [cel_a (t := 3) hq.2]; rfl)) rfl hi hdg (k H locs ls hl hP hS)
theorem b_fald (C : Cx p s m args c cc nL own D cy B) {r : Nat} {i : Int32} (hq : chk g r 101) (hi : ¬ (i < 0 ∨ gL g r ≤ i.toNatClampNeg)) (hdg : decode cc pc = .ok (.faload, 1)) (k : WB p l e R s m args below meth c nL D cy B cells slots Q g d lv (pc + 1) (.float (dF d r i.toNatClampNeg) :: rest)) : WB p l e R s m args below meth c nL D cy B cells slots Q g d lv pc (.int i :: .ref (ad B r) :: rest) := by
  intro H locs ls hl hP hS
  obtain ⟨hx, hb, hml, hown, hts, hK, -⟩ := C
  exact va_fald (D := D) hx hb hK hP.2 r 1 ((wls_at hq.1).trans (by rw [cel_a (t := 1) hq.2]; rfl)) rfl hi hdg (k H locs ls hl hP hS)
theorem b_aaldD (C : Cx p s m args c cc nL own D cy B) {r r1 : Nat} {i : Int32} (hq : chk g r 105) (hi : ¬ (i < 0 ∨ gL g r ≤ i.toNatClampNeg)) (he : gR g r i.toNatClampNeg = some r1) (hdg : decode cc pc = .ok (.aaload, 1)) (k : WB p l e R s m args below meth c nL D cy B cells slots Q g d lv (pc + 1) (.ref (ad B r1) :: rest)) : WB p l e R s m args below meth c nL D cy B cells slots Q g d lv pc (.int i :: .ref (ad B r) :: rest) := by
  intro H locs ls hl hP hS
  obtain ⟨hx, hb, hml, hown, hts, hK, -⟩ := C
  refine va_aldq (D := D) hx hb hK hP.2 r 5 ((wls_at hq.1).trans (by rw [cel_a (t := 5) hq.2]; rfl)) rfl hi hdg ?_
  rw [he]
  exact k H locs ls hl hP hS
theorem b_aaldC (C : Cx p s m args c cc nL own D cy B) {r r1 : Nat} {i : Int32} (hq : chk g r 106) (hi : ¬ (i < 0 ∨ gL g r ≤ i.toNatClampNeg)) (he : gR g r i.toNatClampNeg = some r1) (hdg : decode cc pc = .ok (.aaload, 1)) (k : WB p l e R s m args below meth c nL D cy B cells slots Q g d lv (pc + 1) (.ref (ad B r1) :: rest)) : WB p l e R s m args below meth c nL D cy B cells slots Q g d lv pc (.int i :: .ref (ad B r) :: rest) := by
  intro H locs ls hl hP hS
  obtain ⟨hx, hb, hml, hown, hts, hK, -⟩ := C
  refine va_aldq (D := D) hx hb hK hP.2 r 6 ((wls_at hq.1).trans (by rw [cel_a (t := 6) hq.2]; rfl)) rfl hi hdg ?_
  rw [he]
  exact k H locs ls hl hP hS
theorem b_aaldW (C : Cx p s m args c cc nL own D cy B) {r : Nat} {i : Int32} (hq : chk g r 107) (hi : ¬ (i < 0 ∨ gL g r ≤ i.toNatClampNeg)) (hdg : decode cc pc = .ok (.aaload, 1)) (k : WB p l e R s m args below meth c nL D cy B cells slots Q g d lv (pc + 1) (rv B (dW d r i.toNatClampNeg) :: rest)) : WB p l e R s m args below meth c nL D cy B cells slots Q g d lv pc (.int i :: .ref (ad B r) :: rest) := by
  intro H locs ls hl hP hS
  obtain ⟨hx, hb, hml, hown, hts, hK, -⟩ := C
  exact va_aldq (D := D) (f := fun i => (dW d r i).map (ad B)) hx hb hK hP.2 r 7 ((wls_at hq.1).trans (by rw [cel_a (t := 7) hq.2]; rfl)) rfl hi hdg (k H locs ls hl hP hS)
theorem b_iast (C : Cx p s m args c cc nL own D cy B) {r : Nat} {i : Int32} {x : Int32} {d1 : Ds} (hq : chk g r 102) (hi : ¬ (i < 0 ∨ gL g r ≤ i.toNatClampNeg)) (hd1 : d1 = sI d r i.toNatClampNeg x) (hdg : decode cc pc = .ok (.iastore, 1)) (k : WB p l e R s m args below meth c nL D cy B cells slots Q g d1 lv (pc + 1) rest) : WB p l e R s m args below meth c nL D cy B cells slots Q g d lv pc (.int x :: .int i :: .ref (ad B r) :: rest) := by
  intro H locs ls hl hP hS
  obtain ⟨hx, hb, hml, hown, hts, hK, -⟩ := C
  subst hd1
  refine va_iast (D := D) hx hb hK hP.2 (wls_D hP.1) hS r 2 ((wls_at hq.1).trans (by rw [cel_a (t := 2) hq.2]; rfl)) rfl hi hdg (fun H1 locs1 hP1 hD1 hS1 => k H1 locs1 ls hl (hP.set hq.1 rfl (fun x _ hx => sI_o hx) ?_ hP1) hS1)
  rw [cel_a (t := 2) hq.2, upd_eq]
  unfold ar
  rw [sI_row]
  rfl
theorem b_bast (C : Cx p s m args c cc nL own D cy B) {r : Nat} {i : Int32} {x : Int32} {d1 : Ds} (hq : chk g r 100) (hi : ¬ (i < 0 ∨ gL g r ≤ i.toNatClampNeg)) (hd1 : d1 = sI d r i.toNatClampNeg (vp_nar .byte x)) (hdg : decode cc pc = .ok (.bastore, 1)) (k : WB p l e R s m args below meth c nL D cy B cells slots Q g d1 lv (pc + 1) rest) : WB p l e R s m args below meth c nL D cy B cells slots Q g d lv pc (.int x :: .int i :: .ref (ad B r) :: rest) := by
  intro H locs ls hl hP hS
  obtain ⟨hx, hb, hml, hown, hts, hK, -⟩ := C
  subst hd1
  refine va_bast (D := D) hx hb hK hP.2 (wls_D hP.1) hS r 0 ((wls_at hq.1).trans (by rw [cel_a (t := 0) hq.2]; rfl)) rfl hi hdg (fun H1 locs1 hP1 hD1 hS1 => k H1 locs1 ls hl (hP.set hq.1 rfl (fun x _ hx => sI_o hx) ?_ hP1) hS1)
  rw [cel_a (t := 0) hq.2, upd_eq]
  unfold ar
  rw [sI_row]
  rfl
theorem b_zast (C : Cx p s m args c cc nL own D cy B) {r : Nat} {i : Int32} {x : Int32} {d1 : Ds} (hq : chk g r 104) (hi : ¬ (i < 0 ∨ gL g r ≤ i.toNatClampNeg)) (hd1 : d1 = sI d r i.toNatClampNeg (vp_nar .boolean x)) (hdg : decode cc pc = .ok (.bastore, 1)) (k : WB p l e R s m args below meth c nL D cy B cells slots Q g d1 lv (pc + 1) rest) : WB p l e R s m args below meth c nL D cy B cells slots Q g d lv pc (.int x :: .int i :: .ref (ad B r) :: rest) := by
  intro H locs ls hl hP hS
  obtain ⟨hx, hb, hml, hown, hts, hK, -⟩ := C
  subst hd1
  refine va_zast (D := D) hx hb hK hP.2 (wls_D hP.1) hS r 4 ((wls_at hq.1).trans (by rw [cel_a (t := 4) hq.2]; rfl)) rfl hi hdg (fun H1 locs1 hP1 hD1 hS1 => k H1 locs1 ls hl (hP.set hq.1 rfl (fun x _ hx => sI_o hx) ?_ hP1) hS1)
  rw [cel_a (t := 4) hq.2, upd_eq]
  unfold ar
  rw [sI_row]
  rfl
theorem b_last (C : Cx p s m args c cc nL own D cy B) {r : Nat} {i : Int32} {x : Int64} {d1 : Ds} (hq : chk g r 103) (hi : ¬ (i < 0 ∨ gL g r ≤ i.toNatClampNeg)) (hd1 : d1 = sL d r i.toNatClampNeg x) (hdg : decode cc pc = .ok (.lastore, 1)) (k : WB p l e R s m args below meth c nL D cy B cells slots Q g d1 lv (pc + 1) rest) : WB p l e R s m args below meth c nL D cy B cells slots Q g d lv pc (.long x :: .int i :: .ref (ad B r) :: rest) := by
  intro H locs ls hl hP hS
  obtain ⟨hx, hb, hml, hown, hts, hK, -⟩ := C
  subst hd1
  refine va_last (D := D) hx hb hK hP.2 (wls_D hP.1) hS r 3 ((wls_at hq.1).trans (by rw [cel_a (t := 3) hq.2]; rfl)) rfl hi hdg (fun H1 locs1 hP1 hD1 hS1 => k H1 locs1 ls hl (hP.set hq.1 rfl (fun x _ hx => sL_o hx) ?_ hP1) hS1)
  rw [cel_a (t := 3) hq.2, updL_eq]
  unfold ar
  rw [sL_row]
  rfl
theorem b_fast (C : Cx p s m args c cc nL own D cy B) {r : Nat} {i : Int32} {x : UInt32} {d1 : Ds} (hq : chk g r 101) (hi : ¬ (i < 0 ∨ gL g r ≤ i.toNatClampNeg)) (hd1 : d1 = sF d r i.toNatClampNeg x) (hdg : decode cc pc = .ok (.fastore, 1)) (k : WB p l e R s m args below meth c nL D cy B cells slots Q g d1 lv (pc + 1) rest) : WB p l e R s m args below meth c nL D cy B cells slots Q g d lv pc (.float x :: .int i :: .ref (ad B r) :: rest) := by
  intro H locs ls hl hP hS
  obtain ⟨hx, hb, hml, hown, hts, hK, -⟩ := C
  subst hd1
  refine va_fast (D := D) hx hb hK hP.2 (wls_D hP.1) hS r 1 ((wls_at hq.1).trans (by rw [cel_a (t := 1) hq.2]; rfl)) rfl hi hdg (fun H1 locs1 hP1 hD1 hS1 => k H1 locs1 ls hl (hP.set hq.1 rfl (fun x _ hx => sF_o hx) ?_ hP1) hS1)
  rw [cel_a (t := 1) hq.2, updF_eq]
  unfold ar
  rw [sF_row]
  rfl
theorem b_alen (C : Cx p s m args c cc nL own D cy B) {r t : Nat} (hq : chk g r (100 + t)) (ht : t < 8) (hdg : decode cc pc = .ok (.arraylength, 1)) (k : WB p l e R s m args below meth c nL D cy B cells slots Q g d lv (pc + 1) (.int (Int32.ofNat (gL g r)) :: rest)) : WB p l e R s m args below meth c nL D cy B cells slots Q g d lv pc (.ref (ad B r) :: rest) := by
  intro H locs ls hl hP hS
  obtain ⟨hx, hb, hml, hown, hts, hK, -⟩ := C
  exact va_alen (D := D) (v := Int32.ofNat (gL g r)) hx hb hK hP.2 r t ((wls_at hq.1).trans (by rw [cel_a hq.2])) (tys8_at ht) rfl hdg (k H locs ls hl hP hS)
def FLI (own : String) (index cl j : Nat) : Prop := FL own index cl j ∧ cl < 100 ∧ fR cl j = false
def FLR (own : String) (index cl j : Nat) : Prop := FL own index cl j ∧ cl < 100 ∧ fR cl j = true
def FPI (cl j : Nat) : Prop := FT cl ∧ ∃ q : vw_C, vwCl[cl]? = some q ∧ (q.2.1 j).2.2.2 = false ∧ (q.2.1 j).2.2.1 = "I"
def FPZ (cl j : Nat) : Prop := FT cl ∧ ∃ q : vw_C, vwCl[cl]? = some q ∧ (q.2.1 j).2.2.2 = false ∧ (q.2.1 j).2.2.1 = "Z"
theorem b_gI (C : Cx p s m args c cc nL own D cy B) {index cl j r : Nat} (hdg : decode cc pc = .ok (.getfield index, 3)) (hf : FLI own index cl j) (hq : chk g r cl) (k : WB p l e R s m args below meth c nL D cy B cells slots Q g d lv (pc + 3) (.int (dI d r j) :: rest)) : WB p l e R s m args below meth c nL D cy B cells slots Q g d lv pc (.ref (ad B r) :: rest) := b_getI C hf.1 hq hf.2.1 hf.2.2 hdg k
theorem b_gR (C : Cx p s m args c cc nL own D cy B) {index cl j r r1 : Nat} (hdg : decode cc pc = .ok (.getfield index, 3)) (hf : FLR own index cl j) (hq : chk g r cl) (he : gR g r j = some r1) (k : WB p l e R s m args below meth c nL D cy B cells slots Q g d lv (pc + 3) (.ref (ad B r1) :: rest)) : WB p l e R s m args below meth c nL D cy B cells slots Q g d lv pc (.ref (ad B r) :: rest) := b_getR C hf.1 hq hf.2.1 hf.2.2 he hdg k
theorem b_pI (C : Cx p s m args c cc nL own D cy B) {index cl j r : Nat} {v : Int32} {d1 : Ds} (hdg : decode cc pc = .ok (.putfield index, 3)) (hf : FLI own index cl j) (ht : FPI cl j) (hq : chk g r cl) (hd1 : d1 = sI d r j v) (k : WB p l e R s m args below meth c nL D cy B cells slots Q g d1 lv (pc + 3) rest) : WB p l e R s m args below meth c nL D cy B cells slots Q g d lv pc (.int v :: .ref (ad B r) :: rest) := b_putI C hf.1 ht.1 hq hf.2.1 hf.2.2 (by obtain ⟨-, q, h1, h2, h3⟩ := ht; exact ⟨q, h1, h2, Or.inl h3⟩) hd1 hdg k
theorem b_pZ (C : Cx p s m args c cc nL own D cy B) {index cl j r : Nat} {v : Int32} {d1 : Ds} (hdg : decode cc pc = .ok (.putfield index, 3)) (hf : FLI own index cl j) (ht : FPZ cl j) (hz : v = 0 ∨ v = 1) (hq : chk g r cl) (hd1 : d1 = sI d r j v) (k : WB p l e R s m args below meth c nL D cy B cells slots Q g d1 lv (pc + 3) rest) : WB p l e R s m args below meth c nL D cy B cells slots Q g d lv pc (.int v :: .ref (ad B r) :: rest) := b_putI C hf.1 ht.1 hq hf.2.1 hf.2.2 (by obtain ⟨-, q, h1, h2, h3⟩ := ht; exact ⟨q, h1, h2, Or.inr ⟨h3, hz⟩⟩) hd1 hdg k
end BR
end
section
/-- a method's start: its arguments, the world -/
def PC (D : va_G) (cy : Nat → ClassId) (B : Bs) (av : List Value) (g : Gs) (d : Ds) : Array Value → State → Prop := va_Pc av (fun U => WP D cy B g d U.heap ∧ va_K D vwCl (tys8 cy) U ∧ Sx B U ∧ NzS U)
def QI (D : va_G) (cy : Nat → ClassId) (B : Bs) (v : Int32) (g : Gs) (d : Ds) : Array Value → State → Outcome → State → Prop := va_Qi (fun (x : Int32) (_ : Unit) => x = v) (fun _ t => WP D cy B g d t.heap) (wA B)
def QJ (D : va_G) (cy : Nat → ClassId) (B : Bs) (v : Int64) (g : Gs) (d : Ds) : Array Value → State → Outcome → State → Prop := va_Ql (fun (x : Int64) (_ : Unit) => x = v) (fun _ t => WP D cy B g d t.heap) (wA B)
def QV (D : va_G) (cy : Nat → ClassId) (B : Bs) (g : Gs) (d : Ds) : Array Value → State → Outcome → State → Prop := va_Qv (fun (_ : Unit) => True) (fun _ t => WP D cy B g d t.heap) (wA B)
def QR (D : va_G) (cy : Nat → ClassId) (B : Bs) (v : Nat) (g : Gs) (d : Ds) : Array Value → State → Outcome → State → Prop := va_Qr (fun (_ : Unit) => True) (fun _ a t => a = ad B v ∧ WP D cy B g d t.heap) (wA B)
def QQ (D : va_G) (cy : Nat → ClassId) (B : Bs) (v : Option Nat) (g : Gs) (d : Ds) : Array Value → State → Outcome → State → Prop := va_Qq (fun (x : Option Nat) (_ : Unit) => x = v.map (ad B)) (fun _ t => WP D cy B g d t.heap) (wA B)
theorem wp_at {D : va_G} {cy : Nat → ClassId} {B : Bs} {g : Gs} {d : Ds} {t : State} {H : Heap} (ht : t.heap = H) (hP : WP D cy B g d H) : WP D cy B g d t.heap := by
  rw [ht]
  exact hP
theorem Sx.moved {B : Bs} {u U : State} (hvm : u.vm.Alike U.vm) (hq : ∀ a : Nat, a < u.heap.size → ¬ wA B a → U.heap[a]? = u.heap[a]?) (h : Sx B u) : Sx B U := ⟨fun i hi => ((h.1 i hi).moved hvm).kept hq, h.2⟩
theorem PC.blind {D : va_G} {cy : Nat → ClassId} {B : Bs} {av : List Value} {g : Gs} {d : Ds} : FrameBlind (PC D cy B av g d) := fun a U f mk q => by
  obtain ⟨q0, qP, qK, qS, qN⟩ := q
  exact ⟨q0, qP, va_K.moved (u := U) (U := U.calling f mk a) (Vm.Alike.refl U.vm) qK, Sx.moved (u := U) (U := U.calling f mk a) (Vm.Alike.refl U.vm) (fun _ _ _ => rfl) qS, NzS.same (s := U) (U := U.calling f mk a) rfl qN⟩
/-- from the walk of its body a method's contract -/
theorem met_of {l : Launch} {y : MethodName} {cd : ByteArray} {maxL : Nat} {ret : Option FieldType} {rm : Room} {D : va_G} {cy : Nat → ClassId} {B : Bs} {av : List Value} {g : Gs} {d : Ds} {Qc : Array Value → State → Outcome → State → Prop} {mc ms : Nat} (hy : plainName y.cls = true) (ha : (lg_sl av).length ≤ maxL)
    (body : ∀ (p : Program) (e : Env) (s : State) (m : MethodId) (args : Array Value) (below : List Frame) (meth : Method) (c : Code), Cx p s m args c cd maxL y.cls D cy B → meth.sig.returnType = ret → meth.locks = false → meth.name = y.name → WB p l e rm s m args below meth c maxL D cy B 0 0 (MQ below Qc args s mc ms (wA B)) g d (lv_args 0 av) 0 []) : Met l y (.code y cd maxL ret :: wl) rm (PC D cy B av g d) Qc mc ms (wA B) := by
  refine Met.ofW (cc := cd) (maxL := maxL) (ret := ret) hy rfl ?_
  intro p e s m args below meth c s1 A hml hv
  obtain ⟨ha2, hP, hK, hS, hN⟩ := hv
  have hts := atoms_spec (ws := .code y cd maxL ret :: wl) A.pre
  have hbody := body p e s m args below meth c ⟨A.exec, A.bytes, hml, findClass_of_methodNamed A.named, fun w hw => hts w (List.mem_cons_of_mem _ hw), hK, hS, hN⟩ A.returns A.notSynchronized (name_of_methodNamed A.named A.method).1
  subst ha2
  rw [lg_entry_eq]
  exact hbody s.heap [] _ (lv_entry av ha) hP va_S.rf
section BC
variable {p : Program} {l : Launch} {e : Env} {R : Room} {s : State} {m : MethodId} {args : Array Value} {below : List Frame} {meth : Method} {c : Code} {cells slots : Nat} {Q : State → Prop} {nL : Nat} {D : va_G} {cy : Nat → ClassId} {B : Bs} {g : Gs} {d : Ds} {lv : List (Nat × Value)} {pc : Nat} {cc : ByteArray} {own : String} {rest : List Value}
theorem b_iret (C : Cx p s m args c cc nL own D cy B) (hr : meth.sig.returnType = some .int) (hlocks : meth.locks = false)  {v v1 : Int32} {d1 : Ds} (h : some (v, d) = some (v1, d1)) (hdg : decode cc pc = .ok (.ireturn, 1)) : WB p l e R s m args below meth c nL D cy B cells slots (MQ below (QI D cy B v1 g d1) args s cells slots (wA B)) g d lv pc ([.int v]) := by
  cases h
  intro H locs ls hl hP hS
  obtain ⟨hx, hb, hml, hown, hts, hK, -⟩ := C
  exact W.iret hx hb hr (fun t ht hW => ⟨⟨v, (), rfl, rfl, wp_at ht hP⟩, hS.F ht⟩) hS.2.2 hdg hlocks
theorem b_lret (C : Cx p s m args c cc nL own D cy B) (hr : meth.sig.returnType = some .long) (hlocks : meth.locks = false)  {v v1 : Int64} {d1 : Ds} (h : some (v, d) = some (v1, d1)) (hdg : decode cc pc = .ok (.lreturn, 1)) : WB p l e R s m args below meth c nL D cy B cells slots (MQ below (QJ D cy B v1 g d1) args s cells slots (wA B)) g d lv pc ([.long v]) := by
  cases h
  intro H locs ls hl hP hS
  obtain ⟨hx, hb, hml, hown, hts, hK, -⟩ := C
  exact W.lret hx hb hr (fun t ht hW => ⟨⟨v, (), rfl, rfl, wp_at ht hP⟩, hS.F ht⟩) hS.2.2 hdg hlocks
theorem nar_b {v : Int32} (h : v = 0 ∨ v = 1) : narrow .boolean (.int v) = .int v := by rcases h with rfl | rfl <;> decide +kernel
theorem b_zret (C : Cx p s m args c cc nL own D cy B) (hr : meth.sig.returnType = some .boolean) (hlocks : meth.locks = false) {v v1 : Int32} {d1 : Ds} (hz : v = 0 ∨ v = 1) (h : some (v, d) = some (v1, d1)) (hdg : decode cc pc = .ok (.ireturn, 1)) : WB p l e R s m args below meth c nL D cy B cells slots (MQ below (QI D cy B v1 g d1) args s cells slots (wA B)) g d lv pc ([.int v]) := by
  cases h
  intro H locs ls hl hP hS
  obtain ⟨hx, hb, hml, hown, hts, hK, -⟩ := C
  exact W.zret hx hb hr (nar_b hz) (fun t ht hW => ⟨⟨v, (), rfl, rfl, wp_at ht hP⟩, hS.F ht⟩) hS.2.2 hdg hlocks
theorem b_vret (C : Cx p s m args c cc nL own D cy B) (hr : meth.sig.returnType = none) (hlocks : meth.locks = false) {d1 : Ds} (h : some ((), d) = some ((), d1)) (hdg : decode cc pc = .ok (.return_, 1)) : WB p l e R s m args below meth c nL D cy B cells slots (MQ below (QV D cy B g d1) args s cells slots (wA B)) g d lv pc [] := by
  cases h
  intro H locs ls hl hP hS
  obtain ⟨hx, hb, hml, hown, hts, hK, -⟩ := C
  exact W.vret hx hb hr (fun t ht hW => ⟨⟨(), rfl, trivial, wp_at ht hP⟩, hS.F ht⟩) hS.2.2 hdg hlocks
theorem b_aret (C : Cx p s m args c cc nL own D cy B) {CN : String} (hr : meth.sig.returnType = some (.object CN)) (hlocks : meth.locks = false) {v v1 : Nat} {d1 : Ds} (h : some (v, d) = some (v1, d1)) (hdg : decode cc pc = .ok (.areturn, 1)) : WB p l e R s m args below meth c nL D cy B cells slots (MQ below (QR D cy B v1 g d1) args s cells slots (wA B)) g d lv pc ([.ref (ad B v)]) := by
  cases h
  intro H locs ls hl hP hS
  obtain ⟨hx, hb, hml, hown, hts, hK, -⟩ := C
  exact W.aret hx hb hr (Or.inl ⟨_, rfl⟩) (Or.inr ⟨_, rfl⟩) (fun t ht hW => ⟨⟨(), ad B v, rfl, trivial, rfl, wp_at ht hP⟩, hS.F ht⟩) hS.2.2 hdg hlocks
theorem b_aretQ (C : Cx p s m args c cc nL own D cy B) {CN : String} (hr : meth.sig.returnType = some (.object CN)) (hlocks : meth.locks = false) {v v1 : Option Nat} {d1 : Ds} (h : some (v, d) = some (v1, d1)) (hdg : decode cc pc = .ok (.areturn, 1)) : WB p l e R s m args below meth c nL D cy B cells slots (MQ below (QQ D cy B v1 g d1) args s cells slots (wA B)) g d lv pc ([rv B v]) := by
  cases h
  intro H locs ls hl hP hS
  obtain ⟨hx, hb, hml, hown, hts, hK, -⟩ := C
  refine W.aret hx hb hr (Or.inl ⟨_, rfl⟩) (by cases v <;> first | exact Or.inl rfl | exact Or.inr ⟨_, rfl⟩) (fun t ht hW => ⟨⟨v.map (ad B), (), rfl, rfl, wp_at ht hP⟩, hS.F ht⟩) hS.2.2 hdg hlocks
/-- what a call of an instance's method rests on -/
def LV (own : String) (index : Nat) (y : MethodName) (bytes : ByteArray) (maxL : Nat) (ret : Option FieldType) (n cl : Nat) : Prop := (∃ q : vw_C, vwCl[cl]? = some q ∧ q.1 = y.cls) ∧ (y.cls ≠ "java/lang/invoke/MethodHandle" ∧ y.cls ≠ "java/lang/invoke/VarHandle" ∧ (parseMethodDescriptor y.desc).map (fun d => d.parameters.length) = some n) ∧ Cond.methodLink own index y ∈ wl ∧ Cond.instanceMethod y ∈ wl ∧ Cond.selects y.cls y y ∈ wl ∧ Cond.initialized y.cls ∈ wl ∧ Cond.code y bytes maxL ret ∈ wl
/-- a static one -/
def LSt (own : String) (index : Nat) (y : MethodName) (bytes : ByteArray) (maxL : Nat) (ret : Option FieldType) (n : Nat) : Prop := (y.cls ≠ "java/lang/invoke/MethodHandle" ∧ y.cls ≠ "java/lang/invoke/VarHandle" ∧ (parseMethodDescriptor y.desc).map (fun d => d.parameters.length) = some n) ∧ (Cond.methodLink own index y ∈ wl ∨ Cond.methodLinkNest own index y "KeyMatrix" ∈ lw_tbl) ∧ Cond.static y ∈ wl ∧ Cond.initialized y.cls ∈ wl ∧ Cond.code y bytes maxL ret ∈ wl
theorem law_in {y : MethodName} {bytes : ByteArray} {maxL : Nat} {ret : Option FieldType} (h : Cond.code y bytes maxL ret ∈ wl) : GoodIn wl (.code y bytes maxL ret :: wl) := by
  intro w hw
  have hm : w ∈ wl := by
    rcases List.mem_cons.mp hw with rfl | h2
    · exact h
    · exact h2
  exact ⟨hm, good_of_word (wl_good hm)⟩
def rmOk (R rm : Room) (maxL mc ms : Nat) : Prop := rm.cells = mc ∧ rm.slots = ms ∧ rm.frames + 1 ≤ R.frames ∧ 8 + (maxL + 11) + rm.locals ≤ R.locals
theorem runV (C : Cx p s m args c cc nL own D cy B) {index maxL n mc ms : Nat} {y : MethodName} {bytes : ByteArray} {ret : Option FieldType} {rm : Room} {As : List Value} {Qc : Array Value → State → Outcome → State → Prop} {cl r0 : Nat} (hM : Met l y (.code y bytes maxL ret :: wl) rm (PC D cy B (.ref (ad B r0) :: As) g d) Qc mc ms (wA B)) (hV : LV own index y bytes maxL ret n cl) (hrm : rmOk R rm maxL mc ms) (hq : chk g r0 cl) (hc : cl < 100) (hn : As.length = n) (hrest : (rest.map fun v => v.category).sum ≤ 8) (hdg : decode cc pc = .ok (.invokevirtual index, 3)) (hcs : cells + mc ≤ R.cells ∧ slots + ms ≤ R.slots) {st : List Value} (hst : st = As.reverse ++ .ref (ad B r0) :: rest) {H : Heap} {locs : List Loc} {ls : Array Slot} (hl : lv_has ls nL lv) (hP : WP D cy B g d H) (hS : va_S (wA B) s.heap H locs) : va_Run p l e R s m args below meth c H locs cells slots mc ms (F0 m pc ls st) rest (Qc (Value.ref (ad B r0) :: As).toArray) (wA B) := by
  obtain ⟨hx, hb, hml, hown, hts, hK, hSx, hN⟩ := C
  obtain ⟨⟨q, v1, v2⟩, v3, v4, v5, v6, v7, v8⟩ := hV
  have he : (wls B cy g d)[r0]? = some (ad B r0, .inr (cl, fls B g d r0 cl)) := (wls_at hq.1).trans (by rw [cel_o hq.2 hc])
  have hG := law_in v8
  have cw : CallW R s args own y.cls index y bytes maxL ret (.code y bytes maxL ret :: wl) rm mc ms n :=
    ⟨callB_of n hts hG rfl hrm.1 hrm.2.1 (hts _ v7) (hts _ v4) v3 hrm.2.2, hts _ v5, hts _ v6⟩
  refine va_runV (As := As) (rest := rest) (b := ad B r0) (C := y.cls) ⟨hx, hb, hml, hown, hts⟩ hM cw ⟨PC.blind, ?_, fun U hU hW => ⟨rfl, by rw [hU]; exact hP, va_K.moved hW.alike hK, Sx.moved hW.alike (fun a h1 h2 => by rw [hU]; exact hS.2.1 a h1 h2) hSx, NzS.warm hW hN⟩⟩ rfl hn hl.1 hst (lv_room hrest) hdg hcs
  rw [← v2]
  exact va_recv hK hP.2 v1 he
theorem runS (C : Cx p s m args c cc nL own D cy B) {index maxL n mc ms : Nat} {y : MethodName} {bytes : ByteArray} {ret : Option FieldType} {rm : Room} {As : List Value} {Qc : Array Value → State → Outcome → State → Prop} (hM : Met l y (.code y bytes maxL ret :: wl) rm (PC D cy B As g d) Qc mc ms (wA B)) (hV : LSt own index y bytes maxL ret n) (hrm : rmOk R rm maxL mc ms) (hn : As.length = n) (hrest : (rest.map fun v => v.category).sum ≤ 8) (hdg : decode cc pc = .ok (.invokestatic index, 3)) (hcs : cells + mc ≤ R.cells ∧ slots + ms ≤ R.slots) {st : List Value} (hst : st = As.reverse ++ rest) {H : Heap} {locs : List Loc} {ls : Array Slot} (hl : lv_has ls nL lv) (hP : WP D cy B g d H) (hS : va_S (wA B) s.heap H locs) : va_Run p l e R s m args below meth c H locs cells slots mc ms (F0 m pc ls st) rest (Qc As.toArray) (wA B) := by
  obtain ⟨hx, hb, hml, hown, hts, hK, hSx, hN⟩ := C
  obtain ⟨v3, v4, v5, v7, v8⟩ := hV
  have hp : PreS s H (PC D cy B As g d) As := ⟨PC.blind, fun U hU hW => ⟨rfl, by rw [hU]; exact hP, va_K.moved hW.alike hK, Sx.moved hW.alike (fun a h1 h2 => by rw [hU]; exact hS.2.1 a h1 h2) hSx, NzS.warm hW hN⟩⟩
  rcases v4 with v4 | v4
  · exact va_runS (As := As) (rest := rest) ⟨hx, hb, hml, hown, hts⟩ hM ⟨callB_of n hts (law_in v8) rfl hrm.1 hrm.2.1 (hts _ v7) (hts _ v4) v3 hrm.2.2, hts _ v5⟩ hp rfl hn hl.1 hst (lv_room hrest) hdg hcs
  · exact va_runSN (As := As) (rest := rest) ⟨hx, hb, hml, hown, hts⟩ hM ⟨va_cnB n hts (law_in v8) rfl hrm.1 hrm.2.1 (hN _ v4 rfl) (hts _ v7) v3 hrm.2.2, hts _ v5, trivial⟩ hp rfl hn hl.1 hst (lv_room hrest) hdg hcs
/-- a constructor -/
def LCo (own : String) (index : Nat) (y : MethodName) (bytes : ByteArray) (maxL : Nat) (n : Nat) : Prop := y.name = "<init>" ∧ (y.cls ≠ "java/lang/invoke/MethodHandle" ∧ y.cls ≠ "java/lang/invoke/VarHandle" ∧ (parseMethodDescriptor y.desc).map (fun d => d.parameters.length) = some n) ∧ (Cond.methodLink own index y ∈ wl ∨ Cond.methodLinkNest own index y "KeyMatrix" ∈ lw_tbl) ∧ Cond.instanceMethod y ∈ wl ∧ Cond.initialized y.cls ∈ wl ∧ Cond.code y bytes maxL none ∈ wl
theorem runI (C : Cx p s m args c cc nL own D cy B) {index maxL n mc ms : Nat} {y : MethodName} {bytes : ByteArray}  {rm : Room} {As : List Value} {ret : Option FieldType} {Qc : Array Value → State → Outcome → State → Prop} {r0 : Nat} (hret : ret = none) (hM : Met l y (.code y bytes maxL none :: wl) rm (PC D cy B (.ref (ad B r0) :: As) g d) Qc mc ms (wA B)) (hV : LCo own index y bytes maxL n) (hrm : rmOk R rm maxL mc ms) (hn : As.length = n) (hrest : (rest.map fun v => v.category).sum ≤ 8) (hdg : decode cc pc = .ok (.invokespecial index, 3)) (hcs : cells + mc ≤ R.cells ∧ slots + ms ≤ R.slots) {st : List Value} (hst : st = As.reverse ++ .ref (ad B r0) :: rest) {H : Heap} {locs : List Loc} {ls : Array Slot} (hl : lv_has ls nL lv) (hP : WP D cy B g d H) (hS : va_S (wA B) s.heap H locs) : va_Run p l e R s m args below meth c H locs cells slots mc ms (F0 m pc ls st) rest (Qc (Value.ref (ad B r0) :: As).toArray) (wA B) := by
  obtain ⟨hx, hb, hml, hown, hts, hK, hSx, hN⟩ := C
  obtain ⟨v2, v3, v4, v5, v7, v8⟩ := hV
  have hp : PreS s H (PC D cy B (.ref (ad B r0) :: As) g d) (.ref (ad B r0) :: As) := ⟨PC.blind, fun U hU hW => ⟨rfl, by rw [hU]; exact hP, va_K.moved hW.alike hK, Sx.moved hW.alike (fun a h1 h2 => by rw [hU]; exact hS.2.1 a h1 h2) hSx, NzS.warm hW hN⟩⟩
  rcases v4 with v4 | v4
  · exact va_runI (As := As) (rest := rest) (b := ad B r0) ⟨hx, hb, hml, hown, hts⟩ hM ⟨callB_of n hts (law_in v8) rfl hrm.1 hrm.2.1 (hts _ v7) (hts _ v4) v3 hrm.2.2, v2, hts _ v5⟩ hp rfl hn hl.1 hst (lv_room hrest) hdg hcs
  · exact va_runIN (As := As) (rest := rest) (b := ad B r0) ⟨hx, hb, hml, hown, hts⟩ hM ⟨va_cnB n hts (law_in v8) rfl hrm.1 hrm.2.1 (hN _ v4 rfl) (hts _ v7) v3 hrm.2.2, v2, hts _ v5⟩ hp rfl hn hl.1 hst (lv_room hrest) hdg hcs
theorem b_callVI (C : Cx p s m args c cc nL own D cy B) {index maxL n mc ms : Nat} {y : MethodName} {bytes : ByteArray} {ret : Option FieldType} {rm : Room} {As : List Value} {v1 : Int32} {g1 : Gs} {d1 : Ds} {cl r0 : Nat} (hM : Met l y (.code y bytes maxL ret :: wl) rm (PC D cy B (.ref (ad B r0) :: As) g d) (QI D cy B v1 g1 d1) mc ms (wA B)) (hV : LV own index y bytes maxL ret n cl) (hrm : rmOk R rm maxL mc ms) (hq : chk g r0 cl) (hc : cl < 100) (hn : As.length = n) (hrest : (rest.map fun v => v.category).sum ≤ 8) (hdg : decode cc pc = .ok (.invokevirtual index, 3)) (hcs : cells + mc ≤ R.cells ∧ slots + ms ≤ R.slots) {st : List Value} (hst : st = As.reverse ++ .ref (ad B r0) :: rest) (k : WB p l e R s m args below meth c nL D cy B (cells + mc) (slots + ms) Q g1 d1 lv (pc + 3) (.int v1 :: rest)) : WB p l e R s m args below meth c nL D cy B cells slots Q g d lv pc st := fun H locs ls hl hP hS =>
  va_calli (runV C hM hV hrm hq hc hn hrest hdg hcs hst hl hP hS) hS (fun q _ h => h) (fun q h => h) (fun r u t H1 locs1 ht hvm hw hB hz1 hk1 hS1 => by
    subst hw
    exact k H1 locs1 ls hl (by rw [← ht]; exact hB) hS1)
theorem b_callVJ (C : Cx p s m args c cc nL own D cy B) {index maxL n mc ms : Nat} {y : MethodName} {bytes : ByteArray} {ret : Option FieldType} {rm : Room} {As : List Value} {v1 : Int64} {g1 : Gs} {d1 : Ds} {cl r0 : Nat} (hM : Met l y (.code y bytes maxL ret :: wl) rm (PC D cy B (.ref (ad B r0) :: As) g d) (QJ D cy B v1 g1 d1) mc ms (wA B)) (hV : LV own index y bytes maxL ret n cl) (hrm : rmOk R rm maxL mc ms) (hq : chk g r0 cl) (hc : cl < 100) (hn : As.length = n) (hrest : (rest.map fun v => v.category).sum ≤ 8) (hdg : decode cc pc = .ok (.invokevirtual index, 3)) (hcs : cells + mc ≤ R.cells ∧ slots + ms ≤ R.slots) {st : List Value} (hst : st = As.reverse ++ .ref (ad B r0) :: rest) (k : WB p l e R s m args below meth c nL D cy B (cells + mc) (slots + ms) Q g1 d1 lv (pc + 3) (.long v1 :: rest)) : WB p l e R s m args below meth c nL D cy B cells slots Q g d lv pc st := fun H locs ls hl hP hS =>
  va_calll (runV C hM hV hrm hq hc hn hrest hdg hcs hst hl hP hS) hS (fun q _ h => h) (fun q h => h) (fun r u t H1 locs1 ht hvm hw hB hz1 hk1 hS1 => by
    subst hw
    exact k H1 locs1 ls hl (by rw [← ht]; exact hB) hS1)
theorem b_callVN (C : Cx p s m args c cc nL own D cy B) {index maxL n mc ms : Nat} {y : MethodName} {bytes : ByteArray} {ret : Option FieldType} {rm : Room} {As : List Value}  {g1 : Gs} {d1 : Ds} {cl r0 : Nat} (hM : Met l y (.code y bytes maxL ret :: wl) rm (PC D cy B (.ref (ad B r0) :: As) g d) (QV D cy B g1 d1) mc ms (wA B)) (hV : LV own index y bytes maxL ret n cl) (hrm : rmOk R rm maxL mc ms) (hq : chk g r0 cl) (hc : cl < 100) (hn : As.length = n) (hrest : (rest.map fun v => v.category).sum ≤ 8) (hdg : decode cc pc = .ok (.invokevirtual index, 3)) (hcs : cells + mc ≤ R.cells ∧ slots + ms ≤ R.slots) {st : List Value} (hst : st = As.reverse ++ .ref (ad B r0) :: rest) (k : WB p l e R s m args below meth c nL D cy B (cells + mc) (slots + ms) Q g1 d1 lv (pc + 3) rest) : WB p l e R s m args below meth c nL D cy B cells slots Q g d lv pc st := fun H locs ls hl hP hS =>
  va_callv (runV C hM hV hrm hq hc hn hrest hdg hcs hst hl hP hS) hS (fun q _ h => h) (fun q h => h) (fun u t H1 locs1 ht hvm hw hB hz1 hk1 hS1 => k H1 locs1 ls hl (by rw [← ht]; exact hB) hS1)
theorem b_callVR (C : Cx p s m args c cc nL own D cy B) {index maxL n mc ms : Nat} {y : MethodName} {bytes : ByteArray} {ret : Option FieldType} {rm : Room} {As : List Value} {v1 : Nat} {g1 : Gs} {d1 : Ds} {cl r0 : Nat} (hM : Met l y (.code y bytes maxL ret :: wl) rm (PC D cy B (.ref (ad B r0) :: As) g d) (QR D cy B v1 g1 d1) mc ms (wA B)) (hV : LV own index y bytes maxL ret n cl) (hrm : rmOk R rm maxL mc ms) (hq : chk g r0 cl) (hc : cl < 100) (hn : As.length = n) (hrest : (rest.map fun v => v.category).sum ≤ 8) (hdg : decode cc pc = .ok (.invokevirtual index, 3)) (hcs : cells + mc ≤ R.cells ∧ slots + ms ≤ R.slots) {st : List Value} (hst : st = As.reverse ++ .ref (ad B r0) :: rest) (k : WB p l e R s m args below meth c nL D cy B (cells + mc) (slots + ms) Q g1 d1 lv (pc + 3) (.ref (ad B v1) :: rest)) : WB p l e R s m args below meth c nL D cy B cells slots Q g d lv pc st := fun H locs ls hl hP hS =>
  va_callr (runV C hM hV hrm hq hc hn hrest hdg hcs hst hl hP hS) hS (fun q _ h => h) (fun q h => h) (fun u ra t H1 locs1 ht hvm hw hB hz1 hk1 hS1 => by
    obtain ⟨rfl, hB⟩ := hB
    exact k H1 locs1 ls hl (by rw [← ht]; exact hB) hS1)
theorem b_callVQ (C : Cx p s m args c cc nL own D cy B) {index maxL n mc ms : Nat} {y : MethodName} {bytes : ByteArray} {ret : Option FieldType} {rm : Room} {As : List Value} {v1 : Option Nat} {g1 : Gs} {d1 : Ds} {cl r0 : Nat} (hM : Met l y (.code y bytes maxL ret :: wl) rm (PC D cy B (.ref (ad B r0) :: As) g d) (QQ D cy B v1 g1 d1) mc ms (wA B)) (hV : LV own index y bytes maxL ret n cl) (hrm : rmOk R rm maxL mc ms) (hq : chk g r0 cl) (hc : cl < 100) (hn : As.length = n) (hrest : (rest.map fun v => v.category).sum ≤ 8) (hdg : decode cc pc = .ok (.invokevirtual index, 3)) (hcs : cells + mc ≤ R.cells ∧ slots + ms ≤ R.slots) {st : List Value} (hst : st = As.reverse ++ .ref (ad B r0) :: rest) (k : WB p l e R s m args below meth c nL D cy B (cells + mc) (slots + ms) Q g1 d1 lv (pc + 3) (rv B v1 :: rest)) : WB p l e R s m args below meth c nL D cy B cells slots Q g d lv pc st := fun H locs ls hl hP hS =>
  va_callq (runV C hM hV hrm hq hc hn hrest hdg hcs hst hl hP hS) hS (fun q _ h => h) (fun q h => h) (fun r u t H1 locs1 ht hvm hw hB hz1 hk1 hS1 => by
    subst hw
    exact k H1 locs1 ls hl (by rw [← ht]; exact hB) hS1)
theorem b_callSI (C : Cx p s m args c cc nL own D cy B) {index maxL n mc ms : Nat} {y : MethodName} {bytes : ByteArray} {ret : Option FieldType} {rm : Room} {As : List Value} {v1 : Int32} {g1 : Gs} {d1 : Ds}  (hM : Met l y (.code y bytes maxL ret :: wl) rm (PC D cy B As g d) (QI D cy B v1 g1 d1) mc ms (wA B)) (hV : LSt own index y bytes maxL ret n) (hrm : rmOk R rm maxL mc ms) (hn : As.length = n) (hrest : (rest.map fun v => v.category).sum ≤ 8) (hdg : decode cc pc = .ok (.invokestatic index, 3)) (hcs : cells + mc ≤ R.cells ∧ slots + ms ≤ R.slots) {st : List Value} (hst : st = As.reverse ++ rest) (k : WB p l e R s m args below meth c nL D cy B (cells + mc) (slots + ms) Q g1 d1 lv (pc + 3) (.int v1 :: rest)) : WB p l e R s m args below meth c nL D cy B cells slots Q g d lv pc st := fun H locs ls hl hP hS =>
  va_calli (runS C hM hV hrm hn hrest hdg hcs hst hl hP hS) hS (fun q _ h => h) (fun q h => h) (fun r u t H1 locs1 ht hvm hw hB hz1 hk1 hS1 => by
    subst hw
    exact k H1 locs1 ls hl (by rw [← ht]; exact hB) hS1)
theorem b_callSJ (C : Cx p s m args c cc nL own D cy B) {index maxL n mc ms : Nat} {y : MethodName} {bytes : ByteArray} {ret : Option FieldType} {rm : Room} {As : List Value} {v1 : Int64} {g1 : Gs} {d1 : Ds}  (hM : Met l y (.code y bytes maxL ret :: wl) rm (PC D cy B As g d) (QJ D cy B v1 g1 d1) mc ms (wA B)) (hV : LSt own index y bytes maxL ret n) (hrm : rmOk R rm maxL mc ms) (hn : As.length = n) (hrest : (rest.map fun v => v.category).sum ≤ 8) (hdg : decode cc pc = .ok (.invokestatic index, 3)) (hcs : cells + mc ≤ R.cells ∧ slots + ms ≤ R.slots) {st : List Value} (hst : st = As.reverse ++ rest) (k : WB p l e R s m args below meth c nL D cy B (cells + mc) (slots + ms) Q g1 d1 lv (pc + 3) (.long v1 :: rest)) : WB p l e R s m args below meth c nL D cy B cells slots Q g d lv pc st := fun H locs ls hl hP hS =>
  va_calll (runS C hM hV hrm hn hrest hdg hcs hst hl hP hS) hS (fun q _ h => h) (fun q h => h) (fun r u t H1 locs1 ht hvm hw hB hz1 hk1 hS1 => by
    subst hw
    exact k H1 locs1 ls hl (by rw [← ht]; exact hB) hS1)
theorem b_callSN (C : Cx p s m args c cc nL own D cy B) {index maxL n mc ms : Nat} {y : MethodName} {bytes : ByteArray} {ret : Option FieldType} {rm : Room} {As : List Value}  {g1 : Gs} {d1 : Ds}  (hM : Met l y (.code y bytes maxL ret :: wl) rm (PC D cy B As g d) (QV D cy B g1 d1) mc ms (wA B)) (hV : LSt own index y bytes maxL ret n) (hrm : rmOk R rm maxL mc ms) (hn : As.length = n) (hrest : (rest.map fun v => v.category).sum ≤ 8) (hdg : decode cc pc = .ok (.invokestatic index, 3)) (hcs : cells + mc ≤ R.cells ∧ slots + ms ≤ R.slots) {st : List Value} (hst : st = As.reverse ++ rest) (k : WB p l e R s m args below meth c nL D cy B (cells + mc) (slots + ms) Q g1 d1 lv (pc + 3) rest) : WB p l e R s m args below meth c nL D cy B cells slots Q g d lv pc st := fun H locs ls hl hP hS =>
  va_callv (runS C hM hV hrm hn hrest hdg hcs hst hl hP hS) hS (fun q _ h => h) (fun q h => h) (fun u t H1 locs1 ht hvm hw hB hz1 hk1 hS1 => k H1 locs1 ls hl (by rw [← ht]; exact hB) hS1)
theorem b_callSR (C : Cx p s m args c cc nL own D cy B) {index maxL n mc ms : Nat} {y : MethodName} {bytes : ByteArray} {ret : Option FieldType} {rm : Room} {As : List Value} {v1 : Nat} {g1 : Gs} {d1 : Ds}  (hM : Met l y (.code y bytes maxL ret :: wl) rm (PC D cy B As g d) (QR D cy B v1 g1 d1) mc ms (wA B)) (hV : LSt own index y bytes maxL ret n) (hrm : rmOk R rm maxL mc ms) (hn : As.length = n) (hrest : (rest.map fun v => v.category).sum ≤ 8) (hdg : decode cc pc = .ok (.invokestatic index, 3)) (hcs : cells + mc ≤ R.cells ∧ slots + ms ≤ R.slots) {st : List Value} (hst : st = As.reverse ++ rest) (k : WB p l e R s m args below meth c nL D cy B (cells + mc) (slots + ms) Q g1 d1 lv (pc + 3) (.ref (ad B v1) :: rest)) : WB p l e R s m args below meth c nL D cy B cells slots Q g d lv pc st := fun H locs ls hl hP hS =>
  va_callr (runS C hM hV hrm hn hrest hdg hcs hst hl hP hS) hS (fun q _ h => h) (fun q h => h) (fun u ra t H1 locs1 ht hvm hw hB hz1 hk1 hS1 => by
    obtain ⟨rfl, hB⟩ := hB
    exact k H1 locs1 ls hl (by rw [← ht]; exact hB) hS1)
theorem b_callSQ (C : Cx p s m args c cc nL own D cy B) {index maxL n mc ms : Nat} {y : MethodName} {bytes : ByteArray} {ret : Option FieldType} {rm : Room} {As : List Value} {v1 : Option Nat} {g1 : Gs} {d1 : Ds}  (hM : Met l y (.code y bytes maxL ret :: wl) rm (PC D cy B As g d) (QQ D cy B v1 g1 d1) mc ms (wA B)) (hV : LSt own index y bytes maxL ret n) (hrm : rmOk R rm maxL mc ms) (hn : As.length = n) (hrest : (rest.map fun v => v.category).sum ≤ 8) (hdg : decode cc pc = .ok (.invokestatic index, 3)) (hcs : cells + mc ≤ R.cells ∧ slots + ms ≤ R.slots) {st : List Value} (hst : st = As.reverse ++ rest) (k : WB p l e R s m args below meth c nL D cy B (cells + mc) (slots + ms) Q g1 d1 lv (pc + 3) (rv B v1 :: rest)) : WB p l e R s m args below meth c nL D cy B cells slots Q g d lv pc st := fun H locs ls hl hP hS =>
  va_callq (runS C hM hV hrm hn hrest hdg hcs hst hl hP hS) hS (fun q _ h => h) (fun q h => h) (fun r u t H1 locs1 ht hvm hw hB hz1 hk1 hS1 => by
    subst hw
    exact k H1 locs1 ls hl (by rw [← ht]; exact hB) hS1)
theorem b_cVI (C : Cx p s m args c cc nL own D cy B) {index maxL n : Nat} {y : MethodName} {bytes : ByteArray} {ret : Option FieldType} {rm : Room} {As : List Value} {v1 : Int32} {d1 : Ds} {cl r0 : Nat} (rest : List Value) (hdg : decode cc pc = .ok (.invokevirtual index, 3)) (hM : Met l y (.code y bytes maxL ret :: wl) rm (PC D cy B (.ref (ad B r0) :: As) g d) (QI D cy B v1 g d1) 0 0 (wA B)) (hV : LV own index y bytes maxL ret n cl) (hrm : rmOk R rm maxL 0 0) (hq : chk g r0 cl) (hc : cl < 100) (hn : As.length = n) (hrest : (rest.map fun v => v.category).sum ≤ 8) (hcs : cells ≤ R.cells ∧ slots ≤ R.slots) {st : List Value} (hst : st = As.reverse ++ .ref (ad B r0) :: rest) (k : WB p l e R s m args below meth c nL D cy B cells slots Q g d1 lv (pc + 3) (.int v1 :: rest)) : WB p l e R s m args below meth c nL D cy B cells slots Q g d lv pc st := b_callVI C hM hV hrm hq hc hn hrest hdg hcs hst k
theorem b_cVJ (C : Cx p s m args c cc nL own D cy B) {index maxL n : Nat} {y : MethodName} {bytes : ByteArray} {ret : Option FieldType} {rm : Room} {As : List Value} {v1 : Int64} {d1 : Ds} {cl r0 : Nat} (rest : List Value) (hdg : decode cc pc = .ok (.invokevirtual index, 3)) (hM : Met l y (.code y bytes maxL ret :: wl) rm (PC D cy B (.ref (ad B r0) :: As) g d) (QJ D cy B v1 g d1) 0 0 (wA B)) (hV : LV own index y bytes maxL ret n cl) (hrm : rmOk R rm maxL 0 0) (hq : chk g r0 cl) (hc : cl < 100) (hn : As.length = n) (hrest : (rest.map fun v => v.category).sum ≤ 8) (hcs : cells ≤ R.cells ∧ slots ≤ R.slots) {st : List Value} (hst : st = As.reverse ++ .ref (ad B r0) :: rest) (k : WB p l e R s m args below meth c nL D cy B cells slots Q g d1 lv (pc + 3) (.long v1 :: rest)) : WB p l e R s m args below meth c nL D cy B cells slots Q g d lv pc st := b_callVJ C hM hV hrm hq hc hn hrest hdg hcs hst k
theorem b_cVN (C : Cx p s m args c cc nL own D cy B) {index maxL n : Nat} {y : MethodName} {bytes : ByteArray} {ret : Option FieldType} {rm : Room} {As : List Value}  {d1 : Ds} {cl r0 : Nat} (rest : List Value) (hdg : decode cc pc = .ok (.invokevirtual index, 3)) (hM : Met l y (.code y bytes maxL ret :: wl) rm (PC D cy B (.ref (ad B r0) :: As) g d) (QV D cy B g d1) 0 0 (wA B)) (hV : LV own index y bytes maxL ret n cl) (hrm : rmOk R rm maxL 0 0) (hq : chk g r0 cl) (hc : cl < 100) (hn : As.length = n) (hrest : (rest.map fun v => v.category).sum ≤ 8) (hcs : cells ≤ R.cells ∧ slots ≤ R.slots) {st : List Value} (hst : st = As.reverse ++ .ref (ad B r0) :: rest) (k : WB p l e R s m args below meth c nL D cy B cells slots Q g d1 lv (pc + 3) rest) : WB p l e R s m args below meth c nL D cy B cells slots Q g d lv pc st := b_callVN C hM hV hrm hq hc hn hrest hdg hcs hst k
theorem b_cVR (C : Cx p s m args c cc nL own D cy B) {index maxL n : Nat} {y : MethodName} {bytes : ByteArray} {ret : Option FieldType} {rm : Room} {As : List Value} {v1 : Nat} {d1 : Ds} {cl r0 : Nat} (rest : List Value) (hdg : decode cc pc = .ok (.invokevirtual index, 3)) (hM : Met l y (.code y bytes maxL ret :: wl) rm (PC D cy B (.ref (ad B r0) :: As) g d) (QR D cy B v1 g d1) 0 0 (wA B)) (hV : LV own index y bytes maxL ret n cl) (hrm : rmOk R rm maxL 0 0) (hq : chk g r0 cl) (hc : cl < 100) (hn : As.length = n) (hrest : (rest.map fun v => v.category).sum ≤ 8) (hcs : cells ≤ R.cells ∧ slots ≤ R.slots) {st : List Value} (hst : st = As.reverse ++ .ref (ad B r0) :: rest) (k : WB p l e R s m args below meth c nL D cy B cells slots Q g d1 lv (pc + 3) (.ref (ad B v1) :: rest)) : WB p l e R s m args below meth c nL D cy B cells slots Q g d lv pc st := b_callVR C hM hV hrm hq hc hn hrest hdg hcs hst k
theorem b_cVQ (C : Cx p s m args c cc nL own D cy B) {index maxL n : Nat} {y : MethodName} {bytes : ByteArray} {ret : Option FieldType} {rm : Room} {As : List Value} {v1 : Option Nat} {d1 : Ds} {cl r0 : Nat} (rest : List Value) (hdg : decode cc pc = .ok (.invokevirtual index, 3)) (hM : Met l y (.code y bytes maxL ret :: wl) rm (PC D cy B (.ref (ad B r0) :: As) g d) (QQ D cy B v1 g d1) 0 0 (wA B)) (hV : LV own index y bytes maxL ret n cl) (hrm : rmOk R rm maxL 0 0) (hq : chk g r0 cl) (hc : cl < 100) (hn : As.length = n) (hrest : (rest.map fun v => v.category).sum ≤ 8) (hcs : cells ≤ R.cells ∧ slots ≤ R.slots) {st : List Value} (hst : st = As.reverse ++ .ref (ad B r0) :: rest) (k : WB p l e R s m args below meth c nL D cy B cells slots Q g d1 lv (pc + 3) (rv B v1 :: rest)) : WB p l e R s m args below meth c nL D cy B cells slots Q g d lv pc st := b_callVQ C hM hV hrm hq hc hn hrest hdg hcs hst k
theorem b_cSI (C : Cx p s m args c cc nL own D cy B) {index maxL n : Nat} {y : MethodName} {bytes : ByteArray} {ret : Option FieldType} {rm : Room} {As : List Value} {v1 : Int32} {d1 : Ds}  (rest : List Value) (hdg : decode cc pc = .ok (.invokestatic index, 3)) (hM : Met l y (.code y bytes maxL ret :: wl) rm (PC D cy B As g d) (QI D cy B v1 g d1) 0 0 (wA B)) (hV : LSt own index y bytes maxL ret n) (hrm : rmOk R rm maxL 0 0) (hn : As.length = n) (hrest : (rest.map fun v => v.category).sum ≤ 8) (hcs : cells ≤ R.cells ∧ slots ≤ R.slots) {st : List Value} (hst : st = As.reverse ++ rest) (k : WB p l e R s m args below meth c nL D cy B cells slots Q g d1 lv (pc + 3) (.int v1 :: rest)) : WB p l e R s m args below meth c nL D cy B cells slots Q g d lv pc st := b_callSI C hM hV hrm hn hrest hdg hcs hst k
theorem b_cSJ (C : Cx p s m args c cc nL own D cy B) {index maxL n : Nat} {y : MethodName} {bytes : ByteArray} {ret : Option FieldType} {rm : Room} {As : List Value} {v1 : Int64} {d1 : Ds}  (rest : List Value) (hdg : decode cc pc = .ok (.invokestatic index, 3)) (hM : Met l y (.code y bytes maxL ret :: wl) rm (PC D cy B As g d) (QJ D cy B v1 g d1) 0 0 (wA B)) (hV : LSt own index y bytes maxL ret n) (hrm : rmOk R rm maxL 0 0) (hn : As.length = n) (hrest : (rest.map fun v => v.category).sum ≤ 8) (hcs : cells ≤ R.cells ∧ slots ≤ R.slots) {st : List Value} (hst : st = As.reverse ++ rest) (k : WB p l e R s m args below meth c nL D cy B cells slots Q g d1 lv (pc + 3) (.long v1 :: rest)) : WB p l e R s m args below meth c nL D cy B cells slots Q g d lv pc st := b_callSJ C hM hV hrm hn hrest hdg hcs hst k
theorem b_cSN (C : Cx p s m args c cc nL own D cy B) {index maxL n : Nat} {y : MethodName} {bytes : ByteArray} {ret : Option FieldType} {rm : Room} {As : List Value}  {d1 : Ds}  (rest : List Value) (hdg : decode cc pc = .ok (.invokestatic index, 3)) (hM : Met l y (.code y bytes maxL ret :: wl) rm (PC D cy B As g d) (QV D cy B g d1) 0 0 (wA B)) (hV : LSt own index y bytes maxL ret n) (hrm : rmOk R rm maxL 0 0) (hn : As.length = n) (hrest : (rest.map fun v => v.category).sum ≤ 8) (hcs : cells ≤ R.cells ∧ slots ≤ R.slots) {st : List Value} (hst : st = As.reverse ++ rest) (k : WB p l e R s m args below meth c nL D cy B cells slots Q g d1 lv (pc + 3) rest) : WB p l e R s m args below meth c nL D cy B cells slots Q g d lv pc st := b_callSN C hM hV hrm hn hrest hdg hcs hst k
theorem b_cSR (C : Cx p s m args c cc nL own D cy B) {index maxL n : Nat} {y : MethodName} {bytes : ByteArray} {ret : Option FieldType} {rm : Room} {As : List Value} {v1 : Nat} {d1 : Ds}  (rest : List Value) (hdg : decode cc pc = .ok (.invokestatic index, 3)) (hM : Met l y (.code y bytes maxL ret :: wl) rm (PC D cy B As g d) (QR D cy B v1 g d1) 0 0 (wA B)) (hV : LSt own index y bytes maxL ret n) (hrm : rmOk R rm maxL 0 0) (hn : As.length = n) (hrest : (rest.map fun v => v.category).sum ≤ 8) (hcs : cells ≤ R.cells ∧ slots ≤ R.slots) {st : List Value} (hst : st = As.reverse ++ rest) (k : WB p l e R s m args below meth c nL D cy B cells slots Q g d1 lv (pc + 3) (.ref (ad B v1) :: rest)) : WB p l e R s m args below meth c nL D cy B cells slots Q g d lv pc st := b_callSR C hM hV hrm hn hrest hdg hcs hst k
theorem b_cSQ (C : Cx p s m args c cc nL own D cy B) {index maxL n : Nat} {y : MethodName} {bytes : ByteArray} {ret : Option FieldType} {rm : Room} {As : List Value} {v1 : Option Nat} {d1 : Ds}  (rest : List Value) (hdg : decode cc pc = .ok (.invokestatic index, 3)) (hM : Met l y (.code y bytes maxL ret :: wl) rm (PC D cy B As g d) (QQ D cy B v1 g d1) 0 0 (wA B)) (hV : LSt own index y bytes maxL ret n) (hrm : rmOk R rm maxL 0 0) (hn : As.length = n) (hrest : (rest.map fun v => v.category).sum ≤ 8) (hcs : cells ≤ R.cells ∧ slots ≤ R.slots) {st : List Value} (hst : st = As.reverse ++ rest) (k : WB p l e R s m args below meth c nL D cy B cells slots Q g d1 lv (pc + 3) (rv B v1 :: rest)) : WB p l e R s m args below meth c nL D cy B cells slots Q g d lv pc st := b_callSQ C hM hV hrm hn hrest hdg hcs hst k
theorem b_objInit (C : Cx p s m args c cc nL own D cy B) {index r0 : Nat} (h1 : Cond.methodLink own index objectInit ∈ wl) (h2 : Cond.instanceMethod objectInit ∈ wl) (h3 : Cond.code objectInit ⟨#[0xb1]⟩ 1 none ∈ wl) (hfr : 1 ≤ R.frames) (hlo : (rest.map fun v => v.category).sum + 12 ≤ R.locals) (hdg : decode cc pc = .ok (.invokespecial index, 3)) (k : WB p l e R s m args below meth c nL D cy B cells slots Q g d lv (pc + 3) rest) : WB p l e R s m args below meth c nL D cy B cells slots Q g d lv pc (.ref (ad B r0) :: rest) := fun H locs ls hl hP hS => by
  obtain ⟨hx, hb, hml, hown, hts, hK, hSx, hN⟩ := C
  refine W.objInit hx hb hown (hts _ h1) (hts _ h2) (hts _ h3) rfl (by rw [hml]; exact hl.1) rfl hdg hfr (by show 2 * 0 + _ + 12 ≤ _; omega) ?_
  exact k H locs ls hl hP hS
end BC
end
section
section BM
variable {p : Program} {l : Launch} {e : Env} {R : Room} {s : State} {m : MethodId} {args : Array Value} {below : List Frame} {meth : Method} {c : Code} {cells slots : Nat} {Q : State → Prop} {nL : Nat} {D : va_G} {cy : Nat → ClassId} {B : Bs} {g : Gs} {d : Ds} {lv : List (Nat × Value)} {pc : Nat} {cc : ByteArray} {own : String} {rest : List Value}
theorem b_topI {x y : Int32} (h : y = x) (k : WB p l e R s m args below meth c nL D cy B cells slots Q g d lv pc (.int y :: rest)) : WB p l e R s m args below meth c nL D cy B cells slots Q g d lv pc (.int x :: rest) := h ▸ k
theorem b_topJ {x y : Int64} (h : y = x) (k : WB p l e R s m args below meth c nL D cy B cells slots Q g d lv pc (.long y :: rest)) : WB p l e R s m args below meth c nL D cy B cells slots Q g d lv pc (.long x :: rest) := h ▸ k
theorem b_topF {x y : UInt32} (h : y = x) (k : WB p l e R s m args below meth c nL D cy B cells slots Q g d lv pc (.float y :: rest)) : WB p l e R s m args below meth c nL D cy B cells slots Q g d lv pc (.float x :: rest) := h ▸ k
theorem b_topQ {x y : Option Nat} (h : y = x) (k : WB p l e R s m args below meth c nL D cy B cells slots Q g d lv pc (rv B y :: rest)) : WB p l e R s m args below meth c nL D cy B cells slots Q g d lv pc (rv B x :: rest) := h ▸ k
theorem b_some {x : Option Nat} {r : Nat} (h : x = some r) (k : WB p l e R s m args below meth c nL D cy B cells slots Q g d lv pc (.ref (ad B r) :: rest)) : WB p l e R s m args below meth c nL D cy B cells slots Q g d lv pc (rv B x :: rest) := h ▸ k
theorem b_nullQ (C : Cx p s m args c cc nL own D cy B) (hdg : decode cc pc = .ok (.aconst_null, 1)) (k : WB p l e R s m args below meth c nL D cy B cells slots Q g d lv (pc + 1) (rv B none :: rest)) : WB p l e R s m args below meth c nL D cy B cells slots Q g d lv pc rest := b_null C hdg k
theorem b_ifnull (C : Cx p s m args c cc nL own D cy B) {x : Option Nat} {off : Int} {tgt : Nat} (hdg : decode cc pc = .ok (.ifnull off, 3)) (ht : (pc : Int) + off = (tgt : Int)) (kt : x = none → WB p l e R s m args below meth c nL D cy B cells slots Q g d lv tgt rest) (kf : ¬ x = none → WB p l e R s m args below meth c nL D cy B cells slots Q g d lv (pc + 3) rest) : WB p l e R s m args below meth c nL D cy B cells slots Q g d lv pc (rv B x :: rest) := fun H locs ls hl hP hS => by
  cases x with
  | none => exact lv_ifnullN C.1 C.2.1 hdg ht (kt rfl H locs ls hl hP hS)
  | some y => exact lv_ifnull C.1 C.2.1 hdg (kf (fun h => by cases h) H locs ls hl hP hS)
theorem b_ifnonnull (C : Cx p s m args c cc nL own D cy B) {x : Option Nat} {off : Int} {tgt : Nat} (hdg : decode cc pc = .ok (.ifnonnull off, 3)) (ht : (pc : Int) + off = (tgt : Int)) (kt : ¬ x = none → WB p l e R s m args below meth c nL D cy B cells slots Q g d lv tgt rest) (kf : x = none → WB p l e R s m args below meth c nL D cy B cells slots Q g d lv (pc + 3) rest) : WB p l e R s m args below meth c nL D cy B cells slots Q g d lv pc (rv B x :: rest) := fun H locs ls hl hP hS => by
  cases x with
  | none => exact lv_ifnonnullN C.1 C.2.1 hdg (kf rfl H locs ls hl hP hS)
  | some y => exact lv_ifnonnull C.1 C.2.1 hdg ht (kt (fun h => by cases h) H locs ls hl hP hS)
/-- a reference that is null or one of Word's constants -/
abbrev wk (x : Option Nat) : Prop := x = none ∨ ∃ i, i < 20 ∧ x = some (100000 + i)
abbrev wkb (x : Option Nat) : Prop := 100000 ≤ x.getD 100000 ∧ x.getD 100000 < 100020
theorem wkb_s {x : Option Nat} (h : wkb x) : wk x := by
  cases x with
  | none => exact Or.inl rfl
  | some r =>
    have h1 : 100000 ≤ r := h.1
    have h2 : r < 100020 := h.2
    have h3 : 100000 + (r - 100000) = r := Nat.add_sub_cancel' h1
    exact Or.inr ⟨r - 100000, Nat.sub_lt_left_of_lt_add h1 h2, by rw [h3]⟩
theorem wk_inj {x y : Option Nat} (hS : Sx B s) (hx : wk x) (hy : wk y) : x.map (ad B) = y.map (ad B) ↔ x = y := by
  refine ⟨fun h => ?_, fun h => by rw [h]⟩
  rcases hx with rfl | ⟨i, hi, rfl⟩ <;> rcases hy with rfl | ⟨j, hj, rfl⟩
  · rfl
  · cases h
  · cases h
  · have h2 := hS.2 i j hi hj (Option.some.inj h)
    rw [h2]
theorem b_acmp_eq (C : Cx p s m args c cc nL own D cy B) {x y : Option Nat} {off : Int} {tgt : Nat} (hx : wk x) (hy : wk y) (hdg : decode cc pc = .ok (.if_acmp .eq off, 3)) (ht : (pc : Int) + off = (tgt : Int)) (kt : x = y → WB p l e R s m args below meth c nL D cy B cells slots Q g d lv tgt rest) (kf : ¬ x = y → WB p l e R s m args below meth c nL D cy B cells slots Q g d lv (pc + 3) rest) : WB p l e R s m args below meth c nL D cy B cells slots Q g d lv pc (rv B y :: rv B x :: rest) := fun H locs ls hl hP hS => by
  have hi := wk_inj C.2.2.2.2.2.2.1 hx hy
  exact lv_acmp_eq C.1 C.2.1 hdg ht (fun h => kt (by rw [← hi]; exact h) H locs ls hl hP hS) (fun h => kf (by rw [← hi]; exact h) H locs ls hl hP hS)
theorem b_acmp_ne (C : Cx p s m args c cc nL own D cy B) {x y : Option Nat} {off : Int} {tgt : Nat} (hx : wk x) (hy : wk y) (hdg : decode cc pc = .ok (.if_acmp .ne off, 3)) (ht : (pc : Int) + off = (tgt : Int)) (kt : ¬ x = y → WB p l e R s m args below meth c nL D cy B cells slots Q g d lv tgt rest) (kf : x = y → WB p l e R s m args below meth c nL D cy B cells slots Q g d lv (pc + 3) rest) : WB p l e R s m args below meth c nL D cy B cells slots Q g d lv pc (rv B y :: rv B x :: rest) := fun H locs ls hl hP hS => by
  have hi := wk_inj C.2.2.2.2.2.2.1 hx hy
  exact lv_acmp_ne C.1 C.2.1 hdg ht (fun h => kt (by rw [← hi]; exact h) H locs ls hl hP hS) (fun h => kf (by rw [← hi]; exact h) H locs ls hl hP hS)
theorem b_getW (C : Cx p s m args c cc nL own D cy B) {index i : Nat} (hi : i < 20) (hlk : Cond.fieldLink own index "KeyMatrix$Word" (wnm i) "LKeyMatrix$Word;" ∈ wl) (hdg : decode cc pc = .ok (.getstatic index, 3)) (k : WB p l e R s m args below meth c nL D cy B cells slots Q g d lv (pc + 3) (rv B (some (100000 + i)) :: rest)) : WB p l e R s m args below meth c nL D cy B cells slots Q g d lv pc rest := fun H locs ls hl hP hS => by
  obtain ⟨hx, hb, hml, hown, hts, hK, hSx, hN⟩ := C
  exact va_gets hx hb (hSx.1 i hi) hS hown (hts _ hlk) (fun _ h => h) hdg (k H locs ls hl hP hS)
theorem b_ldc (C : Cx p s m args c cc nL own D cy B) {index : Nat} {v : Int32} (hc : Cond.constant own index v ∈ wl) (hdg : decode cc pc = .ok (.ldc index, 2)) (k : WB p l e R s m args below meth c nL D cy B cells slots Q g d lv (pc + 2) (.int v :: rest)) : WB p l e R s m args below meth c nL D cy B cells slots Q g d lv pc rest := fun H locs ls hl hP hS => lv_ldc C.1 C.2.1 C.2.2.2.1 (C.2.2.2.2.1 _ hc) hdg (k H locs ls hl hP hS)
theorem b_ldcw (C : Cx p s m args c cc nL own D cy B) {index : Nat} {v : Int32} (hc : Cond.constant own index v ∈ wl) (hdg : decode cc pc = .ok (.ldc_w index, 3)) (k : WB p l e R s m args below meth c nL D cy B cells slots Q g d lv (pc + 3) (.int v :: rest)) : WB p l e R s m args below meth c nL D cy B cells slots Q g d lv pc rest := fun H locs ls hl hP hS => lv_ldcw C.1 C.2.1 C.2.2.2.1 (C.2.2.2.2.1 _ hc) hdg (k H locs ls hl hP hS)
theorem b_ldc2 (C : Cx p s m args c cc nL own D cy B) {index : Nat} {v : Int64} (hc : Cond.constantLong own index v ∈ wl) (hdg : decode cc pc = .ok (.ldc2_w index, 3)) (k : WB p l e R s m args below meth c nL D cy B cells slots Q g d lv (pc + 3) (.long v :: rest)) : WB p l e R s m args below meth c nL D cy B cells slots Q g d lv pc rest := fun H locs ls hl hP hS => lv_ldc2 C.1 C.2.1 C.2.2.2.1 (C.2.2.2.2.1 _ hc) hdg (k H locs ls hl hP hS)
theorem b_mmax (C : Cx p s m args c cc nL own D cy B) {index : Nat} (h1 : Cond.methodLink own index Lib.Math.max.name ∈ wl) (h2 : Cond.static Lib.Math.max.name ∈ wl) (h3 : Cond.initialized "java/lang/Math" ∈ wl) (h4 : Cond.code Lib.Math.max.name Lib.Math.max.code 2 (some .int) ∈ wl) (hfr : 1 ≤ R.frames) (hlo : (rest.map fun v => v.category).sum + 13 ≤ R.locals) (hc : cells ≤ R.cells) (hs : slots ≤ R.slots) {x y : Int32} (hdg : decode cc pc = .ok (.invokestatic index, 3)) (k : WB p l e R s m args below meth c nL D cy B cells slots Q g d lv (pc + 3) (.int (if x < y then y else x) :: rest)) : WB p l e R s m args below meth c nL D cy B cells slots Q g d lv pc (.int y :: .int x :: rest) := fun H locs ls hl hP hS => by
  obtain ⟨hx, hb, hml, hown, hts, hK, hSx, hN⟩ := C
  exact va_mmax hx hb (hml.trans hl.1.symm) hown (hts _ h1) (hts _ h2) (hts _ h3) (hts _ h4) hfr hlo hc hs hdg (k H locs ls hl hP hS)
theorem b_copyI (C : Cx p s m args c cc nL own D cy B) {index a b : Nat} {sp dp n : Int32} {d1 : Ds} (h1 : Cond.methodLink own index arraycopyName ∈ wl) (h2 : Cond.native arraycopyName ∈ wl) (h3 : Cond.static arraycopyName ∈ wl) (h4 : Cond.initialized "java/lang/System" ∈ wl) (hqa : chk g a 102) (hqb : chk g b 102) (g1 : ¬ sp < 0) (g2 : ¬ dp < 0) (g3 : ¬ n < 0) (g4 : sp.toNatClampNeg + n.toNatClampNeg ≤ gL g a) (g5 : dp.toNatClampNeg + n.toNatClampNeg ≤ gL g b) (hd1 : d1 = cI d a b sp.toNatClampNeg dp.toNatClampNeg n.toNatClampNeg) (hfr : 1 ≤ R.frames) (hlo : (rest.map fun v => v.category).sum + (nativeFrameWords "java/lang/System" "arraycopy" 5 + 11) ≤ R.locals) (hdg : decode cc pc = .ok (.invokestatic index, 3)) (k : WB p l e R s m args below meth c nL D cy B cells slots Q g d1 lv (pc + 3) rest) : WB p l e R s m args below meth c nL D cy B cells slots Q g d lv pc (.int n :: .int dp :: .ref (ad B b) :: .int sp :: .ref (ad B a) :: rest) := fun H locs ls hl hP hS => by
  obtain ⟨hx, hb, hml, hown, hts, hK, hSx, hN⟩ := C
  subst hd1
  refine va_copyi (D := D) hx hb (hml.trans hl.1.symm) hown (hts _ h1) (hts _ h2) (hts _ h3) (hts _ h4) hK hP.2 (wls_D hP.1) hS a b 2 2 ((wls_at hqa.1).trans (by rw [cel_a (t := 2) hqa.2]; rfl)) ((wls_at hqb.1).trans (by rw [cel_a (t := 2) hqb.2]; rfl)) rfl rfl (by decide +kernel) g1 g2 g3 g4 g5 (fun i hi => rfl) hfr hlo hdg (fun H1 locs1 hP1 hD1 hS1 => k H1 locs1 ls hl (hP.set hqb.1 rfl (fun x _ hx => cI_o hx) ?_ hP1) hS1)
  rw [cel_a (t := 2) hqb.2]
  unfold ar
  rw [cI_row]
  rfl
theorem b_copyF (C : Cx p s m args c cc nL own D cy B) {index a b : Nat} {sp dp n : Int32} {d1 : Ds} (h1 : Cond.methodLink own index arraycopyName ∈ wl) (h2 : Cond.native arraycopyName ∈ wl) (h3 : Cond.static arraycopyName ∈ wl) (h4 : Cond.initialized "java/lang/System" ∈ wl) (hqa : chk g a 101) (hqb : chk g b 101) (g1 : ¬ sp < 0) (g2 : ¬ dp < 0) (g3 : ¬ n < 0) (g4 : sp.toNatClampNeg + n.toNatClampNeg ≤ gL g a) (g5 : dp.toNatClampNeg + n.toNatClampNeg ≤ gL g b) (hd1 : d1 = cF d a b sp.toNatClampNeg dp.toNatClampNeg n.toNatClampNeg) (hfr : 1 ≤ R.frames) (hlo : (rest.map fun v => v.category).sum + (nativeFrameWords "java/lang/System" "arraycopy" 5 + 11) ≤ R.locals) (hdg : decode cc pc = .ok (.invokestatic index, 3)) (k : WB p l e R s m args below meth c nL D cy B cells slots Q g d1 lv (pc + 3) rest) : WB p l e R s m args below meth c nL D cy B cells slots Q g d lv pc (.int n :: .int dp :: .ref (ad B b) :: .int sp :: .ref (ad B a) :: rest) := fun H locs ls hl hP hS => by
  obtain ⟨hx, hb, hml, hown, hts, hK, hSx, hN⟩ := C
  subst hd1
  refine va_copyf (D := D) hx hb (hml.trans hl.1.symm) hown (hts _ h1) (hts _ h2) (hts _ h3) (hts _ h4) hK hP.2 (wls_D hP.1) hS a b 1 1 ((wls_at hqa.1).trans (by rw [cel_a (t := 1) hqa.2]; rfl)) ((wls_at hqb.1).trans (by rw [cel_a (t := 1) hqb.2]; rfl)) rfl rfl (by decide +kernel) g1 g2 g3 g4 g5 (fun i hi => rfl) hfr hlo hdg (fun H1 locs1 hP1 hD1 hS1 => k H1 locs1 ls hl (hP.set hqb.1 rfl (fun x _ hx => cF_o hx) ?_ hP1) hS1)
  rw [cel_a (t := 1) hqb.2]
  unfold ar
  rw [cF_row]
  rfl
/-! the loop of the pure functions -/
def lp {α β : Type} (F : (α → Option β) → α → Option β) : Nat → α → Option β
  | 0 => fun _ => none
  | n + 1 => fun a => F (lp F n) a
theorem lp_s {α β : Type} {F : (α → Option β) → α → Option β} {n : Nat} {a : α} : lp F (n + 1) a = F (lp F n) a := rfl
theorem lp_z {α β : Type} {F : (α → Option β) → α → Option β} {a : α} : lp F 0 a = none := rfl
/-- a loop's walk: what holds of the head with whatever comes behind, holds of the loop -/
theorem lp_w {α β : Type} {F : (α → Option β) → α → Option β} {y : β} {G : α → Prop} (h : ∀ (K : α → Option β), (∀ a, K a = some y → G a) → ∀ a, F K a = some y → G a) : ∀ (n : Nat) (a : α), lp F n a = some y → G a := by
  intro n
  induction n with
  | zero => intro a ha; cases ha
  | succ n ih => exact h _ ih
/-- a loop comes to its end: an invariant, and a measure that falls -/
theorem lp_ok {α β : Type} {F : (α → Option β) → α → Option β} {P : Option β → Prop} (I : α → Prop) (μ : α → Nat) (h : ∀ (K : α → Option β) (a : α), I a → (∀ b, I b → μ b < μ a → P (K b)) → P (F K a)) : ∀ (n : Nat) (a : α), I a → μ a < n → P (lp F n a) := by
  intro n
  induction n with
  | zero => intro a _ ha; exact absurd ha (Nat.not_lt_zero _)
  | succ n ih => exact fun a ha hn => h _ a ha (fun b hb hm => ih b hb (by omega))
end BM
end
section
/-! KeyMatrix$Queue.clear()V -/
theorem inl4 : ∀ w ∈ u_ws RX4 TX4 3, w ∈ wl := by
  have h0 : u_ws RX4 TX4 3 = [Cond.laysFinal "KeyMatrix$Queue" "KeyMatrix$Queue" "events" "[I", Cond.lays "KeyMatrix$Queue" "KeyMatrix$Queue" "size" "I", Cond.lays "KeyMatrix$Queue" "KeyMatrix$Queue" "total" "I"] := by decide +kernel
  rw [h0]
  exact List.forall_mem_cons.mpr ⟨mW (mT2 (List.mem_of_getElem? (i := 85) (by decide +kernel))) rfl, List.forall_mem_cons.mpr ⟨mW (mT2 (List.mem_of_getElem? (i := 87) (by decide +kernel))) rfl, List.forall_mem_cons.mpr ⟨mW (mT2 (List.mem_of_getElem? (i := 89) (by decide +kernel))) rfl, fun _ h => absurd h List.not_mem_nil⟩⟩⟩
theorem fl_X4_15 : FLI RX4 15 4 1 := ⟨⟨RX4, TX4, 3, rfl, by decide, inl4, Or.inl (mW (mT2 (List.mem_of_getElem? (i := 80) (by decide +kernel))) rfl)⟩, by decide, by decide +kernel⟩
theorem ft4 : FT 4 := ⟨RX4, TX4, 3, tyX4, rfl, tyX4_ok, nmX4⟩
theorem fp4_1 : FPI 4 1 := ⟨ft4, (RX4, TX4, 3), rfl, by decide +kernel, by decide +kernel⟩
theorem fl_X4_19 : FLI RX4 19 4 2 := ⟨⟨RX4, TX4, 3, rfl, by decide, inl4, Or.inl (mW (mT2 (List.mem_of_getElem? (i := 83) (by decide +kernel))) rfl)⟩, by decide, by decide +kernel⟩
theorem fp4_2 : FPI 4 2 := ⟨ft4, (RX4, TX4, 3), rfl, by decide +kernel, by decide +kernel⟩
theorem dX4_clear_0 : decode cX4_clear 0 = .ok (.aload_n 0, 1) := by decide +kernel
theorem dX4_clear_1 : decode cX4_clear 1 = .ok (.iconst 0, 1) := by decide +kernel
theorem dX4_clear_2 : decode cX4_clear 2 = .ok (.putfield 15, 3) := by decide +kernel
theorem dX4_clear_5 : decode cX4_clear 5 = .ok (.aload_n 0, 1) := by decide +kernel
theorem dX4_clear_6 : decode cX4_clear 6 = .ok (.iconst 0, 1) := by decide +kernel
theorem dX4_clear_7 : decode cX4_clear 7 = .ok (.putfield 19, 3) := by decide +kernel
theorem dX4_clear_10 : decode cX4_clear 10 = .ok (.return_, 1) := by decide +kernel
def rmX4_clear : Room := { frames := 0, cells := 0, slots := 0, locals := 0 }
def fX4_clear (N : Nat) (g : Gs) (x0 : Nat) (d : Ds) : Option (Unit × Ds) := gd (chk g x0 4) <| bd (sI d x0 1 0) fun d2 => (bd (sI d2 x0 2 0) fun d3 => (some ((), d3)))
set_option maxHeartbeats 4000000 in
set_option maxRecDepth 100000 in
theorem tX4_clear_E {p : Program} {l : Launch} {e : Env} {s : State} {m : MethodId} {args : Array Value} {below : List Frame} {meth : Method} {c : Code} {D : va_G} {cy : Nat → ClassId} {B : Bs} (C : Cx p s m args c cX4_clear 1 RX4 D cy B) (hr : meth.sig.returnType = none) (hlocks : meth.locks = false) {N : Nat} {g : Gs} {x0 : Nat}  {dz : Ds} {d : Ds} (hf : fX4_clear N g x0 d = some ((), dz)) : WB p l e rmX4_clear s m args below meth c 1 D cy B 0 0 (MQ below (QV D cy B g dz) args s 0 0 (wA B)) g d [(0, .ref (ad B x0))] 0 [] := by
  unfold fX4_clear at hf
  refine b_aload_n C dX4_clear_0 0 rfl rfl ?_
  refine b_iconst C (v := 0) dX4_clear_1 (by decide) ?_
  obtain ⟨h1, hf⟩ := gd_s hf
  obtain ⟨d2, ed2, hf⟩ := bd_s hf
  refine b_pI C dX4_clear_2 fl_X4_15 fp4_1 h1 ed2 ?_
  refine b_aload_n C dX4_clear_5 0 rfl rfl ?_
  refine b_iconst C (v := 0) dX4_clear_6 (by decide) ?_
  obtain ⟨d3, ed3, hf⟩ := bd_s hf
  refine b_pI C dX4_clear_7 fl_X4_19 fp4_2 h1 ed3 ?_
  exact b_vret C hr hlocks hf dX4_clear_10
theorem kX4_clear (l : Launch) (D : va_G) (cy : Nat → ClassId) (B : Bs) {N : Nat} {g : Gs} {x0 : Nat}  {dz : Ds} {d : Ds} (hf : fX4_clear N g x0 d = some ((), dz)) : Met l yX4_clear (.code yX4_clear cX4_clear 1 none :: wl) rmX4_clear (PC D cy B [.ref (ad B x0)] g d) (QV D cy B g dz) 0 0 (wA B) :=
  met_of (by decide +kernel) (Nat.le_of_ble_eq_true rfl) (fun p e s m args below meth c C hr hlocks _ => b_sub [(0, .ref (ad B x0))] [0] rfl (tX4_clear_E C hr hlocks hf))
/-! KeyMatrix$Queue.copyFrom(LKeyMatrix$Queue;)V -/
theorem fl_X4_11 : FLR RX4 11 4 0 := ⟨⟨RX4, TX4, 3, rfl, by decide, inl4, Or.inl (mW (mT2 (List.mem_of_getElem? (i := 79) (by decide +kernel))) rfl)⟩, by decide, by decide +kernel⟩
theorem ac_X4_22 : Cond.methodLink RX4 22 arraycopyName ∈ wl := mW (mT4 (List.mem_of_getElem? (i := 131) (by decide +kernel))) rfl
theorem ac_n : Cond.native arraycopyName ∈ wl := mW (mT4 (List.mem_of_getElem? (i := 17) (by decide +kernel))) rfl
theorem ac_s : Cond.static arraycopyName ∈ wl := mW (mT4 (List.mem_of_getElem? (i := 16) (by decide +kernel))) rfl
theorem ac_i : Cond.initialized "java/lang/System" ∈ wl := mW (mT1 (List.mem_of_getElem? (i := 19) (by decide +kernel))) rfl
theorem dX4_copyFrom_0 : decode cX4_copyFrom 0 = .ok (.aload_n 0, 1) := by decide +kernel
theorem dX4_copyFrom_1 : decode cX4_copyFrom 1 = .ok (.aload_n 1, 1) := by decide +kernel
theorem dX4_copyFrom_2 : decode cX4_copyFrom 2 = .ok (.getfield 15, 3) := by decide +kernel
theorem dX4_copyFrom_5 : decode cX4_copyFrom 5 = .ok (.putfield 15, 3) := by decide +kernel
theorem dX4_copyFrom_8 : decode cX4_copyFrom 8 = .ok (.aload_n 0, 1) := by decide +kernel
theorem dX4_copyFrom_9 : decode cX4_copyFrom 9 = .ok (.aload_n 1, 1) := by decide +kernel
theorem dX4_copyFrom_10 : decode cX4_copyFrom 10 = .ok (.getfield 19, 3) := by decide +kernel
theorem dX4_copyFrom_13 : decode cX4_copyFrom 13 = .ok (.putfield 19, 3) := by decide +kernel
theorem dX4_copyFrom_16 : decode cX4_copyFrom 16 = .ok (.aload_n 1, 1) := by decide +kernel
theorem dX4_copyFrom_17 : decode cX4_copyFrom 17 = .ok (.getfield 11, 3) := by decide +kernel
theorem dX4_copyFrom_20 : decode cX4_copyFrom 20 = .ok (.iconst 0, 1) := by decide +kernel
theorem dX4_copyFrom_21 : decode cX4_copyFrom 21 = .ok (.aload_n 0, 1) := by decide +kernel
theorem dX4_copyFrom_22 : decode cX4_copyFrom 22 = .ok (.getfield 11, 3) := by decide +kernel
theorem dX4_copyFrom_25 : decode cX4_copyFrom 25 = .ok (.iconst 0, 1) := by decide +kernel
theorem dX4_copyFrom_26 : decode cX4_copyFrom 26 = .ok (.aload_n 1, 1) := by decide +kernel
theorem dX4_copyFrom_27 : decode cX4_copyFrom 27 = .ok (.getfield 15, 3) := by decide +kernel
theorem dX4_copyFrom_30 : decode cX4_copyFrom 30 = .ok (.invokestatic 22, 3) := by decide +kernel
theorem dX4_copyFrom_33 : decode cX4_copyFrom 33 = .ok (.return_, 1) := by decide +kernel
def rmX4_copyFrom : Room := { frames := 1, cells := 0, slots := 0, locals := 40 }
def fX4_copyFrom (N : Nat) (g : Gs) (x0 : Nat) (x1 : Nat) (d : Ds) : Option (Unit × Ds) := gd (chk g x1 4) <| gd (chk g x0 4) <| bd (sI d x0 1 (dI d x1 1)) fun d3 => (bd (sI d3 x0 2 (dI d3 x1 2)) fun d4 => (ob (gR g x1 0) fun r5 => (ob (gR g x0 0) fun r6 => (gd (chk g r5 102) <| gd (chk g r6 102) <| gd (¬ (0 : Int32) < 0) <| gd (¬ (dI d4 x1 1) < 0) <| gd ((0 : Int32).toNatClampNeg + (dI d4 x1 1).toNatClampNeg ≤ gL g r5) <| gd ((0 : Int32).toNatClampNeg + (dI d4 x1 1).toNatClampNeg ≤ gL g r6) <| bd (cI d4 r5 r6 (0 : Int32).toNatClampNeg (0 : Int32).toNatClampNeg (dI d4 x1 1).toNatClampNeg) fun d13 => (some ((), d13))))))
set_option maxHeartbeats 4000000 in
set_option maxRecDepth 100000 in
theorem tX4_copyFrom_E {p : Program} {l : Launch} {e : Env} {s : State} {m : MethodId} {args : Array Value} {below : List Frame} {meth : Method} {c : Code} {D : va_G} {cy : Nat → ClassId} {B : Bs} (C : Cx p s m args c cX4_copyFrom 2 RX4 D cy B) (hr : meth.sig.returnType = none) (hlocks : meth.locks = false) {N : Nat} {g : Gs} {x0 : Nat} {x1 : Nat}  {dz : Ds} {d : Ds} (hf : fX4_copyFrom N g x0 x1 d = some ((), dz)) : WB p l e rmX4_copyFrom s m args below meth c 2 D cy B 0 0 (MQ below (QV D cy B g dz) args s 0 0 (wA B)) g d [(0, .ref (ad B x0)), (1, .ref (ad B x1))] 0 [] := by
  unfold fX4_copyFrom at hf
  refine b_aload_n C dX4_copyFrom_0 0 rfl rfl ?_
  refine b_aload_n C dX4_copyFrom_1 1 rfl rfl ?_
  obtain ⟨h1, hf⟩ := gd_s hf
  refine b_gI C dX4_copyFrom_2 fl_X4_15 h1 ?_
  obtain ⟨h2, hf⟩ := gd_s hf
  obtain ⟨d3, ed3, hf⟩ := bd_s hf
  refine b_pI C dX4_copyFrom_5 fl_X4_15 fp4_1 h2 ed3 ?_
  refine b_aload_n C dX4_copyFrom_8 0 rfl rfl ?_
  refine b_aload_n C dX4_copyFrom_9 1 rfl rfl ?_
  refine b_gI C dX4_copyFrom_10 fl_X4_19 h1 ?_
  obtain ⟨d4, ed4, hf⟩ := bd_s hf
  refine b_pI C dX4_copyFrom_13 fl_X4_19 fp4_2 h2 ed4 ?_
  refine b_aload_n C dX4_copyFrom_16 1 rfl rfl ?_
  obtain ⟨r5, er5, hf⟩ := ob_s hf
  refine b_gR C dX4_copyFrom_17 fl_X4_11 h1 er5 ?_
  refine b_iconst C (v := 0) dX4_copyFrom_20 (by decide) ?_
  refine b_aload_n C dX4_copyFrom_21 0 rfl rfl ?_
  obtain ⟨r6, er6, hf⟩ := ob_s hf
  refine b_gR C dX4_copyFrom_22 fl_X4_11 h2 er6 ?_
  refine b_iconst C (v := 0) dX4_copyFrom_25 (by decide) ?_
  refine b_aload_n C dX4_copyFrom_26 1 rfl rfl ?_
  refine b_gI C dX4_copyFrom_27 fl_X4_15 h1 ?_
  obtain ⟨h7, hf⟩ := gd_s hf
  obtain ⟨h8, hf⟩ := gd_s hf
  obtain ⟨h9, hf⟩ := gd_s hf
  obtain ⟨h10, hf⟩ := gd_s hf
  obtain ⟨h11, hf⟩ := gd_s hf
  obtain ⟨h12, hf⟩ := gd_s hf
  obtain ⟨d13, ed13, hf⟩ := bd_s hf
  refine b_copyI C ac_X4_22 ac_n ac_s ac_i h7 h8 h9 h9 h10 h11 h12 ed13 (by decide) (by decide +kernel) dX4_copyFrom_30 ?_
  exact b_vret C hr hlocks hf dX4_copyFrom_33
theorem kX4_copyFrom (l : Launch) (D : va_G) (cy : Nat → ClassId) (B : Bs) {N : Nat} {g : Gs} {x0 : Nat} {x1 : Nat}  {dz : Ds} {d : Ds} (hf : fX4_copyFrom N g x0 x1 d = some ((), dz)) : Met l yX4_copyFrom (.code yX4_copyFrom cX4_copyFrom 2 none :: wl) rmX4_copyFrom (PC D cy B [.ref (ad B x0), .ref (ad B x1)] g d) (QV D cy B g dz) 0 0 (wA B) :=
  met_of (by decide +kernel) (Nat.le_of_ble_eq_true rfl) (fun p e s m args below meth c C hr hlocks _ => b_sub [(0, .ref (ad B x0)), (1, .ref (ad B x1))] [0, 1] rfl (tX4_copyFrom_E C hr hlocks hf))
/-! KeyMatrix$Queue.add(IZI)V -/
theorem dX4_add_0 : decode cX4_add 0 = .ok (.aload_n 0, 1) := by decide +kernel
theorem dX4_add_1 : decode cX4_add 1 = .ok (.getfield 15, 3) := by decide +kernel
theorem dX4_add_4 : decode cX4_add 4 = .ok (.sipush 2400, 3) := by decide +kernel
theorem dX4_add_7 : decode cX4_add 7 = .ok (.if_icmp .ge 50, 3) := by decide +kernel
theorem dX4_add_10 : decode cX4_add 10 = .ok (.aload_n 0, 1) := by decide +kernel
theorem dX4_add_11 : decode cX4_add 11 = .ok (.getfield 11, 3) := by decide +kernel
theorem dX4_add_14 : decode cX4_add 14 = .ok (.aload_n 0, 1) := by decide +kernel
theorem dX4_add_15 : decode cX4_add 15 = .ok (.getfield 15, 3) := by decide +kernel
theorem dX4_add_18 : decode cX4_add 18 = .ok (.iload_n 3, 1) := by decide +kernel
theorem dX4_add_19 : decode cX4_add 19 = .ok (.bipush 64, 2) := by decide +kernel
theorem dX4_add_21 : decode cX4_add 21 = .ok (.imul, 1) := by decide +kernel
theorem dX4_add_22 : decode cX4_add 22 = .ok (.iload_n 1, 1) := by decide +kernel
theorem dX4_add_23 : decode cX4_add 23 = .ok (.iconst 2, 1) := by decide +kernel
theorem dX4_add_24 : decode cX4_add 24 = .ok (.imul, 1) := by decide +kernel
theorem dX4_add_25 : decode cX4_add 25 = .ok (.iadd, 1) := by decide +kernel
theorem dX4_add_26 : decode cX4_add 26 = .ok (.iload_n 2, 1) := by decide +kernel
theorem dX4_add_27 : decode cX4_add 27 = .ok (.ifCond .eq 7, 3) := by decide +kernel
theorem dX4_add_30 : decode cX4_add 30 = .ok (.iconst 1, 1) := by decide +kernel
theorem dX4_add_31 : decode cX4_add 31 = .ok (.goto 4, 3) := by decide +kernel
theorem dX4_add_34 : decode cX4_add 34 = .ok (.iconst 0, 1) := by decide +kernel
theorem dX4_add_35 : decode cX4_add 35 = .ok (.iadd, 1) := by decide +kernel
theorem dX4_add_36 : decode cX4_add 36 = .ok (.iastore, 1) := by decide +kernel
theorem dX4_add_37 : decode cX4_add 37 = .ok (.aload_n 0, 1) := by decide +kernel
theorem dX4_add_38 : decode cX4_add 38 = .ok (.dup, 1) := by decide +kernel
theorem dX4_add_39 : decode cX4_add 39 = .ok (.getfield 15, 3) := by decide +kernel
theorem dX4_add_42 : decode cX4_add 42 = .ok (.iconst 1, 1) := by decide +kernel
theorem dX4_add_43 : decode cX4_add 43 = .ok (.iadd, 1) := by decide +kernel
theorem dX4_add_44 : decode cX4_add 44 = .ok (.putfield 15, 3) := by decide +kernel
theorem dX4_add_47 : decode cX4_add 47 = .ok (.aload_n 0, 1) := by decide +kernel
theorem dX4_add_48 : decode cX4_add 48 = .ok (.dup, 1) := by decide +kernel
theorem dX4_add_49 : decode cX4_add 49 = .ok (.getfield 19, 3) := by decide +kernel
theorem dX4_add_52 : decode cX4_add 52 = .ok (.iconst 1, 1) := by decide +kernel
theorem dX4_add_53 : decode cX4_add 53 = .ok (.iadd, 1) := by decide +kernel
theorem dX4_add_54 : decode cX4_add 54 = .ok (.putfield 19, 3) := by decide +kernel
theorem dX4_add_57 : decode cX4_add 57 = .ok (.return_, 1) := by decide +kernel
def rmX4_add : Room := { frames := 0, cells := 0, slots := 0, locals := 0 }
def fX4_add_J57 (N : Nat) (g : Gs) (x0 : Nat) (x1 : Int32) (x2 : Int32) (x3 : Int32) (d : Ds) : Option (Unit × Ds) := some ((), d)
set_option maxHeartbeats 4000000 in
set_option maxRecDepth 100000 in
theorem tX4_add_57 {p : Program} {l : Launch} {e : Env} {s : State} {m : MethodId} {args : Array Value} {below : List Frame} {meth : Method} {c : Code} {D : va_G} {cy : Nat → ClassId} {B : Bs} (C : Cx p s m args c cX4_add 4 RX4 D cy B) (hr : meth.sig.returnType = none) (hlocks : meth.locks = false) {N : Nat} {g : Gs} {x0 : Nat} {x1 : Int32} {x2 : Int32} {x3 : Int32}  {dz : Ds} {d : Ds} (hf : fX4_add_J57 N g x0 x1 x2 x3 d = some ((), dz)) : WB p l e rmX4_add s m args below meth c 4 D cy B 0 0 (MQ below (QV D cy B g dz) args s 0 0 (wA B)) g d [(0, .ref (ad B x0)), (1, .int x1), (2, .int x2), (3, .int x3)] 57 [] := by
  unfold fX4_add_J57 at hf
  exact b_vret C hr hlocks hf dX4_add_57
def fX4_add_J35 (N : Nat) (g : Gs) (x0 : Nat) (x1 : Int32) (x2 : Int32) (x3 : Int32) (z0 : Int32) (z1 : Int32) (z2 : Int32) (z3 : Nat) (d : Ds) : Option (Unit × Ds) := gd (chk g z3 102) <| gd (¬ (z2 < 0 ∨ gL g z3 ≤ z2.toNatClampNeg)) <| bd (sI d z3 z2.toNatClampNeg (z1 + z0)) fun d7 => (gd (chk g x0 4) <| bd (sI d7 x0 1 ((dI d7 x0 1) + 1)) fun d9 => (bd (sI d9 x0 2 ((dI d9 x0 2) + 1)) fun d10 => (fX4_add_J57 N g x0 x1 x2 x3 d10)))
set_option maxHeartbeats 4000000 in
set_option maxRecDepth 100000 in
theorem tX4_add_35 {p : Program} {l : Launch} {e : Env} {s : State} {m : MethodId} {args : Array Value} {below : List Frame} {meth : Method} {c : Code} {D : va_G} {cy : Nat → ClassId} {B : Bs} (C : Cx p s m args c cX4_add 4 RX4 D cy B) (hr : meth.sig.returnType = none) (hlocks : meth.locks = false) {N : Nat} {g : Gs} {x0 : Nat} {x1 : Int32} {x2 : Int32} {x3 : Int32}  {dz : Ds} {z0 : Int32} {z1 : Int32} {z2 : Int32} {z3 : Nat} {d : Ds} (hf : fX4_add_J35 N g x0 x1 x2 x3 z0 z1 z2 z3 d = some ((), dz)) : WB p l e rmX4_add s m args below meth c 4 D cy B 0 0 (MQ below (QV D cy B g dz) args s 0 0 (wA B)) g d [(0, .ref (ad B x0)), (1, .int x1), (2, .int x2), (3, .int x3)] 35 [.int z0, .int z1, .int z2, .ref (ad B z3)] := by
  unfold fX4_add_J35 at hf
  refine b_iadd C dX4_add_35 ?_
  obtain ⟨h5, hf⟩ := gd_s hf
  obtain ⟨h6, hf⟩ := gd_s hf
  obtain ⟨d7, ed7, hf⟩ := bd_s hf
  refine b_iast C h5 h6 ed7 dX4_add_36 ?_
  refine b_aload_n C dX4_add_37 0 rfl rfl ?_
  refine b_dup C dX4_add_38 rfl ?_
  obtain ⟨h8, hf⟩ := gd_s hf
  refine b_gI C dX4_add_39 fl_X4_15 h8 ?_
  refine b_iconst C (v := 1) dX4_add_42 (by decide) ?_
  refine b_iadd C dX4_add_43 ?_
  obtain ⟨d9, ed9, hf⟩ := bd_s hf
  refine b_pI C dX4_add_44 fl_X4_15 fp4_1 h8 ed9 ?_
  refine b_aload_n C dX4_add_47 0 rfl rfl ?_
  refine b_dup C dX4_add_48 rfl ?_
  refine b_gI C dX4_add_49 fl_X4_19 h8 ?_
  refine b_iconst C (v := 1) dX4_add_52 (by decide) ?_
  refine b_iadd C dX4_add_53 ?_
  obtain ⟨d10, ed10, hf⟩ := bd_s hf
  refine b_pI C dX4_add_54 fl_X4_19 fp4_2 h8 ed10 ?_
  refine b_sub [(0, .ref (ad B x0)), (1, .int x1), (2, .int x2), (3, .int x3)] [0, 1, 2, 3] rfl ?_
  exact tX4_add_57 C hr hlocks hf
def fX4_add (N : Nat) (g : Gs) (x0 : Nat) (x1 : Int32) (x2 : Int32) (x3 : Int32) (d : Ds) : Option (Unit × Ds) := gd (chk g x0 4) <| if (2400 : Int32) ≤ (dI d x0 1) then (fX4_add_J57 N g x0 x1 x2 x3 d) else (ob (gR g x0 0) fun r3 => (if x2 = 0 then (fX4_add_J35 N g x0 x1 x2 x3 0 ((x3 * 64) + (x1 * 2)) (dI d x0 1) r3 d) else (fX4_add_J35 N g x0 x1 x2 x3 1 ((x3 * 64) + (x1 * 2)) (dI d x0 1) r3 d)))
set_option maxHeartbeats 4000000 in
set_option maxRecDepth 100000 in
theorem tX4_add_E {p : Program} {l : Launch} {e : Env} {s : State} {m : MethodId} {args : Array Value} {below : List Frame} {meth : Method} {c : Code} {D : va_G} {cy : Nat → ClassId} {B : Bs} (C : Cx p s m args c cX4_add 4 RX4 D cy B) (hr : meth.sig.returnType = none) (hlocks : meth.locks = false) {N : Nat} {g : Gs} {x0 : Nat} {x1 : Int32} {x2 : Int32} {x3 : Int32}  {dz : Ds} {d : Ds} (hf : fX4_add N g x0 x1 x2 x3 d = some ((), dz)) : WB p l e rmX4_add s m args below meth c 4 D cy B 0 0 (MQ below (QV D cy B g dz) args s 0 0 (wA B)) g d [(0, .ref (ad B x0)), (1, .int x1), (2, .int x2), (3, .int x3)] 0 [] := by
  unfold fX4_add at hf
  refine b_aload_n C dX4_add_0 0 rfl rfl ?_
  obtain ⟨h1, hf⟩ := gd_s hf
  refine b_gI C dX4_add_1 fl_X4_15 h1 ?_
  refine b_sipush C (v := 2400) dX4_add_4 (by decide) ?_
  refine b_icmp_ge C (tgt := 57) dX4_add_7 (by decide) (fun c2 => ?_) (fun c2 => ?_)
  · have hf := it_s c2 hf
    refine b_sub [(0, .ref (ad B x0)), (1, .int x1), (2, .int x2), (3, .int x3)] [0, 1, 2, 3] rfl ?_
    exact tX4_add_57 C hr hlocks hf
  · have hf := if_s c2 hf
    refine b_aload_n C dX4_add_10 0 rfl rfl ?_
    obtain ⟨r3, er3, hf⟩ := ob_s hf
    refine b_gR C dX4_add_11 fl_X4_11 h1 er3 ?_
    refine b_aload_n C dX4_add_14 0 rfl rfl ?_
    refine b_gI C dX4_add_15 fl_X4_15 h1 ?_
    refine b_iload_n C dX4_add_18 3 rfl rfl ?_
    refine b_bipush C (v := 64) dX4_add_19 (by decide) ?_
    refine b_imul C dX4_add_21 ?_
    refine b_iload_n C dX4_add_22 1 rfl rfl ?_
    refine b_iconst C (v := 2) dX4_add_23 (by decide) ?_
    refine b_imul C dX4_add_24 ?_
    refine b_iadd C dX4_add_25 ?_
    refine b_iload_n C dX4_add_26 2 rfl rfl ?_
    refine b_if_eq C (tgt := 34) dX4_add_27 (by decide) (fun c4 => ?_) (fun c4 => ?_)
    · have hf := it_s c4 hf
      refine b_iconst C (v := 0) dX4_add_34 (by decide) ?_
      refine b_sub [(0, .ref (ad B x0)), (1, .int x1), (2, .int x2), (3, .int x3)] [0, 1, 2, 3] rfl ?_
      exact tX4_add_35 C hr hlocks hf
    · have hf := if_s c4 hf
      refine b_iconst C (v := 1) dX4_add_30 (by decide) ?_
      refine b_goto C (tgt := 35) dX4_add_31 (by decide) ?_
      refine b_sub [(0, .ref (ad B x0)), (1, .int x1), (2, .int x2), (3, .int x3)] [0, 1, 2, 3] rfl ?_
      exact tX4_add_35 C hr hlocks hf
theorem kX4_add (l : Launch) (D : va_G) (cy : Nat → ClassId) (B : Bs) {N : Nat} {g : Gs} {x0 : Nat} {x1 : Int32} {x2 : Int32} {x3 : Int32}  {dz : Ds} {d : Ds} (hf : fX4_add N g x0 x1 x2 x3 d = some ((), dz)) : Met l yX4_add (.code yX4_add cX4_add 4 none :: wl) rmX4_add (PC D cy B [.ref (ad B x0), .int x1, .int x2, .int x3] g d) (QV D cy B g dz) 0 0 (wA B) :=
  met_of (by decide +kernel) (Nat.le_of_ble_eq_true rfl) (fun p e s m args below meth c C hr hlocks _ => b_sub [(0, .ref (ad B x0)), (1, .int x1), (2, .int x2), (3, .int x3)] [0, 1, 2, 3] rfl (tX4_add_E C hr hlocks hf))
/-! KeyMatrix$Queue.isDownAt(I)Z -/
theorem dX4_isDownAt_0 : decode cX4_isDownAt 0 = .ok (.iload_n 1, 1) := by decide +kernel
theorem dX4_isDownAt_1 : decode cX4_isDownAt 1 = .ok (.ifCond .lt 27, 3) := by decide +kernel
theorem dX4_isDownAt_4 : decode cX4_isDownAt 4 = .ok (.iload_n 1, 1) := by decide +kernel
theorem dX4_isDownAt_5 : decode cX4_isDownAt 5 = .ok (.aload_n 0, 1) := by decide +kernel
theorem dX4_isDownAt_6 : decode cX4_isDownAt 6 = .ok (.getfield 15, 3) := by decide +kernel
theorem dX4_isDownAt_9 : decode cX4_isDownAt 9 = .ok (.if_icmp .ge 19, 3) := by decide +kernel
theorem dX4_isDownAt_12 : decode cX4_isDownAt 12 = .ok (.aload_n 0, 1) := by decide +kernel
theorem dX4_isDownAt_13 : decode cX4_isDownAt 13 = .ok (.getfield 11, 3) := by decide +kernel
theorem dX4_isDownAt_16 : decode cX4_isDownAt 16 = .ok (.iload_n 1, 1) := by decide +kernel
theorem dX4_isDownAt_17 : decode cX4_isDownAt 17 = .ok (.iaload, 1) := by decide +kernel
theorem dX4_isDownAt_18 : decode cX4_isDownAt 18 = .ok (.iconst 2, 1) := by decide +kernel
theorem dX4_isDownAt_19 : decode cX4_isDownAt 19 = .ok (.irem, 1) := by decide +kernel
theorem dX4_isDownAt_20 : decode cX4_isDownAt 20 = .ok (.iconst 1, 1) := by decide +kernel
theorem dX4_isDownAt_21 : decode cX4_isDownAt 21 = .ok (.if_icmp .ne 7, 3) := by decide +kernel
theorem dX4_isDownAt_24 : decode cX4_isDownAt 24 = .ok (.iconst 1, 1) := by decide +kernel
theorem dX4_isDownAt_25 : decode cX4_isDownAt 25 = .ok (.goto 4, 3) := by decide +kernel
theorem dX4_isDownAt_28 : decode cX4_isDownAt 28 = .ok (.iconst 0, 1) := by decide +kernel
theorem dX4_isDownAt_29 : decode cX4_isDownAt 29 = .ok (.ireturn, 1) := by decide +kernel
def rmX4_isDownAt : Room := { frames := 0, cells := 0, slots := 0, locals := 0 }
def fX4_isDownAt_J29 (N : Nat) (g : Gs) (x0 : Nat) (x1 : Int32) (z0 : Int32) (d : Ds) : Option (Int32 × Ds) := gd (z0 = 0 ∨ z0 = 1) <| some (z0, d)
set_option maxHeartbeats 4000000 in
set_option maxRecDepth 100000 in
theorem tX4_isDownAt_29 {p : Program} {l : Launch} {e : Env} {s : State} {m : MethodId} {args : Array Value} {below : List Frame} {meth : Method} {c : Code} {D : va_G} {cy : Nat → ClassId} {B : Bs} (C : Cx p s m args c cX4_isDownAt 2 RX4 D cy B) (hr : meth.sig.returnType = (some .boolean)) (hlocks : meth.locks = false) {N : Nat} {g : Gs} {x0 : Nat} {x1 : Int32} {vz : Int32} {dz : Ds} {z0 : Int32} {d : Ds} (hf : fX4_isDownAt_J29 N g x0 x1 z0 d = some (vz, dz)) : WB p l e rmX4_isDownAt s m args below meth c 2 D cy B 0 0 (MQ below (QI D cy B vz g dz) args s 0 0 (wA B)) g d [(0, .ref (ad B x0)), (1, .int x1)] 29 [.int z0] := by
  unfold fX4_isDownAt_J29 at hf
  obtain ⟨h2, hf⟩ := gd_s hf
  exact b_zret C hr hlocks h2 hf dX4_isDownAt_29
def fX4_isDownAt_J28 (N : Nat) (g : Gs) (x0 : Nat) (x1 : Int32) (d : Ds) : Option (Int32 × Ds) := fX4_isDownAt_J29 N g x0 x1 0 d
set_option maxHeartbeats 4000000 in
set_option maxRecDepth 100000 in
theorem tX4_isDownAt_28 {p : Program} {l : Launch} {e : Env} {s : State} {m : MethodId} {args : Array Value} {below : List Frame} {meth : Method} {c : Code} {D : va_G} {cy : Nat → ClassId} {B : Bs} (C : Cx p s m args c cX4_isDownAt 2 RX4 D cy B) (hr : meth.sig.returnType = (some .boolean)) (hlocks : meth.locks = false) {N : Nat} {g : Gs} {x0 : Nat} {x1 : Int32} {vz : Int32} {dz : Ds} {d : Ds} (hf : fX4_isDownAt_J28 N g x0 x1 d = some (vz, dz)) : WB p l e rmX4_isDownAt s m args below meth c 2 D cy B 0 0 (MQ below (QI D cy B vz g dz) args s 0 0 (wA B)) g d [(0, .ref (ad B x0)), (1, .int x1)] 28 [] := by
  unfold fX4_isDownAt_J28 at hf
  refine b_iconst C (v := 0) dX4_isDownAt_28 (by decide) ?_
  refine b_sub [(0, .ref (ad B x0)), (1, .int x1)] [0, 1] rfl ?_
  exact tX4_isDownAt_29 C hr hlocks hf
def fX4_isDownAt (N : Nat) (g : Gs) (x0 : Nat) (x1 : Int32) (d : Ds) : Option (Int32 × Ds) := if x1 < 0 then (fX4_isDownAt_J28 N g x0 x1 d) else (gd (chk g x0 4) <| if (dI d x0 1) ≤ x1 then (fX4_isDownAt_J28 N g x0 x1 d) else (ob (gR g x0 0) fun r5 => (gd (chk g r5 102) <| gd (¬ (x1 < 0 ∨ gL g r5 ≤ x1.toNatClampNeg)) <| gd (¬ (2 : Int32) = 0) <| if ((dI d r5 x1.toNatClampNeg) - (dI d r5 x1.toNatClampNeg) / 2 * 2) = (1 : Int32) then (fX4_isDownAt_J29 N g x0 x1 1 d) else (fX4_isDownAt_J28 N g x0 x1 d))))
set_option maxHeartbeats 4000000 in
set_option maxRecDepth 100000 in
theorem tX4_isDownAt_E {p : Program} {l : Launch} {e : Env} {s : State} {m : MethodId} {args : Array Value} {below : List Frame} {meth : Method} {c : Code} {D : va_G} {cy : Nat → ClassId} {B : Bs} (C : Cx p s m args c cX4_isDownAt 2 RX4 D cy B) (hr : meth.sig.returnType = (some .boolean)) (hlocks : meth.locks = false) {N : Nat} {g : Gs} {x0 : Nat} {x1 : Int32} {vz : Int32} {dz : Ds} {d : Ds} (hf : fX4_isDownAt N g x0 x1 d = some (vz, dz)) : WB p l e rmX4_isDownAt s m args below meth c 2 D cy B 0 0 (MQ below (QI D cy B vz g dz) args s 0 0 (wA B)) g d [(0, .ref (ad B x0)), (1, .int x1)] 0 [] := by
  unfold fX4_isDownAt at hf
  refine b_iload_n C dX4_isDownAt_0 1 rfl rfl ?_
  refine b_if_lt C (tgt := 28) dX4_isDownAt_1 (by decide) (fun c1 => ?_) (fun c1 => ?_)
  · have hf := it_s c1 hf
    refine b_sub [(0, .ref (ad B x0)), (1, .int x1)] [0, 1] rfl ?_
    exact tX4_isDownAt_28 C hr hlocks hf
  · have hf := if_s c1 hf
    refine b_iload_n C dX4_isDownAt_4 1 rfl rfl ?_
    refine b_aload_n C dX4_isDownAt_5 0 rfl rfl ?_
    obtain ⟨h3, hf⟩ := gd_s hf
    refine b_gI C dX4_isDownAt_6 fl_X4_15 h3 ?_
    refine b_icmp_ge C (tgt := 28) dX4_isDownAt_9 (by decide) (fun c4 => ?_) (fun c4 => ?_)
    · have hf := it_s c4 hf
      refine b_sub [(0, .ref (ad B x0)), (1, .int x1)] [0, 1] rfl ?_
      exact tX4_isDownAt_28 C hr hlocks hf
    · have hf := if_s c4 hf
      refine b_aload_n C dX4_isDownAt_12 0 rfl rfl ?_
      obtain ⟨r5, er5, hf⟩ := ob_s hf
      refine b_gR C dX4_isDownAt_13 fl_X4_11 h3 er5 ?_
      refine b_iload_n C dX4_isDownAt_16 1 rfl rfl ?_
      obtain ⟨h6, hf⟩ := gd_s hf
      obtain ⟨h7, hf⟩ := gd_s hf
      refine b_iald C h6 h7 dX4_isDownAt_17 ?_
      refine b_iconst C (v := 2) dX4_isDownAt_18 (by decide) ?_
      obtain ⟨h8, hf⟩ := gd_s hf
      refine b_irem C dX4_isDownAt_19 h8 ?_
      refine b_iconst C (v := 1) dX4_isDownAt_20 (by decide) ?_
      refine b_icmp_ne C (tgt := 28) dX4_isDownAt_21 (by decide) (fun c9 => ?_) (fun c9 => ?_)
      · have hf := if_s c9 hf
        refine b_sub [(0, .ref (ad B x0)), (1, .int x1)] [0, 1] rfl ?_
        exact tX4_isDownAt_28 C hr hlocks hf
      · have hf := it_s c9 hf
        refine b_iconst C (v := 1) dX4_isDownAt_24 (by decide) ?_
        refine b_goto C (tgt := 29) dX4_isDownAt_25 (by decide) ?_
        refine b_sub [(0, .ref (ad B x0)), (1, .int x1)] [0, 1] rfl ?_
        exact tX4_isDownAt_29 C hr hlocks hf
theorem kX4_isDownAt (l : Launch) (D : va_G) (cy : Nat → ClassId) (B : Bs) {N : Nat} {g : Gs} {x0 : Nat} {x1 : Int32} {vz : Int32} {dz : Ds} {d : Ds} (hf : fX4_isDownAt N g x0 x1 d = some (vz, dz)) : Met l yX4_isDownAt (.code yX4_isDownAt cX4_isDownAt 2 (some .boolean) :: wl) rmX4_isDownAt (PC D cy B [.ref (ad B x0), .int x1] g d) (QI D cy B vz g dz) 0 0 (wA B) :=
  met_of (by decide +kernel) (Nat.le_of_ble_eq_true rfl) (fun p e s m args below meth c C hr hlocks _ => b_sub [(0, .ref (ad B x0)), (1, .int x1)] [0, 1] rfl (tX4_isDownAt_E C hr hlocks hf))
/-! KeyMatrix$Queue.keyAt(I)I -/
theorem dX4_keyAt_0 : decode cX4_keyAt 0 = .ok (.iload_n 1, 1) := by decide +kernel
theorem dX4_keyAt_1 : decode cX4_keyAt 1 = .ok (.ifCond .lt 11, 3) := by decide +kernel
theorem dX4_keyAt_4 : decode cX4_keyAt 4 = .ok (.iload_n 1, 1) := by decide +kernel
theorem dX4_keyAt_5 : decode cX4_keyAt 5 = .ok (.aload_n 0, 1) := by decide +kernel
theorem dX4_keyAt_6 : decode cX4_keyAt 6 = .ok (.getfield 15, 3) := by decide +kernel
theorem dX4_keyAt_9 : decode cX4_keyAt 9 = .ok (.if_icmp .lt 7, 3) := by decide +kernel
theorem dX4_keyAt_12 : decode cX4_keyAt 12 = .ok (.iconst (-1), 1) := by decide +kernel
theorem dX4_keyAt_13 : decode cX4_keyAt 13 = .ok (.goto 14, 3) := by decide +kernel
theorem dX4_keyAt_16 : decode cX4_keyAt 16 = .ok (.aload_n 0, 1) := by decide +kernel
theorem dX4_keyAt_17 : decode cX4_keyAt 17 = .ok (.getfield 11, 3) := by decide +kernel
theorem dX4_keyAt_20 : decode cX4_keyAt 20 = .ok (.iload_n 1, 1) := by decide +kernel
theorem dX4_keyAt_21 : decode cX4_keyAt 21 = .ok (.iaload, 1) := by decide +kernel
theorem dX4_keyAt_22 : decode cX4_keyAt 22 = .ok (.bipush 64, 2) := by decide +kernel
theorem dX4_keyAt_24 : decode cX4_keyAt 24 = .ok (.irem, 1) := by decide +kernel
theorem dX4_keyAt_25 : decode cX4_keyAt 25 = .ok (.iconst 2, 1) := by decide +kernel
theorem dX4_keyAt_26 : decode cX4_keyAt 26 = .ok (.idiv, 1) := by decide +kernel
theorem dX4_keyAt_27 : decode cX4_keyAt 27 = .ok (.ireturn, 1) := by decide +kernel
def rmX4_keyAt : Room := { frames := 0, cells := 0, slots := 0, locals := 0 }
def fX4_keyAt_J27 (N : Nat) (g : Gs) (x0 : Nat) (x1 : Int32) (z0 : Int32) (d : Ds) : Option (Int32 × Ds) := some (z0, d)
set_option maxHeartbeats 4000000 in
set_option maxRecDepth 100000 in
theorem tX4_keyAt_27 {p : Program} {l : Launch} {e : Env} {s : State} {m : MethodId} {args : Array Value} {below : List Frame} {meth : Method} {c : Code} {D : va_G} {cy : Nat → ClassId} {B : Bs} (C : Cx p s m args c cX4_keyAt 2 RX4 D cy B) (hr : meth.sig.returnType = (some .int)) (hlocks : meth.locks = false) {N : Nat} {g : Gs} {x0 : Nat} {x1 : Int32} {vz : Int32} {dz : Ds} {z0 : Int32} {d : Ds} (hf : fX4_keyAt_J27 N g x0 x1 z0 d = some (vz, dz)) : WB p l e rmX4_keyAt s m args below meth c 2 D cy B 0 0 (MQ below (QI D cy B vz g dz) args s 0 0 (wA B)) g d [(0, .ref (ad B x0)), (1, .int x1)] 27 [.int z0] := by
  unfold fX4_keyAt_J27 at hf
  exact b_iret C hr hlocks hf dX4_keyAt_27
def fX4_keyAt_J12 (N : Nat) (g : Gs) (x0 : Nat) (x1 : Int32) (d : Ds) : Option (Int32 × Ds) := fX4_keyAt_J27 N g x0 x1 (-1) d
set_option maxHeartbeats 4000000 in
set_option maxRecDepth 100000 in
theorem tX4_keyAt_12 {p : Program} {l : Launch} {e : Env} {s : State} {m : MethodId} {args : Array Value} {below : List Frame} {meth : Method} {c : Code} {D : va_G} {cy : Nat → ClassId} {B : Bs} (C : Cx p s m args c cX4_keyAt 2 RX4 D cy B) (hr : meth.sig.returnType = (some .int)) (hlocks : meth.locks = false) {N : Nat} {g : Gs} {x0 : Nat} {x1 : Int32} {vz : Int32} {dz : Ds} {d : Ds} (hf : fX4_keyAt_J12 N g x0 x1 d = some (vz, dz)) : WB p l e rmX4_keyAt s m args below meth c 2 D cy B 0 0 (MQ below (QI D cy B vz g dz) args s 0 0 (wA B)) g d [(0, .ref (ad B x0)), (1, .int x1)] 12 [] := by
  unfold fX4_keyAt_J12 at hf
  refine b_iconst C (v := (-1)) dX4_keyAt_12 (by decide) ?_
  refine b_goto C (tgt := 27) dX4_keyAt_13 (by decide) ?_
  refine b_sub [(0, .ref (ad B x0)), (1, .int x1)] [0, 1] rfl ?_
  exact tX4_keyAt_27 C hr hlocks hf
def fX4_keyAt (N : Nat) (g : Gs) (x0 : Nat) (x1 : Int32) (d : Ds) : Option (Int32 × Ds) := if x1 < 0 then (fX4_keyAt_J12 N g x0 x1 d) else (gd (chk g x0 4) <| if x1 < (dI d x0 1) then (ob (gR g x0 0) fun r4 => (gd (chk g r4 102) <| gd (¬ (x1 < 0 ∨ gL g r4 ≤ x1.toNatClampNeg)) <| gd (¬ (64 : Int32) = 0) <| gd (¬ (2 : Int32) = 0) <| fX4_keyAt_J27 N g x0 x1 (((dI d r4 x1.toNatClampNeg) - (dI d r4 x1.toNatClampNeg) / 64 * 64) / 2) d)) else (fX4_keyAt_J12 N g x0 x1 d))
set_option maxHeartbeats 4000000 in
set_option maxRecDepth 100000 in
theorem tX4_keyAt_E {p : Program} {l : Launch} {e : Env} {s : State} {m : MethodId} {args : Array Value} {below : List Frame} {meth : Method} {c : Code} {D : va_G} {cy : Nat → ClassId} {B : Bs} (C : Cx p s m args c cX4_keyAt 2 RX4 D cy B) (hr : meth.sig.returnType = (some .int)) (hlocks : meth.locks = false) {N : Nat} {g : Gs} {x0 : Nat} {x1 : Int32} {vz : Int32} {dz : Ds} {d : Ds} (hf : fX4_keyAt N g x0 x1 d = some (vz, dz)) : WB p l e rmX4_keyAt s m args below meth c 2 D cy B 0 0 (MQ below (QI D cy B vz g dz) args s 0 0 (wA B)) g d [(0, .ref (ad B x0)), (1, .int x1)] 0 [] := by
  unfold fX4_keyAt at hf
  refine b_iload_n C dX4_keyAt_0 1 rfl rfl ?_
  refine b_if_lt C (tgt := 12) dX4_keyAt_1 (by decide) (fun c1 => ?_) (fun c1 => ?_)
  · have hf := it_s c1 hf
    refine b_sub [(0, .ref (ad B x0)), (1, .int x1)] [0, 1] rfl ?_
    exact tX4_keyAt_12 C hr hlocks hf
  · have hf := if_s c1 hf
    refine b_iload_n C dX4_keyAt_4 1 rfl rfl ?_
    refine b_aload_n C dX4_keyAt_5 0 rfl rfl ?_
    obtain ⟨h2, hf⟩ := gd_s hf
    refine b_gI C dX4_keyAt_6 fl_X4_15 h2 ?_
    refine b_icmp_lt C (tgt := 16) dX4_keyAt_9 (by decide) (fun c3 => ?_) (fun c3 => ?_)
    · have hf := it_s c3 hf
      refine b_aload_n C dX4_keyAt_16 0 rfl rfl ?_
      obtain ⟨r4, er4, hf⟩ := ob_s hf
      refine b_gR C dX4_keyAt_17 fl_X4_11 h2 er4 ?_
      refine b_iload_n C dX4_keyAt_20 1 rfl rfl ?_
      obtain ⟨h5, hf⟩ := gd_s hf
      obtain ⟨h6, hf⟩ := gd_s hf
      refine b_iald C h5 h6 dX4_keyAt_21 ?_
      refine b_bipush C (v := 64) dX4_keyAt_22 (by decide) ?_
      obtain ⟨h7, hf⟩ := gd_s hf
      refine b_irem C dX4_keyAt_24 h7 ?_
      refine b_iconst C (v := 2) dX4_keyAt_25 (by decide) ?_
      obtain ⟨h8, hf⟩ := gd_s hf
      refine b_idiv C dX4_keyAt_26 h8 ?_
      refine b_sub [(0, .ref (ad B x0)), (1, .int x1)] [0, 1] rfl ?_
      exact tX4_keyAt_27 C hr hlocks hf
    · have hf := if_s c3 hf
      refine b_sub [(0, .ref (ad B x0)), (1, .int x1)] [0, 1] rfl ?_
      exact tX4_keyAt_12 C hr hlocks hf
theorem kX4_keyAt (l : Launch) (D : va_G) (cy : Nat → ClassId) (B : Bs) {N : Nat} {g : Gs} {x0 : Nat} {x1 : Int32} {vz : Int32} {dz : Ds} {d : Ds} (hf : fX4_keyAt N g x0 x1 d = some (vz, dz)) : Met l yX4_keyAt (.code yX4_keyAt cX4_keyAt 2 (some .int) :: wl) rmX4_keyAt (PC D cy B [.ref (ad B x0), .int x1] g d) (QI D cy B vz g dz) 0 0 (wA B) :=
  met_of (by decide +kernel) (Nat.le_of_ble_eq_true rfl) (fun p e s m args below meth c C hr hlocks _ => b_sub [(0, .ref (ad B x0)), (1, .int x1)] [0, 1] rfl (tX4_keyAt_E C hr hlocks hf))
/-! KeyMatrix$Queue.tickAt(I)I -/
theorem dX4_tickAt_0 : decode cX4_tickAt 0 = .ok (.iload_n 1, 1) := by decide +kernel
theorem dX4_tickAt_1 : decode cX4_tickAt 1 = .ok (.ifCond .lt 11, 3) := by decide +kernel
theorem dX4_tickAt_4 : decode cX4_tickAt 4 = .ok (.iload_n 1, 1) := by decide +kernel
theorem dX4_tickAt_5 : decode cX4_tickAt 5 = .ok (.aload_n 0, 1) := by decide +kernel
theorem dX4_tickAt_6 : decode cX4_tickAt 6 = .ok (.getfield 15, 3) := by decide +kernel
theorem dX4_tickAt_9 : decode cX4_tickAt 9 = .ok (.if_icmp .lt 7, 3) := by decide +kernel
theorem dX4_tickAt_12 : decode cX4_tickAt 12 = .ok (.iconst (-1), 1) := by decide +kernel
theorem dX4_tickAt_13 : decode cX4_tickAt 13 = .ok (.goto 12, 3) := by decide +kernel
theorem dX4_tickAt_16 : decode cX4_tickAt 16 = .ok (.aload_n 0, 1) := by decide +kernel
theorem dX4_tickAt_17 : decode cX4_tickAt 17 = .ok (.getfield 11, 3) := by decide +kernel
theorem dX4_tickAt_20 : decode cX4_tickAt 20 = .ok (.iload_n 1, 1) := by decide +kernel
theorem dX4_tickAt_21 : decode cX4_tickAt 21 = .ok (.iaload, 1) := by decide +kernel
theorem dX4_tickAt_22 : decode cX4_tickAt 22 = .ok (.bipush 64, 2) := by decide +kernel
theorem dX4_tickAt_24 : decode cX4_tickAt 24 = .ok (.idiv, 1) := by decide +kernel
theorem dX4_tickAt_25 : decode cX4_tickAt 25 = .ok (.ireturn, 1) := by decide +kernel
def rmX4_tickAt : Room := { frames := 0, cells := 0, slots := 0, locals := 0 }
def fX4_tickAt_J25 (N : Nat) (g : Gs) (x0 : Nat) (x1 : Int32) (z0 : Int32) (d : Ds) : Option (Int32 × Ds) := some (z0, d)
set_option maxHeartbeats 4000000 in
set_option maxRecDepth 100000 in
theorem tX4_tickAt_25 {p : Program} {l : Launch} {e : Env} {s : State} {m : MethodId} {args : Array Value} {below : List Frame} {meth : Method} {c : Code} {D : va_G} {cy : Nat → ClassId} {B : Bs} (C : Cx p s m args c cX4_tickAt 2 RX4 D cy B) (hr : meth.sig.returnType = (some .int)) (hlocks : meth.locks = false) {N : Nat} {g : Gs} {x0 : Nat} {x1 : Int32} {vz : Int32} {dz : Ds} {z0 : Int32} {d : Ds} (hf : fX4_tickAt_J25 N g x0 x1 z0 d = some (vz, dz)) : WB p l e rmX4_tickAt s m args below meth c 2 D cy B 0 0 (MQ below (QI D cy B vz g dz) args s 0 0 (wA B)) g d [(0, .ref (ad B x0)), (1, .int x1)] 25 [.int z0] := by
  unfold fX4_tickAt_J25 at hf
  exact b_iret C hr hlocks hf dX4_tickAt_25
def fX4_tickAt_J12 (N : Nat) (g : Gs) (x0 : Nat) (x1 : Int32) (d : Ds) : Option (Int32 × Ds) := fX4_tickAt_J25 N g x0 x1 (-1) d
set_option maxHeartbeats 4000000 in
set_option maxRecDepth 100000 in
theorem tX4_tickAt_12 {p : Program} {l : Launch} {e : Env} {s : State} {m : MethodId} {args : Array Value} {below : List Frame} {meth : Method} {c : Code} {D : va_G} {cy : Nat → ClassId} {B : Bs} (C : Cx p s m args c cX4_tickAt 2 RX4 D cy B) (hr : meth.sig.returnType = (some .int)) (hlocks : meth.locks = false) {N : Nat} {g : Gs} {x0 : Nat} {x1 : Int32} {vz : Int32} {dz : Ds} {d : Ds} (hf : fX4_tickAt_J12 N g x0 x1 d = some (vz, dz)) : WB p l e rmX4_tickAt s m args below meth c 2 D cy B 0 0 (MQ below (QI D cy B vz g dz) args s 0 0 (wA B)) g d [(0, .ref (ad B x0)), (1, .int x1)] 12 [] := by
  unfold fX4_tickAt_J12 at hf
  refine b_iconst C (v := (-1)) dX4_tickAt_12 (by decide) ?_
  refine b_goto C (tgt := 25) dX4_tickAt_13 (by decide) ?_
  refine b_sub [(0, .ref (ad B x0)), (1, .int x1)] [0, 1] rfl ?_
  exact tX4_tickAt_25 C hr hlocks hf
def fX4_tickAt (N : Nat) (g : Gs) (x0 : Nat) (x1 : Int32) (d : Ds) : Option (Int32 × Ds) := if x1 < 0 then (fX4_tickAt_J12 N g x0 x1 d) else (gd (chk g x0 4) <| if x1 < (dI d x0 1) then (ob (gR g x0 0) fun r4 => (gd (chk g r4 102) <| gd (¬ (x1 < 0 ∨ gL g r4 ≤ x1.toNatClampNeg)) <| gd (¬ (64 : Int32) = 0) <| fX4_tickAt_J25 N g x0 x1 ((dI d r4 x1.toNatClampNeg) / 64) d)) else (fX4_tickAt_J12 N g x0 x1 d))
set_option maxHeartbeats 4000000 in
set_option maxRecDepth 100000 in
theorem tX4_tickAt_E {p : Program} {l : Launch} {e : Env} {s : State} {m : MethodId} {args : Array Value} {below : List Frame} {meth : Method} {c : Code} {D : va_G} {cy : Nat → ClassId} {B : Bs} (C : Cx p s m args c cX4_tickAt 2 RX4 D cy B) (hr : meth.sig.returnType = (some .int)) (hlocks : meth.locks = false) {N : Nat} {g : Gs} {x0 : Nat} {x1 : Int32} {vz : Int32} {dz : Ds} {d : Ds} (hf : fX4_tickAt N g x0 x1 d = some (vz, dz)) : WB p l e rmX4_tickAt s m args below meth c 2 D cy B 0 0 (MQ below (QI D cy B vz g dz) args s 0 0 (wA B)) g d [(0, .ref (ad B x0)), (1, .int x1)] 0 [] := by
  unfold fX4_tickAt at hf
  refine b_iload_n C dX4_tickAt_0 1 rfl rfl ?_
  refine b_if_lt C (tgt := 12) dX4_tickAt_1 (by decide) (fun c1 => ?_) (fun c1 => ?_)
  · have hf := it_s c1 hf
    refine b_sub [(0, .ref (ad B x0)), (1, .int x1)] [0, 1] rfl ?_
    exact tX4_tickAt_12 C hr hlocks hf
  · have hf := if_s c1 hf
    refine b_iload_n C dX4_tickAt_4 1 rfl rfl ?_
    refine b_aload_n C dX4_tickAt_5 0 rfl rfl ?_
    obtain ⟨h2, hf⟩ := gd_s hf
    refine b_gI C dX4_tickAt_6 fl_X4_15 h2 ?_
    refine b_icmp_lt C (tgt := 16) dX4_tickAt_9 (by decide) (fun c3 => ?_) (fun c3 => ?_)
    · have hf := it_s c3 hf
      refine b_aload_n C dX4_tickAt_16 0 rfl rfl ?_
      obtain ⟨r4, er4, hf⟩ := ob_s hf
      refine b_gR C dX4_tickAt_17 fl_X4_11 h2 er4 ?_
      refine b_iload_n C dX4_tickAt_20 1 rfl rfl ?_
      obtain ⟨h5, hf⟩ := gd_s hf
      obtain ⟨h6, hf⟩ := gd_s hf
      refine b_iald C h5 h6 dX4_tickAt_21 ?_
      refine b_bipush C (v := 64) dX4_tickAt_22 (by decide) ?_
      obtain ⟨h7, hf⟩ := gd_s hf
      refine b_idiv C dX4_tickAt_24 h7 ?_
      refine b_sub [(0, .ref (ad B x0)), (1, .int x1)] [0, 1] rfl ?_
      exact tX4_tickAt_25 C hr hlocks hf
    · have hf := if_s c3 hf
      refine b_sub [(0, .ref (ad B x0)), (1, .int x1)] [0, 1] rfl ?_
      exact tX4_tickAt_12 C hr hlocks hf
theorem kX4_tickAt (l : Launch) (D : va_G) (cy : Nat → ClassId) (B : Bs) {N : Nat} {g : Gs} {x0 : Nat} {x1 : Int32} {vz : Int32} {dz : Ds} {d : Ds} (hf : fX4_tickAt N g x0 x1 d = some (vz, dz)) : Met l yX4_tickAt (.code yX4_tickAt cX4_tickAt 2 (some .int) :: wl) rmX4_tickAt (PC D cy B [.ref (ad B x0), .int x1] g d) (QI D cy B vz g dz) 0 0 (wA B) :=
  met_of (by decide +kernel) (Nat.le_of_ble_eq_true rfl) (fun p e s m args below meth c C hr hlocks _ => b_sub [(0, .ref (ad B x0)), (1, .int x1)] [0, 1] rfl (tX4_tickAt_E C hr hlocks hf))
/-! KeyMatrix$Queue.drop(I)V -/
theorem dX4_drop_0 : decode cX4_drop 0 = .ok (.iload_n 1, 1) := by decide +kernel
theorem dX4_drop_1 : decode cX4_drop 1 = .ok (.ifCond .lt 44, 3) := by decide +kernel
theorem dX4_drop_4 : decode cX4_drop 4 = .ok (.iload_n 1, 1) := by decide +kernel
theorem dX4_drop_5 : decode cX4_drop 5 = .ok (.aload_n 0, 1) := by decide +kernel
theorem dX4_drop_6 : decode cX4_drop 6 = .ok (.getfield 15, 3) := by decide +kernel
theorem dX4_drop_9 : decode cX4_drop 9 = .ok (.if_icmp .ge 36, 3) := by decide +kernel
theorem dX4_drop_12 : decode cX4_drop 12 = .ok (.aload_n 0, 1) := by decide +kernel
theorem dX4_drop_13 : decode cX4_drop 13 = .ok (.getfield 11, 3) := by decide +kernel
theorem dX4_drop_16 : decode cX4_drop 16 = .ok (.iload_n 1, 1) := by decide +kernel
theorem dX4_drop_17 : decode cX4_drop 17 = .ok (.iconst 1, 1) := by decide +kernel
theorem dX4_drop_18 : decode cX4_drop 18 = .ok (.iadd, 1) := by decide +kernel
theorem dX4_drop_19 : decode cX4_drop 19 = .ok (.aload_n 0, 1) := by decide +kernel
theorem dX4_drop_20 : decode cX4_drop 20 = .ok (.getfield 11, 3) := by decide +kernel
theorem dX4_drop_23 : decode cX4_drop 23 = .ok (.iload_n 1, 1) := by decide +kernel
theorem dX4_drop_24 : decode cX4_drop 24 = .ok (.aload_n 0, 1) := by decide +kernel
theorem dX4_drop_25 : decode cX4_drop 25 = .ok (.getfield 15, 3) := by decide +kernel
theorem dX4_drop_28 : decode cX4_drop 28 = .ok (.iload_n 1, 1) := by decide +kernel
theorem dX4_drop_29 : decode cX4_drop 29 = .ok (.isub, 1) := by decide +kernel
theorem dX4_drop_30 : decode cX4_drop 30 = .ok (.iconst 1, 1) := by decide +kernel
theorem dX4_drop_31 : decode cX4_drop 31 = .ok (.isub, 1) := by decide +kernel
theorem dX4_drop_32 : decode cX4_drop 32 = .ok (.invokestatic 22, 3) := by decide +kernel
theorem dX4_drop_35 : decode cX4_drop 35 = .ok (.aload_n 0, 1) := by decide +kernel
theorem dX4_drop_36 : decode cX4_drop 36 = .ok (.dup, 1) := by decide +kernel
theorem dX4_drop_37 : decode cX4_drop 37 = .ok (.getfield 15, 3) := by decide +kernel
theorem dX4_drop_40 : decode cX4_drop 40 = .ok (.iconst 1, 1) := by decide +kernel
theorem dX4_drop_41 : decode cX4_drop 41 = .ok (.isub, 1) := by decide +kernel
theorem dX4_drop_42 : decode cX4_drop 42 = .ok (.putfield 15, 3) := by decide +kernel
theorem dX4_drop_45 : decode cX4_drop 45 = .ok (.return_, 1) := by decide +kernel
def rmX4_drop : Room := { frames := 1, cells := 0, slots := 0, locals := 40 }
def fX4_drop_J45 (N : Nat) (g : Gs) (x0 : Nat) (x1 : Int32) (d : Ds) : Option (Unit × Ds) := some ((), d)
set_option maxHeartbeats 4000000 in
set_option maxRecDepth 100000 in
theorem tX4_drop_45 {p : Program} {l : Launch} {e : Env} {s : State} {m : MethodId} {args : Array Value} {below : List Frame} {meth : Method} {c : Code} {D : va_G} {cy : Nat → ClassId} {B : Bs} (C : Cx p s m args c cX4_drop 2 RX4 D cy B) (hr : meth.sig.returnType = none) (hlocks : meth.locks = false) {N : Nat} {g : Gs} {x0 : Nat} {x1 : Int32}  {dz : Ds} {d : Ds} (hf : fX4_drop_J45 N g x0 x1 d = some ((), dz)) : WB p l e rmX4_drop s m args below meth c 2 D cy B 0 0 (MQ below (QV D cy B g dz) args s 0 0 (wA B)) g d [(0, .ref (ad B x0)), (1, .int x1)] 45 [] := by
  unfold fX4_drop_J45 at hf
  exact b_vret C hr hlocks hf dX4_drop_45
def fX4_drop (N : Nat) (g : Gs) (x0 : Nat) (x1 : Int32) (d : Ds) : Option (Unit × Ds) := if x1 < 0 then (fX4_drop_J45 N g x0 x1 d) else (gd (chk g x0 4) <| if (dI d x0 1) ≤ x1 then (fX4_drop_J45 N g x0 x1 d) else (ob (gR g x0 0) fun r4 => (gd (chk g r4 102) <| gd (¬ (x1 + 1) < 0) <| gd (¬ x1 < 0) <| gd (¬ (((dI d x0 1) - x1) - 1) < 0) <| gd ((x1 + 1).toNatClampNeg + (((dI d x0 1) - x1) - 1).toNatClampNeg ≤ gL g r4) <| gd (x1.toNatClampNeg + (((dI d x0 1) - x1) - 1).toNatClampNeg ≤ gL g r4) <| bd (cI d r4 r4 (x1 + 1).toNatClampNeg x1.toNatClampNeg (((dI d x0 1) - x1) - 1).toNatClampNeg) fun d11 => (bd (sI d11 x0 1 ((dI d11 x0 1) - 1)) fun d12 => (fX4_drop_J45 N g x0 x1 d12)))))
set_option maxHeartbeats 4000000 in
set_option maxRecDepth 100000 in
theorem tX4_drop_E {p : Program} {l : Launch} {e : Env} {s : State} {m : MethodId} {args : Array Value} {below : List Frame} {meth : Method} {c : Code} {D : va_G} {cy : Nat → ClassId} {B : Bs} (C : Cx p s m args c cX4_drop 2 RX4 D cy B) (hr : meth.sig.returnType = none) (hlocks : meth.locks = false) {N : Nat} {g : Gs} {x0 : Nat} {x1 : Int32}  {dz : Ds} {d : Ds} (hf : fX4_drop N g x0 x1 d = some ((), dz)) : WB p l e rmX4_drop s m args below meth c 2 D cy B 0 0 (MQ below (QV D cy B g dz) args s 0 0 (wA B)) g d [(0, .ref (ad B x0)), (1, .int x1)] 0 [] := by
  unfold fX4_drop at hf
  refine b_iload_n C dX4_drop_0 1 rfl rfl ?_
  refine b_if_lt C (tgt := 45) dX4_drop_1 (by decide) (fun c1 => ?_) (fun c1 => ?_)
  · have hf := it_s c1 hf
    refine b_sub [(0, .ref (ad B x0)), (1, .int x1)] [0, 1] rfl ?_
    exact tX4_drop_45 C hr hlocks hf
  · have hf := if_s c1 hf
    refine b_iload_n C dX4_drop_4 1 rfl rfl ?_
    refine b_aload_n C dX4_drop_5 0 rfl rfl ?_
    obtain ⟨h2, hf⟩ := gd_s hf
    refine b_gI C dX4_drop_6 fl_X4_15 h2 ?_
    refine b_icmp_ge C (tgt := 45) dX4_drop_9 (by decide) (fun c3 => ?_) (fun c3 => ?_)
    · have hf := it_s c3 hf
      refine b_sub [(0, .ref (ad B x0)), (1, .int x1)] [0, 1] rfl ?_
      exact tX4_drop_45 C hr hlocks hf
    · have hf := if_s c3 hf
      refine b_aload_n C dX4_drop_12 0 rfl rfl ?_
      obtain ⟨r4, er4, hf⟩ := ob_s hf
      refine b_gR C dX4_drop_13 fl_X4_11 h2 er4 ?_
      refine b_iload_n C dX4_drop_16 1 rfl rfl ?_
      refine b_iconst C (v := 1) dX4_drop_17 (by decide) ?_
      refine b_iadd C dX4_drop_18 ?_
      refine b_aload_n C dX4_drop_19 0 rfl rfl ?_
      refine b_gR C dX4_drop_20 fl_X4_11 h2 er4 ?_
      refine b_iload_n C dX4_drop_23 1 rfl rfl ?_
      refine b_aload_n C dX4_drop_24 0 rfl rfl ?_
      refine b_gI C dX4_drop_25 fl_X4_15 h2 ?_
      refine b_iload_n C dX4_drop_28 1 rfl rfl ?_
      refine b_isub C dX4_drop_29 ?_
      refine b_iconst C (v := 1) dX4_drop_30 (by decide) ?_
      refine b_isub C dX4_drop_31 ?_
      obtain ⟨h5, hf⟩ := gd_s hf
      obtain ⟨h6, hf⟩ := gd_s hf
      obtain ⟨h7, hf⟩ := gd_s hf
      obtain ⟨h8, hf⟩ := gd_s hf
      obtain ⟨h9, hf⟩ := gd_s hf
      obtain ⟨h10, hf⟩ := gd_s hf
      obtain ⟨d11, ed11, hf⟩ := bd_s hf
      refine b_copyI C ac_X4_22 ac_n ac_s ac_i h5 h5 h6 h7 h8 h9 h10 ed11 (by decide) (by decide +kernel) dX4_drop_32 ?_
      refine b_aload_n C dX4_drop_35 0 rfl rfl ?_
      refine b_dup C dX4_drop_36 rfl ?_
      refine b_gI C dX4_drop_37 fl_X4_15 h2 ?_
      refine b_iconst C (v := 1) dX4_drop_40 (by decide) ?_
      refine b_isub C dX4_drop_41 ?_
      obtain ⟨d12, ed12, hf⟩ := bd_s hf
      refine b_pI C dX4_drop_42 fl_X4_15 fp4_1 h2 ed12 ?_
      refine b_sub [(0, .ref (ad B x0)), (1, .int x1)] [0, 1] rfl ?_
      exact tX4_drop_45 C hr hlocks hf
theorem kX4_drop (l : Launch) (D : va_G) (cy : Nat → ClassId) (B : Bs) {N : Nat} {g : Gs} {x0 : Nat} {x1 : Int32}  {dz : Ds} {d : Ds} (hf : fX4_drop N g x0 x1 d = some ((), dz)) : Met l yX4_drop (.code yX4_drop cX4_drop 2 none :: wl) rmX4_drop (PC D cy B [.ref (ad B x0), .int x1] g d) (QV D cy B g dz) 0 0 (wA B) :=
  met_of (by decide +kernel) (Nat.le_of_ble_eq_true rfl) (fun p e s m args below meth c C hr hlocks _ => b_sub [(0, .ref (ad B x0)), (1, .int x1)] [0, 1] rfl (tX4_drop_E C hr hlocks hf))
/-! KeyMatrix$Queue.dropNext(IZ)V -/
theorem yo_X4_keyAt : yX4_keyAt.cls ≠ "java/lang/invoke/MethodHandle" ∧ yX4_keyAt.cls ≠ "java/lang/invoke/VarHandle" ∧ (parseMethodDescriptor yX4_keyAt.desc).map (fun d => d.parameters.length) = some 1 := by decide +kernel
theorem co_X4_keyAt : Cond.code yX4_keyAt cX4_keyAt 2 (some .int) ∈ wl := mW (mT4 (List.mem_of_getElem? (i := 99) (by decide +kernel))) rfl
theorem in_X4_keyAt : Cond.initialized yX4_keyAt.cls ∈ wl := mW (mT1 (List.mem_of_getElem? (i := 9) (by decide +kernel))) rfl
theorem im_X4_keyAt : Cond.instanceMethod yX4_keyAt ∈ wl := mW (mT4 (List.mem_of_getElem? (i := 97) (by decide +kernel))) rfl
theorem se_X4_keyAt : Cond.selects yX4_keyAt.cls yX4_keyAt yX4_keyAt ∈ wl := mW (mT4 (List.mem_of_getElem? (i := 98) (by decide +kernel))) rfl
theorem lv_X4_28 : LV RX4 28 yX4_keyAt cX4_keyAt 2 (some .int) 1 4 := ⟨⟨(RX4, TX4, 3), rfl, rfl⟩, yo_X4_keyAt, mW (mT4 (List.mem_of_getElem? (i := 201) (by decide +kernel))) rfl, im_X4_keyAt, se_X4_keyAt, in_X4_keyAt, co_X4_keyAt⟩
theorem yo_X4_isDownAt : yX4_isDownAt.cls ≠ "java/lang/invoke/MethodHandle" ∧ yX4_isDownAt.cls ≠ "java/lang/invoke/VarHandle" ∧ (parseMethodDescriptor yX4_isDownAt.desc).map (fun d => d.parameters.length) = some 1 := by decide +kernel
theorem co_X4_isDownAt : Cond.code yX4_isDownAt cX4_isDownAt 2 (some .boolean) ∈ wl := mW (mT4 (List.mem_of_getElem? (i := 95) (by decide +kernel))) rfl
theorem in_X4_isDownAt : Cond.initialized yX4_isDownAt.cls ∈ wl := mW (mT1 (List.mem_of_getElem? (i := 9) (by decide +kernel))) rfl
theorem im_X4_isDownAt : Cond.instanceMethod yX4_isDownAt ∈ wl := mW (mT4 (List.mem_of_getElem? (i := 93) (by decide +kernel))) rfl
theorem se_X4_isDownAt : Cond.selects yX4_isDownAt.cls yX4_isDownAt yX4_isDownAt ∈ wl := mW (mT4 (List.mem_of_getElem? (i := 94) (by decide +kernel))) rfl
theorem lv_X4_32 : LV RX4 32 yX4_isDownAt cX4_isDownAt 2 (some .boolean) 1 4 := ⟨⟨(RX4, TX4, 3), rfl, rfl⟩, yo_X4_isDownAt, mW (mT4 (List.mem_of_getElem? (i := 202) (by decide +kernel))) rfl, im_X4_isDownAt, se_X4_isDownAt, in_X4_isDownAt, co_X4_isDownAt⟩
theorem yo_X4_drop : yX4_drop.cls ≠ "java/lang/invoke/MethodHandle" ∧ yX4_drop.cls ≠ "java/lang/invoke/VarHandle" ∧ (parseMethodDescriptor yX4_drop.desc).map (fun d => d.parameters.length) = some 1 := by decide +kernel
theorem co_X4_drop : Cond.code yX4_drop cX4_drop 2 none ∈ wl := mW (mT4 (List.mem_of_getElem? (i := 130) (by decide +kernel))) rfl
theorem in_X4_drop : Cond.initialized yX4_drop.cls ∈ wl := mW (mT1 (List.mem_of_getElem? (i := 9) (by decide +kernel))) rfl
theorem im_X4_drop : Cond.instanceMethod yX4_drop ∈ wl := mW (mT4 (List.mem_of_getElem? (i := 128) (by decide +kernel))) rfl
theorem se_X4_drop : Cond.selects yX4_drop.cls yX4_drop yX4_drop ∈ wl := mW (mT4 (List.mem_of_getElem? (i := 129) (by decide +kernel))) rfl
theorem lv_X4_36 : LV RX4 36 yX4_drop cX4_drop 2 none 1 4 := ⟨⟨(RX4, TX4, 3), rfl, rfl⟩, yo_X4_drop, mW (mT4 (List.mem_of_getElem? (i := 203) (by decide +kernel))) rfl, im_X4_drop, se_X4_drop, in_X4_drop, co_X4_drop⟩
theorem dX4_dropNext_0 : decode cX4_dropNext 0 = .ok (.iconst 0, 1) := by decide +kernel
theorem dX4_dropNext_1 : decode cX4_dropNext 1 = .ok (.istore_n 3, 1) := by decide +kernel
theorem dX4_dropNext_2 : decode cX4_dropNext 2 = .ok (.iload_n 3, 1) := by decide +kernel
theorem dX4_dropNext_3 : decode cX4_dropNext 3 = .ok (.aload_n 0, 1) := by decide +kernel
theorem dX4_dropNext_4 : decode cX4_dropNext 4 = .ok (.getfield 15, 3) := by decide +kernel
theorem dX4_dropNext_7 : decode cX4_dropNext 7 = .ok (.if_icmp .ge 33, 3) := by decide +kernel
theorem dX4_dropNext_10 : decode cX4_dropNext 10 = .ok (.aload_n 0, 1) := by decide +kernel
theorem dX4_dropNext_11 : decode cX4_dropNext 11 = .ok (.iload_n 3, 1) := by decide +kernel
theorem dX4_dropNext_12 : decode cX4_dropNext 12 = .ok (.invokevirtual 28, 3) := by decide +kernel
theorem dX4_dropNext_15 : decode cX4_dropNext 15 = .ok (.iload_n 1, 1) := by decide +kernel
theorem dX4_dropNext_16 : decode cX4_dropNext 16 = .ok (.if_icmp .ne 18, 3) := by decide +kernel
theorem dX4_dropNext_19 : decode cX4_dropNext 19 = .ok (.aload_n 0, 1) := by decide +kernel
theorem dX4_dropNext_20 : decode cX4_dropNext 20 = .ok (.iload_n 3, 1) := by decide +kernel
theorem dX4_dropNext_21 : decode cX4_dropNext 21 = .ok (.invokevirtual 32, 3) := by decide +kernel
theorem dX4_dropNext_24 : decode cX4_dropNext 24 = .ok (.iload_n 2, 1) := by decide +kernel
theorem dX4_dropNext_25 : decode cX4_dropNext 25 = .ok (.if_icmp .ne 9, 3) := by decide +kernel
theorem dX4_dropNext_28 : decode cX4_dropNext 28 = .ok (.aload_n 0, 1) := by decide +kernel
theorem dX4_dropNext_29 : decode cX4_dropNext 29 = .ok (.iload_n 3, 1) := by decide +kernel
theorem dX4_dropNext_30 : decode cX4_dropNext 30 = .ok (.invokevirtual 36, 3) := by decide +kernel
theorem dX4_dropNext_33 : decode cX4_dropNext 33 = .ok (.return_, 1) := by decide +kernel
theorem dX4_dropNext_34 : decode cX4_dropNext 34 = .ok (.iinc 3 1, 3) := by decide +kernel
theorem dX4_dropNext_37 : decode cX4_dropNext 37 = .ok (.goto (-35), 3) := by decide +kernel
theorem dX4_dropNext_40 : decode cX4_dropNext 40 = .ok (.return_, 1) := by decide +kernel
def rmX4_dropNext : Room := { frames := 2, cells := 0, slots := 0, locals := 61 }
def fX4_dropNext_J34 (N : Nat) (g : Gs) (x0 : Nat) (x1 : Int32) (x2 : Int32) (K2 : Int32 × Ds → Option (Unit × Ds)) (y3 : Int32) (d : Ds) : Option (Unit × Ds) := bd (y3 + 1) fun u7 => (K2 (u7, d))
set_option maxHeartbeats 4000000 in
set_option maxRecDepth 100000 in
theorem tX4_dropNext_34 {p : Program} {l : Launch} {e : Env} {s : State} {m : MethodId} {args : Array Value} {below : List Frame} {meth : Method} {c : Code} {D : va_G} {cy : Nat → ClassId} {B : Bs} (C : Cx p s m args c cX4_dropNext 4 RX4 D cy B) (hr : meth.sig.returnType = none) (hlocks : meth.locks = false) {N : Nat} {g : Gs} {x0 : Nat} {x1 : Int32} {x2 : Int32}  {dz : Ds} {K2 : Int32 × Ds → Option (Unit × Ds)} (hK2 : ∀ a, K2 a = some ((), dz) → WB p l e rmX4_dropNext s m args below meth c 4 D cy B 0 0 (MQ below (QV D cy B g dz) args s 0 0 (wA B)) g a.2 [(0, .ref (ad B x0)), (1, .int x1), (2, .int x2), (3, .int a.1)] 2 []) {y3 : Int32} {d : Ds} (hf : fX4_dropNext_J34 N g x0 x1 x2 K2 y3 d = some ((), dz)) : WB p l e rmX4_dropNext s m args below meth c 4 D cy B 0 0 (MQ below (QV D cy B g dz) args s 0 0 (wA B)) g d [(0, .ref (ad B x0)), (1, .int x1), (2, .int x2), (3, .int y3)] 34 [] := by
  unfold fX4_dropNext_J34 at hf
  obtain ⟨u7, eu7, hf⟩ := bd_s hf
  refine b_iinc C dX4_dropNext_34 3 rfl (by rw [eu7]; rfl) [(3, .int u7), (0, .ref (ad B x0)), (1, .int x1), (2, .int x2)] (by decide) rfl ?_
  refine b_goto C (tgt := 2) dX4_dropNext_37 (by decide) ?_
  refine b_sub [(0, .ref (ad B x0)), (1, .int x1), (2, .int x2), (3, .int u7)] [1, 2, 3, 0] rfl ?_
  exact hK2 (u7, d) hf
def fX4_dropNext_B2 (N : Nat) (g : Gs) (x0 : Nat) (x1 : Int32) (x2 : Int32) (K2 : Int32 × Ds → Option (Unit × Ds)) (y3 : Int32) (d : Ds) : Option (Unit × Ds) := gd (chk g x0 4) <| if (dI d x0 1) ≤ y3 then (some ((), d)) else (cb (fX4_keyAt N g x0 y3 d) fun u5 d3 => (if u5 = x1 then (cb (fX4_isDownAt N g x0 y3 d3) fun u10 d8 => (if u10 = x2 then (cv (fX4_drop N g x0 y3 d8) fun d12 => (some ((), d12))) else (fX4_dropNext_J34 N g x0 x1 x2 K2 y3 d8))) else (fX4_dropNext_J34 N g x0 x1 x2 K2 y3 d3)))
set_option maxHeartbeats 4000000 in
set_option maxRecDepth 100000 in
theorem tX4_dropNext_2 {p : Program} {l : Launch} {e : Env} {s : State} {m : MethodId} {args : Array Value} {below : List Frame} {meth : Method} {c : Code} {D : va_G} {cy : Nat → ClassId} {B : Bs} (C : Cx p s m args c cX4_dropNext 4 RX4 D cy B) (hr : meth.sig.returnType = none) (hlocks : meth.locks = false) {N : Nat} {g : Gs} {x0 : Nat} {x1 : Int32} {x2 : Int32}  {dz : Ds} {K2 : Int32 × Ds → Option (Unit × Ds)} (hK2 : ∀ a, K2 a = some ((), dz) → WB p l e rmX4_dropNext s m args below meth c 4 D cy B 0 0 (MQ below (QV D cy B g dz) args s 0 0 (wA B)) g a.2 [(0, .ref (ad B x0)), (1, .int x1), (2, .int x2), (3, .int a.1)] 2 []) {y3 : Int32} {d : Ds} (hf : fX4_dropNext_B2 N g x0 x1 x2 K2 y3 d = some ((), dz)) : WB p l e rmX4_dropNext s m args below meth c 4 D cy B 0 0 (MQ below (QV D cy B g dz) args s 0 0 (wA B)) g d [(0, .ref (ad B x0)), (1, .int x1), (2, .int x2), (3, .int y3)] 2 [] := by
  unfold fX4_dropNext_B2 at hf
  refine b_iload_n C dX4_dropNext_2 3 rfl rfl ?_
  refine b_aload_n C dX4_dropNext_3 0 rfl rfl ?_
  obtain ⟨h1, hf⟩ := gd_s hf
  refine b_gI C dX4_dropNext_4 fl_X4_15 h1 ?_
  refine b_icmp_ge C (tgt := 40) dX4_dropNext_7 (by decide) (fun c2 => ?_) (fun c2 => ?_)
  · have hf := it_s c2 hf
    exact b_vret C hr hlocks hf dX4_dropNext_40
  · have hf := if_s c2 hf
    refine b_aload_n C dX4_dropNext_10 0 rfl rfl ?_
    refine b_iload_n C dX4_dropNext_11 3 rfl rfl ?_
    obtain ⟨u5, d3, k4, hf⟩ := cb_s hf
    refine b_cVI C [] dX4_dropNext_12 (kX4_keyAt l D cy B k4) lv_X4_28 ⟨rfl, rfl, Nat.le_of_ble_eq_true rfl, Nat.le_of_ble_eq_true rfl⟩ h1 (by decide) rfl (Nat.le_of_ble_eq_true rfl) ⟨Nat.zero_le _, Nat.zero_le _⟩ rfl ?_
    refine b_iload_n C dX4_dropNext_15 1 rfl rfl ?_
    refine b_icmp_ne C (tgt := 34) dX4_dropNext_16 (by decide) (fun c6 => ?_) (fun c6 => ?_)
    · have hf := if_s c6 hf
      refine b_sub [(0, .ref (ad B x0)), (1, .int x1), (2, .int x2), (3, .int y3)] [0, 1, 2, 3] rfl ?_
      exact tX4_dropNext_34 C hr hlocks hK2 hf
    · have hf := it_s c6 hf
      refine b_aload_n C dX4_dropNext_19 0 rfl rfl ?_
      refine b_iload_n C dX4_dropNext_20 3 rfl rfl ?_
      obtain ⟨u10, d8, k9, hf⟩ := cb_s hf
      refine b_cVI C [] dX4_dropNext_21 (kX4_isDownAt l D cy B k9) lv_X4_32 ⟨rfl, rfl, Nat.le_of_ble_eq_true rfl, Nat.le_of_ble_eq_true rfl⟩ h1 (by decide) rfl (Nat.le_of_ble_eq_true rfl) ⟨Nat.zero_le _, Nat.zero_le _⟩ rfl ?_
      refine b_iload_n C dX4_dropNext_24 2 rfl rfl ?_
      refine b_icmp_ne C (tgt := 34) dX4_dropNext_25 (by decide) (fun c11 => ?_) (fun c11 => ?_)
      · have hf := if_s c11 hf
        refine b_sub [(0, .ref (ad B x0)), (1, .int x1), (2, .int x2), (3, .int y3)] [0, 1, 2, 3] rfl ?_
        exact tX4_dropNext_34 C hr hlocks hK2 hf
      · have hf := it_s c11 hf
        refine b_aload_n C dX4_dropNext_28 0 rfl rfl ?_
        refine b_iload_n C dX4_dropNext_29 3 rfl rfl ?_
        obtain ⟨d12, k13, hf⟩ := cv_s hf
        refine b_cVN C [] dX4_dropNext_30 (kX4_drop l D cy B k13) lv_X4_36 ⟨rfl, rfl, Nat.le_of_ble_eq_true rfl, Nat.le_of_ble_eq_true rfl⟩ h1 (by decide) rfl (Nat.le_of_ble_eq_true rfl) ⟨Nat.zero_le _, Nat.zero_le _⟩ rfl ?_
        exact b_vret C hr hlocks hf dX4_dropNext_33
def fX4_dropNext_L2 (N : Nat) (g : Gs) (x0 : Nat) (x1 : Int32) (x2 : Int32) : Int32 × Ds → Option (Unit × Ds) := lp (fun K2 a => fX4_dropNext_B2 N g x0 x1 x2 K2 a.1 a.2) N
theorem tX4_dropNext_L2 {p : Program} {l : Launch} {e : Env} {s : State} {m : MethodId} {args : Array Value} {below : List Frame} {meth : Method} {c : Code} {D : va_G} {cy : Nat → ClassId} {B : Bs} (C : Cx p s m args c cX4_dropNext 4 RX4 D cy B) (hr : meth.sig.returnType = none) (hlocks : meth.locks = false) {N : Nat} {g : Gs} {x0 : Nat} {x1 : Int32} {x2 : Int32}  {dz : Ds} (a : Int32 × Ds) (hf : fX4_dropNext_L2 N g x0 x1 x2 a = some ((), dz)) : WB p l e rmX4_dropNext s m args below meth c 4 D cy B 0 0 (MQ below (QV D cy B g dz) args s 0 0 (wA B)) g a.2 [(0, .ref (ad B x0)), (1, .int x1), (2, .int x2), (3, .int a.1)] 2 [] :=
  lp_w (fun K2 hK2 a ha => tX4_dropNext_2 C hr hlocks hK2 ha) N a hf
def fX4_dropNext (N : Nat) (g : Gs) (x0 : Nat) (x1 : Int32) (x2 : Int32) (d : Ds) : Option (Unit × Ds) := fX4_dropNext_L2 N g x0 x1 x2 (0, d)
set_option maxHeartbeats 4000000 in
set_option maxRecDepth 100000 in
theorem tX4_dropNext_E {p : Program} {l : Launch} {e : Env} {s : State} {m : MethodId} {args : Array Value} {below : List Frame} {meth : Method} {c : Code} {D : va_G} {cy : Nat → ClassId} {B : Bs} (C : Cx p s m args c cX4_dropNext 4 RX4 D cy B) (hr : meth.sig.returnType = none) (hlocks : meth.locks = false) {N : Nat} {g : Gs} {x0 : Nat} {x1 : Int32} {x2 : Int32}  {dz : Ds} {d : Ds} (hf : fX4_dropNext N g x0 x1 x2 d = some ((), dz)) : WB p l e rmX4_dropNext s m args below meth c 4 D cy B 0 0 (MQ below (QV D cy B g dz) args s 0 0 (wA B)) g d [(0, .ref (ad B x0)), (1, .int x1), (2, .int x2)] 0 [] := by
  unfold fX4_dropNext at hf
  refine b_iconst C (v := 0) dX4_dropNext_0 (by decide) ?_
  refine b_istore_n C dX4_dropNext_1 rfl [(3, .int 0), (0, .ref (ad B x0)), (1, .int x1), (2, .int x2)] (by decide) rfl ?_
  refine b_sub [(0, .ref (ad B x0)), (1, .int x1), (2, .int x2), (3, .int 0)] [1, 2, 3, 0] rfl ?_
  exact tX4_dropNext_L2 C hr hlocks (0, d) hf
theorem kX4_dropNext (l : Launch) (D : va_G) (cy : Nat → ClassId) (B : Bs) {N : Nat} {g : Gs} {x0 : Nat} {x1 : Int32} {x2 : Int32}  {dz : Ds} {d : Ds} (hf : fX4_dropNext N g x0 x1 x2 d = some ((), dz)) : Met l yX4_dropNext (.code yX4_dropNext cX4_dropNext 4 none :: wl) rmX4_dropNext (PC D cy B [.ref (ad B x0), .int x1, .int x2] g d) (QV D cy B g dz) 0 0 (wA B) :=
  met_of (by decide +kernel) (Nat.le_of_ble_eq_true rfl) (fun p e s m args below meth c C hr hlocks _ => b_sub [(0, .ref (ad B x0)), (1, .int x1), (2, .int x2)] [0, 1, 2] rfl (tX4_dropNext_E C hr hlocks hf))
end
