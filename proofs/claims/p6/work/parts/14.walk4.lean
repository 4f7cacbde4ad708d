/-! KeyMatrix$Tokens.cut([BI)V -/
theorem fp8_4 : FPI 8 4 := ⟨ft8, (RX8, TX8, 6), rfl, by decide +kernel, by decide +kernel⟩
theorem fp8_5 : FPI 8 5 := ⟨ft8, (RX8, TX8, 6), rfl, by decide +kernel, by decide +kernel⟩
theorem yo_X8_skipBlanks : yX8_skipBlanks.cls ≠ "java/lang/invoke/MethodHandle" ∧ yX8_skipBlanks.cls ≠ "java/lang/invoke/VarHandle" ∧ (parseMethodDescriptor yX8_skipBlanks.desc).map (fun d => d.parameters.length) = some 2 := by decide +kernel
theorem co_X8_skipBlanks : Cond.code yX8_skipBlanks cX8_skipBlanks 4 (some .int) ∈ wl := mW (mT3 (List.mem_of_getElem? (i := 48) (by decide +kernel))) rfl
theorem in_X8_skipBlanks : Cond.initialized yX8_skipBlanks.cls ∈ wl := mW (mT1 (List.mem_of_getElem? (i := 3) (by decide +kernel))) rfl
theorem im_X8_skipBlanks : Cond.instanceMethod yX8_skipBlanks ∈ wl := mW (mT3 (List.mem_of_getElem? (i := 47) (by decide +kernel))) rfl
theorem se_X8_skipBlanks : Cond.selects yX8_skipBlanks.cls yX8_skipBlanks yX8_skipBlanks ∈ wl := mW (mT0 (List.mem_of_getElem? (i := 2) (by decide +kernel))) rfl
theorem lv_X8_32 : LV RX8 32 yX8_skipBlanks cX8_skipBlanks 4 (some .int) 2 8 := ⟨⟨(RX8, TX8, 6), rfl, rfl⟩, yo_X8_skipBlanks, mW (mT3 (List.mem_of_getElem? (i := 45) (by decide +kernel))) rfl, im_X8_skipBlanks, se_X8_skipBlanks, in_X8_skipBlanks, co_X8_skipBlanks⟩
theorem fl_X8_13 : FLR RX8 13 8 1 := ⟨⟨RX8, TX8, 6, rfl, by decide, inl8, Or.inl (mW (mT1 (List.mem_of_getElem? (i := 45) (by decide +kernel))) rfl)⟩, by decide, by decide +kernel⟩
theorem yo_X8_cutInt : yX8_cutInt.cls ≠ "java/lang/invoke/MethodHandle" ∧ yX8_cutInt.cls ≠ "java/lang/invoke/VarHandle" ∧ (parseMethodDescriptor yX8_cutInt.desc).map (fun d => d.parameters.length) = some 2 := by decide +kernel
theorem co_X8_cutInt : Cond.code yX8_cutInt cX8_cutInt 5 (some .int) ∈ wl := mW (mT3 (List.mem_of_getElem? (i := 115) (by decide +kernel))) rfl
theorem in_X8_cutInt : Cond.initialized yX8_cutInt.cls ∈ wl := mW (mT1 (List.mem_of_getElem? (i := 3) (by decide +kernel))) rfl
theorem im_X8_cutInt : Cond.instanceMethod yX8_cutInt ∈ wl := mW (mT3 (List.mem_of_getElem? (i := 114) (by decide +kernel))) rfl
theorem se_X8_cutInt : Cond.selects yX8_cutInt.cls yX8_cutInt yX8_cutInt ∈ wl := mW (mT0 (List.mem_of_getElem? (i := 4) (by decide +kernel))) rfl
theorem lv_X8_46 : LV RX8 46 yX8_cutInt cX8_cutInt 5 (some .int) 2 8 := ⟨⟨(RX8, TX8, 6), rfl, rfl⟩, yo_X8_cutInt, mW (mT3 (List.mem_of_getElem? (i := 112) (by decide +kernel))) rfl, im_X8_cutInt, se_X8_cutInt, in_X8_cutInt, co_X8_cutInt⟩
theorem yo_X8_cutWord : yX8_cutWord.cls ≠ "java/lang/invoke/MethodHandle" ∧ yX8_cutWord.cls ≠ "java/lang/invoke/VarHandle" ∧ (parseMethodDescriptor yX8_cutWord.desc).map (fun d => d.parameters.length) = some 2 := by decide +kernel
theorem co_X8_cutWord : Cond.code yX8_cutWord cX8_cutWord 8 (some .int) ∈ wl := mW (mT3 (List.mem_of_getElem? (i := 55) (by decide +kernel))) rfl
theorem in_X8_cutWord : Cond.initialized yX8_cutWord.cls ∈ wl := mW (mT1 (List.mem_of_getElem? (i := 3) (by decide +kernel))) rfl
theorem im_X8_cutWord : Cond.instanceMethod yX8_cutWord ∈ wl := mW (mT3 (List.mem_of_getElem? (i := 54) (by decide +kernel))) rfl
theorem se_X8_cutWord : Cond.selects yX8_cutWord.cls yX8_cutWord yX8_cutWord ∈ wl := mW (mT0 (List.mem_of_getElem? (i := 3) (by decide +kernel))) rfl
theorem lv_X8_40 : LV RX8 40 yX8_cutWord cX8_cutWord 8 (some .int) 2 8 := ⟨⟨(RX8, TX8, 6), rfl, rfl⟩, yo_X8_cutWord, mW (mT3 (List.mem_of_getElem? (i := 52) (by decide +kernel))) rfl, im_X8_cutWord, se_X8_cutWord, in_X8_cutWord, co_X8_cutWord⟩
theorem dX8_cut_0 : decode cX8_cut 0 = .ok (.aload_n 0, 1) := by decide +kernel
theorem dX8_cut_1 : decode cX8_cut 1 = .ok (.iconst 0, 1) := by decide +kernel
theorem dX8_cut_2 : decode cX8_cut 2 = .ok (.putfield 25, 3) := by decide +kernel
theorem dX8_cut_5 : decode cX8_cut 5 = .ok (.aload_n 0, 1) := by decide +kernel
theorem dX8_cut_6 : decode cX8_cut 6 = .ok (.iload_n 2, 1) := by decide +kernel
theorem dX8_cut_7 : decode cX8_cut 7 = .ok (.aload_n 1, 1) := by decide +kernel
theorem dX8_cut_8 : decode cX8_cut 8 = .ok (.arraylength, 1) := by decide +kernel
theorem dX8_cut_9 : decode cX8_cut 9 = .ok (.if_icmp .gt 7, 3) := by decide +kernel
theorem dX8_cut_12 : decode cX8_cut 12 = .ok (.iload_n 2, 1) := by decide +kernel
theorem dX8_cut_13 : decode cX8_cut 13 = .ok (.goto 5, 3) := by decide +kernel
theorem dX8_cut_16 : decode cX8_cut 16 = .ok (.aload_n 1, 1) := by decide +kernel
theorem dX8_cut_17 : decode cX8_cut 17 = .ok (.arraylength, 1) := by decide +kernel
theorem dX8_cut_18 : decode cX8_cut 18 = .ok (.putfield 29, 3) := by decide +kernel
theorem dX8_cut_21 : decode cX8_cut 21 = .ok (.aload_n 0, 1) := by decide +kernel
theorem dX8_cut_22 : decode cX8_cut 22 = .ok (.aload_n 1, 1) := by decide +kernel
theorem dX8_cut_23 : decode cX8_cut 23 = .ok (.iconst 0, 1) := by decide +kernel
theorem dX8_cut_24 : decode cX8_cut 24 = .ok (.invokevirtual 32, 3) := by decide +kernel
theorem dX8_cut_27 : decode cX8_cut 27 = .ok (.istore_n 3, 1) := by decide +kernel
theorem dX8_cut_28 : decode cX8_cut 28 = .ok (.iload_n 3, 1) := by decide +kernel
theorem dX8_cut_29 : decode cX8_cut 29 = .ok (.aload_n 0, 1) := by decide +kernel
theorem dX8_cut_30 : decode cX8_cut 30 = .ok (.getfield 29, 3) := by decide +kernel
theorem dX8_cut_33 : decode cX8_cut 33 = .ok (.if_icmp .ge 131, 3) := by decide +kernel
theorem dX8_cut_36 : decode cX8_cut 36 = .ok (.aload_n 0, 1) := by decide +kernel
theorem dX8_cut_37 : decode cX8_cut 37 = .ok (.getfield 25, 3) := by decide +kernel
theorem dX8_cut_40 : decode cX8_cut 40 = .ok (.sipush 400, 3) := by decide +kernel
theorem dX8_cut_43 : decode cX8_cut 43 = .ok (.if_icmp .gt 121, 3) := by decide +kernel
theorem dX8_cut_46 : decode cX8_cut 46 = .ok (.aload_n 0, 1) := by decide +kernel
theorem dX8_cut_47 : decode cX8_cut 47 = .ok (.getfield 13, 3) := by decide +kernel
theorem dX8_cut_50 : decode cX8_cut 50 = .ok (.aload_n 0, 1) := by decide +kernel
theorem dX8_cut_51 : decode cX8_cut 51 = .ok (.getfield 25, 3) := by decide +kernel
theorem dX8_cut_54 : decode cX8_cut 54 = .ok (.iload_n 3, 1) := by decide +kernel
theorem dX8_cut_55 : decode cX8_cut 55 = .ok (.iastore, 1) := by decide +kernel
theorem dX8_cut_56 : decode cX8_cut 56 = .ok (.aload_n 0, 1) := by decide +kernel
theorem dX8_cut_57 : decode cX8_cut 57 = .ok (.getfield 21, 3) := by decide +kernel
theorem dX8_cut_60 : decode cX8_cut 60 = .ok (.aload_n 0, 1) := by decide +kernel
theorem dX8_cut_61 : decode cX8_cut 61 = .ok (.getfield 25, 3) := by decide +kernel
theorem dX8_cut_64 : decode cX8_cut 64 = .ok (.aconst_null, 1) := by decide +kernel
theorem dX8_cut_65 : decode cX8_cut 65 = .ok (.aastore, 1) := by decide +kernel
theorem dX8_cut_66 : decode cX8_cut 66 = .ok (.aload_n 0, 1) := by decide +kernel
theorem dX8_cut_67 : decode cX8_cut 67 = .ok (.getfield 16, 3) := by decide +kernel
theorem dX8_cut_70 : decode cX8_cut 70 = .ok (.aload_n 0, 1) := by decide +kernel
theorem dX8_cut_71 : decode cX8_cut 71 = .ok (.getfield 25, 3) := by decide +kernel
theorem dX8_cut_74 : decode cX8_cut 74 = .ok (.iconst 0, 1) := by decide +kernel
theorem dX8_cut_75 : decode cX8_cut 75 = .ok (.iastore, 1) := by decide +kernel
theorem dX8_cut_76 : decode cX8_cut 76 = .ok (.iload_n 3, 1) := by decide +kernel
theorem dX8_cut_77 : decode cX8_cut 77 = .ok (.iconst 1, 1) := by decide +kernel
theorem dX8_cut_78 : decode cX8_cut 78 = .ok (.iadd, 1) := by decide +kernel
theorem dX8_cut_79 : decode cX8_cut 79 = .ok (.istore 4, 2) := by decide +kernel
theorem dX8_cut_81 : decode cX8_cut 81 = .ok (.aload_n 1, 1) := by decide +kernel
theorem dX8_cut_82 : decode cX8_cut 82 = .ok (.iload_n 3, 1) := by decide +kernel
theorem dX8_cut_83 : decode cX8_cut 83 = .ok (.baload, 1) := by decide +kernel
theorem dX8_cut_84 : decode cX8_cut 84 = .ok (.invokestatic 36, 3) := by decide +kernel
theorem dX8_cut_87 : decode cX8_cut 87 = .ok (.ifCond .eq 14, 3) := by decide +kernel
theorem dX8_cut_90 : decode cX8_cut 90 = .ok (.aload_n 0, 1) := by decide +kernel
theorem dX8_cut_91 : decode cX8_cut 91 = .ok (.aload_n 1, 1) := by decide +kernel
theorem dX8_cut_92 : decode cX8_cut 92 = .ok (.iload_n 3, 1) := by decide +kernel
theorem dX8_cut_93 : decode cX8_cut 93 = .ok (.invokevirtual 40, 3) := by decide +kernel
theorem dX8_cut_96 : decode cX8_cut 96 = .ok (.istore 4, 2) := by decide +kernel
theorem dX8_cut_98 : decode cX8_cut 98 = .ok (.goto 45, 3) := by decide +kernel
theorem dX8_cut_101 : decode cX8_cut 101 = .ok (.aload_n 1, 1) := by decide +kernel
theorem dX8_cut_102 : decode cX8_cut 102 = .ok (.iload_n 3, 1) := by decide +kernel
theorem dX8_cut_103 : decode cX8_cut 103 = .ok (.baload, 1) := by decide +kernel
theorem dX8_cut_104 : decode cX8_cut 104 = .ok (.invokestatic 43, 3) := by decide +kernel
theorem dX8_cut_107 : decode cX8_cut 107 = .ok (.ifCond .eq 14, 3) := by decide +kernel
theorem dX8_cut_110 : decode cX8_cut 110 = .ok (.aload_n 0, 1) := by decide +kernel
theorem dX8_cut_111 : decode cX8_cut 111 = .ok (.aload_n 1, 1) := by decide +kernel
theorem dX8_cut_112 : decode cX8_cut 112 = .ok (.iload_n 3, 1) := by decide +kernel
theorem dX8_cut_113 : decode cX8_cut 113 = .ok (.invokevirtual 46, 3) := by decide +kernel
theorem dX8_cut_116 : decode cX8_cut 116 = .ok (.istore 4, 2) := by decide +kernel
theorem dX8_cut_118 : decode cX8_cut 118 = .ok (.goto 25, 3) := by decide +kernel
theorem dX8_cut_121 : decode cX8_cut 121 = .ok (.aload_n 0, 1) := by decide +kernel
theorem dX8_cut_122 : decode cX8_cut 122 = .ok (.getfield 9, 3) := by decide +kernel
theorem dX8_cut_125 : decode cX8_cut 125 = .ok (.aload_n 0, 1) := by decide +kernel
theorem dX8_cut_126 : decode cX8_cut 126 = .ok (.getfield 25, 3) := by decide +kernel
theorem dX8_cut_129 : decode cX8_cut 129 = .ok (.aload_n 1, 1) := by decide +kernel
theorem dX8_cut_130 : decode cX8_cut 130 = .ok (.iload_n 3, 1) := by decide +kernel
theorem dX8_cut_131 : decode cX8_cut 131 = .ok (.baload, 1) := by decide +kernel
theorem dX8_cut_132 : decode cX8_cut 132 = .ok (.bipush 59, 2) := by decide +kernel
theorem dX8_cut_134 : decode cX8_cut 134 = .ok (.if_icmp .ne 7, 3) := by decide +kernel
theorem dX8_cut_137 : decode cX8_cut 137 = .ok (.iconst 3, 1) := by decide +kernel
theorem dX8_cut_138 : decode cX8_cut 138 = .ok (.goto 4, 3) := by decide +kernel
theorem dX8_cut_141 : decode cX8_cut 141 = .ok (.iconst 4, 1) := by decide +kernel
theorem dX8_cut_142 : decode cX8_cut 142 = .ok (.iastore, 1) := by decide +kernel
theorem dX8_cut_143 : decode cX8_cut 143 = .ok (.aload_n 0, 1) := by decide +kernel
theorem dX8_cut_144 : decode cX8_cut 144 = .ok (.dup, 1) := by decide +kernel
theorem dX8_cut_145 : decode cX8_cut 145 = .ok (.getfield 25, 3) := by decide +kernel
theorem dX8_cut_148 : decode cX8_cut 148 = .ok (.iconst 1, 1) := by decide +kernel
theorem dX8_cut_149 : decode cX8_cut 149 = .ok (.iadd, 1) := by decide +kernel
theorem dX8_cut_150 : decode cX8_cut 150 = .ok (.putfield 25, 3) := by decide +kernel
theorem dX8_cut_153 : decode cX8_cut 153 = .ok (.aload_n 0, 1) := by decide +kernel
theorem dX8_cut_154 : decode cX8_cut 154 = .ok (.aload_n 1, 1) := by decide +kernel
theorem dX8_cut_155 : decode cX8_cut 155 = .ok (.iload 4, 2) := by decide +kernel
theorem dX8_cut_157 : decode cX8_cut 157 = .ok (.invokevirtual 32, 3) := by decide +kernel
theorem dX8_cut_160 : decode cX8_cut 160 = .ok (.istore_n 3, 1) := by decide +kernel
theorem dX8_cut_161 : decode cX8_cut 161 = .ok (.goto (-133), 3) := by decide +kernel
theorem dX8_cut_164 : decode cX8_cut 164 = .ok (.return_, 1) := by decide +kernel
def rmX8_cut : Room := { frames := 6, cells := 0, slots := 0, locals := 136 }
set_option maxRecDepth 100000 in
def fX8_cut_J164 (N : Nat) (g : Gs) (x0 : Nat) (x1 : Nat) (x2 : Int32) (d : Ds) : Option (Unit × Ds) := some ((), d)
set_option maxHeartbeats 4000000 in
set_option maxRecDepth 100000 in
theorem tX8_cut_164 {p : Program} {l : Launch} {e : Env} {s : State} {m : MethodId} {args : Array Value} {below : List Frame} {meth : Method} {c : Code} {D : va_G} {cy : Nat → ClassId} {B : Bs} (C : Cx p s m args c cX8_cut 5 RX8 D cy B) (hr : meth.sig.returnType = none) (hlocks : meth.locks = false) {N : Nat} {g : Gs} {x0 : Nat} {x1 : Nat} {x2 : Int32}  {dz : Ds} {d : Ds} (hf : fX8_cut_J164 N g x0 x1 x2 d = some ((), dz)) : WB p l e rmX8_cut s m args below meth c 5 D cy B 0 0 (MQ below (QV D cy B g dz) args s 0 0 (wA B)) g d [(0, .ref (ad B x0)), (1, .ref (ad B x1)), (2, .int x2)] 164 [] := by
  unfold fX8_cut_J164 at hf
  exact b_vret C hr hlocks hf dX8_cut_164
set_option maxRecDepth 100000 in
def fX8_cut_J143 (N : Nat) (g : Gs) (x0 : Nat) (x1 : Nat) (x2 : Int32) (K28 : Int32 × Ds → Option (Unit × Ds)) (y4 : Int32) (d : Ds) : Option (Unit × Ds) := gd (chk g x0 8) <| bd (sI d x0 4 ((dI d x0 4) + 1)) fun d44 => (cb (fX8_skipBlanks N g x0 x1 y4 d44) fun u47 d45 => (K28 (u47, d45)))
set_option maxHeartbeats 4000000 in
set_option maxRecDepth 100000 in
theorem tX8_cut_143 {p : Program} {l : Launch} {e : Env} {s : State} {m : MethodId} {args : Array Value} {below : List Frame} {meth : Method} {c : Code} {D : va_G} {cy : Nat → ClassId} {B : Bs} (C : Cx p s m args c cX8_cut 5 RX8 D cy B) (hr : meth.sig.returnType = none) (hlocks : meth.locks = false) {N : Nat} {g : Gs} {x0 : Nat} {x1 : Nat} {x2 : Int32}  {dz : Ds} {K28 : Int32 × Ds → Option (Unit × Ds)} (hK28 : ∀ a, K28 a = some ((), dz) → WB p l e rmX8_cut s m args below meth c 5 D cy B 0 0 (MQ below (QV D cy B g dz) args s 0 0 (wA B)) g a.2 [(0, .ref (ad B x0)), (1, .ref (ad B x1)), (2, .int x2), (3, .int a.1)] 28 []) {y4 : Int32} {d : Ds} (hf : fX8_cut_J143 N g x0 x1 x2 K28 y4 d = some ((), dz)) : WB p l e rmX8_cut s m args below meth c 5 D cy B 0 0 (MQ below (QV D cy B g dz) args s 0 0 (wA B)) g d [(0, .ref (ad B x0)), (1, .ref (ad B x1)), (2, .int x2), (4, .int y4)] 143 [] := by
  unfold fX8_cut_J143 at hf
  refine b_aload_n C dX8_cut_143 0 rfl rfl ?_
  refine b_dup C dX8_cut_144 rfl ?_
  obtain ⟨h43, hf⟩ := gd_s hf
  refine b_gI C dX8_cut_145 fl_X8_25 h43 ?_
  refine b_iconst C (v := 1) dX8_cut_148 (by decide) ?_
  refine b_iadd C dX8_cut_149 ?_
  obtain ⟨d44, ed44, hf⟩ := bd_s hf
  refine b_pI C dX8_cut_150 fl_X8_25 fp8_4 h43 ed44 ?_
  refine b_aload_n C dX8_cut_153 0 rfl rfl ?_
  refine b_aload_n C dX8_cut_154 1 rfl rfl ?_
  refine b_iload C dX8_cut_155 3 rfl ?_
  obtain ⟨u47, d45, k46, hf⟩ := cb_s hf
  refine b_cVI C [] dX8_cut_157 (kX8_skipBlanks l D cy B k46) lv_X8_32 ⟨rfl, rfl, Nat.le_of_ble_eq_true rfl, Nat.le_of_ble_eq_true rfl⟩ h43 (by decide) rfl (Nat.le_of_ble_eq_true rfl) ⟨Nat.zero_le _, Nat.zero_le _⟩ rfl ?_
  refine b_istore_n C dX8_cut_160 rfl [(3, .int u47), (0, .ref (ad B x0)), (1, .ref (ad B x1)), (2, .int x2), (4, .int y4)] (by decide) rfl ?_
  refine b_goto C (tgt := 28) dX8_cut_161 (by decide) ?_
  refine b_sub [(0, .ref (ad B x0)), (1, .ref (ad B x1)), (2, .int x2), (3, .int u47)] [1, 2, 3, 0] rfl ?_
  exact hK28 (u47, d45) hf
set_option maxRecDepth 100000 in
def fX8_cut_J142 (N : Nat) (g : Gs) (x0 : Nat) (x1 : Nat) (x2 : Int32) (K28 : Int32 × Ds → Option (Unit × Ds)) (y4 : Int32) (z0 : Int32) (z1 : Int32) (z2 : Nat) (d : Ds) : Option (Unit × Ds) := gd (chk g z2 102) <| gd (¬ (z1 < 0 ∨ gL g z2 ≤ z1.toNatClampNeg)) <| bd (sI d z2 z1.toNatClampNeg z0) fun d42 => (fX8_cut_J143 N g x0 x1 x2 K28 y4 d42)
set_option maxHeartbeats 4000000 in
set_option maxRecDepth 100000 in
theorem tX8_cut_142 {p : Program} {l : Launch} {e : Env} {s : State} {m : MethodId} {args : Array Value} {below : List Frame} {meth : Method} {c : Code} {D : va_G} {cy : Nat → ClassId} {B : Bs} (C : Cx p s m args c cX8_cut 5 RX8 D cy B) (hr : meth.sig.returnType = none) (hlocks : meth.locks = false) {N : Nat} {g : Gs} {x0 : Nat} {x1 : Nat} {x2 : Int32}  {dz : Ds} {K28 : Int32 × Ds → Option (Unit × Ds)} (hK28 : ∀ a, K28 a = some ((), dz) → WB p l e rmX8_cut s m args below meth c 5 D cy B 0 0 (MQ below (QV D cy B g dz) args s 0 0 (wA B)) g a.2 [(0, .ref (ad B x0)), (1, .ref (ad B x1)), (2, .int x2), (3, .int a.1)] 28 []) {y4 : Int32} {z0 : Int32} {z1 : Int32} {z2 : Nat} {d : Ds} (hf : fX8_cut_J142 N g x0 x1 x2 K28 y4 z0 z1 z2 d = some ((), dz)) : WB p l e rmX8_cut s m args below meth c 5 D cy B 0 0 (MQ below (QV D cy B g dz) args s 0 0 (wA B)) g d [(0, .ref (ad B x0)), (1, .ref (ad B x1)), (2, .int x2), (4, .int y4)] 142 [.int z0, .int z1, .ref (ad B z2)] := by
  unfold fX8_cut_J142 at hf
  obtain ⟨h40, hf⟩ := gd_s hf
  obtain ⟨h41, hf⟩ := gd_s hf
  obtain ⟨d42, ed42, hf⟩ := bd_s hf
  refine b_iast C h40 h41 ed42 dX8_cut_142 ?_
  refine b_sub [(0, .ref (ad B x0)), (1, .ref (ad B x1)), (2, .int x2), (4, .int y4)] [0, 1, 2, 3] rfl ?_
  exact tX8_cut_143 C hr hlocks hK28 hf
set_option maxRecDepth 100000 in
def fX8_cut_B28 (N : Nat) (g : Gs) (x0 : Nat) (x1 : Nat) (x2 : Int32) (K28 : Int32 × Ds → Option (Unit × Ds)) (y3 : Int32) (d : Ds) : Option (Unit × Ds) := gd (chk g x0 8) <| if (dI d x0 5) ≤ y3 then (fX8_cut_J164 N g x0 x1 x2 d) else (if (400 : Int32) < (dI d x0 4) then (fX8_cut_J164 N g x0 x1 x2 d) else (ob (gR g x0 1) fun r14 => (gd (chk g r14 102) <| gd (¬ ((dI d x0 4) < 0 ∨ gL g r14 ≤ (dI d x0 4).toNatClampNeg)) <| bd (sI d r14 (dI d x0 4).toNatClampNeg y3) fun d17 => (ob (gR g x0 3) fun r18 => (gd (chk g r18 107) <| gd (¬ ((dI d17 x0 4) < 0 ∨ gL g r18 ≤ (dI d17 x0 4).toNatClampNeg)) <| gd (wkb none) <| bd (sW d17 r18 (dI d17 x0 4).toNatClampNeg none) fun d22 => (ob (gR g x0 2) fun r23 => (gd (chk g r23 102) <| gd (¬ ((dI d22 x0 4) < 0 ∨ gL g r23 ≤ (dI d22 x0 4).toNatClampNeg)) <| bd (sI d22 r23 (dI d22 x0 4).toNatClampNeg 0) fun d26 => (bd ((y3 + 1)) fun u27 => (gd (chk g x1 100) <| gd (¬ (y3 < 0 ∨ gL g x1 ≤ y3.toNatClampNeg)) <| cb (fX8_isLetter N g (dI d26 x1 y3.toNatClampNeg) d26) fun u32 d30 => (if u32 = 0 then (cb (fX8_isDigit N g (dI d30 x1 y3.toNatClampNeg) d30) fun u36 d34 => (if u36 = 0 then (ob (gR g x0 0) fun r38 => (if (dI d34 x1 y3.toNatClampNeg) = (59 : Int32) then (fX8_cut_J142 N g x0 x1 x2 K28 u27 3 (dI d34 x0 4) r38 d34) else (fX8_cut_J142 N g x0 x1 x2 K28 u27 4 (dI d34 x0 4) r38 d34))) else (cb (fX8_cutInt N g x0 x1 y3 d34) fun u50 d48 => (fX8_cut_J143 N g x0 x1 x2 K28 u50 d48)))) else (cb (fX8_cutWord N g x0 x1 y3 d30) fun u53 d51 => (fX8_cut_J143 N g x0 x1 x2 K28 u53 d51))))))))))))
set_option maxHeartbeats 4000000 in
set_option maxRecDepth 100000 in
theorem tX8_cut_28 {p : Program} {l : Launch} {e : Env} {s : State} {m : MethodId} {args : Array Value} {below : List Frame} {meth : Method} {c : Code} {D : va_G} {cy : Nat → ClassId} {B : Bs} (C : Cx p s m args c cX8_cut 5 RX8 D cy B) (hr : meth.sig.returnType = none) (hlocks : meth.locks = false) {N : Nat} {g : Gs} {x0 : Nat} {x1 : Nat} {x2 : Int32}  {dz : Ds} {K28 : Int32 × Ds → Option (Unit × Ds)} (hK28 : ∀ a, K28 a = some ((), dz) → WB p l e rmX8_cut s m args below meth c 5 D cy B 0 0 (MQ below (QV D cy B g dz) args s 0 0 (wA B)) g a.2 [(0, .ref (ad B x0)), (1, .ref (ad B x1)), (2, .int x2), (3, .int a.1)] 28 []) {y3 : Int32} {d : Ds} (hf : fX8_cut_B28 N g x0 x1 x2 K28 y3 d = some ((), dz)) : WB p l e rmX8_cut s m args below meth c 5 D cy B 0 0 (MQ below (QV D cy B g dz) args s 0 0 (wA B)) g d [(0, .ref (ad B x0)), (1, .ref (ad B x1)), (2, .int x2), (3, .int y3)] 28 [] := by
  unfold fX8_cut_B28 at hf
  refine b_iload_n C dX8_cut_28 3 rfl rfl ?_
  refine b_aload_n C dX8_cut_29 0 rfl rfl ?_
  obtain ⟨h11, hf⟩ := gd_s hf
  refine b_gI C dX8_cut_30 fl_X8_29 h11 ?_
  refine b_icmp_ge C (tgt := 164) dX8_cut_33 (by decide) (fun c12 => ?_) (fun c12 => ?_)
  · have hf := it_s c12 hf
    refine b_sub [(0, .ref (ad B x0)), (1, .ref (ad B x1)), (2, .int x2)] [0, 1, 2] rfl ?_
    exact tX8_cut_164 C hr hlocks hf
  · have hf := if_s c12 hf
    refine b_aload_n C dX8_cut_36 0 rfl rfl ?_
    refine b_gI C dX8_cut_37 fl_X8_25 h11 ?_
    refine b_sipush C (v := 400) dX8_cut_40 (by decide) ?_
    refine b_icmp_gt C (tgt := 164) dX8_cut_43 (by decide) (fun c13 => ?_) (fun c13 => ?_)
    · have hf := it_s c13 hf
      refine b_sub [(0, .ref (ad B x0)), (1, .ref (ad B x1)), (2, .int x2)] [0, 1, 2] rfl ?_
      exact tX8_cut_164 C hr hlocks hf
    · have hf := if_s c13 hf
      refine b_aload_n C dX8_cut_46 0 rfl rfl ?_
      obtain ⟨r14, er14, hf⟩ := ob_s hf
      refine b_gR C dX8_cut_47 fl_X8_13 h11 er14 ?_
      refine b_aload_n C dX8_cut_50 0 rfl rfl ?_
      refine b_gI C dX8_cut_51 fl_X8_25 h11 ?_
      refine b_iload_n C dX8_cut_54 3 rfl rfl ?_
      obtain ⟨h15, hf⟩ := gd_s hf
      obtain ⟨h16, hf⟩ := gd_s hf
      obtain ⟨d17, ed17, hf⟩ := bd_s hf
      refine b_iast C h15 h16 ed17 dX8_cut_55 ?_
      refine b_aload_n C dX8_cut_56 0 rfl rfl ?_
      obtain ⟨r18, er18, hf⟩ := ob_s hf
      refine b_gR C dX8_cut_57 fl_X8_21 h11 er18 ?_
      refine b_aload_n C dX8_cut_60 0 rfl rfl ?_
      refine b_gI C dX8_cut_61 fl_X8_25 h11 ?_
      refine b_nullQ C dX8_cut_64 ?_
      obtain ⟨h19, hf⟩ := gd_s hf
      obtain ⟨h20, hf⟩ := gd_s hf
      obtain ⟨h21, hf⟩ := gd_s hf
      obtain ⟨d22, ed22, hf⟩ := bd_s hf
      refine b_aastW C h19 h20 (wkb_s h21) ed22 dX8_cut_65 ?_
      refine b_aload_n C dX8_cut_66 0 rfl rfl ?_
      obtain ⟨r23, er23, hf⟩ := ob_s hf
      refine b_gR C dX8_cut_67 fl_X8_16 h11 er23 ?_
      refine b_aload_n C dX8_cut_70 0 rfl rfl ?_
      refine b_gI C dX8_cut_71 fl_X8_25 h11 ?_
      refine b_iconst C (v := 0) dX8_cut_74 (by decide) ?_
      obtain ⟨h24, hf⟩ := gd_s hf
      obtain ⟨h25, hf⟩ := gd_s hf
      obtain ⟨d26, ed26, hf⟩ := bd_s hf
      refine b_iast C h24 h25 ed26 dX8_cut_75 ?_
      refine b_iload_n C dX8_cut_76 3 rfl rfl ?_
      refine b_iconst C (v := 1) dX8_cut_77 (by decide) ?_
      refine b_iadd C dX8_cut_78 ?_
      obtain ⟨u27, eu27, hf⟩ := bd_s hf
      refine b_topI eu27 ?_
      refine b_istore C dX8_cut_79 [(4, .int u27), (0, .ref (ad B x0)), (1, .ref (ad B x1)), (2, .int x2), (3, .int y3)] (by decide) rfl ?_
      refine b_aload_n C dX8_cut_81 2 rfl rfl ?_
      refine b_iload_n C dX8_cut_82 4 rfl rfl ?_
      obtain ⟨h28, hf⟩ := gd_s hf
      obtain ⟨h29, hf⟩ := gd_s hf
      refine b_bald C h28 h29 dX8_cut_83 ?_
      obtain ⟨u32, d30, k31, hf⟩ := cb_s hf
      refine b_cSI C [] dX8_cut_84 (kX8_isLetter l D cy B k31) lv_X8_36 ⟨rfl, rfl, Nat.le_of_ble_eq_true rfl, Nat.le_of_ble_eq_true rfl⟩ rfl (Nat.le_of_ble_eq_true rfl) ⟨Nat.zero_le _, Nat.zero_le _⟩ rfl ?_
      refine b_if_eq C (tgt := 101) dX8_cut_87 (by decide) (fun c33 => ?_) (fun c33 => ?_)
      · have hf := it_s c33 hf
        refine b_aload_n C dX8_cut_101 2 rfl rfl ?_
        refine b_iload_n C dX8_cut_102 4 rfl rfl ?_
        refine b_bald C h28 h29 dX8_cut_103 ?_
        obtain ⟨u36, d34, k35, hf⟩ := cb_s hf
        refine b_cSI C [] dX8_cut_104 (kX8_isDigit l D cy B k35) lv_X8_43 ⟨rfl, rfl, Nat.le_of_ble_eq_true rfl, Nat.le_of_ble_eq_true rfl⟩ rfl (Nat.le_of_ble_eq_true rfl) ⟨Nat.zero_le _, Nat.zero_le _⟩ rfl ?_
        refine b_if_eq C (tgt := 121) dX8_cut_107 (by decide) (fun c37 => ?_) (fun c37 => ?_)
        · have hf := it_s c37 hf
          refine b_aload_n C dX8_cut_121 1 rfl rfl ?_
          obtain ⟨r38, er38, hf⟩ := ob_s hf
          refine b_gR C dX8_cut_122 fl_X8_9 h11 er38 ?_
          refine b_aload_n C dX8_cut_125 1 rfl rfl ?_
          refine b_gI C dX8_cut_126 fl_X8_25 h11 ?_
          refine b_aload_n C dX8_cut_129 2 rfl rfl ?_
          refine b_iload_n C dX8_cut_130 4 rfl rfl ?_
          refine b_bald C h28 h29 dX8_cut_131 ?_
          refine b_bipush C (v := 59) dX8_cut_132 (by decide) ?_
          refine b_icmp_ne C (tgt := 141) dX8_cut_134 (by decide) (fun c39 => ?_) (fun c39 => ?_)
          · have hf := if_s c39 hf
            refine b_iconst C (v := 4) dX8_cut_141 (by decide) ?_
            refine b_sub [(0, .ref (ad B x0)), (1, .ref (ad B x1)), (2, .int x2), (4, .int u27)] [1, 2, 3, 0] rfl ?_
            exact tX8_cut_142 C hr hlocks hK28 hf
          · have hf := it_s c39 hf
            refine b_iconst C (v := 3) dX8_cut_137 (by decide) ?_
            refine b_goto C (tgt := 142) dX8_cut_138 (by decide) ?_
            refine b_sub [(0, .ref (ad B x0)), (1, .ref (ad B x1)), (2, .int x2), (4, .int u27)] [1, 2, 3, 0] rfl ?_
            exact tX8_cut_142 C hr hlocks hK28 hf
        · have hf := if_s c37 hf
          refine b_aload_n C dX8_cut_110 1 rfl rfl ?_
          refine b_aload_n C dX8_cut_111 2 rfl rfl ?_
          refine b_iload_n C dX8_cut_112 4 rfl rfl ?_
          obtain ⟨u50, d48, k49, hf⟩ := cb_s hf
          refine b_cVI C [] dX8_cut_113 (kX8_cutInt l D cy B k49) lv_X8_46 ⟨rfl, rfl, Nat.le_of_ble_eq_true rfl, Nat.le_of_ble_eq_true rfl⟩ h11 (by decide) rfl (Nat.le_of_ble_eq_true rfl) ⟨Nat.zero_le _, Nat.zero_le _⟩ rfl ?_
          refine b_istore C dX8_cut_116 [(4, .int u50), (0, .ref (ad B x0)), (1, .ref (ad B x1)), (2, .int x2), (3, .int y3)] (by decide) rfl ?_
          refine b_goto C (tgt := 143) dX8_cut_118 (by decide) ?_
          refine b_sub [(0, .ref (ad B x0)), (1, .ref (ad B x1)), (2, .int x2), (4, .int u50)] [1, 2, 3, 0] rfl ?_
          exact tX8_cut_143 C hr hlocks hK28 hf
      · have hf := if_s c33 hf
        refine b_aload_n C dX8_cut_90 1 rfl rfl ?_
        refine b_aload_n C dX8_cut_91 2 rfl rfl ?_
        refine b_iload_n C dX8_cut_92 4 rfl rfl ?_
        obtain ⟨u53, d51, k52, hf⟩ := cb_s hf
        refine b_cVI C [] dX8_cut_93 (kX8_cutWord l D cy B k52) lv_X8_40 ⟨rfl, rfl, Nat.le_of_ble_eq_true rfl, Nat.le_of_ble_eq_true rfl⟩ h11 (by decide) rfl (Nat.le_of_ble_eq_true rfl) ⟨Nat.zero_le _, Nat.zero_le _⟩ rfl ?_
        refine b_istore C dX8_cut_96 [(4, .int u53), (0, .ref (ad B x0)), (1, .ref (ad B x1)), (2, .int x2), (3, .int y3)] (by decide) rfl ?_
        refine b_goto C (tgt := 143) dX8_cut_98 (by decide) ?_
        refine b_sub [(0, .ref (ad B x0)), (1, .ref (ad B x1)), (2, .int x2), (4, .int u53)] [1, 2, 3, 0] rfl ?_
        exact tX8_cut_143 C hr hlocks hK28 hf
def fX8_cut_L28 (N : Nat) (g : Gs) (x0 : Nat) (x1 : Nat) (x2 : Int32) : Int32 × Ds → Option (Unit × Ds) := lp (fun K28 a => fX8_cut_B28 N g x0 x1 x2 K28 a.1 a.2) N
theorem tX8_cut_L28 {p : Program} {l : Launch} {e : Env} {s : State} {m : MethodId} {args : Array Value} {below : List Frame} {meth : Method} {c : Code} {D : va_G} {cy : Nat → ClassId} {B : Bs} (C : Cx p s m args c cX8_cut 5 RX8 D cy B) (hr : meth.sig.returnType = none) (hlocks : meth.locks = false) {N : Nat} {g : Gs} {x0 : Nat} {x1 : Nat} {x2 : Int32}  {dz : Ds} (a : Int32 × Ds) (hf : fX8_cut_L28 N g x0 x1 x2 a = some ((), dz)) : WB p l e rmX8_cut s m args below meth c 5 D cy B 0 0 (MQ below (QV D cy B g dz) args s 0 0 (wA B)) g a.2 [(0, .ref (ad B x0)), (1, .ref (ad B x1)), (2, .int x2), (3, .int a.1)] 28 [] :=
  lp_w (fun K28 hK28 a ha => tX8_cut_28 C hr hlocks hK28 ha) N a hf
set_option maxRecDepth 100000 in
def fX8_cut_J18 (N : Nat) (g : Gs) (x0 : Nat) (x1 : Nat) (x2 : Int32) (z0 : Int32) (z1 : Nat) (d : Ds) : Option (Unit × Ds) := gd (chk g z1 8) <| bd (sI d z1 5 z0) fun d6 => (gd (chk g x0 8) <| cb (fX8_skipBlanks N g x0 x1 0 d6) fun u10 d8 => (fX8_cut_L28 N g x0 x1 x2 (u10, d8)))
set_option maxHeartbeats 4000000 in
set_option maxRecDepth 100000 in
theorem tX8_cut_18 {p : Program} {l : Launch} {e : Env} {s : State} {m : MethodId} {args : Array Value} {below : List Frame} {meth : Method} {c : Code} {D : va_G} {cy : Nat → ClassId} {B : Bs} (C : Cx p s m args c cX8_cut 5 RX8 D cy B) (hr : meth.sig.returnType = none) (hlocks : meth.locks = false) {N : Nat} {g : Gs} {x0 : Nat} {x1 : Nat} {x2 : Int32}  {dz : Ds} {z0 : Int32} {z1 : Nat} {d : Ds} (hf : fX8_cut_J18 N g x0 x1 x2 z0 z1 d = some ((), dz)) : WB p l e rmX8_cut s m args below meth c 5 D cy B 0 0 (MQ below (QV D cy B g dz) args s 0 0 (wA B)) g d [(0, .ref (ad B x0)), (1, .ref (ad B x1)), (2, .int x2)] 18 [.int z0, .ref (ad B z1)] := by
  unfold fX8_cut_J18 at hf
  obtain ⟨h5, hf⟩ := gd_s hf
  obtain ⟨d6, ed6, hf⟩ := bd_s hf
  refine b_pI C dX8_cut_18 fl_X8_29 fp8_5 h5 ed6 ?_
  refine b_aload_n C dX8_cut_21 0 rfl rfl ?_
  refine b_aload_n C dX8_cut_22 1 rfl rfl ?_
  refine b_iconst C (v := 0) dX8_cut_23 (by decide) ?_
  obtain ⟨h7, hf⟩ := gd_s hf
  obtain ⟨u10, d8, k9, hf⟩ := cb_s hf
  refine b_cVI C [] dX8_cut_24 (kX8_skipBlanks l D cy B k9) lv_X8_32 ⟨rfl, rfl, Nat.le_of_ble_eq_true rfl, Nat.le_of_ble_eq_true rfl⟩ h7 (by decide) rfl (Nat.le_of_ble_eq_true rfl) ⟨Nat.zero_le _, Nat.zero_le _⟩ rfl ?_
  refine b_istore_n C dX8_cut_27 rfl [(3, .int u10), (0, .ref (ad B x0)), (1, .ref (ad B x1)), (2, .int x2)] (by decide) rfl ?_
  refine b_sub [(0, .ref (ad B x0)), (1, .ref (ad B x1)), (2, .int x2), (3, .int u10)] [1, 2, 3, 0] rfl ?_
  exact tX8_cut_L28 C hr hlocks (u10, d8) hf
set_option maxRecDepth 100000 in
def fX8_cut (N : Nat) (g : Gs) (x0 : Nat) (x1 : Nat) (x2 : Int32) (d : Ds) : Option (Unit × Ds) := gd (chk g x0 8) <| bd (sI d x0 4 0) fun d2 => (gd (chk g x1 100) <| if (Int32.ofNat (gL g x1)) < x2 then (fX8_cut_J18 N g x0 x1 x2 (Int32.ofNat (gL g x1)) x0 d2) else (fX8_cut_J18 N g x0 x1 x2 x2 x0 d2))
set_option maxHeartbeats 4000000 in
set_option maxRecDepth 100000 in
theorem tX8_cut_E {p : Program} {l : Launch} {e : Env} {s : State} {m : MethodId} {args : Array Value} {below : List Frame} {meth : Method} {c : Code} {D : va_G} {cy : Nat → ClassId} {B : Bs} (C : Cx p s m args c cX8_cut 5 RX8 D cy B) (hr : meth.sig.returnType = none) (hlocks : meth.locks = false) {N : Nat} {g : Gs} {x0 : Nat} {x1 : Nat} {x2 : Int32}  {dz : Ds} {d : Ds} (hf : fX8_cut N g x0 x1 x2 d = some ((), dz)) : WB p l e rmX8_cut s m args below meth c 5 D cy B 0 0 (MQ below (QV D cy B g dz) args s 0 0 (wA B)) g d [(0, .ref (ad B x0)), (1, .ref (ad B x1)), (2, .int x2)] 0 [] := by
  unfold fX8_cut at hf
  refine b_aload_n C dX8_cut_0 0 rfl rfl ?_
  refine b_iconst C (v := 0) dX8_cut_1 (by decide) ?_
  obtain ⟨h1, hf⟩ := gd_s hf
  obtain ⟨d2, ed2, hf⟩ := bd_s hf
  refine b_pI C dX8_cut_2 fl_X8_25 fp8_4 h1 ed2 ?_
  refine b_aload_n C dX8_cut_5 0 rfl rfl ?_
  refine b_iload_n C dX8_cut_6 2 rfl rfl ?_
  refine b_aload_n C dX8_cut_7 1 rfl rfl ?_
  obtain ⟨h3, hf⟩ := gd_s hf
  refine b_alen C (t := 0) h3 (by decide) dX8_cut_8 ?_
  refine b_icmp_gt C (tgt := 16) dX8_cut_9 (by decide) (fun c4 => ?_) (fun c4 => ?_)
  · have hf := it_s c4 hf
    refine b_aload_n C dX8_cut_16 1 rfl rfl ?_
    refine b_alen C (t := 0) h3 (by decide) dX8_cut_17 ?_
    refine b_sub [(0, .ref (ad B x0)), (1, .ref (ad B x1)), (2, .int x2)] [0, 1, 2] rfl ?_
    exact tX8_cut_18 C hr hlocks hf
  · have hf := if_s c4 hf
    refine b_iload_n C dX8_cut_12 2 rfl rfl ?_
    refine b_goto C (tgt := 18) dX8_cut_13 (by decide) ?_
    refine b_sub [(0, .ref (ad B x0)), (1, .ref (ad B x1)), (2, .int x2)] [0, 1, 2] rfl ?_
    exact tX8_cut_18 C hr hlocks hf
theorem kX8_cut (l : Launch) (D : va_G) (cy : Nat → ClassId) (B : Bs) {N : Nat} {g : Gs} {x0 : Nat} {x1 : Nat} {x2 : Int32}  {dz : Ds} {d : Ds} (hf : fX8_cut N g x0 x1 x2 d = some ((), dz)) : Met l yX8_cut (.code yX8_cut cX8_cut 5 none :: wl) rmX8_cut (PC D cy B [.ref (ad B x0), .ref (ad B x1), .int x2] g d) (QV D cy B g dz) 0 0 (wA B) :=
  met_of (by decide +kernel) (Nat.le_of_ble_eq_true rfl) (fun p e s m args below meth c C hr hlocks _ => b_sub [(0, .ref (ad B x0)), (1, .ref (ad B x1)), (2, .int x2)] [0, 1, 2] rfl (tX8_cut_E C hr hlocks hf))
/-! KeyMatrix$Tokens.wordAt(I)LKeyMatrix$Word; -/
theorem dX8_wordAt_0 : decode cX8_wordAt 0 = .ok (.iload_n 1, 1) := by decide +kernel
theorem dX8_wordAt_1 : decode cX8_wordAt 1 = .ok (.ifCond .lt 20, 3) := by decide +kernel
theorem dX8_wordAt_4 : decode cX8_wordAt 4 = .ok (.iload_n 1, 1) := by decide +kernel
theorem dX8_wordAt_5 : decode cX8_wordAt 5 = .ok (.aload_n 0, 1) := by decide +kernel
theorem dX8_wordAt_6 : decode cX8_wordAt 6 = .ok (.getfield 25, 3) := by decide +kernel
theorem dX8_wordAt_9 : decode cX8_wordAt 9 = .ok (.if_icmp .ge 12, 3) := by decide +kernel
theorem dX8_wordAt_12 : decode cX8_wordAt 12 = .ok (.aload_n 0, 1) := by decide +kernel
theorem dX8_wordAt_13 : decode cX8_wordAt 13 = .ok (.getfield 21, 3) := by decide +kernel
theorem dX8_wordAt_16 : decode cX8_wordAt 16 = .ok (.iload_n 1, 1) := by decide +kernel
theorem dX8_wordAt_17 : decode cX8_wordAt 17 = .ok (.aaload, 1) := by decide +kernel
theorem dX8_wordAt_18 : decode cX8_wordAt 18 = .ok (.goto 4, 3) := by decide +kernel
theorem dX8_wordAt_21 : decode cX8_wordAt 21 = .ok (.aconst_null, 1) := by decide +kernel
theorem dX8_wordAt_22 : decode cX8_wordAt 22 = .ok (.areturn, 1) := by decide +kernel
def rmX8_wordAt : Room := { frames := 0, cells := 0, slots := 0, locals := 0 }
set_option maxRecDepth 100000 in
def fX8_wordAt_J22 (N : Nat) (g : Gs) (x0 : Nat) (x1 : Int32) (z0 : Option Nat) (d : Ds) : Option (Option Nat × Ds) := some (z0, d)
set_option maxHeartbeats 4000000 in
set_option maxRecDepth 100000 in
theorem tX8_wordAt_22 {p : Program} {l : Launch} {e : Env} {s : State} {m : MethodId} {args : Array Value} {below : List Frame} {meth : Method} {c : Code} {D : va_G} {cy : Nat → ClassId} {B : Bs} (C : Cx p s m args c cX8_wordAt 2 RX8 D cy B) (hr : meth.sig.returnType = (some (.object "KeyMatrix$Word"))) (hlocks : meth.locks = false) {N : Nat} {g : Gs} {x0 : Nat} {x1 : Int32} {vz : Option Nat} {dz : Ds} {z0 : Option Nat} {d : Ds} (hf : fX8_wordAt_J22 N g x0 x1 z0 d = some (vz, dz)) : WB p l e rmX8_wordAt s m args below meth c 2 D cy B 0 0 (MQ below (QQ D cy B vz g dz) args s 0 0 (wA B)) g d [(0, .ref (ad B x0)), (1, .int x1)] 22 [rv B z0] := by
  unfold fX8_wordAt_J22 at hf
  exact b_aretQ C hr hlocks hf dX8_wordAt_22
set_option maxRecDepth 100000 in
def fX8_wordAt_J21 (N : Nat) (g : Gs) (x0 : Nat) (x1 : Int32) (d : Ds) : Option (Option Nat × Ds) := fX8_wordAt_J22 N g x0 x1 none d
set_option maxHeartbeats 4000000 in
set_option maxRecDepth 100000 in
theorem tX8_wordAt_21 {p : Program} {l : Launch} {e : Env} {s : State} {m : MethodId} {args : Array Value} {below : List Frame} {meth : Method} {c : Code} {D : va_G} {cy : Nat → ClassId} {B : Bs} (C : Cx p s m args c cX8_wordAt 2 RX8 D cy B) (hr : meth.sig.returnType = (some (.object "KeyMatrix$Word"))) (hlocks : meth.locks = false) {N : Nat} {g : Gs} {x0 : Nat} {x1 : Int32} {vz : Option Nat} {dz : Ds} {d : Ds} (hf : fX8_wordAt_J21 N g x0 x1 d = some (vz, dz)) : WB p l e rmX8_wordAt s m args below meth c 2 D cy B 0 0 (MQ below (QQ D cy B vz g dz) args s 0 0 (wA B)) g d [(0, .ref (ad B x0)), (1, .int x1)] 21 [] := by
  unfold fX8_wordAt_J21 at hf
  refine b_nullQ C dX8_wordAt_21 ?_
  refine b_sub [(0, .ref (ad B x0)), (1, .int x1)] [0, 1] rfl ?_
  exact tX8_wordAt_22 C hr hlocks hf
set_option maxRecDepth 100000 in
def fX8_wordAt (N : Nat) (g : Gs) (x0 : Nat) (x1 : Int32) (d : Ds) : Option (Option Nat × Ds) := if x1 < 0 then (fX8_wordAt_J21 N g x0 x1 d) else (gd (chk g x0 8) <| if (dI d x0 4) ≤ x1 then (fX8_wordAt_J21 N g x0 x1 d) else (ob (gR g x0 3) fun r4 => (gd (chk g r4 107) <| gd (¬ (x1 < 0 ∨ gL g r4 ≤ x1.toNatClampNeg)) <| bd (dW d r4 x1.toNatClampNeg) fun u7 => (fX8_wordAt_J22 N g x0 x1 u7 d))))
set_option maxHeartbeats 4000000 in
set_option maxRecDepth 100000 in
theorem tX8_wordAt_E {p : Program} {l : Launch} {e : Env} {s : State} {m : MethodId} {args : Array Value} {below : List Frame} {meth : Method} {c : Code} {D : va_G} {cy : Nat → ClassId} {B : Bs} (C : Cx p s m args c cX8_wordAt 2 RX8 D cy B) (hr : meth.sig.returnType = (some (.object "KeyMatrix$Word"))) (hlocks : meth.locks = false) {N : Nat} {g : Gs} {x0 : Nat} {x1 : Int32} {vz : Option Nat} {dz : Ds} {d : Ds} (hf : fX8_wordAt N g x0 x1 d = some (vz, dz)) : WB p l e rmX8_wordAt s m args below meth c 2 D cy B 0 0 (MQ below (QQ D cy B vz g dz) args s 0 0 (wA B)) g d [(0, .ref (ad B x0)), (1, .int x1)] 0 [] := by
  unfold fX8_wordAt at hf
  refine b_iload_n C dX8_wordAt_0 1 rfl rfl ?_
  refine b_if_lt C (tgt := 21) dX8_wordAt_1 (by decide) (fun c1 => ?_) (fun c1 => ?_)
  · have hf := it_s c1 hf
    refine b_sub [(0, .ref (ad B x0)), (1, .int x1)] [0, 1] rfl ?_
    exact tX8_wordAt_21 C hr hlocks hf
  · have hf := if_s c1 hf
    refine b_iload_n C dX8_wordAt_4 1 rfl rfl ?_
    refine b_aload_n C dX8_wordAt_5 0 rfl rfl ?_
    obtain ⟨h2, hf⟩ := gd_s hf
    refine b_gI C dX8_wordAt_6 fl_X8_25 h2 ?_
    refine b_icmp_ge C (tgt := 21) dX8_wordAt_9 (by decide) (fun c3 => ?_) (fun c3 => ?_)
    · have hf := it_s c3 hf
      refine b_sub [(0, .ref (ad B x0)), (1, .int x1)] [0, 1] rfl ?_
      exact tX8_wordAt_21 C hr hlocks hf
    · have hf := if_s c3 hf
      refine b_aload_n C dX8_wordAt_12 0 rfl rfl ?_
      obtain ⟨r4, er4, hf⟩ := ob_s hf
      refine b_gR C dX8_wordAt_13 fl_X8_21 h2 er4 ?_
      refine b_iload_n C dX8_wordAt_16 1 rfl rfl ?_
      obtain ⟨h5, hf⟩ := gd_s hf
      obtain ⟨h6, hf⟩ := gd_s hf
      obtain ⟨u7, eu7, hf⟩ := bd_s hf
      refine b_aaldW C h5 h6 dX8_wordAt_17 ?_
      refine b_topQ eu7 ?_
      refine b_goto C (tgt := 22) dX8_wordAt_18 (by decide) ?_
      refine b_sub [(0, .ref (ad B x0)), (1, .int x1)] [0, 1] rfl ?_
      exact tX8_wordAt_22 C hr hlocks hf
theorem kX8_wordAt (l : Launch) (D : va_G) (cy : Nat → ClassId) (B : Bs) {N : Nat} {g : Gs} {x0 : Nat} {x1 : Int32} {vz : Option Nat} {dz : Ds} {d : Ds} (hf : fX8_wordAt N g x0 x1 d = some (vz, dz)) : Met l yX8_wordAt (.code yX8_wordAt cX8_wordAt 2 (some (.object "KeyMatrix$Word")) :: wl) rmX8_wordAt (PC D cy B [.ref (ad B x0), .int x1] g d) (QQ D cy B vz g dz) 0 0 (wA B) :=
  met_of (by decide +kernel) (Nat.le_of_ble_eq_true rfl) (fun p e s m args below meth c C hr hlocks _ => b_sub [(0, .ref (ad B x0)), (1, .int x1)] [0, 1] rfl (tX8_wordAt_E C hr hlocks hf))
/-! KeyMatrix$TextReader.fail(I)Z -/
theorem fl_X7_43 : FLI RX7 43 7 5 := ⟨⟨RX7, TX7, 10, rfl, by decide, inl7, Or.inl (mW (mT1 (List.mem_of_getElem? (i := 211) (by decide +kernel))) rfl)⟩, by decide, by decide +kernel⟩
theorem fp7_5 : FPI 7 5 := ⟨ft7, (RX7, TX7, 10), rfl, by decide +kernel, by decide +kernel⟩
theorem fl_X7_39 : FLI RX7 39 7 3 := ⟨⟨RX7, TX7, 10, rfl, by decide, inl7, Or.inl (mW (mT1 (List.mem_of_getElem? (i := 209) (by decide +kernel))) rfl)⟩, by decide, by decide +kernel⟩
theorem fl_X7_63 : FLI RX7 63 7 6 := ⟨⟨RX7, TX7, 10, rfl, by decide, inl7, Or.inl (mW (mT1 (List.mem_of_getElem? (i := 212) (by decide +kernel))) rfl)⟩, by decide, by decide +kernel⟩
theorem fp7_6 : FPI 7 6 := ⟨ft7, (RX7, TX7, 10), rfl, by decide +kernel, by decide +kernel⟩
theorem dX7_fail_0 : decode cX7_fail 0 = .ok (.aload_n 0, 1) := by decide +kernel
theorem dX7_fail_1 : decode cX7_fail 1 = .ok (.iload_n 1, 1) := by decide +kernel
theorem dX7_fail_2 : decode cX7_fail 2 = .ok (.putfield 43, 3) := by decide +kernel
theorem dX7_fail_5 : decode cX7_fail 5 = .ok (.aload_n 0, 1) := by decide +kernel
theorem dX7_fail_6 : decode cX7_fail 6 = .ok (.aload_n 0, 1) := by decide +kernel
theorem dX7_fail_7 : decode cX7_fail 7 = .ok (.getfield 39, 3) := by decide +kernel
theorem dX7_fail_10 : decode cX7_fail 10 = .ok (.putfield 63, 3) := by decide +kernel
theorem dX7_fail_13 : decode cX7_fail 13 = .ok (.iconst 0, 1) := by decide +kernel
theorem dX7_fail_14 : decode cX7_fail 14 = .ok (.ireturn, 1) := by decide +kernel
def rmX7_fail : Room := { frames := 0, cells := 0, slots := 0, locals := 0 }
set_option maxRecDepth 100000 in
def fX7_fail (N : Nat) (g : Gs) (x0 : Nat) (x1 : Int32) (d : Ds) : Option (Int32 × Ds) := gd (chk g x0 7) <| bd (sI d x0 5 x1) fun d2 => (bd (sI d2 x0 6 (dI d2 x0 3)) fun d3 => (some (0, d3)))
set_option maxHeartbeats 4000000 in
set_option maxRecDepth 100000 in
theorem tX7_fail_E {p : Program} {l : Launch} {e : Env} {s : State} {m : MethodId} {args : Array Value} {below : List Frame} {meth : Method} {c : Code} {D : va_G} {cy : Nat → ClassId} {B : Bs} (C : Cx p s m args c cX7_fail 2 RX7 D cy B) (hr : meth.sig.returnType = (some .boolean)) (hlocks : meth.locks = false) {N : Nat} {g : Gs} {x0 : Nat} {x1 : Int32} {vz : Int32} {dz : Ds} {d : Ds} (hf : fX7_fail N g x0 x1 d = some (vz, dz)) : WB p l e rmX7_fail s m args below meth c 2 D cy B 0 0 (MQ below (QI D cy B vz g dz) args s 0 0 (wA B)) g d [(0, .ref (ad B x0)), (1, .int x1)] 0 [] := by
  unfold fX7_fail at hf
  refine b_aload_n C dX7_fail_0 0 rfl rfl ?_
  refine b_iload_n C dX7_fail_1 1 rfl rfl ?_
  obtain ⟨h1, hf⟩ := gd_s hf
  obtain ⟨d2, ed2, hf⟩ := bd_s hf
  refine b_pI C dX7_fail_2 fl_X7_43 fp7_5 h1 ed2 ?_
  refine b_aload_n C dX7_fail_5 0 rfl rfl ?_
  refine b_aload_n C dX7_fail_6 0 rfl rfl ?_
  refine b_gI C dX7_fail_7 fl_X7_39 h1 ?_
  obtain ⟨d3, ed3, hf⟩ := bd_s hf
  refine b_pI C dX7_fail_10 fl_X7_63 fp7_6 h1 ed3 ?_
  refine b_iconst C (v := 0) dX7_fail_13 (by decide) ?_
  exact b_zret C hr hlocks (by decide) hf dX7_fail_14
theorem kX7_fail (l : Launch) (D : va_G) (cy : Nat → ClassId) (B : Bs) {N : Nat} {g : Gs} {x0 : Nat} {x1 : Int32} {vz : Int32} {dz : Ds} {d : Ds} (hf : fX7_fail N g x0 x1 d = some (vz, dz)) : Met l yX7_fail (.code yX7_fail cX7_fail 2 (some .boolean) :: wl) rmX7_fail (PC D cy B [.ref (ad B x0), .int x1] g d) (QI D cy B vz g dz) 0 0 (wA B) :=
  met_of (by decide +kernel) (Nat.le_of_ble_eq_true rfl) (fun p e s m args below meth c C hr hlocks _ => b_sub [(0, .ref (ad B x0)), (1, .int x1)] [0, 1] rfl (tX7_fail_E C hr hlocks hf))
/-! KeyMatrix$Tokens.kindAt(I)I -/
theorem dX8_kindAt_0 : decode cX8_kindAt 0 = .ok (.iload_n 1, 1) := by decide +kernel
theorem dX8_kindAt_1 : decode cX8_kindAt 1 = .ok (.ifCond .lt 20, 3) := by decide +kernel
theorem dX8_kindAt_4 : decode cX8_kindAt 4 = .ok (.iload_n 1, 1) := by decide +kernel
theorem dX8_kindAt_5 : decode cX8_kindAt 5 = .ok (.aload_n 0, 1) := by decide +kernel
theorem dX8_kindAt_6 : decode cX8_kindAt 6 = .ok (.getfield 25, 3) := by decide +kernel
theorem dX8_kindAt_9 : decode cX8_kindAt 9 = .ok (.if_icmp .ge 12, 3) := by decide +kernel
theorem dX8_kindAt_12 : decode cX8_kindAt 12 = .ok (.aload_n 0, 1) := by decide +kernel
theorem dX8_kindAt_13 : decode cX8_kindAt 13 = .ok (.getfield 9, 3) := by decide +kernel
theorem dX8_kindAt_16 : decode cX8_kindAt 16 = .ok (.iload_n 1, 1) := by decide +kernel
theorem dX8_kindAt_17 : decode cX8_kindAt 17 = .ok (.iaload, 1) := by decide +kernel
theorem dX8_kindAt_18 : decode cX8_kindAt 18 = .ok (.goto 4, 3) := by decide +kernel
theorem dX8_kindAt_21 : decode cX8_kindAt 21 = .ok (.iconst 0, 1) := by decide +kernel
theorem dX8_kindAt_22 : decode cX8_kindAt 22 = .ok (.ireturn, 1) := by decide +kernel
def rmX8_kindAt : Room := { frames := 0, cells := 0, slots := 0, locals := 0 }
set_option maxRecDepth 100000 in
def fX8_kindAt_J22 (N : Nat) (g : Gs) (x0 : Nat) (x1 : Int32) (z0 : Int32) (d : Ds) : Option (Int32 × Ds) := some (z0, d)
set_option maxHeartbeats 4000000 in
set_option maxRecDepth 100000 in
theorem tX8_kindAt_22 {p : Program} {l : Launch} {e : Env} {s : State} {m : MethodId} {args : Array Value} {below : List Frame} {meth : Method} {c : Code} {D : va_G} {cy : Nat → ClassId} {B : Bs} (C : Cx p s m args c cX8_kindAt 2 RX8 D cy B) (hr : meth.sig.returnType = (some .int)) (hlocks : meth.locks = false) {N : Nat} {g : Gs} {x0 : Nat} {x1 : Int32} {vz : Int32} {dz : Ds} {z0 : Int32} {d : Ds} (hf : fX8_kindAt_J22 N g x0 x1 z0 d = some (vz, dz)) : WB p l e rmX8_kindAt s m args below meth c 2 D cy B 0 0 (MQ below (QI D cy B vz g dz) args s 0 0 (wA B)) g d [(0, .ref (ad B x0)), (1, .int x1)] 22 [.int z0] := by
  unfold fX8_kindAt_J22 at hf
  exact b_iret C hr hlocks hf dX8_kindAt_22
set_option maxRecDepth 100000 in
def fX8_kindAt_J21 (N : Nat) (g : Gs) (x0 : Nat) (x1 : Int32) (d : Ds) : Option (Int32 × Ds) := fX8_kindAt_J22 N g x0 x1 0 d
set_option maxHeartbeats 4000000 in
set_option maxRecDepth 100000 in
theorem tX8_kindAt_21 {p : Program} {l : Launch} {e : Env} {s : State} {m : MethodId} {args : Array Value} {below : List Frame} {meth : Method} {c : Code} {D : va_G} {cy : Nat → ClassId} {B : Bs} (C : Cx p s m args c cX8_kindAt 2 RX8 D cy B) (hr : meth.sig.returnType = (some .int)) (hlocks : meth.locks = false) {N : Nat} {g : Gs} {x0 : Nat} {x1 : Int32} {vz : Int32} {dz : Ds} {d : Ds} (hf : fX8_kindAt_J21 N g x0 x1 d = some (vz, dz)) : WB p l e rmX8_kindAt s m args below meth c 2 D cy B 0 0 (MQ below (QI D cy B vz g dz) args s 0 0 (wA B)) g d [(0, .ref (ad B x0)), (1, .int x1)] 21 [] := by
  unfold fX8_kindAt_J21 at hf
  refine b_iconst C (v := 0) dX8_kindAt_21 (by decide) ?_
  refine b_sub [(0, .ref (ad B x0)), (1, .int x1)] [0, 1] rfl ?_
  exact tX8_kindAt_22 C hr hlocks hf
set_option maxRecDepth 100000 in
def fX8_kindAt (N : Nat) (g : Gs) (x0 : Nat) (x1 : Int32) (d : Ds) : Option (Int32 × Ds) := if x1 < 0 then (fX8_kindAt_J21 N g x0 x1 d) else (gd (chk g x0 8) <| if (dI d x0 4) ≤ x1 then (fX8_kindAt_J21 N g x0 x1 d) else (ob (gR g x0 0) fun r4 => (gd (chk g r4 102) <| gd (¬ (x1 < 0 ∨ gL g r4 ≤ x1.toNatClampNeg)) <| fX8_kindAt_J22 N g x0 x1 (dI d r4 x1.toNatClampNeg) d)))
set_option maxHeartbeats 4000000 in
set_option maxRecDepth 100000 in
theorem tX8_kindAt_E {p : Program} {l : Launch} {e : Env} {s : State} {m : MethodId} {args : Array Value} {below : List Frame} {meth : Method} {c : Code} {D : va_G} {cy : Nat → ClassId} {B : Bs} (C : Cx p s m args c cX8_kindAt 2 RX8 D cy B) (hr : meth.sig.returnType = (some .int)) (hlocks : meth.locks = false) {N : Nat} {g : Gs} {x0 : Nat} {x1 : Int32} {vz : Int32} {dz : Ds} {d : Ds} (hf : fX8_kindAt N g x0 x1 d = some (vz, dz)) : WB p l e rmX8_kindAt s m args below meth c 2 D cy B 0 0 (MQ below (QI D cy B vz g dz) args s 0 0 (wA B)) g d [(0, .ref (ad B x0)), (1, .int x1)] 0 [] := by
  unfold fX8_kindAt at hf
  refine b_iload_n C dX8_kindAt_0 1 rfl rfl ?_
  refine b_if_lt C (tgt := 21) dX8_kindAt_1 (by decide) (fun c1 => ?_) (fun c1 => ?_)
  · have hf := it_s c1 hf
    refine b_sub [(0, .ref (ad B x0)), (1, .int x1)] [0, 1] rfl ?_
    exact tX8_kindAt_21 C hr hlocks hf
  · have hf := if_s c1 hf
    refine b_iload_n C dX8_kindAt_4 1 rfl rfl ?_
    refine b_aload_n C dX8_kindAt_5 0 rfl rfl ?_
    obtain ⟨h2, hf⟩ := gd_s hf
    refine b_gI C dX8_kindAt_6 fl_X8_25 h2 ?_
    refine b_icmp_ge C (tgt := 21) dX8_kindAt_9 (by decide) (fun c3 => ?_) (fun c3 => ?_)
    · have hf := it_s c3 hf
      refine b_sub [(0, .ref (ad B x0)), (1, .int x1)] [0, 1] rfl ?_
      exact tX8_kindAt_21 C hr hlocks hf
    · have hf := if_s c3 hf
      refine b_aload_n C dX8_kindAt_12 0 rfl rfl ?_
      obtain ⟨r4, er4, hf⟩ := ob_s hf
      refine b_gR C dX8_kindAt_13 fl_X8_9 h2 er4 ?_
      refine b_iload_n C dX8_kindAt_16 1 rfl rfl ?_
      obtain ⟨h5, hf⟩ := gd_s hf
      obtain ⟨h6, hf⟩ := gd_s hf
      refine b_iald C h5 h6 dX8_kindAt_17 ?_
      refine b_goto C (tgt := 22) dX8_kindAt_18 (by decide) ?_
      refine b_sub [(0, .ref (ad B x0)), (1, .int x1)] [0, 1] rfl ?_
      exact tX8_kindAt_22 C hr hlocks hf
theorem kX8_kindAt (l : Launch) (D : va_G) (cy : Nat → ClassId) (B : Bs) {N : Nat} {g : Gs} {x0 : Nat} {x1 : Int32} {vz : Int32} {dz : Ds} {d : Ds} (hf : fX8_kindAt N g x0 x1 d = some (vz, dz)) : Met l yX8_kindAt (.code yX8_kindAt cX8_kindAt 2 (some .int) :: wl) rmX8_kindAt (PC D cy B [.ref (ad B x0), .int x1] g d) (QI D cy B vz g dz) 0 0 (wA B) :=
  met_of (by decide +kernel) (Nat.le_of_ble_eq_true rfl) (fun p e s m args below meth c C hr hlocks _ => b_sub [(0, .ref (ad B x0)), (1, .int x1)] [0, 1] rfl (tX8_kindAt_E C hr hlocks hf))
/-! KeyMatrix$TextReader.takeToken(I)Z -/
theorem fl_X7_12 : FLR RX7 12 7 0 := ⟨⟨RX7, TX7, 10, rfl, by decide, inl7, Or.inl (mW (mT1 (List.mem_of_getElem? (i := 205) (by decide +kernel))) rfl)⟩, by decide, by decide +kernel⟩
theorem yo_X8_kindAt : yX8_kindAt.cls ≠ "java/lang/invoke/MethodHandle" ∧ yX8_kindAt.cls ≠ "java/lang/invoke/VarHandle" ∧ (parseMethodDescriptor yX8_kindAt.desc).map (fun d => d.parameters.length) = some 1 := by decide +kernel
theorem co_X8_kindAt : Cond.code yX8_kindAt cX8_kindAt 2 (some .int) ∈ wl := mW (mT3 (List.mem_of_getElem? (i := 138) (by decide +kernel))) rfl
theorem in_X8_kindAt : Cond.initialized yX8_kindAt.cls ∈ wl := mW (mT1 (List.mem_of_getElem? (i := 3) (by decide +kernel))) rfl
theorem im_X8_kindAt : Cond.instanceMethod yX8_kindAt ∈ wl := mW (mT3 (List.mem_of_getElem? (i := 136) (by decide +kernel))) rfl
theorem se_X8_kindAt : Cond.selects yX8_kindAt.cls yX8_kindAt yX8_kindAt ∈ wl := mW (mT3 (List.mem_of_getElem? (i := 137) (by decide +kernel))) rfl
theorem lv_X7_53 : LV RX7 53 yX8_kindAt cX8_kindAt 2 (some .int) 1 8 := ⟨⟨(RX8, TX8, 6), rfl, rfl⟩, yo_X8_kindAt, mW (mT3 (List.mem_of_getElem? (i := 135) (by decide +kernel))) rfl, im_X8_kindAt, se_X8_kindAt, in_X8_kindAt, co_X8_kindAt⟩
theorem fp7_3 : FPI 7 3 := ⟨ft7, (RX7, TX7, 10), rfl, by decide +kernel, by decide +kernel⟩
theorem yo_X7_fail : yX7_fail.cls ≠ "java/lang/invoke/MethodHandle" ∧ yX7_fail.cls ≠ "java/lang/invoke/VarHandle" ∧ (parseMethodDescriptor yX7_fail.desc).map (fun d => d.parameters.length) = some 1 := by decide +kernel
theorem co_X7_fail : Cond.code yX7_fail cX7_fail 2 (some .boolean) ∈ wl := mW (mT3 (List.mem_of_getElem? (i := 130) (by decide +kernel))) rfl
theorem in_X7_fail : Cond.initialized yX7_fail.cls ∈ wl := mW (mT1 (List.mem_of_getElem? (i := 2) (by decide +kernel))) rfl
theorem im_X7_fail : Cond.instanceMethod yX7_fail ∈ wl := mW (mT3 (List.mem_of_getElem? (i := 129) (by decide +kernel))) rfl
theorem se_X7_fail : Cond.selects yX7_fail.cls yX7_fail yX7_fail ∈ wl := mW (mT0 (List.mem_of_getElem? (i := 6) (by decide +kernel))) rfl
theorem lv_X7_82 : LV RX7 82 yX7_fail cX7_fail 2 (some .boolean) 1 7 := ⟨⟨(RX7, TX7, 10), rfl, rfl⟩, yo_X7_fail, mW (mT3 (List.mem_of_getElem? (i := 127) (by decide +kernel))) rfl, im_X7_fail, se_X7_fail, in_X7_fail, co_X7_fail⟩
theorem dX7_takeToken_0 : decode cX7_takeToken 0 = .ok (.aload_n 0, 1) := by decide +kernel
theorem dX7_takeToken_1 : decode cX7_takeToken 1 = .ok (.getfield 12, 3) := by decide +kernel
theorem dX7_takeToken_4 : decode cX7_takeToken 4 = .ok (.aload_n 0, 1) := by decide +kernel
theorem dX7_takeToken_5 : decode cX7_takeToken 5 = .ok (.getfield 39, 3) := by decide +kernel
theorem dX7_takeToken_8 : decode cX7_takeToken 8 = .ok (.invokevirtual 53, 3) := by decide +kernel
theorem dX7_takeToken_11 : decode cX7_takeToken 11 = .ok (.iload_n 1, 1) := by decide +kernel
theorem dX7_takeToken_12 : decode cX7_takeToken 12 = .ok (.if_icmp .eq 9, 3) := by decide +kernel
theorem dX7_takeToken_15 : decode cX7_takeToken 15 = .ok (.aload_n 0, 1) := by decide +kernel
theorem dX7_takeToken_16 : decode cX7_takeToken 16 = .ok (.iconst 1, 1) := by decide +kernel
theorem dX7_takeToken_17 : decode cX7_takeToken 17 = .ok (.invokevirtual 82, 3) := by decide +kernel
theorem dX7_takeToken_20 : decode cX7_takeToken 20 = .ok (.ireturn, 1) := by decide +kernel
theorem dX7_takeToken_21 : decode cX7_takeToken 21 = .ok (.aload_n 0, 1) := by decide +kernel
theorem dX7_takeToken_22 : decode cX7_takeToken 22 = .ok (.getfield 39, 3) := by decide +kernel
theorem dX7_takeToken_25 : decode cX7_takeToken 25 = .ok (.sipush 400, 3) := by decide +kernel
theorem dX7_takeToken_28 : decode cX7_takeToken 28 = .ok (.if_icmp .lt 9, 3) := by decide +kernel
theorem dX7_takeToken_31 : decode cX7_takeToken 31 = .ok (.aload_n 0, 1) := by decide +kernel
theorem dX7_takeToken_32 : decode cX7_takeToken 32 = .ok (.iconst 2, 1) := by decide +kernel
theorem dX7_takeToken_33 : decode cX7_takeToken 33 = .ok (.invokevirtual 82, 3) := by decide +kernel
theorem dX7_takeToken_36 : decode cX7_takeToken 36 = .ok (.ireturn, 1) := by decide +kernel
theorem dX7_takeToken_37 : decode cX7_takeToken 37 = .ok (.aload_n 0, 1) := by decide +kernel
theorem dX7_takeToken_38 : decode cX7_takeToken 38 = .ok (.dup, 1) := by decide +kernel
theorem dX7_takeToken_39 : decode cX7_takeToken 39 = .ok (.getfield 39, 3) := by decide +kernel
theorem dX7_takeToken_42 : decode cX7_takeToken 42 = .ok (.iconst 1, 1) := by decide +kernel
theorem dX7_takeToken_43 : decode cX7_takeToken 43 = .ok (.iadd, 1) := by decide +kernel
theorem dX7_takeToken_44 : decode cX7_takeToken 44 = .ok (.putfield 39, 3) := by decide +kernel
theorem dX7_takeToken_47 : decode cX7_takeToken 47 = .ok (.iconst 1, 1) := by decide +kernel
theorem dX7_takeToken_48 : decode cX7_takeToken 48 = .ok (.ireturn, 1) := by decide +kernel
def rmX7_takeToken : Room := { frames := 1, cells := 0, slots := 0, locals := 21 }
set_option maxRecDepth 100000 in
def fX7_takeToken (N : Nat) (g : Gs) (x0 : Nat) (x1 : Int32) (d : Ds) : Option (Int32 × Ds) := gd (chk g x0 7) <| ob (gR g x0 0) fun r2 => (gd (chk g r2 8) <| cb (fX8_kindAt N g r2 (dI d x0 3) d) fun u6 d4 => (if u6 = x1 then (if (dI d4 x0 3) < (400 : Int32) then (bd (sI d4 x0 3 ((dI d4 x0 3) + 1)) fun d9 => (some (1, d9))) else (cb (fX7_fail N g x0 2 d4) fun u12 d10 => (gd (u12 = 0 ∨ u12 = 1) <| some (u12, d10)))) else (cb (fX7_fail N g x0 1 d4) fun u16 d14 => (gd (u16 = 0 ∨ u16 = 1) <| some (u16, d14)))))
set_option maxHeartbeats 4000000 in
set_option maxRecDepth 100000 in
theorem tX7_takeToken_E {p : Program} {l : Launch} {e : Env} {s : State} {m : MethodId} {args : Array Value} {below : List Frame} {meth : Method} {c : Code} {D : va_G} {cy : Nat → ClassId} {B : Bs} (C : Cx p s m args c cX7_takeToken 2 RX7 D cy B) (hr : meth.sig.returnType = (some .boolean)) (hlocks : meth.locks = false) {N : Nat} {g : Gs} {x0 : Nat} {x1 : Int32} {vz : Int32} {dz : Ds} {d : Ds} (hf : fX7_takeToken N g x0 x1 d = some (vz, dz)) : WB p l e rmX7_takeToken s m args below meth c 2 D cy B 0 0 (MQ below (QI D cy B vz g dz) args s 0 0 (wA B)) g d [(0, .ref (ad B x0)), (1, .int x1)] 0 [] := by
  unfold fX7_takeToken at hf
  refine b_aload_n C dX7_takeToken_0 0 rfl rfl ?_
  obtain ⟨h1, hf⟩ := gd_s hf
  obtain ⟨r2, er2, hf⟩ := ob_s hf
  refine b_gR C dX7_takeToken_1 fl_X7_12 h1 er2 ?_
  refine b_aload_n C dX7_takeToken_4 0 rfl rfl ?_
  refine b_gI C dX7_takeToken_5 fl_X7_39 h1 ?_
  obtain ⟨h3, hf⟩ := gd_s hf
  obtain ⟨u6, d4, k5, hf⟩ := cb_s hf
  refine b_cVI C [] dX7_takeToken_8 (kX8_kindAt l D cy B k5) lv_X7_53 ⟨rfl, rfl, Nat.le_of_ble_eq_true rfl, Nat.le_of_ble_eq_true rfl⟩ h3 (by decide) rfl (Nat.le_of_ble_eq_true rfl) ⟨Nat.zero_le _, Nat.zero_le _⟩ rfl ?_
  refine b_iload_n C dX7_takeToken_11 1 rfl rfl ?_
  refine b_icmp_eq C (tgt := 21) dX7_takeToken_12 (by decide) (fun c7 => ?_) (fun c7 => ?_)
  · have hf := it_s c7 hf
    refine b_aload_n C dX7_takeToken_21 0 rfl rfl ?_
    refine b_gI C dX7_takeToken_22 fl_X7_39 h1 ?_
    refine b_sipush C (v := 400) dX7_takeToken_25 (by decide) ?_
    refine b_icmp_lt C (tgt := 37) dX7_takeToken_28 (by decide) (fun c8 => ?_) (fun c8 => ?_)
    · have hf := it_s c8 hf
      refine b_aload_n C dX7_takeToken_37 0 rfl rfl ?_
      refine b_dup C dX7_takeToken_38 rfl ?_
      refine b_gI C dX7_takeToken_39 fl_X7_39 h1 ?_
      refine b_iconst C (v := 1) dX7_takeToken_42 (by decide) ?_
      refine b_iadd C dX7_takeToken_43 ?_
      obtain ⟨d9, ed9, hf⟩ := bd_s hf
      refine b_pI C dX7_takeToken_44 fl_X7_39 fp7_3 h1 ed9 ?_
      refine b_iconst C (v := 1) dX7_takeToken_47 (by decide) ?_
      exact b_zret C hr hlocks (by decide) hf dX7_takeToken_48
    · have hf := if_s c8 hf
      refine b_aload_n C dX7_takeToken_31 0 rfl rfl ?_
      refine b_iconst C (v := 2) dX7_takeToken_32 (by decide) ?_
      obtain ⟨u12, d10, k11, hf⟩ := cb_s hf
      refine b_cVI C [] dX7_takeToken_33 (kX7_fail l D cy B k11) lv_X7_82 ⟨rfl, rfl, Nat.le_of_ble_eq_true rfl, Nat.le_of_ble_eq_true rfl⟩ h1 (by decide) rfl (Nat.le_of_ble_eq_true rfl) ⟨Nat.zero_le _, Nat.zero_le _⟩ rfl ?_
      obtain ⟨h13, hf⟩ := gd_s hf
      exact b_zret C hr hlocks h13 hf dX7_takeToken_36
  · have hf := if_s c7 hf
    refine b_aload_n C dX7_takeToken_15 0 rfl rfl ?_
    refine b_iconst C (v := 1) dX7_takeToken_16 (by decide) ?_
    obtain ⟨u16, d14, k15, hf⟩ := cb_s hf
    refine b_cVI C [] dX7_takeToken_17 (kX7_fail l D cy B k15) lv_X7_82 ⟨rfl, rfl, Nat.le_of_ble_eq_true rfl, Nat.le_of_ble_eq_true rfl⟩ h1 (by decide) rfl (Nat.le_of_ble_eq_true rfl) ⟨Nat.zero_le _, Nat.zero_le _⟩ rfl ?_
    obtain ⟨h17, hf⟩ := gd_s hf
    exact b_zret C hr hlocks h17 hf dX7_takeToken_20
theorem kX7_takeToken (l : Launch) (D : va_G) (cy : Nat → ClassId) (B : Bs) {N : Nat} {g : Gs} {x0 : Nat} {x1 : Int32} {vz : Int32} {dz : Ds} {d : Ds} (hf : fX7_takeToken N g x0 x1 d = some (vz, dz)) : Met l yX7_takeToken (.code yX7_takeToken cX7_takeToken 2 (some .boolean) :: wl) rmX7_takeToken (PC D cy B [.ref (ad B x0), .int x1] g d) (QI D cy B vz g dz) 0 0 (wA B) :=
  met_of (by decide +kernel) (Nat.le_of_ble_eq_true rfl) (fun p e s m args below meth c C hr hlocks _ => b_sub [(0, .ref (ad B x0)), (1, .int x1)] [0, 1] rfl (tX7_takeToken_E C hr hlocks hf))
/-! KeyMatrix$Tokens.numberAt(I)I -/
theorem dX8_numberAt_0 : decode cX8_numberAt 0 = .ok (.iload_n 1, 1) := by decide +kernel
theorem dX8_numberAt_1 : decode cX8_numberAt 1 = .ok (.ifCond .lt 20, 3) := by decide +kernel
theorem dX8_numberAt_4 : decode cX8_numberAt 4 = .ok (.iload_n 1, 1) := by decide +kernel
theorem dX8_numberAt_5 : decode cX8_numberAt 5 = .ok (.aload_n 0, 1) := by decide +kernel
theorem dX8_numberAt_6 : decode cX8_numberAt 6 = .ok (.getfield 25, 3) := by decide +kernel
theorem dX8_numberAt_9 : decode cX8_numberAt 9 = .ok (.if_icmp .ge 12, 3) := by decide +kernel
theorem dX8_numberAt_12 : decode cX8_numberAt 12 = .ok (.aload_n 0, 1) := by decide +kernel
theorem dX8_numberAt_13 : decode cX8_numberAt 13 = .ok (.getfield 16, 3) := by decide +kernel
theorem dX8_numberAt_16 : decode cX8_numberAt 16 = .ok (.iload_n 1, 1) := by decide +kernel
theorem dX8_numberAt_17 : decode cX8_numberAt 17 = .ok (.iaload, 1) := by decide +kernel
theorem dX8_numberAt_18 : decode cX8_numberAt 18 = .ok (.goto 4, 3) := by decide +kernel
theorem dX8_numberAt_21 : decode cX8_numberAt 21 = .ok (.iconst 0, 1) := by decide +kernel
theorem dX8_numberAt_22 : decode cX8_numberAt 22 = .ok (.ireturn, 1) := by decide +kernel
def rmX8_numberAt : Room := { frames := 0, cells := 0, slots := 0, locals := 0 }
set_option maxRecDepth 100000 in
def fX8_numberAt_J22 (N : Nat) (g : Gs) (x0 : Nat) (x1 : Int32) (z0 : Int32) (d : Ds) : Option (Int32 × Ds) := some (z0, d)
set_option maxHeartbeats 4000000 in
set_option maxRecDepth 100000 in
theorem tX8_numberAt_22 {p : Program} {l : Launch} {e : Env} {s : State} {m : MethodId} {args : Array Value} {below : List Frame} {meth : Method} {c : Code} {D : va_G} {cy : Nat → ClassId} {B : Bs} (C : Cx p s m args c cX8_numberAt 2 RX8 D cy B) (hr : meth.sig.returnType = (some .int)) (hlocks : meth.locks = false) {N : Nat} {g : Gs} {x0 : Nat} {x1 : Int32} {vz : Int32} {dz : Ds} {z0 : Int32} {d : Ds} (hf : fX8_numberAt_J22 N g x0 x1 z0 d = some (vz, dz)) : WB p l e rmX8_numberAt s m args below meth c 2 D cy B 0 0 (MQ below (QI D cy B vz g dz) args s 0 0 (wA B)) g d [(0, .ref (ad B x0)), (1, .int x1)] 22 [.int z0] := by
  unfold fX8_numberAt_J22 at hf
  exact b_iret C hr hlocks hf dX8_numberAt_22
set_option maxRecDepth 100000 in
def fX8_numberAt_J21 (N : Nat) (g : Gs) (x0 : Nat) (x1 : Int32) (d : Ds) : Option (Int32 × Ds) := fX8_numberAt_J22 N g x0 x1 0 d
set_option maxHeartbeats 4000000 in
set_option maxRecDepth 100000 in
theorem tX8_numberAt_21 {p : Program} {l : Launch} {e : Env} {s : State} {m : MethodId} {args : Array Value} {below : List Frame} {meth : Method} {c : Code} {D : va_G} {cy : Nat → ClassId} {B : Bs} (C : Cx p s m args c cX8_numberAt 2 RX8 D cy B) (hr : meth.sig.returnType = (some .int)) (hlocks : meth.locks = false) {N : Nat} {g : Gs} {x0 : Nat} {x1 : Int32} {vz : Int32} {dz : Ds} {d : Ds} (hf : fX8_numberAt_J21 N g x0 x1 d = some (vz, dz)) : WB p l e rmX8_numberAt s m args below meth c 2 D cy B 0 0 (MQ below (QI D cy B vz g dz) args s 0 0 (wA B)) g d [(0, .ref (ad B x0)), (1, .int x1)] 21 [] := by
  unfold fX8_numberAt_J21 at hf
  refine b_iconst C (v := 0) dX8_numberAt_21 (by decide) ?_
  refine b_sub [(0, .ref (ad B x0)), (1, .int x1)] [0, 1] rfl ?_
  exact tX8_numberAt_22 C hr hlocks hf
set_option maxRecDepth 100000 in
def fX8_numberAt (N : Nat) (g : Gs) (x0 : Nat) (x1 : Int32) (d : Ds) : Option (Int32 × Ds) := if x1 < 0 then (fX8_numberAt_J21 N g x0 x1 d) else (gd (chk g x0 8) <| if (dI d x0 4) ≤ x1 then (fX8_numberAt_J21 N g x0 x1 d) else (ob (gR g x0 2) fun r4 => (gd (chk g r4 102) <| gd (¬ (x1 < 0 ∨ gL g r4 ≤ x1.toNatClampNeg)) <| fX8_numberAt_J22 N g x0 x1 (dI d r4 x1.toNatClampNeg) d)))
set_option maxHeartbeats 4000000 in
set_option maxRecDepth 100000 in
theorem tX8_numberAt_E {p : Program} {l : Launch} {e : Env} {s : State} {m : MethodId} {args : Array Value} {below : List Frame} {meth : Method} {c : Code} {D : va_G} {cy : Nat → ClassId} {B : Bs} (C : Cx p s m args c cX8_numberAt 2 RX8 D cy B) (hr : meth.sig.returnType = (some .int)) (hlocks : meth.locks = false) {N : Nat} {g : Gs} {x0 : Nat} {x1 : Int32} {vz : Int32} {dz : Ds} {d : Ds} (hf : fX8_numberAt N g x0 x1 d = some (vz, dz)) : WB p l e rmX8_numberAt s m args below meth c 2 D cy B 0 0 (MQ below (QI D cy B vz g dz) args s 0 0 (wA B)) g d [(0, .ref (ad B x0)), (1, .int x1)] 0 [] := by
  unfold fX8_numberAt at hf
  refine b_iload_n C dX8_numberAt_0 1 rfl rfl ?_
  refine b_if_lt C (tgt := 21) dX8_numberAt_1 (by decide) (fun c1 => ?_) (fun c1 => ?_)
  · have hf := it_s c1 hf
    refine b_sub [(0, .ref (ad B x0)), (1, .int x1)] [0, 1] rfl ?_
    exact tX8_numberAt_21 C hr hlocks hf
  · have hf := if_s c1 hf
    refine b_iload_n C dX8_numberAt_4 1 rfl rfl ?_
    refine b_aload_n C dX8_numberAt_5 0 rfl rfl ?_
    obtain ⟨h2, hf⟩ := gd_s hf
    refine b_gI C dX8_numberAt_6 fl_X8_25 h2 ?_
    refine b_icmp_ge C (tgt := 21) dX8_numberAt_9 (by decide) (fun c3 => ?_) (fun c3 => ?_)
    · have hf := it_s c3 hf
      refine b_sub [(0, .ref (ad B x0)), (1, .int x1)] [0, 1] rfl ?_
      exact tX8_numberAt_21 C hr hlocks hf
    · have hf := if_s c3 hf
      refine b_aload_n C dX8_numberAt_12 0 rfl rfl ?_
      obtain ⟨r4, er4, hf⟩ := ob_s hf
      refine b_gR C dX8_numberAt_13 fl_X8_16 h2 er4 ?_
      refine b_iload_n C dX8_numberAt_16 1 rfl rfl ?_
      obtain ⟨h5, hf⟩ := gd_s hf
      obtain ⟨h6, hf⟩ := gd_s hf
      refine b_iald C h5 h6 dX8_numberAt_17 ?_
      refine b_goto C (tgt := 22) dX8_numberAt_18 (by decide) ?_
      refine b_sub [(0, .ref (ad B x0)), (1, .int x1)] [0, 1] rfl ?_
      exact tX8_numberAt_22 C hr hlocks hf
theorem kX8_numberAt (l : Launch) (D : va_G) (cy : Nat → ClassId) (B : Bs) {N : Nat} {g : Gs} {x0 : Nat} {x1 : Int32} {vz : Int32} {dz : Ds} {d : Ds} (hf : fX8_numberAt N g x0 x1 d = some (vz, dz)) : Met l yX8_numberAt (.code yX8_numberAt cX8_numberAt 2 (some .int) :: wl) rmX8_numberAt (PC D cy B [.ref (ad B x0), .int x1] g d) (QI D cy B vz g dz) 0 0 (wA B) :=
  met_of (by decide +kernel) (Nat.le_of_ble_eq_true rfl) (fun p e s m args below meth c C hr hlocks _ => b_sub [(0, .ref (ad B x0)), (1, .int x1)] [0, 1] rfl (tX8_numberAt_E C hr hlocks hf))
/-! KeyMatrix$TextReader.noteLater(II)V -/
theorem fl_X7_46 : FLI RX7 46 7 8 := ⟨⟨RX7, TX7, 10, rfl, by decide, inl7, Or.inl (mW (mT1 (List.mem_of_getElem? (i := 215) (by decide +kernel))) rfl)⟩, by decide, by decide +kernel⟩
theorem fp7_8 : FPI 7 8 := ⟨ft7, (RX7, TX7, 10), rfl, by decide +kernel, by decide +kernel⟩
theorem fl_X7_60 : FLI RX7 60 7 9 := ⟨⟨RX7, TX7, 10, rfl, by decide, inl7, Or.inl (mW (mT1 (List.mem_of_getElem? (i := 216) (by decide +kernel))) rfl)⟩, by decide, by decide +kernel⟩
theorem fp7_9 : FPI 7 9 := ⟨ft7, (RX7, TX7, 10), rfl, by decide +kernel, by decide +kernel⟩
theorem dX7_noteLater_0 : decode cX7_noteLater 0 = .ok (.aload_n 0, 1) := by decide +kernel
theorem dX7_noteLater_1 : decode cX7_noteLater 1 = .ok (.getfield 46, 3) := by decide +kernel
theorem dX7_noteLater_4 : decode cX7_noteLater 4 = .ok (.ifCond .ne 13, 3) := by decide +kernel
theorem dX7_noteLater_7 : decode cX7_noteLater 7 = .ok (.aload_n 0, 1) := by decide +kernel
theorem dX7_noteLater_8 : decode cX7_noteLater 8 = .ok (.iload_n 1, 1) := by decide +kernel
theorem dX7_noteLater_9 : decode cX7_noteLater 9 = .ok (.putfield 46, 3) := by decide +kernel
theorem dX7_noteLater_12 : decode cX7_noteLater 12 = .ok (.aload_n 0, 1) := by decide +kernel
theorem dX7_noteLater_13 : decode cX7_noteLater 13 = .ok (.iload_n 2, 1) := by decide +kernel
theorem dX7_noteLater_14 : decode cX7_noteLater 14 = .ok (.putfield 60, 3) := by decide +kernel
theorem dX7_noteLater_17 : decode cX7_noteLater 17 = .ok (.return_, 1) := by decide +kernel
def rmX7_noteLater : Room := { frames := 0, cells := 0, slots := 0, locals := 0 }
set_option maxRecDepth 100000 in
def fX7_noteLater_J17 (N : Nat) (g : Gs) (x0 : Nat) (x1 : Int32) (x2 : Int32) (d : Ds) : Option (Unit × Ds) := some ((), d)
set_option maxHeartbeats 4000000 in
set_option maxRecDepth 100000 in
theorem tX7_noteLater_17 {p : Program} {l : Launch} {e : Env} {s : State} {m : MethodId} {args : Array Value} {below : List Frame} {meth : Method} {c : Code} {D : va_G} {cy : Nat → ClassId} {B : Bs} (C : Cx p s m args c cX7_noteLater 3 RX7 D cy B) (hr : meth.sig.returnType = none) (hlocks : meth.locks = false) {N : Nat} {g : Gs} {x0 : Nat} {x1 : Int32} {x2 : Int32}  {dz : Ds} {d : Ds} (hf : fX7_noteLater_J17 N g x0 x1 x2 d = some ((), dz)) : WB p l e rmX7_noteLater s m args below meth c 3 D cy B 0 0 (MQ below (QV D cy B g dz) args s 0 0 (wA B)) g d [(0, .ref (ad B x0)), (1, .int x1), (2, .int x2)] 17 [] := by
  unfold fX7_noteLater_J17 at hf
  exact b_vret C hr hlocks hf dX7_noteLater_17
set_option maxRecDepth 100000 in
def fX7_noteLater (N : Nat) (g : Gs) (x0 : Nat) (x1 : Int32) (x2 : Int32) (d : Ds) : Option (Unit × Ds) := gd (chk g x0 7) <| if (dI d x0 8) = 0 then (bd (sI d x0 8 x1) fun d3 => (bd (sI d3 x0 9 x2) fun d4 => (fX7_noteLater_J17 N g x0 x1 x2 d4))) else (fX7_noteLater_J17 N g x0 x1 x2 d)
set_option maxHeartbeats 4000000 in
set_option maxRecDepth 100000 in
theorem tX7_noteLater_E {p : Program} {l : Launch} {e : Env} {s : State} {m : MethodId} {args : Array Value} {below : List Frame} {meth : Method} {c : Code} {D : va_G} {cy : Nat → ClassId} {B : Bs} (C : Cx p s m args c cX7_noteLater 3 RX7 D cy B) (hr : meth.sig.returnType = none) (hlocks : meth.locks = false) {N : Nat} {g : Gs} {x0 : Nat} {x1 : Int32} {x2 : Int32}  {dz : Ds} {d : Ds} (hf : fX7_noteLater N g x0 x1 x2 d = some ((), dz)) : WB p l e rmX7_noteLater s m args below meth c 3 D cy B 0 0 (MQ below (QV D cy B g dz) args s 0 0 (wA B)) g d [(0, .ref (ad B x0)), (1, .int x1), (2, .int x2)] 0 [] := by
  unfold fX7_noteLater at hf
  refine b_aload_n C dX7_noteLater_0 0 rfl rfl ?_
  obtain ⟨h1, hf⟩ := gd_s hf
  refine b_gI C dX7_noteLater_1 fl_X7_46 h1 ?_
  refine b_if_ne C (tgt := 17) dX7_noteLater_4 (by decide) (fun c2 => ?_) (fun c2 => ?_)
  · have hf := if_s c2 hf
    refine b_sub [(0, .ref (ad B x0)), (1, .int x1), (2, .int x2)] [0, 1, 2] rfl ?_
    exact tX7_noteLater_17 C hr hlocks hf
  · have hf := it_s c2 hf
    refine b_aload_n C dX7_noteLater_7 0 rfl rfl ?_
    refine b_iload_n C dX7_noteLater_8 1 rfl rfl ?_
    obtain ⟨d3, ed3, hf⟩ := bd_s hf
    refine b_pI C dX7_noteLater_9 fl_X7_46 fp7_8 h1 ed3 ?_
    refine b_aload_n C dX7_noteLater_12 0 rfl rfl ?_
    refine b_iload_n C dX7_noteLater_13 2 rfl rfl ?_
    obtain ⟨d4, ed4, hf⟩ := bd_s hf
    refine b_pI C dX7_noteLater_14 fl_X7_60 fp7_9 h1 ed4 ?_
    refine b_sub [(0, .ref (ad B x0)), (1, .int x1), (2, .int x2)] [0, 1, 2] rfl ?_
    exact tX7_noteLater_17 C hr hlocks hf
theorem kX7_noteLater (l : Launch) (D : va_G) (cy : Nat → ClassId) (B : Bs) {N : Nat} {g : Gs} {x0 : Nat} {x1 : Int32} {x2 : Int32}  {dz : Ds} {d : Ds} (hf : fX7_noteLater N g x0 x1 x2 d = some ((), dz)) : Met l yX7_noteLater (.code yX7_noteLater cX7_noteLater 3 none :: wl) rmX7_noteLater (PC D cy B [.ref (ad B x0), .int x1, .int x2] g d) (QV D cy B g dz) 0 0 (wA B) :=
  met_of (by decide +kernel) (Nat.le_of_ble_eq_true rfl) (fun p e s m args below meth c C hr hlocks _ => b_sub [(0, .ref (ad B x0)), (1, .int x1), (2, .int x2)] [0, 1, 2] rfl (tX7_noteLater_E C hr hlocks hf))
/-! KeyMatrix$TextReader.takeNumber(II)Z -/
theorem yo_X8_numberAt : yX8_numberAt.cls ≠ "java/lang/invoke/MethodHandle" ∧ yX8_numberAt.cls ≠ "java/lang/invoke/VarHandle" ∧ (parseMethodDescriptor yX8_numberAt.desc).map (fun d => d.parameters.length) = some 1 := by decide +kernel
theorem co_X8_numberAt : Cond.code yX8_numberAt cX8_numberAt 2 (some .int) ∈ wl := mW (mT3 (List.mem_of_getElem? (i := 146) (by decide +kernel))) rfl
theorem in_X8_numberAt : Cond.initialized yX8_numberAt.cls ∈ wl := mW (mT1 (List.mem_of_getElem? (i := 3) (by decide +kernel))) rfl
theorem im_X8_numberAt : Cond.instanceMethod yX8_numberAt ∈ wl := mW (mT3 (List.mem_of_getElem? (i := 144) (by decide +kernel))) rfl
theorem se_X8_numberAt : Cond.selects yX8_numberAt.cls yX8_numberAt yX8_numberAt ∈ wl := mW (mT3 (List.mem_of_getElem? (i := 145) (by decide +kernel))) rfl
theorem lv_X7_220 : LV RX7 220 yX8_numberAt cX8_numberAt 2 (some .int) 1 8 := ⟨⟨(RX8, TX8, 6), rfl, rfl⟩, yo_X8_numberAt, mW (mT3 (List.mem_of_getElem? (i := 143) (by decide +kernel))) rfl, im_X8_numberAt, se_X8_numberAt, in_X8_numberAt, co_X8_numberAt⟩
theorem fl_X7_93 : FLI RX7 93 7 4 := ⟨⟨RX7, TX7, 10, rfl, by decide, inl7, Or.inl (mW (mT1 (List.mem_of_getElem? (i := 210) (by decide +kernel))) rfl)⟩, by decide, by decide +kernel⟩
theorem fp7_4 : FPI 7 4 := ⟨ft7, (RX7, TX7, 10), rfl, by decide +kernel, by decide +kernel⟩
theorem yo_X7_takeToken : yX7_takeToken.cls ≠ "java/lang/invoke/MethodHandle" ∧ yX7_takeToken.cls ≠ "java/lang/invoke/VarHandle" ∧ (parseMethodDescriptor yX7_takeToken.desc).map (fun d => d.parameters.length) = some 1 := by decide +kernel
theorem co_X7_takeToken : Cond.code yX7_takeToken cX7_takeToken 2 (some .boolean) ∈ wl := mW (mT3 (List.mem_of_getElem? (i := 134) (by decide +kernel))) rfl
theorem in_X7_takeToken : Cond.initialized yX7_takeToken.cls ∈ wl := mW (mT1 (List.mem_of_getElem? (i := 2) (by decide +kernel))) rfl
theorem im_X7_takeToken : Cond.instanceMethod yX7_takeToken ∈ wl := mW (mT3 (List.mem_of_getElem? (i := 133) (by decide +kernel))) rfl
theorem se_X7_takeToken : Cond.selects yX7_takeToken.cls yX7_takeToken yX7_takeToken ∈ wl := mW (mT0 (List.mem_of_getElem? (i := 7) (by decide +kernel))) rfl
theorem lv_X7_86 : LV RX7 86 yX7_takeToken cX7_takeToken 2 (some .boolean) 1 7 := ⟨⟨(RX7, TX7, 10), rfl, rfl⟩, yo_X7_takeToken, mW (mT3 (List.mem_of_getElem? (i := 131) (by decide +kernel))) rfl, im_X7_takeToken, se_X7_takeToken, in_X7_takeToken, co_X7_takeToken⟩
theorem yo_X7_noteLater : yX7_noteLater.cls ≠ "java/lang/invoke/MethodHandle" ∧ yX7_noteLater.cls ≠ "java/lang/invoke/VarHandle" ∧ (parseMethodDescriptor yX7_noteLater.desc).map (fun d => d.parameters.length) = some 2 := by decide +kernel
theorem co_X7_noteLater : Cond.code yX7_noteLater cX7_noteLater 3 none ∈ wl := mW (mT3 (List.mem_of_getElem? (i := 150) (by decide +kernel))) rfl
theorem in_X7_noteLater : Cond.initialized yX7_noteLater.cls ∈ wl := mW (mT1 (List.mem_of_getElem? (i := 2) (by decide +kernel))) rfl
theorem im_X7_noteLater : Cond.instanceMethod yX7_noteLater ∈ wl := mW (mT3 (List.mem_of_getElem? (i := 149) (by decide +kernel))) rfl
theorem se_X7_noteLater : Cond.selects yX7_noteLater.cls yX7_noteLater yX7_noteLater ∈ wl := mW (mT0 (List.mem_of_getElem? (i := 9) (by decide +kernel))) rfl
theorem lv_X7_212 : LV RX7 212 yX7_noteLater cX7_noteLater 3 none 2 7 := ⟨⟨(RX7, TX7, 10), rfl, rfl⟩, yo_X7_noteLater, mW (mT3 (List.mem_of_getElem? (i := 147) (by decide +kernel))) rfl, im_X7_noteLater, se_X7_noteLater, in_X7_noteLater, co_X7_noteLater⟩
theorem dX7_takeNumber_0 : decode cX7_takeNumber 0 = .ok (.aload_n 0, 1) := by decide +kernel
theorem dX7_takeNumber_1 : decode cX7_takeNumber 1 = .ok (.aload_n 0, 1) := by decide +kernel
theorem dX7_takeNumber_2 : decode cX7_takeNumber 2 = .ok (.getfield 12, 3) := by decide +kernel
theorem dX7_takeNumber_5 : decode cX7_takeNumber 5 = .ok (.aload_n 0, 1) := by decide +kernel
theorem dX7_takeNumber_6 : decode cX7_takeNumber 6 = .ok (.getfield 39, 3) := by decide +kernel
theorem dX7_takeNumber_9 : decode cX7_takeNumber 9 = .ok (.invokevirtual 220, 3) := by decide +kernel
theorem dX7_takeNumber_12 : decode cX7_takeNumber 12 = .ok (.putfield 93, 3) := by decide +kernel
theorem dX7_takeNumber_15 : decode cX7_takeNumber 15 = .ok (.aload_n 0, 1) := by decide +kernel
theorem dX7_takeNumber_16 : decode cX7_takeNumber 16 = .ok (.iconst 2, 1) := by decide +kernel
theorem dX7_takeNumber_17 : decode cX7_takeNumber 17 = .ok (.invokevirtual 86, 3) := by decide +kernel
theorem dX7_takeNumber_20 : decode cX7_takeNumber 20 = .ok (.ifCond .ne 5, 3) := by decide +kernel
theorem dX7_takeNumber_23 : decode cX7_takeNumber 23 = .ok (.iconst 0, 1) := by decide +kernel
theorem dX7_takeNumber_24 : decode cX7_takeNumber 24 = .ok (.ireturn, 1) := by decide +kernel
theorem dX7_takeNumber_25 : decode cX7_takeNumber 25 = .ok (.aload_n 0, 1) := by decide +kernel
theorem dX7_takeNumber_26 : decode cX7_takeNumber 26 = .ok (.getfield 93, 3) := by decide +kernel
theorem dX7_takeNumber_29 : decode cX7_takeNumber 29 = .ok (.iload_n 1, 1) := by decide +kernel
theorem dX7_takeNumber_30 : decode cX7_takeNumber 30 = .ok (.if_icmp .lt 11, 3) := by decide +kernel
theorem dX7_takeNumber_33 : decode cX7_takeNumber 33 = .ok (.aload_n 0, 1) := by decide +kernel
theorem dX7_takeNumber_34 : decode cX7_takeNumber 34 = .ok (.getfield 93, 3) := by decide +kernel
theorem dX7_takeNumber_37 : decode cX7_takeNumber 37 = .ok (.iload_n 2, 1) := by decide +kernel
theorem dX7_takeNumber_38 : decode cX7_takeNumber 38 = .ok (.if_icmp .le 14, 3) := by decide +kernel
theorem dX7_takeNumber_41 : decode cX7_takeNumber 41 = .ok (.aload_n 0, 1) := by decide +kernel
theorem dX7_takeNumber_42 : decode cX7_takeNumber 42 = .ok (.iconst 5, 1) := by decide +kernel
theorem dX7_takeNumber_43 : decode cX7_takeNumber 43 = .ok (.aload_n 0, 1) := by decide +kernel
theorem dX7_takeNumber_44 : decode cX7_takeNumber 44 = .ok (.getfield 39, 3) := by decide +kernel
theorem dX7_takeNumber_47 : decode cX7_takeNumber 47 = .ok (.iconst 1, 1) := by decide +kernel
theorem dX7_takeNumber_48 : decode cX7_takeNumber 48 = .ok (.isub, 1) := by decide +kernel
theorem dX7_takeNumber_49 : decode cX7_takeNumber 49 = .ok (.invokevirtual 212, 3) := by decide +kernel
theorem dX7_takeNumber_52 : decode cX7_takeNumber 52 = .ok (.iconst 1, 1) := by decide +kernel
theorem dX7_takeNumber_53 : decode cX7_takeNumber 53 = .ok (.ireturn, 1) := by decide +kernel
def rmX7_takeNumber : Room := { frames := 2, cells := 0, slots := 0, locals := 42 }
set_option maxRecDepth 100000 in
def fX7_takeNumber_J52 (N : Nat) (g : Gs) (x0 : Nat) (x1 : Int32) (x2 : Int32) (d : Ds) : Option (Int32 × Ds) := some (1, d)
set_option maxHeartbeats 4000000 in
set_option maxRecDepth 100000 in
theorem tX7_takeNumber_52 {p : Program} {l : Launch} {e : Env} {s : State} {m : MethodId} {args : Array Value} {below : List Frame} {meth : Method} {c : Code} {D : va_G} {cy : Nat → ClassId} {B : Bs} (C : Cx p s m args c cX7_takeNumber 3 RX7 D cy B) (hr : meth.sig.returnType = (some .boolean)) (hlocks : meth.locks = false) {N : Nat} {g : Gs} {x0 : Nat} {x1 : Int32} {x2 : Int32} {vz : Int32} {dz : Ds} {d : Ds} (hf : fX7_takeNumber_J52 N g x0 x1 x2 d = some (vz, dz)) : WB p l e rmX7_takeNumber s m args below meth c 3 D cy B 0 0 (MQ below (QI D cy B vz g dz) args s 0 0 (wA B)) g d [(0, .ref (ad B x0)), (1, .int x1), (2, .int x2)] 52 [] := by
  unfold fX7_takeNumber_J52 at hf
  refine b_iconst C (v := 1) dX7_takeNumber_52 (by decide) ?_
  exact b_zret C hr hlocks (by decide) hf dX7_takeNumber_53
set_option maxRecDepth 100000 in
def fX7_takeNumber_J41 (N : Nat) (g : Gs) (x0 : Nat) (x1 : Int32) (x2 : Int32) (d : Ds) : Option (Int32 × Ds) := gd (chk g x0 7) <| cv (fX7_noteLater N g x0 5 ((dI d x0 3) - 1) d) fun d14 => (fX7_takeNumber_J52 N g x0 x1 x2 d14)
set_option maxHeartbeats 4000000 in
set_option maxRecDepth 100000 in
theorem tX7_takeNumber_41 {p : Program} {l : Launch} {e : Env} {s : State} {m : MethodId} {args : Array Value} {below : List Frame} {meth : Method} {c : Code} {D : va_G} {cy : Nat → ClassId} {B : Bs} (C : Cx p s m args c cX7_takeNumber 3 RX7 D cy B) (hr : meth.sig.returnType = (some .boolean)) (hlocks : meth.locks = false) {N : Nat} {g : Gs} {x0 : Nat} {x1 : Int32} {x2 : Int32} {vz : Int32} {dz : Ds} {d : Ds} (hf : fX7_takeNumber_J41 N g x0 x1 x2 d = some (vz, dz)) : WB p l e rmX7_takeNumber s m args below meth c 3 D cy B 0 0 (MQ below (QI D cy B vz g dz) args s 0 0 (wA B)) g d [(0, .ref (ad B x0)), (1, .int x1), (2, .int x2)] 41 [] := by
  unfold fX7_takeNumber_J41 at hf
  refine b_aload_n C dX7_takeNumber_41 0 rfl rfl ?_
  refine b_iconst C (v := 5) dX7_takeNumber_42 (by decide) ?_
  refine b_aload_n C dX7_takeNumber_43 0 rfl rfl ?_
  obtain ⟨h13, hf⟩ := gd_s hf
  refine b_gI C dX7_takeNumber_44 fl_X7_39 h13 ?_
  refine b_iconst C (v := 1) dX7_takeNumber_47 (by decide) ?_
  refine b_isub C dX7_takeNumber_48 ?_
  obtain ⟨d14, k15, hf⟩ := cv_s hf
  refine b_cVN C [] dX7_takeNumber_49 (kX7_noteLater l D cy B k15) lv_X7_212 ⟨rfl, rfl, Nat.le_of_ble_eq_true rfl, Nat.le_of_ble_eq_true rfl⟩ h13 (by decide) rfl (Nat.le_of_ble_eq_true rfl) ⟨Nat.zero_le _, Nat.zero_le _⟩ rfl ?_
  refine b_sub [(0, .ref (ad B x0)), (1, .int x1), (2, .int x2)] [0, 1, 2] rfl ?_
  exact tX7_takeNumber_52 C hr hlocks hf
set_option maxRecDepth 100000 in
def fX7_takeNumber (N : Nat) (g : Gs) (x0 : Nat) (x1 : Int32) (x2 : Int32) (d : Ds) : Option (Int32 × Ds) := gd (chk g x0 7) <| ob (gR g x0 0) fun r2 => (gd (chk g r2 8) <| cb (fX8_numberAt N g r2 (dI d x0 3) d) fun u6 d4 => (bd (sI d4 x0 4 u6) fun d7 => (cb (fX7_takeToken N g x0 2 d7) fun u10 d8 => (if u10 = 0 then (some (0, d8)) else (if (dI d8 x0 4) < x1 then (fX7_takeNumber_J41 N g x0 x1 x2 d8) else (if (dI d8 x0 4) ≤ x2 then (fX7_takeNumber_J52 N g x0 x1 x2 d8) else (fX7_takeNumber_J41 N g x0 x1 x2 d8)))))))
set_option maxHeartbeats 4000000 in
set_option maxRecDepth 100000 in
theorem tX7_takeNumber_E {p : Program} {l : Launch} {e : Env} {s : State} {m : MethodId} {args : Array Value} {below : List Frame} {meth : Method} {c : Code} {D : va_G} {cy : Nat → ClassId} {B : Bs} (C : Cx p s m args c cX7_takeNumber 3 RX7 D cy B) (hr : meth.sig.returnType = (some .boolean)) (hlocks : meth.locks = false) {N : Nat} {g : Gs} {x0 : Nat} {x1 : Int32} {x2 : Int32} {vz : Int32} {dz : Ds} {d : Ds} (hf : fX7_takeNumber N g x0 x1 x2 d = some (vz, dz)) : WB p l e rmX7_takeNumber s m args below meth c 3 D cy B 0 0 (MQ below (QI D cy B vz g dz) args s 0 0 (wA B)) g d [(0, .ref (ad B x0)), (1, .int x1), (2, .int x2)] 0 [] := by
  unfold fX7_takeNumber at hf
  refine b_aload_n C dX7_takeNumber_0 0 rfl rfl ?_
  refine b_aload_n C dX7_takeNumber_1 0 rfl rfl ?_
  obtain ⟨h1, hf⟩ := gd_s hf
  obtain ⟨r2, er2, hf⟩ := ob_s hf
  refine b_gR C dX7_takeNumber_2 fl_X7_12 h1 er2 ?_
  refine b_aload_n C dX7_takeNumber_5 0 rfl rfl ?_
  refine b_gI C dX7_takeNumber_6 fl_X7_39 h1 ?_
  obtain ⟨h3, hf⟩ := gd_s hf
  obtain ⟨u6, d4, k5, hf⟩ := cb_s hf
  refine b_cVI C [.ref (ad B x0)] dX7_takeNumber_9 (kX8_numberAt l D cy B k5) lv_X7_220 ⟨rfl, rfl, Nat.le_of_ble_eq_true rfl, Nat.le_of_ble_eq_true rfl⟩ h3 (by decide) rfl (Nat.le_of_ble_eq_true rfl) ⟨Nat.zero_le _, Nat.zero_le _⟩ rfl ?_
  obtain ⟨d7, ed7, hf⟩ := bd_s hf
  refine b_pI C dX7_takeNumber_12 fl_X7_93 fp7_4 h1 ed7 ?_
  refine b_aload_n C dX7_takeNumber_15 0 rfl rfl ?_
  refine b_iconst C (v := 2) dX7_takeNumber_16 (by decide) ?_
  obtain ⟨u10, d8, k9, hf⟩ := cb_s hf
  refine b_cVI C [] dX7_takeNumber_17 (kX7_takeToken l D cy B k9) lv_X7_86 ⟨rfl, rfl, Nat.le_of_ble_eq_true rfl, Nat.le_of_ble_eq_true rfl⟩ h1 (by decide) rfl (Nat.le_of_ble_eq_true rfl) ⟨Nat.zero_le _, Nat.zero_le _⟩ rfl ?_
  refine b_if_ne C (tgt := 25) dX7_takeNumber_20 (by decide) (fun c11 => ?_) (fun c11 => ?_)
  · have hf := if_s c11 hf
    refine b_aload_n C dX7_takeNumber_25 0 rfl rfl ?_
    refine b_gI C dX7_takeNumber_26 fl_X7_93 h1 ?_
    refine b_iload_n C dX7_takeNumber_29 1 rfl rfl ?_
    refine b_icmp_lt C (tgt := 41) dX7_takeNumber_30 (by decide) (fun c12 => ?_) (fun c12 => ?_)
    · have hf := it_s c12 hf
      refine b_sub [(0, .ref (ad B x0)), (1, .int x1), (2, .int x2)] [0, 1, 2] rfl ?_
      exact tX7_takeNumber_41 C hr hlocks hf
    · have hf := if_s c12 hf
      refine b_aload_n C dX7_takeNumber_33 0 rfl rfl ?_
      refine b_gI C dX7_takeNumber_34 fl_X7_93 h1 ?_
      refine b_iload_n C dX7_takeNumber_37 2 rfl rfl ?_
      refine b_icmp_le C (tgt := 52) dX7_takeNumber_38 (by decide) (fun c16 => ?_) (fun c16 => ?_)
      · have hf := it_s c16 hf
        refine b_sub [(0, .ref (ad B x0)), (1, .int x1), (2, .int x2)] [0, 1, 2] rfl ?_
        exact tX7_takeNumber_52 C hr hlocks hf
      · have hf := if_s c16 hf
        refine b_sub [(0, .ref (ad B x0)), (1, .int x1), (2, .int x2)] [0, 1, 2] rfl ?_
        exact tX7_takeNumber_41 C hr hlocks hf
  · have hf := it_s c11 hf
    refine b_iconst C (v := 0) dX7_takeNumber_23 (by decide) ?_
    exact b_zret C hr hlocks (by decide) hf dX7_takeNumber_24
theorem kX7_takeNumber (l : Launch) (D : va_G) (cy : Nat → ClassId) (B : Bs) {N : Nat} {g : Gs} {x0 : Nat} {x1 : Int32} {x2 : Int32} {vz : Int32} {dz : Ds} {d : Ds} (hf : fX7_takeNumber N g x0 x1 x2 d = some (vz, dz)) : Met l yX7_takeNumber (.code yX7_takeNumber cX7_takeNumber 3 (some .boolean) :: wl) rmX7_takeNumber (PC D cy B [.ref (ad B x0), .int x1, .int x2] g d) (QI D cy B vz g dz) 0 0 (wA B) :=
  met_of (by decide +kernel) (Nat.le_of_ble_eq_true rfl) (fun p e s m args below meth c C hr hlocks _ => b_sub [(0, .ref (ad B x0)), (1, .int x1), (2, .int x2)] [0, 1, 2] rfl (tX7_takeNumber_E C hr hlocks hf))
/-! KeyMatrix$TextReader.takeBoard()Z -/
theorem yo_X8_wordAt : yX8_wordAt.cls ≠ "java/lang/invoke/MethodHandle" ∧ yX8_wordAt.cls ≠ "java/lang/invoke/VarHandle" ∧ (parseMethodDescriptor yX8_wordAt.desc).map (fun d => d.parameters.length) = some 1 := by decide +kernel
theorem co_X8_wordAt : Cond.code yX8_wordAt cX8_wordAt 2 (some (.object "KeyMatrix$Word")) ∈ wl := mW (mT3 (List.mem_of_getElem? (i := 124) (by decide +kernel))) rfl
theorem in_X8_wordAt : Cond.initialized yX8_wordAt.cls ∈ wl := mW (mT1 (List.mem_of_getElem? (i := 3) (by decide +kernel))) rfl
theorem im_X8_wordAt : Cond.instanceMethod yX8_wordAt ∈ wl := mW (mT3 (List.mem_of_getElem? (i := 122) (by decide +kernel))) rfl
theorem se_X8_wordAt : Cond.selects yX8_wordAt.cls yX8_wordAt yX8_wordAt ∈ wl := mW (mT3 (List.mem_of_getElem? (i := 123) (by decide +kernel))) rfl
theorem lv_X7_72 : LV RX7 72 yX8_wordAt cX8_wordAt 2 (some (.object "KeyMatrix$Word")) 1 8 := ⟨⟨(RX8, TX8, 6), rfl, rfl⟩, yo_X8_wordAt, mW (mT3 (List.mem_of_getElem? (i := 121) (by decide +kernel))) rfl, im_X8_wordAt, se_X8_wordAt, in_X8_wordAt, co_X8_wordAt⟩
theorem ws_X7_76 : Cond.fieldLink RX7 76 "KeyMatrix$Word" (wnm 0) "LKeyMatrix$Word;" ∈ wl := mW (mT3 (List.mem_of_getElem? (i := 125) (by decide +kernel))) rfl
theorem yo_X7_takeNumber : yX7_takeNumber.cls ≠ "java/lang/invoke/MethodHandle" ∧ yX7_takeNumber.cls ≠ "java/lang/invoke/VarHandle" ∧ (parseMethodDescriptor yX7_takeNumber.desc).map (fun d => d.parameters.length) = some 2 := by decide +kernel
theorem co_X7_takeNumber : Cond.code yX7_takeNumber cX7_takeNumber 3 (some .boolean) ∈ wl := mW (mT3 (List.mem_of_getElem? (i := 142) (by decide +kernel))) rfl
theorem in_X7_takeNumber : Cond.initialized yX7_takeNumber.cls ∈ wl := mW (mT1 (List.mem_of_getElem? (i := 2) (by decide +kernel))) rfl
theorem im_X7_takeNumber : Cond.instanceMethod yX7_takeNumber ∈ wl := mW (mT3 (List.mem_of_getElem? (i := 141) (by decide +kernel))) rfl
theorem se_X7_takeNumber : Cond.selects yX7_takeNumber.cls yX7_takeNumber yX7_takeNumber ∈ wl := mW (mT0 (List.mem_of_getElem? (i := 8) (by decide +kernel))) rfl
theorem lv_X7_89 : LV RX7 89 yX7_takeNumber cX7_takeNumber 3 (some .boolean) 2 7 := ⟨⟨(RX7, TX7, 10), rfl, rfl⟩, yo_X7_takeNumber, mW (mT3 (List.mem_of_getElem? (i := 139) (by decide +kernel))) rfl, im_X7_takeNumber, se_X7_takeNumber, in_X7_takeNumber, co_X7_takeNumber⟩
theorem fl_X7_28 : FLR RX7 28 7 2 := ⟨⟨RX7, TX7, 10, rfl, by decide, inl7, Or.inl (mW (mT1 (List.mem_of_getElem? (i := 207) (by decide +kernel))) rfl)⟩, by decide, by decide +kernel⟩
theorem fl_X7_96 : FLI RX7 96 0 0 := ⟨⟨RX0, TX0, 19, rfl, by decide, inl0, Or.inr (mT1 (List.mem_of_getElem? (i := 110) (by decide +kernel)))⟩, by decide, by decide +kernel⟩
theorem fl_X7_99 : FLI RX7 99 0 1 := ⟨⟨RX0, TX0, 19, rfl, by decide, inl0, Or.inr (mT1 (List.mem_of_getElem? (i := 114) (by decide +kernel)))⟩, by decide, by decide +kernel⟩
theorem dX7_takeBoard_0 : decode cX7_takeBoard 0 = .ok (.aload_n 0, 1) := by decide +kernel
theorem dX7_takeBoard_1 : decode cX7_takeBoard 1 = .ok (.getfield 12, 3) := by decide +kernel
theorem dX7_takeBoard_4 : decode cX7_takeBoard 4 = .ok (.aload_n 0, 1) := by decide +kernel
theorem dX7_takeBoard_5 : decode cX7_takeBoard 5 = .ok (.getfield 39, 3) := by decide +kernel
theorem dX7_takeBoard_8 : decode cX7_takeBoard 8 = .ok (.invokevirtual 72, 3) := by decide +kernel
theorem dX7_takeBoard_11 : decode cX7_takeBoard 11 = .ok (.getstatic 76, 3) := by decide +kernel
theorem dX7_takeBoard_14 : decode cX7_takeBoard 14 = .ok (.if_acmp .eq 9, 3) := by decide +kernel
theorem dX7_takeBoard_17 : decode cX7_takeBoard 17 = .ok (.aload_n 0, 1) := by decide +kernel
theorem dX7_takeBoard_18 : decode cX7_takeBoard 18 = .ok (.iconst 1, 1) := by decide +kernel
theorem dX7_takeBoard_19 : decode cX7_takeBoard 19 = .ok (.invokevirtual 82, 3) := by decide +kernel
theorem dX7_takeBoard_22 : decode cX7_takeBoard 22 = .ok (.ireturn, 1) := by decide +kernel
theorem dX7_takeBoard_23 : decode cX7_takeBoard 23 = .ok (.aload_n 0, 1) := by decide +kernel
theorem dX7_takeBoard_24 : decode cX7_takeBoard 24 = .ok (.iconst 1, 1) := by decide +kernel
theorem dX7_takeBoard_25 : decode cX7_takeBoard 25 = .ok (.invokevirtual 86, 3) := by decide +kernel
theorem dX7_takeBoard_28 : decode cX7_takeBoard 28 = .ok (.ifCond .eq 12, 3) := by decide +kernel
theorem dX7_takeBoard_31 : decode cX7_takeBoard 31 = .ok (.aload_n 0, 1) := by decide +kernel
theorem dX7_takeBoard_32 : decode cX7_takeBoard 32 = .ok (.iconst 1, 1) := by decide +kernel
theorem dX7_takeBoard_33 : decode cX7_takeBoard 33 = .ok (.iconst 4, 1) := by decide +kernel
theorem dX7_takeBoard_34 : decode cX7_takeBoard 34 = .ok (.invokevirtual 89, 3) := by decide +kernel
theorem dX7_takeBoard_37 : decode cX7_takeBoard 37 = .ok (.ifCond .ne 5, 3) := by decide +kernel
theorem dX7_takeBoard_40 : decode cX7_takeBoard 40 = .ok (.iconst 0, 1) := by decide +kernel
theorem dX7_takeBoard_41 : decode cX7_takeBoard 41 = .ok (.ireturn, 1) := by decide +kernel
theorem dX7_takeBoard_42 : decode cX7_takeBoard 42 = .ok (.aload_n 0, 1) := by decide +kernel
theorem dX7_takeBoard_43 : decode cX7_takeBoard 43 = .ok (.getfield 28, 3) := by decide +kernel
theorem dX7_takeBoard_46 : decode cX7_takeBoard 46 = .ok (.aload_n 0, 1) := by decide +kernel
theorem dX7_takeBoard_47 : decode cX7_takeBoard 47 = .ok (.getfield 93, 3) := by decide +kernel
theorem dX7_takeBoard_50 : decode cX7_takeBoard 50 = .ok (.putfield 96, 3) := by decide +kernel
theorem dX7_takeBoard_53 : decode cX7_takeBoard 53 = .ok (.aload_n 0, 1) := by decide +kernel
theorem dX7_takeBoard_54 : decode cX7_takeBoard 54 = .ok (.iconst 1, 1) := by decide +kernel
theorem dX7_takeBoard_55 : decode cX7_takeBoard 55 = .ok (.bipush 6, 2) := by decide +kernel
theorem dX7_takeBoard_57 : decode cX7_takeBoard 57 = .ok (.invokevirtual 89, 3) := by decide +kernel
theorem dX7_takeBoard_60 : decode cX7_takeBoard 60 = .ok (.ifCond .ne 5, 3) := by decide +kernel
theorem dX7_takeBoard_63 : decode cX7_takeBoard 63 = .ok (.iconst 0, 1) := by decide +kernel
theorem dX7_takeBoard_64 : decode cX7_takeBoard 64 = .ok (.ireturn, 1) := by decide +kernel
theorem dX7_takeBoard_65 : decode cX7_takeBoard 65 = .ok (.aload_n 0, 1) := by decide +kernel
theorem dX7_takeBoard_66 : decode cX7_takeBoard 66 = .ok (.getfield 28, 3) := by decide +kernel
theorem dX7_takeBoard_69 : decode cX7_takeBoard 69 = .ok (.aload_n 0, 1) := by decide +kernel
theorem dX7_takeBoard_70 : decode cX7_takeBoard 70 = .ok (.getfield 93, 3) := by decide +kernel
theorem dX7_takeBoard_73 : decode cX7_takeBoard 73 = .ok (.putfield 99, 3) := by decide +kernel
theorem dX7_takeBoard_76 : decode cX7_takeBoard 76 = .ok (.aload_n 0, 1) := by decide +kernel
theorem dX7_takeBoard_77 : decode cX7_takeBoard 77 = .ok (.iconst 3, 1) := by decide +kernel
theorem dX7_takeBoard_78 : decode cX7_takeBoard 78 = .ok (.invokevirtual 86, 3) := by decide +kernel
theorem dX7_takeBoard_81 : decode cX7_takeBoard 81 = .ok (.ireturn, 1) := by decide +kernel
def rmX7_takeBoard : Room := { frames := 3, cells := 0, slots := 0, locals := 64 }
set_option maxRecDepth 100000 in
def fX7_takeBoard_J40 (N : Nat) (g : Gs) (x0 : Nat) (d : Ds) : Option (Int32 × Ds) := some (0, d)
set_option maxHeartbeats 4000000 in
set_option maxRecDepth 100000 in
theorem tX7_takeBoard_40 {p : Program} {l : Launch} {e : Env} {s : State} {m : MethodId} {args : Array Value} {below : List Frame} {meth : Method} {c : Code} {D : va_G} {cy : Nat → ClassId} {B : Bs} (C : Cx p s m args c cX7_takeBoard 1 RX7 D cy B) (hr : meth.sig.returnType = (some .boolean)) (hlocks : meth.locks = false) {N : Nat} {g : Gs} {x0 : Nat} {vz : Int32} {dz : Ds} {d : Ds} (hf : fX7_takeBoard_J40 N g x0 d = some (vz, dz)) : WB p l e rmX7_takeBoard s m args below meth c 1 D cy B 0 0 (MQ below (QI D cy B vz g dz) args s 0 0 (wA B)) g d [(0, .ref (ad B x0))] 40 [] := by
  unfold fX7_takeBoard_J40 at hf
  refine b_iconst C (v := 0) dX7_takeBoard_40 (by decide) ?_
  exact b_zret C hr hlocks (by decide) hf dX7_takeBoard_41
set_option maxRecDepth 100000 in
def fX7_takeBoard (N : Nat) (g : Gs) (x0 : Nat) (d : Ds) : Option (Int32 × Ds) := gd (chk g x0 7) <| ob (gR g x0 0) fun r2 => (gd (chk g r2 8) <| cb (fX8_wordAt N g r2 (dI d x0 3) d) fun u6 d4 => (gd (wkb u6) <| gd (wkb (some 100000)) <| if u6 = (some 100000) then (cb (fX7_takeToken N g x0 1 d4) fun u12 d10 => (if u12 = 0 then (fX7_takeBoard_J40 N g x0 d10) else (cb (fX7_takeNumber N g x0 1 4 d10) fun u16 d14 => (if u16 = 0 then (fX7_takeBoard_J40 N g x0 d14) else (ob (gR g x0 2) fun r18 => (gd (chk g r18 0) <| bd (sI d14 r18 0 (dI d14 x0 4)) fun d20 => (cb (fX7_takeNumber N g x0 1 6 d20) fun u23 d21 => (if u23 = 0 then (some (0, d21)) else (bd (sI d21 r18 1 (dI d21 x0 4)) fun d25 => (cb (fX7_takeToken N g x0 3 d25) fun u28 d26 => (gd (u28 = 0 ∨ u28 = 1) <| some (u28, d26)))))))))))) else (cb (fX7_fail N g x0 1 d4) fun u32 d30 => (gd (u32 = 0 ∨ u32 = 1) <| some (u32, d30)))))
set_option maxHeartbeats 4000000 in
set_option maxRecDepth 100000 in
theorem tX7_takeBoard_E {p : Program} {l : Launch} {e : Env} {s : State} {m : MethodId} {args : Array Value} {below : List Frame} {meth : Method} {c : Code} {D : va_G} {cy : Nat → ClassId} {B : Bs} (C : Cx p s m args c cX7_takeBoard 1 RX7 D cy B) (hr : meth.sig.returnType = (some .boolean)) (hlocks : meth.locks = false) {N : Nat} {g : Gs} {x0 : Nat} {vz : Int32} {dz : Ds} {d : Ds} (hf : fX7_takeBoard N g x0 d = some (vz, dz)) : WB p l e rmX7_takeBoard s m args below meth c 1 D cy B 0 0 (MQ below (QI D cy B vz g dz) args s 0 0 (wA B)) g d [(0, .ref (ad B x0))] 0 [] := by
  unfold fX7_takeBoard at hf
  refine b_aload_n C dX7_takeBoard_0 0 rfl rfl ?_
  obtain ⟨h1, hf⟩ := gd_s hf
  obtain ⟨r2, er2, hf⟩ := ob_s hf
  refine b_gR C dX7_takeBoard_1 fl_X7_12 h1 er2 ?_
  refine b_aload_n C dX7_takeBoard_4 0 rfl rfl ?_
  refine b_gI C dX7_takeBoard_5 fl_X7_39 h1 ?_
  obtain ⟨h3, hf⟩ := gd_s hf
  obtain ⟨u6, d4, k5, hf⟩ := cb_s hf
  refine b_cVQ C [] dX7_takeBoard_8 (kX8_wordAt l D cy B k5) lv_X7_72 ⟨rfl, rfl, Nat.le_of_ble_eq_true rfl, Nat.le_of_ble_eq_true rfl⟩ h3 (by decide) rfl (Nat.le_of_ble_eq_true rfl) ⟨Nat.zero_le _, Nat.zero_le _⟩ rfl ?_
  refine b_getW C (i := 0) (by decide) ws_X7_76 dX7_takeBoard_11 ?_
  obtain ⟨h7, hf⟩ := gd_s hf
  obtain ⟨h8, hf⟩ := gd_s hf
  refine b_acmp_eq C (tgt := 23) (wkb_s h7) (wkb_s h8) dX7_takeBoard_14 (by decide) (fun c9 => ?_) (fun c9 => ?_)
  · have hf := it_s c9 hf
    refine b_aload_n C dX7_takeBoard_23 0 rfl rfl ?_
    refine b_iconst C (v := 1) dX7_takeBoard_24 (by decide) ?_
    obtain ⟨u12, d10, k11, hf⟩ := cb_s hf
    refine b_cVI C [] dX7_takeBoard_25 (kX7_takeToken l D cy B k11) lv_X7_86 ⟨rfl, rfl, Nat.le_of_ble_eq_true rfl, Nat.le_of_ble_eq_true rfl⟩ h1 (by decide) rfl (Nat.le_of_ble_eq_true rfl) ⟨Nat.zero_le _, Nat.zero_le _⟩ rfl ?_
    refine b_if_eq C (tgt := 40) dX7_takeBoard_28 (by decide) (fun c13 => ?_) (fun c13 => ?_)
    · have hf := it_s c13 hf
      refine b_sub [(0, .ref (ad B x0))] [0] rfl ?_
      exact tX7_takeBoard_40 C hr hlocks hf
    · have hf := if_s c13 hf
      refine b_aload_n C dX7_takeBoard_31 0 rfl rfl ?_
      refine b_iconst C (v := 1) dX7_takeBoard_32 (by decide) ?_
      refine b_iconst C (v := 4) dX7_takeBoard_33 (by decide) ?_
      obtain ⟨u16, d14, k15, hf⟩ := cb_s hf
      refine b_cVI C [] dX7_takeBoard_34 (kX7_takeNumber l D cy B k15) lv_X7_89 ⟨rfl, rfl, Nat.le_of_ble_eq_true rfl, Nat.le_of_ble_eq_true rfl⟩ h1 (by decide) rfl (Nat.le_of_ble_eq_true rfl) ⟨Nat.zero_le _, Nat.zero_le _⟩ rfl ?_
      refine b_if_ne C (tgt := 42) dX7_takeBoard_37 (by decide) (fun c17 => ?_) (fun c17 => ?_)
      · have hf := if_s c17 hf
        refine b_aload_n C dX7_takeBoard_42 0 rfl rfl ?_
        obtain ⟨r18, er18, hf⟩ := ob_s hf
        refine b_gR C dX7_takeBoard_43 fl_X7_28 h1 er18 ?_
        refine b_aload_n C dX7_takeBoard_46 0 rfl rfl ?_
        refine b_gI C dX7_takeBoard_47 fl_X7_93 h1 ?_
        obtain ⟨h19, hf⟩ := gd_s hf
        obtain ⟨d20, ed20, hf⟩ := bd_s hf
        refine b_pI C dX7_takeBoard_50 fl_X7_96 fp0_0 h19 ed20 ?_
        refine b_aload_n C dX7_takeBoard_53 0 rfl rfl ?_
        refine b_iconst C (v := 1) dX7_takeBoard_54 (by decide) ?_
        refine b_bipush C (v := 6) dX7_takeBoard_55 (by decide) ?_
        obtain ⟨u23, d21, k22, hf⟩ := cb_s hf
        refine b_cVI C [] dX7_takeBoard_57 (kX7_takeNumber l D cy B k22) lv_X7_89 ⟨rfl, rfl, Nat.le_of_ble_eq_true rfl, Nat.le_of_ble_eq_true rfl⟩ h1 (by decide) rfl (Nat.le_of_ble_eq_true rfl) ⟨Nat.zero_le _, Nat.zero_le _⟩ rfl ?_
        refine b_if_ne C (tgt := 65) dX7_takeBoard_60 (by decide) (fun c24 => ?_) (fun c24 => ?_)
        · have hf := if_s c24 hf
          refine b_aload_n C dX7_takeBoard_65 0 rfl rfl ?_
          refine b_gR C dX7_takeBoard_66 fl_X7_28 h1 er18 ?_
          refine b_aload_n C dX7_takeBoard_69 0 rfl rfl ?_
          refine b_gI C dX7_takeBoard_70 fl_X7_93 h1 ?_
          obtain ⟨d25, ed25, hf⟩ := bd_s hf
          refine b_pI C dX7_takeBoard_73 fl_X7_99 fp0_1 h19 ed25 ?_
          refine b_aload_n C dX7_takeBoard_76 0 rfl rfl ?_
          refine b_iconst C (v := 3) dX7_takeBoard_77 (by decide) ?_
          obtain ⟨u28, d26, k27, hf⟩ := cb_s hf
          refine b_cVI C [] dX7_takeBoard_78 (kX7_takeToken l D cy B k27) lv_X7_86 ⟨rfl, rfl, Nat.le_of_ble_eq_true rfl, Nat.le_of_ble_eq_true rfl⟩ h1 (by decide) rfl (Nat.le_of_ble_eq_true rfl) ⟨Nat.zero_le _, Nat.zero_le _⟩ rfl ?_
          obtain ⟨h29, hf⟩ := gd_s hf
          exact b_zret C hr hlocks h29 hf dX7_takeBoard_81
        · have hf := it_s c24 hf
          refine b_iconst C (v := 0) dX7_takeBoard_63 (by decide) ?_
          exact b_zret C hr hlocks (by decide) hf dX7_takeBoard_64
      · have hf := it_s c17 hf
        refine b_sub [(0, .ref (ad B x0))] [0] rfl ?_
        exact tX7_takeBoard_40 C hr hlocks hf
  · have hf := if_s c9 hf
    refine b_aload_n C dX7_takeBoard_17 0 rfl rfl ?_
    refine b_iconst C (v := 1) dX7_takeBoard_18 (by decide) ?_
    obtain ⟨u32, d30, k31, hf⟩ := cb_s hf
    refine b_cVI C [] dX7_takeBoard_19 (kX7_fail l D cy B k31) lv_X7_82 ⟨rfl, rfl, Nat.le_of_ble_eq_true rfl, Nat.le_of_ble_eq_true rfl⟩ h1 (by decide) rfl (Nat.le_of_ble_eq_true rfl) ⟨Nat.zero_le _, Nat.zero_le _⟩ rfl ?_
    obtain ⟨h33, hf⟩ := gd_s hf
    exact b_zret C hr hlocks h33 hf dX7_takeBoard_22
theorem kX7_takeBoard (l : Launch) (D : va_G) (cy : Nat → ClassId) (B : Bs) {N : Nat} {g : Gs} {x0 : Nat} {vz : Int32} {dz : Ds} {d : Ds} (hf : fX7_takeBoard N g x0 d = some (vz, dz)) : Met l yX7_takeBoard (.code yX7_takeBoard cX7_takeBoard 1 (some .boolean) :: wl) rmX7_takeBoard (PC D cy B [.ref (ad B x0)] g d) (QI D cy B vz g dz) 0 0 (wA B) :=
  met_of (by decide +kernel) (Nat.le_of_ble_eq_true rfl) (fun p e s m args below meth c C hr hlocks _ => b_sub [(0, .ref (ad B x0))] [0] rfl (tX7_takeBoard_E C hr hlocks hf))
/-! KeyMatrix$TextReader.takeDeed()Z -/
theorem wf_X7_233 : Cond.fieldLinkNest RX7 233 "KeyMatrix$Word" (wfn 2) (wfd 2) "KeyMatrix" ∈ lw_tbl := mT7 (List.mem_of_getElem? (i := 53) (by decide +kernel))
theorem fl_X7_21 : FLR RX7 21 7 1 := ⟨⟨RX7, TX7, 10, rfl, by decide, inl7, Or.inl (mW (mT1 (List.mem_of_getElem? (i := 206) (by decide +kernel))) rfl)⟩, by decide, by decide +kernel⟩
theorem lv_X7_236 : LV RX7 236 yX2_tell cX2_tell 4 none 3 2 := ⟨⟨(RX2, TX2, 3), rfl, rfl⟩, yo_X2_tell, mW (mT3 (List.mem_of_getElem? (i := 181) (by decide +kernel))) rfl, im_X2_tell, se_X2_tell, in_X2_tell, co_X2_tell⟩
theorem ws_X7_240 : Cond.fieldLink RX7 240 "KeyMatrix$Word" (wnm 15) "LKeyMatrix$Word;" ∈ wl := mW (mT3 (List.mem_of_getElem? (i := 182) (by decide +kernel))) rfl
theorem ws_X7_243 : Cond.fieldLink RX7 243 "KeyMatrix$Word" (wnm 16) "LKeyMatrix$Word;" ∈ wl := mW (mT3 (List.mem_of_getElem? (i := 184) (by decide +kernel))) rfl
theorem wf_X7_146 : Cond.fieldLinkNest RX7 146 "KeyMatrix$Word" (wfn 0) (wfd 0) "KeyMatrix" ∈ lw_tbl := mT7 (List.mem_of_getElem? (i := 51) (by decide +kernel))
theorem wf_X7_149 : Cond.fieldLinkNest RX7 149 "KeyMatrix$Word" (wfn 1) (wfd 1) "KeyMatrix" ∈ lw_tbl := mT7 (List.mem_of_getElem? (i := 52) (by decide +kernel))
theorem fl_X7_246 : FLI RX7 246 2 1 := ⟨⟨RX2, TX2, 3, rfl, by decide, inl2, Or.inr (mT1 (List.mem_of_getElem? (i := 79) (by decide +kernel)))⟩, by decide, by decide +kernel⟩
theorem ws_X7_249 : Cond.fieldLink RX7 249 "KeyMatrix$Word" (wnm 17) "LKeyMatrix$Word;" ∈ wl := mW (mT3 (List.mem_of_getElem? (i := 186) (by decide +kernel))) rfl
theorem ws_X7_258 : Cond.fieldLink RX7 258 "KeyMatrix$Word" (wnm 18) "LKeyMatrix$Word;" ∈ wl := mW (mT3 (List.mem_of_getElem? (i := 192) (by decide +kernel))) rfl
theorem fl_X7_261 : FLI RX7 261 2 2 := ⟨⟨RX2, TX2, 3, rfl, by decide, inl2, Or.inr (mT1 (List.mem_of_getElem? (i := 83) (by decide +kernel)))⟩, by decide, by decide +kernel⟩
theorem ws_X7_252 : Cond.fieldLink RX7 252 "KeyMatrix$Word" (wnm 13) "LKeyMatrix$Word;" ∈ wl := mW (mT3 (List.mem_of_getElem? (i := 188) (by decide +kernel))) rfl
theorem fl_X7_255 : FLI RX7 255 2 0 := ⟨⟨RX2, TX2, 3, rfl, by decide, inl2, Or.inr (mT1 (List.mem_of_getElem? (i := 75) (by decide +kernel)))⟩, by decide, by decide +kernel⟩
theorem ws_X7_206 : Cond.fieldLink RX7 206 "KeyMatrix$Word" (wnm 12) "LKeyMatrix$Word;" ∈ wl := mW (mT3 (List.mem_of_getElem? (i := 190) (by decide +kernel))) rfl
theorem dX7_takeDeed_0 : decode cX7_takeDeed 0 = .ok (.aload_n 0, 1) := by decide +kernel
theorem dX7_takeDeed_1 : decode cX7_takeDeed 1 = .ok (.getfield 12, 3) := by decide +kernel
theorem dX7_takeDeed_4 : decode cX7_takeDeed 4 = .ok (.aload_n 0, 1) := by decide +kernel
theorem dX7_takeDeed_5 : decode cX7_takeDeed 5 = .ok (.getfield 39, 3) := by decide +kernel
theorem dX7_takeDeed_8 : decode cX7_takeDeed 8 = .ok (.invokevirtual 72, 3) := by decide +kernel
theorem dX7_takeDeed_11 : decode cX7_takeDeed 11 = .ok (.astore_n 1, 1) := by decide +kernel
theorem dX7_takeDeed_12 : decode cX7_takeDeed 12 = .ok (.aload_n 1, 1) := by decide +kernel
theorem dX7_takeDeed_13 : decode cX7_takeDeed 13 = .ok (.ifnull 11, 3) := by decide +kernel
theorem dX7_takeDeed_16 : decode cX7_takeDeed 16 = .ok (.aload_n 1, 1) := by decide +kernel
theorem dX7_takeDeed_17 : decode cX7_takeDeed 17 = .ok (.getfield 233, 3) := by decide +kernel
theorem dX7_takeDeed_20 : decode cX7_takeDeed 20 = .ok (.iconst (-1), 1) := by decide +kernel
theorem dX7_takeDeed_21 : decode cX7_takeDeed 21 = .ok (.if_icmp .ne 9, 3) := by decide +kernel
theorem dX7_takeDeed_24 : decode cX7_takeDeed 24 = .ok (.aload_n 0, 1) := by decide +kernel
theorem dX7_takeDeed_25 : decode cX7_takeDeed 25 = .ok (.iconst 1, 1) := by decide +kernel
theorem dX7_takeDeed_26 : decode cX7_takeDeed 26 = .ok (.invokevirtual 82, 3) := by decide +kernel
theorem dX7_takeDeed_29 : decode cX7_takeDeed 29 = .ok (.ireturn, 1) := by decide +kernel
theorem dX7_takeDeed_30 : decode cX7_takeDeed 30 = .ok (.aload_n 0, 1) := by decide +kernel
theorem dX7_takeDeed_31 : decode cX7_takeDeed 31 = .ok (.iconst 1, 1) := by decide +kernel
theorem dX7_takeDeed_32 : decode cX7_takeDeed 32 = .ok (.invokevirtual 86, 3) := by decide +kernel
theorem dX7_takeDeed_35 : decode cX7_takeDeed 35 = .ok (.ifCond .ne 5, 3) := by decide +kernel
theorem dX7_takeDeed_38 : decode cX7_takeDeed 38 = .ok (.iconst 0, 1) := by decide +kernel
theorem dX7_takeDeed_39 : decode cX7_takeDeed 39 = .ok (.ireturn, 1) := by decide +kernel
theorem dX7_takeDeed_40 : decode cX7_takeDeed 40 = .ok (.aload_n 0, 1) := by decide +kernel
theorem dX7_takeDeed_41 : decode cX7_takeDeed 41 = .ok (.getfield 21, 3) := by decide +kernel
theorem dX7_takeDeed_44 : decode cX7_takeDeed 44 = .ok (.aload_n 1, 1) := by decide +kernel
theorem dX7_takeDeed_45 : decode cX7_takeDeed 45 = .ok (.getfield 233, 3) := by decide +kernel
theorem dX7_takeDeed_48 : decode cX7_takeDeed 48 = .ok (.iconst (-1), 1) := by decide +kernel
theorem dX7_takeDeed_49 : decode cX7_takeDeed 49 = .ok (.iconst (-1), 1) := by decide +kernel
theorem dX7_takeDeed_50 : decode cX7_takeDeed 50 = .ok (.invokevirtual 236, 3) := by decide +kernel
theorem dX7_takeDeed_53 : decode cX7_takeDeed 53 = .ok (.aload_n 1, 1) := by decide +kernel
theorem dX7_takeDeed_54 : decode cX7_takeDeed 54 = .ok (.getstatic 240, 3) := by decide +kernel
theorem dX7_takeDeed_57 : decode cX7_takeDeed 57 = .ok (.if_acmp .eq 10, 3) := by decide +kernel
theorem dX7_takeDeed_60 : decode cX7_takeDeed 60 = .ok (.aload_n 1, 1) := by decide +kernel
theorem dX7_takeDeed_61 : decode cX7_takeDeed 61 = .ok (.getstatic 243, 3) := by decide +kernel
theorem dX7_takeDeed_64 : decode cX7_takeDeed 64 = .ok (.if_acmp .ne 5, 3) := by decide +kernel
theorem dX7_takeDeed_67 : decode cX7_takeDeed 67 = .ok (.iconst 1, 1) := by decide +kernel
theorem dX7_takeDeed_68 : decode cX7_takeDeed 68 = .ok (.ireturn, 1) := by decide +kernel
theorem dX7_takeDeed_69 : decode cX7_takeDeed 69 = .ok (.aload_n 0, 1) := by decide +kernel
theorem dX7_takeDeed_70 : decode cX7_takeDeed 70 = .ok (.aload_n 1, 1) := by decide +kernel
theorem dX7_takeDeed_71 : decode cX7_takeDeed 71 = .ok (.getfield 146, 3) := by decide +kernel
theorem dX7_takeDeed_74 : decode cX7_takeDeed 74 = .ok (.aload_n 1, 1) := by decide +kernel
theorem dX7_takeDeed_75 : decode cX7_takeDeed 75 = .ok (.getfield 149, 3) := by decide +kernel
theorem dX7_takeDeed_78 : decode cX7_takeDeed 78 = .ok (.invokevirtual 89, 3) := by decide +kernel
theorem dX7_takeDeed_81 : decode cX7_takeDeed 81 = .ok (.ifCond .ne 5, 3) := by decide +kernel
theorem dX7_takeDeed_84 : decode cX7_takeDeed 84 = .ok (.iconst 0, 1) := by decide +kernel
theorem dX7_takeDeed_85 : decode cX7_takeDeed 85 = .ok (.ireturn, 1) := by decide +kernel
theorem dX7_takeDeed_86 : decode cX7_takeDeed 86 = .ok (.aload_n 0, 1) := by decide +kernel
theorem dX7_takeDeed_87 : decode cX7_takeDeed 87 = .ok (.getfield 21, 3) := by decide +kernel
theorem dX7_takeDeed_90 : decode cX7_takeDeed 90 = .ok (.aload_n 0, 1) := by decide +kernel
theorem dX7_takeDeed_91 : decode cX7_takeDeed 91 = .ok (.getfield 93, 3) := by decide +kernel
theorem dX7_takeDeed_94 : decode cX7_takeDeed 94 = .ok (.putfield 246, 3) := by decide +kernel
theorem dX7_takeDeed_97 : decode cX7_takeDeed 97 = .ok (.aload_n 1, 1) := by decide +kernel
theorem dX7_takeDeed_98 : decode cX7_takeDeed 98 = .ok (.astore_n 2, 1) := by decide +kernel
theorem dX7_takeDeed_99 : decode cX7_takeDeed 99 = .ok (.aload_n 1, 1) := by decide +kernel
theorem dX7_takeDeed_100 : decode cX7_takeDeed 100 = .ok (.getstatic 249, 3) := by decide +kernel
theorem dX7_takeDeed_103 : decode cX7_takeDeed 103 = .ok (.if_acmp .ne 69, 3) := by decide +kernel
theorem dX7_takeDeed_106 : decode cX7_takeDeed 106 = .ok (.aload_n 0, 1) := by decide +kernel
theorem dX7_takeDeed_107 : decode cX7_takeDeed 107 = .ok (.getfield 12, 3) := by decide +kernel
theorem dX7_takeDeed_110 : decode cX7_takeDeed 110 = .ok (.aload_n 0, 1) := by decide +kernel
theorem dX7_takeDeed_111 : decode cX7_takeDeed 111 = .ok (.getfield 39, 3) := by decide +kernel
theorem dX7_takeDeed_114 : decode cX7_takeDeed 114 = .ok (.invokevirtual 72, 3) := by decide +kernel
theorem dX7_takeDeed_117 : decode cX7_takeDeed 117 = .ok (.astore_n 2, 1) := by decide +kernel
theorem dX7_takeDeed_118 : decode cX7_takeDeed 118 = .ok (.aload_n 2, 1) := by decide +kernel
theorem dX7_takeDeed_119 : decode cX7_takeDeed 119 = .ok (.getstatic 252, 3) := by decide +kernel
theorem dX7_takeDeed_122 : decode cX7_takeDeed 122 = .ok (.if_acmp .eq 16, 3) := by decide +kernel
theorem dX7_takeDeed_125 : decode cX7_takeDeed 125 = .ok (.aload_n 2, 1) := by decide +kernel
theorem dX7_takeDeed_126 : decode cX7_takeDeed 126 = .ok (.getstatic 206, 3) := by decide +kernel
theorem dX7_takeDeed_129 : decode cX7_takeDeed 129 = .ok (.if_acmp .eq 9, 3) := by decide +kernel
theorem dX7_takeDeed_132 : decode cX7_takeDeed 132 = .ok (.aload_n 0, 1) := by decide +kernel
theorem dX7_takeDeed_133 : decode cX7_takeDeed 133 = .ok (.iconst 1, 1) := by decide +kernel
theorem dX7_takeDeed_134 : decode cX7_takeDeed 134 = .ok (.invokevirtual 82, 3) := by decide +kernel
theorem dX7_takeDeed_137 : decode cX7_takeDeed 137 = .ok (.ireturn, 1) := by decide +kernel
theorem dX7_takeDeed_138 : decode cX7_takeDeed 138 = .ok (.aload_n 0, 1) := by decide +kernel
theorem dX7_takeDeed_139 : decode cX7_takeDeed 139 = .ok (.iconst 1, 1) := by decide +kernel
theorem dX7_takeDeed_140 : decode cX7_takeDeed 140 = .ok (.invokevirtual 86, 3) := by decide +kernel
theorem dX7_takeDeed_143 : decode cX7_takeDeed 143 = .ok (.ifCond .ne 5, 3) := by decide +kernel
theorem dX7_takeDeed_146 : decode cX7_takeDeed 146 = .ok (.iconst 0, 1) := by decide +kernel
theorem dX7_takeDeed_147 : decode cX7_takeDeed 147 = .ok (.ireturn, 1) := by decide +kernel
theorem dX7_takeDeed_148 : decode cX7_takeDeed 148 = .ok (.aload_n 0, 1) := by decide +kernel
theorem dX7_takeDeed_149 : decode cX7_takeDeed 149 = .ok (.getfield 21, 3) := by decide +kernel
theorem dX7_takeDeed_152 : decode cX7_takeDeed 152 = .ok (.aload_n 2, 1) := by decide +kernel
theorem dX7_takeDeed_153 : decode cX7_takeDeed 153 = .ok (.getstatic 252, 3) := by decide +kernel
theorem dX7_takeDeed_156 : decode cX7_takeDeed 156 = .ok (.if_acmp .ne 8, 3) := by decide +kernel
theorem dX7_takeDeed_159 : decode cX7_takeDeed 159 = .ok (.bipush 6, 2) := by decide +kernel
theorem dX7_takeDeed_161 : decode cX7_takeDeed 161 = .ok (.goto 5, 3) := by decide +kernel
theorem dX7_takeDeed_164 : decode cX7_takeDeed 164 = .ok (.bipush 7, 2) := by decide +kernel
theorem dX7_takeDeed_166 : decode cX7_takeDeed 166 = .ok (.putfield 255, 3) := by decide +kernel
theorem dX7_takeDeed_169 : decode cX7_takeDeed 169 = .ok (.goto 12, 3) := by decide +kernel
theorem dX7_takeDeed_172 : decode cX7_takeDeed 172 = .ok (.aload_n 1, 1) := by decide +kernel
theorem dX7_takeDeed_173 : decode cX7_takeDeed 173 = .ok (.getstatic 258, 3) := by decide +kernel
theorem dX7_takeDeed_176 : decode cX7_takeDeed 176 = .ok (.if_acmp .eq 5, 3) := by decide +kernel
theorem dX7_takeDeed_179 : decode cX7_takeDeed 179 = .ok (.iconst 1, 1) := by decide +kernel
theorem dX7_takeDeed_180 : decode cX7_takeDeed 180 = .ok (.ireturn, 1) := by decide +kernel
theorem dX7_takeDeed_181 : decode cX7_takeDeed 181 = .ok (.aload_n 0, 1) := by decide +kernel
theorem dX7_takeDeed_182 : decode cX7_takeDeed 182 = .ok (.aload_n 2, 1) := by decide +kernel
theorem dX7_takeDeed_183 : decode cX7_takeDeed 183 = .ok (.getfield 146, 3) := by decide +kernel
theorem dX7_takeDeed_186 : decode cX7_takeDeed 186 = .ok (.aload_n 2, 1) := by decide +kernel
theorem dX7_takeDeed_187 : decode cX7_takeDeed 187 = .ok (.getfield 149, 3) := by decide +kernel
theorem dX7_takeDeed_190 : decode cX7_takeDeed 190 = .ok (.invokevirtual 89, 3) := by decide +kernel
theorem dX7_takeDeed_193 : decode cX7_takeDeed 193 = .ok (.ifCond .ne 5, 3) := by decide +kernel
theorem dX7_takeDeed_196 : decode cX7_takeDeed 196 = .ok (.iconst 0, 1) := by decide +kernel
theorem dX7_takeDeed_197 : decode cX7_takeDeed 197 = .ok (.ireturn, 1) := by decide +kernel
theorem dX7_takeDeed_198 : decode cX7_takeDeed 198 = .ok (.aload_n 0, 1) := by decide +kernel
theorem dX7_takeDeed_199 : decode cX7_takeDeed 199 = .ok (.getfield 21, 3) := by decide +kernel
theorem dX7_takeDeed_202 : decode cX7_takeDeed 202 = .ok (.aload_n 0, 1) := by decide +kernel
theorem dX7_takeDeed_203 : decode cX7_takeDeed 203 = .ok (.getfield 93, 3) := by decide +kernel
theorem dX7_takeDeed_206 : decode cX7_takeDeed 206 = .ok (.putfield 261, 3) := by decide +kernel
theorem dX7_takeDeed_209 : decode cX7_takeDeed 209 = .ok (.iconst 1, 1) := by decide +kernel
theorem dX7_takeDeed_210 : decode cX7_takeDeed 210 = .ok (.ireturn, 1) := by decide +kernel
def rmX7_takeDeed : Room := { frames := 3, cells := 0, slots := 0, locals := 64 }
set_option maxRecDepth 100000 in
def fX7_takeDeed_J24 (N : Nat) (g : Gs) (x0 : Nat) (d : Ds) : Option (Int32 × Ds) := gd (chk g x0 7) <| cb (fX7_fail N g x0 1 d) fun u11 d9 => (gd (u11 = 0 ∨ u11 = 1) <| some (u11, d9))
set_option maxHeartbeats 4000000 in
set_option maxRecDepth 100000 in
theorem tX7_takeDeed_24 {p : Program} {l : Launch} {e : Env} {s : State} {m : MethodId} {args : Array Value} {below : List Frame} {meth : Method} {c : Code} {D : va_G} {cy : Nat → ClassId} {B : Bs} (C : Cx p s m args c cX7_takeDeed 3 RX7 D cy B) (hr : meth.sig.returnType = (some .boolean)) (hlocks : meth.locks = false) {N : Nat} {g : Gs} {x0 : Nat} {vz : Int32} {dz : Ds} {d : Ds} (hf : fX7_takeDeed_J24 N g x0 d = some (vz, dz)) : WB p l e rmX7_takeDeed s m args below meth c 3 D cy B 0 0 (MQ below (QI D cy B vz g dz) args s 0 0 (wA B)) g d [(0, .ref (ad B x0))] 24 [] := by
  unfold fX7_takeDeed_J24 at hf
  refine b_aload_n C dX7_takeDeed_24 0 rfl rfl ?_
  refine b_iconst C (v := 1) dX7_takeDeed_25 (by decide) ?_
  obtain ⟨h8, hf⟩ := gd_s hf
  obtain ⟨u11, d9, k10, hf⟩ := cb_s hf
  refine b_cVI C [] dX7_takeDeed_26 (kX7_fail l D cy B k10) lv_X7_82 ⟨rfl, rfl, Nat.le_of_ble_eq_true rfl, Nat.le_of_ble_eq_true rfl⟩ h8 (by decide) rfl (Nat.le_of_ble_eq_true rfl) ⟨Nat.zero_le _, Nat.zero_le _⟩ rfl ?_
  obtain ⟨h12, hf⟩ := gd_s hf
  exact b_zret C hr hlocks h12 hf dX7_takeDeed_29
set_option maxRecDepth 100000 in
def fX7_takeDeed_J67 (N : Nat) (g : Gs) (x0 : Nat) (d : Ds) : Option (Int32 × Ds) := some (1, d)
set_option maxHeartbeats 4000000 in
set_option maxRecDepth 100000 in
theorem tX7_takeDeed_67 {p : Program} {l : Launch} {e : Env} {s : State} {m : MethodId} {args : Array Value} {below : List Frame} {meth : Method} {c : Code} {D : va_G} {cy : Nat → ClassId} {B : Bs} (C : Cx p s m args c cX7_takeDeed 3 RX7 D cy B) (hr : meth.sig.returnType = (some .boolean)) (hlocks : meth.locks = false) {N : Nat} {g : Gs} {x0 : Nat} {vz : Int32} {dz : Ds} {d : Ds} (hf : fX7_takeDeed_J67 N g x0 d = some (vz, dz)) : WB p l e rmX7_takeDeed s m args below meth c 3 D cy B 0 0 (MQ below (QI D cy B vz g dz) args s 0 0 (wA B)) g d [(0, .ref (ad B x0))] 67 [] := by
  unfold fX7_takeDeed_J67 at hf
  refine b_iconst C (v := 1) dX7_takeDeed_67 (by decide) ?_
  exact b_zret C hr hlocks (by decide) hf dX7_takeDeed_68
set_option maxRecDepth 100000 in
def fX7_takeDeed_J181 (N : Nat) (g : Gs) (x0 : Nat) (y2 : Option Nat) (d : Ds) : Option (Int32 × Ds) := ob y2 fun r38 => (gd (100000 ≤ r38 ∧ r38 < 100020) <| gd (chk g x0 7) <| cb (fX7_takeNumber N g x0 (wfv 0 (r38 - 100000)) (wfv 1 (r38 - 100000)) d) fun u43 d41 => (if u43 = 0 then (some (0, d41)) else (ob (gR g x0 1) fun r45 => (gd (chk g r45 2) <| bd (sI d41 r45 2 (dI d41 x0 4)) fun d47 => (some (1, d47))))))
set_option maxHeartbeats 4000000 in
set_option maxRecDepth 100000 in
theorem tX7_takeDeed_181 {p : Program} {l : Launch} {e : Env} {s : State} {m : MethodId} {args : Array Value} {below : List Frame} {meth : Method} {c : Code} {D : va_G} {cy : Nat → ClassId} {B : Bs} (C : Cx p s m args c cX7_takeDeed 3 RX7 D cy B) (hr : meth.sig.returnType = (some .boolean)) (hlocks : meth.locks = false) {N : Nat} {g : Gs} {x0 : Nat} {vz : Int32} {dz : Ds} {y2 : Option Nat} {d : Ds} (hf : fX7_takeDeed_J181 N g x0 y2 d = some (vz, dz)) : WB p l e rmX7_takeDeed s m args below meth c 3 D cy B 0 0 (MQ below (QI D cy B vz g dz) args s 0 0 (wA B)) g d [(0, .ref (ad B x0)), (2, rv B y2)] 181 [] := by
  unfold fX7_takeDeed_J181 at hf
  refine b_aload_n C dX7_takeDeed_181 0 rfl rfl ?_
  refine b_aload_nQ C dX7_takeDeed_182 1 rfl rfl ?_
  obtain ⟨r38, er38, hf⟩ := ob_s hf
  refine b_some er38 ?_
  obtain ⟨h39, hf⟩ := gd_s hf
  refine b_wfld C (j := 0) h39 (by decide) wf_X7_146 dX7_takeDeed_183 ?_
  refine b_aload_nQ C dX7_takeDeed_186 1 rfl rfl ?_
  refine b_some er38 ?_
  refine b_wfld C (j := 1) h39 (by decide) wf_X7_149 dX7_takeDeed_187 ?_
  obtain ⟨h40, hf⟩ := gd_s hf
  obtain ⟨u43, d41, k42, hf⟩ := cb_s hf
  refine b_cVI C [] dX7_takeDeed_190 (kX7_takeNumber l D cy B k42) lv_X7_89 ⟨rfl, rfl, Nat.le_of_ble_eq_true rfl, Nat.le_of_ble_eq_true rfl⟩ h40 (by decide) rfl (Nat.le_of_ble_eq_true rfl) ⟨Nat.zero_le _, Nat.zero_le _⟩ rfl ?_
  refine b_if_ne C (tgt := 198) dX7_takeDeed_193 (by decide) (fun c44 => ?_) (fun c44 => ?_)
  · have hf := if_s c44 hf
    refine b_aload_n C dX7_takeDeed_198 0 rfl rfl ?_
    obtain ⟨r45, er45, hf⟩ := ob_s hf
    refine b_gR C dX7_takeDeed_199 fl_X7_21 h40 er45 ?_
    refine b_aload_n C dX7_takeDeed_202 0 rfl rfl ?_
    refine b_gI C dX7_takeDeed_203 fl_X7_93 h40 ?_
    obtain ⟨h46, hf⟩ := gd_s hf
    obtain ⟨d47, ed47, hf⟩ := bd_s hf
    refine b_pI C dX7_takeDeed_206 fl_X7_261 fp2_2 h46 ed47 ?_
    refine b_iconst C (v := 1) dX7_takeDeed_209 (by decide) ?_
    exact b_zret C hr hlocks (by decide) hf dX7_takeDeed_210
  · have hf := it_s c44 hf
    refine b_iconst C (v := 0) dX7_takeDeed_196 (by decide) ?_
    exact b_zret C hr hlocks (by decide) hf dX7_takeDeed_197
set_option maxRecDepth 100000 in
def fX7_takeDeed_J166 (N : Nat) (g : Gs) (x0 : Nat) (y2 : Option Nat) (z0 : Int32) (z1 : Nat) (d : Ds) : Option (Int32 × Ds) := gd (chk g z1 2) <| bd (sI d z1 0 z0) fun d64 => (fX7_takeDeed_J181 N g x0 y2 d64)
set_option maxHeartbeats 4000000 in
set_option maxRecDepth 100000 in
theorem tX7_takeDeed_166 {p : Program} {l : Launch} {e : Env} {s : State} {m : MethodId} {args : Array Value} {below : List Frame} {meth : Method} {c : Code} {D : va_G} {cy : Nat → ClassId} {B : Bs} (C : Cx p s m args c cX7_takeDeed 3 RX7 D cy B) (hr : meth.sig.returnType = (some .boolean)) (hlocks : meth.locks = false) {N : Nat} {g : Gs} {x0 : Nat} {vz : Int32} {dz : Ds} {y2 : Option Nat} {z0 : Int32} {z1 : Nat} {d : Ds} (hf : fX7_takeDeed_J166 N g x0 y2 z0 z1 d = some (vz, dz)) : WB p l e rmX7_takeDeed s m args below meth c 3 D cy B 0 0 (MQ below (QI D cy B vz g dz) args s 0 0 (wA B)) g d [(0, .ref (ad B x0)), (2, rv B y2)] 166 [.int z0, .ref (ad B z1)] := by
  unfold fX7_takeDeed_J166 at hf
  obtain ⟨h63, hf⟩ := gd_s hf
  obtain ⟨d64, ed64, hf⟩ := bd_s hf
  refine b_pI C dX7_takeDeed_166 fl_X7_255 fp2_0 h63 ed64 ?_
  refine b_goto C (tgt := 181) dX7_takeDeed_169 (by decide) ?_
  refine b_sub [(0, .ref (ad B x0)), (2, rv B y2)] [0, 1] rfl ?_
  exact tX7_takeDeed_181 C hr hlocks hf
set_option maxRecDepth 100000 in
def fX7_takeDeed_J138 (N : Nat) (g : Gs) (x0 : Nat) (y2 : Option Nat) (d : Ds) : Option (Int32 × Ds) := gd (chk g x0 7) <| cb (fX7_takeToken N g x0 1 d) fun u57 d55 => (if u57 = 0 then (some (0, d55)) else (ob (gR g x0 1) fun r59 => (gd (wkb y2) <| gd (wkb (some 100013)) <| if y2 = (some 100013) then (fX7_takeDeed_J166 N g x0 y2 6 r59 d55) else (fX7_takeDeed_J166 N g x0 y2 7 r59 d55))))
set_option maxHeartbeats 4000000 in
set_option maxRecDepth 100000 in
theorem tX7_takeDeed_138 {p : Program} {l : Launch} {e : Env} {s : State} {m : MethodId} {args : Array Value} {below : List Frame} {meth : Method} {c : Code} {D : va_G} {cy : Nat → ClassId} {B : Bs} (C : Cx p s m args c cX7_takeDeed 3 RX7 D cy B) (hr : meth.sig.returnType = (some .boolean)) (hlocks : meth.locks = false) {N : Nat} {g : Gs} {x0 : Nat} {vz : Int32} {dz : Ds} {y2 : Option Nat} {d : Ds} (hf : fX7_takeDeed_J138 N g x0 y2 d = some (vz, dz)) : WB p l e rmX7_takeDeed s m args below meth c 3 D cy B 0 0 (MQ below (QI D cy B vz g dz) args s 0 0 (wA B)) g d [(0, .ref (ad B x0)), (2, rv B y2)] 138 [] := by
  unfold fX7_takeDeed_J138 at hf
  refine b_aload_n C dX7_takeDeed_138 0 rfl rfl ?_
  refine b_iconst C (v := 1) dX7_takeDeed_139 (by decide) ?_
  obtain ⟨h54, hf⟩ := gd_s hf
  obtain ⟨u57, d55, k56, hf⟩ := cb_s hf
  refine b_cVI C [] dX7_takeDeed_140 (kX7_takeToken l D cy B k56) lv_X7_86 ⟨rfl, rfl, Nat.le_of_ble_eq_true rfl, Nat.le_of_ble_eq_true rfl⟩ h54 (by decide) rfl (Nat.le_of_ble_eq_true rfl) ⟨Nat.zero_le _, Nat.zero_le _⟩ rfl ?_
  refine b_if_ne C (tgt := 148) dX7_takeDeed_143 (by decide) (fun c58 => ?_) (fun c58 => ?_)
  · have hf := if_s c58 hf
    refine b_aload_n C dX7_takeDeed_148 0 rfl rfl ?_
    obtain ⟨r59, er59, hf⟩ := ob_s hf
    refine b_gR C dX7_takeDeed_149 fl_X7_21 h54 er59 ?_
    refine b_aload_nQ C dX7_takeDeed_152 1 rfl rfl ?_
    refine b_getW C (i := 13) (by decide) ws_X7_252 dX7_takeDeed_153 ?_
    obtain ⟨h60, hf⟩ := gd_s hf
    obtain ⟨h61, hf⟩ := gd_s hf
    refine b_acmp_ne C (tgt := 164) (wkb_s h60) (wkb_s h61) dX7_takeDeed_156 (by decide) (fun c62 => ?_) (fun c62 => ?_)
    · have hf := if_s c62 hf
      refine b_bipush C (v := 7) dX7_takeDeed_164 (by decide) ?_
      refine b_sub [(0, .ref (ad B x0)), (2, rv B y2)] [0, 1] rfl ?_
      exact tX7_takeDeed_166 C hr hlocks hf
    · have hf := it_s c62 hf
      refine b_bipush C (v := 6) dX7_takeDeed_159 (by decide) ?_
      refine b_goto C (tgt := 166) dX7_takeDeed_161 (by decide) ?_
      refine b_sub [(0, .ref (ad B x0)), (2, rv B y2)] [0, 1] rfl ?_
      exact tX7_takeDeed_166 C hr hlocks hf
  · have hf := it_s c58 hf
    refine b_iconst C (v := 0) dX7_takeDeed_146 (by decide) ?_
    exact b_zret C hr hlocks (by decide) hf dX7_takeDeed_147
set_option maxRecDepth 100000 in
def fX7_takeDeed (N : Nat) (g : Gs) (x0 : Nat) (d : Ds) : Option (Int32 × Ds) := gd (chk g x0 7) <| ob (gR g x0 0) fun r2 => (gd (chk g r2 8) <| cb (fX8_wordAt N g r2 (dI d x0 3) d) fun u6 d4 => (if u6 = none then (fX7_takeDeed_J24 N g x0 d4) else (ob u6 fun r13 => (gd (100000 ≤ r13 ∧ r13 < 100020) <| if (wfv 2 (r13 - 100000)) = (-1 : Int32) then (fX7_takeDeed_J24 N g x0 d4) else (cb (fX7_takeToken N g x0 1 d4) fun u18 d16 => (if u18 = 0 then (some (0, d16)) else (ob (gR g x0 1) fun r20 => (gd (chk g r20 2) <| cv (fX2_tell N g r20 (wfv 2 (r13 - 100000)) (-1) (-1) d16) fun d22 => (gd (wkb u6) <| gd (wkb (some 100015)) <| if u6 = (some 100015) then (fX7_takeDeed_J67 N g x0 d22) else (gd (wkb (some 100016)) <| if u6 = (some 100016) then (fX7_takeDeed_J67 N g x0 d22) else (cb (fX7_takeNumber N g x0 (wfv 0 (r13 - 100000)) (wfv 1 (r13 - 100000)) d22) fun u31 d29 => (if u31 = 0 then (some (0, d29)) else (bd (sI d29 r20 1 (dI d29 x0 4)) fun d33 => (gd (wkb (some 100017)) <| if u6 = (some 100017) then (cb (fX8_wordAt N g r2 (dI d33 x0 3) d33) fun u50 d48 => (gd (wkb u50) <| gd (wkb (some 100013)) <| if u50 = (some 100013) then (fX7_takeDeed_J138 N g x0 u50 d48) else (gd (wkb (some 100012)) <| if u50 = (some 100012) then (fX7_takeDeed_J138 N g x0 u50 d48) else (cb (fX7_fail N g x0 1 d48) fun u69 d67 => (gd (u69 = 0 ∨ u69 = 1) <| some (u69, d67)))))) else (gd (wkb (some 100018)) <| if u6 = (some 100018) then (fX7_takeDeed_J181 N g x0 u6 d33) else (some (1, d33)))))))))))))))))
set_option maxHeartbeats 4000000 in
set_option maxRecDepth 100000 in
theorem tX7_takeDeed_E {p : Program} {l : Launch} {e : Env} {s : State} {m : MethodId} {args : Array Value} {below : List Frame} {meth : Method} {c : Code} {D : va_G} {cy : Nat → ClassId} {B : Bs} (C : Cx p s m args c cX7_takeDeed 3 RX7 D cy B) (hr : meth.sig.returnType = (some .boolean)) (hlocks : meth.locks = false) {N : Nat} {g : Gs} {x0 : Nat} {vz : Int32} {dz : Ds} {d : Ds} (hf : fX7_takeDeed N g x0 d = some (vz, dz)) : WB p l e rmX7_takeDeed s m args below meth c 3 D cy B 0 0 (MQ below (QI D cy B vz g dz) args s 0 0 (wA B)) g d [(0, .ref (ad B x0))] 0 [] := by
  unfold fX7_takeDeed at hf
  refine b_aload_n C dX7_takeDeed_0 0 rfl rfl ?_
  obtain ⟨h1, hf⟩ := gd_s hf
  obtain ⟨r2, er2, hf⟩ := ob_s hf
  refine b_gR C dX7_takeDeed_1 fl_X7_12 h1 er2 ?_
  refine b_aload_n C dX7_takeDeed_4 0 rfl rfl ?_
  refine b_gI C dX7_takeDeed_5 fl_X7_39 h1 ?_
  obtain ⟨h3, hf⟩ := gd_s hf
  obtain ⟨u6, d4, k5, hf⟩ := cb_s hf
  refine b_cVQ C [] dX7_takeDeed_8 (kX8_wordAt l D cy B k5) lv_X7_72 ⟨rfl, rfl, Nat.le_of_ble_eq_true rfl, Nat.le_of_ble_eq_true rfl⟩ h3 (by decide) rfl (Nat.le_of_ble_eq_true rfl) ⟨Nat.zero_le _, Nat.zero_le _⟩ rfl ?_
  refine b_astore_nQ C dX7_takeDeed_11 rfl [(1, rv B u6), (0, .ref (ad B x0))] (by decide) rfl ?_
  refine b_aload_nQ C dX7_takeDeed_12 0 rfl rfl ?_
  refine b_ifnull C (tgt := 24) dX7_takeDeed_13 (by decide) (fun c7 => ?_) (fun c7 => ?_)
  · have hf := it_s c7 hf
    refine b_sub [(0, .ref (ad B x0))] [1] rfl ?_
    exact tX7_takeDeed_24 C hr hlocks hf
  · have hf := if_s c7 hf
    refine b_aload_nQ C dX7_takeDeed_16 0 rfl rfl ?_
    obtain ⟨r13, er13, hf⟩ := ob_s hf
    refine b_some er13 ?_
    obtain ⟨h14, hf⟩ := gd_s hf
    refine b_wfld C (j := 2) h14 (by decide) wf_X7_233 dX7_takeDeed_17 ?_
    refine b_iconst C (v := (-1)) dX7_takeDeed_20 (by decide) ?_
    refine b_icmp_ne C (tgt := 30) dX7_takeDeed_21 (by decide) (fun c15 => ?_) (fun c15 => ?_)
    · have hf := if_s c15 hf
      refine b_aload_n C dX7_takeDeed_30 1 rfl rfl ?_
      refine b_iconst C (v := 1) dX7_takeDeed_31 (by decide) ?_
      obtain ⟨u18, d16, k17, hf⟩ := cb_s hf
      refine b_cVI C [] dX7_takeDeed_32 (kX7_takeToken l D cy B k17) lv_X7_86 ⟨rfl, rfl, Nat.le_of_ble_eq_true rfl, Nat.le_of_ble_eq_true rfl⟩ h1 (by decide) rfl (Nat.le_of_ble_eq_true rfl) ⟨Nat.zero_le _, Nat.zero_le _⟩ rfl ?_
      refine b_if_ne C (tgt := 40) dX7_takeDeed_35 (by decide) (fun c19 => ?_) (fun c19 => ?_)
      · have hf := if_s c19 hf
        refine b_aload_n C dX7_takeDeed_40 1 rfl rfl ?_
        obtain ⟨r20, er20, hf⟩ := ob_s hf
        refine b_gR C dX7_takeDeed_41 fl_X7_21 h1 er20 ?_
        refine b_aload_nQ C dX7_takeDeed_44 0 rfl rfl ?_
        refine b_some er13 ?_
        refine b_wfld C (j := 2) h14 (by decide) wf_X7_233 dX7_takeDeed_45 ?_
        refine b_iconst C (v := (-1)) dX7_takeDeed_48 (by decide) ?_
        refine b_iconst C (v := (-1)) dX7_takeDeed_49 (by decide) ?_
        obtain ⟨h21, hf⟩ := gd_s hf
        obtain ⟨d22, k23, hf⟩ := cv_s hf
        refine b_cVN C [] dX7_takeDeed_50 (kX2_tell l D cy B k23) lv_X7_236 ⟨rfl, rfl, Nat.le_of_ble_eq_true rfl, Nat.le_of_ble_eq_true rfl⟩ h21 (by decide) rfl (Nat.le_of_ble_eq_true rfl) ⟨Nat.zero_le _, Nat.zero_le _⟩ rfl ?_
        refine b_aload_nQ C dX7_takeDeed_53 0 rfl rfl ?_
        refine b_getW C (i := 15) (by decide) ws_X7_240 dX7_takeDeed_54 ?_
        obtain ⟨h24, hf⟩ := gd_s hf
        obtain ⟨h25, hf⟩ := gd_s hf
        refine b_acmp_eq C (tgt := 67) (wkb_s h24) (wkb_s h25) dX7_takeDeed_57 (by decide) (fun c26 => ?_) (fun c26 => ?_)
        · have hf := it_s c26 hf
          refine b_sub [(0, .ref (ad B x0))] [1] rfl ?_
          exact tX7_takeDeed_67 C hr hlocks hf
        · have hf := if_s c26 hf
          refine b_aload_nQ C dX7_takeDeed_60 0 rfl rfl ?_
          refine b_getW C (i := 16) (by decide) ws_X7_243 dX7_takeDeed_61 ?_
          obtain ⟨h27, hf⟩ := gd_s hf
          refine b_acmp_ne C (tgt := 69) (wkb_s h24) (wkb_s h27) dX7_takeDeed_64 (by decide) (fun c28 => ?_) (fun c28 => ?_)
          · have hf := if_s c28 hf
            refine b_aload_n C dX7_takeDeed_69 1 rfl rfl ?_
            refine b_aload_nQ C dX7_takeDeed_70 0 rfl rfl ?_
            refine b_some er13 ?_
            refine b_wfld C (j := 0) h14 (by decide) wf_X7_146 dX7_takeDeed_71 ?_
            refine b_aload_nQ C dX7_takeDeed_74 0 rfl rfl ?_
            refine b_some er13 ?_
            refine b_wfld C (j := 1) h14 (by decide) wf_X7_149 dX7_takeDeed_75 ?_
            obtain ⟨u31, d29, k30, hf⟩ := cb_s hf
            refine b_cVI C [] dX7_takeDeed_78 (kX7_takeNumber l D cy B k30) lv_X7_89 ⟨rfl, rfl, Nat.le_of_ble_eq_true rfl, Nat.le_of_ble_eq_true rfl⟩ h1 (by decide) rfl (Nat.le_of_ble_eq_true rfl) ⟨Nat.zero_le _, Nat.zero_le _⟩ rfl ?_
            refine b_if_ne C (tgt := 86) dX7_takeDeed_81 (by decide) (fun c32 => ?_) (fun c32 => ?_)
            · have hf := if_s c32 hf
              refine b_aload_n C dX7_takeDeed_86 1 rfl rfl ?_
              refine b_gR C dX7_takeDeed_87 fl_X7_21 h1 er20 ?_
              refine b_aload_n C dX7_takeDeed_90 1 rfl rfl ?_
              refine b_gI C dX7_takeDeed_91 fl_X7_93 h1 ?_
              obtain ⟨d33, ed33, hf⟩ := bd_s hf
              refine b_pI C dX7_takeDeed_94 fl_X7_246 fp2_1 h21 ed33 ?_
              refine b_aload_nQ C dX7_takeDeed_97 0 rfl rfl ?_
              refine b_astore_nQ C dX7_takeDeed_98 rfl [(2, rv B u6), (1, rv B u6), (0, .ref (ad B x0))] (by decide) (by simp [List.filter, rv_cat1]) ?_
              refine b_aload_nQ C dX7_takeDeed_99 1 rfl rfl ?_
              refine b_getW C (i := 17) (by decide) ws_X7_249 dX7_takeDeed_100 ?_
              obtain ⟨h34, hf⟩ := gd_s hf
              refine b_acmp_ne C (tgt := 172) (wkb_s h24) (wkb_s h34) dX7_takeDeed_103 (by decide) (fun c35 => ?_) (fun c35 => ?_)
              · have hf := if_s c35 hf
                refine b_aload_nQ C dX7_takeDeed_172 1 rfl rfl ?_
                refine b_getW C (i := 18) (by decide) ws_X7_258 dX7_takeDeed_173 ?_
                obtain ⟨h36, hf⟩ := gd_s hf
                refine b_acmp_eq C (tgt := 181) (wkb_s h24) (wkb_s h36) dX7_takeDeed_176 (by decide) (fun c37 => ?_) (fun c37 => ?_)
                · have hf := it_s c37 hf
                  refine b_sub [(0, .ref (ad B x0)), (2, rv B u6)] [2, 0] rfl ?_
                  exact tX7_takeDeed_181 C hr hlocks hf
                · have hf := if_s c37 hf
                  refine b_iconst C (v := 1) dX7_takeDeed_179 (by decide) ?_
                  exact b_zret C hr hlocks (by decide) hf dX7_takeDeed_180
              · have hf := it_s c35 hf
                refine b_aload_n C dX7_takeDeed_106 2 rfl rfl ?_
                refine b_gR C dX7_takeDeed_107 fl_X7_12 h1 er2 ?_
                refine b_aload_n C dX7_takeDeed_110 2 rfl rfl ?_
                refine b_gI C dX7_takeDeed_111 fl_X7_39 h1 ?_
                obtain ⟨u50, d48, k49, hf⟩ := cb_s hf
                refine b_cVQ C [] dX7_takeDeed_114 (kX8_wordAt l D cy B k49) lv_X7_72 ⟨rfl, rfl, Nat.le_of_ble_eq_true rfl, Nat.le_of_ble_eq_true rfl⟩ h3 (by decide) rfl (Nat.le_of_ble_eq_true rfl) ⟨Nat.zero_le _, Nat.zero_le _⟩ rfl ?_
                refine b_astore_nQ C dX7_takeDeed_117 rfl [(2, rv B u50), (1, rv B u6), (0, .ref (ad B x0))] (by decide) (by simp [List.filter, rv_cat1]) ?_
                refine b_aload_nQ C dX7_takeDeed_118 0 rfl rfl ?_
                refine b_getW C (i := 13) (by decide) ws_X7_252 dX7_takeDeed_119 ?_
                obtain ⟨h51, hf⟩ := gd_s hf
                obtain ⟨h52, hf⟩ := gd_s hf
                refine b_acmp_eq C (tgt := 138) (wkb_s h51) (wkb_s h52) dX7_takeDeed_122 (by decide) (fun c53 => ?_) (fun c53 => ?_)
                · have hf := it_s c53 hf
                  refine b_sub [(0, .ref (ad B x0)), (2, rv B u50)] [2, 0] rfl ?_
                  exact tX7_takeDeed_138 C hr hlocks hf
                · have hf := if_s c53 hf
                  refine b_aload_nQ C dX7_takeDeed_125 0 rfl rfl ?_
                  refine b_getW C (i := 12) (by decide) ws_X7_206 dX7_takeDeed_126 ?_
                  obtain ⟨h65, hf⟩ := gd_s hf
                  refine b_acmp_eq C (tgt := 138) (wkb_s h51) (wkb_s h65) dX7_takeDeed_129 (by decide) (fun c66 => ?_) (fun c66 => ?_)
                  · have hf := it_s c66 hf
                    refine b_sub [(0, .ref (ad B x0)), (2, rv B u50)] [2, 0] rfl ?_
                    exact tX7_takeDeed_138 C hr hlocks hf
                  · have hf := if_s c66 hf
                    refine b_aload_n C dX7_takeDeed_132 2 rfl rfl ?_
                    refine b_iconst C (v := 1) dX7_takeDeed_133 (by decide) ?_
                    obtain ⟨u69, d67, k68, hf⟩ := cb_s hf
                    refine b_cVI C [] dX7_takeDeed_134 (kX7_fail l D cy B k68) lv_X7_82 ⟨rfl, rfl, Nat.le_of_ble_eq_true rfl, Nat.le_of_ble_eq_true rfl⟩ h1 (by decide) rfl (Nat.le_of_ble_eq_true rfl) ⟨Nat.zero_le _, Nat.zero_le _⟩ rfl ?_
                    obtain ⟨h70, hf⟩ := gd_s hf
                    exact b_zret C hr hlocks h70 hf dX7_takeDeed_137
            · have hf := it_s c32 hf
              refine b_iconst C (v := 0) dX7_takeDeed_84 (by decide) ?_
              exact b_zret C hr hlocks (by decide) hf dX7_takeDeed_85
          · have hf := it_s c28 hf
            refine b_sub [(0, .ref (ad B x0))] [1] rfl ?_
            exact tX7_takeDeed_67 C hr hlocks hf
      · have hf := it_s c19 hf
        refine b_iconst C (v := 0) dX7_takeDeed_38 (by decide) ?_
        exact b_zret C hr hlocks (by decide) hf dX7_takeDeed_39
    · have hf := it_s c15 hf
      refine b_sub [(0, .ref (ad B x0))] [1] rfl ?_
      exact tX7_takeDeed_24 C hr hlocks hf
theorem kX7_takeDeed (l : Launch) (D : va_G) (cy : Nat → ClassId) (B : Bs) {N : Nat} {g : Gs} {x0 : Nat} {vz : Int32} {dz : Ds} {d : Ds} (hf : fX7_takeDeed N g x0 d = some (vz, dz)) : Met l yX7_takeDeed (.code yX7_takeDeed cX7_takeDeed 3 (some .boolean) :: wl) rmX7_takeDeed (PC D cy B [.ref (ad B x0)] g d) (QI D cy B vz g dz) 0 0 (wA B) :=
  met_of (by decide +kernel) (Nat.le_of_ble_eq_true rfl) (fun p e s m args below meth c C hr hlocks _ => b_sub [(0, .ref (ad B x0))] [0] rfl (tX7_takeDeed_E C hr hlocks hf))
/-! KeyMatrix$TextReader.takeKey()Z -/
theorem ws_X7_130 : Cond.fieldLink RX7 130 "KeyMatrix$Word" (wnm 8) "LKeyMatrix$Word;" ∈ wl := mW (mT3 (List.mem_of_getElem? (i := 163) (by decide +kernel))) rfl
theorem lv_X7_185 : LV RX7 185 yX0_keys cX0_keys 1 (some .int) 0 0 := ⟨⟨(RX0, TX0, 19), rfl, rfl⟩, yo_X0_keys, mW (mT3 (List.mem_of_getElem? (i := 169) (by decide +kernel))) rfl, im_X0_keys, se_X0_keys, in_X0_keys, co_X0_keys⟩
theorem lv_X7_189 : LV RX7 189 yX0_toldDeed cX0_toldDeed 3 (some (.object "KeyMatrix$Deed")) 2 0 := ⟨⟨(RX0, TX0, 19), rfl, rfl⟩, yo_X0_toldDeed, mW (mT3 (List.mem_of_getElem? (i := 173) (by decide +kernel))) rfl, im_X0_toldDeed, se_X0_toldDeed, in_X0_toldDeed, co_X0_toldDeed⟩
theorem yo_X7_takeDeed : yX7_takeDeed.cls ≠ "java/lang/invoke/MethodHandle" ∧ yX7_takeDeed.cls ≠ "java/lang/invoke/VarHandle" ∧ (parseMethodDescriptor yX7_takeDeed.desc).map (fun d => d.parameters.length) = some 0 := by decide +kernel
theorem co_X7_takeDeed : Cond.code yX7_takeDeed cX7_takeDeed 3 (some .boolean) ∈ wl := mW (mT3 (List.mem_of_getElem? (i := 180) (by decide +kernel))) rfl
theorem in_X7_takeDeed : Cond.initialized yX7_takeDeed.cls ∈ wl := mW (mT1 (List.mem_of_getElem? (i := 2) (by decide +kernel))) rfl
theorem im_X7_takeDeed : Cond.instanceMethod yX7_takeDeed ∈ wl := mW (mT3 (List.mem_of_getElem? (i := 179) (by decide +kernel))) rfl
theorem se_X7_takeDeed : Cond.selects yX7_takeDeed.cls yX7_takeDeed yX7_takeDeed ∈ wl := mW (mT0 (List.mem_of_getElem? (i := 12) (by decide +kernel))) rfl
theorem lv_X7_193 : LV RX7 193 yX7_takeDeed cX7_takeDeed 3 (some .boolean) 0 7 := ⟨⟨(RX7, TX7, 10), rfl, rfl⟩, yo_X7_takeDeed, mW (mT3 (List.mem_of_getElem? (i := 177) (by decide +kernel))) rfl, im_X7_takeDeed, se_X7_takeDeed, in_X7_takeDeed, co_X7_takeDeed⟩
theorem lv_X7_196 : LV RX7 196 yX2_copyFrom cX2_copyFrom 2 none 1 2 := ⟨⟨(RX2, TX2, 3), rfl, rfl⟩, yo_X2_copyFrom, mW (mT3 (List.mem_of_getElem? (i := 194) (by decide +kernel))) rfl, im_X2_copyFrom, se_X2_copyFrom, in_X2_copyFrom, co_X2_copyFrom⟩
theorem dX7_takeKey_0 : decode cX7_takeKey 0 = .ok (.aload_n 0, 1) := by decide +kernel
theorem dX7_takeKey_1 : decode cX7_takeKey 1 = .ok (.getstatic 130, 3) := by decide +kernel
theorem dX7_takeKey_4 : decode cX7_takeKey 4 = .ok (.getfield 146, 3) := by decide +kernel
theorem dX7_takeKey_7 : decode cX7_takeKey 7 = .ok (.getstatic 130, 3) := by decide +kernel
theorem dX7_takeKey_10 : decode cX7_takeKey 10 = .ok (.getfield 149, 3) := by decide +kernel
theorem dX7_takeKey_13 : decode cX7_takeKey 13 = .ok (.invokevirtual 89, 3) := by decide +kernel
theorem dX7_takeKey_16 : decode cX7_takeKey 16 = .ok (.ifCond .ne 5, 3) := by decide +kernel
theorem dX7_takeKey_19 : decode cX7_takeKey 19 = .ok (.iconst 0, 1) := by decide +kernel
theorem dX7_takeKey_20 : decode cX7_takeKey 20 = .ok (.ireturn, 1) := by decide +kernel
theorem dX7_takeKey_21 : decode cX7_takeKey 21 = .ok (.aload_n 0, 1) := by decide +kernel
theorem dX7_takeKey_22 : decode cX7_takeKey 22 = .ok (.getfield 93, 3) := by decide +kernel
theorem dX7_takeKey_25 : decode cX7_takeKey 25 = .ok (.istore_n 1, 1) := by decide +kernel
theorem dX7_takeKey_26 : decode cX7_takeKey 26 = .ok (.aload_n 0, 1) := by decide +kernel
theorem dX7_takeKey_27 : decode cX7_takeKey 27 = .ok (.iconst 0, 1) := by decide +kernel
theorem dX7_takeKey_28 : decode cX7_takeKey 28 = .ok (.aload_n 0, 1) := by decide +kernel
theorem dX7_takeKey_29 : decode cX7_takeKey 29 = .ok (.getfield 28, 3) := by decide +kernel
theorem dX7_takeKey_32 : decode cX7_takeKey 32 = .ok (.invokevirtual 185, 3) := by decide +kernel
theorem dX7_takeKey_35 : decode cX7_takeKey 35 = .ok (.iconst 1, 1) := by decide +kernel
theorem dX7_takeKey_36 : decode cX7_takeKey 36 = .ok (.isub, 1) := by decide +kernel
theorem dX7_takeKey_37 : decode cX7_takeKey 37 = .ok (.invokevirtual 89, 3) := by decide +kernel
theorem dX7_takeKey_40 : decode cX7_takeKey 40 = .ok (.ifCond .ne 5, 3) := by decide +kernel
theorem dX7_takeKey_43 : decode cX7_takeKey 43 = .ok (.iconst 0, 1) := by decide +kernel
theorem dX7_takeKey_44 : decode cX7_takeKey 44 = .ok (.ireturn, 1) := by decide +kernel
theorem dX7_takeKey_45 : decode cX7_takeKey 45 = .ok (.aload_n 0, 1) := by decide +kernel
theorem dX7_takeKey_46 : decode cX7_takeKey 46 = .ok (.getfield 28, 3) := by decide +kernel
theorem dX7_takeKey_49 : decode cX7_takeKey 49 = .ok (.iload_n 1, 1) := by decide +kernel
theorem dX7_takeKey_50 : decode cX7_takeKey 50 = .ok (.aload_n 0, 1) := by decide +kernel
theorem dX7_takeKey_51 : decode cX7_takeKey 51 = .ok (.getfield 93, 3) := by decide +kernel
theorem dX7_takeKey_54 : decode cX7_takeKey 54 = .ok (.invokevirtual 189, 3) := by decide +kernel
theorem dX7_takeKey_57 : decode cX7_takeKey 57 = .ok (.astore_n 2, 1) := by decide +kernel
theorem dX7_takeKey_58 : decode cX7_takeKey 58 = .ok (.aload_n 0, 1) := by decide +kernel
theorem dX7_takeKey_59 : decode cX7_takeKey 59 = .ok (.invokevirtual 193, 3) := by decide +kernel
theorem dX7_takeKey_62 : decode cX7_takeKey 62 = .ok (.ifCond .ne 5, 3) := by decide +kernel
theorem dX7_takeKey_65 : decode cX7_takeKey 65 = .ok (.iconst 0, 1) := by decide +kernel
theorem dX7_takeKey_66 : decode cX7_takeKey 66 = .ok (.ireturn, 1) := by decide +kernel
theorem dX7_takeKey_67 : decode cX7_takeKey 67 = .ok (.aload_n 2, 1) := by decide +kernel
theorem dX7_takeKey_68 : decode cX7_takeKey 68 = .ok (.ifnull 11, 3) := by decide +kernel
theorem dX7_takeKey_71 : decode cX7_takeKey 71 = .ok (.aload_n 2, 1) := by decide +kernel
theorem dX7_takeKey_72 : decode cX7_takeKey 72 = .ok (.aload_n 0, 1) := by decide +kernel
theorem dX7_takeKey_73 : decode cX7_takeKey 73 = .ok (.getfield 21, 3) := by decide +kernel
theorem dX7_takeKey_76 : decode cX7_takeKey 76 = .ok (.invokevirtual 196, 3) := by decide +kernel
theorem dX7_takeKey_79 : decode cX7_takeKey 79 = .ok (.iconst 1, 1) := by decide +kernel
theorem dX7_takeKey_80 : decode cX7_takeKey 80 = .ok (.ireturn, 1) := by decide +kernel
def rmX7_takeKey : Room := { frames := 4, cells := 0, slots := 0, locals := 86 }
set_option maxRecDepth 100000 in
def fX7_takeKey_J79 (N : Nat) (g : Gs) (x0 : Nat) (d : Ds) : Option (Int32 × Ds) := some (1, d)
set_option maxHeartbeats 4000000 in
set_option maxRecDepth 100000 in
theorem tX7_takeKey_79 {p : Program} {l : Launch} {e : Env} {s : State} {m : MethodId} {args : Array Value} {below : List Frame} {meth : Method} {c : Code} {D : va_G} {cy : Nat → ClassId} {B : Bs} (C : Cx p s m args c cX7_takeKey 3 RX7 D cy B) (hr : meth.sig.returnType = (some .boolean)) (hlocks : meth.locks = false) {N : Nat} {g : Gs} {x0 : Nat} {vz : Int32} {dz : Ds} {d : Ds} (hf : fX7_takeKey_J79 N g x0 d = some (vz, dz)) : WB p l e rmX7_takeKey s m args below meth c 3 D cy B 0 0 (MQ below (QI D cy B vz g dz) args s 0 0 (wA B)) g d [(0, .ref (ad B x0))] 79 [] := by
  unfold fX7_takeKey_J79 at hf
  refine b_iconst C (v := 1) dX7_takeKey_79 (by decide) ?_
  exact b_zret C hr hlocks (by decide) hf dX7_takeKey_80
set_option maxRecDepth 100000 in
def fX7_takeKey (N : Nat) (g : Gs) (x0 : Nat) (d : Ds) : Option (Int32 × Ds) := gd (100000 ≤ 100008 ∧ 100008 < 100020) <| gd (chk g x0 7) <| cb (fX7_takeNumber N g x0 (wfv 0 (100008 - 100000)) (wfv 1 (100008 - 100000)) d) fun u5 d3 => (if u5 = 0 then (some (0, d3)) else (bd ((dI d3 x0 4)) fun u7 => (ob (gR g x0 2) fun r8 => (gd (chk g r8 0) <| cb (fX0_keys N g r8 d3) fun u12 d10 => (cb (fX7_takeNumber N g x0 0 (u12 - 1) d10) fun u15 d13 => (if u15 = 0 then (some (0, d13)) else (cb (fX0_toldDeed N g r8 u7 (dI d13 x0 4) d13) fun u19 d17 => (cb (fX7_takeDeed N g x0 d17) fun u22 d20 => (if u22 = 0 then (some (0, d20)) else (if u19 = none then (fX7_takeKey_J79 N g x0 d20) else (ob (gR g x0 1) fun r25 => (ob u19 fun r26 => (gd (chk g r26 2) <| cv (fX2_copyFrom N g r26 r25 d20) fun d28 => (fX7_takeKey_J79 N g x0 d28))))))))))))))
set_option maxHeartbeats 4000000 in
set_option maxRecDepth 100000 in
theorem tX7_takeKey_E {p : Program} {l : Launch} {e : Env} {s : State} {m : MethodId} {args : Array Value} {below : List Frame} {meth : Method} {c : Code} {D : va_G} {cy : Nat → ClassId} {B : Bs} (C : Cx p s m args c cX7_takeKey 3 RX7 D cy B) (hr : meth.sig.returnType = (some .boolean)) (hlocks : meth.locks = false) {N : Nat} {g : Gs} {x0 : Nat} {vz : Int32} {dz : Ds} {d : Ds} (hf : fX7_takeKey N g x0 d = some (vz, dz)) : WB p l e rmX7_takeKey s m args below meth c 3 D cy B 0 0 (MQ below (QI D cy B vz g dz) args s 0 0 (wA B)) g d [(0, .ref (ad B x0))] 0 [] := by
  unfold fX7_takeKey at hf
  refine b_aload_n C dX7_takeKey_0 0 rfl rfl ?_
  refine b_getW C (i := 8) (by decide) ws_X7_130 dX7_takeKey_1 ?_
  obtain ⟨h1, hf⟩ := gd_s hf
  refine b_wfld C (j := 0) h1 (by decide) wf_X7_146 dX7_takeKey_4 ?_
  refine b_getW C (i := 8) (by decide) ws_X7_130 dX7_takeKey_7 ?_
  refine b_wfld C (j := 1) h1 (by decide) wf_X7_149 dX7_takeKey_10 ?_
  obtain ⟨h2, hf⟩ := gd_s hf
  obtain ⟨u5, d3, k4, hf⟩ := cb_s hf
  refine b_cVI C [] dX7_takeKey_13 (kX7_takeNumber l D cy B k4) lv_X7_89 ⟨rfl, rfl, Nat.le_of_ble_eq_true rfl, Nat.le_of_ble_eq_true rfl⟩ h2 (by decide) rfl (Nat.le_of_ble_eq_true rfl) ⟨Nat.zero_le _, Nat.zero_le _⟩ rfl ?_
  refine b_if_ne C (tgt := 21) dX7_takeKey_16 (by decide) (fun c6 => ?_) (fun c6 => ?_)
  · have hf := if_s c6 hf
    refine b_aload_n C dX7_takeKey_21 0 rfl rfl ?_
    refine b_gI C dX7_takeKey_22 fl_X7_93 h2 ?_
    obtain ⟨u7, eu7, hf⟩ := bd_s hf
    refine b_topI eu7 ?_
    refine b_istore_n C dX7_takeKey_25 rfl [(1, .int u7), (0, .ref (ad B x0))] (by decide) rfl ?_
    refine b_aload_n C dX7_takeKey_26 1 rfl rfl ?_
    refine b_iconst C (v := 0) dX7_takeKey_27 (by decide) ?_
    refine b_aload_n C dX7_takeKey_28 1 rfl rfl ?_
    obtain ⟨r8, er8, hf⟩ := ob_s hf
    refine b_gR C dX7_takeKey_29 fl_X7_28 h2 er8 ?_
    obtain ⟨h9, hf⟩ := gd_s hf
    obtain ⟨u12, d10, k11, hf⟩ := cb_s hf
    refine b_cVI C [.int 0, .ref (ad B x0)] dX7_takeKey_32 (kX0_keys l D cy B k11) lv_X7_185 ⟨rfl, rfl, Nat.le_of_ble_eq_true rfl, Nat.le_of_ble_eq_true rfl⟩ h9 (by decide) rfl (Nat.le_of_ble_eq_true rfl) ⟨Nat.zero_le _, Nat.zero_le _⟩ rfl ?_
    refine b_iconst C (v := 1) dX7_takeKey_35 (by decide) ?_
    refine b_isub C dX7_takeKey_36 ?_
    obtain ⟨u15, d13, k14, hf⟩ := cb_s hf
    refine b_cVI C [] dX7_takeKey_37 (kX7_takeNumber l D cy B k14) lv_X7_89 ⟨rfl, rfl, Nat.le_of_ble_eq_true rfl, Nat.le_of_ble_eq_true rfl⟩ h2 (by decide) rfl (Nat.le_of_ble_eq_true rfl) ⟨Nat.zero_le _, Nat.zero_le _⟩ rfl ?_
    refine b_if_ne C (tgt := 45) dX7_takeKey_40 (by decide) (fun c16 => ?_) (fun c16 => ?_)
    · have hf := if_s c16 hf
      refine b_aload_n C dX7_takeKey_45 1 rfl rfl ?_
      refine b_gR C dX7_takeKey_46 fl_X7_28 h2 er8 ?_
      refine b_iload_n C dX7_takeKey_49 0 rfl rfl ?_
      refine b_aload_n C dX7_takeKey_50 1 rfl rfl ?_
      refine b_gI C dX7_takeKey_51 fl_X7_93 h2 ?_
      obtain ⟨u19, d17, k18, hf⟩ := cb_s hf
      refine b_cVQ C [] dX7_takeKey_54 (kX0_toldDeed l D cy B k18) lv_X7_189 ⟨rfl, rfl, Nat.le_of_ble_eq_true rfl, Nat.le_of_ble_eq_true rfl⟩ h9 (by decide) rfl (Nat.le_of_ble_eq_true rfl) ⟨Nat.zero_le _, Nat.zero_le _⟩ rfl ?_
      refine b_astore_nQ C dX7_takeKey_57 rfl [(2, rv B u19), (1, .int u7), (0, .ref (ad B x0))] (by decide) rfl ?_
      refine b_aload_n C dX7_takeKey_58 2 rfl rfl ?_
      obtain ⟨u22, d20, k21, hf⟩ := cb_s hf
      refine b_cVI C [] dX7_takeKey_59 (kX7_takeDeed l D cy B k21) lv_X7_193 ⟨rfl, rfl, Nat.le_of_ble_eq_true rfl, Nat.le_of_ble_eq_true rfl⟩ h2 (by decide) rfl (Nat.le_of_ble_eq_true rfl) ⟨Nat.zero_le _, Nat.zero_le _⟩ rfl ?_
      refine b_if_ne C (tgt := 67) dX7_takeKey_62 (by decide) (fun c23 => ?_) (fun c23 => ?_)
      · have hf := if_s c23 hf
        refine b_aload_nQ C dX7_takeKey_67 0 rfl rfl ?_
        refine b_ifnull C (tgt := 79) dX7_takeKey_68 (by decide) (fun c24 => ?_) (fun c24 => ?_)
        · have hf := it_s c24 hf
          refine b_sub [(0, .ref (ad B x0))] [2] rfl ?_
          exact tX7_takeKey_79 C hr hlocks hf
        · have hf := if_s c24 hf
          refine b_aload_nQ C dX7_takeKey_71 0 rfl rfl ?_
          refine b_aload_n C dX7_takeKey_72 2 rfl rfl ?_
          obtain ⟨r25, er25, hf⟩ := ob_s hf
          refine b_gR C dX7_takeKey_73 fl_X7_21 h2 er25 ?_
          obtain ⟨r26, er26, hf⟩ := ob_s hf
          refine b_eq rfl rfl (st1 := [.ref (ad B r25), .ref (ad B r26)]) (by rw [er26]; rfl) ?_
          obtain ⟨h27, hf⟩ := gd_s hf
          obtain ⟨d28, k29, hf⟩ := cv_s hf
          refine b_cVN C [] dX7_takeKey_76 (kX2_copyFrom l D cy B k29) lv_X7_196 ⟨rfl, rfl, Nat.le_of_ble_eq_true rfl, Nat.le_of_ble_eq_true rfl⟩ h27 (by decide) rfl (Nat.le_of_ble_eq_true rfl) ⟨Nat.zero_le _, Nat.zero_le _⟩ rfl ?_
          refine b_sub [(0, .ref (ad B x0))] [2] rfl ?_
          exact tX7_takeKey_79 C hr hlocks hf
      · have hf := it_s c23 hf
        refine b_iconst C (v := 0) dX7_takeKey_65 (by decide) ?_
        exact b_zret C hr hlocks (by decide) hf dX7_takeKey_66
    · have hf := it_s c16 hf
      refine b_iconst C (v := 0) dX7_takeKey_43 (by decide) ?_
      exact b_zret C hr hlocks (by decide) hf dX7_takeKey_44
  · have hf := it_s c6 hf
    refine b_iconst C (v := 0) dX7_takeKey_19 (by decide) ?_
    exact b_zret C hr hlocks (by decide) hf dX7_takeKey_20
theorem kX7_takeKey (l : Launch) (D : va_G) (cy : Nat → ClassId) (B : Bs) {N : Nat} {g : Gs} {x0 : Nat} {vz : Int32} {dz : Ds} {d : Ds} (hf : fX7_takeKey N g x0 d = some (vz, dz)) : Met l yX7_takeKey (.code yX7_takeKey cX7_takeKey 3 (some .boolean) :: wl) rmX7_takeKey (PC D cy B [.ref (ad B x0)] g d) (QI D cy B vz g dz) 0 0 (wA B) :=
  met_of (by decide +kernel) (Nat.le_of_ble_eq_true rfl) (fun p e s m args below meth c C hr hlocks _ => b_sub [(0, .ref (ad B x0))] [0] rfl (tX7_takeKey_E C hr hlocks hf))
/-! KeyMatrix$TextReader.takeChordKey(I)Z -/
theorem lv_X7_223 : LV RX7 223 yX0_chordOf cX0_chordOf 3 (some .int) 1 0 := ⟨⟨(RX0, TX0, 19), rfl, rfl⟩, yo_X0_chordOf, mW (mT3 (List.mem_of_getElem? (i := 207) (by decide +kernel))) rfl, im_X0_chordOf, se_X0_chordOf, in_X0_chordOf, co_X0_chordOf⟩
theorem dX7_takeChordKey_0 : decode cX7_takeChordKey 0 = .ok (.aload_n 0, 1) := by decide +kernel
theorem dX7_takeChordKey_1 : decode cX7_takeChordKey 1 = .ok (.getfield 12, 3) := by decide +kernel
theorem dX7_takeChordKey_4 : decode cX7_takeChordKey 4 = .ok (.aload_n 0, 1) := by decide +kernel
theorem dX7_takeChordKey_5 : decode cX7_takeChordKey 5 = .ok (.getfield 39, 3) := by decide +kernel
theorem dX7_takeChordKey_8 : decode cX7_takeChordKey 8 = .ok (.invokevirtual 220, 3) := by decide +kernel
theorem dX7_takeChordKey_11 : decode cX7_takeChordKey 11 = .ok (.istore_n 2, 1) := by decide +kernel
theorem dX7_takeChordKey_12 : decode cX7_takeChordKey 12 = .ok (.iload_n 2, 1) := by decide +kernel
theorem dX7_takeChordKey_13 : decode cX7_takeChordKey 13 = .ok (.iload_n 1, 1) := by decide +kernel
theorem dX7_takeChordKey_14 : decode cX7_takeChordKey 14 = .ok (.if_icmp .eq 15, 3) := by decide +kernel
theorem dX7_takeChordKey_17 : decode cX7_takeChordKey 17 = .ok (.aload_n 0, 1) := by decide +kernel
theorem dX7_takeChordKey_18 : decode cX7_takeChordKey 18 = .ok (.getfield 28, 3) := by decide +kernel
theorem dX7_takeChordKey_21 : decode cX7_takeChordKey 21 = .ok (.iload_n 2, 1) := by decide +kernel
theorem dX7_takeChordKey_22 : decode cX7_takeChordKey 22 = .ok (.invokevirtual 223, 3) := by decide +kernel
theorem dX7_takeChordKey_25 : decode cX7_takeChordKey 25 = .ok (.iconst (-1), 1) := by decide +kernel
theorem dX7_takeChordKey_26 : decode cX7_takeChordKey 26 = .ok (.if_icmp .eq 12, 3) := by decide +kernel
theorem dX7_takeChordKey_29 : decode cX7_takeChordKey 29 = .ok (.aload_n 0, 1) := by decide +kernel
theorem dX7_takeChordKey_30 : decode cX7_takeChordKey 30 = .ok (.iconst 3, 1) := by decide +kernel
theorem dX7_takeChordKey_31 : decode cX7_takeChordKey 31 = .ok (.aload_n 0, 1) := by decide +kernel
theorem dX7_takeChordKey_32 : decode cX7_takeChordKey 32 = .ok (.getfield 39, 3) := by decide +kernel
theorem dX7_takeChordKey_35 : decode cX7_takeChordKey 35 = .ok (.invokevirtual 212, 3) := by decide +kernel
theorem dX7_takeChordKey_38 : decode cX7_takeChordKey 38 = .ok (.aload_n 0, 1) := by decide +kernel
theorem dX7_takeChordKey_39 : decode cX7_takeChordKey 39 = .ok (.iconst 0, 1) := by decide +kernel
theorem dX7_takeChordKey_40 : decode cX7_takeChordKey 40 = .ok (.aload_n 0, 1) := by decide +kernel
theorem dX7_takeChordKey_41 : decode cX7_takeChordKey 41 = .ok (.getfield 28, 3) := by decide +kernel
theorem dX7_takeChordKey_44 : decode cX7_takeChordKey 44 = .ok (.invokevirtual 185, 3) := by decide +kernel
theorem dX7_takeChordKey_47 : decode cX7_takeChordKey 47 = .ok (.iconst 1, 1) := by decide +kernel
theorem dX7_takeChordKey_48 : decode cX7_takeChordKey 48 = .ok (.isub, 1) := by decide +kernel
theorem dX7_takeChordKey_49 : decode cX7_takeChordKey 49 = .ok (.invokevirtual 89, 3) := by decide +kernel
theorem dX7_takeChordKey_52 : decode cX7_takeChordKey 52 = .ok (.ireturn, 1) := by decide +kernel
def rmX7_takeChordKey : Room := { frames := 3, cells := 0, slots := 0, locals := 64 }
set_option maxRecDepth 100000 in
def fX7_takeChordKey_J38 (N : Nat) (g : Gs) (x0 : Nat) (x1 : Int32) (d : Ds) : Option (Int32 × Ds) := gd (chk g x0 7) <| ob (gR g x0 2) fun r12 => (gd (chk g r12 0) <| cb (fX0_keys N g r12 d) fun u16 d14 => (cb (fX7_takeNumber N g x0 0 (u16 - 1) d14) fun u19 d17 => (gd (u19 = 0 ∨ u19 = 1) <| some (u19, d17))))
set_option maxHeartbeats 4000000 in
set_option maxRecDepth 100000 in
theorem tX7_takeChordKey_38 {p : Program} {l : Launch} {e : Env} {s : State} {m : MethodId} {args : Array Value} {below : List Frame} {meth : Method} {c : Code} {D : va_G} {cy : Nat → ClassId} {B : Bs} (C : Cx p s m args c cX7_takeChordKey 3 RX7 D cy B) (hr : meth.sig.returnType = (some .boolean)) (hlocks : meth.locks = false) {N : Nat} {g : Gs} {x0 : Nat} {x1 : Int32} {vz : Int32} {dz : Ds} {d : Ds} (hf : fX7_takeChordKey_J38 N g x0 x1 d = some (vz, dz)) : WB p l e rmX7_takeChordKey s m args below meth c 3 D cy B 0 0 (MQ below (QI D cy B vz g dz) args s 0 0 (wA B)) g d [(0, .ref (ad B x0)), (1, .int x1)] 38 [] := by
  unfold fX7_takeChordKey_J38 at hf
  refine b_aload_n C dX7_takeChordKey_38 0 rfl rfl ?_
  refine b_iconst C (v := 0) dX7_takeChordKey_39 (by decide) ?_
  refine b_aload_n C dX7_takeChordKey_40 0 rfl rfl ?_
  obtain ⟨h11, hf⟩ := gd_s hf
  obtain ⟨r12, er12, hf⟩ := ob_s hf
  refine b_gR C dX7_takeChordKey_41 fl_X7_28 h11 er12 ?_
  obtain ⟨h13, hf⟩ := gd_s hf
  obtain ⟨u16, d14, k15, hf⟩ := cb_s hf
  refine b_cVI C [.int 0, .ref (ad B x0)] dX7_takeChordKey_44 (kX0_keys l D cy B k15) lv_X7_185 ⟨rfl, rfl, Nat.le_of_ble_eq_true rfl, Nat.le_of_ble_eq_true rfl⟩ h13 (by decide) rfl (Nat.le_of_ble_eq_true rfl) ⟨Nat.zero_le _, Nat.zero_le _⟩ rfl ?_
  refine b_iconst C (v := 1) dX7_takeChordKey_47 (by decide) ?_
  refine b_isub C dX7_takeChordKey_48 ?_
  obtain ⟨u19, d17, k18, hf⟩ := cb_s hf
  refine b_cVI C [] dX7_takeChordKey_49 (kX7_takeNumber l D cy B k18) lv_X7_89 ⟨rfl, rfl, Nat.le_of_ble_eq_true rfl, Nat.le_of_ble_eq_true rfl⟩ h11 (by decide) rfl (Nat.le_of_ble_eq_true rfl) ⟨Nat.zero_le _, Nat.zero_le _⟩ rfl ?_
  obtain ⟨h20, hf⟩ := gd_s hf
  exact b_zret C hr hlocks h20 hf dX7_takeChordKey_52
set_option maxRecDepth 100000 in
def fX7_takeChordKey_J29 (N : Nat) (g : Gs) (x0 : Nat) (x1 : Int32) (d : Ds) : Option (Int32 × Ds) := gd (chk g x0 7) <| cv (fX7_noteLater N g x0 3 (dI d x0 3) d) fun d9 => (fX7_takeChordKey_J38 N g x0 x1 d9)
set_option maxHeartbeats 4000000 in
set_option maxRecDepth 100000 in
theorem tX7_takeChordKey_29 {p : Program} {l : Launch} {e : Env} {s : State} {m : MethodId} {args : Array Value} {below : List Frame} {meth : Method} {c : Code} {D : va_G} {cy : Nat → ClassId} {B : Bs} (C : Cx p s m args c cX7_takeChordKey 3 RX7 D cy B) (hr : meth.sig.returnType = (some .boolean)) (hlocks : meth.locks = false) {N : Nat} {g : Gs} {x0 : Nat} {x1 : Int32} {vz : Int32} {dz : Ds} {d : Ds} (hf : fX7_takeChordKey_J29 N g x0 x1 d = some (vz, dz)) : WB p l e rmX7_takeChordKey s m args below meth c 3 D cy B 0 0 (MQ below (QI D cy B vz g dz) args s 0 0 (wA B)) g d [(0, .ref (ad B x0)), (1, .int x1)] 29 [] := by
  unfold fX7_takeChordKey_J29 at hf
  refine b_aload_n C dX7_takeChordKey_29 0 rfl rfl ?_
  refine b_iconst C (v := 3) dX7_takeChordKey_30 (by decide) ?_
  refine b_aload_n C dX7_takeChordKey_31 0 rfl rfl ?_
  obtain ⟨h8, hf⟩ := gd_s hf
  refine b_gI C dX7_takeChordKey_32 fl_X7_39 h8 ?_
  obtain ⟨d9, k10, hf⟩ := cv_s hf
  refine b_cVN C [] dX7_takeChordKey_35 (kX7_noteLater l D cy B k10) lv_X7_212 ⟨rfl, rfl, Nat.le_of_ble_eq_true rfl, Nat.le_of_ble_eq_true rfl⟩ h8 (by decide) rfl (Nat.le_of_ble_eq_true rfl) ⟨Nat.zero_le _, Nat.zero_le _⟩ rfl ?_
  refine b_sub [(0, .ref (ad B x0)), (1, .int x1)] [0, 1] rfl ?_
  exact tX7_takeChordKey_38 C hr hlocks hf
set_option maxRecDepth 100000 in
def fX7_takeChordKey (N : Nat) (g : Gs) (x0 : Nat) (x1 : Int32) (d : Ds) : Option (Int32 × Ds) := gd (chk g x0 7) <| ob (gR g x0 0) fun r2 => (gd (chk g r2 8) <| cb (fX8_numberAt N g r2 (dI d x0 3) d) fun u6 d4 => (if u6 = x1 then (fX7_takeChordKey_J29 N g x0 x1 d4) else (ob (gR g x0 2) fun r21 => (gd (chk g r21 0) <| cb (fX0_chordOf N g r21 u6 d4) fun u25 d23 => (if u25 = (-1 : Int32) then (fX7_takeChordKey_J38 N g x0 x1 d23) else (fX7_takeChordKey_J29 N g x0 x1 d23))))))
set_option maxHeartbeats 4000000 in
set_option maxRecDepth 100000 in
theorem tX7_takeChordKey_E {p : Program} {l : Launch} {e : Env} {s : State} {m : MethodId} {args : Array Value} {below : List Frame} {meth : Method} {c : Code} {D : va_G} {cy : Nat → ClassId} {B : Bs} (C : Cx p s m args c cX7_takeChordKey 3 RX7 D cy B) (hr : meth.sig.returnType = (some .boolean)) (hlocks : meth.locks = false) {N : Nat} {g : Gs} {x0 : Nat} {x1 : Int32} {vz : Int32} {dz : Ds} {d : Ds} (hf : fX7_takeChordKey N g x0 x1 d = some (vz, dz)) : WB p l e rmX7_takeChordKey s m args below meth c 3 D cy B 0 0 (MQ below (QI D cy B vz g dz) args s 0 0 (wA B)) g d [(0, .ref (ad B x0)), (1, .int x1)] 0 [] := by
  unfold fX7_takeChordKey at hf
  refine b_aload_n C dX7_takeChordKey_0 0 rfl rfl ?_
  obtain ⟨h1, hf⟩ := gd_s hf
  obtain ⟨r2, er2, hf⟩ := ob_s hf
  refine b_gR C dX7_takeChordKey_1 fl_X7_12 h1 er2 ?_
  refine b_aload_n C dX7_takeChordKey_4 0 rfl rfl ?_
  refine b_gI C dX7_takeChordKey_5 fl_X7_39 h1 ?_
  obtain ⟨h3, hf⟩ := gd_s hf
  obtain ⟨u6, d4, k5, hf⟩ := cb_s hf
  refine b_cVI C [] dX7_takeChordKey_8 (kX8_numberAt l D cy B k5) lv_X7_220 ⟨rfl, rfl, Nat.le_of_ble_eq_true rfl, Nat.le_of_ble_eq_true rfl⟩ h3 (by decide) rfl (Nat.le_of_ble_eq_true rfl) ⟨Nat.zero_le _, Nat.zero_le _⟩ rfl ?_
  refine b_istore_n C dX7_takeChordKey_11 rfl [(2, .int u6), (0, .ref (ad B x0)), (1, .int x1)] (by decide) rfl ?_
  refine b_iload_n C dX7_takeChordKey_12 0 rfl rfl ?_
  refine b_iload_n C dX7_takeChordKey_13 2 rfl rfl ?_
  refine b_icmp_eq C (tgt := 29) dX7_takeChordKey_14 (by decide) (fun c7 => ?_) (fun c7 => ?_)
  · have hf := it_s c7 hf
    refine b_sub [(0, .ref (ad B x0)), (1, .int x1)] [1, 2] rfl ?_
    exact tX7_takeChordKey_29 C hr hlocks hf
  · have hf := if_s c7 hf
    refine b_aload_n C dX7_takeChordKey_17 1 rfl rfl ?_
    obtain ⟨r21, er21, hf⟩ := ob_s hf
    refine b_gR C dX7_takeChordKey_18 fl_X7_28 h1 er21 ?_
    refine b_iload_n C dX7_takeChordKey_21 0 rfl rfl ?_
    obtain ⟨h22, hf⟩ := gd_s hf
    obtain ⟨u25, d23, k24, hf⟩ := cb_s hf
    refine b_cVI C [] dX7_takeChordKey_22 (kX0_chordOf l D cy B k24) lv_X7_223 ⟨rfl, rfl, Nat.le_of_ble_eq_true rfl, Nat.le_of_ble_eq_true rfl⟩ h22 (by decide) rfl (Nat.le_of_ble_eq_true rfl) ⟨Nat.zero_le _, Nat.zero_le _⟩ rfl ?_
    refine b_iconst C (v := (-1)) dX7_takeChordKey_25 (by decide) ?_
    refine b_icmp_eq C (tgt := 38) dX7_takeChordKey_26 (by decide) (fun c26 => ?_) (fun c26 => ?_)
    · have hf := it_s c26 hf
      refine b_sub [(0, .ref (ad B x0)), (1, .int x1)] [1, 2] rfl ?_
      exact tX7_takeChordKey_38 C hr hlocks hf
    · have hf := if_s c26 hf
      refine b_sub [(0, .ref (ad B x0)), (1, .int x1)] [1, 2] rfl ?_
      exact tX7_takeChordKey_29 C hr hlocks hf
theorem kX7_takeChordKey (l : Launch) (D : va_G) (cy : Nat → ClassId) (B : Bs) {N : Nat} {g : Gs} {x0 : Nat} {x1 : Int32} {vz : Int32} {dz : Ds} {d : Ds} (hf : fX7_takeChordKey N g x0 x1 d = some (vz, dz)) : Met l yX7_takeChordKey (.code yX7_takeChordKey cX7_takeChordKey 3 (some .boolean) :: wl) rmX7_takeChordKey (PC D cy B [.ref (ad B x0), .int x1] g d) (QI D cy B vz g dz) 0 0 (wA B) :=
  met_of (by decide +kernel) (Nat.le_of_ble_eq_true rfl) (fun p e s m args below meth c C hr hlocks _ => b_sub [(0, .ref (ad B x0)), (1, .int x1)] [0, 1] rfl (tX7_takeChordKey_E C hr hlocks hf))
/-! KeyMatrix$TextReader.takeChord()Z -/
theorem yo_X7_takeChordKey : yX7_takeChordKey.cls ≠ "java/lang/invoke/MethodHandle" ∧ yX7_takeChordKey.cls ≠ "java/lang/invoke/VarHandle" ∧ (parseMethodDescriptor yX7_takeChordKey.desc).map (fun d => d.parameters.length) = some 1 := by decide +kernel
theorem co_X7_takeChordKey : Cond.code yX7_takeChordKey cX7_takeChordKey 3 (some .boolean) ∈ wl := mW (mT3 (List.mem_of_getElem? (i := 206) (by decide +kernel))) rfl
theorem in_X7_takeChordKey : Cond.initialized yX7_takeChordKey.cls ∈ wl := mW (mT1 (List.mem_of_getElem? (i := 2) (by decide +kernel))) rfl
theorem im_X7_takeChordKey : Cond.instanceMethod yX7_takeChordKey ∈ wl := mW (mT3 (List.mem_of_getElem? (i := 205) (by decide +kernel))) rfl
theorem se_X7_takeChordKey : Cond.selects yX7_takeChordKey.cls yX7_takeChordKey yX7_takeChordKey ∈ wl := mW (mT0 (List.mem_of_getElem? (i := 14) (by decide +kernel))) rfl
theorem lv_X7_200 : LV RX7 200 yX7_takeChordKey cX7_takeChordKey 3 (some .boolean) 1 7 := ⟨⟨(RX7, TX7, 10), rfl, rfl⟩, yo_X7_takeChordKey, mW (mT3 (List.mem_of_getElem? (i := 203) (by decide +kernel))) rfl, im_X7_takeChordKey, se_X7_takeChordKey, in_X7_takeChordKey, co_X7_takeChordKey⟩
theorem ws_X7_203 : Cond.fieldLink RX7 203 "KeyMatrix$Word" (wnm 11) "LKeyMatrix$Word;" ∈ wl := mW (mT3 (List.mem_of_getElem? (i := 211) (by decide +kernel))) rfl
theorem yo_X0_addChord : yX0_addChord.cls ≠ "java/lang/invoke/MethodHandle" ∧ yX0_addChord.cls ≠ "java/lang/invoke/VarHandle" ∧ (parseMethodDescriptor yX0_addChord.desc).map (fun d => d.parameters.length) = some 3 := by decide +kernel
theorem co_X0_addChord : Cond.code yX0_addChord cX0_addChord 4 none ∈ wl := mW (mT3 (List.mem_of_getElem? (i := 218) (by decide +kernel))) rfl
theorem in_X0_addChord : Cond.initialized yX0_addChord.cls ∈ wl := mW (mT1 (List.mem_of_getElem? (i := 5) (by decide +kernel))) rfl
theorem im_X0_addChord : Cond.instanceMethod yX0_addChord ∈ wl := mW (mT3 (List.mem_of_getElem? (i := 216) (by decide +kernel))) rfl
theorem se_X0_addChord : Cond.selects yX0_addChord.cls yX0_addChord yX0_addChord ∈ wl := mW (mT3 (List.mem_of_getElem? (i := 217) (by decide +kernel))) rfl
theorem lv_X7_216 : LV RX7 216 yX0_addChord cX0_addChord 4 none 3 0 := ⟨⟨(RX0, TX0, 19), rfl, rfl⟩, yo_X0_addChord, mW (mT3 (List.mem_of_getElem? (i := 215) (by decide +kernel))) rfl, im_X0_addChord, se_X0_addChord, in_X0_addChord, co_X0_addChord⟩
theorem ws_X7_209 : Cond.fieldLink RX7 209 "KeyMatrix$Word" (wnm 19) "LKeyMatrix$Word;" ∈ wl := mW (mT3 (List.mem_of_getElem? (i := 213) (by decide +kernel))) rfl
theorem dX7_takeChord_0 : decode cX7_takeChord 0 = .ok (.aload_n 0, 1) := by decide +kernel
theorem dX7_takeChord_1 : decode cX7_takeChord 1 = .ok (.iconst (-1), 1) := by decide +kernel
theorem dX7_takeChord_2 : decode cX7_takeChord 2 = .ok (.invokevirtual 200, 3) := by decide +kernel
theorem dX7_takeChord_5 : decode cX7_takeChord 5 = .ok (.ifCond .ne 5, 3) := by decide +kernel
theorem dX7_takeChord_8 : decode cX7_takeChord 8 = .ok (.iconst 0, 1) := by decide +kernel
theorem dX7_takeChord_9 : decode cX7_takeChord 9 = .ok (.ireturn, 1) := by decide +kernel
theorem dX7_takeChord_10 : decode cX7_takeChord 10 = .ok (.aload_n 0, 1) := by decide +kernel
theorem dX7_takeChord_11 : decode cX7_takeChord 11 = .ok (.getfield 93, 3) := by decide +kernel
theorem dX7_takeChord_14 : decode cX7_takeChord 14 = .ok (.istore_n 1, 1) := by decide +kernel
theorem dX7_takeChord_15 : decode cX7_takeChord 15 = .ok (.aload_n 0, 1) := by decide +kernel
theorem dX7_takeChord_16 : decode cX7_takeChord 16 = .ok (.iload_n 1, 1) := by decide +kernel
theorem dX7_takeChord_17 : decode cX7_takeChord 17 = .ok (.invokevirtual 200, 3) := by decide +kernel
theorem dX7_takeChord_20 : decode cX7_takeChord 20 = .ok (.ifCond .ne 5, 3) := by decide +kernel
theorem dX7_takeChord_23 : decode cX7_takeChord 23 = .ok (.iconst 0, 1) := by decide +kernel
theorem dX7_takeChord_24 : decode cX7_takeChord 24 = .ok (.ireturn, 1) := by decide +kernel
theorem dX7_takeChord_25 : decode cX7_takeChord 25 = .ok (.aload_n 0, 1) := by decide +kernel
theorem dX7_takeChord_26 : decode cX7_takeChord 26 = .ok (.getfield 93, 3) := by decide +kernel
theorem dX7_takeChord_29 : decode cX7_takeChord 29 = .ok (.istore_n 2, 1) := by decide +kernel
theorem dX7_takeChord_30 : decode cX7_takeChord 30 = .ok (.aload_n 0, 1) := by decide +kernel
theorem dX7_takeChord_31 : decode cX7_takeChord 31 = .ok (.getfield 12, 3) := by decide +kernel
theorem dX7_takeChord_34 : decode cX7_takeChord 34 = .ok (.aload_n 0, 1) := by decide +kernel
theorem dX7_takeChord_35 : decode cX7_takeChord 35 = .ok (.getfield 39, 3) := by decide +kernel
theorem dX7_takeChord_38 : decode cX7_takeChord 38 = .ok (.invokevirtual 72, 3) := by decide +kernel
theorem dX7_takeChord_41 : decode cX7_takeChord 41 = .ok (.astore_n 3, 1) := by decide +kernel
theorem dX7_takeChord_42 : decode cX7_takeChord 42 = .ok (.aload_n 3, 1) := by decide +kernel
theorem dX7_takeChord_43 : decode cX7_takeChord 43 = .ok (.getstatic 203, 3) := by decide +kernel
theorem dX7_takeChord_46 : decode cX7_takeChord 46 = .ok (.if_acmp .eq 26, 3) := by decide +kernel
theorem dX7_takeChord_49 : decode cX7_takeChord 49 = .ok (.aload_n 3, 1) := by decide +kernel
theorem dX7_takeChord_50 : decode cX7_takeChord 50 = .ok (.getstatic 206, 3) := by decide +kernel
theorem dX7_takeChord_53 : decode cX7_takeChord 53 = .ok (.if_acmp .eq 19, 3) := by decide +kernel
theorem dX7_takeChord_56 : decode cX7_takeChord 56 = .ok (.aload_n 3, 1) := by decide +kernel
theorem dX7_takeChord_57 : decode cX7_takeChord 57 = .ok (.getstatic 209, 3) := by decide +kernel
theorem dX7_takeChord_60 : decode cX7_takeChord 60 = .ok (.if_acmp .eq 12, 3) := by decide +kernel
theorem dX7_takeChord_63 : decode cX7_takeChord 63 = .ok (.aload_n 0, 1) := by decide +kernel
theorem dX7_takeChord_64 : decode cX7_takeChord 64 = .ok (.iconst 5, 1) := by decide +kernel
theorem dX7_takeChord_65 : decode cX7_takeChord 65 = .ok (.aload_n 0, 1) := by decide +kernel
theorem dX7_takeChord_66 : decode cX7_takeChord 66 = .ok (.getfield 39, 3) := by decide +kernel
theorem dX7_takeChord_69 : decode cX7_takeChord 69 = .ok (.invokevirtual 212, 3) := by decide +kernel
theorem dX7_takeChord_72 : decode cX7_takeChord 72 = .ok (.aload_n 0, 1) := by decide +kernel
theorem dX7_takeChord_73 : decode cX7_takeChord 73 = .ok (.invokevirtual 193, 3) := by decide +kernel
theorem dX7_takeChord_76 : decode cX7_takeChord 76 = .ok (.ifCond .ne 5, 3) := by decide +kernel
theorem dX7_takeChord_79 : decode cX7_takeChord 79 = .ok (.iconst 0, 1) := by decide +kernel
theorem dX7_takeChord_80 : decode cX7_takeChord 80 = .ok (.ireturn, 1) := by decide +kernel
theorem dX7_takeChord_81 : decode cX7_takeChord 81 = .ok (.aload_n 0, 1) := by decide +kernel
theorem dX7_takeChord_82 : decode cX7_takeChord 82 = .ok (.getfield 28, 3) := by decide +kernel
theorem dX7_takeChord_85 : decode cX7_takeChord 85 = .ok (.iload_n 1, 1) := by decide +kernel
theorem dX7_takeChord_86 : decode cX7_takeChord 86 = .ok (.iload_n 2, 1) := by decide +kernel
theorem dX7_takeChord_87 : decode cX7_takeChord 87 = .ok (.aload_n 0, 1) := by decide +kernel
theorem dX7_takeChord_88 : decode cX7_takeChord 88 = .ok (.getfield 21, 3) := by decide +kernel
theorem dX7_takeChord_91 : decode cX7_takeChord 91 = .ok (.invokevirtual 216, 3) := by decide +kernel
theorem dX7_takeChord_94 : decode cX7_takeChord 94 = .ok (.iconst 1, 1) := by decide +kernel
theorem dX7_takeChord_95 : decode cX7_takeChord 95 = .ok (.ireturn, 1) := by decide +kernel
def rmX7_takeChord : Room := { frames := 4, cells := 0, slots := 0, locals := 86 }
set_option maxRecDepth 100000 in
def fX7_takeChord_J72 (N : Nat) (g : Gs) (x0 : Nat) (y1 : Int32) (y2 : Int32) (d : Ds) : Option (Int32 × Ds) := gd (chk g x0 7) <| cb (fX7_takeDeed N g x0 d) fun u23 d21 => (if u23 = 0 then (some (0, d21)) else (ob (gR g x0 2) fun r25 => (ob (gR g x0 1) fun r26 => (gd (chk g r25 0) <| cv (fX0_addChord N g r25 y1 y2 r26 d21) fun d28 => (some (1, d28))))))
set_option maxHeartbeats 4000000 in
set_option maxRecDepth 100000 in
theorem tX7_takeChord_72 {p : Program} {l : Launch} {e : Env} {s : State} {m : MethodId} {args : Array Value} {below : List Frame} {meth : Method} {c : Code} {D : va_G} {cy : Nat → ClassId} {B : Bs} (C : Cx p s m args c cX7_takeChord 4 RX7 D cy B) (hr : meth.sig.returnType = (some .boolean)) (hlocks : meth.locks = false) {N : Nat} {g : Gs} {x0 : Nat} {vz : Int32} {dz : Ds} {y1 : Int32} {y2 : Int32} {d : Ds} (hf : fX7_takeChord_J72 N g x0 y1 y2 d = some (vz, dz)) : WB p l e rmX7_takeChord s m args below meth c 4 D cy B 0 0 (MQ below (QI D cy B vz g dz) args s 0 0 (wA B)) g d [(0, .ref (ad B x0)), (1, .int y1), (2, .int y2)] 72 [] := by
  unfold fX7_takeChord_J72 at hf
  refine b_aload_n C dX7_takeChord_72 0 rfl rfl ?_
  obtain ⟨h20, hf⟩ := gd_s hf
  obtain ⟨u23, d21, k22, hf⟩ := cb_s hf
  refine b_cVI C [] dX7_takeChord_73 (kX7_takeDeed l D cy B k22) lv_X7_193 ⟨rfl, rfl, Nat.le_of_ble_eq_true rfl, Nat.le_of_ble_eq_true rfl⟩ h20 (by decide) rfl (Nat.le_of_ble_eq_true rfl) ⟨Nat.zero_le _, Nat.zero_le _⟩ rfl ?_
  refine b_if_ne C (tgt := 81) dX7_takeChord_76 (by decide) (fun c24 => ?_) (fun c24 => ?_)
  · have hf := if_s c24 hf
    refine b_aload_n C dX7_takeChord_81 0 rfl rfl ?_
    obtain ⟨r25, er25, hf⟩ := ob_s hf
    refine b_gR C dX7_takeChord_82 fl_X7_28 h20 er25 ?_
    refine b_iload_n C dX7_takeChord_85 1 rfl rfl ?_
    refine b_iload_n C dX7_takeChord_86 2 rfl rfl ?_
    refine b_aload_n C dX7_takeChord_87 0 rfl rfl ?_
    obtain ⟨r26, er26, hf⟩ := ob_s hf
    refine b_gR C dX7_takeChord_88 fl_X7_21 h20 er26 ?_
    obtain ⟨h27, hf⟩ := gd_s hf
    obtain ⟨d28, k29, hf⟩ := cv_s hf
    refine b_cVN C [] dX7_takeChord_91 (kX0_addChord l D cy B k29) lv_X7_216 ⟨rfl, rfl, Nat.le_of_ble_eq_true rfl, Nat.le_of_ble_eq_true rfl⟩ h27 (by decide) rfl (Nat.le_of_ble_eq_true rfl) ⟨Nat.zero_le _, Nat.zero_le _⟩ rfl ?_
    refine b_iconst C (v := 1) dX7_takeChord_94 (by decide) ?_
    exact b_zret C hr hlocks (by decide) hf dX7_takeChord_95
  · have hf := it_s c24 hf
    refine b_iconst C (v := 0) dX7_takeChord_79 (by decide) ?_
    exact b_zret C hr hlocks (by decide) hf dX7_takeChord_80
set_option maxRecDepth 100000 in
def fX7_takeChord (N : Nat) (g : Gs) (x0 : Nat) (d : Ds) : Option (Int32 × Ds) := gd (chk g x0 7) <| cb (fX7_takeChordKey N g x0 (-1) d) fun u4 d2 => (if u4 = 0 then (some (0, d2)) else (bd ((dI d2 x0 4)) fun u6 => (cb (fX7_takeChordKey N g x0 u6 d2) fun u9 d7 => (if u9 = 0 then (some (0, d7)) else (bd ((dI d7 x0 4)) fun u11 => (ob (gR g x0 0) fun r12 => (gd (chk g r12 8) <| cb (fX8_wordAt N g r12 (dI d7 x0 3) d7) fun u16 d14 => (gd (wkb u16) <| gd (wkb (some 100011)) <| if u16 = (some 100011) then (fX7_takeChord_J72 N g x0 u6 u11 d14) else (gd (wkb (some 100012)) <| if u16 = (some 100012) then (fX7_takeChord_J72 N g x0 u6 u11 d14) else (gd (wkb (some 100019)) <| if u16 = (some 100019) then (fX7_takeChord_J72 N g x0 u6 u11 d14) else (cv (fX7_noteLater N g x0 5 (dI d14 x0 3) d14) fun d34 => (fX7_takeChord_J72 N g x0 u6 u11 d34))))))))))))
set_option maxHeartbeats 4000000 in
set_option maxRecDepth 100000 in
theorem tX7_takeChord_E {p : Program} {l : Launch} {e : Env} {s : State} {m : MethodId} {args : Array Value} {below : List Frame} {meth : Method} {c : Code} {D : va_G} {cy : Nat → ClassId} {B : Bs} (C : Cx p s m args c cX7_takeChord 4 RX7 D cy B) (hr : meth.sig.returnType = (some .boolean)) (hlocks : meth.locks = false) {N : Nat} {g : Gs} {x0 : Nat} {vz : Int32} {dz : Ds} {d : Ds} (hf : fX7_takeChord N g x0 d = some (vz, dz)) : WB p l e rmX7_takeChord s m args below meth c 4 D cy B 0 0 (MQ below (QI D cy B vz g dz) args s 0 0 (wA B)) g d [(0, .ref (ad B x0))] 0 [] := by
  unfold fX7_takeChord at hf
  refine b_aload_n C dX7_takeChord_0 0 rfl rfl ?_
  refine b_iconst C (v := (-1)) dX7_takeChord_1 (by decide) ?_
  obtain ⟨h1, hf⟩ := gd_s hf
  obtain ⟨u4, d2, k3, hf⟩ := cb_s hf
  refine b_cVI C [] dX7_takeChord_2 (kX7_takeChordKey l D cy B k3) lv_X7_200 ⟨rfl, rfl, Nat.le_of_ble_eq_true rfl, Nat.le_of_ble_eq_true rfl⟩ h1 (by decide) rfl (Nat.le_of_ble_eq_true rfl) ⟨Nat.zero_le _, Nat.zero_le _⟩ rfl ?_
  refine b_if_ne C (tgt := 10) dX7_takeChord_5 (by decide) (fun c5 => ?_) (fun c5 => ?_)
  · have hf := if_s c5 hf
    refine b_aload_n C dX7_takeChord_10 0 rfl rfl ?_
    refine b_gI C dX7_takeChord_11 fl_X7_93 h1 ?_
    obtain ⟨u6, eu6, hf⟩ := bd_s hf
    refine b_topI eu6 ?_
    refine b_istore_n C dX7_takeChord_14 rfl [(1, .int u6), (0, .ref (ad B x0))] (by decide) rfl ?_
    refine b_aload_n C dX7_takeChord_15 1 rfl rfl ?_
    refine b_iload_n C dX7_takeChord_16 0 rfl rfl ?_
    obtain ⟨u9, d7, k8, hf⟩ := cb_s hf
    refine b_cVI C [] dX7_takeChord_17 (kX7_takeChordKey l D cy B k8) lv_X7_200 ⟨rfl, rfl, Nat.le_of_ble_eq_true rfl, Nat.le_of_ble_eq_true rfl⟩ h1 (by decide) rfl (Nat.le_of_ble_eq_true rfl) ⟨Nat.zero_le _, Nat.zero_le _⟩ rfl ?_
    refine b_if_ne C (tgt := 25) dX7_takeChord_20 (by decide) (fun c10 => ?_) (fun c10 => ?_)
    · have hf := if_s c10 hf
      refine b_aload_n C dX7_takeChord_25 1 rfl rfl ?_
      refine b_gI C dX7_takeChord_26 fl_X7_93 h1 ?_
      obtain ⟨u11, eu11, hf⟩ := bd_s hf
      refine b_topI eu11 ?_
      refine b_istore_n C dX7_takeChord_29 rfl [(2, .int u11), (1, .int u6), (0, .ref (ad B x0))] (by decide) rfl ?_
      refine b_aload_n C dX7_takeChord_30 2 rfl rfl ?_
      obtain ⟨r12, er12, hf⟩ := ob_s hf
      refine b_gR C dX7_takeChord_31 fl_X7_12 h1 er12 ?_
      refine b_aload_n C dX7_takeChord_34 2 rfl rfl ?_
      refine b_gI C dX7_takeChord_35 fl_X7_39 h1 ?_
      obtain ⟨h13, hf⟩ := gd_s hf
      obtain ⟨u16, d14, k15, hf⟩ := cb_s hf
      refine b_cVQ C [] dX7_takeChord_38 (kX8_wordAt l D cy B k15) lv_X7_72 ⟨rfl, rfl, Nat.le_of_ble_eq_true rfl, Nat.le_of_ble_eq_true rfl⟩ h13 (by decide) rfl (Nat.le_of_ble_eq_true rfl) ⟨Nat.zero_le _, Nat.zero_le _⟩ rfl ?_
      refine b_astore_nQ C dX7_takeChord_41 rfl [(3, rv B u16), (2, .int u11), (1, .int u6), (0, .ref (ad B x0))] (by decide) rfl ?_
      refine b_aload_nQ C dX7_takeChord_42 0 rfl rfl ?_
      refine b_getW C (i := 11) (by decide) ws_X7_203 dX7_takeChord_43 ?_
      obtain ⟨h17, hf⟩ := gd_s hf
      obtain ⟨h18, hf⟩ := gd_s hf
      refine b_acmp_eq C (tgt := 72) (wkb_s h17) (wkb_s h18) dX7_takeChord_46 (by decide) (fun c19 => ?_) (fun c19 => ?_)
      · have hf := it_s c19 hf
        refine b_sub [(0, .ref (ad B x0)), (1, .int u6), (2, .int u11)] [3, 2, 1] rfl ?_
        exact tX7_takeChord_72 C hr hlocks hf
      · have hf := if_s c19 hf
        refine b_aload_nQ C dX7_takeChord_49 0 rfl rfl ?_
        refine b_getW C (i := 12) (by decide) ws_X7_206 dX7_takeChord_50 ?_
        obtain ⟨h30, hf⟩ := gd_s hf
        refine b_acmp_eq C (tgt := 72) (wkb_s h17) (wkb_s h30) dX7_takeChord_53 (by decide) (fun c31 => ?_) (fun c31 => ?_)
        · have hf := it_s c31 hf
          refine b_sub [(0, .ref (ad B x0)), (1, .int u6), (2, .int u11)] [3, 2, 1] rfl ?_
          exact tX7_takeChord_72 C hr hlocks hf
        · have hf := if_s c31 hf
          refine b_aload_nQ C dX7_takeChord_56 0 rfl rfl ?_
          refine b_getW C (i := 19) (by decide) ws_X7_209 dX7_takeChord_57 ?_
          obtain ⟨h32, hf⟩ := gd_s hf
          refine b_acmp_eq C (tgt := 72) (wkb_s h17) (wkb_s h32) dX7_takeChord_60 (by decide) (fun c33 => ?_) (fun c33 => ?_)
          · have hf := it_s c33 hf
            refine b_sub [(0, .ref (ad B x0)), (1, .int u6), (2, .int u11)] [3, 2, 1] rfl ?_
            exact tX7_takeChord_72 C hr hlocks hf
          · have hf := if_s c33 hf
            refine b_aload_n C dX7_takeChord_63 3 rfl rfl ?_
            refine b_iconst C (v := 5) dX7_takeChord_64 (by decide) ?_
            refine b_aload_n C dX7_takeChord_65 3 rfl rfl ?_
            refine b_gI C dX7_takeChord_66 fl_X7_39 h1 ?_
            obtain ⟨d34, k35, hf⟩ := cv_s hf
            refine b_cVN C [] dX7_takeChord_69 (kX7_noteLater l D cy B k35) lv_X7_212 ⟨rfl, rfl, Nat.le_of_ble_eq_true rfl, Nat.le_of_ble_eq_true rfl⟩ h1 (by decide) rfl (Nat.le_of_ble_eq_true rfl) ⟨Nat.zero_le _, Nat.zero_le _⟩ rfl ?_
            refine b_sub [(0, .ref (ad B x0)), (1, .int u6), (2, .int u11)] [3, 2, 1] rfl ?_
            exact tX7_takeChord_72 C hr hlocks hf
    · have hf := it_s c10 hf
      refine b_iconst C (v := 0) dX7_takeChord_23 (by decide) ?_
      exact b_zret C hr hlocks (by decide) hf dX7_takeChord_24
  · have hf := it_s c5 hf
    refine b_iconst C (v := 0) dX7_takeChord_8 (by decide) ?_
    exact b_zret C hr hlocks (by decide) hf dX7_takeChord_9
theorem kX7_takeChord (l : Launch) (D : va_G) (cy : Nat → ClassId) (B : Bs) {N : Nat} {g : Gs} {x0 : Nat} {vz : Int32} {dz : Ds} {d : Ds} (hf : fX7_takeChord N g x0 d = some (vz, dz)) : Met l yX7_takeChord (.code yX7_takeChord cX7_takeChord 4 (some .boolean) :: wl) rmX7_takeChord (PC D cy B [.ref (ad B x0)] g d) (QI D cy B vz g dz) 0 0 (wA B) :=
  met_of (by decide +kernel) (Nat.le_of_ble_eq_true rfl) (fun p e s m args below meth c C hr hlocks _ => b_sub [(0, .ref (ad B x0))] [0] rfl (tX7_takeChord_E C hr hlocks hf))
/-! KeyMatrix$TextReader.takeMacro()Z -/
theorem ws_X7_112 : Cond.fieldLink RX7 112 "KeyMatrix$Word" (wnm 10) "LKeyMatrix$Word;" ∈ wl := mW (mT3 (List.mem_of_getElem? (i := 157) (by decide +kernel))) rfl
theorem yo_X0_addMacro : yX0_addMacro.cls ≠ "java/lang/invoke/MethodHandle" ∧ yX0_addMacro.cls ≠ "java/lang/invoke/VarHandle" ∧ (parseMethodDescriptor yX0_addMacro.desc).map (fun d => d.parameters.length) = some 1 := by decide +kernel
theorem co_X0_addMacro : Cond.code yX0_addMacro cX0_addMacro 2 none ∈ wl := mW (mT3 (List.mem_of_getElem? (i := 227) (by decide +kernel))) rfl
theorem in_X0_addMacro : Cond.initialized yX0_addMacro.cls ∈ wl := mW (mT1 (List.mem_of_getElem? (i := 5) (by decide +kernel))) rfl
theorem im_X0_addMacro : Cond.instanceMethod yX0_addMacro ∈ wl := mW (mT3 (List.mem_of_getElem? (i := 225) (by decide +kernel))) rfl
theorem se_X0_addMacro : Cond.selects yX0_addMacro.cls yX0_addMacro yX0_addMacro ∈ wl := mW (mT3 (List.mem_of_getElem? (i := 226) (by decide +kernel))) rfl
theorem lv_X7_226 : LV RX7 226 yX0_addMacro cX0_addMacro 2 none 1 0 := ⟨⟨(RX0, TX0, 19), rfl, rfl⟩, yo_X0_addMacro, mW (mT3 (List.mem_of_getElem? (i := 224) (by decide +kernel))) rfl, im_X0_addMacro, se_X0_addMacro, in_X0_addMacro, co_X0_addMacro⟩
theorem lv_X7_230 : LV RX7 230 yX0_addMacroCode cX0_addMacroCode 3 none 1 0 := ⟨⟨(RX0, TX0, 19), rfl, rfl⟩, yo_X0_addMacroCode, mW (mT3 (List.mem_of_getElem? (i := 232) (by decide +kernel))) rfl, im_X0_addMacroCode, se_X0_addMacroCode, in_X0_addMacroCode, co_X0_addMacroCode⟩
theorem dX7_takeMacro_0 : decode cX7_takeMacro 0 = .ok (.aload_n 0, 1) := by decide +kernel
theorem dX7_takeMacro_1 : decode cX7_takeMacro 1 = .ok (.getstatic 112, 3) := by decide +kernel
theorem dX7_takeMacro_4 : decode cX7_takeMacro 4 = .ok (.getfield 146, 3) := by decide +kernel
theorem dX7_takeMacro_7 : decode cX7_takeMacro 7 = .ok (.getstatic 112, 3) := by decide +kernel
theorem dX7_takeMacro_10 : decode cX7_takeMacro 10 = .ok (.getfield 149, 3) := by decide +kernel
theorem dX7_takeMacro_13 : decode cX7_takeMacro 13 = .ok (.invokevirtual 89, 3) := by decide +kernel
theorem dX7_takeMacro_16 : decode cX7_takeMacro 16 = .ok (.ifCond .ne 5, 3) := by decide +kernel
theorem dX7_takeMacro_19 : decode cX7_takeMacro 19 = .ok (.iconst 0, 1) := by decide +kernel
theorem dX7_takeMacro_20 : decode cX7_takeMacro 20 = .ok (.ireturn, 1) := by decide +kernel
theorem dX7_takeMacro_21 : decode cX7_takeMacro 21 = .ok (.aload_n 0, 1) := by decide +kernel
theorem dX7_takeMacro_22 : decode cX7_takeMacro 22 = .ok (.getfield 28, 3) := by decide +kernel
theorem dX7_takeMacro_25 : decode cX7_takeMacro 25 = .ok (.aload_n 0, 1) := by decide +kernel
theorem dX7_takeMacro_26 : decode cX7_takeMacro 26 = .ok (.getfield 93, 3) := by decide +kernel
theorem dX7_takeMacro_29 : decode cX7_takeMacro 29 = .ok (.invokevirtual 226, 3) := by decide +kernel
theorem dX7_takeMacro_32 : decode cX7_takeMacro 32 = .ok (.iconst 1, 1) := by decide +kernel
theorem dX7_takeMacro_33 : decode cX7_takeMacro 33 = .ok (.istore_n 1, 1) := by decide +kernel
theorem dX7_takeMacro_34 : decode cX7_takeMacro 34 = .ok (.iload_n 1, 1) := by decide +kernel
theorem dX7_takeMacro_35 : decode cX7_takeMacro 35 = .ok (.bipush 8, 2) := by decide +kernel
theorem dX7_takeMacro_37 : decode cX7_takeMacro 37 = .ok (.if_icmp .gt 68, 3) := by decide +kernel
theorem dX7_takeMacro_40 : decode cX7_takeMacro 40 = .ok (.aload_n 0, 1) := by decide +kernel
theorem dX7_takeMacro_41 : decode cX7_takeMacro 41 = .ok (.getfield 12, 3) := by decide +kernel
theorem dX7_takeMacro_44 : decode cX7_takeMacro 44 = .ok (.aload_n 0, 1) := by decide +kernel
theorem dX7_takeMacro_45 : decode cX7_takeMacro 45 = .ok (.getfield 39, 3) := by decide +kernel
theorem dX7_takeMacro_48 : decode cX7_takeMacro 48 = .ok (.invokevirtual 53, 3) := by decide +kernel
theorem dX7_takeMacro_51 : decode cX7_takeMacro 51 = .ok (.iconst 2, 1) := by decide +kernel
theorem dX7_takeMacro_52 : decode cX7_takeMacro 52 = .ok (.if_icmp .ne 53, 3) := by decide +kernel
theorem dX7_takeMacro_55 : decode cX7_takeMacro 55 = .ok (.iload_n 1, 1) := by decide +kernel
theorem dX7_takeMacro_56 : decode cX7_takeMacro 56 = .ok (.bipush 8, 2) := by decide +kernel
theorem dX7_takeMacro_58 : decode cX7_takeMacro 58 = .ok (.if_icmp .ne 9, 3) := by decide +kernel
theorem dX7_takeMacro_61 : decode cX7_takeMacro 61 = .ok (.aload_n 0, 1) := by decide +kernel
theorem dX7_takeMacro_62 : decode cX7_takeMacro 62 = .ok (.iconst 2, 1) := by decide +kernel
theorem dX7_takeMacro_63 : decode cX7_takeMacro 63 = .ok (.invokevirtual 82, 3) := by decide +kernel
theorem dX7_takeMacro_66 : decode cX7_takeMacro 66 = .ok (.ireturn, 1) := by decide +kernel
theorem dX7_takeMacro_67 : decode cX7_takeMacro 67 = .ok (.aload_n 0, 1) := by decide +kernel
theorem dX7_takeMacro_68 : decode cX7_takeMacro 68 = .ok (.getstatic 112, 3) := by decide +kernel
theorem dX7_takeMacro_71 : decode cX7_takeMacro 71 = .ok (.getfield 146, 3) := by decide +kernel
theorem dX7_takeMacro_74 : decode cX7_takeMacro 74 = .ok (.getstatic 112, 3) := by decide +kernel
theorem dX7_takeMacro_77 : decode cX7_takeMacro 77 = .ok (.getfield 149, 3) := by decide +kernel
theorem dX7_takeMacro_80 : decode cX7_takeMacro 80 = .ok (.invokevirtual 89, 3) := by decide +kernel
theorem dX7_takeMacro_83 : decode cX7_takeMacro 83 = .ok (.ifCond .ne 5, 3) := by decide +kernel
theorem dX7_takeMacro_86 : decode cX7_takeMacro 86 = .ok (.iconst 0, 1) := by decide +kernel
theorem dX7_takeMacro_87 : decode cX7_takeMacro 87 = .ok (.ireturn, 1) := by decide +kernel
theorem dX7_takeMacro_88 : decode cX7_takeMacro 88 = .ok (.aload_n 0, 1) := by decide +kernel
theorem dX7_takeMacro_89 : decode cX7_takeMacro 89 = .ok (.getfield 28, 3) := by decide +kernel
theorem dX7_takeMacro_92 : decode cX7_takeMacro 92 = .ok (.aload_n 0, 1) := by decide +kernel
theorem dX7_takeMacro_93 : decode cX7_takeMacro 93 = .ok (.getfield 93, 3) := by decide +kernel
theorem dX7_takeMacro_96 : decode cX7_takeMacro 96 = .ok (.invokevirtual 230, 3) := by decide +kernel
theorem dX7_takeMacro_99 : decode cX7_takeMacro 99 = .ok (.iinc 1 1, 3) := by decide +kernel
theorem dX7_takeMacro_102 : decode cX7_takeMacro 102 = .ok (.goto (-68), 3) := by decide +kernel
theorem dX7_takeMacro_105 : decode cX7_takeMacro 105 = .ok (.iconst 1, 1) := by decide +kernel
theorem dX7_takeMacro_106 : decode cX7_takeMacro 106 = .ok (.ireturn, 1) := by decide +kernel
def rmX7_takeMacro : Room := { frames := 3, cells := 0, slots := 0, locals := 64 }
set_option maxRecDepth 100000 in
def fX7_takeMacro_J105 (N : Nat) (g : Gs) (x0 : Nat) (d : Ds) : Option (Int32 × Ds) := some (1, d)
set_option maxHeartbeats 4000000 in
set_option maxRecDepth 100000 in
theorem tX7_takeMacro_105 {p : Program} {l : Launch} {e : Env} {s : State} {m : MethodId} {args : Array Value} {below : List Frame} {meth : Method} {c : Code} {D : va_G} {cy : Nat → ClassId} {B : Bs} (C : Cx p s m args c cX7_takeMacro 2 RX7 D cy B) (hr : meth.sig.returnType = (some .boolean)) (hlocks : meth.locks = false) {N : Nat} {g : Gs} {x0 : Nat} {vz : Int32} {dz : Ds} {d : Ds} (hf : fX7_takeMacro_J105 N g x0 d = some (vz, dz)) : WB p l e rmX7_takeMacro s m args below meth c 2 D cy B 0 0 (MQ below (QI D cy B vz g dz) args s 0 0 (wA B)) g d [(0, .ref (ad B x0))] 105 [] := by
  unfold fX7_takeMacro_J105 at hf
  refine b_iconst C (v := 1) dX7_takeMacro_105 (by decide) ?_
  exact b_zret C hr hlocks (by decide) hf dX7_takeMacro_106
set_option maxRecDepth 100000 in
def fX7_takeMacro_B34 (N : Nat) (g : Gs) (x0 : Nat) (K34 : Int32 × Ds → Option (Int32 × Ds)) (y1 : Int32) (d : Ds) : Option (Int32 × Ds) := if (8 : Int32) < y1 then (fX7_takeMacro_J105 N g x0 d) else (gd (chk g x0 7) <| ob (gR g x0 0) fun r13 => (gd (chk g r13 8) <| cb (fX8_kindAt N g r13 (dI d x0 3) d) fun u17 d15 => (if u17 = (2 : Int32) then (if y1 = (8 : Int32) then (cb (fX7_fail N g x0 2 d15) fun u32 d30 => (gd (u32 = 0 ∨ u32 = 1) <| some (u32, d30))) else (gd (100000 ≤ 100010 ∧ 100010 < 100020) <| cb (fX7_takeNumber N g x0 (wfv 0 (100010 - 100000)) (wfv 1 (100010 - 100000)) d15) fun u23 d21 => (if u23 = 0 then (some (0, d21)) else (ob (gR g x0 2) fun r25 => (gd (chk g r25 0) <| cv (fX0_addMacroCode N g r25 (dI d21 x0 4) d21) fun d27 => (bd (y1 + 1) fun u29 => (K34 (u29, d27)))))))) else (fX7_takeMacro_J105 N g x0 d15))))
set_option maxHeartbeats 4000000 in
set_option maxRecDepth 100000 in
theorem tX7_takeMacro_34 {p : Program} {l : Launch} {e : Env} {s : State} {m : MethodId} {args : Array Value} {below : List Frame} {meth : Method} {c : Code} {D : va_G} {cy : Nat → ClassId} {B : Bs} (C : Cx p s m args c cX7_takeMacro 2 RX7 D cy B) (hr : meth.sig.returnType = (some .boolean)) (hlocks : meth.locks = false) {N : Nat} {g : Gs} {x0 : Nat} {vz : Int32} {dz : Ds} {K34 : Int32 × Ds → Option (Int32 × Ds)} (hK34 : ∀ a, K34 a = some (vz, dz) → WB p l e rmX7_takeMacro s m args below meth c 2 D cy B 0 0 (MQ below (QI D cy B vz g dz) args s 0 0 (wA B)) g a.2 [(0, .ref (ad B x0)), (1, .int a.1)] 34 []) {y1 : Int32} {d : Ds} (hf : fX7_takeMacro_B34 N g x0 K34 y1 d = some (vz, dz)) : WB p l e rmX7_takeMacro s m args below meth c 2 D cy B 0 0 (MQ below (QI D cy B vz g dz) args s 0 0 (wA B)) g d [(0, .ref (ad B x0)), (1, .int y1)] 34 [] := by
  unfold fX7_takeMacro_B34 at hf
  refine b_iload_n C dX7_takeMacro_34 1 rfl rfl ?_
  refine b_bipush C (v := 8) dX7_takeMacro_35 (by decide) ?_
  refine b_icmp_gt C (tgt := 105) dX7_takeMacro_37 (by decide) (fun c11 => ?_) (fun c11 => ?_)
  · have hf := it_s c11 hf
    refine b_sub [(0, .ref (ad B x0))] [0] rfl ?_
    exact tX7_takeMacro_105 C hr hlocks hf
  · have hf := if_s c11 hf
    refine b_aload_n C dX7_takeMacro_40 0 rfl rfl ?_
    obtain ⟨h12, hf⟩ := gd_s hf
    obtain ⟨r13, er13, hf⟩ := ob_s hf
    refine b_gR C dX7_takeMacro_41 fl_X7_12 h12 er13 ?_
    refine b_aload_n C dX7_takeMacro_44 0 rfl rfl ?_
    refine b_gI C dX7_takeMacro_45 fl_X7_39 h12 ?_
    obtain ⟨h14, hf⟩ := gd_s hf
    obtain ⟨u17, d15, k16, hf⟩ := cb_s hf
    refine b_cVI C [] dX7_takeMacro_48 (kX8_kindAt l D cy B k16) lv_X7_53 ⟨rfl, rfl, Nat.le_of_ble_eq_true rfl, Nat.le_of_ble_eq_true rfl⟩ h14 (by decide) rfl (Nat.le_of_ble_eq_true rfl) ⟨Nat.zero_le _, Nat.zero_le _⟩ rfl ?_
    refine b_iconst C (v := 2) dX7_takeMacro_51 (by decide) ?_
    refine b_icmp_ne C (tgt := 105) dX7_takeMacro_52 (by decide) (fun c18 => ?_) (fun c18 => ?_)
    · have hf := if_s c18 hf
      refine b_sub [(0, .ref (ad B x0))] [0] rfl ?_
      exact tX7_takeMacro_105 C hr hlocks hf
    · have hf := it_s c18 hf
      refine b_iload_n C dX7_takeMacro_55 1 rfl rfl ?_
      refine b_bipush C (v := 8) dX7_takeMacro_56 (by decide) ?_
      refine b_icmp_ne C (tgt := 67) dX7_takeMacro_58 (by decide) (fun c19 => ?_) (fun c19 => ?_)
      · have hf := if_s c19 hf
        refine b_aload_n C dX7_takeMacro_67 0 rfl rfl ?_
        refine b_getW C (i := 10) (by decide) ws_X7_112 dX7_takeMacro_68 ?_
        obtain ⟨h20, hf⟩ := gd_s hf
        refine b_wfld C (j := 0) h20 (by decide) wf_X7_146 dX7_takeMacro_71 ?_
        refine b_getW C (i := 10) (by decide) ws_X7_112 dX7_takeMacro_74 ?_
        refine b_wfld C (j := 1) h20 (by decide) wf_X7_149 dX7_takeMacro_77 ?_
        obtain ⟨u23, d21, k22, hf⟩ := cb_s hf
        refine b_cVI C [] dX7_takeMacro_80 (kX7_takeNumber l D cy B k22) lv_X7_89 ⟨rfl, rfl, Nat.le_of_ble_eq_true rfl, Nat.le_of_ble_eq_true rfl⟩ h12 (by decide) rfl (Nat.le_of_ble_eq_true rfl) ⟨Nat.zero_le _, Nat.zero_le _⟩ rfl ?_
        refine b_if_ne C (tgt := 88) dX7_takeMacro_83 (by decide) (fun c24 => ?_) (fun c24 => ?_)
        · have hf := if_s c24 hf
          refine b_aload_n C dX7_takeMacro_88 0 rfl rfl ?_
          obtain ⟨r25, er25, hf⟩ := ob_s hf
          refine b_gR C dX7_takeMacro_89 fl_X7_28 h12 er25 ?_
          refine b_aload_n C dX7_takeMacro_92 0 rfl rfl ?_
          refine b_gI C dX7_takeMacro_93 fl_X7_93 h12 ?_
          obtain ⟨h26, hf⟩ := gd_s hf
          obtain ⟨d27, k28, hf⟩ := cv_s hf
          refine b_cVN C [] dX7_takeMacro_96 (kX0_addMacroCode l D cy B k28) lv_X7_230 ⟨rfl, rfl, Nat.le_of_ble_eq_true rfl, Nat.le_of_ble_eq_true rfl⟩ h26 (by decide) rfl (Nat.le_of_ble_eq_true rfl) ⟨Nat.zero_le _, Nat.zero_le _⟩ rfl ?_
          obtain ⟨u29, eu29, hf⟩ := bd_s hf
          refine b_iinc C dX7_takeMacro_99 1 rfl (by rw [eu29]; rfl) [(1, .int u29), (0, .ref (ad B x0))] (by decide) rfl ?_
          refine b_goto C (tgt := 34) dX7_takeMacro_102 (by decide) ?_
          refine b_sub [(0, .ref (ad B x0)), (1, .int u29)] [1, 0] rfl ?_
          exact hK34 (u29, d27) hf
        · have hf := it_s c24 hf
          refine b_iconst C (v := 0) dX7_takeMacro_86 (by decide) ?_
          exact b_zret C hr hlocks (by decide) hf dX7_takeMacro_87
      · have hf := it_s c19 hf
        refine b_aload_n C dX7_takeMacro_61 0 rfl rfl ?_
        refine b_iconst C (v := 2) dX7_takeMacro_62 (by decide) ?_
        obtain ⟨u32, d30, k31, hf⟩ := cb_s hf
        refine b_cVI C [] dX7_takeMacro_63 (kX7_fail l D cy B k31) lv_X7_82 ⟨rfl, rfl, Nat.le_of_ble_eq_true rfl, Nat.le_of_ble_eq_true rfl⟩ h12 (by decide) rfl (Nat.le_of_ble_eq_true rfl) ⟨Nat.zero_le _, Nat.zero_le _⟩ rfl ?_
        obtain ⟨h33, hf⟩ := gd_s hf
        exact b_zret C hr hlocks h33 hf dX7_takeMacro_66
def fX7_takeMacro_L34 (N : Nat) (g : Gs) (x0 : Nat) : Int32 × Ds → Option (Int32 × Ds) := lp (fun K34 a => fX7_takeMacro_B34 N g x0 K34 a.1 a.2) N
theorem tX7_takeMacro_L34 {p : Program} {l : Launch} {e : Env} {s : State} {m : MethodId} {args : Array Value} {below : List Frame} {meth : Method} {c : Code} {D : va_G} {cy : Nat → ClassId} {B : Bs} (C : Cx p s m args c cX7_takeMacro 2 RX7 D cy B) (hr : meth.sig.returnType = (some .boolean)) (hlocks : meth.locks = false) {N : Nat} {g : Gs} {x0 : Nat} {vz : Int32} {dz : Ds} (a : Int32 × Ds) (hf : fX7_takeMacro_L34 N g x0 a = some (vz, dz)) : WB p l e rmX7_takeMacro s m args below meth c 2 D cy B 0 0 (MQ below (QI D cy B vz g dz) args s 0 0 (wA B)) g a.2 [(0, .ref (ad B x0)), (1, .int a.1)] 34 [] :=
  lp_w (fun K34 hK34 a ha => tX7_takeMacro_34 C hr hlocks hK34 ha) N a hf
set_option maxRecDepth 100000 in
def fX7_takeMacro (N : Nat) (g : Gs) (x0 : Nat) (d : Ds) : Option (Int32 × Ds) := gd (100000 ≤ 100010 ∧ 100010 < 100020) <| gd (chk g x0 7) <| cb (fX7_takeNumber N g x0 (wfv 0 (100010 - 100000)) (wfv 1 (100010 - 100000)) d) fun u5 d3 => (if u5 = 0 then (some (0, d3)) else (ob (gR g x0 2) fun r7 => (gd (chk g r7 0) <| cv (fX0_addMacro N g r7 (dI d3 x0 4) d3) fun d9 => (fX7_takeMacro_L34 N g x0 (1, d9)))))
set_option maxHeartbeats 4000000 in
set_option maxRecDepth 100000 in
theorem tX7_takeMacro_E {p : Program} {l : Launch} {e : Env} {s : State} {m : MethodId} {args : Array Value} {below : List Frame} {meth : Method} {c : Code} {D : va_G} {cy : Nat → ClassId} {B : Bs} (C : Cx p s m args c cX7_takeMacro 2 RX7 D cy B) (hr : meth.sig.returnType = (some .boolean)) (hlocks : meth.locks = false) {N : Nat} {g : Gs} {x0 : Nat} {vz : Int32} {dz : Ds} {d : Ds} (hf : fX7_takeMacro N g x0 d = some (vz, dz)) : WB p l e rmX7_takeMacro s m args below meth c 2 D cy B 0 0 (MQ below (QI D cy B vz g dz) args s 0 0 (wA B)) g d [(0, .ref (ad B x0))] 0 [] := by
  unfold fX7_takeMacro at hf
  refine b_aload_n C dX7_takeMacro_0 0 rfl rfl ?_
  refine b_getW C (i := 10) (by decide) ws_X7_112 dX7_takeMacro_1 ?_
  obtain ⟨h1, hf⟩ := gd_s hf
  refine b_wfld C (j := 0) h1 (by decide) wf_X7_146 dX7_takeMacro_4 ?_
  refine b_getW C (i := 10) (by decide) ws_X7_112 dX7_takeMacro_7 ?_
  refine b_wfld C (j := 1) h1 (by decide) wf_X7_149 dX7_takeMacro_10 ?_
  obtain ⟨h2, hf⟩ := gd_s hf
  obtain ⟨u5, d3, k4, hf⟩ := cb_s hf
  refine b_cVI C [] dX7_takeMacro_13 (kX7_takeNumber l D cy B k4) lv_X7_89 ⟨rfl, rfl, Nat.le_of_ble_eq_true rfl, Nat.le_of_ble_eq_true rfl⟩ h2 (by decide) rfl (Nat.le_of_ble_eq_true rfl) ⟨Nat.zero_le _, Nat.zero_le _⟩ rfl ?_
  refine b_if_ne C (tgt := 21) dX7_takeMacro_16 (by decide) (fun c6 => ?_) (fun c6 => ?_)
  · have hf := if_s c6 hf
    refine b_aload_n C dX7_takeMacro_21 0 rfl rfl ?_
    obtain ⟨r7, er7, hf⟩ := ob_s hf
    refine b_gR C dX7_takeMacro_22 fl_X7_28 h2 er7 ?_
    refine b_aload_n C dX7_takeMacro_25 0 rfl rfl ?_
    refine b_gI C dX7_takeMacro_26 fl_X7_93 h2 ?_
    obtain ⟨h8, hf⟩ := gd_s hf
    obtain ⟨d9, k10, hf⟩ := cv_s hf
    refine b_cVN C [] dX7_takeMacro_29 (kX0_addMacro l D cy B k10) lv_X7_226 ⟨rfl, rfl, Nat.le_of_ble_eq_true rfl, Nat.le_of_ble_eq_true rfl⟩ h8 (by decide) rfl (Nat.le_of_ble_eq_true rfl) ⟨Nat.zero_le _, Nat.zero_le _⟩ rfl ?_
    refine b_iconst C (v := 1) dX7_takeMacro_32 (by decide) ?_
    refine b_istore_n C dX7_takeMacro_33 rfl [(1, .int 1), (0, .ref (ad B x0))] (by decide) rfl ?_
    refine b_sub [(0, .ref (ad B x0)), (1, .int 1)] [1, 0] rfl ?_
    exact tX7_takeMacro_L34 C hr hlocks (1, d9) hf
  · have hf := it_s c6 hf
    refine b_iconst C (v := 0) dX7_takeMacro_19 (by decide) ?_
    exact b_zret C hr hlocks (by decide) hf dX7_takeMacro_20
theorem kX7_takeMacro (l : Launch) (D : va_G) (cy : Nat → ClassId) (B : Bs) {N : Nat} {g : Gs} {x0 : Nat} {vz : Int32} {dz : Ds} {d : Ds} (hf : fX7_takeMacro N g x0 d = some (vz, dz)) : Met l yX7_takeMacro (.code yX7_takeMacro cX7_takeMacro 2 (some .boolean) :: wl) rmX7_takeMacro (PC D cy B [.ref (ad B x0)] g d) (QI D cy B vz g dz) 0 0 (wA B) :=
  met_of (by decide +kernel) (Nat.le_of_ble_eq_true rfl) (fun p e s m args below meth c C hr hlocks _ => b_sub [(0, .ref (ad B x0))] [0] rfl (tX7_takeMacro_E C hr hlocks hf))
/-! KeyMatrix$TextReader.takeSetting(LKeyMatrix$Word;)Z -/
theorem ws_X7_152 : Cond.fieldLink RX7 152 "KeyMatrix$Word" (wnm 3) "LKeyMatrix$Word;" ∈ wl := mW (mT3 (List.mem_of_getElem? (i := 237) (by decide +kernel))) rfl
theorem ws_X7_158 : Cond.fieldLink RX7 158 "KeyMatrix$Word" (wnm 4) "LKeyMatrix$Word;" ∈ wl := mW (mT3 (List.mem_of_getElem? (i := 239) (by decide +kernel))) rfl
theorem ws_X7_164 : Cond.fieldLink RX7 164 "KeyMatrix$Word" (wnm 5) "LKeyMatrix$Word;" ∈ wl := mW (mT4 (List.mem_of_getElem? (i := 1) (by decide +kernel))) rfl
theorem ws_X7_170 : Cond.fieldLink RX7 170 "KeyMatrix$Word" (wnm 6) "LKeyMatrix$Word;" ∈ wl := mW (mT4 (List.mem_of_getElem? (i := 3) (by decide +kernel))) rfl
theorem ws_X7_176 : Cond.fieldLink RX7 176 "KeyMatrix$Word" (wnm 7) "LKeyMatrix$Word;" ∈ wl := mW (mT4 (List.mem_of_getElem? (i := 5) (by decide +kernel))) rfl
theorem fl_X7_179 : FLI RX7 179 0 8 := ⟨⟨RX0, TX0, 19, rfl, by decide, inl0, Or.inr (mT1 (List.mem_of_getElem? (i := 141) (by decide +kernel)))⟩, by decide, by decide +kernel⟩
theorem fl_X7_182 : FLI RX7 182 0 9 := ⟨⟨RX0, TX0, 19, rfl, by decide, inl0, Or.inr (mT1 (List.mem_of_getElem? (i := 145) (by decide +kernel)))⟩, by decide, by decide +kernel⟩
theorem fl_X7_173 : FLI RX7 173 0 7 := ⟨⟨RX0, TX0, 19, rfl, by decide, inl0, Or.inr (mT1 (List.mem_of_getElem? (i := 137) (by decide +kernel)))⟩, by decide, by decide +kernel⟩
theorem fl_X7_167 : FLI RX7 167 0 6 := ⟨⟨RX0, TX0, 19, rfl, by decide, inl0, Or.inr (mT1 (List.mem_of_getElem? (i := 133) (by decide +kernel)))⟩, by decide, by decide +kernel⟩
theorem fl_X7_161 : FLI RX7 161 0 5 := ⟨⟨RX0, TX0, 19, rfl, by decide, inl0, Or.inr (mT1 (List.mem_of_getElem? (i := 129) (by decide +kernel)))⟩, by decide, by decide +kernel⟩
theorem fl_X7_155 : FLI RX7 155 0 4 := ⟨⟨RX0, TX0, 19, rfl, by decide, inl0, Or.inr (mT1 (List.mem_of_getElem? (i := 125) (by decide +kernel)))⟩, by decide, by decide +kernel⟩
theorem dX7_takeSetting_0 : decode cX7_takeSetting 0 = .ok (.aload_n 0, 1) := by decide +kernel
theorem dX7_takeSetting_1 : decode cX7_takeSetting 1 = .ok (.aload_n 1, 1) := by decide +kernel
theorem dX7_takeSetting_2 : decode cX7_takeSetting 2 = .ok (.getfield 146, 3) := by decide +kernel
theorem dX7_takeSetting_5 : decode cX7_takeSetting 5 = .ok (.aload_n 1, 1) := by decide +kernel
theorem dX7_takeSetting_6 : decode cX7_takeSetting 6 = .ok (.getfield 149, 3) := by decide +kernel
theorem dX7_takeSetting_9 : decode cX7_takeSetting 9 = .ok (.invokevirtual 89, 3) := by decide +kernel
theorem dX7_takeSetting_12 : decode cX7_takeSetting 12 = .ok (.ifCond .ne 5, 3) := by decide +kernel
theorem dX7_takeSetting_15 : decode cX7_takeSetting 15 = .ok (.iconst 0, 1) := by decide +kernel
theorem dX7_takeSetting_16 : decode cX7_takeSetting 16 = .ok (.ireturn, 1) := by decide +kernel
theorem dX7_takeSetting_17 : decode cX7_takeSetting 17 = .ok (.aload_n 1, 1) := by decide +kernel
theorem dX7_takeSetting_18 : decode cX7_takeSetting 18 = .ok (.getstatic 152, 3) := by decide +kernel
theorem dX7_takeSetting_21 : decode cX7_takeSetting 21 = .ok (.if_acmp .ne 17, 3) := by decide +kernel
theorem dX7_takeSetting_24 : decode cX7_takeSetting 24 = .ok (.aload_n 0, 1) := by decide +kernel
theorem dX7_takeSetting_25 : decode cX7_takeSetting 25 = .ok (.getfield 28, 3) := by decide +kernel
theorem dX7_takeSetting_28 : decode cX7_takeSetting 28 = .ok (.aload_n 0, 1) := by decide +kernel
theorem dX7_takeSetting_29 : decode cX7_takeSetting 29 = .ok (.getfield 93, 3) := by decide +kernel
theorem dX7_takeSetting_32 : decode cX7_takeSetting 32 = .ok (.putfield 155, 3) := by decide +kernel
theorem dX7_takeSetting_35 : decode cX7_takeSetting 35 = .ok (.goto 107, 3) := by decide +kernel
theorem dX7_takeSetting_38 : decode cX7_takeSetting 38 = .ok (.aload_n 1, 1) := by decide +kernel
theorem dX7_takeSetting_39 : decode cX7_takeSetting 39 = .ok (.getstatic 158, 3) := by decide +kernel
theorem dX7_takeSetting_42 : decode cX7_takeSetting 42 = .ok (.if_acmp .ne 17, 3) := by decide +kernel
theorem dX7_takeSetting_45 : decode cX7_takeSetting 45 = .ok (.aload_n 0, 1) := by decide +kernel
theorem dX7_takeSetting_46 : decode cX7_takeSetting 46 = .ok (.getfield 28, 3) := by decide +kernel
theorem dX7_takeSetting_49 : decode cX7_takeSetting 49 = .ok (.aload_n 0, 1) := by decide +kernel
theorem dX7_takeSetting_50 : decode cX7_takeSetting 50 = .ok (.getfield 93, 3) := by decide +kernel
theorem dX7_takeSetting_53 : decode cX7_takeSetting 53 = .ok (.putfield 161, 3) := by decide +kernel
theorem dX7_takeSetting_56 : decode cX7_takeSetting 56 = .ok (.goto 86, 3) := by decide +kernel
theorem dX7_takeSetting_59 : decode cX7_takeSetting 59 = .ok (.aload_n 1, 1) := by decide +kernel
theorem dX7_takeSetting_60 : decode cX7_takeSetting 60 = .ok (.getstatic 164, 3) := by decide +kernel
theorem dX7_takeSetting_63 : decode cX7_takeSetting 63 = .ok (.if_acmp .ne 17, 3) := by decide +kernel
theorem dX7_takeSetting_66 : decode cX7_takeSetting 66 = .ok (.aload_n 0, 1) := by decide +kernel
theorem dX7_takeSetting_67 : decode cX7_takeSetting 67 = .ok (.getfield 28, 3) := by decide +kernel
theorem dX7_takeSetting_70 : decode cX7_takeSetting 70 = .ok (.aload_n 0, 1) := by decide +kernel
theorem dX7_takeSetting_71 : decode cX7_takeSetting 71 = .ok (.getfield 93, 3) := by decide +kernel
theorem dX7_takeSetting_74 : decode cX7_takeSetting 74 = .ok (.putfield 167, 3) := by decide +kernel
theorem dX7_takeSetting_77 : decode cX7_takeSetting 77 = .ok (.goto 65, 3) := by decide +kernel
theorem dX7_takeSetting_80 : decode cX7_takeSetting 80 = .ok (.aload_n 1, 1) := by decide +kernel
theorem dX7_takeSetting_81 : decode cX7_takeSetting 81 = .ok (.getstatic 170, 3) := by decide +kernel
theorem dX7_takeSetting_84 : decode cX7_takeSetting 84 = .ok (.if_acmp .ne 17, 3) := by decide +kernel
theorem dX7_takeSetting_87 : decode cX7_takeSetting 87 = .ok (.aload_n 0, 1) := by decide +kernel
theorem dX7_takeSetting_88 : decode cX7_takeSetting 88 = .ok (.getfield 28, 3) := by decide +kernel
theorem dX7_takeSetting_91 : decode cX7_takeSetting 91 = .ok (.aload_n 0, 1) := by decide +kernel
theorem dX7_takeSetting_92 : decode cX7_takeSetting 92 = .ok (.getfield 93, 3) := by decide +kernel
theorem dX7_takeSetting_95 : decode cX7_takeSetting 95 = .ok (.putfield 173, 3) := by decide +kernel
theorem dX7_takeSetting_98 : decode cX7_takeSetting 98 = .ok (.goto 44, 3) := by decide +kernel
theorem dX7_takeSetting_101 : decode cX7_takeSetting 101 = .ok (.aload_n 1, 1) := by decide +kernel
theorem dX7_takeSetting_102 : decode cX7_takeSetting 102 = .ok (.getstatic 176, 3) := by decide +kernel
theorem dX7_takeSetting_105 : decode cX7_takeSetting 105 = .ok (.if_acmp .ne 37, 3) := by decide +kernel
theorem dX7_takeSetting_108 : decode cX7_takeSetting 108 = .ok (.aload_n 0, 1) := by decide +kernel
theorem dX7_takeSetting_109 : decode cX7_takeSetting 109 = .ok (.getfield 28, 3) := by decide +kernel
theorem dX7_takeSetting_112 : decode cX7_takeSetting 112 = .ok (.aload_n 0, 1) := by decide +kernel
theorem dX7_takeSetting_113 : decode cX7_takeSetting 113 = .ok (.getfield 93, 3) := by decide +kernel
theorem dX7_takeSetting_116 : decode cX7_takeSetting 116 = .ok (.putfield 179, 3) := by decide +kernel
theorem dX7_takeSetting_119 : decode cX7_takeSetting 119 = .ok (.aload_n 0, 1) := by decide +kernel
theorem dX7_takeSetting_120 : decode cX7_takeSetting 120 = .ok (.iconst 1, 1) := by decide +kernel
theorem dX7_takeSetting_121 : decode cX7_takeSetting 121 = .ok (.bipush 20, 2) := by decide +kernel
theorem dX7_takeSetting_123 : decode cX7_takeSetting 123 = .ok (.invokevirtual 89, 3) := by decide +kernel
theorem dX7_takeSetting_126 : decode cX7_takeSetting 126 = .ok (.ifCond .ne 5, 3) := by decide +kernel
theorem dX7_takeSetting_129 : decode cX7_takeSetting 129 = .ok (.iconst 0, 1) := by decide +kernel
theorem dX7_takeSetting_130 : decode cX7_takeSetting 130 = .ok (.ireturn, 1) := by decide +kernel
theorem dX7_takeSetting_131 : decode cX7_takeSetting 131 = .ok (.aload_n 0, 1) := by decide +kernel
theorem dX7_takeSetting_132 : decode cX7_takeSetting 132 = .ok (.getfield 28, 3) := by decide +kernel
theorem dX7_takeSetting_135 : decode cX7_takeSetting 135 = .ok (.aload_n 0, 1) := by decide +kernel
theorem dX7_takeSetting_136 : decode cX7_takeSetting 136 = .ok (.getfield 93, 3) := by decide +kernel
theorem dX7_takeSetting_139 : decode cX7_takeSetting 139 = .ok (.putfield 182, 3) := by decide +kernel
theorem dX7_takeSetting_142 : decode cX7_takeSetting 142 = .ok (.iconst 1, 1) := by decide +kernel
theorem dX7_takeSetting_143 : decode cX7_takeSetting 143 = .ok (.ireturn, 1) := by decide +kernel
def rmX7_takeSetting : Room := { frames := 3, cells := 0, slots := 0, locals := 64 }
set_option maxRecDepth 100000 in
def fX7_takeSetting_J142 (N : Nat) (g : Gs) (x0 : Nat) (x1 : Option Nat) (d : Ds) : Option (Int32 × Ds) := some (1, d)
set_option maxHeartbeats 4000000 in
set_option maxRecDepth 100000 in
theorem tX7_takeSetting_142 {p : Program} {l : Launch} {e : Env} {s : State} {m : MethodId} {args : Array Value} {below : List Frame} {meth : Method} {c : Code} {D : va_G} {cy : Nat → ClassId} {B : Bs} (C : Cx p s m args c cX7_takeSetting 2 RX7 D cy B) (hr : meth.sig.returnType = (some .boolean)) (hlocks : meth.locks = false) {N : Nat} {g : Gs} {x0 : Nat} {x1 : Option Nat} {vz : Int32} {dz : Ds} {d : Ds} (hf : fX7_takeSetting_J142 N g x0 x1 d = some (vz, dz)) : WB p l e rmX7_takeSetting s m args below meth c 2 D cy B 0 0 (MQ below (QI D cy B vz g dz) args s 0 0 (wA B)) g d [(0, .ref (ad B x0)), (1, rv B x1)] 142 [] := by
  unfold fX7_takeSetting_J142 at hf
  refine b_iconst C (v := 1) dX7_takeSetting_142 (by decide) ?_
  exact b_zret C hr hlocks (by decide) hf dX7_takeSetting_143
set_option maxRecDepth 100000 in
def fX7_takeSetting (N : Nat) (g : Gs) (x0 : Nat) (x1 : Option Nat) (d : Ds) : Option (Int32 × Ds) := ob x1 fun r1 => (gd (100000 ≤ r1 ∧ r1 < 100020) <| gd (chk g x0 7) <| cb (fX7_takeNumber N g x0 (wfv 0 (r1 - 100000)) (wfv 1 (r1 - 100000)) d) fun u6 d4 => (if u6 = 0 then (some (0, d4)) else (gd (wkb x1) <| gd (wkb (some 100003)) <| if x1 = (some 100003) then (ob (gR g x0 2) fun r36 => (gd (chk g r36 0) <| bd (sI d4 r36 4 (dI d4 x0 4)) fun d38 => (fX7_takeSetting_J142 N g x0 x1 d38))) else (gd (wkb (some 100004)) <| if x1 = (some 100004) then (ob (gR g x0 2) fun r33 => (gd (chk g r33 0) <| bd (sI d4 r33 5 (dI d4 x0 4)) fun d35 => (fX7_takeSetting_J142 N g x0 x1 d35))) else (gd (wkb (some 100005)) <| if x1 = (some 100005) then (ob (gR g x0 2) fun r30 => (gd (chk g r30 0) <| bd (sI d4 r30 6 (dI d4 x0 4)) fun d32 => (fX7_takeSetting_J142 N g x0 x1 d32))) else (gd (wkb (some 100006)) <| if x1 = (some 100006) then (ob (gR g x0 2) fun r27 => (gd (chk g r27 0) <| bd (sI d4 r27 7 (dI d4 x0 4)) fun d29 => (fX7_takeSetting_J142 N g x0 x1 d29))) else (gd (wkb (some 100007)) <| if x1 = (some 100007) then (ob (gR g x0 2) fun r19 => (gd (chk g r19 0) <| bd (sI d4 r19 8 (dI d4 x0 4)) fun d21 => (cb (fX7_takeNumber N g x0 1 20 d21) fun u24 d22 => (if u24 = 0 then (some (0, d22)) else (bd (sI d22 r19 9 (dI d22 x0 4)) fun d26 => (fX7_takeSetting_J142 N g x0 x1 d26)))))) else (fX7_takeSetting_J142 N g x0 x1 d4))))))))
set_option maxHeartbeats 4000000 in
set_option maxRecDepth 100000 in
theorem tX7_takeSetting_E {p : Program} {l : Launch} {e : Env} {s : State} {m : MethodId} {args : Array Value} {below : List Frame} {meth : Method} {c : Code} {D : va_G} {cy : Nat → ClassId} {B : Bs} (C : Cx p s m args c cX7_takeSetting 2 RX7 D cy B) (hr : meth.sig.returnType = (some .boolean)) (hlocks : meth.locks = false) {N : Nat} {g : Gs} {x0 : Nat} {x1 : Option Nat} {vz : Int32} {dz : Ds} {d : Ds} (hf : fX7_takeSetting N g x0 x1 d = some (vz, dz)) : WB p l e rmX7_takeSetting s m args below meth c 2 D cy B 0 0 (MQ below (QI D cy B vz g dz) args s 0 0 (wA B)) g d [(0, .ref (ad B x0)), (1, rv B x1)] 0 [] := by
  unfold fX7_takeSetting at hf
  refine b_aload_n C dX7_takeSetting_0 0 rfl rfl ?_
  refine b_aload_nQ C dX7_takeSetting_1 1 rfl rfl ?_
  obtain ⟨r1, er1, hf⟩ := ob_s hf
  refine b_some er1 ?_
  obtain ⟨h2, hf⟩ := gd_s hf
  refine b_wfld C (j := 0) h2 (by decide) wf_X7_146 dX7_takeSetting_2 ?_
  refine b_aload_nQ C dX7_takeSetting_5 1 rfl rfl ?_
  refine b_some er1 ?_
  refine b_wfld C (j := 1) h2 (by decide) wf_X7_149 dX7_takeSetting_6 ?_
  obtain ⟨h3, hf⟩ := gd_s hf
  obtain ⟨u6, d4, k5, hf⟩ := cb_s hf
  refine b_cVI C [] dX7_takeSetting_9 (kX7_takeNumber l D cy B k5) lv_X7_89 ⟨rfl, rfl, Nat.le_of_ble_eq_true rfl, Nat.le_of_ble_eq_true rfl⟩ h3 (by decide) rfl (Nat.le_of_ble_eq_true rfl) ⟨Nat.zero_le _, Nat.zero_le _⟩ rfl ?_
  refine b_if_ne C (tgt := 17) dX7_takeSetting_12 (by decide) (fun c7 => ?_) (fun c7 => ?_)
  · have hf := if_s c7 hf
    refine b_aload_nQ C dX7_takeSetting_17 1 rfl rfl ?_
    refine b_getW C (i := 3) (by decide) ws_X7_152 dX7_takeSetting_18 ?_
    obtain ⟨h8, hf⟩ := gd_s hf
    obtain ⟨h9, hf⟩ := gd_s hf
    refine b_acmp_ne C (tgt := 38) (wkb_s h8) (wkb_s h9) dX7_takeSetting_21 (by decide) (fun c10 => ?_) (fun c10 => ?_)
    · have hf := if_s c10 hf
      refine b_aload_nQ C dX7_takeSetting_38 1 rfl rfl ?_
      refine b_getW C (i := 4) (by decide) ws_X7_158 dX7_takeSetting_39 ?_
      obtain ⟨h11, hf⟩ := gd_s hf
      refine b_acmp_ne C (tgt := 59) (wkb_s h8) (wkb_s h11) dX7_takeSetting_42 (by decide) (fun c12 => ?_) (fun c12 => ?_)
      · have hf := if_s c12 hf
        refine b_aload_nQ C dX7_takeSetting_59 1 rfl rfl ?_
        refine b_getW C (i := 5) (by decide) ws_X7_164 dX7_takeSetting_60 ?_
        obtain ⟨h13, hf⟩ := gd_s hf
        refine b_acmp_ne C (tgt := 80) (wkb_s h8) (wkb_s h13) dX7_takeSetting_63 (by decide) (fun c14 => ?_) (fun c14 => ?_)
        · have hf := if_s c14 hf
          refine b_aload_nQ C dX7_takeSetting_80 1 rfl rfl ?_
          refine b_getW C (i := 6) (by decide) ws_X7_170 dX7_takeSetting_81 ?_
          obtain ⟨h15, hf⟩ := gd_s hf
          refine b_acmp_ne C (tgt := 101) (wkb_s h8) (wkb_s h15) dX7_takeSetting_84 (by decide) (fun c16 => ?_) (fun c16 => ?_)
          · have hf := if_s c16 hf
            refine b_aload_nQ C dX7_takeSetting_101 1 rfl rfl ?_
            refine b_getW C (i := 7) (by decide) ws_X7_176 dX7_takeSetting_102 ?_
            obtain ⟨h17, hf⟩ := gd_s hf
            refine b_acmp_ne C (tgt := 142) (wkb_s h8) (wkb_s h17) dX7_takeSetting_105 (by decide) (fun c18 => ?_) (fun c18 => ?_)
            · have hf := if_s c18 hf
              refine b_sub [(0, .ref (ad B x0)), (1, rv B x1)] [0, 1] rfl ?_
              exact tX7_takeSetting_142 C hr hlocks hf
            · have hf := it_s c18 hf
              refine b_aload_n C dX7_takeSetting_108 0 rfl rfl ?_
              obtain ⟨r19, er19, hf⟩ := ob_s hf
              refine b_gR C dX7_takeSetting_109 fl_X7_28 h3 er19 ?_
              refine b_aload_n C dX7_takeSetting_112 0 rfl rfl ?_
              refine b_gI C dX7_takeSetting_113 fl_X7_93 h3 ?_
              obtain ⟨h20, hf⟩ := gd_s hf
              obtain ⟨d21, ed21, hf⟩ := bd_s hf
              refine b_pI C dX7_takeSetting_116 fl_X7_179 fp0_8 h20 ed21 ?_
              refine b_aload_n C dX7_takeSetting_119 0 rfl rfl ?_
              refine b_iconst C (v := 1) dX7_takeSetting_120 (by decide) ?_
              refine b_bipush C (v := 20) dX7_takeSetting_121 (by decide) ?_
              obtain ⟨u24, d22, k23, hf⟩ := cb_s hf
              refine b_cVI C [] dX7_takeSetting_123 (kX7_takeNumber l D cy B k23) lv_X7_89 ⟨rfl, rfl, Nat.le_of_ble_eq_true rfl, Nat.le_of_ble_eq_true rfl⟩ h3 (by decide) rfl (Nat.le_of_ble_eq_true rfl) ⟨Nat.zero_le _, Nat.zero_le _⟩ rfl ?_
              refine b_if_ne C (tgt := 131) dX7_takeSetting_126 (by decide) (fun c25 => ?_) (fun c25 => ?_)
              · have hf := if_s c25 hf
                refine b_aload_n C dX7_takeSetting_131 0 rfl rfl ?_
                refine b_gR C dX7_takeSetting_132 fl_X7_28 h3 er19 ?_
                refine b_aload_n C dX7_takeSetting_135 0 rfl rfl ?_
                refine b_gI C dX7_takeSetting_136 fl_X7_93 h3 ?_
                obtain ⟨d26, ed26, hf⟩ := bd_s hf
                refine b_pI C dX7_takeSetting_139 fl_X7_182 fp0_9 h20 ed26 ?_
                refine b_sub [(0, .ref (ad B x0)), (1, rv B x1)] [0, 1] rfl ?_
                exact tX7_takeSetting_142 C hr hlocks hf
              · have hf := it_s c25 hf
                refine b_iconst C (v := 0) dX7_takeSetting_129 (by decide) ?_
                exact b_zret C hr hlocks (by decide) hf dX7_takeSetting_130
          · have hf := it_s c16 hf
            refine b_aload_n C dX7_takeSetting_87 0 rfl rfl ?_
            obtain ⟨r27, er27, hf⟩ := ob_s hf
            refine b_gR C dX7_takeSetting_88 fl_X7_28 h3 er27 ?_
            refine b_aload_n C dX7_takeSetting_91 0 rfl rfl ?_
            refine b_gI C dX7_takeSetting_92 fl_X7_93 h3 ?_
            obtain ⟨h28, hf⟩ := gd_s hf
            obtain ⟨d29, ed29, hf⟩ := bd_s hf
            refine b_pI C dX7_takeSetting_95 fl_X7_173 fp0_7 h28 ed29 ?_
            refine b_goto C (tgt := 142) dX7_takeSetting_98 (by decide) ?_
            refine b_sub [(0, .ref (ad B x0)), (1, rv B x1)] [0, 1] rfl ?_
            exact tX7_takeSetting_142 C hr hlocks hf
        · have hf := it_s c14 hf
          refine b_aload_n C dX7_takeSetting_66 0 rfl rfl ?_
          obtain ⟨r30, er30, hf⟩ := ob_s hf
          refine b_gR C dX7_takeSetting_67 fl_X7_28 h3 er30 ?_
          refine b_aload_n C dX7_takeSetting_70 0 rfl rfl ?_
          refine b_gI C dX7_takeSetting_71 fl_X7_93 h3 ?_
          obtain ⟨h31, hf⟩ := gd_s hf
          obtain ⟨d32, ed32, hf⟩ := bd_s hf
          refine b_pI C dX7_takeSetting_74 fl_X7_167 fp0_6 h31 ed32 ?_
          refine b_goto C (tgt := 142) dX7_takeSetting_77 (by decide) ?_
          refine b_sub [(0, .ref (ad B x0)), (1, rv B x1)] [0, 1] rfl ?_
          exact tX7_takeSetting_142 C hr hlocks hf
      · have hf := it_s c12 hf
        refine b_aload_n C dX7_takeSetting_45 0 rfl rfl ?_
        obtain ⟨r33, er33, hf⟩ := ob_s hf
        refine b_gR C dX7_takeSetting_46 fl_X7_28 h3 er33 ?_
        refine b_aload_n C dX7_takeSetting_49 0 rfl rfl ?_
        refine b_gI C dX7_takeSetting_50 fl_X7_93 h3 ?_
        obtain ⟨h34, hf⟩ := gd_s hf
        obtain ⟨d35, ed35, hf⟩ := bd_s hf
        refine b_pI C dX7_takeSetting_53 fl_X7_161 fp0_5 h34 ed35 ?_
        refine b_goto C (tgt := 142) dX7_takeSetting_56 (by decide) ?_
        refine b_sub [(0, .ref (ad B x0)), (1, rv B x1)] [0, 1] rfl ?_
        exact tX7_takeSetting_142 C hr hlocks hf
    · have hf := it_s c10 hf
      refine b_aload_n C dX7_takeSetting_24 0 rfl rfl ?_
      obtain ⟨r36, er36, hf⟩ := ob_s hf
      refine b_gR C dX7_takeSetting_25 fl_X7_28 h3 er36 ?_
      refine b_aload_n C dX7_takeSetting_28 0 rfl rfl ?_
      refine b_gI C dX7_takeSetting_29 fl_X7_93 h3 ?_
      obtain ⟨h37, hf⟩ := gd_s hf
      obtain ⟨d38, ed38, hf⟩ := bd_s hf
      refine b_pI C dX7_takeSetting_32 fl_X7_155 fp0_4 h37 ed38 ?_
      refine b_goto C (tgt := 142) dX7_takeSetting_35 (by decide) ?_
      refine b_sub [(0, .ref (ad B x0)), (1, rv B x1)] [0, 1] rfl ?_
      exact tX7_takeSetting_142 C hr hlocks hf
  · have hf := it_s c7 hf
    refine b_iconst C (v := 0) dX7_takeSetting_15 (by decide) ?_
    exact b_zret C hr hlocks (by decide) hf dX7_takeSetting_16
theorem kX7_takeSetting (l : Launch) (D : va_G) (cy : Nat → ClassId) (B : Bs) {N : Nat} {g : Gs} {x0 : Nat} {x1 : Option Nat} {vz : Int32} {dz : Ds} {d : Ds} (hf : fX7_takeSetting N g x0 x1 d = some (vz, dz)) : Met l yX7_takeSetting (.code yX7_takeSetting cX7_takeSetting 2 (some .boolean) :: wl) rmX7_takeSetting (PC D cy B [.ref (ad B x0), rv B x1] g d) (QI D cy B vz g dz) 0 0 (wA B) :=
  met_of (by decide +kernel) (by cases x1 <;> exact Nat.le_of_ble_eq_true rfl) (fun p e s m args below meth c C hr hlocks _ => b_sub [(0, .ref (ad B x0)), (1, rv B x1)] [0, 1] rfl (tX7_takeSetting_E C hr hlocks hf))
/-! KeyMatrix$TextReader.takeLine()Z -/
theorem wf_X7_102 : Cond.fieldLinkNest RX7 102 "KeyMatrix$Word" (wfn 3) (wfd 3) "KeyMatrix" ∈ lw_tbl := mT7 (List.mem_of_getElem? (i := 50) (by decide +kernel))
theorem ws_X7_106 : Cond.fieldLink RX7 106 "KeyMatrix$Word" (wnm 9) "LKeyMatrix$Word;" ∈ wl := mW (mT3 (List.mem_of_getElem? (i := 155) (by decide +kernel))) rfl
theorem ws_X7_118 : Cond.fieldLink RX7 118 "KeyMatrix$Word" (wnm 1) "LKeyMatrix$Word;" ∈ wl := mW (mT3 (List.mem_of_getElem? (i := 159) (by decide +kernel))) rfl
theorem ws_X7_124 : Cond.fieldLink RX7 124 "KeyMatrix$Word" (wnm 2) "LKeyMatrix$Word;" ∈ wl := mW (mT3 (List.mem_of_getElem? (i := 161) (by decide +kernel))) rfl
theorem yo_X7_takeSetting : yX7_takeSetting.cls ≠ "java/lang/invoke/MethodHandle" ∧ yX7_takeSetting.cls ≠ "java/lang/invoke/VarHandle" ∧ (parseMethodDescriptor yX7_takeSetting.desc).map (fun d => d.parameters.length) = some 1 := by decide +kernel
theorem co_X7_takeSetting : Cond.code yX7_takeSetting cX7_takeSetting 2 (some .boolean) ∈ wl := mW (mT3 (List.mem_of_getElem? (i := 236) (by decide +kernel))) rfl
theorem in_X7_takeSetting : Cond.initialized yX7_takeSetting.cls ∈ wl := mW (mT1 (List.mem_of_getElem? (i := 2) (by decide +kernel))) rfl
theorem im_X7_takeSetting : Cond.instanceMethod yX7_takeSetting ∈ wl := mW (mT3 (List.mem_of_getElem? (i := 235) (by decide +kernel))) rfl
theorem se_X7_takeSetting : Cond.selects yX7_takeSetting.cls yX7_takeSetting yX7_takeSetting ∈ wl := mW (mT0 (List.mem_of_getElem? (i := 16) (by decide +kernel))) rfl
theorem lv_X7_142 : LV RX7 142 yX7_takeSetting cX7_takeSetting 2 (some .boolean) 1 7 := ⟨⟨(RX7, TX7, 10), rfl, rfl⟩, yo_X7_takeSetting, mW (mT3 (List.mem_of_getElem? (i := 233) (by decide +kernel))) rfl, im_X7_takeSetting, se_X7_takeSetting, in_X7_takeSetting, co_X7_takeSetting⟩
theorem yo_X7_takeMacro : yX7_takeMacro.cls ≠ "java/lang/invoke/MethodHandle" ∧ yX7_takeMacro.cls ≠ "java/lang/invoke/VarHandle" ∧ (parseMethodDescriptor yX7_takeMacro.desc).map (fun d => d.parameters.length) = some 0 := by decide +kernel
theorem co_X7_takeMacro : Cond.code yX7_takeMacro cX7_takeMacro 2 (some .boolean) ∈ wl := mW (mT3 (List.mem_of_getElem? (i := 223) (by decide +kernel))) rfl
theorem in_X7_takeMacro : Cond.initialized yX7_takeMacro.cls ∈ wl := mW (mT1 (List.mem_of_getElem? (i := 2) (by decide +kernel))) rfl
theorem im_X7_takeMacro : Cond.instanceMethod yX7_takeMacro ∈ wl := mW (mT3 (List.mem_of_getElem? (i := 222) (by decide +kernel))) rfl
theorem se_X7_takeMacro : Cond.selects yX7_takeMacro.cls yX7_takeMacro yX7_takeMacro ∈ wl := mW (mT0 (List.mem_of_getElem? (i := 15) (by decide +kernel))) rfl
theorem lv_X7_139 : LV RX7 139 yX7_takeMacro cX7_takeMacro 2 (some .boolean) 0 7 := ⟨⟨(RX7, TX7, 10), rfl, rfl⟩, yo_X7_takeMacro, mW (mT3 (List.mem_of_getElem? (i := 220) (by decide +kernel))) rfl, im_X7_takeMacro, se_X7_takeMacro, in_X7_takeMacro, co_X7_takeMacro⟩
theorem yo_X7_takeChord : yX7_takeChord.cls ≠ "java/lang/invoke/MethodHandle" ∧ yX7_takeChord.cls ≠ "java/lang/invoke/VarHandle" ∧ (parseMethodDescriptor yX7_takeChord.desc).map (fun d => d.parameters.length) = some 0 := by decide +kernel
theorem co_X7_takeChord : Cond.code yX7_takeChord cX7_takeChord 4 (some .boolean) ∈ wl := mW (mT3 (List.mem_of_getElem? (i := 202) (by decide +kernel))) rfl
theorem in_X7_takeChord : Cond.initialized yX7_takeChord.cls ∈ wl := mW (mT1 (List.mem_of_getElem? (i := 2) (by decide +kernel))) rfl
theorem im_X7_takeChord : Cond.instanceMethod yX7_takeChord ∈ wl := mW (mT3 (List.mem_of_getElem? (i := 201) (by decide +kernel))) rfl
theorem se_X7_takeChord : Cond.selects yX7_takeChord.cls yX7_takeChord yX7_takeChord ∈ wl := mW (mT0 (List.mem_of_getElem? (i := 13) (by decide +kernel))) rfl
theorem lv_X7_136 : LV RX7 136 yX7_takeChord cX7_takeChord 4 (some .boolean) 0 7 := ⟨⟨(RX7, TX7, 10), rfl, rfl⟩, yo_X7_takeChord, mW (mT3 (List.mem_of_getElem? (i := 199) (by decide +kernel))) rfl, im_X7_takeChord, se_X7_takeChord, in_X7_takeChord, co_X7_takeChord⟩
theorem yo_X7_takeKey : yX7_takeKey.cls ≠ "java/lang/invoke/MethodHandle" ∧ yX7_takeKey.cls ≠ "java/lang/invoke/VarHandle" ∧ (parseMethodDescriptor yX7_takeKey.desc).map (fun d => d.parameters.length) = some 0 := by decide +kernel
theorem co_X7_takeKey : Cond.code yX7_takeKey cX7_takeKey 3 (some .boolean) ∈ wl := mW (mT3 (List.mem_of_getElem? (i := 168) (by decide +kernel))) rfl
theorem in_X7_takeKey : Cond.initialized yX7_takeKey.cls ∈ wl := mW (mT1 (List.mem_of_getElem? (i := 2) (by decide +kernel))) rfl
theorem im_X7_takeKey : Cond.instanceMethod yX7_takeKey ∈ wl := mW (mT3 (List.mem_of_getElem? (i := 167) (by decide +kernel))) rfl
theorem se_X7_takeKey : Cond.selects yX7_takeKey.cls yX7_takeKey yX7_takeKey ∈ wl := mW (mT0 (List.mem_of_getElem? (i := 11) (by decide +kernel))) rfl
theorem lv_X7_133 : LV RX7 133 yX7_takeKey cX7_takeKey 3 (some .boolean) 0 7 := ⟨⟨(RX7, TX7, 10), rfl, rfl⟩, yo_X7_takeKey, mW (mT3 (List.mem_of_getElem? (i := 165) (by decide +kernel))) rfl, im_X7_takeKey, se_X7_takeKey, in_X7_takeKey, co_X7_takeKey⟩
theorem fl_X7_127 : FLI RX7 127 0 3 := ⟨⟨RX0, TX0, 19, rfl, by decide, inl0, Or.inr (mT1 (List.mem_of_getElem? (i := 121) (by decide +kernel)))⟩, by decide, by decide +kernel⟩
theorem fl_X7_121 : FLI RX7 121 0 2 := ⟨⟨RX0, TX0, 19, rfl, by decide, inl0, Or.inr (mT1 (List.mem_of_getElem? (i := 118) (by decide +kernel)))⟩, by decide, by decide +kernel⟩
theorem fl_X7_115 : FLI RX7 115 0 16 := ⟨⟨RX0, TX0, 19, rfl, by decide, inl0, Or.inr (mT1 (List.mem_of_getElem? (i := 161) (by decide +kernel)))⟩, by decide, by decide +kernel⟩
theorem fl_X7_109 : FLI RX7 109 0 12 := ⟨⟨RX0, TX0, 19, rfl, by decide, inl0, Or.inr (mT1 (List.mem_of_getElem? (i := 151) (by decide +kernel)))⟩, by decide, by decide +kernel⟩
theorem dX7_takeLine_0 : decode cX7_takeLine 0 = .ok (.aload_n 0, 1) := by decide +kernel
theorem dX7_takeLine_1 : decode cX7_takeLine 1 = .ok (.getfield 12, 3) := by decide +kernel
theorem dX7_takeLine_4 : decode cX7_takeLine 4 = .ok (.aload_n 0, 1) := by decide +kernel
theorem dX7_takeLine_5 : decode cX7_takeLine 5 = .ok (.getfield 39, 3) := by decide +kernel
theorem dX7_takeLine_8 : decode cX7_takeLine 8 = .ok (.invokevirtual 72, 3) := by decide +kernel
theorem dX7_takeLine_11 : decode cX7_takeLine 11 = .ok (.astore_n 1, 1) := by decide +kernel
theorem dX7_takeLine_12 : decode cX7_takeLine 12 = .ok (.aload_n 1, 1) := by decide +kernel
theorem dX7_takeLine_13 : decode cX7_takeLine 13 = .ok (.ifnull 10, 3) := by decide +kernel
theorem dX7_takeLine_16 : decode cX7_takeLine 16 = .ok (.aload_n 1, 1) := by decide +kernel
theorem dX7_takeLine_17 : decode cX7_takeLine 17 = .ok (.getfield 102, 3) := by decide +kernel
theorem dX7_takeLine_20 : decode cX7_takeLine 20 = .ok (.ifCond .ne 9, 3) := by decide +kernel
theorem dX7_takeLine_23 : decode cX7_takeLine 23 = .ok (.aload_n 0, 1) := by decide +kernel
theorem dX7_takeLine_24 : decode cX7_takeLine 24 = .ok (.iconst 1, 1) := by decide +kernel
theorem dX7_takeLine_25 : decode cX7_takeLine 25 = .ok (.invokevirtual 82, 3) := by decide +kernel
theorem dX7_takeLine_28 : decode cX7_takeLine 28 = .ok (.ireturn, 1) := by decide +kernel
theorem dX7_takeLine_29 : decode cX7_takeLine 29 = .ok (.aload_n 1, 1) := by decide +kernel
theorem dX7_takeLine_30 : decode cX7_takeLine 30 = .ok (.getstatic 106, 3) := by decide +kernel
theorem dX7_takeLine_33 : decode cX7_takeLine 33 = .ok (.if_acmp .ne 14, 3) := by decide +kernel
theorem dX7_takeLine_36 : decode cX7_takeLine 36 = .ok (.aload_n 0, 1) := by decide +kernel
theorem dX7_takeLine_37 : decode cX7_takeLine 37 = .ok (.getfield 28, 3) := by decide +kernel
theorem dX7_takeLine_40 : decode cX7_takeLine 40 = .ok (.getfield 109, 3) := by decide +kernel
theorem dX7_takeLine_43 : decode cX7_takeLine 43 = .ok (.iconst 4, 1) := by decide +kernel
theorem dX7_takeLine_44 : decode cX7_takeLine 44 = .ok (.if_icmp .eq 21, 3) := by decide +kernel
theorem dX7_takeLine_47 : decode cX7_takeLine 47 = .ok (.aload_n 1, 1) := by decide +kernel
theorem dX7_takeLine_48 : decode cX7_takeLine 48 = .ok (.getstatic 112, 3) := by decide +kernel
theorem dX7_takeLine_51 : decode cX7_takeLine 51 = .ok (.if_acmp .ne 20, 3) := by decide +kernel
theorem dX7_takeLine_54 : decode cX7_takeLine 54 = .ok (.aload_n 0, 1) := by decide +kernel
theorem dX7_takeLine_55 : decode cX7_takeLine 55 = .ok (.getfield 28, 3) := by decide +kernel
theorem dX7_takeLine_58 : decode cX7_takeLine 58 = .ok (.getfield 115, 3) := by decide +kernel
theorem dX7_takeLine_61 : decode cX7_takeLine 61 = .ok (.iconst 4, 1) := by decide +kernel
theorem dX7_takeLine_62 : decode cX7_takeLine 62 = .ok (.if_icmp .ne 9, 3) := by decide +kernel
theorem dX7_takeLine_65 : decode cX7_takeLine 65 = .ok (.aload_n 0, 1) := by decide +kernel
theorem dX7_takeLine_66 : decode cX7_takeLine 66 = .ok (.iconst 2, 1) := by decide +kernel
theorem dX7_takeLine_67 : decode cX7_takeLine 67 = .ok (.invokevirtual 82, 3) := by decide +kernel
theorem dX7_takeLine_70 : decode cX7_takeLine 70 = .ok (.ireturn, 1) := by decide +kernel
theorem dX7_takeLine_71 : decode cX7_takeLine 71 = .ok (.aload_n 0, 1) := by decide +kernel
theorem dX7_takeLine_72 : decode cX7_takeLine 72 = .ok (.iconst 1, 1) := by decide +kernel
theorem dX7_takeLine_73 : decode cX7_takeLine 73 = .ok (.invokevirtual 86, 3) := by decide +kernel
theorem dX7_takeLine_76 : decode cX7_takeLine 76 = .ok (.ifCond .ne 5, 3) := by decide +kernel
theorem dX7_takeLine_79 : decode cX7_takeLine 79 = .ok (.iconst 0, 1) := by decide +kernel
theorem dX7_takeLine_80 : decode cX7_takeLine 80 = .ok (.ireturn, 1) := by decide +kernel
theorem dX7_takeLine_81 : decode cX7_takeLine 81 = .ok (.iconst 1, 1) := by decide +kernel
theorem dX7_takeLine_82 : decode cX7_takeLine 82 = .ok (.istore_n 2, 1) := by decide +kernel
theorem dX7_takeLine_83 : decode cX7_takeLine 83 = .ok (.aload_n 1, 1) := by decide +kernel
theorem dX7_takeLine_84 : decode cX7_takeLine 84 = .ok (.getstatic 118, 3) := by decide +kernel
theorem dX7_takeLine_87 : decode cX7_takeLine 87 = .ok (.if_acmp .ne 14, 3) := by decide +kernel
theorem dX7_takeLine_90 : decode cX7_takeLine 90 = .ok (.aload_n 0, 1) := by decide +kernel
theorem dX7_takeLine_91 : decode cX7_takeLine 91 = .ok (.getfield 28, 3) := by decide +kernel
theorem dX7_takeLine_94 : decode cX7_takeLine 94 = .ok (.iconst 1, 1) := by decide +kernel
theorem dX7_takeLine_95 : decode cX7_takeLine 95 = .ok (.putfield 121, 3) := by decide +kernel
theorem dX7_takeLine_98 : decode cX7_takeLine 98 = .ok (.goto 72, 3) := by decide +kernel
theorem dX7_takeLine_101 : decode cX7_takeLine 101 = .ok (.aload_n 1, 1) := by decide +kernel
theorem dX7_takeLine_102 : decode cX7_takeLine 102 = .ok (.getstatic 124, 3) := by decide +kernel
theorem dX7_takeLine_105 : decode cX7_takeLine 105 = .ok (.if_acmp .ne 14, 3) := by decide +kernel
theorem dX7_takeLine_108 : decode cX7_takeLine 108 = .ok (.aload_n 0, 1) := by decide +kernel
theorem dX7_takeLine_109 : decode cX7_takeLine 109 = .ok (.getfield 28, 3) := by decide +kernel
theorem dX7_takeLine_112 : decode cX7_takeLine 112 = .ok (.iconst 1, 1) := by decide +kernel
theorem dX7_takeLine_113 : decode cX7_takeLine 113 = .ok (.putfield 127, 3) := by decide +kernel
theorem dX7_takeLine_116 : decode cX7_takeLine 116 = .ok (.goto 54, 3) := by decide +kernel
theorem dX7_takeLine_119 : decode cX7_takeLine 119 = .ok (.aload_n 1, 1) := by decide +kernel
theorem dX7_takeLine_120 : decode cX7_takeLine 120 = .ok (.getstatic 130, 3) := by decide +kernel
theorem dX7_takeLine_123 : decode cX7_takeLine 123 = .ok (.if_acmp .ne 11, 3) := by decide +kernel
theorem dX7_takeLine_126 : decode cX7_takeLine 126 = .ok (.aload_n 0, 1) := by decide +kernel
theorem dX7_takeLine_127 : decode cX7_takeLine 127 = .ok (.invokevirtual 133, 3) := by decide +kernel
theorem dX7_takeLine_130 : decode cX7_takeLine 130 = .ok (.istore_n 2, 1) := by decide +kernel
theorem dX7_takeLine_131 : decode cX7_takeLine 131 = .ok (.goto 39, 3) := by decide +kernel
theorem dX7_takeLine_134 : decode cX7_takeLine 134 = .ok (.aload_n 1, 1) := by decide +kernel
theorem dX7_takeLine_135 : decode cX7_takeLine 135 = .ok (.getstatic 106, 3) := by decide +kernel
theorem dX7_takeLine_138 : decode cX7_takeLine 138 = .ok (.if_acmp .ne 11, 3) := by decide +kernel
theorem dX7_takeLine_141 : decode cX7_takeLine 141 = .ok (.aload_n 0, 1) := by decide +kernel
theorem dX7_takeLine_142 : decode cX7_takeLine 142 = .ok (.invokevirtual 136, 3) := by decide +kernel
theorem dX7_takeLine_145 : decode cX7_takeLine 145 = .ok (.istore_n 2, 1) := by decide +kernel
theorem dX7_takeLine_146 : decode cX7_takeLine 146 = .ok (.goto 24, 3) := by decide +kernel
theorem dX7_takeLine_149 : decode cX7_takeLine 149 = .ok (.aload_n 1, 1) := by decide +kernel
theorem dX7_takeLine_150 : decode cX7_takeLine 150 = .ok (.getstatic 112, 3) := by decide +kernel
theorem dX7_takeLine_153 : decode cX7_takeLine 153 = .ok (.if_acmp .ne 11, 3) := by decide +kernel
theorem dX7_takeLine_156 : decode cX7_takeLine 156 = .ok (.aload_n 0, 1) := by decide +kernel
theorem dX7_takeLine_157 : decode cX7_takeLine 157 = .ok (.invokevirtual 139, 3) := by decide +kernel
theorem dX7_takeLine_160 : decode cX7_takeLine 160 = .ok (.istore_n 2, 1) := by decide +kernel
theorem dX7_takeLine_161 : decode cX7_takeLine 161 = .ok (.goto 9, 3) := by decide +kernel
theorem dX7_takeLine_164 : decode cX7_takeLine 164 = .ok (.aload_n 0, 1) := by decide +kernel
theorem dX7_takeLine_165 : decode cX7_takeLine 165 = .ok (.aload_n 1, 1) := by decide +kernel
theorem dX7_takeLine_166 : decode cX7_takeLine 166 = .ok (.invokevirtual 142, 3) := by decide +kernel
theorem dX7_takeLine_169 : decode cX7_takeLine 169 = .ok (.istore_n 2, 1) := by decide +kernel
theorem dX7_takeLine_170 : decode cX7_takeLine 170 = .ok (.iload_n 2, 1) := by decide +kernel
theorem dX7_takeLine_171 : decode cX7_takeLine 171 = .ok (.ifCond .eq 15, 3) := by decide +kernel
theorem dX7_takeLine_174 : decode cX7_takeLine 174 = .ok (.aload_n 0, 1) := by decide +kernel
theorem dX7_takeLine_175 : decode cX7_takeLine 175 = .ok (.iconst 3, 1) := by decide +kernel
theorem dX7_takeLine_176 : decode cX7_takeLine 176 = .ok (.invokevirtual 86, 3) := by decide +kernel
theorem dX7_takeLine_179 : decode cX7_takeLine 179 = .ok (.ifCond .eq 7, 3) := by decide +kernel
theorem dX7_takeLine_182 : decode cX7_takeLine 182 = .ok (.iconst 1, 1) := by decide +kernel
theorem dX7_takeLine_183 : decode cX7_takeLine 183 = .ok (.goto 4, 3) := by decide +kernel
theorem dX7_takeLine_186 : decode cX7_takeLine 186 = .ok (.iconst 0, 1) := by decide +kernel
theorem dX7_takeLine_187 : decode cX7_takeLine 187 = .ok (.ireturn, 1) := by decide +kernel
def rmX7_takeLine : Room := { frames := 5, cells := 0, slots := 0, locals := 109 }
set_option maxRecDepth 100000 in
def fX7_takeLine_J23 (N : Nat) (g : Gs) (x0 : Nat) (d : Ds) : Option (Int32 × Ds) := gd (chk g x0 7) <| cb (fX7_fail N g x0 1 d) fun u11 d9 => (gd (u11 = 0 ∨ u11 = 1) <| some (u11, d9))
set_option maxHeartbeats 4000000 in
set_option maxRecDepth 100000 in
theorem tX7_takeLine_23 {p : Program} {l : Launch} {e : Env} {s : State} {m : MethodId} {args : Array Value} {below : List Frame} {meth : Method} {c : Code} {D : va_G} {cy : Nat → ClassId} {B : Bs} (C : Cx p s m args c cX7_takeLine 3 RX7 D cy B) (hr : meth.sig.returnType = (some .boolean)) (hlocks : meth.locks = false) {N : Nat} {g : Gs} {x0 : Nat} {vz : Int32} {dz : Ds} {d : Ds} (hf : fX7_takeLine_J23 N g x0 d = some (vz, dz)) : WB p l e rmX7_takeLine s m args below meth c 3 D cy B 0 0 (MQ below (QI D cy B vz g dz) args s 0 0 (wA B)) g d [(0, .ref (ad B x0))] 23 [] := by
  unfold fX7_takeLine_J23 at hf
  refine b_aload_n C dX7_takeLine_23 0 rfl rfl ?_
  refine b_iconst C (v := 1) dX7_takeLine_24 (by decide) ?_
  obtain ⟨h8, hf⟩ := gd_s hf
  obtain ⟨u11, d9, k10, hf⟩ := cb_s hf
  refine b_cVI C [] dX7_takeLine_25 (kX7_fail l D cy B k10) lv_X7_82 ⟨rfl, rfl, Nat.le_of_ble_eq_true rfl, Nat.le_of_ble_eq_true rfl⟩ h8 (by decide) rfl (Nat.le_of_ble_eq_true rfl) ⟨Nat.zero_le _, Nat.zero_le _⟩ rfl ?_
  obtain ⟨h12, hf⟩ := gd_s hf
  exact b_zret C hr hlocks h12 hf dX7_takeLine_28
set_option maxRecDepth 100000 in
def fX7_takeLine_J187 (N : Nat) (g : Gs) (x0 : Nat) (z0 : Int32) (d : Ds) : Option (Int32 × Ds) := gd (z0 = 0 ∨ z0 = 1) <| some (z0, d)
set_option maxHeartbeats 4000000 in
set_option maxRecDepth 100000 in
theorem tX7_takeLine_187 {p : Program} {l : Launch} {e : Env} {s : State} {m : MethodId} {args : Array Value} {below : List Frame} {meth : Method} {c : Code} {D : va_G} {cy : Nat → ClassId} {B : Bs} (C : Cx p s m args c cX7_takeLine 3 RX7 D cy B) (hr : meth.sig.returnType = (some .boolean)) (hlocks : meth.locks = false) {N : Nat} {g : Gs} {x0 : Nat} {vz : Int32} {dz : Ds} {z0 : Int32} {d : Ds} (hf : fX7_takeLine_J187 N g x0 z0 d = some (vz, dz)) : WB p l e rmX7_takeLine s m args below meth c 3 D cy B 0 0 (MQ below (QI D cy B vz g dz) args s 0 0 (wA B)) g d [(0, .ref (ad B x0))] 187 [.int z0] := by
  unfold fX7_takeLine_J187 at hf
  obtain ⟨h42, hf⟩ := gd_s hf
  exact b_zret C hr hlocks h42 hf dX7_takeLine_187
set_option maxRecDepth 100000 in
def fX7_takeLine_J186 (N : Nat) (g : Gs) (x0 : Nat) (d : Ds) : Option (Int32 × Ds) := fX7_takeLine_J187 N g x0 0 d
set_option maxHeartbeats 4000000 in
set_option maxRecDepth 100000 in
theorem tX7_takeLine_186 {p : Program} {l : Launch} {e : Env} {s : State} {m : MethodId} {args : Array Value} {below : List Frame} {meth : Method} {c : Code} {D : va_G} {cy : Nat → ClassId} {B : Bs} (C : Cx p s m args c cX7_takeLine 3 RX7 D cy B) (hr : meth.sig.returnType = (some .boolean)) (hlocks : meth.locks = false) {N : Nat} {g : Gs} {x0 : Nat} {vz : Int32} {dz : Ds} {d : Ds} (hf : fX7_takeLine_J186 N g x0 d = some (vz, dz)) : WB p l e rmX7_takeLine s m args below meth c 3 D cy B 0 0 (MQ below (QI D cy B vz g dz) args s 0 0 (wA B)) g d [(0, .ref (ad B x0))] 186 [] := by
  unfold fX7_takeLine_J186 at hf
  refine b_iconst C (v := 0) dX7_takeLine_186 (by decide) ?_
  refine b_sub [(0, .ref (ad B x0))] [0] rfl ?_
  exact tX7_takeLine_187 C hr hlocks hf
set_option maxRecDepth 100000 in
def fX7_takeLine_J170 (N : Nat) (g : Gs) (x0 : Nat) (y2 : Int32) (d : Ds) : Option (Int32 × Ds) := if y2 = 0 then (fX7_takeLine_J186 N g x0 d) else (gd (chk g x0 7) <| cb (fX7_takeToken N g x0 3 d) fun u46 d44 => (if u46 = 0 then (fX7_takeLine_J186 N g x0 d44) else (fX7_takeLine_J187 N g x0 1 d44)))
set_option maxHeartbeats 4000000 in
set_option maxRecDepth 100000 in
theorem tX7_takeLine_170 {p : Program} {l : Launch} {e : Env} {s : State} {m : MethodId} {args : Array Value} {below : List Frame} {meth : Method} {c : Code} {D : va_G} {cy : Nat → ClassId} {B : Bs} (C : Cx p s m args c cX7_takeLine 3 RX7 D cy B) (hr : meth.sig.returnType = (some .boolean)) (hlocks : meth.locks = false) {N : Nat} {g : Gs} {x0 : Nat} {vz : Int32} {dz : Ds} {y2 : Int32} {d : Ds} (hf : fX7_takeLine_J170 N g x0 y2 d = some (vz, dz)) : WB p l e rmX7_takeLine s m args below meth c 3 D cy B 0 0 (MQ below (QI D cy B vz g dz) args s 0 0 (wA B)) g d [(0, .ref (ad B x0)), (2, .int y2)] 170 [] := by
  unfold fX7_takeLine_J170 at hf
  refine b_iload_n C dX7_takeLine_170 1 rfl rfl ?_
  refine b_if_eq C (tgt := 186) dX7_takeLine_171 (by decide) (fun c41 => ?_) (fun c41 => ?_)
  · have hf := it_s c41 hf
    refine b_sub [(0, .ref (ad B x0))] [0] rfl ?_
    exact tX7_takeLine_186 C hr hlocks hf
  · have hf := if_s c41 hf
    refine b_aload_n C dX7_takeLine_174 0 rfl rfl ?_
    refine b_iconst C (v := 3) dX7_takeLine_175 (by decide) ?_
    obtain ⟨h43, hf⟩ := gd_s hf
    obtain ⟨u46, d44, k45, hf⟩ := cb_s hf
    refine b_cVI C [] dX7_takeLine_176 (kX7_takeToken l D cy B k45) lv_X7_86 ⟨rfl, rfl, Nat.le_of_ble_eq_true rfl, Nat.le_of_ble_eq_true rfl⟩ h43 (by decide) rfl (Nat.le_of_ble_eq_true rfl) ⟨Nat.zero_le _, Nat.zero_le _⟩ rfl ?_
    refine b_if_eq C (tgt := 186) dX7_takeLine_179 (by decide) (fun c47 => ?_) (fun c47 => ?_)
    · have hf := it_s c47 hf
      refine b_sub [(0, .ref (ad B x0))] [0] rfl ?_
      exact tX7_takeLine_186 C hr hlocks hf
    · have hf := if_s c47 hf
      refine b_iconst C (v := 1) dX7_takeLine_182 (by decide) ?_
      refine b_goto C (tgt := 187) dX7_takeLine_183 (by decide) ?_
      refine b_sub [(0, .ref (ad B x0))] [0] rfl ?_
      exact tX7_takeLine_187 C hr hlocks hf
set_option maxRecDepth 100000 in
def fX7_takeLine_J71 (N : Nat) (g : Gs) (x0 : Nat) (y1 : Option Nat) (d : Ds) : Option (Int32 × Ds) := gd (chk g x0 7) <| cb (fX7_takeToken N g x0 1 d) fun u25 d23 => (if u25 = 0 then (some (0, d23)) else (gd (wkb y1) <| gd (wkb (some 100001)) <| if y1 = (some 100001) then (ob (gR g x0 2) fun r60 => (gd (chk g r60 0) <| bd (sI d23 r60 2 1) fun d62 => (fX7_takeLine_J170 N g x0 1 d62))) else (gd (wkb (some 100002)) <| if y1 = (some 100002) then (ob (gR g x0 2) fun r57 => (gd (chk g r57 0) <| bd (sI d23 r57 3 1) fun d59 => (fX7_takeLine_J170 N g x0 1 d59))) else (gd (wkb (some 100008)) <| if y1 = (some 100008) then (cb (fX7_takeKey N g x0 d23) fun u56 d54 => (fX7_takeLine_J170 N g x0 u56 d54)) else (gd (wkb (some 100009)) <| if y1 = (some 100009) then (cb (fX7_takeChord N g x0 d23) fun u53 d51 => (fX7_takeLine_J170 N g x0 u53 d51)) else (gd (wkb (some 100010)) <| if y1 = (some 100010) then (cb (fX7_takeMacro N g x0 d23) fun u50 d48 => (fX7_takeLine_J170 N g x0 u50 d48)) else (cb (fX7_takeSetting N g x0 y1 d23) fun u40 d38 => (fX7_takeLine_J170 N g x0 u40 d38))))))))
set_option maxHeartbeats 4000000 in
set_option maxRecDepth 100000 in
theorem tX7_takeLine_71 {p : Program} {l : Launch} {e : Env} {s : State} {m : MethodId} {args : Array Value} {below : List Frame} {meth : Method} {c : Code} {D : va_G} {cy : Nat → ClassId} {B : Bs} (C : Cx p s m args c cX7_takeLine 3 RX7 D cy B) (hr : meth.sig.returnType = (some .boolean)) (hlocks : meth.locks = false) {N : Nat} {g : Gs} {x0 : Nat} {vz : Int32} {dz : Ds} {y1 : Option Nat} {d : Ds} (hf : fX7_takeLine_J71 N g x0 y1 d = some (vz, dz)) : WB p l e rmX7_takeLine s m args below meth c 3 D cy B 0 0 (MQ below (QI D cy B vz g dz) args s 0 0 (wA B)) g d [(0, .ref (ad B x0)), (1, rv B y1)] 71 [] := by
  unfold fX7_takeLine_J71 at hf
  refine b_aload_n C dX7_takeLine_71 0 rfl rfl ?_
  refine b_iconst C (v := 1) dX7_takeLine_72 (by decide) ?_
  obtain ⟨h22, hf⟩ := gd_s hf
  obtain ⟨u25, d23, k24, hf⟩ := cb_s hf
  refine b_cVI C [] dX7_takeLine_73 (kX7_takeToken l D cy B k24) lv_X7_86 ⟨rfl, rfl, Nat.le_of_ble_eq_true rfl, Nat.le_of_ble_eq_true rfl⟩ h22 (by decide) rfl (Nat.le_of_ble_eq_true rfl) ⟨Nat.zero_le _, Nat.zero_le _⟩ rfl ?_
  refine b_if_ne C (tgt := 81) dX7_takeLine_76 (by decide) (fun c26 => ?_) (fun c26 => ?_)
  · have hf := if_s c26 hf
    refine b_iconst C (v := 1) dX7_takeLine_81 (by decide) ?_
    refine b_istore_n C dX7_takeLine_82 rfl [(2, .int 1), (0, .ref (ad B x0)), (1, rv B y1)] (by decide) (by simp [List.filter, rv_cat1]) ?_
    refine b_aload_nQ C dX7_takeLine_83 2 rfl rfl ?_
    refine b_getW C (i := 1) (by decide) ws_X7_118 dX7_takeLine_84 ?_
    obtain ⟨h27, hf⟩ := gd_s hf
    obtain ⟨h28, hf⟩ := gd_s hf
    refine b_acmp_ne C (tgt := 101) (wkb_s h27) (wkb_s h28) dX7_takeLine_87 (by decide) (fun c29 => ?_) (fun c29 => ?_)
    · have hf := if_s c29 hf
      refine b_aload_nQ C dX7_takeLine_101 2 rfl rfl ?_
      refine b_getW C (i := 2) (by decide) ws_X7_124 dX7_takeLine_102 ?_
      obtain ⟨h30, hf⟩ := gd_s hf
      refine b_acmp_ne C (tgt := 119) (wkb_s h27) (wkb_s h30) dX7_takeLine_105 (by decide) (fun c31 => ?_) (fun c31 => ?_)
      · have hf := if_s c31 hf
        refine b_aload_nQ C dX7_takeLine_119 2 rfl rfl ?_
        refine b_getW C (i := 8) (by decide) ws_X7_130 dX7_takeLine_120 ?_
        obtain ⟨h32, hf⟩ := gd_s hf
        refine b_acmp_ne C (tgt := 134) (wkb_s h27) (wkb_s h32) dX7_takeLine_123 (by decide) (fun c33 => ?_) (fun c33 => ?_)
        · have hf := if_s c33 hf
          refine b_aload_nQ C dX7_takeLine_134 2 rfl rfl ?_
          refine b_getW C (i := 9) (by decide) ws_X7_106 dX7_takeLine_135 ?_
          obtain ⟨h34, hf⟩ := gd_s hf
          refine b_acmp_ne C (tgt := 149) (wkb_s h27) (wkb_s h34) dX7_takeLine_138 (by decide) (fun c35 => ?_) (fun c35 => ?_)
          · have hf := if_s c35 hf
            refine b_aload_nQ C dX7_takeLine_149 2 rfl rfl ?_
            refine b_getW C (i := 10) (by decide) ws_X7_112 dX7_takeLine_150 ?_
            obtain ⟨h36, hf⟩ := gd_s hf
            refine b_acmp_ne C (tgt := 164) (wkb_s h27) (wkb_s h36) dX7_takeLine_153 (by decide) (fun c37 => ?_) (fun c37 => ?_)
            · have hf := if_s c37 hf
              refine b_aload_n C dX7_takeLine_164 1 rfl rfl ?_
              refine b_aload_nQ C dX7_takeLine_165 2 rfl rfl ?_
              obtain ⟨u40, d38, k39, hf⟩ := cb_s hf
              refine b_cVI C [] dX7_takeLine_166 (kX7_takeSetting l D cy B k39) lv_X7_142 ⟨rfl, rfl, Nat.le_of_ble_eq_true rfl, Nat.le_of_ble_eq_true rfl⟩ h22 (by decide) rfl (Nat.le_of_ble_eq_true rfl) ⟨Nat.zero_le _, Nat.zero_le _⟩ rfl ?_
              refine b_istore_n C dX7_takeLine_169 rfl [(2, .int u40), (0, .ref (ad B x0)), (1, rv B y1)] (by decide) (by simp [List.filter, rv_cat1]) ?_
              refine b_sub [(0, .ref (ad B x0)), (2, .int u40)] [1, 0] rfl ?_
              exact tX7_takeLine_170 C hr hlocks hf
            · have hf := it_s c37 hf
              refine b_aload_n C dX7_takeLine_156 1 rfl rfl ?_
              obtain ⟨u50, d48, k49, hf⟩ := cb_s hf
              refine b_cVI C [] dX7_takeLine_157 (kX7_takeMacro l D cy B k49) lv_X7_139 ⟨rfl, rfl, Nat.le_of_ble_eq_true rfl, Nat.le_of_ble_eq_true rfl⟩ h22 (by decide) rfl (Nat.le_of_ble_eq_true rfl) ⟨Nat.zero_le _, Nat.zero_le _⟩ rfl ?_
              refine b_istore_n C dX7_takeLine_160 rfl [(2, .int u50), (0, .ref (ad B x0)), (1, rv B y1)] (by decide) (by simp [List.filter, rv_cat1]) ?_
              refine b_goto C (tgt := 170) dX7_takeLine_161 (by decide) ?_
              refine b_sub [(0, .ref (ad B x0)), (2, .int u50)] [1, 0] rfl ?_
              exact tX7_takeLine_170 C hr hlocks hf
          · have hf := it_s c35 hf
            refine b_aload_n C dX7_takeLine_141 1 rfl rfl ?_
            obtain ⟨u53, d51, k52, hf⟩ := cb_s hf
            refine b_cVI C [] dX7_takeLine_142 (kX7_takeChord l D cy B k52) lv_X7_136 ⟨rfl, rfl, Nat.le_of_ble_eq_true rfl, Nat.le_of_ble_eq_true rfl⟩ h22 (by decide) rfl (Nat.le_of_ble_eq_true rfl) ⟨Nat.zero_le _, Nat.zero_le _⟩ rfl ?_
            refine b_istore_n C dX7_takeLine_145 rfl [(2, .int u53), (0, .ref (ad B x0)), (1, rv B y1)] (by decide) (by simp [List.filter, rv_cat1]) ?_
            refine b_goto C (tgt := 170) dX7_takeLine_146 (by decide) ?_
            refine b_sub [(0, .ref (ad B x0)), (2, .int u53)] [1, 0] rfl ?_
            exact tX7_takeLine_170 C hr hlocks hf
        · have hf := it_s c33 hf
          refine b_aload_n C dX7_takeLine_126 1 rfl rfl ?_
          obtain ⟨u56, d54, k55, hf⟩ := cb_s hf
          refine b_cVI C [] dX7_takeLine_127 (kX7_takeKey l D cy B k55) lv_X7_133 ⟨rfl, rfl, Nat.le_of_ble_eq_true rfl, Nat.le_of_ble_eq_true rfl⟩ h22 (by decide) rfl (Nat.le_of_ble_eq_true rfl) ⟨Nat.zero_le _, Nat.zero_le _⟩ rfl ?_
          refine b_istore_n C dX7_takeLine_130 rfl [(2, .int u56), (0, .ref (ad B x0)), (1, rv B y1)] (by decide) (by simp [List.filter, rv_cat1]) ?_
          refine b_goto C (tgt := 170) dX7_takeLine_131 (by decide) ?_
          refine b_sub [(0, .ref (ad B x0)), (2, .int u56)] [1, 0] rfl ?_
          exact tX7_takeLine_170 C hr hlocks hf
      · have hf := it_s c31 hf
        refine b_aload_n C dX7_takeLine_108 1 rfl rfl ?_
        obtain ⟨r57, er57, hf⟩ := ob_s hf
        refine b_gR C dX7_takeLine_109 fl_X7_28 h22 er57 ?_
        refine b_iconst C (v := 1) dX7_takeLine_112 (by decide) ?_
        obtain ⟨h58, hf⟩ := gd_s hf
        obtain ⟨d59, ed59, hf⟩ := bd_s hf
        refine b_pZ C dX7_takeLine_113 fl_X7_127 fp0_3 (by decide) h58 ed59 ?_
        refine b_goto C (tgt := 170) dX7_takeLine_116 (by decide) ?_
        refine b_sub [(0, .ref (ad B x0)), (2, .int 1)] [1, 0] rfl ?_
        exact tX7_takeLine_170 C hr hlocks hf
    · have hf := it_s c29 hf
      refine b_aload_n C dX7_takeLine_90 1 rfl rfl ?_
      obtain ⟨r60, er60, hf⟩ := ob_s hf
      refine b_gR C dX7_takeLine_91 fl_X7_28 h22 er60 ?_
      refine b_iconst C (v := 1) dX7_takeLine_94 (by decide) ?_
      obtain ⟨h61, hf⟩ := gd_s hf
      obtain ⟨d62, ed62, hf⟩ := bd_s hf
      refine b_pZ C dX7_takeLine_95 fl_X7_121 fp0_2 (by decide) h61 ed62 ?_
      refine b_goto C (tgt := 170) dX7_takeLine_98 (by decide) ?_
      refine b_sub [(0, .ref (ad B x0)), (2, .int 1)] [1, 0] rfl ?_
      exact tX7_takeLine_170 C hr hlocks hf
  · have hf := it_s c26 hf
    refine b_iconst C (v := 0) dX7_takeLine_79 (by decide) ?_
    exact b_zret C hr hlocks (by decide) hf dX7_takeLine_80
set_option maxRecDepth 100000 in
def fX7_takeLine_J65 (N : Nat) (g : Gs) (x0 : Nat) (d : Ds) : Option (Int32 × Ds) := gd (chk g x0 7) <| cb (fX7_fail N g x0 2 d) fun u70 d68 => (gd (u70 = 0 ∨ u70 = 1) <| some (u70, d68))
set_option maxHeartbeats 4000000 in
set_option maxRecDepth 100000 in
theorem tX7_takeLine_65 {p : Program} {l : Launch} {e : Env} {s : State} {m : MethodId} {args : Array Value} {below : List Frame} {meth : Method} {c : Code} {D : va_G} {cy : Nat → ClassId} {B : Bs} (C : Cx p s m args c cX7_takeLine 3 RX7 D cy B) (hr : meth.sig.returnType = (some .boolean)) (hlocks : meth.locks = false) {N : Nat} {g : Gs} {x0 : Nat} {vz : Int32} {dz : Ds} {d : Ds} (hf : fX7_takeLine_J65 N g x0 d = some (vz, dz)) : WB p l e rmX7_takeLine s m args below meth c 3 D cy B 0 0 (MQ below (QI D cy B vz g dz) args s 0 0 (wA B)) g d [(0, .ref (ad B x0))] 65 [] := by
  unfold fX7_takeLine_J65 at hf
  refine b_aload_n C dX7_takeLine_65 0 rfl rfl ?_
  refine b_iconst C (v := 2) dX7_takeLine_66 (by decide) ?_
  obtain ⟨h67, hf⟩ := gd_s hf
  obtain ⟨u70, d68, k69, hf⟩ := cb_s hf
  refine b_cVI C [] dX7_takeLine_67 (kX7_fail l D cy B k69) lv_X7_82 ⟨rfl, rfl, Nat.le_of_ble_eq_true rfl, Nat.le_of_ble_eq_true rfl⟩ h67 (by decide) rfl (Nat.le_of_ble_eq_true rfl) ⟨Nat.zero_le _, Nat.zero_le _⟩ rfl ?_
  obtain ⟨h71, hf⟩ := gd_s hf
  exact b_zret C hr hlocks h71 hf dX7_takeLine_70
set_option maxRecDepth 100000 in
def fX7_takeLine_J47 (N : Nat) (g : Gs) (x0 : Nat) (y1 : Option Nat) (d : Ds) : Option (Int32 × Ds) := gd (wkb y1) <| gd (wkb (some 100010)) <| if y1 = (some 100010) then (gd (chk g x0 7) <| ob (gR g x0 2) fun r64 => (gd (chk g r64 0) <| if (dI d r64 16) = (4 : Int32) then (fX7_takeLine_J65 N g x0 d) else (fX7_takeLine_J71 N g x0 y1 d))) else (fX7_takeLine_J71 N g x0 y1 d)
set_option maxHeartbeats 4000000 in
set_option maxRecDepth 100000 in
theorem tX7_takeLine_47 {p : Program} {l : Launch} {e : Env} {s : State} {m : MethodId} {args : Array Value} {below : List Frame} {meth : Method} {c : Code} {D : va_G} {cy : Nat → ClassId} {B : Bs} (C : Cx p s m args c cX7_takeLine 3 RX7 D cy B) (hr : meth.sig.returnType = (some .boolean)) (hlocks : meth.locks = false) {N : Nat} {g : Gs} {x0 : Nat} {vz : Int32} {dz : Ds} {y1 : Option Nat} {d : Ds} (hf : fX7_takeLine_J47 N g x0 y1 d = some (vz, dz)) : WB p l e rmX7_takeLine s m args below meth c 3 D cy B 0 0 (MQ below (QI D cy B vz g dz) args s 0 0 (wA B)) g d [(0, .ref (ad B x0)), (1, rv B y1)] 47 [] := by
  unfold fX7_takeLine_J47 at hf
  refine b_aload_nQ C dX7_takeLine_47 1 rfl rfl ?_
  refine b_getW C (i := 10) (by decide) ws_X7_112 dX7_takeLine_48 ?_
  obtain ⟨h19, hf⟩ := gd_s hf
  obtain ⟨h20, hf⟩ := gd_s hf
  refine b_acmp_ne C (tgt := 71) (wkb_s h19) (wkb_s h20) dX7_takeLine_51 (by decide) (fun c21 => ?_) (fun c21 => ?_)
  · have hf := if_s c21 hf
    refine b_sub [(0, .ref (ad B x0)), (1, rv B y1)] [0, 1] rfl ?_
    exact tX7_takeLine_71 C hr hlocks hf
  · have hf := it_s c21 hf
    refine b_aload_n C dX7_takeLine_54 0 rfl rfl ?_
    obtain ⟨h63, hf⟩ := gd_s hf
    obtain ⟨r64, er64, hf⟩ := ob_s hf
    refine b_gR C dX7_takeLine_55 fl_X7_28 h63 er64 ?_
    obtain ⟨h65, hf⟩ := gd_s hf
    refine b_gI C dX7_takeLine_58 fl_X7_115 h65 ?_
    refine b_iconst C (v := 4) dX7_takeLine_61 (by decide) ?_
    refine b_icmp_ne C (tgt := 71) dX7_takeLine_62 (by decide) (fun c66 => ?_) (fun c66 => ?_)
    · have hf := if_s c66 hf
      refine b_sub [(0, .ref (ad B x0)), (1, rv B y1)] [0, 1] rfl ?_
      exact tX7_takeLine_71 C hr hlocks hf
    · have hf := it_s c66 hf
      refine b_sub [(0, .ref (ad B x0))] [0] rfl ?_
      exact tX7_takeLine_65 C hr hlocks hf
set_option maxRecDepth 100000 in
def fX7_takeLine (N : Nat) (g : Gs) (x0 : Nat) (d : Ds) : Option (Int32 × Ds) := gd (chk g x0 7) <| ob (gR g x0 0) fun r2 => (gd (chk g r2 8) <| cb (fX8_wordAt N g r2 (dI d x0 3) d) fun u6 d4 => (if u6 = none then (fX7_takeLine_J23 N g x0 d4) else (ob u6 fun r13 => (gd (100000 ≤ r13 ∧ r13 < 100020) <| if (wfv 3 (r13 - 100000)) = 0 then (fX7_takeLine_J23 N g x0 d4) else (gd (wkb u6) <| gd (wkb (some 100009)) <| if u6 = (some 100009) then (ob (gR g x0 2) fun r72 => (gd (chk g r72 0) <| if (dI d4 r72 12) = (4 : Int32) then (fX7_takeLine_J65 N g x0 d4) else (fX7_takeLine_J47 N g x0 u6 d4))) else (fX7_takeLine_J47 N g x0 u6 d4))))))
set_option maxHeartbeats 4000000 in
set_option maxRecDepth 100000 in
theorem tX7_takeLine_E {p : Program} {l : Launch} {e : Env} {s : State} {m : MethodId} {args : Array Value} {below : List Frame} {meth : Method} {c : Code} {D : va_G} {cy : Nat → ClassId} {B : Bs} (C : Cx p s m args c cX7_takeLine 3 RX7 D cy B) (hr : meth.sig.returnType = (some .boolean)) (hlocks : meth.locks = false) {N : Nat} {g : Gs} {x0 : Nat} {vz : Int32} {dz : Ds} {d : Ds} (hf : fX7_takeLine N g x0 d = some (vz, dz)) : WB p l e rmX7_takeLine s m args below meth c 3 D cy B 0 0 (MQ below (QI D cy B vz g dz) args s 0 0 (wA B)) g d [(0, .ref (ad B x0))] 0 [] := by
  unfold fX7_takeLine at hf
  refine b_aload_n C dX7_takeLine_0 0 rfl rfl ?_
  obtain ⟨h1, hf⟩ := gd_s hf
  obtain ⟨r2, er2, hf⟩ := ob_s hf
  refine b_gR C dX7_takeLine_1 fl_X7_12 h1 er2 ?_
  refine b_aload_n C dX7_takeLine_4 0 rfl rfl ?_
  refine b_gI C dX7_takeLine_5 fl_X7_39 h1 ?_
  obtain ⟨h3, hf⟩ := gd_s hf
  obtain ⟨u6, d4, k5, hf⟩ := cb_s hf
  refine b_cVQ C [] dX7_takeLine_8 (kX8_wordAt l D cy B k5) lv_X7_72 ⟨rfl, rfl, Nat.le_of_ble_eq_true rfl, Nat.le_of_ble_eq_true rfl⟩ h3 (by decide) rfl (Nat.le_of_ble_eq_true rfl) ⟨Nat.zero_le _, Nat.zero_le _⟩ rfl ?_
  refine b_astore_nQ C dX7_takeLine_11 rfl [(1, rv B u6), (0, .ref (ad B x0))] (by decide) rfl ?_
  refine b_aload_nQ C dX7_takeLine_12 0 rfl rfl ?_
  refine b_ifnull C (tgt := 23) dX7_takeLine_13 (by decide) (fun c7 => ?_) (fun c7 => ?_)
  · have hf := it_s c7 hf
    refine b_sub [(0, .ref (ad B x0))] [1] rfl ?_
    exact tX7_takeLine_23 C hr hlocks hf
  · have hf := if_s c7 hf
    refine b_aload_nQ C dX7_takeLine_16 0 rfl rfl ?_
    obtain ⟨r13, er13, hf⟩ := ob_s hf
    refine b_some er13 ?_
    obtain ⟨h14, hf⟩ := gd_s hf
    refine b_wfld C (j := 3) h14 (by decide) wf_X7_102 dX7_takeLine_17 ?_
    refine b_if_ne C (tgt := 29) dX7_takeLine_20 (by decide) (fun c15 => ?_) (fun c15 => ?_)
    · have hf := if_s c15 hf
      refine b_aload_nQ C dX7_takeLine_29 0 rfl rfl ?_
      refine b_getW C (i := 9) (by decide) ws_X7_106 dX7_takeLine_30 ?_
      obtain ⟨h16, hf⟩ := gd_s hf
      obtain ⟨h17, hf⟩ := gd_s hf
      refine b_acmp_ne C (tgt := 47) (wkb_s h16) (wkb_s h17) dX7_takeLine_33 (by decide) (fun c18 => ?_) (fun c18 => ?_)
      · have hf := if_s c18 hf
        refine b_sub [(0, .ref (ad B x0)), (1, rv B u6)] [1, 0] rfl ?_
        exact tX7_takeLine_47 C hr hlocks hf
      · have hf := it_s c18 hf
        refine b_aload_n C dX7_takeLine_36 1 rfl rfl ?_
        obtain ⟨r72, er72, hf⟩ := ob_s hf
        refine b_gR C dX7_takeLine_37 fl_X7_28 h1 er72 ?_
        obtain ⟨h73, hf⟩ := gd_s hf
        refine b_gI C dX7_takeLine_40 fl_X7_109 h73 ?_
        refine b_iconst C (v := 4) dX7_takeLine_43 (by decide) ?_
        refine b_icmp_eq C (tgt := 65) dX7_takeLine_44 (by decide) (fun c74 => ?_) (fun c74 => ?_)
        · have hf := it_s c74 hf
          refine b_sub [(0, .ref (ad B x0))] [1] rfl ?_
          exact tX7_takeLine_65 C hr hlocks hf
        · have hf := if_s c74 hf
          refine b_sub [(0, .ref (ad B x0)), (1, rv B u6)] [1, 0] rfl ?_
          exact tX7_takeLine_47 C hr hlocks hf
    · have hf := it_s c15 hf
      refine b_sub [(0, .ref (ad B x0))] [1] rfl ?_
      exact tX7_takeLine_23 C hr hlocks hf
theorem kX7_takeLine (l : Launch) (D : va_G) (cy : Nat → ClassId) (B : Bs) {N : Nat} {g : Gs} {x0 : Nat} {vz : Int32} {dz : Ds} {d : Ds} (hf : fX7_takeLine N g x0 d = some (vz, dz)) : Met l yX7_takeLine (.code yX7_takeLine cX7_takeLine 3 (some .boolean) :: wl) rmX7_takeLine (PC D cy B [.ref (ad B x0)] g d) (QI D cy B vz g dz) 0 0 (wA B) :=
  met_of (by decide +kernel) (Nat.le_of_ble_eq_true rfl) (fun p e s m args below meth c C hr hlocks _ => b_sub [(0, .ref (ad B x0))] [0] rfl (tX7_takeLine_E C hr hlocks hf))
