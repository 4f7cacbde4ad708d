/-! KeyMatrix$Course.fateOfFirst()I -/
theorem fl_X1_39 : FLR RX1 39 1 0 := ⟨⟨RX1, TX1, 6, rfl, by decide, inl1, Or.inl (mW (mT2 (List.mem_of_getElem? (i := 205) (by decide +kernel))) rfl)⟩, by decide, by decide +kernel⟩
theorem yo_X0_chordOf : yX0_chordOf.cls ≠ "java/lang/invoke/MethodHandle" ∧ yX0_chordOf.cls ≠ "java/lang/invoke/VarHandle" ∧ (parseMethodDescriptor yX0_chordOf.desc).map (fun d => d.parameters.length) = some 1 := by decide +kernel
theorem co_X0_chordOf : Cond.code yX0_chordOf cX0_chordOf 3 (some .int) ∈ wl := mW (mT3 (List.mem_of_getElem? (i := 210) (by decide +kernel))) rfl
theorem in_X0_chordOf : Cond.initialized yX0_chordOf.cls ∈ wl := mW (mT1 (List.mem_of_getElem? (i := 5) (by decide +kernel))) rfl
theorem im_X0_chordOf : Cond.instanceMethod yX0_chordOf ∈ wl := mW (mT3 (List.mem_of_getElem? (i := 208) (by decide +kernel))) rfl
theorem se_X0_chordOf : Cond.selects yX0_chordOf.cls yX0_chordOf yX0_chordOf ∈ wl := mW (mT3 (List.mem_of_getElem? (i := 209) (by decide +kernel))) rfl
theorem lv_X1_135 : LV RX1 135 yX0_chordOf cX0_chordOf 3 (some .int) 1 0 := ⟨⟨(RX0, TX0, 19), rfl, rfl⟩, yo_X0_chordOf, mW (mT4 (List.mem_of_getElem? (i := 100) (by decide +kernel))) rfl, im_X0_chordOf, se_X0_chordOf, in_X0_chordOf, co_X0_chordOf⟩
theorem yo_X1_activeLayers : yX1_activeLayers.cls ≠ "java/lang/invoke/MethodHandle" ∧ yX1_activeLayers.cls ≠ "java/lang/invoke/VarHandle" ∧ (parseMethodDescriptor yX1_activeLayers.desc).map (fun d => d.parameters.length) = some 0 := by decide +kernel
theorem co_X1_activeLayers : Cond.code yX1_activeLayers cX1_activeLayers 3 (some .int) ∈ wl := mW (mT4 (List.mem_of_getElem? (i := 108) (by decide +kernel))) rfl
theorem in_X1_activeLayers : Cond.initialized yX1_activeLayers.cls ∈ wl := mW (mT1 (List.mem_of_getElem? (i := 7) (by decide +kernel))) rfl
theorem im_X1_activeLayers : Cond.instanceMethod yX1_activeLayers ∈ wl := mW (mT4 (List.mem_of_getElem? (i := 106) (by decide +kernel))) rfl
theorem se_X1_activeLayers : Cond.selects yX1_activeLayers.cls yX1_activeLayers yX1_activeLayers ∈ wl := mW (mT4 (List.mem_of_getElem? (i := 107) (by decide +kernel))) rfl
theorem lv_X1_150 : LV RX1 150 yX1_activeLayers cX1_activeLayers 3 (some .int) 0 1 := ⟨⟨(RX1, TX1, 6), rfl, rfl⟩, yo_X1_activeLayers, mW (mT4 (List.mem_of_getElem? (i := 105) (by decide +kernel))) rfl, im_X1_activeLayers, se_X1_activeLayers, in_X1_activeLayers, co_X1_activeLayers⟩
theorem yo_X0_deedIn : yX0_deedIn.cls ≠ "java/lang/invoke/MethodHandle" ∧ yX0_deedIn.cls ≠ "java/lang/invoke/VarHandle" ∧ (parseMethodDescriptor yX0_deedIn.desc).map (fun d => d.parameters.length) = some 2 := by decide +kernel
theorem co_X0_deedIn : Cond.code yX0_deedIn cX0_deedIn 5 (some (.object "KeyMatrix$Deed")) ∈ wl := mW (mT4 (List.mem_of_getElem? (i := 112) (by decide +kernel))) rfl
theorem in_X0_deedIn : Cond.initialized yX0_deedIn.cls ∈ wl := mW (mT1 (List.mem_of_getElem? (i := 5) (by decide +kernel))) rfl
theorem im_X0_deedIn : Cond.instanceMethod yX0_deedIn ∈ wl := mW (mT4 (List.mem_of_getElem? (i := 110) (by decide +kernel))) rfl
theorem se_X0_deedIn : Cond.selects yX0_deedIn.cls yX0_deedIn yX0_deedIn ∈ wl := mW (mT4 (List.mem_of_getElem? (i := 111) (by decide +kernel))) rfl
theorem lv_X1_153 : LV RX1 153 yX0_deedIn cX0_deedIn 5 (some (.object "KeyMatrix$Deed")) 2 0 := ⟨⟨(RX0, TX0, 19), rfl, rfl⟩, yo_X0_deedIn, mW (mT4 (List.mem_of_getElem? (i := 109) (by decide +kernel))) rfl, im_X0_deedIn, se_X0_deedIn, in_X0_deedIn, co_X0_deedIn⟩
theorem fl_X1_157 : FLI RX1 157 2 0 := ⟨⟨RX2, TX2, 3, rfl, by decide, inl2, Or.inr (mT1 (List.mem_of_getElem? (i := 72) (by decide +kernel)))⟩, by decide, by decide +kernel⟩
theorem fl_X1_161 : FLI RX1 161 0 5 := ⟨⟨RX0, TX0, 19, rfl, by decide, inl0, Or.inr (mT1 (List.mem_of_getElem? (i := 130) (by decide +kernel)))⟩, by decide, by decide +kernel⟩
theorem yo_X1_fateOfHold : yX1_fateOfHold.cls ≠ "java/lang/invoke/MethodHandle" ∧ yX1_fateOfHold.cls ≠ "java/lang/invoke/VarHandle" ∧ (parseMethodDescriptor yX1_fateOfHold.desc).map (fun d => d.parameters.length) = some 2 := by decide +kernel
theorem co_X1_fateOfHold : Cond.code yX1_fateOfHold cX1_fateOfHold 6 (some .int) ∈ wl := mW (mT4 (List.mem_of_getElem? (i := 118) (by decide +kernel))) rfl
theorem in_X1_fateOfHold : Cond.initialized yX1_fateOfHold.cls ∈ wl := mW (mT1 (List.mem_of_getElem? (i := 7) (by decide +kernel))) rfl
theorem im_X1_fateOfHold : Cond.instanceMethod yX1_fateOfHold ∈ wl := mW (mT4 (List.mem_of_getElem? (i := 117) (by decide +kernel))) rfl
theorem se_X1_fateOfHold : Cond.selects yX1_fateOfHold.cls yX1_fateOfHold yX1_fateOfHold ∈ wl := mW (mT0 (List.mem_of_getElem? (i := 20) (by decide +kernel))) rfl
theorem lv_X1_164 : LV RX1 164 yX1_fateOfHold cX1_fateOfHold 6 (some .int) 2 1 := ⟨⟨(RX1, TX1, 6), rfl, rfl⟩, yo_X1_fateOfHold, mW (mT4 (List.mem_of_getElem? (i := 115) (by decide +kernel))) rfl, im_X1_fateOfHold, se_X1_fateOfHold, in_X1_fateOfHold, co_X1_fateOfHold⟩
theorem fl_X1_168 : FLI RX1 168 0 7 := ⟨⟨RX0, TX0, 19, rfl, by decide, inl0, Or.inr (mT1 (List.mem_of_getElem? (i := 138) (by decide +kernel)))⟩, by decide, by decide +kernel⟩
theorem yo_X1_fateOfDouble : yX1_fateOfDouble.cls ≠ "java/lang/invoke/MethodHandle" ∧ yX1_fateOfDouble.cls ≠ "java/lang/invoke/VarHandle" ∧ (parseMethodDescriptor yX1_fateOfDouble.desc).map (fun d => d.parameters.length) = some 2 := by decide +kernel
theorem co_X1_fateOfDouble : Cond.code yX1_fateOfDouble cX1_fateOfDouble 4 (some .int) ∈ wl := mW (mT4 (List.mem_of_getElem? (i := 122) (by decide +kernel))) rfl
theorem in_X1_fateOfDouble : Cond.initialized yX1_fateOfDouble.cls ∈ wl := mW (mT1 (List.mem_of_getElem? (i := 7) (by decide +kernel))) rfl
theorem im_X1_fateOfDouble : Cond.instanceMethod yX1_fateOfDouble ∈ wl := mW (mT4 (List.mem_of_getElem? (i := 121) (by decide +kernel))) rfl
theorem se_X1_fateOfDouble : Cond.selects yX1_fateOfDouble.cls yX1_fateOfDouble yX1_fateOfDouble ∈ wl := mW (mT0 (List.mem_of_getElem? (i := 21) (by decide +kernel))) rfl
theorem lv_X1_171 : LV RX1 171 yX1_fateOfDouble cX1_fateOfDouble 4 (some .int) 2 1 := ⟨⟨(RX1, TX1, 6), rfl, rfl⟩, yo_X1_fateOfDouble, mW (mT4 (List.mem_of_getElem? (i := 119) (by decide +kernel))) rfl, im_X1_fateOfDouble, se_X1_fateOfDouble, in_X1_fateOfDouble, co_X1_fateOfDouble⟩
theorem fl_X1_141 : FLI RX1 141 0 6 := ⟨⟨RX0, TX0, 19, rfl, by decide, inl0, Or.inr (mT1 (List.mem_of_getElem? (i := 134) (by decide +kernel)))⟩, by decide, by decide +kernel⟩
theorem fl_X1_144 : FLR RX1 144 0 13 := ⟨⟨RX0, TX0, 19, rfl, by decide, inl0, Or.inr (mT1 (List.mem_of_getElem? (i := 154) (by decide +kernel)))⟩, by decide, by decide +kernel⟩
theorem fl_X1_147 : FLR RX1 147 0 14 := ⟨⟨RX0, TX0, 19, rfl, by decide, inl0, Or.inr (mT1 (List.mem_of_getElem? (i := 157) (by decide +kernel)))⟩, by decide, by decide +kernel⟩
theorem dX1_fateOfFirst_0 : decode cX1_fateOfFirst 0 = .ok (.aload_n 0, 1) := by decide +kernel
theorem dX1_fateOfFirst_1 : decode cX1_fateOfFirst 1 = .ok (.getfield 21, 3) := by decide +kernel
theorem dX1_fateOfFirst_4 : decode cX1_fateOfFirst 4 = .ok (.getfield 108, 3) := by decide +kernel
theorem dX1_fateOfFirst_7 : decode cX1_fateOfFirst 7 = .ok (.ifCond .ne 5, 3) := by decide +kernel
theorem dX1_fateOfFirst_10 : decode cX1_fateOfFirst 10 = .ok (.iconst 0, 1) := by decide +kernel
theorem dX1_fateOfFirst_11 : decode cX1_fateOfFirst 11 = .ok (.ireturn, 1) := by decide +kernel
theorem dX1_fateOfFirst_12 : decode cX1_fateOfFirst 12 = .ok (.aload_n 0, 1) := by decide +kernel
theorem dX1_fateOfFirst_13 : decode cX1_fateOfFirst 13 = .ok (.getfield 21, 3) := by decide +kernel
theorem dX1_fateOfFirst_16 : decode cX1_fateOfFirst 16 = .ok (.iconst 0, 1) := by decide +kernel
theorem dX1_fateOfFirst_17 : decode cX1_fateOfFirst 17 = .ok (.invokevirtual 128, 3) := by decide +kernel
theorem dX1_fateOfFirst_20 : decode cX1_fateOfFirst 20 = .ok (.ifCond .ne 5, 3) := by decide +kernel
theorem dX1_fateOfFirst_23 : decode cX1_fateOfFirst 23 = .ok (.iconst 1, 1) := by decide +kernel
theorem dX1_fateOfFirst_24 : decode cX1_fateOfFirst 24 = .ok (.ireturn, 1) := by decide +kernel
theorem dX1_fateOfFirst_25 : decode cX1_fateOfFirst 25 = .ok (.aload_n 0, 1) := by decide +kernel
theorem dX1_fateOfFirst_26 : decode cX1_fateOfFirst 26 = .ok (.getfield 21, 3) := by decide +kernel
theorem dX1_fateOfFirst_29 : decode cX1_fateOfFirst 29 = .ok (.iconst 0, 1) := by decide +kernel
theorem dX1_fateOfFirst_30 : decode cX1_fateOfFirst 30 = .ok (.invokevirtual 131, 3) := by decide +kernel
theorem dX1_fateOfFirst_33 : decode cX1_fateOfFirst 33 = .ok (.istore_n 1, 1) := by decide +kernel
theorem dX1_fateOfFirst_34 : decode cX1_fateOfFirst 34 = .ok (.aload_n 0, 1) := by decide +kernel
theorem dX1_fateOfFirst_35 : decode cX1_fateOfFirst 35 = .ok (.getfield 39, 3) := by decide +kernel
theorem dX1_fateOfFirst_38 : decode cX1_fateOfFirst 38 = .ok (.iload_n 1, 1) := by decide +kernel
theorem dX1_fateOfFirst_39 : decode cX1_fateOfFirst 39 = .ok (.invokevirtual 135, 3) := by decide +kernel
theorem dX1_fateOfFirst_42 : decode cX1_fateOfFirst 42 = .ok (.istore_n 2, 1) := by decide +kernel
theorem dX1_fateOfFirst_43 : decode cX1_fateOfFirst 43 = .ok (.iload_n 2, 1) := by decide +kernel
theorem dX1_fateOfFirst_44 : decode cX1_fateOfFirst 44 = .ok (.iconst (-1), 1) := by decide +kernel
theorem dX1_fateOfFirst_45 : decode cX1_fateOfFirst 45 = .ok (.if_icmp .eq 115, 3) := by decide +kernel
theorem dX1_fateOfFirst_48 : decode cX1_fateOfFirst 48 = .ok (.aload_n 0, 1) := by decide +kernel
theorem dX1_fateOfFirst_49 : decode cX1_fateOfFirst 49 = .ok (.getfield 21, 3) := by decide +kernel
theorem dX1_fateOfFirst_52 : decode cX1_fateOfFirst 52 = .ok (.iconst 0, 1) := by decide +kernel
theorem dX1_fateOfFirst_53 : decode cX1_fateOfFirst 53 = .ok (.invokevirtual 138, 3) := by decide +kernel
theorem dX1_fateOfFirst_56 : decode cX1_fateOfFirst 56 = .ok (.aload_n 0, 1) := by decide +kernel
theorem dX1_fateOfFirst_57 : decode cX1_fateOfFirst 57 = .ok (.getfield 39, 3) := by decide +kernel
theorem dX1_fateOfFirst_60 : decode cX1_fateOfFirst 60 = .ok (.getfield 141, 3) := by decide +kernel
theorem dX1_fateOfFirst_63 : decode cX1_fateOfFirst 63 = .ok (.iadd, 1) := by decide +kernel
theorem dX1_fateOfFirst_64 : decode cX1_fateOfFirst 64 = .ok (.istore_n 3, 1) := by decide +kernel
theorem dX1_fateOfFirst_65 : decode cX1_fateOfFirst 65 = .ok (.aload_n 0, 1) := by decide +kernel
theorem dX1_fateOfFirst_66 : decode cX1_fateOfFirst 66 = .ok (.getfield 21, 3) := by decide +kernel
theorem dX1_fateOfFirst_69 : decode cX1_fateOfFirst 69 = .ok (.getfield 108, 3) := by decide +kernel
theorem dX1_fateOfFirst_72 : decode cX1_fateOfFirst 72 = .ok (.iconst 1, 1) := by decide +kernel
theorem dX1_fateOfFirst_73 : decode cX1_fateOfFirst 73 = .ok (.if_icmp .ne 13, 3) := by decide +kernel
theorem dX1_fateOfFirst_76 : decode cX1_fateOfFirst 76 = .ok (.aload_n 0, 1) := by decide +kernel
theorem dX1_fateOfFirst_77 : decode cX1_fateOfFirst 77 = .ok (.getfield 46, 3) := by decide +kernel
theorem dX1_fateOfFirst_80 : decode cX1_fateOfFirst 80 = .ok (.iload_n 3, 1) := by decide +kernel
theorem dX1_fateOfFirst_81 : decode cX1_fateOfFirst 81 = .ok (.if_icmp .ge 5, 3) := by decide +kernel
theorem dX1_fateOfFirst_84 : decode cX1_fateOfFirst 84 = .ok (.iconst 0, 1) := by decide +kernel
theorem dX1_fateOfFirst_85 : decode cX1_fateOfFirst 85 = .ok (.ireturn, 1) := by decide +kernel
theorem dX1_fateOfFirst_86 : decode cX1_fateOfFirst 86 = .ok (.aload_n 0, 1) := by decide +kernel
theorem dX1_fateOfFirst_87 : decode cX1_fateOfFirst 87 = .ok (.getfield 39, 3) := by decide +kernel
theorem dX1_fateOfFirst_90 : decode cX1_fateOfFirst 90 = .ok (.getfield 144, 3) := by decide +kernel
theorem dX1_fateOfFirst_93 : decode cX1_fateOfFirst 93 = .ok (.iload_n 2, 1) := by decide +kernel
theorem dX1_fateOfFirst_94 : decode cX1_fateOfFirst 94 = .ok (.iaload, 1) := by decide +kernel
theorem dX1_fateOfFirst_95 : decode cX1_fateOfFirst 95 = .ok (.iload_n 1, 1) := by decide +kernel
theorem dX1_fateOfFirst_96 : decode cX1_fateOfFirst 96 = .ok (.if_icmp .ne 15, 3) := by decide +kernel
theorem dX1_fateOfFirst_99 : decode cX1_fateOfFirst 99 = .ok (.aload_n 0, 1) := by decide +kernel
theorem dX1_fateOfFirst_100 : decode cX1_fateOfFirst 100 = .ok (.getfield 39, 3) := by decide +kernel
theorem dX1_fateOfFirst_103 : decode cX1_fateOfFirst 103 = .ok (.getfield 147, 3) := by decide +kernel
theorem dX1_fateOfFirst_106 : decode cX1_fateOfFirst 106 = .ok (.iload_n 2, 1) := by decide +kernel
theorem dX1_fateOfFirst_107 : decode cX1_fateOfFirst 107 = .ok (.iaload, 1) := by decide +kernel
theorem dX1_fateOfFirst_108 : decode cX1_fateOfFirst 108 = .ok (.goto 12, 3) := by decide +kernel
theorem dX1_fateOfFirst_111 : decode cX1_fateOfFirst 111 = .ok (.aload_n 0, 1) := by decide +kernel
theorem dX1_fateOfFirst_112 : decode cX1_fateOfFirst 112 = .ok (.getfield 39, 3) := by decide +kernel
theorem dX1_fateOfFirst_115 : decode cX1_fateOfFirst 115 = .ok (.getfield 144, 3) := by decide +kernel
theorem dX1_fateOfFirst_118 : decode cX1_fateOfFirst 118 = .ok (.iload_n 2, 1) := by decide +kernel
theorem dX1_fateOfFirst_119 : decode cX1_fateOfFirst 119 = .ok (.iaload, 1) := by decide +kernel
theorem dX1_fateOfFirst_120 : decode cX1_fateOfFirst 120 = .ok (.istore 4, 2) := by decide +kernel
theorem dX1_fateOfFirst_122 : decode cX1_fateOfFirst 122 = .ok (.aload_n 0, 1) := by decide +kernel
theorem dX1_fateOfFirst_123 : decode cX1_fateOfFirst 123 = .ok (.getfield 21, 3) := by decide +kernel
theorem dX1_fateOfFirst_126 : decode cX1_fateOfFirst 126 = .ok (.iconst 1, 1) := by decide +kernel
theorem dX1_fateOfFirst_127 : decode cX1_fateOfFirst 127 = .ok (.invokevirtual 128, 3) := by decide +kernel
theorem dX1_fateOfFirst_130 : decode cX1_fateOfFirst 130 = .ok (.ifCond .eq 30, 3) := by decide +kernel
theorem dX1_fateOfFirst_133 : decode cX1_fateOfFirst 133 = .ok (.aload_n 0, 1) := by decide +kernel
theorem dX1_fateOfFirst_134 : decode cX1_fateOfFirst 134 = .ok (.getfield 21, 3) := by decide +kernel
theorem dX1_fateOfFirst_137 : decode cX1_fateOfFirst 137 = .ok (.iconst 1, 1) := by decide +kernel
theorem dX1_fateOfFirst_138 : decode cX1_fateOfFirst 138 = .ok (.invokevirtual 131, 3) := by decide +kernel
theorem dX1_fateOfFirst_141 : decode cX1_fateOfFirst 141 = .ok (.iload 4, 2) := by decide +kernel
theorem dX1_fateOfFirst_143 : decode cX1_fateOfFirst 143 = .ok (.if_icmp .ne 17, 3) := by decide +kernel
theorem dX1_fateOfFirst_146 : decode cX1_fateOfFirst 146 = .ok (.aload_n 0, 1) := by decide +kernel
theorem dX1_fateOfFirst_147 : decode cX1_fateOfFirst 147 = .ok (.getfield 21, 3) := by decide +kernel
theorem dX1_fateOfFirst_150 : decode cX1_fateOfFirst 150 = .ok (.iconst 1, 1) := by decide +kernel
theorem dX1_fateOfFirst_151 : decode cX1_fateOfFirst 151 = .ok (.invokevirtual 138, 3) := by decide +kernel
theorem dX1_fateOfFirst_154 : decode cX1_fateOfFirst 154 = .ok (.iload_n 3, 1) := by decide +kernel
theorem dX1_fateOfFirst_155 : decode cX1_fateOfFirst 155 = .ok (.if_icmp .ge 5, 3) := by decide +kernel
theorem dX1_fateOfFirst_158 : decode cX1_fateOfFirst 158 = .ok (.iconst 2, 1) := by decide +kernel
theorem dX1_fateOfFirst_159 : decode cX1_fateOfFirst 159 = .ok (.ireturn, 1) := by decide +kernel
theorem dX1_fateOfFirst_160 : decode cX1_fateOfFirst 160 = .ok (.aload_n 0, 1) := by decide +kernel
theorem dX1_fateOfFirst_161 : decode cX1_fateOfFirst 161 = .ok (.getfield 39, 3) := by decide +kernel
theorem dX1_fateOfFirst_164 : decode cX1_fateOfFirst 164 = .ok (.aload_n 0, 1) := by decide +kernel
theorem dX1_fateOfFirst_165 : decode cX1_fateOfFirst 165 = .ok (.invokevirtual 150, 3) := by decide +kernel
theorem dX1_fateOfFirst_168 : decode cX1_fateOfFirst 168 = .ok (.iload_n 1, 1) := by decide +kernel
theorem dX1_fateOfFirst_169 : decode cX1_fateOfFirst 169 = .ok (.invokevirtual 153, 3) := by decide +kernel
theorem dX1_fateOfFirst_172 : decode cX1_fateOfFirst 172 = .ok (.getfield 157, 3) := by decide +kernel
theorem dX1_fateOfFirst_175 : decode cX1_fateOfFirst 175 = .ok (.istore_n 3, 1) := by decide +kernel
theorem dX1_fateOfFirst_176 : decode cX1_fateOfFirst 176 = .ok (.iload_n 3, 1) := by decide +kernel
theorem dX1_fateOfFirst_177 : decode cX1_fateOfFirst 177 = .ok (.bipush 6, 2) := by decide +kernel
theorem dX1_fateOfFirst_179 : decode cX1_fateOfFirst 179 = .ok (.if_icmp .eq 9, 3) := by decide +kernel
theorem dX1_fateOfFirst_182 : decode cX1_fateOfFirst 182 = .ok (.iload_n 3, 1) := by decide +kernel
theorem dX1_fateOfFirst_183 : decode cX1_fateOfFirst 183 = .ok (.bipush 7, 2) := by decide +kernel
theorem dX1_fateOfFirst_185 : decode cX1_fateOfFirst 185 = .ok (.if_icmp .ne 25, 3) := by decide +kernel
theorem dX1_fateOfFirst_188 : decode cX1_fateOfFirst 188 = .ok (.aload_n 0, 1) := by decide +kernel
theorem dX1_fateOfFirst_189 : decode cX1_fateOfFirst 189 = .ok (.iload_n 1, 1) := by decide +kernel
theorem dX1_fateOfFirst_190 : decode cX1_fateOfFirst 190 = .ok (.aload_n 0, 1) := by decide +kernel
theorem dX1_fateOfFirst_191 : decode cX1_fateOfFirst 191 = .ok (.getfield 21, 3) := by decide +kernel
theorem dX1_fateOfFirst_194 : decode cX1_fateOfFirst 194 = .ok (.iconst 0, 1) := by decide +kernel
theorem dX1_fateOfFirst_195 : decode cX1_fateOfFirst 195 = .ok (.invokevirtual 138, 3) := by decide +kernel
theorem dX1_fateOfFirst_198 : decode cX1_fateOfFirst 198 = .ok (.aload_n 0, 1) := by decide +kernel
theorem dX1_fateOfFirst_199 : decode cX1_fateOfFirst 199 = .ok (.getfield 39, 3) := by decide +kernel
theorem dX1_fateOfFirst_202 : decode cX1_fateOfFirst 202 = .ok (.getfield 161, 3) := by decide +kernel
theorem dX1_fateOfFirst_205 : decode cX1_fateOfFirst 205 = .ok (.iadd, 1) := by decide +kernel
theorem dX1_fateOfFirst_206 : decode cX1_fateOfFirst 206 = .ok (.invokevirtual 164, 3) := by decide +kernel
theorem dX1_fateOfFirst_209 : decode cX1_fateOfFirst 209 = .ok (.ireturn, 1) := by decide +kernel
theorem dX1_fateOfFirst_210 : decode cX1_fateOfFirst 210 = .ok (.iload_n 3, 1) := by decide +kernel
theorem dX1_fateOfFirst_211 : decode cX1_fateOfFirst 211 = .ok (.bipush 8, 2) := by decide +kernel
theorem dX1_fateOfFirst_213 : decode cX1_fateOfFirst 213 = .ok (.if_icmp .ne 27, 3) := by decide +kernel
theorem dX1_fateOfFirst_216 : decode cX1_fateOfFirst 216 = .ok (.aload_n 0, 1) := by decide +kernel
theorem dX1_fateOfFirst_217 : decode cX1_fateOfFirst 217 = .ok (.iload_n 1, 1) := by decide +kernel
theorem dX1_fateOfFirst_218 : decode cX1_fateOfFirst 218 = .ok (.aload_n 0, 1) := by decide +kernel
theorem dX1_fateOfFirst_219 : decode cX1_fateOfFirst 219 = .ok (.getfield 21, 3) := by decide +kernel
theorem dX1_fateOfFirst_222 : decode cX1_fateOfFirst 222 = .ok (.iconst 0, 1) := by decide +kernel
theorem dX1_fateOfFirst_223 : decode cX1_fateOfFirst 223 = .ok (.invokevirtual 138, 3) := by decide +kernel
theorem dX1_fateOfFirst_226 : decode cX1_fateOfFirst 226 = .ok (.aload_n 0, 1) := by decide +kernel
theorem dX1_fateOfFirst_227 : decode cX1_fateOfFirst 227 = .ok (.getfield 39, 3) := by decide +kernel
theorem dX1_fateOfFirst_230 : decode cX1_fateOfFirst 230 = .ok (.getfield 168, 3) := by decide +kernel
theorem dX1_fateOfFirst_233 : decode cX1_fateOfFirst 233 = .ok (.iadd, 1) := by decide +kernel
theorem dX1_fateOfFirst_234 : decode cX1_fateOfFirst 234 = .ok (.invokevirtual 171, 3) := by decide +kernel
theorem dX1_fateOfFirst_237 : decode cX1_fateOfFirst 237 = .ok (.goto 4, 3) := by decide +kernel
theorem dX1_fateOfFirst_240 : decode cX1_fateOfFirst 240 = .ok (.iconst 3, 1) := by decide +kernel
theorem dX1_fateOfFirst_241 : decode cX1_fateOfFirst 241 = .ok (.ireturn, 1) := by decide +kernel
def rmX1_fateOfFirst : Room := { frames := 2, cells := 0, slots := 0, locals := 46 }
set_option maxRecDepth 100000 in
def fX1_fateOfFirst_J188 (N : Nat) (g : Gs) (x0 : Nat) (y1 : Int32) (d : Ds) : Option (Int32 × Ds) := gd (chk g x0 1) <| ob (gR g x0 2) fun r31 => (gd (chk g r31 4) <| cb (fX4_tickAt N g r31 0 d) fun u35 d33 => (ob (gR g x0 0) fun r36 => (gd (chk g r36 0) <| cb (fX1_fateOfHold N g x0 y1 (u35 + (dI d33 r36 5)) d33) fun u40 d38 => (some (u40, d38)))))
set_option maxHeartbeats 4000000 in
set_option maxRecDepth 100000 in
theorem tX1_fateOfFirst_188 {p : Program} {l : Launch} {e : Env} {s : State} {m : MethodId} {args : Array Value} {below : List Frame} {meth : Method} {c : Code} {D : va_G} {cy : Nat → ClassId} {B : Bs} (C : Cx p s m args c cX1_fateOfFirst 5 RX1 D cy B) (hr : meth.sig.returnType = (some .int)) (hlocks : meth.locks = false) {N : Nat} {g : Gs} {x0 : Nat} {vz : Int32} {dz : Ds} {y1 : Int32} {d : Ds} (hf : fX1_fateOfFirst_J188 N g x0 y1 d = some (vz, dz)) : WB p l e rmX1_fateOfFirst s m args below meth c 5 D cy B 0 0 (MQ below (QI D cy B vz g dz) args s 0 0 (wA B)) g d [(0, .ref (ad B x0)), (1, .int y1)] 188 [] := by
  unfold fX1_fateOfFirst_J188 at hf
  refine b_aload_n C dX1_fateOfFirst_188 0 rfl rfl ?_
  refine b_iload_n C dX1_fateOfFirst_189 1 rfl rfl ?_
  refine b_aload_n C dX1_fateOfFirst_190 0 rfl rfl ?_
  obtain ⟨h30, hf⟩ := gd_s hf
  obtain ⟨r31, er31, hf⟩ := ob_s hf
  refine b_gR C dX1_fateOfFirst_191 fl_X1_21 h30 er31 ?_
  refine b_iconst C (v := 0) dX1_fateOfFirst_194 (by decide) ?_
  obtain ⟨h32, hf⟩ := gd_s hf
  obtain ⟨u35, d33, k34, hf⟩ := cb_s hf
  refine b_cVI C [.int y1, .ref (ad B x0)] dX1_fateOfFirst_195 (kX4_tickAt l D cy B k34) lv_X1_138 ⟨rfl, rfl, Nat.le_of_ble_eq_true rfl, Nat.le_of_ble_eq_true rfl⟩ h32 (by decide) rfl (Nat.le_of_ble_eq_true rfl) ⟨Nat.zero_le _, Nat.zero_le _⟩ rfl ?_
  refine b_aload_n C dX1_fateOfFirst_198 0 rfl rfl ?_
  obtain ⟨r36, er36, hf⟩ := ob_s hf
  refine b_gR C dX1_fateOfFirst_199 fl_X1_39 h30 er36 ?_
  obtain ⟨h37, hf⟩ := gd_s hf
  refine b_gI C dX1_fateOfFirst_202 fl_X1_161 h37 ?_
  refine b_iadd C dX1_fateOfFirst_205 ?_
  obtain ⟨u40, d38, k39, hf⟩ := cb_s hf
  refine b_cVI C [] dX1_fateOfFirst_206 (kX1_fateOfHold l D cy B k39) lv_X1_164 ⟨rfl, rfl, Nat.le_of_ble_eq_true rfl, Nat.le_of_ble_eq_true rfl⟩ h30 (by decide) rfl (Nat.le_of_ble_eq_true rfl) ⟨Nat.zero_le _, Nat.zero_le _⟩ rfl ?_
  exact b_iret C hr hlocks hf dX1_fateOfFirst_209
set_option maxRecDepth 100000 in
def fX1_fateOfFirst_J241 (N : Nat) (g : Gs) (x0 : Nat) (z0 : Int32) (d : Ds) : Option (Int32 × Ds) := some (z0, d)
set_option maxHeartbeats 4000000 in
set_option maxRecDepth 100000 in
theorem tX1_fateOfFirst_241 {p : Program} {l : Launch} {e : Env} {s : State} {m : MethodId} {args : Array Value} {below : List Frame} {meth : Method} {c : Code} {D : va_G} {cy : Nat → ClassId} {B : Bs} (C : Cx p s m args c cX1_fateOfFirst 5 RX1 D cy B) (hr : meth.sig.returnType = (some .int)) (hlocks : meth.locks = false) {N : Nat} {g : Gs} {x0 : Nat} {vz : Int32} {dz : Ds} {z0 : Int32} {d : Ds} (hf : fX1_fateOfFirst_J241 N g x0 z0 d = some (vz, dz)) : WB p l e rmX1_fateOfFirst s m args below meth c 5 D cy B 0 0 (MQ below (QI D cy B vz g dz) args s 0 0 (wA B)) g d [(0, .ref (ad B x0))] 241 [.int z0] := by
  unfold fX1_fateOfFirst_J241 at hf
  exact b_iret C hr hlocks hf dX1_fateOfFirst_241
set_option maxRecDepth 100000 in
def fX1_fateOfFirst_J160 (N : Nat) (g : Gs) (x0 : Nat) (y1 : Int32) (d : Ds) : Option (Int32 × Ds) := gd (chk g x0 1) <| ob (gR g x0 0) fun r19 => (cb (fX1_activeLayers N g x0 d) fun u22 d20 => (gd (chk g r19 0) <| cb (fX0_deedIn N g r19 u22 y1 d20) fun u26 d24 => (gd (chk g u26 2) <| bd ((dI d24 u26 0)) fun u28 => (if u28 = (6 : Int32) then (fX1_fateOfFirst_J188 N g x0 y1 d24) else (if u28 = (7 : Int32) then (fX1_fateOfFirst_J188 N g x0 y1 d24) else (if u28 = (8 : Int32) then (ob (gR g x0 2) fun r43 => (gd (chk g r43 4) <| cb (fX4_tickAt N g r43 0 d24) fun u47 d45 => (cb (fX1_fateOfDouble N g x0 y1 (u47 + (dI d45 r19 7)) d45) fun u50 d48 => (fX1_fateOfFirst_J241 N g x0 u50 d48)))) else (fX1_fateOfFirst_J241 N g x0 3 d24)))))))
set_option maxHeartbeats 4000000 in
set_option maxRecDepth 100000 in
theorem tX1_fateOfFirst_160 {p : Program} {l : Launch} {e : Env} {s : State} {m : MethodId} {args : Array Value} {below : List Frame} {meth : Method} {c : Code} {D : va_G} {cy : Nat → ClassId} {B : Bs} (C : Cx p s m args c cX1_fateOfFirst 5 RX1 D cy B) (hr : meth.sig.returnType = (some .int)) (hlocks : meth.locks = false) {N : Nat} {g : Gs} {x0 : Nat} {vz : Int32} {dz : Ds} {y1 : Int32} {d : Ds} (hf : fX1_fateOfFirst_J160 N g x0 y1 d = some (vz, dz)) : WB p l e rmX1_fateOfFirst s m args below meth c 5 D cy B 0 0 (MQ below (QI D cy B vz g dz) args s 0 0 (wA B)) g d [(0, .ref (ad B x0)), (1, .int y1)] 160 [] := by
  unfold fX1_fateOfFirst_J160 at hf
  refine b_aload_n C dX1_fateOfFirst_160 0 rfl rfl ?_
  obtain ⟨h18, hf⟩ := gd_s hf
  obtain ⟨r19, er19, hf⟩ := ob_s hf
  refine b_gR C dX1_fateOfFirst_161 fl_X1_39 h18 er19 ?_
  refine b_aload_n C dX1_fateOfFirst_164 0 rfl rfl ?_
  obtain ⟨u22, d20, k21, hf⟩ := cb_s hf
  refine b_cVI C [.ref (ad B r19)] dX1_fateOfFirst_165 (kX1_activeLayers l D cy B k21) lv_X1_150 ⟨rfl, rfl, Nat.le_of_ble_eq_true rfl, Nat.le_of_ble_eq_true rfl⟩ h18 (by decide) rfl (Nat.le_of_ble_eq_true rfl) ⟨Nat.zero_le _, Nat.zero_le _⟩ rfl ?_
  refine b_iload_n C dX1_fateOfFirst_168 1 rfl rfl ?_
  obtain ⟨h23, hf⟩ := gd_s hf
  obtain ⟨u26, d24, k25, hf⟩ := cb_s hf
  refine b_cVR C [] dX1_fateOfFirst_169 (kX0_deedIn l D cy B k25) lv_X1_153 ⟨rfl, rfl, Nat.le_of_ble_eq_true rfl, Nat.le_of_ble_eq_true rfl⟩ h23 (by decide) rfl (Nat.le_of_ble_eq_true rfl) ⟨Nat.zero_le _, Nat.zero_le _⟩ rfl ?_
  obtain ⟨h27, hf⟩ := gd_s hf
  refine b_gI C dX1_fateOfFirst_172 fl_X1_157 h27 ?_
  obtain ⟨u28, eu28, hf⟩ := bd_s hf
  refine b_topI eu28 ?_
  refine b_istore_n C dX1_fateOfFirst_175 rfl [(3, .int u28), (0, .ref (ad B x0)), (1, .int y1)] (by decide) rfl ?_
  refine b_iload_n C dX1_fateOfFirst_176 0 rfl rfl ?_
  refine b_bipush C (v := 6) dX1_fateOfFirst_177 (by decide) ?_
  refine b_icmp_eq C (tgt := 188) dX1_fateOfFirst_179 (by decide) (fun c29 => ?_) (fun c29 => ?_)
  · have hf := it_s c29 hf
    refine b_sub [(0, .ref (ad B x0)), (1, .int y1)] [1, 2] rfl ?_
    exact tX1_fateOfFirst_188 C hr hlocks hf
  · have hf := if_s c29 hf
    refine b_iload_n C dX1_fateOfFirst_182 0 rfl rfl ?_
    refine b_bipush C (v := 7) dX1_fateOfFirst_183 (by decide) ?_
    refine b_icmp_ne C (tgt := 210) dX1_fateOfFirst_185 (by decide) (fun c41 => ?_) (fun c41 => ?_)
    · have hf := if_s c41 hf
      refine b_iload_n C dX1_fateOfFirst_210 0 rfl rfl ?_
      refine b_bipush C (v := 8) dX1_fateOfFirst_211 (by decide) ?_
      refine b_icmp_ne C (tgt := 240) dX1_fateOfFirst_213 (by decide) (fun c42 => ?_) (fun c42 => ?_)
      · have hf := if_s c42 hf
        refine b_iconst C (v := 3) dX1_fateOfFirst_240 (by decide) ?_
        refine b_sub [(0, .ref (ad B x0))] [1] rfl ?_
        exact tX1_fateOfFirst_241 C hr hlocks hf
      · have hf := it_s c42 hf
        refine b_aload_n C dX1_fateOfFirst_216 1 rfl rfl ?_
        refine b_iload_n C dX1_fateOfFirst_217 2 rfl rfl ?_
        refine b_aload_n C dX1_fateOfFirst_218 1 rfl rfl ?_
        obtain ⟨r43, er43, hf⟩ := ob_s hf
        refine b_gR C dX1_fateOfFirst_219 fl_X1_21 h18 er43 ?_
        refine b_iconst C (v := 0) dX1_fateOfFirst_222 (by decide) ?_
        obtain ⟨h44, hf⟩ := gd_s hf
        obtain ⟨u47, d45, k46, hf⟩ := cb_s hf
        refine b_cVI C [.int y1, .ref (ad B x0)] dX1_fateOfFirst_223 (kX4_tickAt l D cy B k46) lv_X1_138 ⟨rfl, rfl, Nat.le_of_ble_eq_true rfl, Nat.le_of_ble_eq_true rfl⟩ h44 (by decide) rfl (Nat.le_of_ble_eq_true rfl) ⟨Nat.zero_le _, Nat.zero_le _⟩ rfl ?_
        refine b_aload_n C dX1_fateOfFirst_226 1 rfl rfl ?_
        refine b_gR C dX1_fateOfFirst_227 fl_X1_39 h18 er19 ?_
        refine b_gI C dX1_fateOfFirst_230 fl_X1_168 h23 ?_
        refine b_iadd C dX1_fateOfFirst_233 ?_
        obtain ⟨u50, d48, k49, hf⟩ := cb_s hf
        refine b_cVI C [] dX1_fateOfFirst_234 (kX1_fateOfDouble l D cy B k49) lv_X1_171 ⟨rfl, rfl, Nat.le_of_ble_eq_true rfl, Nat.le_of_ble_eq_true rfl⟩ h18 (by decide) rfl (Nat.le_of_ble_eq_true rfl) ⟨Nat.zero_le _, Nat.zero_le _⟩ rfl ?_
        refine b_goto C (tgt := 241) dX1_fateOfFirst_237 (by decide) ?_
        refine b_sub [(0, .ref (ad B x0))] [1] rfl ?_
        exact tX1_fateOfFirst_241 C hr hlocks hf
    · have hf := it_s c41 hf
      refine b_sub [(0, .ref (ad B x0)), (1, .int y1)] [1, 2] rfl ?_
      exact tX1_fateOfFirst_188 C hr hlocks hf
set_option maxRecDepth 100000 in
def fX1_fateOfFirst_J120 (N : Nat) (g : Gs) (x0 : Nat) (y1 : Int32) (y3 : Int32) (z0 : Int32) (d : Ds) : Option (Int32 × Ds) := gd (chk g x0 1) <| ob (gR g x0 2) fun r64 => (gd (chk g r64 4) <| cb (fX4_isDownAt N g r64 1 d) fun u68 d66 => (if u68 = 0 then (fX1_fateOfFirst_J160 N g x0 y1 d66) else (cb (fX4_keyAt N g r64 1 d66) fun u72 d70 => (if u72 = z0 then (cb (fX4_tickAt N g r64 1 d70) fun u76 d74 => (if y3 ≤ u76 then (fX1_fateOfFirst_J160 N g x0 y1 d74) else (some (2, d74)))) else (fX1_fateOfFirst_J160 N g x0 y1 d70)))))
set_option maxHeartbeats 4000000 in
set_option maxRecDepth 100000 in
theorem tX1_fateOfFirst_120 {p : Program} {l : Launch} {e : Env} {s : State} {m : MethodId} {args : Array Value} {below : List Frame} {meth : Method} {c : Code} {D : va_G} {cy : Nat → ClassId} {B : Bs} (C : Cx p s m args c cX1_fateOfFirst 5 RX1 D cy B) (hr : meth.sig.returnType = (some .int)) (hlocks : meth.locks = false) {N : Nat} {g : Gs} {x0 : Nat} {vz : Int32} {dz : Ds} {y1 : Int32} {y3 : Int32} {z0 : Int32} {d : Ds} (hf : fX1_fateOfFirst_J120 N g x0 y1 y3 z0 d = some (vz, dz)) : WB p l e rmX1_fateOfFirst s m args below meth c 5 D cy B 0 0 (MQ below (QI D cy B vz g dz) args s 0 0 (wA B)) g d [(0, .ref (ad B x0)), (1, .int y1), (3, .int y3)] 120 [.int z0] := by
  unfold fX1_fateOfFirst_J120 at hf
  refine b_istore C dX1_fateOfFirst_120 [(4, .int z0), (0, .ref (ad B x0)), (1, .int y1), (3, .int y3)] (by decide) rfl ?_
  refine b_aload_n C dX1_fateOfFirst_122 1 rfl rfl ?_
  obtain ⟨h63, hf⟩ := gd_s hf
  obtain ⟨r64, er64, hf⟩ := ob_s hf
  refine b_gR C dX1_fateOfFirst_123 fl_X1_21 h63 er64 ?_
  refine b_iconst C (v := 1) dX1_fateOfFirst_126 (by decide) ?_
  obtain ⟨h65, hf⟩ := gd_s hf
  obtain ⟨u68, d66, k67, hf⟩ := cb_s hf
  refine b_cVI C [] dX1_fateOfFirst_127 (kX4_isDownAt l D cy B k67) lv_X1_128 ⟨rfl, rfl, Nat.le_of_ble_eq_true rfl, Nat.le_of_ble_eq_true rfl⟩ h65 (by decide) rfl (Nat.le_of_ble_eq_true rfl) ⟨Nat.zero_le _, Nat.zero_le _⟩ rfl ?_
  refine b_if_eq C (tgt := 160) dX1_fateOfFirst_130 (by decide) (fun c69 => ?_) (fun c69 => ?_)
  · have hf := it_s c69 hf
    refine b_sub [(0, .ref (ad B x0)), (1, .int y1)] [1, 2] rfl ?_
    exact tX1_fateOfFirst_160 C hr hlocks hf
  · have hf := if_s c69 hf
    refine b_aload_n C dX1_fateOfFirst_133 1 rfl rfl ?_
    refine b_gR C dX1_fateOfFirst_134 fl_X1_21 h63 er64 ?_
    refine b_iconst C (v := 1) dX1_fateOfFirst_137 (by decide) ?_
    obtain ⟨u72, d70, k71, hf⟩ := cb_s hf
    refine b_cVI C [] dX1_fateOfFirst_138 (kX4_keyAt l D cy B k71) lv_X1_131 ⟨rfl, rfl, Nat.le_of_ble_eq_true rfl, Nat.le_of_ble_eq_true rfl⟩ h65 (by decide) rfl (Nat.le_of_ble_eq_true rfl) ⟨Nat.zero_le _, Nat.zero_le _⟩ rfl ?_
    refine b_iload C dX1_fateOfFirst_141 0 rfl ?_
    refine b_icmp_ne C (tgt := 160) dX1_fateOfFirst_143 (by decide) (fun c73 => ?_) (fun c73 => ?_)
    · have hf := if_s c73 hf
      refine b_sub [(0, .ref (ad B x0)), (1, .int y1)] [1, 2] rfl ?_
      exact tX1_fateOfFirst_160 C hr hlocks hf
    · have hf := it_s c73 hf
      refine b_aload_n C dX1_fateOfFirst_146 1 rfl rfl ?_
      refine b_gR C dX1_fateOfFirst_147 fl_X1_21 h63 er64 ?_
      refine b_iconst C (v := 1) dX1_fateOfFirst_150 (by decide) ?_
      obtain ⟨u76, d74, k75, hf⟩ := cb_s hf
      refine b_cVI C [] dX1_fateOfFirst_151 (kX4_tickAt l D cy B k75) lv_X1_138 ⟨rfl, rfl, Nat.le_of_ble_eq_true rfl, Nat.le_of_ble_eq_true rfl⟩ h65 (by decide) rfl (Nat.le_of_ble_eq_true rfl) ⟨Nat.zero_le _, Nat.zero_le _⟩ rfl ?_
      refine b_iload_n C dX1_fateOfFirst_154 3 rfl rfl ?_
      refine b_icmp_ge C (tgt := 160) dX1_fateOfFirst_155 (by decide) (fun c77 => ?_) (fun c77 => ?_)
      · have hf := it_s c77 hf
        refine b_sub [(0, .ref (ad B x0)), (1, .int y1)] [1, 2] rfl ?_
        exact tX1_fateOfFirst_160 C hr hlocks hf
      · have hf := if_s c77 hf
        refine b_iconst C (v := 2) dX1_fateOfFirst_158 (by decide) ?_
        exact b_iret C hr hlocks hf dX1_fateOfFirst_159
set_option maxRecDepth 100000 in
def fX1_fateOfFirst_J86 (N : Nat) (g : Gs) (x0 : Nat) (y1 : Int32) (y2 : Int32) (y3 : Int32) (d : Ds) : Option (Int32 × Ds) := gd (chk g x0 1) <| ob (gR g x0 0) fun r57 => (gd (chk g r57 0) <| ob (gR g r57 13) fun r59 => (gd (chk g r59 102) <| gd (¬ (y2 < 0 ∨ gL g r59 ≤ y2.toNatClampNeg)) <| if (dI d r59 y2.toNatClampNeg) = y1 then (ob (gR g r57 14) fun r78 => (gd (chk g r78 102) <| gd (¬ (y2 < 0 ∨ gL g r78 ≤ y2.toNatClampNeg)) <| fX1_fateOfFirst_J120 N g x0 y1 y3 (dI d r78 y2.toNatClampNeg) d)) else (fX1_fateOfFirst_J120 N g x0 y1 y3 (dI d r59 y2.toNatClampNeg) d)))
set_option maxHeartbeats 4000000 in
set_option maxRecDepth 100000 in
theorem tX1_fateOfFirst_86 {p : Program} {l : Launch} {e : Env} {s : State} {m : MethodId} {args : Array Value} {below : List Frame} {meth : Method} {c : Code} {D : va_G} {cy : Nat → ClassId} {B : Bs} (C : Cx p s m args c cX1_fateOfFirst 5 RX1 D cy B) (hr : meth.sig.returnType = (some .int)) (hlocks : meth.locks = false) {N : Nat} {g : Gs} {x0 : Nat} {vz : Int32} {dz : Ds} {y1 : Int32} {y2 : Int32} {y3 : Int32} {d : Ds} (hf : fX1_fateOfFirst_J86 N g x0 y1 y2 y3 d = some (vz, dz)) : WB p l e rmX1_fateOfFirst s m args below meth c 5 D cy B 0 0 (MQ below (QI D cy B vz g dz) args s 0 0 (wA B)) g d [(0, .ref (ad B x0)), (1, .int y1), (2, .int y2), (3, .int y3)] 86 [] := by
  unfold fX1_fateOfFirst_J86 at hf
  refine b_aload_n C dX1_fateOfFirst_86 0 rfl rfl ?_
  obtain ⟨h56, hf⟩ := gd_s hf
  obtain ⟨r57, er57, hf⟩ := ob_s hf
  refine b_gR C dX1_fateOfFirst_87 fl_X1_39 h56 er57 ?_
  obtain ⟨h58, hf⟩ := gd_s hf
  obtain ⟨r59, er59, hf⟩ := ob_s hf
  refine b_gR C dX1_fateOfFirst_90 fl_X1_144 h58 er59 ?_
  refine b_iload_n C dX1_fateOfFirst_93 2 rfl rfl ?_
  obtain ⟨h60, hf⟩ := gd_s hf
  obtain ⟨h61, hf⟩ := gd_s hf
  refine b_iald C h60 h61 dX1_fateOfFirst_94 ?_
  refine b_iload_n C dX1_fateOfFirst_95 1 rfl rfl ?_
  refine b_icmp_ne C (tgt := 111) dX1_fateOfFirst_96 (by decide) (fun c62 => ?_) (fun c62 => ?_)
  · have hf := if_s c62 hf
    refine b_aload_n C dX1_fateOfFirst_111 0 rfl rfl ?_
    refine b_gR C dX1_fateOfFirst_112 fl_X1_39 h56 er57 ?_
    refine b_gR C dX1_fateOfFirst_115 fl_X1_144 h58 er59 ?_
    refine b_iload_n C dX1_fateOfFirst_118 2 rfl rfl ?_
    refine b_iald C h60 h61 dX1_fateOfFirst_119 ?_
    refine b_sub [(0, .ref (ad B x0)), (1, .int y1), (3, .int y3)] [0, 1, 3] rfl ?_
    exact tX1_fateOfFirst_120 C hr hlocks hf
  · have hf := it_s c62 hf
    refine b_aload_n C dX1_fateOfFirst_99 0 rfl rfl ?_
    refine b_gR C dX1_fateOfFirst_100 fl_X1_39 h56 er57 ?_
    obtain ⟨r78, er78, hf⟩ := ob_s hf
    refine b_gR C dX1_fateOfFirst_103 fl_X1_147 h58 er78 ?_
    refine b_iload_n C dX1_fateOfFirst_106 2 rfl rfl ?_
    obtain ⟨h79, hf⟩ := gd_s hf
    obtain ⟨h80, hf⟩ := gd_s hf
    refine b_iald C h79 h80 dX1_fateOfFirst_107 ?_
    refine b_goto C (tgt := 120) dX1_fateOfFirst_108 (by decide) ?_
    refine b_sub [(0, .ref (ad B x0)), (1, .int y1), (3, .int y3)] [0, 1, 3] rfl ?_
    exact tX1_fateOfFirst_120 C hr hlocks hf
set_option maxRecDepth 100000 in
def fX1_fateOfFirst (N : Nat) (g : Gs) (x0 : Nat) (d : Ds) : Option (Int32 × Ds) := gd (chk g x0 1) <| ob (gR g x0 2) fun r2 => (gd (chk g r2 4) <| if (dI d r2 1) = 0 then (some (0, d)) else (cb (fX4_isDownAt N g r2 0 d) fun u7 d5 => (if u7 = 0 then (some (1, d5)) else (cb (fX4_keyAt N g r2 0 d5) fun u11 d9 => (ob (gR g x0 0) fun r12 => (gd (chk g r12 0) <| cb (fX0_chordOf N g r12 u11 d9) fun u16 d14 => (if u16 = (-1 : Int32) then (fX1_fateOfFirst_J160 N g x0 u11 d14) else (cb (fX4_tickAt N g r2 0 d14) fun u53 d51 => (bd ((u53 + (dI d51 r12 6))) fun u54 => (if (dI d51 r2 1) = (1 : Int32) then (if u54 ≤ (dI d51 x0 5) then (fX1_fateOfFirst_J86 N g x0 u11 u16 u54 d51) else (some (0, d51))) else (fX1_fateOfFirst_J86 N g x0 u11 u16 u54 d51)))))))))))
set_option maxHeartbeats 4000000 in
set_option maxRecDepth 100000 in
theorem tX1_fateOfFirst_E {p : Program} {l : Launch} {e : Env} {s : State} {m : MethodId} {args : Array Value} {below : List Frame} {meth : Method} {c : Code} {D : va_G} {cy : Nat → ClassId} {B : Bs} (C : Cx p s m args c cX1_fateOfFirst 5 RX1 D cy B) (hr : meth.sig.returnType = (some .int)) (hlocks : meth.locks = false) {N : Nat} {g : Gs} {x0 : Nat} {vz : Int32} {dz : Ds} {d : Ds} (hf : fX1_fateOfFirst N g x0 d = some (vz, dz)) : WB p l e rmX1_fateOfFirst s m args below meth c 5 D cy B 0 0 (MQ below (QI D cy B vz g dz) args s 0 0 (wA B)) g d [(0, .ref (ad B x0))] 0 [] := by
  unfold fX1_fateOfFirst at hf
  refine b_aload_n C dX1_fateOfFirst_0 0 rfl rfl ?_
  obtain ⟨h1, hf⟩ := gd_s hf
  obtain ⟨r2, er2, hf⟩ := ob_s hf
  refine b_gR C dX1_fateOfFirst_1 fl_X1_21 h1 er2 ?_
  obtain ⟨h3, hf⟩ := gd_s hf
  refine b_gI C dX1_fateOfFirst_4 fl_X1_108 h3 ?_
  refine b_if_ne C (tgt := 12) dX1_fateOfFirst_7 (by decide) (fun c4 => ?_) (fun c4 => ?_)
  · have hf := if_s c4 hf
    refine b_aload_n C dX1_fateOfFirst_12 0 rfl rfl ?_
    refine b_gR C dX1_fateOfFirst_13 fl_X1_21 h1 er2 ?_
    refine b_iconst C (v := 0) dX1_fateOfFirst_16 (by decide) ?_
    obtain ⟨u7, d5, k6, hf⟩ := cb_s hf
    refine b_cVI C [] dX1_fateOfFirst_17 (kX4_isDownAt l D cy B k6) lv_X1_128 ⟨rfl, rfl, Nat.le_of_ble_eq_true rfl, Nat.le_of_ble_eq_true rfl⟩ h3 (by decide) rfl (Nat.le_of_ble_eq_true rfl) ⟨Nat.zero_le _, Nat.zero_le _⟩ rfl ?_
    refine b_if_ne C (tgt := 25) dX1_fateOfFirst_20 (by decide) (fun c8 => ?_) (fun c8 => ?_)
    · have hf := if_s c8 hf
      refine b_aload_n C dX1_fateOfFirst_25 0 rfl rfl ?_
      refine b_gR C dX1_fateOfFirst_26 fl_X1_21 h1 er2 ?_
      refine b_iconst C (v := 0) dX1_fateOfFirst_29 (by decide) ?_
      obtain ⟨u11, d9, k10, hf⟩ := cb_s hf
      refine b_cVI C [] dX1_fateOfFirst_30 (kX4_keyAt l D cy B k10) lv_X1_131 ⟨rfl, rfl, Nat.le_of_ble_eq_true rfl, Nat.le_of_ble_eq_true rfl⟩ h3 (by decide) rfl (Nat.le_of_ble_eq_true rfl) ⟨Nat.zero_le _, Nat.zero_le _⟩ rfl ?_
      refine b_istore_n C dX1_fateOfFirst_33 rfl [(1, .int u11), (0, .ref (ad B x0))] (by decide) rfl ?_
      refine b_aload_n C dX1_fateOfFirst_34 1 rfl rfl ?_
      obtain ⟨r12, er12, hf⟩ := ob_s hf
      refine b_gR C dX1_fateOfFirst_35 fl_X1_39 h1 er12 ?_
      refine b_iload_n C dX1_fateOfFirst_38 0 rfl rfl ?_
      obtain ⟨h13, hf⟩ := gd_s hf
      obtain ⟨u16, d14, k15, hf⟩ := cb_s hf
      refine b_cVI C [] dX1_fateOfFirst_39 (kX0_chordOf l D cy B k15) lv_X1_135 ⟨rfl, rfl, Nat.le_of_ble_eq_true rfl, Nat.le_of_ble_eq_true rfl⟩ h13 (by decide) rfl (Nat.le_of_ble_eq_true rfl) ⟨Nat.zero_le _, Nat.zero_le _⟩ rfl ?_
      refine b_istore_n C dX1_fateOfFirst_42 rfl [(2, .int u16), (1, .int u11), (0, .ref (ad B x0))] (by decide) rfl ?_
      refine b_iload_n C dX1_fateOfFirst_43 0 rfl rfl ?_
      refine b_iconst C (v := (-1)) dX1_fateOfFirst_44 (by decide) ?_
      refine b_icmp_eq C (tgt := 160) dX1_fateOfFirst_45 (by decide) (fun c17 => ?_) (fun c17 => ?_)
      · have hf := it_s c17 hf
        refine b_sub [(0, .ref (ad B x0)), (1, .int u11)] [2, 1] rfl ?_
        exact tX1_fateOfFirst_160 C hr hlocks hf
      · have hf := if_s c17 hf
        refine b_aload_n C dX1_fateOfFirst_48 2 rfl rfl ?_
        refine b_gR C dX1_fateOfFirst_49 fl_X1_21 h1 er2 ?_
        refine b_iconst C (v := 0) dX1_fateOfFirst_52 (by decide) ?_
        obtain ⟨u53, d51, k52, hf⟩ := cb_s hf
        refine b_cVI C [] dX1_fateOfFirst_53 (kX4_tickAt l D cy B k52) lv_X1_138 ⟨rfl, rfl, Nat.le_of_ble_eq_true rfl, Nat.le_of_ble_eq_true rfl⟩ h3 (by decide) rfl (Nat.le_of_ble_eq_true rfl) ⟨Nat.zero_le _, Nat.zero_le _⟩ rfl ?_
        refine b_aload_n C dX1_fateOfFirst_56 2 rfl rfl ?_
        refine b_gR C dX1_fateOfFirst_57 fl_X1_39 h1 er12 ?_
        refine b_gI C dX1_fateOfFirst_60 fl_X1_141 h13 ?_
        refine b_iadd C dX1_fateOfFirst_63 ?_
        obtain ⟨u54, eu54, hf⟩ := bd_s hf
        refine b_topI eu54 ?_
        refine b_istore_n C dX1_fateOfFirst_64 rfl [(3, .int u54), (2, .int u16), (1, .int u11), (0, .ref (ad B x0))] (by decide) rfl ?_
        refine b_aload_n C dX1_fateOfFirst_65 3 rfl rfl ?_
        refine b_gR C dX1_fateOfFirst_66 fl_X1_21 h1 er2 ?_
        refine b_gI C dX1_fateOfFirst_69 fl_X1_108 h3 ?_
        refine b_iconst C (v := 1) dX1_fateOfFirst_72 (by decide) ?_
        refine b_icmp_ne C (tgt := 86) dX1_fateOfFirst_73 (by decide) (fun c55 => ?_) (fun c55 => ?_)
        · have hf := if_s c55 hf
          refine b_sub [(0, .ref (ad B x0)), (1, .int u11), (2, .int u16), (3, .int u54)] [3, 2, 1, 0] rfl ?_
          exact tX1_fateOfFirst_86 C hr hlocks hf
        · have hf := it_s c55 hf
          refine b_aload_n C dX1_fateOfFirst_76 3 rfl rfl ?_
          refine b_gI C dX1_fateOfFirst_77 fl_X1_46 h1 ?_
          refine b_iload_n C dX1_fateOfFirst_80 0 rfl rfl ?_
          refine b_icmp_ge C (tgt := 86) dX1_fateOfFirst_81 (by decide) (fun c81 => ?_) (fun c81 => ?_)
          · have hf := it_s c81 hf
            refine b_sub [(0, .ref (ad B x0)), (1, .int u11), (2, .int u16), (3, .int u54)] [3, 2, 1, 0] rfl ?_
            exact tX1_fateOfFirst_86 C hr hlocks hf
          · have hf := if_s c81 hf
            refine b_iconst C (v := 0) dX1_fateOfFirst_84 (by decide) ?_
            exact b_iret C hr hlocks hf dX1_fateOfFirst_85
    · have hf := it_s c8 hf
      refine b_iconst C (v := 1) dX1_fateOfFirst_23 (by decide) ?_
      exact b_iret C hr hlocks hf dX1_fateOfFirst_24
  · have hf := it_s c4 hf
    refine b_iconst C (v := 0) dX1_fateOfFirst_10 (by decide) ?_
    exact b_iret C hr hlocks hf dX1_fateOfFirst_11
theorem kX1_fateOfFirst (l : Launch) (D : va_G) (cy : Nat → ClassId) (B : Bs) {N : Nat} {g : Gs} {x0 : Nat} {vz : Int32} {dz : Ds} {d : Ds} (hf : fX1_fateOfFirst N g x0 d = some (vz, dz)) : Met l yX1_fateOfFirst (.code yX1_fateOfFirst cX1_fateOfFirst 5 (some .int) :: wl) rmX1_fateOfFirst (PC D cy B [.ref (ad B x0)] g d) (QI D cy B vz g dz) 0 0 (wA B) :=
  met_of (by decide +kernel) (Nat.le_of_ble_eq_true rfl) (fun p e s m args below meth c C hr hlocks _ => b_sub [(0, .ref (ad B x0))] [0] rfl (tX1_fateOfFirst_E C hr hlocks hf))
/-! KeyMatrix$Queue.drop(I)V -/
theorem dX4_drop_0 : decode cX4_drop 0 = .ok (.iload_n 1, 1) := by decide +kernel
theorem dX4_drop_1 : decode cX4_drop 1 = .ok (.ifCond .lt 44, 3) := by decide +kernel
theorem dX4_drop_4 : decode cX4_drop 4 = .ok (.iload_n 1, 1) := by decide +kernel
theorem dX4_drop_5 : decode cX4_drop 5 = .ok (.aload_n 0, 1) := by decide +kernel
theorem dX4_drop_6 : decode cX4_drop 6 = .ok (.getfield 15, 3) := by decide +kernel
theorem dX4_drop_9 : decode cX4_drop 9 = .ok (.if_icmp .ge 36, 3) := by decide +kernel
theorem dX4_drop_12 : decode cX4_drop 12 = .ok (.aload_n 0, 1) := by decide +kernel
theorem dX4_drop_13 : decode cX4_drop 13 = .ok (.getfield 11, 3) := by decide +kernel
theorem dX4_drop_16 : decode cX4_drop 16 = .ok (.iload_n 1, 1) := by decide +kernel
theorem dX4_drop_17 : decode cX4_drop 17 = .ok (.iconst 1, 1) := by decide +kernel
theorem dX4_drop_18 : decode cX4_drop 18 = .ok (.iadd, 1) := by decide +kernel
theorem dX4_drop_19 : decode cX4_drop 19 = .ok (.aload_n 0, 1) := by decide +kernel
theorem dX4_drop_20 : decode cX4_drop 20 = .ok (.getfield 11, 3) := by decide +kernel
theorem dX4_drop_23 : decode cX4_drop 23 = .ok (.iload_n 1, 1) := by decide +kernel
theorem dX4_drop_24 : decode cX4_drop 24 = .ok (.aload_n 0, 1) := by decide +kernel
theorem dX4_drop_25 : decode cX4_drop 25 = .ok (.getfield 15, 3) := by decide +kernel
theorem dX4_drop_28 : decode cX4_drop 28 = .ok (.iload_n 1, 1) := by decide +kernel
theorem dX4_drop_29 : decode cX4_drop 29 = .ok (.isub, 1) := by decide +kernel
theorem dX4_drop_30 : decode cX4_drop 30 = .ok (.iconst 1, 1) := by decide +kernel
theorem dX4_drop_31 : decode cX4_drop 31 = .ok (.isub, 1) := by decide +kernel
theorem dX4_drop_32 : decode cX4_drop 32 = .ok (.invokestatic 22, 3) := by decide +kernel
theorem dX4_drop_35 : decode cX4_drop 35 = .ok (.aload_n 0, 1) := by decide +kernel
theorem dX4_drop_36 : decode cX4_drop 36 = .ok (.dup, 1) := by decide +kernel
theorem dX4_drop_37 : decode cX4_drop 37 = .ok (.getfield 15, 3) := by decide +kernel
theorem dX4_drop_40 : decode cX4_drop 40 = .ok (.iconst 1, 1) := by decide +kernel
theorem dX4_drop_41 : decode cX4_drop 41 = .ok (.isub, 1) := by decide +kernel
theorem dX4_drop_42 : decode cX4_drop 42 = .ok (.putfield 15, 3) := by decide +kernel
theorem dX4_drop_45 : decode cX4_drop 45 = .ok (.return_, 1) := by decide +kernel
def rmX4_drop : Room := { frames := 1, cells := 0, slots := 0, locals := 40 }
set_option maxRecDepth 100000 in
def fX4_drop_J45 (N : Nat) (g : Gs) (x0 : Nat) (x1 : Int32) (d : Ds) : Option (Unit × Ds) := some ((), d)
set_option maxHeartbeats 4000000 in
set_option maxRecDepth 100000 in
theorem tX4_drop_45 {p : Program} {l : Launch} {e : Env} {s : State} {m : MethodId} {args : Array Value} {below : List Frame} {meth : Method} {c : Code} {D : va_G} {cy : Nat → ClassId} {B : Bs} (C : Cx p s m args c cX4_drop 2 RX4 D cy B) (hr : meth.sig.returnType = none) (hlocks : meth.locks = false) {N : Nat} {g : Gs} {x0 : Nat} {x1 : Int32}  {dz : Ds} {d : Ds} (hf : fX4_drop_J45 N g x0 x1 d = some ((), dz)) : WB p l e rmX4_drop s m args below meth c 2 D cy B 0 0 (MQ below (QV D cy B g dz) args s 0 0 (wA B)) g d [(0, .ref (ad B x0)), (1, .int x1)] 45 [] := by
  unfold fX4_drop_J45 at hf
  exact b_vret C hr hlocks hf dX4_drop_45
set_option maxRecDepth 100000 in
def fX4_drop (N : Nat) (g : Gs) (x0 : Nat) (x1 : Int32) (d : Ds) : Option (Unit × Ds) := if x1 < 0 then (fX4_drop_J45 N g x0 x1 d) else (gd (chk g x0 4) <| if (dI d x0 1) ≤ x1 then (fX4_drop_J45 N g x0 x1 d) else (ob (gR g x0 0) fun r4 => (gd (chk g r4 102) <| gd (¬ (x1 + 1) < 0) <| gd (¬ x1 < 0) <| gd (¬ (((dI d x0 1) - x1) - 1) < 0) <| gd ((x1 + 1).toNatClampNeg + (((dI d x0 1) - x1) - 1).toNatClampNeg ≤ gL g r4) <| gd (x1.toNatClampNeg + (((dI d x0 1) - x1) - 1).toNatClampNeg ≤ gL g r4) <| bd (cI d r4 r4 (x1 + 1).toNatClampNeg x1.toNatClampNeg (((dI d x0 1) - x1) - 1).toNatClampNeg) fun d11 => (bd (sI d11 x0 1 ((dI d11 x0 1) - 1)) fun d12 => (fX4_drop_J45 N g x0 x1 d12)))))
set_option maxHeartbeats 4000000 in
set_option maxRecDepth 100000 in
theorem tX4_drop_E {p : Program} {l : Launch} {e : Env} {s : State} {m : MethodId} {args : Array Value} {below : List Frame} {meth : Method} {c : Code} {D : va_G} {cy : Nat → ClassId} {B : Bs} (C : Cx p s m args c cX4_drop 2 RX4 D cy B) (hr : meth.sig.returnType = none) (hlocks : meth.locks = false) {N : Nat} {g : Gs} {x0 : Nat} {x1 : Int32}  {dz : Ds} {d : Ds} (hf : fX4_drop N g x0 x1 d = some ((), dz)) : WB p l e rmX4_drop s m args below meth c 2 D cy B 0 0 (MQ below (QV D cy B g dz) args s 0 0 (wA B)) g d [(0, .ref (ad B x0)), (1, .int x1)] 0 [] := by
  unfold fX4_drop at hf
  refine b_iload_n C dX4_drop_0 1 rfl rfl ?_
  refine b_if_lt C (tgt := 45) dX4_drop_1 (by decide) (fun c1 => ?_) (fun c1 => ?_)
  · have hf := it_s c1 hf
    refine b_sub [(0, .ref (ad B x0)), (1, .int x1)] [0, 1] rfl ?_
    exact tX4_drop_45 C hr hlocks hf
  · have hf := if_s c1 hf
    refine b_iload_n C dX4_drop_4 1 rfl rfl ?_
    refine b_aload_n C dX4_drop_5 0 rfl rfl ?_
    obtain ⟨h2, hf⟩ := gd_s hf
    refine b_gI C dX4_drop_6 fl_X4_15 h2 ?_
    refine b_icmp_ge C (tgt := 45) dX4_drop_9 (by decide) (fun c3 => ?_) (fun c3 => ?_)
    · have hf := it_s c3 hf
      refine b_sub [(0, .ref (ad B x0)), (1, .int x1)] [0, 1] rfl ?_
      exact tX4_drop_45 C hr hlocks hf
    · have hf := if_s c3 hf
      refine b_aload_n C dX4_drop_12 0 rfl rfl ?_
      obtain ⟨r4, er4, hf⟩ := ob_s hf
      refine b_gR C dX4_drop_13 fl_X4_11 h2 er4 ?_
      refine b_iload_n C dX4_drop_16 1 rfl rfl ?_
      refine b_iconst C (v := 1) dX4_drop_17 (by decide) ?_
      refine b_iadd C dX4_drop_18 ?_
      refine b_aload_n C dX4_drop_19 0 rfl rfl ?_
      refine b_gR C dX4_drop_20 fl_X4_11 h2 er4 ?_
      refine b_iload_n C dX4_drop_23 1 rfl rfl ?_
      refine b_aload_n C dX4_drop_24 0 rfl rfl ?_
      refine b_gI C dX4_drop_25 fl_X4_15 h2 ?_
      refine b_iload_n C dX4_drop_28 1 rfl rfl ?_
      refine b_isub C dX4_drop_29 ?_
      refine b_iconst C (v := 1) dX4_drop_30 (by decide) ?_
      refine b_isub C dX4_drop_31 ?_
      obtain ⟨h5, hf⟩ := gd_s hf
      obtain ⟨h6, hf⟩ := gd_s hf
      obtain ⟨h7, hf⟩ := gd_s hf
      obtain ⟨h8, hf⟩ := gd_s hf
      obtain ⟨h9, hf⟩ := gd_s hf
      obtain ⟨h10, hf⟩ := gd_s hf
      obtain ⟨d11, ed11, hf⟩ := bd_s hf
      refine b_copyI C ac_X4_22 ac_n ac_s ac_i h5 h5 h6 h7 h8 h9 h10 ed11 (by decide) (by decide +kernel) dX4_drop_32 ?_
      refine b_aload_n C dX4_drop_35 0 rfl rfl ?_
      refine b_dup C dX4_drop_36 rfl ?_
      refine b_gI C dX4_drop_37 fl_X4_15 h2 ?_
      refine b_iconst C (v := 1) dX4_drop_40 (by decide) ?_
      refine b_isub C dX4_drop_41 ?_
      obtain ⟨d12, ed12, hf⟩ := bd_s hf
      refine b_pI C dX4_drop_42 fl_X4_15 fp4_1 h2 ed12 ?_
      refine b_sub [(0, .ref (ad B x0)), (1, .int x1)] [0, 1] rfl ?_
      exact tX4_drop_45 C hr hlocks hf
theorem kX4_drop (l : Launch) (D : va_G) (cy : Nat → ClassId) (B : Bs) {N : Nat} {g : Gs} {x0 : Nat} {x1 : Int32}  {dz : Ds} {d : Ds} (hf : fX4_drop N g x0 x1 d = some ((), dz)) : Met l yX4_drop (.code yX4_drop cX4_drop 2 none :: wl) rmX4_drop (PC D cy B [.ref (ad B x0), .int x1] g d) (QV D cy B g dz) 0 0 (wA B) :=
  met_of (by decide +kernel) (Nat.le_of_ble_eq_true rfl) (fun p e s m args below meth c C hr hlocks _ => b_sub [(0, .ref (ad B x0)), (1, .int x1)] [0, 1] rfl (tX4_drop_E C hr hlocks hf))
/-! KeyMatrix$Doing.drop(I)V -/
theorem dX3_drop_0 : decode cX3_drop 0 = .ok (.aload_n 0, 1) := by decide +kernel
theorem dX3_drop_1 : decode cX3_drop 1 = .ok (.getfield 9, 3) := by decide +kernel
theorem dX3_drop_4 : decode cX3_drop 4 = .ok (.iload_n 1, 1) := by decide +kernel
theorem dX3_drop_5 : decode cX3_drop 5 = .ok (.iconst (-1), 1) := by decide +kernel
theorem dX3_drop_6 : decode cX3_drop 6 = .ok (.iastore, 1) := by decide +kernel
theorem dX3_drop_7 : decode cX3_drop 7 = .ok (.aload_n 0, 1) := by decide +kernel
theorem dX3_drop_8 : decode cX3_drop 8 = .ok (.getfield 15, 3) := by decide +kernel
theorem dX3_drop_11 : decode cX3_drop 11 = .ok (.iload_n 1, 1) := by decide +kernel
theorem dX3_drop_12 : decode cX3_drop 12 = .ok (.iconst (-1), 1) := by decide +kernel
theorem dX3_drop_13 : decode cX3_drop 13 = .ok (.iastore, 1) := by decide +kernel
theorem dX3_drop_14 : decode cX3_drop 14 = .ok (.aload_n 0, 1) := by decide +kernel
theorem dX3_drop_15 : decode cX3_drop 15 = .ok (.getfield 18, 3) := by decide +kernel
theorem dX3_drop_18 : decode cX3_drop 18 = .ok (.iload_n 1, 1) := by decide +kernel
theorem dX3_drop_19 : decode cX3_drop 19 = .ok (.iconst (-1), 1) := by decide +kernel
theorem dX3_drop_20 : decode cX3_drop 20 = .ok (.iastore, 1) := by decide +kernel
theorem dX3_drop_21 : decode cX3_drop 21 = .ok (.iconst 0, 1) := by decide +kernel
theorem dX3_drop_22 : decode cX3_drop 22 = .ok (.istore_n 2, 1) := by decide +kernel
theorem dX3_drop_23 : decode cX3_drop 23 = .ok (.iconst 0, 1) := by decide +kernel
theorem dX3_drop_24 : decode cX3_drop 24 = .ok (.istore_n 3, 1) := by decide +kernel
theorem dX3_drop_25 : decode cX3_drop 25 = .ok (.iload_n 3, 1) := by decide +kernel
theorem dX3_drop_26 : decode cX3_drop 26 = .ok (.aload_n 0, 1) := by decide +kernel
theorem dX3_drop_27 : decode cX3_drop 27 = .ok (.getfield 27, 3) := by decide +kernel
theorem dX3_drop_30 : decode cX3_drop 30 = .ok (.if_icmp .ge 34, 3) := by decide +kernel
theorem dX3_drop_33 : decode cX3_drop 33 = .ok (.aload_n 0, 1) := by decide +kernel
theorem dX3_drop_34 : decode cX3_drop 34 = .ok (.getfield 21, 3) := by decide +kernel
theorem dX3_drop_37 : decode cX3_drop 37 = .ok (.iload_n 3, 1) := by decide +kernel
theorem dX3_drop_38 : decode cX3_drop 38 = .ok (.iaload, 1) := by decide +kernel
theorem dX3_drop_39 : decode cX3_drop 39 = .ok (.iload_n 1, 1) := by decide +kernel
theorem dX3_drop_40 : decode cX3_drop 40 = .ok (.if_icmp .eq 18, 3) := by decide +kernel
theorem dX3_drop_43 : decode cX3_drop 43 = .ok (.aload_n 0, 1) := by decide +kernel
theorem dX3_drop_44 : decode cX3_drop 44 = .ok (.getfield 21, 3) := by decide +kernel
theorem dX3_drop_47 : decode cX3_drop 47 = .ok (.iload_n 2, 1) := by decide +kernel
theorem dX3_drop_48 : decode cX3_drop 48 = .ok (.aload_n 0, 1) := by decide +kernel
theorem dX3_drop_49 : decode cX3_drop 49 = .ok (.getfield 21, 3) := by decide +kernel
theorem dX3_drop_52 : decode cX3_drop 52 = .ok (.iload_n 3, 1) := by decide +kernel
theorem dX3_drop_53 : decode cX3_drop 53 = .ok (.iaload, 1) := by decide +kernel
theorem dX3_drop_54 : decode cX3_drop 54 = .ok (.iastore, 1) := by decide +kernel
theorem dX3_drop_55 : decode cX3_drop 55 = .ok (.iinc 2 1, 3) := by decide +kernel
theorem dX3_drop_58 : decode cX3_drop 58 = .ok (.iinc 3 1, 3) := by decide +kernel
theorem dX3_drop_61 : decode cX3_drop 61 = .ok (.goto (-36), 3) := by decide +kernel
theorem dX3_drop_64 : decode cX3_drop 64 = .ok (.aload_n 0, 1) := by decide +kernel
theorem dX3_drop_65 : decode cX3_drop 65 = .ok (.iload_n 2, 1) := by decide +kernel
theorem dX3_drop_66 : decode cX3_drop 66 = .ok (.putfield 27, 3) := by decide +kernel
theorem dX3_drop_69 : decode cX3_drop 69 = .ok (.return_, 1) := by decide +kernel
def rmX3_drop : Room := { frames := 0, cells := 0, slots := 0, locals := 0 }
set_option maxRecDepth 100000 in
def fX3_drop_J58 (N : Nat) (g : Gs) (x0 : Nat) (x1 : Int32) (K25 : Int32 × Int32 × Ds → Option (Unit × Ds)) (y2 : Int32) (y3 : Int32) (d : Ds) : Option (Unit × Ds) := bd (y3 + 1) fun u21 => (K25 (y2, u21, d))
set_option maxHeartbeats 4000000 in
set_option maxRecDepth 100000 in
theorem tX3_drop_58 {p : Program} {l : Launch} {e : Env} {s : State} {m : MethodId} {args : Array Value} {below : List Frame} {meth : Method} {c : Code} {D : va_G} {cy : Nat → ClassId} {B : Bs} (C : Cx p s m args c cX3_drop 4 RX3 D cy B) (hr : meth.sig.returnType = none) (hlocks : meth.locks = false) {N : Nat} {g : Gs} {x0 : Nat} {x1 : Int32}  {dz : Ds} {K25 : Int32 × Int32 × Ds → Option (Unit × Ds)} (hK25 : ∀ a, K25 a = some ((), dz) → WB p l e rmX3_drop s m args below meth c 4 D cy B 0 0 (MQ below (QV D cy B g dz) args s 0 0 (wA B)) g a.2.2 [(0, .ref (ad B x0)), (1, .int x1), (2, .int a.1), (3, .int a.2.1)] 25 []) {y2 : Int32} {y3 : Int32} {d : Ds} (hf : fX3_drop_J58 N g x0 x1 K25 y2 y3 d = some ((), dz)) : WB p l e rmX3_drop s m args below meth c 4 D cy B 0 0 (MQ below (QV D cy B g dz) args s 0 0 (wA B)) g d [(0, .ref (ad B x0)), (1, .int x1), (2, .int y2), (3, .int y3)] 58 [] := by
  unfold fX3_drop_J58 at hf
  obtain ⟨u21, eu21, hf⟩ := bd_s hf
  refine b_iinc C dX3_drop_58 3 rfl (by rw [eu21]; rfl) [(3, .int u21), (0, .ref (ad B x0)), (1, .int x1), (2, .int y2)] (by decide) rfl ?_
  refine b_goto C (tgt := 25) dX3_drop_61 (by decide) ?_
  refine b_sub [(0, .ref (ad B x0)), (1, .int x1), (2, .int y2), (3, .int u21)] [1, 2, 3, 0] rfl ?_
  exact hK25 (y2, u21, d) hf
set_option maxRecDepth 100000 in
def fX3_drop_B25 (N : Nat) (g : Gs) (x0 : Nat) (x1 : Int32) (K25 : Int32 × Int32 × Ds → Option (Unit × Ds)) (y2 : Int32) (y3 : Int32) (d : Ds) : Option (Unit × Ds) := gd (chk g x0 3) <| if (dI d x0 4) ≤ y3 then (bd (sI d x0 4 y2) fun d16 => (some ((), d16))) else (ob (gR g x0 3) fun r17 => (gd (chk g r17 102) <| gd (¬ (y3 < 0 ∨ gL g r17 ≤ y3.toNatClampNeg)) <| if (dI d r17 y3.toNatClampNeg) = x1 then (fX3_drop_J58 N g x0 x1 K25 y2 y3 d) else (gd (¬ (y2 < 0 ∨ gL g r17 ≤ y2.toNatClampNeg)) <| bd (sI d r17 y2.toNatClampNeg (dI d r17 y3.toNatClampNeg)) fun d23 => (bd (y2 + 1) fun u24 => (fX3_drop_J58 N g x0 x1 K25 u24 y3 d23)))))
set_option maxHeartbeats 4000000 in
set_option maxRecDepth 100000 in
theorem tX3_drop_25 {p : Program} {l : Launch} {e : Env} {s : State} {m : MethodId} {args : Array Value} {below : List Frame} {meth : Method} {c : Code} {D : va_G} {cy : Nat → ClassId} {B : Bs} (C : Cx p s m args c cX3_drop 4 RX3 D cy B) (hr : meth.sig.returnType = none) (hlocks : meth.locks = false) {N : Nat} {g : Gs} {x0 : Nat} {x1 : Int32}  {dz : Ds} {K25 : Int32 × Int32 × Ds → Option (Unit × Ds)} (hK25 : ∀ a, K25 a = some ((), dz) → WB p l e rmX3_drop s m args below meth c 4 D cy B 0 0 (MQ below (QV D cy B g dz) args s 0 0 (wA B)) g a.2.2 [(0, .ref (ad B x0)), (1, .int x1), (2, .int a.1), (3, .int a.2.1)] 25 []) {y2 : Int32} {y3 : Int32} {d : Ds} (hf : fX3_drop_B25 N g x0 x1 K25 y2 y3 d = some ((), dz)) : WB p l e rmX3_drop s m args below meth c 4 D cy B 0 0 (MQ below (QV D cy B g dz) args s 0 0 (wA B)) g d [(0, .ref (ad B x0)), (1, .int x1), (2, .int y2), (3, .int y3)] 25 [] := by
  unfold fX3_drop_B25 at hf
  refine b_iload_n C dX3_drop_25 3 rfl rfl ?_
  refine b_aload_n C dX3_drop_26 0 rfl rfl ?_
  obtain ⟨h14, hf⟩ := gd_s hf
  refine b_gI C dX3_drop_27 fl_X3_27 h14 ?_
  refine b_icmp_ge C (tgt := 64) dX3_drop_30 (by decide) (fun c15 => ?_) (fun c15 => ?_)
  · have hf := it_s c15 hf
    refine b_aload_n C dX3_drop_64 0 rfl rfl ?_
    refine b_iload_n C dX3_drop_65 2 rfl rfl ?_
    obtain ⟨d16, ed16, hf⟩ := bd_s hf
    refine b_pI C dX3_drop_66 fl_X3_27 fp3_4 h14 ed16 ?_
    exact b_vret C hr hlocks hf dX3_drop_69
  · have hf := if_s c15 hf
    refine b_aload_n C dX3_drop_33 0 rfl rfl ?_
    obtain ⟨r17, er17, hf⟩ := ob_s hf
    refine b_gR C dX3_drop_34 fl_X3_21 h14 er17 ?_
    refine b_iload_n C dX3_drop_37 3 rfl rfl ?_
    obtain ⟨h18, hf⟩ := gd_s hf
    obtain ⟨h19, hf⟩ := gd_s hf
    refine b_iald C h18 h19 dX3_drop_38 ?_
    refine b_iload_n C dX3_drop_39 1 rfl rfl ?_
    refine b_icmp_eq C (tgt := 58) dX3_drop_40 (by decide) (fun c20 => ?_) (fun c20 => ?_)
    · have hf := it_s c20 hf
      refine b_sub [(0, .ref (ad B x0)), (1, .int x1), (2, .int y2), (3, .int y3)] [0, 1, 2, 3] rfl ?_
      exact tX3_drop_58 C hr hlocks hK25 hf
    · have hf := if_s c20 hf
      refine b_aload_n C dX3_drop_43 0 rfl rfl ?_
      refine b_gR C dX3_drop_44 fl_X3_21 h14 er17 ?_
      refine b_iload_n C dX3_drop_47 2 rfl rfl ?_
      refine b_aload_n C dX3_drop_48 0 rfl rfl ?_
      refine b_gR C dX3_drop_49 fl_X3_21 h14 er17 ?_
      refine b_iload_n C dX3_drop_52 3 rfl rfl ?_
      refine b_iald C h18 h19 dX3_drop_53 ?_
      obtain ⟨h22, hf⟩ := gd_s hf
      obtain ⟨d23, ed23, hf⟩ := bd_s hf
      refine b_iast C h18 h22 ed23 dX3_drop_54 ?_
      obtain ⟨u24, eu24, hf⟩ := bd_s hf
      refine b_iinc C dX3_drop_55 2 rfl (by rw [eu24]; rfl) [(2, .int u24), (0, .ref (ad B x0)), (1, .int x1), (3, .int y3)] (by decide) rfl ?_
      refine b_sub [(0, .ref (ad B x0)), (1, .int x1), (2, .int u24), (3, .int y3)] [1, 2, 0, 3] rfl ?_
      exact tX3_drop_58 C hr hlocks hK25 hf
def fX3_drop_L25 (N : Nat) (g : Gs) (x0 : Nat) (x1 : Int32) : Int32 × Int32 × Ds → Option (Unit × Ds) := lp (fun K25 a => fX3_drop_B25 N g x0 x1 K25 a.1 a.2.1 a.2.2) N
theorem tX3_drop_L25 {p : Program} {l : Launch} {e : Env} {s : State} {m : MethodId} {args : Array Value} {below : List Frame} {meth : Method} {c : Code} {D : va_G} {cy : Nat → ClassId} {B : Bs} (C : Cx p s m args c cX3_drop 4 RX3 D cy B) (hr : meth.sig.returnType = none) (hlocks : meth.locks = false) {N : Nat} {g : Gs} {x0 : Nat} {x1 : Int32}  {dz : Ds} (a : Int32 × Int32 × Ds) (hf : fX3_drop_L25 N g x0 x1 a = some ((), dz)) : WB p l e rmX3_drop s m args below meth c 4 D cy B 0 0 (MQ below (QV D cy B g dz) args s 0 0 (wA B)) g a.2.2 [(0, .ref (ad B x0)), (1, .int x1), (2, .int a.1), (3, .int a.2.1)] 25 [] :=
  lp_w (fun K25 hK25 a ha => tX3_drop_25 C hr hlocks hK25 ha) N a hf
set_option maxRecDepth 100000 in
def fX3_drop (N : Nat) (g : Gs) (x0 : Nat) (x1 : Int32) (d : Ds) : Option (Unit × Ds) := gd (chk g x0 3) <| ob (gR g x0 0) fun r2 => (gd (chk g r2 102) <| gd (¬ (x1 < 0 ∨ gL g r2 ≤ x1.toNatClampNeg)) <| bd (sI d r2 x1.toNatClampNeg (-1)) fun d5 => (ob (gR g x0 1) fun r6 => (gd (chk g r6 102) <| gd (¬ (x1 < 0 ∨ gL g r6 ≤ x1.toNatClampNeg)) <| bd (sI d5 r6 x1.toNatClampNeg (-1)) fun d9 => (ob (gR g x0 2) fun r10 => (gd (chk g r10 102) <| gd (¬ (x1 < 0 ∨ gL g r10 ≤ x1.toNatClampNeg)) <| bd (sI d9 r10 x1.toNatClampNeg (-1)) fun d13 => (fX3_drop_L25 N g x0 x1 (0, 0, d13)))))))
set_option maxHeartbeats 4000000 in
set_option maxRecDepth 100000 in
theorem tX3_drop_E {p : Program} {l : Launch} {e : Env} {s : State} {m : MethodId} {args : Array Value} {below : List Frame} {meth : Method} {c : Code} {D : va_G} {cy : Nat → ClassId} {B : Bs} (C : Cx p s m args c cX3_drop 4 RX3 D cy B) (hr : meth.sig.returnType = none) (hlocks : meth.locks = false) {N : Nat} {g : Gs} {x0 : Nat} {x1 : Int32}  {dz : Ds} {d : Ds} (hf : fX3_drop N g x0 x1 d = some ((), dz)) : WB p l e rmX3_drop s m args below meth c 4 D cy B 0 0 (MQ below (QV D cy B g dz) args s 0 0 (wA B)) g d [(0, .ref (ad B x0)), (1, .int x1)] 0 [] := by
  unfold fX3_drop at hf
  refine b_aload_n C dX3_drop_0 0 rfl rfl ?_
  obtain ⟨h1, hf⟩ := gd_s hf
  obtain ⟨r2, er2, hf⟩ := ob_s hf
  refine b_gR C dX3_drop_1 fl_X3_9 h1 er2 ?_
  refine b_iload_n C dX3_drop_4 1 rfl rfl ?_
  refine b_iconst C (v := (-1)) dX3_drop_5 (by decide) ?_
  obtain ⟨h3, hf⟩ := gd_s hf
  obtain ⟨h4, hf⟩ := gd_s hf
  obtain ⟨d5, ed5, hf⟩ := bd_s hf
  refine b_iast C h3 h4 ed5 dX3_drop_6 ?_
  refine b_aload_n C dX3_drop_7 0 rfl rfl ?_
  obtain ⟨r6, er6, hf⟩ := ob_s hf
  refine b_gR C dX3_drop_8 fl_X3_15 h1 er6 ?_
  refine b_iload_n C dX3_drop_11 1 rfl rfl ?_
  refine b_iconst C (v := (-1)) dX3_drop_12 (by decide) ?_
  obtain ⟨h7, hf⟩ := gd_s hf
  obtain ⟨h8, hf⟩ := gd_s hf
  obtain ⟨d9, ed9, hf⟩ := bd_s hf
  refine b_iast C h7 h8 ed9 dX3_drop_13 ?_
  refine b_aload_n C dX3_drop_14 0 rfl rfl ?_
  obtain ⟨r10, er10, hf⟩ := ob_s hf
  refine b_gR C dX3_drop_15 fl_X3_18 h1 er10 ?_
  refine b_iload_n C dX3_drop_18 1 rfl rfl ?_
  refine b_iconst C (v := (-1)) dX3_drop_19 (by decide) ?_
  obtain ⟨h11, hf⟩ := gd_s hf
  obtain ⟨h12, hf⟩ := gd_s hf
  obtain ⟨d13, ed13, hf⟩ := bd_s hf
  refine b_iast C h11 h12 ed13 dX3_drop_20 ?_
  refine b_iconst C (v := 0) dX3_drop_21 (by decide) ?_
  refine b_istore_n C dX3_drop_22 rfl [(2, .int 0), (0, .ref (ad B x0)), (1, .int x1)] (by decide) rfl ?_
  refine b_iconst C (v := 0) dX3_drop_23 (by decide) ?_
  refine b_istore_n C dX3_drop_24 rfl [(3, .int 0), (2, .int 0), (0, .ref (ad B x0)), (1, .int x1)] (by decide) rfl ?_
  refine b_sub [(0, .ref (ad B x0)), (1, .int x1), (2, .int 0), (3, .int 0)] [2, 3, 1, 0] rfl ?_
  exact tX3_drop_L25 C hr hlocks (0, 0, d13) hf
theorem kX3_drop (l : Launch) (D : va_G) (cy : Nat → ClassId) (B : Bs) {N : Nat} {g : Gs} {x0 : Nat} {x1 : Int32}  {dz : Ds} {d : Ds} (hf : fX3_drop N g x0 x1 d = some ((), dz)) : Met l yX3_drop (.code yX3_drop cX3_drop 4 none :: wl) rmX3_drop (PC D cy B [.ref (ad B x0), .int x1] g d) (QV D cy B g dz) 0 0 (wA B) :=
  met_of (by decide +kernel) (Nat.le_of_ble_eq_true rfl) (fun p e s m args below meth c C hr hlocks _ => b_sub [(0, .ref (ad B x0)), (1, .int x1)] [0, 1] rfl (tX3_drop_E C hr hlocks hf))
/-! KeyMatrix$Doing.end(I)V -/
theorem yo_X3_drop : yX3_drop.cls ≠ "java/lang/invoke/MethodHandle" ∧ yX3_drop.cls ≠ "java/lang/invoke/VarHandle" ∧ (parseMethodDescriptor yX3_drop.desc).map (fun d => d.parameters.length) = some 1 := by decide +kernel
theorem co_X3_drop : Cond.code yX3_drop cX3_drop 4 none ∈ wl := mW (mT4 (List.mem_of_getElem? (i := 139) (by decide +kernel))) rfl
theorem in_X3_drop : Cond.initialized yX3_drop.cls ∈ wl := mW (mT1 (List.mem_of_getElem? (i := 10) (by decide +kernel))) rfl
theorem im_X3_drop : Cond.instanceMethod yX3_drop ∈ wl := mW (mT4 (List.mem_of_getElem? (i := 138) (by decide +kernel))) rfl
theorem se_X3_drop : Cond.selects yX3_drop.cls yX3_drop yX3_drop ∈ wl := mW (mT0 (List.mem_of_getElem? (i := 23) (by decide +kernel))) rfl
theorem lv_X3_40 : LV RX3 40 yX3_drop cX3_drop 4 none 1 3 := ⟨⟨(RX3, TX3, 9), rfl, rfl⟩, yo_X3_drop, mW (mT4 (List.mem_of_getElem? (i := 136) (by decide +kernel))) rfl, im_X3_drop, se_X3_drop, in_X3_drop, co_X3_drop⟩
theorem dX3_end_0 : decode cX3_end 0 = .ok (.aload_n 0, 1) := by decide +kernel
theorem dX3_end_1 : decode cX3_end 1 = .ok (.getfield 18, 3) := by decide +kernel
theorem dX3_end_4 : decode cX3_end 4 = .ok (.iload_n 1, 1) := by decide +kernel
theorem dX3_end_5 : decode cX3_end 5 = .ok (.iaload, 1) := by decide +kernel
theorem dX3_end_6 : decode cX3_end 6 = .ok (.istore_n 2, 1) := by decide +kernel
theorem dX3_end_7 : decode cX3_end 7 = .ok (.aload_n 0, 1) := by decide +kernel
theorem dX3_end_8 : decode cX3_end 8 = .ok (.iload_n 1, 1) := by decide +kernel
theorem dX3_end_9 : decode cX3_end 9 = .ok (.invokevirtual 40, 3) := by decide +kernel
theorem dX3_end_12 : decode cX3_end 12 = .ok (.iload_n 2, 1) := by decide +kernel
theorem dX3_end_13 : decode cX3_end 13 = .ok (.iconst (-1), 1) := by decide +kernel
theorem dX3_end_14 : decode cX3_end 14 = .ok (.if_icmp .eq 8, 3) := by decide +kernel
theorem dX3_end_17 : decode cX3_end 17 = .ok (.aload_n 0, 1) := by decide +kernel
theorem dX3_end_18 : decode cX3_end 18 = .ok (.iload_n 2, 1) := by decide +kernel
theorem dX3_end_19 : decode cX3_end 19 = .ok (.invokevirtual 40, 3) := by decide +kernel
theorem dX3_end_22 : decode cX3_end 22 = .ok (.return_, 1) := by decide +kernel
def rmX3_end : Room := { frames := 1, cells := 0, slots := 0, locals := 23 }
set_option maxRecDepth 100000 in
def fX3_end_J22 (N : Nat) (g : Gs) (x0 : Nat) (x1 : Int32) (d : Ds) : Option (Unit × Ds) := some ((), d)
set_option maxHeartbeats 4000000 in
set_option maxRecDepth 100000 in
theorem tX3_end_22 {p : Program} {l : Launch} {e : Env} {s : State} {m : MethodId} {args : Array Value} {below : List Frame} {meth : Method} {c : Code} {D : va_G} {cy : Nat → ClassId} {B : Bs} (C : Cx p s m args c cX3_end 3 RX3 D cy B) (hr : meth.sig.returnType = none) (hlocks : meth.locks = false) {N : Nat} {g : Gs} {x0 : Nat} {x1 : Int32}  {dz : Ds} {d : Ds} (hf : fX3_end_J22 N g x0 x1 d = some ((), dz)) : WB p l e rmX3_end s m args below meth c 3 D cy B 0 0 (MQ below (QV D cy B g dz) args s 0 0 (wA B)) g d [(0, .ref (ad B x0)), (1, .int x1)] 22 [] := by
  unfold fX3_end_J22 at hf
  exact b_vret C hr hlocks hf dX3_end_22
set_option maxRecDepth 100000 in
def fX3_end (N : Nat) (g : Gs) (x0 : Nat) (x1 : Int32) (d : Ds) : Option (Unit × Ds) := gd (chk g x0 3) <| ob (gR g x0 2) fun r2 => (gd (chk g r2 102) <| gd (¬ (x1 < 0 ∨ gL g r2 ≤ x1.toNatClampNeg)) <| bd ((dI d r2 x1.toNatClampNeg)) fun u5 => (cv (fX3_drop N g x0 x1 d) fun d6 => (if u5 = (-1 : Int32) then (fX3_end_J22 N g x0 x1 d6) else (cv (fX3_drop N g x0 u5 d6) fun d9 => (fX3_end_J22 N g x0 x1 d9)))))
set_option maxHeartbeats 4000000 in
set_option maxRecDepth 100000 in
theorem tX3_end_E {p : Program} {l : Launch} {e : Env} {s : State} {m : MethodId} {args : Array Value} {below : List Frame} {meth : Method} {c : Code} {D : va_G} {cy : Nat → ClassId} {B : Bs} (C : Cx p s m args c cX3_end 3 RX3 D cy B) (hr : meth.sig.returnType = none) (hlocks : meth.locks = false) {N : Nat} {g : Gs} {x0 : Nat} {x1 : Int32}  {dz : Ds} {d : Ds} (hf : fX3_end N g x0 x1 d = some ((), dz)) : WB p l e rmX3_end s m args below meth c 3 D cy B 0 0 (MQ below (QV D cy B g dz) args s 0 0 (wA B)) g d [(0, .ref (ad B x0)), (1, .int x1)] 0 [] := by
  unfold fX3_end at hf
  refine b_aload_n C dX3_end_0 0 rfl rfl ?_
  obtain ⟨h1, hf⟩ := gd_s hf
  obtain ⟨r2, er2, hf⟩ := ob_s hf
  refine b_gR C dX3_end_1 fl_X3_18 h1 er2 ?_
  refine b_iload_n C dX3_end_4 1 rfl rfl ?_
  obtain ⟨h3, hf⟩ := gd_s hf
  obtain ⟨h4, hf⟩ := gd_s hf
  refine b_iald C h3 h4 dX3_end_5 ?_
  obtain ⟨u5, eu5, hf⟩ := bd_s hf
  refine b_topI eu5 ?_
  refine b_istore_n C dX3_end_6 rfl [(2, .int u5), (0, .ref (ad B x0)), (1, .int x1)] (by decide) rfl ?_
  refine b_aload_n C dX3_end_7 1 rfl rfl ?_
  refine b_iload_n C dX3_end_8 2 rfl rfl ?_
  obtain ⟨d6, k7, hf⟩ := cv_s hf
  refine b_cVN C [] dX3_end_9 (kX3_drop l D cy B k7) lv_X3_40 ⟨rfl, rfl, Nat.le_of_ble_eq_true rfl, Nat.le_of_ble_eq_true rfl⟩ h1 (by decide) rfl (Nat.le_of_ble_eq_true rfl) ⟨Nat.zero_le _, Nat.zero_le _⟩ rfl ?_
  refine b_iload_n C dX3_end_12 0 rfl rfl ?_
  refine b_iconst C (v := (-1)) dX3_end_13 (by decide) ?_
  refine b_icmp_eq C (tgt := 22) dX3_end_14 (by decide) (fun c8 => ?_) (fun c8 => ?_)
  · have hf := it_s c8 hf
    refine b_sub [(0, .ref (ad B x0)), (1, .int x1)] [1, 2] rfl ?_
    exact tX3_end_22 C hr hlocks hf
  · have hf := if_s c8 hf
    refine b_aload_n C dX3_end_17 1 rfl rfl ?_
    refine b_iload_n C dX3_end_18 0 rfl rfl ?_
    obtain ⟨d9, k10, hf⟩ := cv_s hf
    refine b_cVN C [] dX3_end_19 (kX3_drop l D cy B k10) lv_X3_40 ⟨rfl, rfl, Nat.le_of_ble_eq_true rfl, Nat.le_of_ble_eq_true rfl⟩ h1 (by decide) rfl (Nat.le_of_ble_eq_true rfl) ⟨Nat.zero_le _, Nat.zero_le _⟩ rfl ?_
    refine b_sub [(0, .ref (ad B x0)), (1, .int x1)] [1, 2] rfl ?_
    exact tX3_end_22 C hr hlocks hf
theorem kX3_end (l : Launch) (D : va_G) (cy : Nat → ClassId) (B : Bs) {N : Nat} {g : Gs} {x0 : Nat} {x1 : Int32}  {dz : Ds} {d : Ds} (hf : fX3_end N g x0 x1 d = some ((), dz)) : Met l yX3_end (.code yX3_end cX3_end 3 none :: wl) rmX3_end (PC D cy B [.ref (ad B x0), .int x1] g d) (QV D cy B g dz) 0 0 (wA B) :=
  met_of (by decide +kernel) (Nat.le_of_ble_eq_true rfl) (fun p e s m args below meth c C hr hlocks _ => b_sub [(0, .ref (ad B x0)), (1, .int x1)] [0, 1] rfl (tX3_end_E C hr hlocks hf))
/-! KeyMatrix$Doing.addCode(I)V -/
theorem fl_X3_47 : FLI RX3 47 3 8 := ⟨⟨RX3, TX3, 9, rfl, by decide, inl3, Or.inl (mW (mT2 (List.mem_of_getElem? (i := 118) (by decide +kernel))) rfl)⟩, by decide, by decide +kernel⟩
theorem fl_X3_24 : FLR RX3 24 3 7 := ⟨⟨RX3, TX3, 9, rfl, by decide, inl3, Or.inl (mW (mT2 (List.mem_of_getElem? (i := 114) (by decide +kernel))) rfl)⟩, by decide, by decide +kernel⟩
theorem fp3_8 : FPI 3 8 := ⟨ft3, (RX3, TX3, 9), rfl, by decide +kernel, by decide +kernel⟩
theorem dX3_addCode_0 : decode cX3_addCode 0 = .ok (.iconst 0, 1) := by decide +kernel
theorem dX3_addCode_1 : decode cX3_addCode 1 = .ok (.istore_n 2, 1) := by decide +kernel
theorem dX3_addCode_2 : decode cX3_addCode 2 = .ok (.iload_n 2, 1) := by decide +kernel
theorem dX3_addCode_3 : decode cX3_addCode 3 = .ok (.aload_n 0, 1) := by decide +kernel
theorem dX3_addCode_4 : decode cX3_addCode 4 = .ok (.getfield 47, 3) := by decide +kernel
theorem dX3_addCode_7 : decode cX3_addCode 7 = .ok (.if_icmp .ge 20, 3) := by decide +kernel
theorem dX3_addCode_10 : decode cX3_addCode 10 = .ok (.aload_n 0, 1) := by decide +kernel
theorem dX3_addCode_11 : decode cX3_addCode 11 = .ok (.getfield 24, 3) := by decide +kernel
theorem dX3_addCode_14 : decode cX3_addCode 14 = .ok (.iload_n 2, 1) := by decide +kernel
theorem dX3_addCode_15 : decode cX3_addCode 15 = .ok (.iaload, 1) := by decide +kernel
theorem dX3_addCode_16 : decode cX3_addCode 16 = .ok (.iload_n 1, 1) := by decide +kernel
theorem dX3_addCode_17 : decode cX3_addCode 17 = .ok (.if_icmp .ne 4, 3) := by decide +kernel
theorem dX3_addCode_20 : decode cX3_addCode 20 = .ok (.return_, 1) := by decide +kernel
theorem dX3_addCode_21 : decode cX3_addCode 21 = .ok (.iinc 2 1, 3) := by decide +kernel
theorem dX3_addCode_24 : decode cX3_addCode 24 = .ok (.goto (-22), 3) := by decide +kernel
theorem dX3_addCode_27 : decode cX3_addCode 27 = .ok (.aload_n 0, 1) := by decide +kernel
theorem dX3_addCode_28 : decode cX3_addCode 28 = .ok (.getfield 47, 3) := by decide +kernel
theorem dX3_addCode_31 : decode cX3_addCode 31 = .ok (.bipush 25, 2) := by decide +kernel
theorem dX3_addCode_33 : decode cX3_addCode 33 = .ok (.if_icmp .ge 23, 3) := by decide +kernel
theorem dX3_addCode_36 : decode cX3_addCode 36 = .ok (.aload_n 0, 1) := by decide +kernel
theorem dX3_addCode_37 : decode cX3_addCode 37 = .ok (.getfield 24, 3) := by decide +kernel
theorem dX3_addCode_40 : decode cX3_addCode 40 = .ok (.aload_n 0, 1) := by decide +kernel
theorem dX3_addCode_41 : decode cX3_addCode 41 = .ok (.getfield 47, 3) := by decide +kernel
theorem dX3_addCode_44 : decode cX3_addCode 44 = .ok (.iload_n 1, 1) := by decide +kernel
theorem dX3_addCode_45 : decode cX3_addCode 45 = .ok (.iastore, 1) := by decide +kernel
theorem dX3_addCode_46 : decode cX3_addCode 46 = .ok (.aload_n 0, 1) := by decide +kernel
theorem dX3_addCode_47 : decode cX3_addCode 47 = .ok (.dup, 1) := by decide +kernel
theorem dX3_addCode_48 : decode cX3_addCode 48 = .ok (.getfield 47, 3) := by decide +kernel
theorem dX3_addCode_51 : decode cX3_addCode 51 = .ok (.iconst 1, 1) := by decide +kernel
theorem dX3_addCode_52 : decode cX3_addCode 52 = .ok (.iadd, 1) := by decide +kernel
theorem dX3_addCode_53 : decode cX3_addCode 53 = .ok (.putfield 47, 3) := by decide +kernel
theorem dX3_addCode_56 : decode cX3_addCode 56 = .ok (.return_, 1) := by decide +kernel
def rmX3_addCode : Room := { frames := 0, cells := 0, slots := 0, locals := 0 }
set_option maxRecDepth 100000 in
def fX3_addCode_J56 (N : Nat) (g : Gs) (x0 : Nat) (x1 : Int32) (d : Ds) : Option (Unit × Ds) := some ((), d)
set_option maxHeartbeats 4000000 in
set_option maxRecDepth 100000 in
theorem tX3_addCode_56 {p : Program} {l : Launch} {e : Env} {s : State} {m : MethodId} {args : Array Value} {below : List Frame} {meth : Method} {c : Code} {D : va_G} {cy : Nat → ClassId} {B : Bs} (C : Cx p s m args c cX3_addCode 3 RX3 D cy B) (hr : meth.sig.returnType = none) (hlocks : meth.locks = false) {N : Nat} {g : Gs} {x0 : Nat} {x1 : Int32}  {dz : Ds} {d : Ds} (hf : fX3_addCode_J56 N g x0 x1 d = some ((), dz)) : WB p l e rmX3_addCode s m args below meth c 3 D cy B 0 0 (MQ below (QV D cy B g dz) args s 0 0 (wA B)) g d [(0, .ref (ad B x0)), (1, .int x1)] 56 [] := by
  unfold fX3_addCode_J56 at hf
  exact b_vret C hr hlocks hf dX3_addCode_56
set_option maxRecDepth 100000 in
def fX3_addCode_B2 (N : Nat) (g : Gs) (x0 : Nat) (x1 : Int32) (K2 : Int32 × Ds → Option (Unit × Ds)) (y2 : Int32) (d : Ds) : Option (Unit × Ds) := gd (chk g x0 3) <| if (dI d x0 8) ≤ y2 then (if (25 : Int32) ≤ (dI d x0 8) then (fX3_addCode_J56 N g x0 x1 d) else (ob (gR g x0 7) fun r4 => (gd (chk g r4 102) <| gd (¬ ((dI d x0 8) < 0 ∨ gL g r4 ≤ (dI d x0 8).toNatClampNeg)) <| bd (sI d r4 (dI d x0 8).toNatClampNeg x1) fun d7 => (bd (sI d7 x0 8 ((dI d7 x0 8) + 1)) fun d8 => (fX3_addCode_J56 N g x0 x1 d8))))) else (ob (gR g x0 7) fun r9 => (gd (chk g r9 102) <| gd (¬ (y2 < 0 ∨ gL g r9 ≤ y2.toNatClampNeg)) <| if (dI d r9 y2.toNatClampNeg) = x1 then (some ((), d)) else (bd (y2 + 1) fun u13 => (K2 (u13, d)))))
set_option maxHeartbeats 4000000 in
set_option maxRecDepth 100000 in
theorem tX3_addCode_2 {p : Program} {l : Launch} {e : Env} {s : State} {m : MethodId} {args : Array Value} {below : List Frame} {meth : Method} {c : Code} {D : va_G} {cy : Nat → ClassId} {B : Bs} (C : Cx p s m args c cX3_addCode 3 RX3 D cy B) (hr : meth.sig.returnType = none) (hlocks : meth.locks = false) {N : Nat} {g : Gs} {x0 : Nat} {x1 : Int32}  {dz : Ds} {K2 : Int32 × Ds → Option (Unit × Ds)} (hK2 : ∀ a, K2 a = some ((), dz) → WB p l e rmX3_addCode s m args below meth c 3 D cy B 0 0 (MQ below (QV D cy B g dz) args s 0 0 (wA B)) g a.2 [(0, .ref (ad B x0)), (1, .int x1), (2, .int a.1)] 2 []) {y2 : Int32} {d : Ds} (hf : fX3_addCode_B2 N g x0 x1 K2 y2 d = some ((), dz)) : WB p l e rmX3_addCode s m args below meth c 3 D cy B 0 0 (MQ below (QV D cy B g dz) args s 0 0 (wA B)) g d [(0, .ref (ad B x0)), (1, .int x1), (2, .int y2)] 2 [] := by
  unfold fX3_addCode_B2 at hf
  refine b_iload_n C dX3_addCode_2 2 rfl rfl ?_
  refine b_aload_n C dX3_addCode_3 0 rfl rfl ?_
  obtain ⟨h1, hf⟩ := gd_s hf
  refine b_gI C dX3_addCode_4 fl_X3_47 h1 ?_
  refine b_icmp_ge C (tgt := 27) dX3_addCode_7 (by decide) (fun c2 => ?_) (fun c2 => ?_)
  · have hf := it_s c2 hf
    refine b_aload_n C dX3_addCode_27 0 rfl rfl ?_
    refine b_gI C dX3_addCode_28 fl_X3_47 h1 ?_
    refine b_bipush C (v := 25) dX3_addCode_31 (by decide) ?_
    refine b_icmp_ge C (tgt := 56) dX3_addCode_33 (by decide) (fun c3 => ?_) (fun c3 => ?_)
    · have hf := it_s c3 hf
      refine b_sub [(0, .ref (ad B x0)), (1, .int x1)] [0, 1] rfl ?_
      exact tX3_addCode_56 C hr hlocks hf
    · have hf := if_s c3 hf
      refine b_aload_n C dX3_addCode_36 0 rfl rfl ?_
      obtain ⟨r4, er4, hf⟩ := ob_s hf
      refine b_gR C dX3_addCode_37 fl_X3_24 h1 er4 ?_
      refine b_aload_n C dX3_addCode_40 0 rfl rfl ?_
      refine b_gI C dX3_addCode_41 fl_X3_47 h1 ?_
      refine b_iload_n C dX3_addCode_44 1 rfl rfl ?_
      obtain ⟨h5, hf⟩ := gd_s hf
      obtain ⟨h6, hf⟩ := gd_s hf
      obtain ⟨d7, ed7, hf⟩ := bd_s hf
      refine b_iast C h5 h6 ed7 dX3_addCode_45 ?_
      refine b_aload_n C dX3_addCode_46 0 rfl rfl ?_
      refine b_dup C dX3_addCode_47 rfl ?_
      refine b_gI C dX3_addCode_48 fl_X3_47 h1 ?_
      refine b_iconst C (v := 1) dX3_addCode_51 (by decide) ?_
      refine b_iadd C dX3_addCode_52 ?_
      obtain ⟨d8, ed8, hf⟩ := bd_s hf
      refine b_pI C dX3_addCode_53 fl_X3_47 fp3_8 h1 ed8 ?_
      refine b_sub [(0, .ref (ad B x0)), (1, .int x1)] [0, 1] rfl ?_
      exact tX3_addCode_56 C hr hlocks hf
  · have hf := if_s c2 hf
    refine b_aload_n C dX3_addCode_10 0 rfl rfl ?_
    obtain ⟨r9, er9, hf⟩ := ob_s hf
    refine b_gR C dX3_addCode_11 fl_X3_24 h1 er9 ?_
    refine b_iload_n C dX3_addCode_14 2 rfl rfl ?_
    obtain ⟨h10, hf⟩ := gd_s hf
    obtain ⟨h11, hf⟩ := gd_s hf
    refine b_iald C h10 h11 dX3_addCode_15 ?_
    refine b_iload_n C dX3_addCode_16 1 rfl rfl ?_
    refine b_icmp_ne C (tgt := 21) dX3_addCode_17 (by decide) (fun c12 => ?_) (fun c12 => ?_)
    · have hf := if_s c12 hf
      obtain ⟨u13, eu13, hf⟩ := bd_s hf
      refine b_iinc C dX3_addCode_21 2 rfl (by rw [eu13]; rfl) [(2, .int u13), (0, .ref (ad B x0)), (1, .int x1)] (by decide) rfl ?_
      refine b_goto C (tgt := 2) dX3_addCode_24 (by decide) ?_
      refine b_sub [(0, .ref (ad B x0)), (1, .int x1), (2, .int u13)] [1, 2, 0] rfl ?_
      exact hK2 (u13, d) hf
    · have hf := it_s c12 hf
      exact b_vret C hr hlocks hf dX3_addCode_20
def fX3_addCode_L2 (N : Nat) (g : Gs) (x0 : Nat) (x1 : Int32) : Int32 × Ds → Option (Unit × Ds) := lp (fun K2 a => fX3_addCode_B2 N g x0 x1 K2 a.1 a.2) N
theorem tX3_addCode_L2 {p : Program} {l : Launch} {e : Env} {s : State} {m : MethodId} {args : Array Value} {below : List Frame} {meth : Method} {c : Code} {D : va_G} {cy : Nat → ClassId} {B : Bs} (C : Cx p s m args c cX3_addCode 3 RX3 D cy B) (hr : meth.sig.returnType = none) (hlocks : meth.locks = false) {N : Nat} {g : Gs} {x0 : Nat} {x1 : Int32}  {dz : Ds} (a : Int32 × Ds) (hf : fX3_addCode_L2 N g x0 x1 a = some ((), dz)) : WB p l e rmX3_addCode s m args below meth c 3 D cy B 0 0 (MQ below (QV D cy B g dz) args s 0 0 (wA B)) g a.2 [(0, .ref (ad B x0)), (1, .int x1), (2, .int a.1)] 2 [] :=
  lp_w (fun K2 hK2 a ha => tX3_addCode_2 C hr hlocks hK2 ha) N a hf
set_option maxRecDepth 100000 in
def fX3_addCode (N : Nat) (g : Gs) (x0 : Nat) (x1 : Int32) (d : Ds) : Option (Unit × Ds) := fX3_addCode_L2 N g x0 x1 (0, d)
set_option maxHeartbeats 4000000 in
set_option maxRecDepth 100000 in
theorem tX3_addCode_E {p : Program} {l : Launch} {e : Env} {s : State} {m : MethodId} {args : Array Value} {below : List Frame} {meth : Method} {c : Code} {D : va_G} {cy : Nat → ClassId} {B : Bs} (C : Cx p s m args c cX3_addCode 3 RX3 D cy B) (hr : meth.sig.returnType = none) (hlocks : meth.locks = false) {N : Nat} {g : Gs} {x0 : Nat} {x1 : Int32}  {dz : Ds} {d : Ds} (hf : fX3_addCode N g x0 x1 d = some ((), dz)) : WB p l e rmX3_addCode s m args below meth c 3 D cy B 0 0 (MQ below (QV D cy B g dz) args s 0 0 (wA B)) g d [(0, .ref (ad B x0)), (1, .int x1)] 0 [] := by
  unfold fX3_addCode at hf
  refine b_iconst C (v := 0) dX3_addCode_0 (by decide) ?_
  refine b_istore_n C dX3_addCode_1 rfl [(2, .int 0), (0, .ref (ad B x0)), (1, .int x1)] (by decide) rfl ?_
  refine b_sub [(0, .ref (ad B x0)), (1, .int x1), (2, .int 0)] [1, 2, 0] rfl ?_
  exact tX3_addCode_L2 C hr hlocks (0, d) hf
theorem kX3_addCode (l : Launch) (D : va_G) (cy : Nat → ClassId) (B : Bs) {N : Nat} {g : Gs} {x0 : Nat} {x1 : Int32}  {dz : Ds} {d : Ds} (hf : fX3_addCode N g x0 x1 d = some ((), dz)) : Met l yX3_addCode (.code yX3_addCode cX3_addCode 3 none :: wl) rmX3_addCode (PC D cy B [.ref (ad B x0), .int x1] g d) (QV D cy B g dz) 0 0 (wA B) :=
  met_of (by decide +kernel) (Nat.le_of_ble_eq_true rfl) (fun p e s m args below meth c C hr hlocks _ => b_sub [(0, .ref (ad B x0)), (1, .int x1)] [0, 1] rfl (tX3_addCode_E C hr hlocks hf))
/-! KeyMatrix$Doing.gather(I)V -/
theorem fl_X3_44 : FLI RX3 44 3 6 := ⟨⟨RX3, TX3, 9, rfl, by decide, inl3, Or.inl (mW (mT2 (List.mem_of_getElem? (i := 112) (by decide +kernel))) rfl)⟩, by decide, by decide +kernel⟩
theorem fp3_6 : FPI 3 6 := ⟨ft3, (RX3, TX3, 9), rfl, by decide +kernel, by decide +kernel⟩
theorem yo_X3_addCode : yX3_addCode.cls ≠ "java/lang/invoke/MethodHandle" ∧ yX3_addCode.cls ≠ "java/lang/invoke/VarHandle" ∧ (parseMethodDescriptor yX3_addCode.desc).map (fun d => d.parameters.length) = some 1 := by decide +kernel
theorem co_X3_addCode : Cond.code yX3_addCode cX3_addCode 3 none ∈ wl := mW (mT4 (List.mem_of_getElem? (i := 151) (by decide +kernel))) rfl
theorem in_X3_addCode : Cond.initialized yX3_addCode.cls ∈ wl := mW (mT1 (List.mem_of_getElem? (i := 10) (by decide +kernel))) rfl
theorem im_X3_addCode : Cond.instanceMethod yX3_addCode ∈ wl := mW (mT4 (List.mem_of_getElem? (i := 150) (by decide +kernel))) rfl
theorem se_X3_addCode : Cond.selects yX3_addCode.cls yX3_addCode yX3_addCode ∈ wl := mW (mT0 (List.mem_of_getElem? (i := 25) (by decide +kernel))) rfl
theorem lv_X3_50 : LV RX3 50 yX3_addCode cX3_addCode 3 none 1 3 := ⟨⟨(RX3, TX3, 9), rfl, rfl⟩, yo_X3_addCode, mW (mT4 (List.mem_of_getElem? (i := 148) (by decide +kernel))) rfl, im_X3_addCode, se_X3_addCode, in_X3_addCode, co_X3_addCode⟩
theorem dX3_gather_0 : decode cX3_gather 0 = .ok (.aload_n 0, 1) := by decide +kernel
theorem dX3_gather_1 : decode cX3_gather 1 = .ok (.iconst 0, 1) := by decide +kernel
theorem dX3_gather_2 : decode cX3_gather 2 = .ok (.putfield 44, 3) := by decide +kernel
theorem dX3_gather_5 : decode cX3_gather 5 = .ok (.aload_n 0, 1) := by decide +kernel
theorem dX3_gather_6 : decode cX3_gather 6 = .ok (.iconst 0, 1) := by decide +kernel
theorem dX3_gather_7 : decode cX3_gather 7 = .ok (.putfield 47, 3) := by decide +kernel
theorem dX3_gather_10 : decode cX3_gather 10 = .ok (.iconst 0, 1) := by decide +kernel
theorem dX3_gather_11 : decode cX3_gather 11 = .ok (.istore_n 2, 1) := by decide +kernel
theorem dX3_gather_12 : decode cX3_gather 12 = .ok (.iload_n 2, 1) := by decide +kernel
theorem dX3_gather_13 : decode cX3_gather 13 = .ok (.aload_n 0, 1) := by decide +kernel
theorem dX3_gather_14 : decode cX3_gather 14 = .ok (.getfield 27, 3) := by decide +kernel
theorem dX3_gather_17 : decode cX3_gather 17 = .ok (.if_icmp .ge 65, 3) := by decide +kernel
theorem dX3_gather_20 : decode cX3_gather 20 = .ok (.aload_n 0, 1) := by decide +kernel
theorem dX3_gather_21 : decode cX3_gather 21 = .ok (.getfield 21, 3) := by decide +kernel
theorem dX3_gather_24 : decode cX3_gather 24 = .ok (.iload_n 2, 1) := by decide +kernel
theorem dX3_gather_25 : decode cX3_gather 25 = .ok (.iaload, 1) := by decide +kernel
theorem dX3_gather_26 : decode cX3_gather 26 = .ok (.istore_n 3, 1) := by decide +kernel
theorem dX3_gather_27 : decode cX3_gather 27 = .ok (.aload_n 0, 1) := by decide +kernel
theorem dX3_gather_28 : decode cX3_gather 28 = .ok (.getfield 9, 3) := by decide +kernel
theorem dX3_gather_31 : decode cX3_gather 31 = .ok (.iload_n 3, 1) := by decide +kernel
theorem dX3_gather_32 : decode cX3_gather 32 = .ok (.iaload, 1) := by decide +kernel
theorem dX3_gather_33 : decode cX3_gather 33 = .ok (.iconst 1, 1) := by decide +kernel
theorem dX3_gather_34 : decode cX3_gather 34 = .ok (.if_icmp .ne 23, 3) := by decide +kernel
theorem dX3_gather_37 : decode cX3_gather 37 = .ok (.aload_n 0, 1) := by decide +kernel
theorem dX3_gather_38 : decode cX3_gather 38 = .ok (.dup, 1) := by decide +kernel
theorem dX3_gather_39 : decode cX3_gather 39 = .ok (.getfield 44, 3) := by decide +kernel
theorem dX3_gather_42 : decode cX3_gather 42 = .ok (.iconst 1, 1) := by decide +kernel
theorem dX3_gather_43 : decode cX3_gather 43 = .ok (.aload_n 0, 1) := by decide +kernel
theorem dX3_gather_44 : decode cX3_gather 44 = .ok (.getfield 15, 3) := by decide +kernel
theorem dX3_gather_47 : decode cX3_gather 47 = .ok (.iload_n 3, 1) := by decide +kernel
theorem dX3_gather_48 : decode cX3_gather 48 = .ok (.iaload, 1) := by decide +kernel
theorem dX3_gather_49 : decode cX3_gather 49 = .ok (.ishl, 1) := by decide +kernel
theorem dX3_gather_50 : decode cX3_gather 50 = .ok (.ior, 1) := by decide +kernel
theorem dX3_gather_51 : decode cX3_gather 51 = .ok (.putfield 44, 3) := by decide +kernel
theorem dX3_gather_54 : decode cX3_gather 54 = .ok (.goto 22, 3) := by decide +kernel
theorem dX3_gather_57 : decode cX3_gather 57 = .ok (.aload_n 0, 1) := by decide +kernel
theorem dX3_gather_58 : decode cX3_gather 58 = .ok (.getfield 9, 3) := by decide +kernel
theorem dX3_gather_61 : decode cX3_gather 61 = .ok (.iload_n 3, 1) := by decide +kernel
theorem dX3_gather_62 : decode cX3_gather 62 = .ok (.iaload, 1) := by decide +kernel
theorem dX3_gather_63 : decode cX3_gather 63 = .ok (.ifCond .ne 13, 3) := by decide +kernel
theorem dX3_gather_66 : decode cX3_gather 66 = .ok (.aload_n 0, 1) := by decide +kernel
theorem dX3_gather_67 : decode cX3_gather 67 = .ok (.aload_n 0, 1) := by decide +kernel
theorem dX3_gather_68 : decode cX3_gather 68 = .ok (.getfield 15, 3) := by decide +kernel
theorem dX3_gather_71 : decode cX3_gather 71 = .ok (.iload_n 3, 1) := by decide +kernel
theorem dX3_gather_72 : decode cX3_gather 72 = .ok (.iaload, 1) := by decide +kernel
theorem dX3_gather_73 : decode cX3_gather 73 = .ok (.invokevirtual 50, 3) := by decide +kernel
theorem dX3_gather_76 : decode cX3_gather 76 = .ok (.iinc 2 1, 3) := by decide +kernel
theorem dX3_gather_79 : decode cX3_gather 79 = .ok (.goto (-67), 3) := by decide +kernel
theorem dX3_gather_82 : decode cX3_gather 82 = .ok (.iload_n 1, 1) := by decide +kernel
theorem dX3_gather_83 : decode cX3_gather 83 = .ok (.iconst (-1), 1) := by decide +kernel
theorem dX3_gather_84 : decode cX3_gather 84 = .ok (.if_icmp .eq 8, 3) := by decide +kernel
theorem dX3_gather_87 : decode cX3_gather 87 = .ok (.aload_n 0, 1) := by decide +kernel
theorem dX3_gather_88 : decode cX3_gather 88 = .ok (.iload_n 1, 1) := by decide +kernel
theorem dX3_gather_89 : decode cX3_gather 89 = .ok (.invokevirtual 50, 3) := by decide +kernel
theorem dX3_gather_92 : decode cX3_gather 92 = .ok (.return_, 1) := by decide +kernel
def rmX3_gather : Room := { frames := 1, cells := 0, slots := 0, locals := 22 }
set_option maxRecDepth 100000 in
def fX3_gather_J92 (N : Nat) (g : Gs) (x0 : Nat) (x1 : Int32) (d : Ds) : Option (Unit × Ds) := some ((), d)
set_option maxHeartbeats 4000000 in
set_option maxRecDepth 100000 in
theorem tX3_gather_92 {p : Program} {l : Launch} {e : Env} {s : State} {m : MethodId} {args : Array Value} {below : List Frame} {meth : Method} {c : Code} {D : va_G} {cy : Nat → ClassId} {B : Bs} (C : Cx p s m args c cX3_gather 4 RX3 D cy B) (hr : meth.sig.returnType = none) (hlocks : meth.locks = false) {N : Nat} {g : Gs} {x0 : Nat} {x1 : Int32}  {dz : Ds} {d : Ds} (hf : fX3_gather_J92 N g x0 x1 d = some ((), dz)) : WB p l e rmX3_gather s m args below meth c 4 D cy B 0 0 (MQ below (QV D cy B g dz) args s 0 0 (wA B)) g d [(0, .ref (ad B x0)), (1, .int x1)] 92 [] := by
  unfold fX3_gather_J92 at hf
  exact b_vret C hr hlocks hf dX3_gather_92
set_option maxRecDepth 100000 in
def fX3_gather_J76 (N : Nat) (g : Gs) (x0 : Nat) (x1 : Int32) (K12 : Int32 × Ds → Option (Unit × Ds)) (y2 : Int32) (d : Ds) : Option (Unit × Ds) := bd (y2 + 1) fun u18 => (K12 (u18, d))
set_option maxHeartbeats 4000000 in
set_option maxRecDepth 100000 in
theorem tX3_gather_76 {p : Program} {l : Launch} {e : Env} {s : State} {m : MethodId} {args : Array Value} {below : List Frame} {meth : Method} {c : Code} {D : va_G} {cy : Nat → ClassId} {B : Bs} (C : Cx p s m args c cX3_gather 4 RX3 D cy B) (hr : meth.sig.returnType = none) (hlocks : meth.locks = false) {N : Nat} {g : Gs} {x0 : Nat} {x1 : Int32}  {dz : Ds} {K12 : Int32 × Ds → Option (Unit × Ds)} (hK12 : ∀ a, K12 a = some ((), dz) → WB p l e rmX3_gather s m args below meth c 4 D cy B 0 0 (MQ below (QV D cy B g dz) args s 0 0 (wA B)) g a.2 [(0, .ref (ad B x0)), (1, .int x1), (2, .int a.1)] 12 []) {y2 : Int32} {d : Ds} (hf : fX3_gather_J76 N g x0 x1 K12 y2 d = some ((), dz)) : WB p l e rmX3_gather s m args below meth c 4 D cy B 0 0 (MQ below (QV D cy B g dz) args s 0 0 (wA B)) g d [(0, .ref (ad B x0)), (1, .int x1), (2, .int y2)] 76 [] := by
  unfold fX3_gather_J76 at hf
  obtain ⟨u18, eu18, hf⟩ := bd_s hf
  refine b_iinc C dX3_gather_76 2 rfl (by rw [eu18]; rfl) [(2, .int u18), (0, .ref (ad B x0)), (1, .int x1)] (by decide) rfl ?_
  refine b_goto C (tgt := 12) dX3_gather_79 (by decide) ?_
  refine b_sub [(0, .ref (ad B x0)), (1, .int x1), (2, .int u18)] [1, 2, 0] rfl ?_
  exact hK12 (u18, d) hf
set_option maxRecDepth 100000 in
def fX3_gather_B12 (N : Nat) (g : Gs) (x0 : Nat) (x1 : Int32) (K12 : Int32 × Ds → Option (Unit × Ds)) (y2 : Int32) (d : Ds) : Option (Unit × Ds) := gd (chk g x0 3) <| if (dI d x0 4) ≤ y2 then (if x1 = (-1 : Int32) then (fX3_gather_J92 N g x0 x1 d) else (cv (fX3_addCode N g x0 x1 d) fun d7 => (fX3_gather_J92 N g x0 x1 d7))) else (ob (gR g x0 3) fun r9 => (gd (chk g r9 102) <| gd (¬ (y2 < 0 ∨ gL g r9 ≤ y2.toNatClampNeg)) <| bd ((dI d r9 y2.toNatClampNeg)) fun u12 => (ob (gR g x0 0) fun r13 => (gd (chk g r13 102) <| gd (¬ (u12 < 0 ∨ gL g r13 ≤ u12.toNatClampNeg)) <| if (dI d r13 u12.toNatClampNeg) = (1 : Int32) then (ob (gR g x0 1) fun r24 => (gd (chk g r24 102) <| gd (¬ (u12 < 0 ∨ gL g r24 ≤ u12.toNatClampNeg)) <| bd (sI d x0 6 ((dI d x0 6) ||| ((1 : Int32) <<< ((dI d r24 u12.toNatClampNeg) &&& 31)))) fun d27 => (fX3_gather_J76 N g x0 x1 K12 y2 d27))) else (if (dI d r13 u12.toNatClampNeg) = 0 then (ob (gR g x0 1) fun r19 => (gd (chk g r19 102) <| gd (¬ (u12 < 0 ∨ gL g r19 ≤ u12.toNatClampNeg)) <| cv (fX3_addCode N g x0 (dI d r19 u12.toNatClampNeg) d) fun d22 => (fX3_gather_J76 N g x0 x1 K12 y2 d22))) else (fX3_gather_J76 N g x0 x1 K12 y2 d))))))
set_option maxHeartbeats 4000000 in
set_option maxRecDepth 100000 in
theorem tX3_gather_12 {p : Program} {l : Launch} {e : Env} {s : State} {m : MethodId} {args : Array Value} {below : List Frame} {meth : Method} {c : Code} {D : va_G} {cy : Nat → ClassId} {B : Bs} (C : Cx p s m args c cX3_gather 4 RX3 D cy B) (hr : meth.sig.returnType = none) (hlocks : meth.locks = false) {N : Nat} {g : Gs} {x0 : Nat} {x1 : Int32}  {dz : Ds} {K12 : Int32 × Ds → Option (Unit × Ds)} (hK12 : ∀ a, K12 a = some ((), dz) → WB p l e rmX3_gather s m args below meth c 4 D cy B 0 0 (MQ below (QV D cy B g dz) args s 0 0 (wA B)) g a.2 [(0, .ref (ad B x0)), (1, .int x1), (2, .int a.1)] 12 []) {y2 : Int32} {d : Ds} (hf : fX3_gather_B12 N g x0 x1 K12 y2 d = some ((), dz)) : WB p l e rmX3_gather s m args below meth c 4 D cy B 0 0 (MQ below (QV D cy B g dz) args s 0 0 (wA B)) g d [(0, .ref (ad B x0)), (1, .int x1), (2, .int y2)] 12 [] := by
  unfold fX3_gather_B12 at hf
  refine b_iload_n C dX3_gather_12 2 rfl rfl ?_
  refine b_aload_n C dX3_gather_13 0 rfl rfl ?_
  obtain ⟨h4, hf⟩ := gd_s hf
  refine b_gI C dX3_gather_14 fl_X3_27 h4 ?_
  refine b_icmp_ge C (tgt := 82) dX3_gather_17 (by decide) (fun c5 => ?_) (fun c5 => ?_)
  · have hf := it_s c5 hf
    refine b_iload_n C dX3_gather_82 1 rfl rfl ?_
    refine b_iconst C (v := (-1)) dX3_gather_83 (by decide) ?_
    refine b_icmp_eq C (tgt := 92) dX3_gather_84 (by decide) (fun c6 => ?_) (fun c6 => ?_)
    · have hf := it_s c6 hf
      refine b_sub [(0, .ref (ad B x0)), (1, .int x1)] [0, 1] rfl ?_
      exact tX3_gather_92 C hr hlocks hf
    · have hf := if_s c6 hf
      refine b_aload_n C dX3_gather_87 0 rfl rfl ?_
      refine b_iload_n C dX3_gather_88 1 rfl rfl ?_
      obtain ⟨d7, k8, hf⟩ := cv_s hf
      refine b_cVN C [] dX3_gather_89 (kX3_addCode l D cy B k8) lv_X3_50 ⟨rfl, rfl, Nat.le_of_ble_eq_true rfl, Nat.le_of_ble_eq_true rfl⟩ h4 (by decide) rfl (Nat.le_of_ble_eq_true rfl) ⟨Nat.zero_le _, Nat.zero_le _⟩ rfl ?_
      refine b_sub [(0, .ref (ad B x0)), (1, .int x1)] [0, 1] rfl ?_
      exact tX3_gather_92 C hr hlocks hf
  · have hf := if_s c5 hf
    refine b_aload_n C dX3_gather_20 0 rfl rfl ?_
    obtain ⟨r9, er9, hf⟩ := ob_s hf
    refine b_gR C dX3_gather_21 fl_X3_21 h4 er9 ?_
    refine b_iload_n C dX3_gather_24 2 rfl rfl ?_
    obtain ⟨h10, hf⟩ := gd_s hf
    obtain ⟨h11, hf⟩ := gd_s hf
    refine b_iald C h10 h11 dX3_gather_25 ?_
    obtain ⟨u12, eu12, hf⟩ := bd_s hf
    refine b_topI eu12 ?_
    refine b_istore_n C dX3_gather_26 rfl [(3, .int u12), (0, .ref (ad B x0)), (1, .int x1), (2, .int y2)] (by decide) rfl ?_
    refine b_aload_n C dX3_gather_27 1 rfl rfl ?_
    obtain ⟨r13, er13, hf⟩ := ob_s hf
    refine b_gR C dX3_gather_28 fl_X3_9 h4 er13 ?_
    refine b_iload_n C dX3_gather_31 0 rfl rfl ?_
    obtain ⟨h14, hf⟩ := gd_s hf
    obtain ⟨h15, hf⟩ := gd_s hf
    refine b_iald C h14 h15 dX3_gather_32 ?_
    refine b_iconst C (v := 1) dX3_gather_33 (by decide) ?_
    refine b_icmp_ne C (tgt := 57) dX3_gather_34 (by decide) (fun c16 => ?_) (fun c16 => ?_)
    · have hf := if_s c16 hf
      refine b_aload_n C dX3_gather_57 1 rfl rfl ?_
      refine b_gR C dX3_gather_58 fl_X3_9 h4 er13 ?_
      refine b_iload_n C dX3_gather_61 0 rfl rfl ?_
      refine b_iald C h14 h15 dX3_gather_62 ?_
      refine b_if_ne C (tgt := 76) dX3_gather_63 (by decide) (fun c17 => ?_) (fun c17 => ?_)
      · have hf := if_s c17 hf
        refine b_sub [(0, .ref (ad B x0)), (1, .int x1), (2, .int y2)] [1, 2, 3] rfl ?_
        exact tX3_gather_76 C hr hlocks hK12 hf
      · have hf := it_s c17 hf
        refine b_aload_n C dX3_gather_66 1 rfl rfl ?_
        refine b_aload_n C dX3_gather_67 1 rfl rfl ?_
        obtain ⟨r19, er19, hf⟩ := ob_s hf
        refine b_gR C dX3_gather_68 fl_X3_15 h4 er19 ?_
        refine b_iload_n C dX3_gather_71 0 rfl rfl ?_
        obtain ⟨h20, hf⟩ := gd_s hf
        obtain ⟨h21, hf⟩ := gd_s hf
        refine b_iald C h20 h21 dX3_gather_72 ?_
        obtain ⟨d22, k23, hf⟩ := cv_s hf
        refine b_cVN C [] dX3_gather_73 (kX3_addCode l D cy B k23) lv_X3_50 ⟨rfl, rfl, Nat.le_of_ble_eq_true rfl, Nat.le_of_ble_eq_true rfl⟩ h4 (by decide) rfl (Nat.le_of_ble_eq_true rfl) ⟨Nat.zero_le _, Nat.zero_le _⟩ rfl ?_
        refine b_sub [(0, .ref (ad B x0)), (1, .int x1), (2, .int y2)] [1, 2, 3] rfl ?_
        exact tX3_gather_76 C hr hlocks hK12 hf
    · have hf := it_s c16 hf
      refine b_aload_n C dX3_gather_37 1 rfl rfl ?_
      refine b_dup C dX3_gather_38 rfl ?_
      refine b_gI C dX3_gather_39 fl_X3_44 h4 ?_
      refine b_iconst C (v := 1) dX3_gather_42 (by decide) ?_
      refine b_aload_n C dX3_gather_43 1 rfl rfl ?_
      obtain ⟨r24, er24, hf⟩ := ob_s hf
      refine b_gR C dX3_gather_44 fl_X3_15 h4 er24 ?_
      refine b_iload_n C dX3_gather_47 0 rfl rfl ?_
      obtain ⟨h25, hf⟩ := gd_s hf
      obtain ⟨h26, hf⟩ := gd_s hf
      refine b_iald C h25 h26 dX3_gather_48 ?_
      refine b_ishl C dX3_gather_49 ?_
      refine b_ior C dX3_gather_50 ?_
      obtain ⟨d27, ed27, hf⟩ := bd_s hf
      refine b_pI C dX3_gather_51 fl_X3_44 fp3_6 h4 ed27 ?_
      refine b_goto C (tgt := 76) dX3_gather_54 (by decide) ?_
      refine b_sub [(0, .ref (ad B x0)), (1, .int x1), (2, .int y2)] [1, 2, 3] rfl ?_
      exact tX3_gather_76 C hr hlocks hK12 hf
def fX3_gather_L12 (N : Nat) (g : Gs) (x0 : Nat) (x1 : Int32) : Int32 × Ds → Option (Unit × Ds) := lp (fun K12 a => fX3_gather_B12 N g x0 x1 K12 a.1 a.2) N
theorem tX3_gather_L12 {p : Program} {l : Launch} {e : Env} {s : State} {m : MethodId} {args : Array Value} {below : List Frame} {meth : Method} {c : Code} {D : va_G} {cy : Nat → ClassId} {B : Bs} (C : Cx p s m args c cX3_gather 4 RX3 D cy B) (hr : meth.sig.returnType = none) (hlocks : meth.locks = false) {N : Nat} {g : Gs} {x0 : Nat} {x1 : Int32}  {dz : Ds} (a : Int32 × Ds) (hf : fX3_gather_L12 N g x0 x1 a = some ((), dz)) : WB p l e rmX3_gather s m args below meth c 4 D cy B 0 0 (MQ below (QV D cy B g dz) args s 0 0 (wA B)) g a.2 [(0, .ref (ad B x0)), (1, .int x1), (2, .int a.1)] 12 [] :=
  lp_w (fun K12 hK12 a ha => tX3_gather_12 C hr hlocks hK12 ha) N a hf
set_option maxRecDepth 100000 in
def fX3_gather (N : Nat) (g : Gs) (x0 : Nat) (x1 : Int32) (d : Ds) : Option (Unit × Ds) := gd (chk g x0 3) <| bd (sI d x0 6 0) fun d2 => (bd (sI d2 x0 8 0) fun d3 => (fX3_gather_L12 N g x0 x1 (0, d3)))
set_option maxHeartbeats 4000000 in
set_option maxRecDepth 100000 in
theorem tX3_gather_E {p : Program} {l : Launch} {e : Env} {s : State} {m : MethodId} {args : Array Value} {below : List Frame} {meth : Method} {c : Code} {D : va_G} {cy : Nat → ClassId} {B : Bs} (C : Cx p s m args c cX3_gather 4 RX3 D cy B) (hr : meth.sig.returnType = none) (hlocks : meth.locks = false) {N : Nat} {g : Gs} {x0 : Nat} {x1 : Int32}  {dz : Ds} {d : Ds} (hf : fX3_gather N g x0 x1 d = some ((), dz)) : WB p l e rmX3_gather s m args below meth c 4 D cy B 0 0 (MQ below (QV D cy B g dz) args s 0 0 (wA B)) g d [(0, .ref (ad B x0)), (1, .int x1)] 0 [] := by
  unfold fX3_gather at hf
  refine b_aload_n C dX3_gather_0 0 rfl rfl ?_
  refine b_iconst C (v := 0) dX3_gather_1 (by decide) ?_
  obtain ⟨h1, hf⟩ := gd_s hf
  obtain ⟨d2, ed2, hf⟩ := bd_s hf
  refine b_pI C dX3_gather_2 fl_X3_44 fp3_6 h1 ed2 ?_
  refine b_aload_n C dX3_gather_5 0 rfl rfl ?_
  refine b_iconst C (v := 0) dX3_gather_6 (by decide) ?_
  obtain ⟨d3, ed3, hf⟩ := bd_s hf
  refine b_pI C dX3_gather_7 fl_X3_47 fp3_8 h1 ed3 ?_
  refine b_iconst C (v := 0) dX3_gather_10 (by decide) ?_
  refine b_istore_n C dX3_gather_11 rfl [(2, .int 0), (0, .ref (ad B x0)), (1, .int x1)] (by decide) rfl ?_
  refine b_sub [(0, .ref (ad B x0)), (1, .int x1), (2, .int 0)] [1, 2, 0] rfl ?_
  exact tX3_gather_L12 C hr hlocks (0, d3) hf
theorem kX3_gather (l : Launch) (D : va_G) (cy : Nat → ClassId) (B : Bs) {N : Nat} {g : Gs} {x0 : Nat} {x1 : Int32}  {dz : Ds} {d : Ds} (hf : fX3_gather N g x0 x1 d = some ((), dz)) : Met l yX3_gather (.code yX3_gather cX3_gather 4 none :: wl) rmX3_gather (PC D cy B [.ref (ad B x0), .int x1] g d) (QV D cy B g dz) 0 0 (wA B) :=
  met_of (by decide +kernel) (Nat.le_of_ble_eq_true rfl) (fun p e s m args below meth c C hr hlocks _ => b_sub [(0, .ref (ad B x0)), (1, .int x1)] [0, 1] rfl (tX3_gather_E C hr hlocks hf))
/-! KeyMatrix$Reports.rowOf(I)I -/
theorem dX5_rowOf_0 : decode cX5_rowOf 0 = .ok (.iload_n 1, 1) := by decide +kernel
theorem dX5_rowOf_1 : decode cX5_rowOf 1 = .ok (.ifCond .lt 17, 3) := by decide +kernel
theorem dX5_rowOf_4 : decode cX5_rowOf 4 = .ok (.iload_n 1, 1) := by decide +kernel
theorem dX5_rowOf_5 : decode cX5_rowOf 5 = .ok (.bipush 40, 2) := by decide +kernel
theorem dX5_rowOf_7 : decode cX5_rowOf 7 = .ok (.if_icmp .ge 11, 3) := by decide +kernel
theorem dX5_rowOf_10 : decode cX5_rowOf 10 = .ok (.iload_n 1, 1) := by decide +kernel
theorem dX5_rowOf_11 : decode cX5_rowOf 11 = .ok (.aload_n 0, 1) := by decide +kernel
theorem dX5_rowOf_12 : decode cX5_rowOf 12 = .ok (.getfield 26, 3) := by decide +kernel
theorem dX5_rowOf_15 : decode cX5_rowOf 15 = .ok (.if_icmp .lt 7, 3) := by decide +kernel
theorem dX5_rowOf_18 : decode cX5_rowOf 18 = .ok (.iconst (-1), 1) := by decide +kernel
theorem dX5_rowOf_19 : decode cX5_rowOf 19 = .ok (.goto 14, 3) := by decide +kernel
theorem dX5_rowOf_22 : decode cX5_rowOf 22 = .ok (.aload_n 0, 1) := by decide +kernel
theorem dX5_rowOf_23 : decode cX5_rowOf 23 = .ok (.getfield 26, 3) := by decide +kernel
theorem dX5_rowOf_26 : decode cX5_rowOf 26 = .ok (.iconst 1, 1) := by decide +kernel
theorem dX5_rowOf_27 : decode cX5_rowOf 27 = .ok (.isub, 1) := by decide +kernel
theorem dX5_rowOf_28 : decode cX5_rowOf 28 = .ok (.iload_n 1, 1) := by decide +kernel
theorem dX5_rowOf_29 : decode cX5_rowOf 29 = .ok (.isub, 1) := by decide +kernel
theorem dX5_rowOf_30 : decode cX5_rowOf 30 = .ok (.bipush 40, 2) := by decide +kernel
theorem dX5_rowOf_32 : decode cX5_rowOf 32 = .ok (.irem, 1) := by decide +kernel
theorem dX5_rowOf_33 : decode cX5_rowOf 33 = .ok (.ireturn, 1) := by decide +kernel
def rmX5_rowOf : Room := { frames := 0, cells := 0, slots := 0, locals := 0 }
set_option maxRecDepth 100000 in
def fX5_rowOf_J33 (N : Nat) (g : Gs) (x0 : Nat) (x1 : Int32) (z0 : Int32) (d : Ds) : Option (Int32 × Ds) := some (z0, d)
set_option maxHeartbeats 4000000 in
set_option maxRecDepth 100000 in
theorem tX5_rowOf_33 {p : Program} {l : Launch} {e : Env} {s : State} {m : MethodId} {args : Array Value} {below : List Frame} {meth : Method} {c : Code} {D : va_G} {cy : Nat → ClassId} {B : Bs} (C : Cx p s m args c cX5_rowOf 2 RX5 D cy B) (hr : meth.sig.returnType = (some .int)) (hlocks : meth.locks = false) {N : Nat} {g : Gs} {x0 : Nat} {x1 : Int32} {vz : Int32} {dz : Ds} {z0 : Int32} {d : Ds} (hf : fX5_rowOf_J33 N g x0 x1 z0 d = some (vz, dz)) : WB p l e rmX5_rowOf s m args below meth c 2 D cy B 0 0 (MQ below (QI D cy B vz g dz) args s 0 0 (wA B)) g d [(0, .ref (ad B x0)), (1, .int x1)] 33 [.int z0] := by
  unfold fX5_rowOf_J33 at hf
  exact b_iret C hr hlocks hf dX5_rowOf_33
set_option maxRecDepth 100000 in
def fX5_rowOf_J18 (N : Nat) (g : Gs) (x0 : Nat) (x1 : Int32) (d : Ds) : Option (Int32 × Ds) := fX5_rowOf_J33 N g x0 x1 (-1) d
set_option maxHeartbeats 4000000 in
set_option maxRecDepth 100000 in
theorem tX5_rowOf_18 {p : Program} {l : Launch} {e : Env} {s : State} {m : MethodId} {args : Array Value} {below : List Frame} {meth : Method} {c : Code} {D : va_G} {cy : Nat → ClassId} {B : Bs} (C : Cx p s m args c cX5_rowOf 2 RX5 D cy B) (hr : meth.sig.returnType = (some .int)) (hlocks : meth.locks = false) {N : Nat} {g : Gs} {x0 : Nat} {x1 : Int32} {vz : Int32} {dz : Ds} {d : Ds} (hf : fX5_rowOf_J18 N g x0 x1 d = some (vz, dz)) : WB p l e rmX5_rowOf s m args below meth c 2 D cy B 0 0 (MQ below (QI D cy B vz g dz) args s 0 0 (wA B)) g d [(0, .ref (ad B x0)), (1, .int x1)] 18 [] := by
  unfold fX5_rowOf_J18 at hf
  refine b_iconst C (v := (-1)) dX5_rowOf_18 (by decide) ?_
  refine b_goto C (tgt := 33) dX5_rowOf_19 (by decide) ?_
  refine b_sub [(0, .ref (ad B x0)), (1, .int x1)] [0, 1] rfl ?_
  exact tX5_rowOf_33 C hr hlocks hf
set_option maxRecDepth 100000 in
def fX5_rowOf (N : Nat) (g : Gs) (x0 : Nat) (x1 : Int32) (d : Ds) : Option (Int32 × Ds) := if x1 < 0 then (fX5_rowOf_J18 N g x0 x1 d) else (if (40 : Int32) ≤ x1 then (fX5_rowOf_J18 N g x0 x1 d) else (gd (chk g x0 5) <| if x1 < (dI d x0 4) then (gd (¬ (40 : Int32) = 0) <| fX5_rowOf_J33 N g x0 x1 ((((dI d x0 4) - 1) - x1) - (((dI d x0 4) - 1) - x1) / 40 * 40) d) else (fX5_rowOf_J18 N g x0 x1 d)))
set_option maxHeartbeats 4000000 in
set_option maxRecDepth 100000 in
theorem tX5_rowOf_E {p : Program} {l : Launch} {e : Env} {s : State} {m : MethodId} {args : Array Value} {below : List Frame} {meth : Method} {c : Code} {D : va_G} {cy : Nat → ClassId} {B : Bs} (C : Cx p s m args c cX5_rowOf 2 RX5 D cy B) (hr : meth.sig.returnType = (some .int)) (hlocks : meth.locks = false) {N : Nat} {g : Gs} {x0 : Nat} {x1 : Int32} {vz : Int32} {dz : Ds} {d : Ds} (hf : fX5_rowOf N g x0 x1 d = some (vz, dz)) : WB p l e rmX5_rowOf s m args below meth c 2 D cy B 0 0 (MQ below (QI D cy B vz g dz) args s 0 0 (wA B)) g d [(0, .ref (ad B x0)), (1, .int x1)] 0 [] := by
  unfold fX5_rowOf at hf
  refine b_iload_n C dX5_rowOf_0 1 rfl rfl ?_
  refine b_if_lt C (tgt := 18) dX5_rowOf_1 (by decide) (fun c1 => ?_) (fun c1 => ?_)
  · have hf := it_s c1 hf
    refine b_sub [(0, .ref (ad B x0)), (1, .int x1)] [0, 1] rfl ?_
    exact tX5_rowOf_18 C hr hlocks hf
  · have hf := if_s c1 hf
    refine b_iload_n C dX5_rowOf_4 1 rfl rfl ?_
    refine b_bipush C (v := 40) dX5_rowOf_5 (by decide) ?_
    refine b_icmp_ge C (tgt := 18) dX5_rowOf_7 (by decide) (fun c2 => ?_) (fun c2 => ?_)
    · have hf := it_s c2 hf
      refine b_sub [(0, .ref (ad B x0)), (1, .int x1)] [0, 1] rfl ?_
      exact tX5_rowOf_18 C hr hlocks hf
    · have hf := if_s c2 hf
      refine b_iload_n C dX5_rowOf_10 1 rfl rfl ?_
      refine b_aload_n C dX5_rowOf_11 0 rfl rfl ?_
      obtain ⟨h3, hf⟩ := gd_s hf
      refine b_gI C dX5_rowOf_12 fl_X5_26 h3 ?_
      refine b_icmp_lt C (tgt := 22) dX5_rowOf_15 (by decide) (fun c4 => ?_) (fun c4 => ?_)
      · have hf := it_s c4 hf
        refine b_aload_n C dX5_rowOf_22 0 rfl rfl ?_
        refine b_gI C dX5_rowOf_23 fl_X5_26 h3 ?_
        refine b_iconst C (v := 1) dX5_rowOf_26 (by decide) ?_
        refine b_isub C dX5_rowOf_27 ?_
        refine b_iload_n C dX5_rowOf_28 1 rfl rfl ?_
        refine b_isub C dX5_rowOf_29 ?_
        refine b_bipush C (v := 40) dX5_rowOf_30 (by decide) ?_
        obtain ⟨h5, hf⟩ := gd_s hf
        refine b_irem C dX5_rowOf_32 h5 ?_
        refine b_sub [(0, .ref (ad B x0)), (1, .int x1)] [0, 1] rfl ?_
        exact tX5_rowOf_33 C hr hlocks hf
      · have hf := if_s c4 hf
        refine b_sub [(0, .ref (ad B x0)), (1, .int x1)] [0, 1] rfl ?_
        exact tX5_rowOf_18 C hr hlocks hf
theorem kX5_rowOf (l : Launch) (D : va_G) (cy : Nat → ClassId) (B : Bs) {N : Nat} {g : Gs} {x0 : Nat} {x1 : Int32} {vz : Int32} {dz : Ds} {d : Ds} (hf : fX5_rowOf N g x0 x1 d = some (vz, dz)) : Met l yX5_rowOf (.code yX5_rowOf cX5_rowOf 2 (some .int) :: wl) rmX5_rowOf (PC D cy B [.ref (ad B x0), .int x1] g d) (QI D cy B vz g dz) 0 0 (wA B) :=
  met_of (by decide +kernel) (Nat.le_of_ble_eq_true rfl) (fun p e s m args below meth c C hr hlocks _ => b_sub [(0, .ref (ad B x0)), (1, .int x1)] [0, 1] rfl (tX5_rowOf_E C hr hlocks hf))
/-! KeyMatrix$Reports.codeAt(II)I -/
theorem dX5_codeAt_0 : decode cX5_codeAt 0 = .ok (.iload_n 1, 1) := by decide +kernel
theorem dX5_codeAt_1 : decode cX5_codeAt 1 = .ok (.ifCond .lt 23, 3) := by decide +kernel
theorem dX5_codeAt_4 : decode cX5_codeAt 4 = .ok (.iload_n 1, 1) := by decide +kernel
theorem dX5_codeAt_5 : decode cX5_codeAt 5 = .ok (.bipush 40, 2) := by decide +kernel
theorem dX5_codeAt_7 : decode cX5_codeAt 7 = .ok (.if_icmp .ge 17, 3) := by decide +kernel
theorem dX5_codeAt_10 : decode cX5_codeAt 10 = .ok (.iload_n 2, 1) := by decide +kernel
theorem dX5_codeAt_11 : decode cX5_codeAt 11 = .ok (.ifCond .lt 13, 3) := by decide +kernel
theorem dX5_codeAt_14 : decode cX5_codeAt 14 = .ok (.iload_n 2, 1) := by decide +kernel
theorem dX5_codeAt_15 : decode cX5_codeAt 15 = .ok (.aload_n 0, 1) := by decide +kernel
theorem dX5_codeAt_16 : decode cX5_codeAt 16 = .ok (.getfield 18, 3) := by decide +kernel
theorem dX5_codeAt_19 : decode cX5_codeAt 19 = .ok (.iload_n 1, 1) := by decide +kernel
theorem dX5_codeAt_20 : decode cX5_codeAt 20 = .ok (.iaload, 1) := by decide +kernel
theorem dX5_codeAt_21 : decode cX5_codeAt 21 = .ok (.if_icmp .lt 5, 3) := by decide +kernel
theorem dX5_codeAt_24 : decode cX5_codeAt 24 = .ok (.iconst (-1), 1) := by decide +kernel
theorem dX5_codeAt_25 : decode cX5_codeAt 25 = .ok (.ireturn, 1) := by decide +kernel
theorem dX5_codeAt_26 : decode cX5_codeAt 26 = .ok (.aload_n 0, 1) := by decide +kernel
theorem dX5_codeAt_27 : decode cX5_codeAt 27 = .ok (.getfield 23, 3) := by decide +kernel
theorem dX5_codeAt_30 : decode cX5_codeAt 30 = .ok (.iload_n 1, 1) := by decide +kernel
theorem dX5_codeAt_31 : decode cX5_codeAt 31 = .ok (.bipush 25, 2) := by decide +kernel
theorem dX5_codeAt_33 : decode cX5_codeAt 33 = .ok (.imul, 1) := by decide +kernel
theorem dX5_codeAt_34 : decode cX5_codeAt 34 = .ok (.iload_n 2, 1) := by decide +kernel
theorem dX5_codeAt_35 : decode cX5_codeAt 35 = .ok (.iadd, 1) := by decide +kernel
theorem dX5_codeAt_36 : decode cX5_codeAt 36 = .ok (.iaload, 1) := by decide +kernel
theorem dX5_codeAt_37 : decode cX5_codeAt 37 = .ok (.ireturn, 1) := by decide +kernel
def rmX5_codeAt : Room := { frames := 0, cells := 0, slots := 0, locals := 0 }
set_option maxRecDepth 100000 in
def fX5_codeAt_J24 (N : Nat) (g : Gs) (x0 : Nat) (x1 : Int32) (x2 : Int32) (d : Ds) : Option (Int32 × Ds) := some ((-1), d)
set_option maxHeartbeats 4000000 in
set_option maxRecDepth 100000 in
theorem tX5_codeAt_24 {p : Program} {l : Launch} {e : Env} {s : State} {m : MethodId} {args : Array Value} {below : List Frame} {meth : Method} {c : Code} {D : va_G} {cy : Nat → ClassId} {B : Bs} (C : Cx p s m args c cX5_codeAt 3 RX5 D cy B) (hr : meth.sig.returnType = (some .int)) (hlocks : meth.locks = false) {N : Nat} {g : Gs} {x0 : Nat} {x1 : Int32} {x2 : Int32} {vz : Int32} {dz : Ds} {d : Ds} (hf : fX5_codeAt_J24 N g x0 x1 x2 d = some (vz, dz)) : WB p l e rmX5_codeAt s m args below meth c 3 D cy B 0 0 (MQ below (QI D cy B vz g dz) args s 0 0 (wA B)) g d [(0, .ref (ad B x0)), (1, .int x1), (2, .int x2)] 24 [] := by
  unfold fX5_codeAt_J24 at hf
  refine b_iconst C (v := (-1)) dX5_codeAt_24 (by decide) ?_
  exact b_iret C hr hlocks hf dX5_codeAt_25
set_option maxRecDepth 100000 in
def fX5_codeAt (N : Nat) (g : Gs) (x0 : Nat) (x1 : Int32) (x2 : Int32) (d : Ds) : Option (Int32 × Ds) := if x1 < 0 then (fX5_codeAt_J24 N g x0 x1 x2 d) else (if (40 : Int32) ≤ x1 then (fX5_codeAt_J24 N g x0 x1 x2 d) else (if x2 < 0 then (fX5_codeAt_J24 N g x0 x1 x2 d) else (gd (chk g x0 5) <| ob (gR g x0 2) fun r5 => (gd (chk g r5 102) <| gd (¬ (x1 < 0 ∨ gL g r5 ≤ x1.toNatClampNeg)) <| if x2 < (dI d r5 x1.toNatClampNeg) then (ob (gR g x0 3) fun r9 => (gd (chk g r9 102) <| gd (¬ (((x1 * 25) + x2) < 0 ∨ gL g r9 ≤ ((x1 * 25) + x2).toNatClampNeg)) <| some ((dI d r9 ((x1 * 25) + x2).toNatClampNeg), d))) else (fX5_codeAt_J24 N g x0 x1 x2 d)))))
set_option maxHeartbeats 4000000 in
set_option maxRecDepth 100000 in
theorem tX5_codeAt_E {p : Program} {l : Launch} {e : Env} {s : State} {m : MethodId} {args : Array Value} {below : List Frame} {meth : Method} {c : Code} {D : va_G} {cy : Nat → ClassId} {B : Bs} (C : Cx p s m args c cX5_codeAt 3 RX5 D cy B) (hr : meth.sig.returnType = (some .int)) (hlocks : meth.locks = false) {N : Nat} {g : Gs} {x0 : Nat} {x1 : Int32} {x2 : Int32} {vz : Int32} {dz : Ds} {d : Ds} (hf : fX5_codeAt N g x0 x1 x2 d = some (vz, dz)) : WB p l e rmX5_codeAt s m args below meth c 3 D cy B 0 0 (MQ below (QI D cy B vz g dz) args s 0 0 (wA B)) g d [(0, .ref (ad B x0)), (1, .int x1), (2, .int x2)] 0 [] := by
  unfold fX5_codeAt at hf
  refine b_iload_n C dX5_codeAt_0 1 rfl rfl ?_
  refine b_if_lt C (tgt := 24) dX5_codeAt_1 (by decide) (fun c1 => ?_) (fun c1 => ?_)
  · have hf := it_s c1 hf
    refine b_sub [(0, .ref (ad B x0)), (1, .int x1), (2, .int x2)] [0, 1, 2] rfl ?_
    exact tX5_codeAt_24 C hr hlocks hf
  · have hf := if_s c1 hf
    refine b_iload_n C dX5_codeAt_4 1 rfl rfl ?_
    refine b_bipush C (v := 40) dX5_codeAt_5 (by decide) ?_
    refine b_icmp_ge C (tgt := 24) dX5_codeAt_7 (by decide) (fun c2 => ?_) (fun c2 => ?_)
    · have hf := it_s c2 hf
      refine b_sub [(0, .ref (ad B x0)), (1, .int x1), (2, .int x2)] [0, 1, 2] rfl ?_
      exact tX5_codeAt_24 C hr hlocks hf
    · have hf := if_s c2 hf
      refine b_iload_n C dX5_codeAt_10 2 rfl rfl ?_
      refine b_if_lt C (tgt := 24) dX5_codeAt_11 (by decide) (fun c3 => ?_) (fun c3 => ?_)
      · have hf := it_s c3 hf
        refine b_sub [(0, .ref (ad B x0)), (1, .int x1), (2, .int x2)] [0, 1, 2] rfl ?_
        exact tX5_codeAt_24 C hr hlocks hf
      · have hf := if_s c3 hf
        refine b_iload_n C dX5_codeAt_14 2 rfl rfl ?_
        refine b_aload_n C dX5_codeAt_15 0 rfl rfl ?_
        obtain ⟨h4, hf⟩ := gd_s hf
        obtain ⟨r5, er5, hf⟩ := ob_s hf
        refine b_gR C dX5_codeAt_16 fl_X5_18 h4 er5 ?_
        refine b_iload_n C dX5_codeAt_19 1 rfl rfl ?_
        obtain ⟨h6, hf⟩ := gd_s hf
        obtain ⟨h7, hf⟩ := gd_s hf
        refine b_iald C h6 h7 dX5_codeAt_20 ?_
        refine b_icmp_lt C (tgt := 26) dX5_codeAt_21 (by decide) (fun c8 => ?_) (fun c8 => ?_)
        · have hf := it_s c8 hf
          refine b_aload_n C dX5_codeAt_26 0 rfl rfl ?_
          obtain ⟨r9, er9, hf⟩ := ob_s hf
          refine b_gR C dX5_codeAt_27 fl_X5_23 h4 er9 ?_
          refine b_iload_n C dX5_codeAt_30 1 rfl rfl ?_
          refine b_bipush C (v := 25) dX5_codeAt_31 (by decide) ?_
          refine b_imul C dX5_codeAt_33 ?_
          refine b_iload_n C dX5_codeAt_34 2 rfl rfl ?_
          refine b_iadd C dX5_codeAt_35 ?_
          obtain ⟨h10, hf⟩ := gd_s hf
          obtain ⟨h11, hf⟩ := gd_s hf
          refine b_iald C h10 h11 dX5_codeAt_36 ?_
          exact b_iret C hr hlocks hf dX5_codeAt_37
        · have hf := if_s c8 hf
          refine b_sub [(0, .ref (ad B x0)), (1, .int x1), (2, .int x2)] [0, 1, 2] rfl ?_
          exact tX5_codeAt_24 C hr hlocks hf
theorem kX5_codeAt (l : Launch) (D : va_G) (cy : Nat → ClassId) (B : Bs) {N : Nat} {g : Gs} {x0 : Nat} {x1 : Int32} {x2 : Int32} {vz : Int32} {dz : Ds} {d : Ds} (hf : fX5_codeAt N g x0 x1 x2 d = some (vz, dz)) : Met l yX5_codeAt (.code yX5_codeAt cX5_codeAt 3 (some .int) :: wl) rmX5_codeAt (PC D cy B [.ref (ad B x0), .int x1, .int x2] g d) (QI D cy B vz g dz) 0 0 (wA B) :=
  met_of (by decide +kernel) (Nat.le_of_ble_eq_true rfl) (fun p e s m args below meth c C hr hlocks _ => b_sub [(0, .ref (ad B x0)), (1, .int x1), (2, .int x2)] [0, 1, 2] rfl (tX5_codeAt_E C hr hlocks hf))
/-! KeyMatrix$Reports.isAlike(ILKeyMatrix$Doing;Z)Z -/
theorem fl_X5_67 : FLI RX5 67 3 6 := ⟨⟨RX3, TX3, 9, rfl, by decide, inl3, Or.inr (mT2 (List.mem_of_getElem? (i := 111) (by decide +kernel)))⟩, by decide, by decide +kernel⟩
theorem fl_X5_52 : FLI RX5 52 3 8 := ⟨⟨RX3, TX3, 9, rfl, by decide, inl3, Or.inr (mT2 (List.mem_of_getElem? (i := 117) (by decide +kernel)))⟩, by decide, by decide +kernel⟩
theorem yo_X5_codeAt : yX5_codeAt.cls ≠ "java/lang/invoke/MethodHandle" ∧ yX5_codeAt.cls ≠ "java/lang/invoke/VarHandle" ∧ (parseMethodDescriptor yX5_codeAt.desc).map (fun d => d.parameters.length) = some 2 := by decide +kernel
theorem co_X5_codeAt : Cond.code yX5_codeAt cX5_codeAt 3 (some .int) ∈ wl := mW (mT4 (List.mem_of_getElem? (i := 167) (by decide +kernel))) rfl
theorem in_X5_codeAt : Cond.initialized yX5_codeAt.cls ∈ wl := mW (mT1 (List.mem_of_getElem? (i := 11) (by decide +kernel))) rfl
theorem im_X5_codeAt : Cond.instanceMethod yX5_codeAt ∈ wl := mW (mT4 (List.mem_of_getElem? (i := 165) (by decide +kernel))) rfl
theorem se_X5_codeAt : Cond.selects yX5_codeAt.cls yX5_codeAt yX5_codeAt ∈ wl := mW (mT4 (List.mem_of_getElem? (i := 166) (by decide +kernel))) rfl
theorem lv_X5_70 : LV RX5 70 yX5_codeAt cX5_codeAt 3 (some .int) 2 5 := ⟨⟨(RX5, TX5, 9), rfl, rfl⟩, yo_X5_codeAt, mW (mT4 (List.mem_of_getElem? (i := 164) (by decide +kernel))) rfl, im_X5_codeAt, se_X5_codeAt, in_X5_codeAt, co_X5_codeAt⟩
theorem fl_X5_69 : FLR RX5 69 3 7 := ⟨⟨RX3, TX3, 9, rfl, by decide, inl3, Or.inr (mT2 (List.mem_of_getElem? (i := 115) (by decide +kernel)))⟩, by decide, by decide +kernel⟩
theorem dX5_isAlike_0 : decode cX5_isAlike 0 = .ok (.iload_n 1, 1) := by decide +kernel
theorem dX5_isAlike_1 : decode cX5_isAlike 1 = .ok (.iconst (-1), 1) := by decide +kernel
theorem dX5_isAlike_2 : decode cX5_isAlike 2 = .ok (.if_icmp .ne 23, 3) := by decide +kernel
theorem dX5_isAlike_5 : decode cX5_isAlike 5 = .ok (.aload_n 2, 1) := by decide +kernel
theorem dX5_isAlike_6 : decode cX5_isAlike 6 = .ok (.getfield 67, 3) := by decide +kernel
theorem dX5_isAlike_9 : decode cX5_isAlike 9 = .ok (.ifCond .ne 14, 3) := by decide +kernel
theorem dX5_isAlike_12 : decode cX5_isAlike 12 = .ok (.aload_n 2, 1) := by decide +kernel
theorem dX5_isAlike_13 : decode cX5_isAlike 13 = .ok (.getfield 52, 3) := by decide +kernel
theorem dX5_isAlike_16 : decode cX5_isAlike 16 = .ok (.ifCond .ne 7, 3) := by decide +kernel
theorem dX5_isAlike_19 : decode cX5_isAlike 19 = .ok (.iconst 1, 1) := by decide +kernel
theorem dX5_isAlike_20 : decode cX5_isAlike 20 = .ok (.goto 4, 3) := by decide +kernel
theorem dX5_isAlike_23 : decode cX5_isAlike 23 = .ok (.iconst 0, 1) := by decide +kernel
theorem dX5_isAlike_24 : decode cX5_isAlike 24 = .ok (.ireturn, 1) := by decide +kernel
theorem dX5_isAlike_25 : decode cX5_isAlike 25 = .ok (.aload_n 0, 1) := by decide +kernel
theorem dX5_isAlike_26 : decode cX5_isAlike 26 = .ok (.getfield 15, 3) := by decide +kernel
theorem dX5_isAlike_29 : decode cX5_isAlike 29 = .ok (.iload_n 1, 1) := by decide +kernel
theorem dX5_isAlike_30 : decode cX5_isAlike 30 = .ok (.iaload, 1) := by decide +kernel
theorem dX5_isAlike_31 : decode cX5_isAlike 31 = .ok (.aload_n 2, 1) := by decide +kernel
theorem dX5_isAlike_32 : decode cX5_isAlike 32 = .ok (.getfield 67, 3) := by decide +kernel
theorem dX5_isAlike_35 : decode cX5_isAlike 35 = .ok (.if_icmp .ne 25, 3) := by decide +kernel
theorem dX5_isAlike_38 : decode cX5_isAlike 38 = .ok (.aload_n 0, 1) := by decide +kernel
theorem dX5_isAlike_39 : decode cX5_isAlike 39 = .ok (.getfield 18, 3) := by decide +kernel
theorem dX5_isAlike_42 : decode cX5_isAlike 42 = .ok (.iload_n 1, 1) := by decide +kernel
theorem dX5_isAlike_43 : decode cX5_isAlike 43 = .ok (.iaload, 1) := by decide +kernel
theorem dX5_isAlike_44 : decode cX5_isAlike 44 = .ok (.iload_n 3, 1) := by decide +kernel
theorem dX5_isAlike_45 : decode cX5_isAlike 45 = .ok (.ifCond .eq 8, 3) := by decide +kernel
theorem dX5_isAlike_48 : decode cX5_isAlike 48 = .ok (.bipush (-2), 2) := by decide +kernel
theorem dX5_isAlike_50 : decode cX5_isAlike 50 = .ok (.goto 7, 3) := by decide +kernel
theorem dX5_isAlike_53 : decode cX5_isAlike 53 = .ok (.aload_n 2, 1) := by decide +kernel
theorem dX5_isAlike_54 : decode cX5_isAlike 54 = .ok (.getfield 52, 3) := by decide +kernel
theorem dX5_isAlike_57 : decode cX5_isAlike 57 = .ok (.if_icmp .eq 5, 3) := by decide +kernel
theorem dX5_isAlike_60 : decode cX5_isAlike 60 = .ok (.iconst 0, 1) := by decide +kernel
theorem dX5_isAlike_61 : decode cX5_isAlike 61 = .ok (.ireturn, 1) := by decide +kernel
theorem dX5_isAlike_62 : decode cX5_isAlike 62 = .ok (.iconst 0, 1) := by decide +kernel
theorem dX5_isAlike_63 : decode cX5_isAlike 63 = .ok (.istore 4, 2) := by decide +kernel
theorem dX5_isAlike_65 : decode cX5_isAlike 65 = .ok (.iload 4, 2) := by decide +kernel
theorem dX5_isAlike_67 : decode cX5_isAlike 67 = .ok (.aload_n 0, 1) := by decide +kernel
theorem dX5_isAlike_68 : decode cX5_isAlike 68 = .ok (.getfield 18, 3) := by decide +kernel
theorem dX5_isAlike_71 : decode cX5_isAlike 71 = .ok (.iload_n 1, 1) := by decide +kernel
theorem dX5_isAlike_72 : decode cX5_isAlike 72 = .ok (.iaload, 1) := by decide +kernel
theorem dX5_isAlike_73 : decode cX5_isAlike 73 = .ok (.if_icmp .ge 28, 3) := by decide +kernel
theorem dX5_isAlike_76 : decode cX5_isAlike 76 = .ok (.aload_n 0, 1) := by decide +kernel
theorem dX5_isAlike_77 : decode cX5_isAlike 77 = .ok (.iload_n 1, 1) := by decide +kernel
theorem dX5_isAlike_78 : decode cX5_isAlike 78 = .ok (.iload 4, 2) := by decide +kernel
theorem dX5_isAlike_80 : decode cX5_isAlike 80 = .ok (.invokevirtual 70, 3) := by decide +kernel
theorem dX5_isAlike_83 : decode cX5_isAlike 83 = .ok (.aload_n 2, 1) := by decide +kernel
theorem dX5_isAlike_84 : decode cX5_isAlike 84 = .ok (.getfield 69, 3) := by decide +kernel
theorem dX5_isAlike_87 : decode cX5_isAlike 87 = .ok (.iload 4, 2) := by decide +kernel
theorem dX5_isAlike_89 : decode cX5_isAlike 89 = .ok (.iaload, 1) := by decide +kernel
theorem dX5_isAlike_90 : decode cX5_isAlike 90 = .ok (.if_icmp .eq 5, 3) := by decide +kernel
theorem dX5_isAlike_93 : decode cX5_isAlike 93 = .ok (.iconst 0, 1) := by decide +kernel
theorem dX5_isAlike_94 : decode cX5_isAlike 94 = .ok (.ireturn, 1) := by decide +kernel
theorem dX5_isAlike_95 : decode cX5_isAlike 95 = .ok (.iinc 4 1, 3) := by decide +kernel
theorem dX5_isAlike_98 : decode cX5_isAlike 98 = .ok (.goto (-33), 3) := by decide +kernel
theorem dX5_isAlike_101 : decode cX5_isAlike 101 = .ok (.iconst 1, 1) := by decide +kernel
theorem dX5_isAlike_102 : decode cX5_isAlike 102 = .ok (.ireturn, 1) := by decide +kernel
def rmX5_isAlike : Room := { frames := 1, cells := 0, slots := 0, locals := 22 }
set_option maxRecDepth 100000 in
def fX5_isAlike_J60 (N : Nat) (g : Gs) (x0 : Nat) (x1 : Int32) (x2 : Nat) (x3 : Int32) (d : Ds) : Option (Int32 × Ds) := some (0, d)
set_option maxHeartbeats 4000000 in
set_option maxRecDepth 100000 in
theorem tX5_isAlike_60 {p : Program} {l : Launch} {e : Env} {s : State} {m : MethodId} {args : Array Value} {below : List Frame} {meth : Method} {c : Code} {D : va_G} {cy : Nat → ClassId} {B : Bs} (C : Cx p s m args c cX5_isAlike 5 RX5 D cy B) (hr : meth.sig.returnType = (some .boolean)) (hlocks : meth.locks = false) {N : Nat} {g : Gs} {x0 : Nat} {x1 : Int32} {x2 : Nat} {x3 : Int32} {vz : Int32} {dz : Ds} {d : Ds} (hf : fX5_isAlike_J60 N g x0 x1 x2 x3 d = some (vz, dz)) : WB p l e rmX5_isAlike s m args below meth c 5 D cy B 0 0 (MQ below (QI D cy B vz g dz) args s 0 0 (wA B)) g d [(0, .ref (ad B x0)), (1, .int x1), (2, .ref (ad B x2)), (3, .int x3)] 60 [] := by
  unfold fX5_isAlike_J60 at hf
  refine b_iconst C (v := 0) dX5_isAlike_60 (by decide) ?_
  exact b_zret C hr hlocks (by decide) hf dX5_isAlike_61
set_option maxRecDepth 100000 in
def fX5_isAlike_B65 (N : Nat) (g : Gs) (x0 : Nat) (x1 : Int32) (x2 : Nat) (x3 : Int32) (K65 : Int32 × Ds → Option (Int32 × Ds)) (y4 : Int32) (d : Ds) : Option (Int32 × Ds) := gd (chk g x0 5) <| ob (gR g x0 2) fun r14 => (gd (chk g r14 102) <| gd (¬ (x1 < 0 ∨ gL g r14 ≤ x1.toNatClampNeg)) <| if (dI d r14 x1.toNatClampNeg) ≤ y4 then (some (1, d)) else (cb (fX5_codeAt N g x0 x1 y4 d) fun u20 d18 => (gd (chk g x2 3) <| ob (gR g x2 7) fun r22 => (gd (chk g r22 102) <| gd (¬ (y4 < 0 ∨ gL g r22 ≤ y4.toNatClampNeg)) <| if u20 = (dI d18 r22 y4.toNatClampNeg) then (bd (y4 + 1) fun u26 => (K65 (u26, d18))) else (some (0, d18))))))
set_option maxHeartbeats 4000000 in
set_option maxRecDepth 100000 in
theorem tX5_isAlike_65 {p : Program} {l : Launch} {e : Env} {s : State} {m : MethodId} {args : Array Value} {below : List Frame} {meth : Method} {c : Code} {D : va_G} {cy : Nat → ClassId} {B : Bs} (C : Cx p s m args c cX5_isAlike 5 RX5 D cy B) (hr : meth.sig.returnType = (some .boolean)) (hlocks : meth.locks = false) {N : Nat} {g : Gs} {x0 : Nat} {x1 : Int32} {x2 : Nat} {x3 : Int32} {vz : Int32} {dz : Ds} {K65 : Int32 × Ds → Option (Int32 × Ds)} (hK65 : ∀ a, K65 a = some (vz, dz) → WB p l e rmX5_isAlike s m args below meth c 5 D cy B 0 0 (MQ below (QI D cy B vz g dz) args s 0 0 (wA B)) g a.2 [(0, .ref (ad B x0)), (1, .int x1), (2, .ref (ad B x2)), (3, .int x3), (4, .int a.1)] 65 []) {y4 : Int32} {d : Ds} (hf : fX5_isAlike_B65 N g x0 x1 x2 x3 K65 y4 d = some (vz, dz)) : WB p l e rmX5_isAlike s m args below meth c 5 D cy B 0 0 (MQ below (QI D cy B vz g dz) args s 0 0 (wA B)) g d [(0, .ref (ad B x0)), (1, .int x1), (2, .ref (ad B x2)), (3, .int x3), (4, .int y4)] 65 [] := by
  unfold fX5_isAlike_B65 at hf
  refine b_iload C dX5_isAlike_65 4 rfl ?_
  refine b_aload_n C dX5_isAlike_67 0 rfl rfl ?_
  obtain ⟨h13, hf⟩ := gd_s hf
  obtain ⟨r14, er14, hf⟩ := ob_s hf
  refine b_gR C dX5_isAlike_68 fl_X5_18 h13 er14 ?_
  refine b_iload_n C dX5_isAlike_71 1 rfl rfl ?_
  obtain ⟨h15, hf⟩ := gd_s hf
  obtain ⟨h16, hf⟩ := gd_s hf
  refine b_iald C h15 h16 dX5_isAlike_72 ?_
  refine b_icmp_ge C (tgt := 101) dX5_isAlike_73 (by decide) (fun c17 => ?_) (fun c17 => ?_)
  · have hf := it_s c17 hf
    refine b_iconst C (v := 1) dX5_isAlike_101 (by decide) ?_
    exact b_zret C hr hlocks (by decide) hf dX5_isAlike_102
  · have hf := if_s c17 hf
    refine b_aload_n C dX5_isAlike_76 0 rfl rfl ?_
    refine b_iload_n C dX5_isAlike_77 1 rfl rfl ?_
    refine b_iload C dX5_isAlike_78 4 rfl ?_
    obtain ⟨u20, d18, k19, hf⟩ := cb_s hf
    refine b_cVI C [] dX5_isAlike_80 (kX5_codeAt l D cy B k19) lv_X5_70 ⟨rfl, rfl, Nat.le_of_ble_eq_true rfl, Nat.le_of_ble_eq_true rfl⟩ h13 (by decide) rfl (Nat.le_of_ble_eq_true rfl) ⟨Nat.zero_le _, Nat.zero_le _⟩ rfl ?_
    refine b_aload_n C dX5_isAlike_83 2 rfl rfl ?_
    obtain ⟨h21, hf⟩ := gd_s hf
    obtain ⟨r22, er22, hf⟩ := ob_s hf
    refine b_gR C dX5_isAlike_84 fl_X5_69 h21 er22 ?_
    refine b_iload C dX5_isAlike_87 4 rfl ?_
    obtain ⟨h23, hf⟩ := gd_s hf
    obtain ⟨h24, hf⟩ := gd_s hf
    refine b_iald C h23 h24 dX5_isAlike_89 ?_
    refine b_icmp_eq C (tgt := 95) dX5_isAlike_90 (by decide) (fun c25 => ?_) (fun c25 => ?_)
    · have hf := it_s c25 hf
      obtain ⟨u26, eu26, hf⟩ := bd_s hf
      refine b_iinc C dX5_isAlike_95 4 rfl (by rw [eu26]; rfl) [(4, .int u26), (0, .ref (ad B x0)), (1, .int x1), (2, .ref (ad B x2)), (3, .int x3)] (by decide) rfl ?_
      refine b_goto C (tgt := 65) dX5_isAlike_98 (by decide) ?_
      refine b_sub [(0, .ref (ad B x0)), (1, .int x1), (2, .ref (ad B x2)), (3, .int x3), (4, .int u26)] [1, 2, 3, 4, 0] rfl ?_
      exact hK65 (u26, d18) hf
    · have hf := if_s c25 hf
      refine b_iconst C (v := 0) dX5_isAlike_93 (by decide) ?_
      exact b_zret C hr hlocks (by decide) hf dX5_isAlike_94
def fX5_isAlike_L65 (N : Nat) (g : Gs) (x0 : Nat) (x1 : Int32) (x2 : Nat) (x3 : Int32) : Int32 × Ds → Option (Int32 × Ds) := lp (fun K65 a => fX5_isAlike_B65 N g x0 x1 x2 x3 K65 a.1 a.2) N
theorem tX5_isAlike_L65 {p : Program} {l : Launch} {e : Env} {s : State} {m : MethodId} {args : Array Value} {below : List Frame} {meth : Method} {c : Code} {D : va_G} {cy : Nat → ClassId} {B : Bs} (C : Cx p s m args c cX5_isAlike 5 RX5 D cy B) (hr : meth.sig.returnType = (some .boolean)) (hlocks : meth.locks = false) {N : Nat} {g : Gs} {x0 : Nat} {x1 : Int32} {x2 : Nat} {x3 : Int32} {vz : Int32} {dz : Ds} (a : Int32 × Ds) (hf : fX5_isAlike_L65 N g x0 x1 x2 x3 a = some (vz, dz)) : WB p l e rmX5_isAlike s m args below meth c 5 D cy B 0 0 (MQ below (QI D cy B vz g dz) args s 0 0 (wA B)) g a.2 [(0, .ref (ad B x0)), (1, .int x1), (2, .ref (ad B x2)), (3, .int x3), (4, .int a.1)] 65 [] :=
  lp_w (fun K65 hK65 a ha => tX5_isAlike_65 C hr hlocks hK65 ha) N a hf
set_option maxRecDepth 100000 in
def fX5_isAlike_J57 (N : Nat) (g : Gs) (x0 : Nat) (x1 : Int32) (x2 : Nat) (x3 : Int32) (z0 : Int32) (z1 : Int32) (d : Ds) : Option (Int32 × Ds) := if z1 = z0 then (fX5_isAlike_L65 N g x0 x1 x2 x3 (0, d)) else (fX5_isAlike_J60 N g x0 x1 x2 x3 d)
set_option maxHeartbeats 4000000 in
set_option maxRecDepth 100000 in
theorem tX5_isAlike_57 {p : Program} {l : Launch} {e : Env} {s : State} {m : MethodId} {args : Array Value} {below : List Frame} {meth : Method} {c : Code} {D : va_G} {cy : Nat → ClassId} {B : Bs} (C : Cx p s m args c cX5_isAlike 5 RX5 D cy B) (hr : meth.sig.returnType = (some .boolean)) (hlocks : meth.locks = false) {N : Nat} {g : Gs} {x0 : Nat} {x1 : Int32} {x2 : Nat} {x3 : Int32} {vz : Int32} {dz : Ds} {z0 : Int32} {z1 : Int32} {d : Ds} (hf : fX5_isAlike_J57 N g x0 x1 x2 x3 z0 z1 d = some (vz, dz)) : WB p l e rmX5_isAlike s m args below meth c 5 D cy B 0 0 (MQ below (QI D cy B vz g dz) args s 0 0 (wA B)) g d [(0, .ref (ad B x0)), (1, .int x1), (2, .ref (ad B x2)), (3, .int x3)] 57 [.int z0, .int z1] := by
  unfold fX5_isAlike_J57 at hf
  refine b_icmp_eq C (tgt := 62) dX5_isAlike_57 (by decide) (fun c12 => ?_) (fun c12 => ?_)
  · have hf := it_s c12 hf
    refine b_iconst C (v := 0) dX5_isAlike_62 (by decide) ?_
    refine b_istore C dX5_isAlike_63 [(4, .int 0), (0, .ref (ad B x0)), (1, .int x1), (2, .ref (ad B x2)), (3, .int x3)] (by decide) rfl ?_
    refine b_sub [(0, .ref (ad B x0)), (1, .int x1), (2, .ref (ad B x2)), (3, .int x3), (4, .int 0)] [1, 2, 3, 4, 0] rfl ?_
    exact tX5_isAlike_L65 C hr hlocks (0, d) hf
  · have hf := if_s c12 hf
    refine b_sub [(0, .ref (ad B x0)), (1, .int x1), (2, .ref (ad B x2)), (3, .int x3)] [0, 1, 2, 3] rfl ?_
    exact tX5_isAlike_60 C hr hlocks hf
set_option maxRecDepth 100000 in
def fX5_isAlike_J24 (N : Nat) (g : Gs) (x0 : Nat) (x1 : Int32) (x2 : Nat) (x3 : Int32) (z0 : Int32) (d : Ds) : Option (Int32 × Ds) := gd (z0 = 0 ∨ z0 = 1) <| some (z0, d)
set_option maxHeartbeats 4000000 in
set_option maxRecDepth 100000 in
theorem tX5_isAlike_24 {p : Program} {l : Launch} {e : Env} {s : State} {m : MethodId} {args : Array Value} {below : List Frame} {meth : Method} {c : Code} {D : va_G} {cy : Nat → ClassId} {B : Bs} (C : Cx p s m args c cX5_isAlike 5 RX5 D cy B) (hr : meth.sig.returnType = (some .boolean)) (hlocks : meth.locks = false) {N : Nat} {g : Gs} {x0 : Nat} {x1 : Int32} {x2 : Nat} {x3 : Int32} {vz : Int32} {dz : Ds} {z0 : Int32} {d : Ds} (hf : fX5_isAlike_J24 N g x0 x1 x2 x3 z0 d = some (vz, dz)) : WB p l e rmX5_isAlike s m args below meth c 5 D cy B 0 0 (MQ below (QI D cy B vz g dz) args s 0 0 (wA B)) g d [(0, .ref (ad B x0)), (1, .int x1), (2, .ref (ad B x2)), (3, .int x3)] 24 [.int z0] := by
  unfold fX5_isAlike_J24 at hf
  obtain ⟨h29, hf⟩ := gd_s hf
  exact b_zret C hr hlocks h29 hf dX5_isAlike_24
set_option maxRecDepth 100000 in
def fX5_isAlike_J23 (N : Nat) (g : Gs) (x0 : Nat) (x1 : Int32) (x2 : Nat) (x3 : Int32) (d : Ds) : Option (Int32 × Ds) := fX5_isAlike_J24 N g x0 x1 x2 x3 0 d
set_option maxHeartbeats 4000000 in
set_option maxRecDepth 100000 in
theorem tX5_isAlike_23 {p : Program} {l : Launch} {e : Env} {s : State} {m : MethodId} {args : Array Value} {below : List Frame} {meth : Method} {c : Code} {D : va_G} {cy : Nat → ClassId} {B : Bs} (C : Cx p s m args c cX5_isAlike 5 RX5 D cy B) (hr : meth.sig.returnType = (some .boolean)) (hlocks : meth.locks = false) {N : Nat} {g : Gs} {x0 : Nat} {x1 : Int32} {x2 : Nat} {x3 : Int32} {vz : Int32} {dz : Ds} {d : Ds} (hf : fX5_isAlike_J23 N g x0 x1 x2 x3 d = some (vz, dz)) : WB p l e rmX5_isAlike s m args below meth c 5 D cy B 0 0 (MQ below (QI D cy B vz g dz) args s 0 0 (wA B)) g d [(0, .ref (ad B x0)), (1, .int x1), (2, .ref (ad B x2)), (3, .int x3)] 23 [] := by
  unfold fX5_isAlike_J23 at hf
  refine b_iconst C (v := 0) dX5_isAlike_23 (by decide) ?_
  refine b_sub [(0, .ref (ad B x0)), (1, .int x1), (2, .ref (ad B x2)), (3, .int x3)] [0, 1, 2, 3] rfl ?_
  exact tX5_isAlike_24 C hr hlocks hf
set_option maxRecDepth 100000 in
def fX5_isAlike (N : Nat) (g : Gs) (x0 : Nat) (x1 : Int32) (x2 : Nat) (x3 : Int32) (d : Ds) : Option (Int32 × Ds) := if x1 = (-1 : Int32) then (gd (chk g x2 3) <| if (dI d x2 6) = 0 then (if (dI d x2 8) = 0 then (fX5_isAlike_J24 N g x0 x1 x2 x3 1 d) else (fX5_isAlike_J23 N g x0 x1 x2 x3 d)) else (fX5_isAlike_J23 N g x0 x1 x2 x3 d)) else (gd (chk g x0 5) <| ob (gR g x0 1) fun r3 => (gd (chk g r3 102) <| gd (¬ (x1 < 0 ∨ gL g r3 ≤ x1.toNatClampNeg)) <| gd (chk g x2 3) <| if (dI d r3 x1.toNatClampNeg) = (dI d x2 6) then (ob (gR g x0 2) fun r8 => (gd (chk g r8 102) <| gd (¬ (x1 < 0 ∨ gL g r8 ≤ x1.toNatClampNeg)) <| if x3 = 0 then (fX5_isAlike_J57 N g x0 x1 x2 x3 (dI d x2 8) (dI d r8 x1.toNatClampNeg) d) else (fX5_isAlike_J57 N g x0 x1 x2 x3 (-2) (dI d r8 x1.toNatClampNeg) d))) else (fX5_isAlike_J60 N g x0 x1 x2 x3 d)))
set_option maxHeartbeats 4000000 in
set_option maxRecDepth 100000 in
theorem tX5_isAlike_E {p : Program} {l : Launch} {e : Env} {s : State} {m : MethodId} {args : Array Value} {below : List Frame} {meth : Method} {c : Code} {D : va_G} {cy : Nat → ClassId} {B : Bs} (C : Cx p s m args c cX5_isAlike 5 RX5 D cy B) (hr : meth.sig.returnType = (some .boolean)) (hlocks : meth.locks = false) {N : Nat} {g : Gs} {x0 : Nat} {x1 : Int32} {x2 : Nat} {x3 : Int32} {vz : Int32} {dz : Ds} {d : Ds} (hf : fX5_isAlike N g x0 x1 x2 x3 d = some (vz, dz)) : WB p l e rmX5_isAlike s m args below meth c 5 D cy B 0 0 (MQ below (QI D cy B vz g dz) args s 0 0 (wA B)) g d [(0, .ref (ad B x0)), (1, .int x1), (2, .ref (ad B x2)), (3, .int x3)] 0 [] := by
  unfold fX5_isAlike at hf
  refine b_iload_n C dX5_isAlike_0 1 rfl rfl ?_
  refine b_iconst C (v := (-1)) dX5_isAlike_1 (by decide) ?_
  refine b_icmp_ne C (tgt := 25) dX5_isAlike_2 (by decide) (fun c1 => ?_) (fun c1 => ?_)
  · have hf := if_s c1 hf
    refine b_aload_n C dX5_isAlike_25 0 rfl rfl ?_
    obtain ⟨h2, hf⟩ := gd_s hf
    obtain ⟨r3, er3, hf⟩ := ob_s hf
    refine b_gR C dX5_isAlike_26 fl_X5_15 h2 er3 ?_
    refine b_iload_n C dX5_isAlike_29 1 rfl rfl ?_
    obtain ⟨h4, hf⟩ := gd_s hf
    obtain ⟨h5, hf⟩ := gd_s hf
    refine b_iald C h4 h5 dX5_isAlike_30 ?_
    refine b_aload_n C dX5_isAlike_31 2 rfl rfl ?_
    obtain ⟨h6, hf⟩ := gd_s hf
    refine b_gI C dX5_isAlike_32 fl_X5_67 h6 ?_
    refine b_icmp_ne C (tgt := 60) dX5_isAlike_35 (by decide) (fun c7 => ?_) (fun c7 => ?_)
    · have hf := if_s c7 hf
      refine b_sub [(0, .ref (ad B x0)), (1, .int x1), (2, .ref (ad B x2)), (3, .int x3)] [0, 1, 2, 3] rfl ?_
      exact tX5_isAlike_60 C hr hlocks hf
    · have hf := it_s c7 hf
      refine b_aload_n C dX5_isAlike_38 0 rfl rfl ?_
      obtain ⟨r8, er8, hf⟩ := ob_s hf
      refine b_gR C dX5_isAlike_39 fl_X5_18 h2 er8 ?_
      refine b_iload_n C dX5_isAlike_42 1 rfl rfl ?_
      obtain ⟨h9, hf⟩ := gd_s hf
      obtain ⟨h10, hf⟩ := gd_s hf
      refine b_iald C h9 h10 dX5_isAlike_43 ?_
      refine b_iload_n C dX5_isAlike_44 3 rfl rfl ?_
      refine b_if_eq C (tgt := 53) dX5_isAlike_45 (by decide) (fun c11 => ?_) (fun c11 => ?_)
      · have hf := it_s c11 hf
        refine b_aload_n C dX5_isAlike_53 2 rfl rfl ?_
        refine b_gI C dX5_isAlike_54 fl_X5_52 h6 ?_
        refine b_sub [(0, .ref (ad B x0)), (1, .int x1), (2, .ref (ad B x2)), (3, .int x3)] [0, 1, 2, 3] rfl ?_
        exact tX5_isAlike_57 C hr hlocks hf
      · have hf := if_s c11 hf
        refine b_bipush C (v := (-2)) dX5_isAlike_48 (by decide) ?_
        refine b_goto C (tgt := 57) dX5_isAlike_50 (by decide) ?_
        refine b_sub [(0, .ref (ad B x0)), (1, .int x1), (2, .ref (ad B x2)), (3, .int x3)] [0, 1, 2, 3] rfl ?_
        exact tX5_isAlike_57 C hr hlocks hf
  · have hf := it_s c1 hf
    refine b_aload_n C dX5_isAlike_5 2 rfl rfl ?_
    obtain ⟨h27, hf⟩ := gd_s hf
    refine b_gI C dX5_isAlike_6 fl_X5_67 h27 ?_
    refine b_if_ne C (tgt := 23) dX5_isAlike_9 (by decide) (fun c28 => ?_) (fun c28 => ?_)
    · have hf := if_s c28 hf
      refine b_sub [(0, .ref (ad B x0)), (1, .int x1), (2, .ref (ad B x2)), (3, .int x3)] [0, 1, 2, 3] rfl ?_
      exact tX5_isAlike_23 C hr hlocks hf
    · have hf := it_s c28 hf
      refine b_aload_n C dX5_isAlike_12 2 rfl rfl ?_
      refine b_gI C dX5_isAlike_13 fl_X5_52 h27 ?_
      refine b_if_ne C (tgt := 23) dX5_isAlike_16 (by decide) (fun c30 => ?_) (fun c30 => ?_)
      · have hf := if_s c30 hf
        refine b_sub [(0, .ref (ad B x0)), (1, .int x1), (2, .ref (ad B x2)), (3, .int x3)] [0, 1, 2, 3] rfl ?_
        exact tX5_isAlike_23 C hr hlocks hf
      · have hf := it_s c30 hf
        refine b_iconst C (v := 1) dX5_isAlike_19 (by decide) ?_
        refine b_goto C (tgt := 24) dX5_isAlike_20 (by decide) ?_
        refine b_sub [(0, .ref (ad B x0)), (1, .int x1), (2, .ref (ad B x2)), (3, .int x3)] [0, 1, 2, 3] rfl ?_
        exact tX5_isAlike_24 C hr hlocks hf
theorem kX5_isAlike (l : Launch) (D : va_G) (cy : Nat → ClassId) (B : Bs) {N : Nat} {g : Gs} {x0 : Nat} {x1 : Int32} {x2 : Nat} {x3 : Int32} {vz : Int32} {dz : Ds} {d : Ds} (hf : fX5_isAlike N g x0 x1 x2 x3 d = some (vz, dz)) : Met l yX5_isAlike (.code yX5_isAlike cX5_isAlike 5 (some .boolean) :: wl) rmX5_isAlike (PC D cy B [.ref (ad B x0), .int x1, .ref (ad B x2), .int x3] g d) (QI D cy B vz g dz) 0 0 (wA B) :=
  met_of (by decide +kernel) (Nat.le_of_ble_eq_true rfl) (fun p e s m args below meth c C hr hlocks _ => b_sub [(0, .ref (ad B x0)), (1, .int x1), (2, .ref (ad B x2)), (3, .int x3)] [0, 1, 2, 3] rfl (tX5_isAlike_E C hr hlocks hf))
/-! KeyMatrix$Reports.hasCode(II)Z -/
theorem dX5_hasCode_0 : decode cX5_hasCode 0 = .ok (.iconst 0, 1) := by decide +kernel
theorem dX5_hasCode_1 : decode cX5_hasCode 1 = .ok (.istore_n 3, 1) := by decide +kernel
theorem dX5_hasCode_2 : decode cX5_hasCode 2 = .ok (.iload_n 1, 1) := by decide +kernel
theorem dX5_hasCode_3 : decode cX5_hasCode 3 = .ok (.iconst (-1), 1) := by decide +kernel
theorem dX5_hasCode_4 : decode cX5_hasCode 4 = .ok (.if_icmp .eq 36, 3) := by decide +kernel
theorem dX5_hasCode_7 : decode cX5_hasCode 7 = .ok (.iload_n 3, 1) := by decide +kernel
theorem dX5_hasCode_8 : decode cX5_hasCode 8 = .ok (.aload_n 0, 1) := by decide +kernel
theorem dX5_hasCode_9 : decode cX5_hasCode 9 = .ok (.getfield 18, 3) := by decide +kernel
theorem dX5_hasCode_12 : decode cX5_hasCode 12 = .ok (.iload_n 1, 1) := by decide +kernel
theorem dX5_hasCode_13 : decode cX5_hasCode 13 = .ok (.iaload, 1) := by decide +kernel
theorem dX5_hasCode_14 : decode cX5_hasCode 14 = .ok (.if_icmp .ge 26, 3) := by decide +kernel
theorem dX5_hasCode_17 : decode cX5_hasCode 17 = .ok (.aload_n 0, 1) := by decide +kernel
theorem dX5_hasCode_18 : decode cX5_hasCode 18 = .ok (.getfield 23, 3) := by decide +kernel
theorem dX5_hasCode_21 : decode cX5_hasCode 21 = .ok (.iload_n 1, 1) := by decide +kernel
theorem dX5_hasCode_22 : decode cX5_hasCode 22 = .ok (.bipush 25, 2) := by decide +kernel
theorem dX5_hasCode_24 : decode cX5_hasCode 24 = .ok (.imul, 1) := by decide +kernel
theorem dX5_hasCode_25 : decode cX5_hasCode 25 = .ok (.iload_n 3, 1) := by decide +kernel
theorem dX5_hasCode_26 : decode cX5_hasCode 26 = .ok (.iadd, 1) := by decide +kernel
theorem dX5_hasCode_27 : decode cX5_hasCode 27 = .ok (.iaload, 1) := by decide +kernel
theorem dX5_hasCode_28 : decode cX5_hasCode 28 = .ok (.iload_n 2, 1) := by decide +kernel
theorem dX5_hasCode_29 : decode cX5_hasCode 29 = .ok (.if_icmp .ne 5, 3) := by decide +kernel
theorem dX5_hasCode_32 : decode cX5_hasCode 32 = .ok (.iconst 1, 1) := by decide +kernel
theorem dX5_hasCode_33 : decode cX5_hasCode 33 = .ok (.ireturn, 1) := by decide +kernel
theorem dX5_hasCode_34 : decode cX5_hasCode 34 = .ok (.iinc 3 1, 3) := by decide +kernel
theorem dX5_hasCode_37 : decode cX5_hasCode 37 = .ok (.goto (-35), 3) := by decide +kernel
theorem dX5_hasCode_40 : decode cX5_hasCode 40 = .ok (.iconst 0, 1) := by decide +kernel
theorem dX5_hasCode_41 : decode cX5_hasCode 41 = .ok (.ireturn, 1) := by decide +kernel
def rmX5_hasCode : Room := { frames := 0, cells := 0, slots := 0, locals := 0 }
set_option maxRecDepth 100000 in
def fX5_hasCode_J40 (N : Nat) (g : Gs) (x0 : Nat) (x1 : Int32) (x2 : Int32) (d : Ds) : Option (Int32 × Ds) := some (0, d)
set_option maxHeartbeats 4000000 in
set_option maxRecDepth 100000 in
theorem tX5_hasCode_40 {p : Program} {l : Launch} {e : Env} {s : State} {m : MethodId} {args : Array Value} {below : List Frame} {meth : Method} {c : Code} {D : va_G} {cy : Nat → ClassId} {B : Bs} (C : Cx p s m args c cX5_hasCode 4 RX5 D cy B) (hr : meth.sig.returnType = (some .boolean)) (hlocks : meth.locks = false) {N : Nat} {g : Gs} {x0 : Nat} {x1 : Int32} {x2 : Int32} {vz : Int32} {dz : Ds} {d : Ds} (hf : fX5_hasCode_J40 N g x0 x1 x2 d = some (vz, dz)) : WB p l e rmX5_hasCode s m args below meth c 4 D cy B 0 0 (MQ below (QI D cy B vz g dz) args s 0 0 (wA B)) g d [(0, .ref (ad B x0)), (1, .int x1), (2, .int x2)] 40 [] := by
  unfold fX5_hasCode_J40 at hf
  refine b_iconst C (v := 0) dX5_hasCode_40 (by decide) ?_
  exact b_zret C hr hlocks (by decide) hf dX5_hasCode_41
set_option maxRecDepth 100000 in
def fX5_hasCode_B2 (N : Nat) (g : Gs) (x0 : Nat) (x1 : Int32) (x2 : Int32) (K2 : Int32 × Ds → Option (Int32 × Ds)) (y3 : Int32) (d : Ds) : Option (Int32 × Ds) := if x1 = (-1 : Int32) then (fX5_hasCode_J40 N g x0 x1 x2 d) else (gd (chk g x0 5) <| ob (gR g x0 2) fun r3 => (gd (chk g r3 102) <| gd (¬ (x1 < 0 ∨ gL g r3 ≤ x1.toNatClampNeg)) <| if (dI d r3 x1.toNatClampNeg) ≤ y3 then (fX5_hasCode_J40 N g x0 x1 x2 d) else (ob (gR g x0 3) fun r7 => (gd (chk g r7 102) <| gd (¬ (((x1 * 25) + y3) < 0 ∨ gL g r7 ≤ ((x1 * 25) + y3).toNatClampNeg)) <| if (dI d r7 ((x1 * 25) + y3).toNatClampNeg) = x2 then (some (1, d)) else (bd (y3 + 1) fun u11 => (K2 (u11, d)))))))
set_option maxHeartbeats 4000000 in
set_option maxRecDepth 100000 in
theorem tX5_hasCode_2 {p : Program} {l : Launch} {e : Env} {s : State} {m : MethodId} {args : Array Value} {below : List Frame} {meth : Method} {c : Code} {D : va_G} {cy : Nat → ClassId} {B : Bs} (C : Cx p s m args c cX5_hasCode 4 RX5 D cy B) (hr : meth.sig.returnType = (some .boolean)) (hlocks : meth.locks = false) {N : Nat} {g : Gs} {x0 : Nat} {x1 : Int32} {x2 : Int32} {vz : Int32} {dz : Ds} {K2 : Int32 × Ds → Option (Int32 × Ds)} (hK2 : ∀ a, K2 a = some (vz, dz) → WB p l e rmX5_hasCode s m args below meth c 4 D cy B 0 0 (MQ below (QI D cy B vz g dz) args s 0 0 (wA B)) g a.2 [(0, .ref (ad B x0)), (1, .int x1), (2, .int x2), (3, .int a.1)] 2 []) {y3 : Int32} {d : Ds} (hf : fX5_hasCode_B2 N g x0 x1 x2 K2 y3 d = some (vz, dz)) : WB p l e rmX5_hasCode s m args below meth c 4 D cy B 0 0 (MQ below (QI D cy B vz g dz) args s 0 0 (wA B)) g d [(0, .ref (ad B x0)), (1, .int x1), (2, .int x2), (3, .int y3)] 2 [] := by
  unfold fX5_hasCode_B2 at hf
  refine b_iload_n C dX5_hasCode_2 1 rfl rfl ?_
  refine b_iconst C (v := (-1)) dX5_hasCode_3 (by decide) ?_
  refine b_icmp_eq C (tgt := 40) dX5_hasCode_4 (by decide) (fun c1 => ?_) (fun c1 => ?_)
  · have hf := it_s c1 hf
    refine b_sub [(0, .ref (ad B x0)), (1, .int x1), (2, .int x2)] [0, 1, 2] rfl ?_
    exact tX5_hasCode_40 C hr hlocks hf
  · have hf := if_s c1 hf
    refine b_iload_n C dX5_hasCode_7 3 rfl rfl ?_
    refine b_aload_n C dX5_hasCode_8 0 rfl rfl ?_
    obtain ⟨h2, hf⟩ := gd_s hf
    obtain ⟨r3, er3, hf⟩ := ob_s hf
    refine b_gR C dX5_hasCode_9 fl_X5_18 h2 er3 ?_
    refine b_iload_n C dX5_hasCode_12 1 rfl rfl ?_
    obtain ⟨h4, hf⟩ := gd_s hf
    obtain ⟨h5, hf⟩ := gd_s hf
    refine b_iald C h4 h5 dX5_hasCode_13 ?_
    refine b_icmp_ge C (tgt := 40) dX5_hasCode_14 (by decide) (fun c6 => ?_) (fun c6 => ?_)
    · have hf := it_s c6 hf
      refine b_sub [(0, .ref (ad B x0)), (1, .int x1), (2, .int x2)] [0, 1, 2] rfl ?_
      exact tX5_hasCode_40 C hr hlocks hf
    · have hf := if_s c6 hf
      refine b_aload_n C dX5_hasCode_17 0 rfl rfl ?_
      obtain ⟨r7, er7, hf⟩ := ob_s hf
      refine b_gR C dX5_hasCode_18 fl_X5_23 h2 er7 ?_
      refine b_iload_n C dX5_hasCode_21 1 rfl rfl ?_
      refine b_bipush C (v := 25) dX5_hasCode_22 (by decide) ?_
      refine b_imul C dX5_hasCode_24 ?_
      refine b_iload_n C dX5_hasCode_25 3 rfl rfl ?_
      refine b_iadd C dX5_hasCode_26 ?_
      obtain ⟨h8, hf⟩ := gd_s hf
      obtain ⟨h9, hf⟩ := gd_s hf
      refine b_iald C h8 h9 dX5_hasCode_27 ?_
      refine b_iload_n C dX5_hasCode_28 2 rfl rfl ?_
      refine b_icmp_ne C (tgt := 34) dX5_hasCode_29 (by decide) (fun c10 => ?_) (fun c10 => ?_)
      · have hf := if_s c10 hf
        obtain ⟨u11, eu11, hf⟩ := bd_s hf
        refine b_iinc C dX5_hasCode_34 3 rfl (by rw [eu11]; rfl) [(3, .int u11), (0, .ref (ad B x0)), (1, .int x1), (2, .int x2)] (by decide) rfl ?_
        refine b_goto C (tgt := 2) dX5_hasCode_37 (by decide) ?_
        refine b_sub [(0, .ref (ad B x0)), (1, .int x1), (2, .int x2), (3, .int u11)] [1, 2, 3, 0] rfl ?_
        exact hK2 (u11, d) hf
      · have hf := it_s c10 hf
        refine b_iconst C (v := 1) dX5_hasCode_32 (by decide) ?_
        exact b_zret C hr hlocks (by decide) hf dX5_hasCode_33
def fX5_hasCode_L2 (N : Nat) (g : Gs) (x0 : Nat) (x1 : Int32) (x2 : Int32) : Int32 × Ds → Option (Int32 × Ds) := lp (fun K2 a => fX5_hasCode_B2 N g x0 x1 x2 K2 a.1 a.2) N
theorem tX5_hasCode_L2 {p : Program} {l : Launch} {e : Env} {s : State} {m : MethodId} {args : Array Value} {below : List Frame} {meth : Method} {c : Code} {D : va_G} {cy : Nat → ClassId} {B : Bs} (C : Cx p s m args c cX5_hasCode 4 RX5 D cy B) (hr : meth.sig.returnType = (some .boolean)) (hlocks : meth.locks = false) {N : Nat} {g : Gs} {x0 : Nat} {x1 : Int32} {x2 : Int32} {vz : Int32} {dz : Ds} (a : Int32 × Ds) (hf : fX5_hasCode_L2 N g x0 x1 x2 a = some (vz, dz)) : WB p l e rmX5_hasCode s m args below meth c 4 D cy B 0 0 (MQ below (QI D cy B vz g dz) args s 0 0 (wA B)) g a.2 [(0, .ref (ad B x0)), (1, .int x1), (2, .int x2), (3, .int a.1)] 2 [] :=
  lp_w (fun K2 hK2 a ha => tX5_hasCode_2 C hr hlocks hK2 ha) N a hf
set_option maxRecDepth 100000 in
def fX5_hasCode (N : Nat) (g : Gs) (x0 : Nat) (x1 : Int32) (x2 : Int32) (d : Ds) : Option (Int32 × Ds) := fX5_hasCode_L2 N g x0 x1 x2 (0, d)
set_option maxHeartbeats 4000000 in
set_option maxRecDepth 100000 in
theorem tX5_hasCode_E {p : Program} {l : Launch} {e : Env} {s : State} {m : MethodId} {args : Array Value} {below : List Frame} {meth : Method} {c : Code} {D : va_G} {cy : Nat → ClassId} {B : Bs} (C : Cx p s m args c cX5_hasCode 4 RX5 D cy B) (hr : meth.sig.returnType = (some .boolean)) (hlocks : meth.locks = false) {N : Nat} {g : Gs} {x0 : Nat} {x1 : Int32} {x2 : Int32} {vz : Int32} {dz : Ds} {d : Ds} (hf : fX5_hasCode N g x0 x1 x2 d = some (vz, dz)) : WB p l e rmX5_hasCode s m args below meth c 4 D cy B 0 0 (MQ below (QI D cy B vz g dz) args s 0 0 (wA B)) g d [(0, .ref (ad B x0)), (1, .int x1), (2, .int x2)] 0 [] := by
  unfold fX5_hasCode at hf
  refine b_iconst C (v := 0) dX5_hasCode_0 (by decide) ?_
  refine b_istore_n C dX5_hasCode_1 rfl [(3, .int 0), (0, .ref (ad B x0)), (1, .int x1), (2, .int x2)] (by decide) rfl ?_
  refine b_sub [(0, .ref (ad B x0)), (1, .int x1), (2, .int x2), (3, .int 0)] [1, 2, 3, 0] rfl ?_
  exact tX5_hasCode_L2 C hr hlocks (0, d) hf
theorem kX5_hasCode (l : Launch) (D : va_G) (cy : Nat → ClassId) (B : Bs) {N : Nat} {g : Gs} {x0 : Nat} {x1 : Int32} {x2 : Int32} {vz : Int32} {dz : Ds} {d : Ds} (hf : fX5_hasCode N g x0 x1 x2 d = some (vz, dz)) : Met l yX5_hasCode (.code yX5_hasCode cX5_hasCode 4 (some .boolean) :: wl) rmX5_hasCode (PC D cy B [.ref (ad B x0), .int x1, .int x2] g d) (QI D cy B vz g dz) 0 0 (wA B) :=
  met_of (by decide +kernel) (Nat.le_of_ble_eq_true rfl) (fun p e s m args below meth c C hr hlocks _ => b_sub [(0, .ref (ad B x0)), (1, .int x1), (2, .int x2)] [0, 1, 2] rfl (tX5_hasCode_E C hr hlocks hf))
/-! KeyMatrix$Doing.sends(I)Z -/
theorem dX3_sends_0 : decode cX3_sends 0 = .ok (.iconst 0, 1) := by decide +kernel
theorem dX3_sends_1 : decode cX3_sends 1 = .ok (.istore_n 2, 1) := by decide +kernel
theorem dX3_sends_2 : decode cX3_sends 2 = .ok (.iload_n 2, 1) := by decide +kernel
theorem dX3_sends_3 : decode cX3_sends 3 = .ok (.aload_n 0, 1) := by decide +kernel
theorem dX3_sends_4 : decode cX3_sends 4 = .ok (.getfield 47, 3) := by decide +kernel
theorem dX3_sends_7 : decode cX3_sends 7 = .ok (.if_icmp .ge 21, 3) := by decide +kernel
theorem dX3_sends_10 : decode cX3_sends 10 = .ok (.aload_n 0, 1) := by decide +kernel
theorem dX3_sends_11 : decode cX3_sends 11 = .ok (.getfield 24, 3) := by decide +kernel
theorem dX3_sends_14 : decode cX3_sends 14 = .ok (.iload_n 2, 1) := by decide +kernel
theorem dX3_sends_15 : decode cX3_sends 15 = .ok (.iaload, 1) := by decide +kernel
theorem dX3_sends_16 : decode cX3_sends 16 = .ok (.iload_n 1, 1) := by decide +kernel
theorem dX3_sends_17 : decode cX3_sends 17 = .ok (.if_icmp .ne 5, 3) := by decide +kernel
theorem dX3_sends_20 : decode cX3_sends 20 = .ok (.iconst 1, 1) := by decide +kernel
theorem dX3_sends_21 : decode cX3_sends 21 = .ok (.ireturn, 1) := by decide +kernel
theorem dX3_sends_22 : decode cX3_sends 22 = .ok (.iinc 2 1, 3) := by decide +kernel
theorem dX3_sends_25 : decode cX3_sends 25 = .ok (.goto (-23), 3) := by decide +kernel
theorem dX3_sends_28 : decode cX3_sends 28 = .ok (.iconst 0, 1) := by decide +kernel
theorem dX3_sends_29 : decode cX3_sends 29 = .ok (.ireturn, 1) := by decide +kernel
def rmX3_sends : Room := { frames := 0, cells := 0, slots := 0, locals := 0 }
set_option maxRecDepth 100000 in
def fX3_sends_B2 (N : Nat) (g : Gs) (x0 : Nat) (x1 : Int32) (K2 : Int32 × Ds → Option (Int32 × Ds)) (y2 : Int32) (d : Ds) : Option (Int32 × Ds) := gd (chk g x0 3) <| if (dI d x0 8) ≤ y2 then (some (0, d)) else (ob (gR g x0 7) fun r3 => (gd (chk g r3 102) <| gd (¬ (y2 < 0 ∨ gL g r3 ≤ y2.toNatClampNeg)) <| if (dI d r3 y2.toNatClampNeg) = x1 then (some (1, d)) else (bd (y2 + 1) fun u7 => (K2 (u7, d)))))
set_option maxHeartbeats 4000000 in
set_option maxRecDepth 100000 in
theorem tX3_sends_2 {p : Program} {l : Launch} {e : Env} {s : State} {m : MethodId} {args : Array Value} {below : List Frame} {meth : Method} {c : Code} {D : va_G} {cy : Nat → ClassId} {B : Bs} (C : Cx p s m args c cX3_sends 3 RX3 D cy B) (hr : meth.sig.returnType = (some .boolean)) (hlocks : meth.locks = false) {N : Nat} {g : Gs} {x0 : Nat} {x1 : Int32} {vz : Int32} {dz : Ds} {K2 : Int32 × Ds → Option (Int32 × Ds)} (hK2 : ∀ a, K2 a = some (vz, dz) → WB p l e rmX3_sends s m args below meth c 3 D cy B 0 0 (MQ below (QI D cy B vz g dz) args s 0 0 (wA B)) g a.2 [(0, .ref (ad B x0)), (1, .int x1), (2, .int a.1)] 2 []) {y2 : Int32} {d : Ds} (hf : fX3_sends_B2 N g x0 x1 K2 y2 d = some (vz, dz)) : WB p l e rmX3_sends s m args below meth c 3 D cy B 0 0 (MQ below (QI D cy B vz g dz) args s 0 0 (wA B)) g d [(0, .ref (ad B x0)), (1, .int x1), (2, .int y2)] 2 [] := by
  unfold fX3_sends_B2 at hf
  refine b_iload_n C dX3_sends_2 2 rfl rfl ?_
  refine b_aload_n C dX3_sends_3 0 rfl rfl ?_
  obtain ⟨h1, hf⟩ := gd_s hf
  refine b_gI C dX3_sends_4 fl_X3_47 h1 ?_
  refine b_icmp_ge C (tgt := 28) dX3_sends_7 (by decide) (fun c2 => ?_) (fun c2 => ?_)
  · have hf := it_s c2 hf
    refine b_iconst C (v := 0) dX3_sends_28 (by decide) ?_
    exact b_zret C hr hlocks (by decide) hf dX3_sends_29
  · have hf := if_s c2 hf
    refine b_aload_n C dX3_sends_10 0 rfl rfl ?_
    obtain ⟨r3, er3, hf⟩ := ob_s hf
    refine b_gR C dX3_sends_11 fl_X3_24 h1 er3 ?_
    refine b_iload_n C dX3_sends_14 2 rfl rfl ?_
    obtain ⟨h4, hf⟩ := gd_s hf
    obtain ⟨h5, hf⟩ := gd_s hf
    refine b_iald C h4 h5 dX3_sends_15 ?_
    refine b_iload_n C dX3_sends_16 1 rfl rfl ?_
    refine b_icmp_ne C (tgt := 22) dX3_sends_17 (by decide) (fun c6 => ?_) (fun c6 => ?_)
    · have hf := if_s c6 hf
      obtain ⟨u7, eu7, hf⟩ := bd_s hf
      refine b_iinc C dX3_sends_22 2 rfl (by rw [eu7]; rfl) [(2, .int u7), (0, .ref (ad B x0)), (1, .int x1)] (by decide) rfl ?_
      refine b_goto C (tgt := 2) dX3_sends_25 (by decide) ?_
      refine b_sub [(0, .ref (ad B x0)), (1, .int x1), (2, .int u7)] [1, 2, 0] rfl ?_
      exact hK2 (u7, d) hf
    · have hf := it_s c6 hf
      refine b_iconst C (v := 1) dX3_sends_20 (by decide) ?_
      exact b_zret C hr hlocks (by decide) hf dX3_sends_21
def fX3_sends_L2 (N : Nat) (g : Gs) (x0 : Nat) (x1 : Int32) : Int32 × Ds → Option (Int32 × Ds) := lp (fun K2 a => fX3_sends_B2 N g x0 x1 K2 a.1 a.2) N
theorem tX3_sends_L2 {p : Program} {l : Launch} {e : Env} {s : State} {m : MethodId} {args : Array Value} {below : List Frame} {meth : Method} {c : Code} {D : va_G} {cy : Nat → ClassId} {B : Bs} (C : Cx p s m args c cX3_sends 3 RX3 D cy B) (hr : meth.sig.returnType = (some .boolean)) (hlocks : meth.locks = false) {N : Nat} {g : Gs} {x0 : Nat} {x1 : Int32} {vz : Int32} {dz : Ds} (a : Int32 × Ds) (hf : fX3_sends_L2 N g x0 x1 a = some (vz, dz)) : WB p l e rmX3_sends s m args below meth c 3 D cy B 0 0 (MQ below (QI D cy B vz g dz) args s 0 0 (wA B)) g a.2 [(0, .ref (ad B x0)), (1, .int x1), (2, .int a.1)] 2 [] :=
  lp_w (fun K2 hK2 a ha => tX3_sends_2 C hr hlocks hK2 ha) N a hf
set_option maxRecDepth 100000 in
def fX3_sends (N : Nat) (g : Gs) (x0 : Nat) (x1 : Int32) (d : Ds) : Option (Int32 × Ds) := fX3_sends_L2 N g x0 x1 (0, d)
set_option maxHeartbeats 4000000 in
set_option maxRecDepth 100000 in
theorem tX3_sends_E {p : Program} {l : Launch} {e : Env} {s : State} {m : MethodId} {args : Array Value} {below : List Frame} {meth : Method} {c : Code} {D : va_G} {cy : Nat → ClassId} {B : Bs} (C : Cx p s m args c cX3_sends 3 RX3 D cy B) (hr : meth.sig.returnType = (some .boolean)) (hlocks : meth.locks = false) {N : Nat} {g : Gs} {x0 : Nat} {x1 : Int32} {vz : Int32} {dz : Ds} {d : Ds} (hf : fX3_sends N g x0 x1 d = some (vz, dz)) : WB p l e rmX3_sends s m args below meth c 3 D cy B 0 0 (MQ below (QI D cy B vz g dz) args s 0 0 (wA B)) g d [(0, .ref (ad B x0)), (1, .int x1)] 0 [] := by
  unfold fX3_sends at hf
  refine b_iconst C (v := 0) dX3_sends_0 (by decide) ?_
  refine b_istore_n C dX3_sends_1 rfl [(2, .int 0), (0, .ref (ad B x0)), (1, .int x1)] (by decide) rfl ?_
  refine b_sub [(0, .ref (ad B x0)), (1, .int x1), (2, .int 0)] [1, 2, 0] rfl ?_
  exact tX3_sends_L2 C hr hlocks (0, d) hf
theorem kX3_sends (l : Launch) (D : va_G) (cy : Nat → ClassId) (B : Bs) {N : Nat} {g : Gs} {x0 : Nat} {x1 : Int32} {vz : Int32} {dz : Ds} {d : Ds} (hf : fX3_sends N g x0 x1 d = some (vz, dz)) : Met l yX3_sends (.code yX3_sends cX3_sends 3 (some .boolean) :: wl) rmX3_sends (PC D cy B [.ref (ad B x0), .int x1] g d) (QI D cy B vz g dz) 0 0 (wA B) :=
  met_of (by decide +kernel) (Nat.le_of_ble_eq_true rfl) (fun p e s m args below meth c C hr hlocks _ => b_sub [(0, .ref (ad B x0)), (1, .int x1)] [0, 1] rfl (tX3_sends_E C hr hlocks hf))
/-! KeyMatrix$Reports.renewLatest(ILKeyMatrix$Doing;ZI)V -/
theorem yo_X3_sends : yX3_sends.cls ≠ "java/lang/invoke/MethodHandle" ∧ yX3_sends.cls ≠ "java/lang/invoke/VarHandle" ∧ (parseMethodDescriptor yX3_sends.desc).map (fun d => d.parameters.length) = some 1 := by decide +kernel
theorem co_X3_sends : Cond.code yX3_sends cX3_sends 3 (some .boolean) ∈ wl := mW (mT4 (List.mem_of_getElem? (i := 179) (by decide +kernel))) rfl
theorem in_X3_sends : Cond.initialized yX3_sends.cls ∈ wl := mW (mT1 (List.mem_of_getElem? (i := 10) (by decide +kernel))) rfl
theorem im_X3_sends : Cond.instanceMethod yX3_sends ∈ wl := mW (mT4 (List.mem_of_getElem? (i := 177) (by decide +kernel))) rfl
theorem se_X3_sends : Cond.selects yX3_sends.cls yX3_sends yX3_sends ∈ wl := mW (mT4 (List.mem_of_getElem? (i := 178) (by decide +kernel))) rfl
theorem lv_X5_78 : LV RX5 78 yX3_sends cX3_sends 3 (some .boolean) 1 3 := ⟨⟨(RX3, TX3, 9), rfl, rfl⟩, yo_X3_sends, mW (mT4 (List.mem_of_getElem? (i := 176) (by decide +kernel))) rfl, im_X3_sends, se_X3_sends, in_X3_sends, co_X3_sends⟩
theorem yo_X5_hasCode : yX5_hasCode.cls ≠ "java/lang/invoke/MethodHandle" ∧ yX5_hasCode.cls ≠ "java/lang/invoke/VarHandle" ∧ (parseMethodDescriptor yX5_hasCode.desc).map (fun d => d.parameters.length) = some 2 := by decide +kernel
theorem co_X5_hasCode : Cond.code yX5_hasCode cX5_hasCode 4 (some .boolean) ∈ wl := mW (mT4 (List.mem_of_getElem? (i := 175) (by decide +kernel))) rfl
theorem in_X5_hasCode : Cond.initialized yX5_hasCode.cls ∈ wl := mW (mT1 (List.mem_of_getElem? (i := 11) (by decide +kernel))) rfl
theorem im_X5_hasCode : Cond.instanceMethod yX5_hasCode ∈ wl := mW (mT4 (List.mem_of_getElem? (i := 174) (by decide +kernel))) rfl
theorem se_X5_hasCode : Cond.selects yX5_hasCode.cls yX5_hasCode yX5_hasCode ∈ wl := mW (mT0 (List.mem_of_getElem? (i := 28) (by decide +kernel))) rfl
theorem lv_X5_74 : LV RX5 74 yX5_hasCode cX5_hasCode 4 (some .boolean) 2 5 := ⟨⟨(RX5, TX5, 9), rfl, rfl⟩, yo_X5_hasCode, mW (mT4 (List.mem_of_getElem? (i := 172) (by decide +kernel))) rfl, im_X5_hasCode, se_X5_hasCode, in_X5_hasCode, co_X5_hasCode⟩
theorem dX5_renewLatest_0 : decode cX5_renewLatest 0 = .ok (.iconst (-1), 1) := by decide +kernel
theorem dX5_renewLatest_1 : decode cX5_renewLatest 1 = .ok (.istore 5, 2) := by decide +kernel
theorem dX5_renewLatest_3 : decode cX5_renewLatest 3 = .ok (.iconst 0, 1) := by decide +kernel
theorem dX5_renewLatest_4 : decode cX5_renewLatest 4 = .ok (.istore 6, 2) := by decide +kernel
theorem dX5_renewLatest_6 : decode cX5_renewLatest 6 = .ok (.iload 6, 2) := by decide +kernel
theorem dX5_renewLatest_8 : decode cX5_renewLatest 8 = .ok (.aload_n 2, 1) := by decide +kernel
theorem dX5_renewLatest_9 : decode cX5_renewLatest 9 = .ok (.getfield 52, 3) := by decide +kernel
theorem dX5_renewLatest_12 : decode cX5_renewLatest 12 = .ok (.if_icmp .ge 37, 3) := by decide +kernel
theorem dX5_renewLatest_15 : decode cX5_renewLatest 15 = .ok (.iload_n 3, 1) := by decide +kernel
theorem dX5_renewLatest_16 : decode cX5_renewLatest 16 = .ok (.ifCond .ne 33, 3) := by decide +kernel
theorem dX5_renewLatest_19 : decode cX5_renewLatest 19 = .ok (.aload_n 0, 1) := by decide +kernel
theorem dX5_renewLatest_20 : decode cX5_renewLatest 20 = .ok (.iload_n 1, 1) := by decide +kernel
theorem dX5_renewLatest_21 : decode cX5_renewLatest 21 = .ok (.aload_n 2, 1) := by decide +kernel
theorem dX5_renewLatest_22 : decode cX5_renewLatest 22 = .ok (.getfield 69, 3) := by decide +kernel
theorem dX5_renewLatest_25 : decode cX5_renewLatest 25 = .ok (.iload 6, 2) := by decide +kernel
theorem dX5_renewLatest_27 : decode cX5_renewLatest 27 = .ok (.iaload, 1) := by decide +kernel
theorem dX5_renewLatest_28 : decode cX5_renewLatest 28 = .ok (.invokevirtual 74, 3) := by decide +kernel
theorem dX5_renewLatest_31 : decode cX5_renewLatest 31 = .ok (.ifCond .ne 12, 3) := by decide +kernel
theorem dX5_renewLatest_34 : decode cX5_renewLatest 34 = .ok (.aload_n 2, 1) := by decide +kernel
theorem dX5_renewLatest_35 : decode cX5_renewLatest 35 = .ok (.getfield 69, 3) := by decide +kernel
theorem dX5_renewLatest_38 : decode cX5_renewLatest 38 = .ok (.iload 6, 2) := by decide +kernel
theorem dX5_renewLatest_40 : decode cX5_renewLatest 40 = .ok (.iaload, 1) := by decide +kernel
theorem dX5_renewLatest_41 : decode cX5_renewLatest 41 = .ok (.istore 5, 2) := by decide +kernel
theorem dX5_renewLatest_43 : decode cX5_renewLatest 43 = .ok (.iinc 6 1, 3) := by decide +kernel
theorem dX5_renewLatest_46 : decode cX5_renewLatest 46 = .ok (.goto (-40), 3) := by decide +kernel
theorem dX5_renewLatest_49 : decode cX5_renewLatest 49 = .ok (.iload 5, 2) := by decide +kernel
theorem dX5_renewLatest_51 : decode cX5_renewLatest 51 = .ok (.iconst (-1), 1) := by decide +kernel
theorem dX5_renewLatest_52 : decode cX5_renewLatest 52 = .ok (.if_icmp .eq 14, 3) := by decide +kernel
theorem dX5_renewLatest_55 : decode cX5_renewLatest 55 = .ok (.aload_n 0, 1) := by decide +kernel
theorem dX5_renewLatest_56 : decode cX5_renewLatest 56 = .ok (.iload 5, 2) := by decide +kernel
theorem dX5_renewLatest_58 : decode cX5_renewLatest 58 = .ok (.iload 4, 2) := by decide +kernel
theorem dX5_renewLatest_60 : decode cX5_renewLatest 60 = .ok (.invokevirtual 33, 3) := by decide +kernel
theorem dX5_renewLatest_63 : decode cX5_renewLatest 63 = .ok (.goto 24, 3) := by decide +kernel
theorem dX5_renewLatest_66 : decode cX5_renewLatest 66 = .ok (.iload_n 3, 1) := by decide +kernel
theorem dX5_renewLatest_67 : decode cX5_renewLatest 67 = .ok (.ifCond .ne 14, 3) := by decide +kernel
theorem dX5_renewLatest_70 : decode cX5_renewLatest 70 = .ok (.aload_n 2, 1) := by decide +kernel
theorem dX5_renewLatest_71 : decode cX5_renewLatest 71 = .ok (.aload_n 0, 1) := by decide +kernel
theorem dX5_renewLatest_72 : decode cX5_renewLatest 72 = .ok (.getfield 43, 3) := by decide +kernel
theorem dX5_renewLatest_75 : decode cX5_renewLatest 75 = .ok (.invokevirtual 78, 3) := by decide +kernel
theorem dX5_renewLatest_78 : decode cX5_renewLatest 78 = .ok (.ifCond .ne 9, 3) := by decide +kernel
theorem dX5_renewLatest_81 : decode cX5_renewLatest 81 = .ok (.aload_n 0, 1) := by decide +kernel
theorem dX5_renewLatest_82 : decode cX5_renewLatest 82 = .ok (.iconst (-1), 1) := by decide +kernel
theorem dX5_renewLatest_83 : decode cX5_renewLatest 83 = .ok (.iconst (-1), 1) := by decide +kernel
theorem dX5_renewLatest_84 : decode cX5_renewLatest 84 = .ok (.invokevirtual 33, 3) := by decide +kernel
theorem dX5_renewLatest_87 : decode cX5_renewLatest 87 = .ok (.return_, 1) := by decide +kernel
def rmX5_renewLatest : Room := { frames := 1, cells := 0, slots := 0, locals := 23 }
set_option maxRecDepth 100000 in
def fX5_renewLatest_J87 (N : Nat) (g : Gs) (x0 : Nat) (x1 : Int32) (x2 : Nat) (x3 : Int32) (x4 : Int32) (d : Ds) : Option (Unit × Ds) := some ((), d)
set_option maxHeartbeats 4000000 in
set_option maxRecDepth 100000 in
theorem tX5_renewLatest_87 {p : Program} {l : Launch} {e : Env} {s : State} {m : MethodId} {args : Array Value} {below : List Frame} {meth : Method} {c : Code} {D : va_G} {cy : Nat → ClassId} {B : Bs} (C : Cx p s m args c cX5_renewLatest 7 RX5 D cy B) (hr : meth.sig.returnType = none) (hlocks : meth.locks = false) {N : Nat} {g : Gs} {x0 : Nat} {x1 : Int32} {x2 : Nat} {x3 : Int32} {x4 : Int32}  {dz : Ds} {d : Ds} (hf : fX5_renewLatest_J87 N g x0 x1 x2 x3 x4 d = some ((), dz)) : WB p l e rmX5_renewLatest s m args below meth c 7 D cy B 0 0 (MQ below (QV D cy B g dz) args s 0 0 (wA B)) g d [(0, .ref (ad B x0)), (1, .int x1), (2, .ref (ad B x2)), (3, .int x3), (4, .int x4)] 87 [] := by
  unfold fX5_renewLatest_J87 at hf
  exact b_vret C hr hlocks hf dX5_renewLatest_87
set_option maxRecDepth 100000 in
def fX5_renewLatest_J81 (N : Nat) (g : Gs) (x0 : Nat) (x1 : Int32) (x2 : Nat) (x3 : Int32) (x4 : Int32) (d : Ds) : Option (Unit × Ds) := gd (chk g x0 5) <| cv (fX5_makeLatest N g x0 (-1) (-1) d) fun d6 => (fX5_renewLatest_J87 N g x0 x1 x2 x3 x4 d6)
set_option maxHeartbeats 4000000 in
set_option maxRecDepth 100000 in
theorem tX5_renewLatest_81 {p : Program} {l : Launch} {e : Env} {s : State} {m : MethodId} {args : Array Value} {below : List Frame} {meth : Method} {c : Code} {D : va_G} {cy : Nat → ClassId} {B : Bs} (C : Cx p s m args c cX5_renewLatest 7 RX5 D cy B) (hr : meth.sig.returnType = none) (hlocks : meth.locks = false) {N : Nat} {g : Gs} {x0 : Nat} {x1 : Int32} {x2 : Nat} {x3 : Int32} {x4 : Int32}  {dz : Ds} {d : Ds} (hf : fX5_renewLatest_J81 N g x0 x1 x2 x3 x4 d = some ((), dz)) : WB p l e rmX5_renewLatest s m args below meth c 7 D cy B 0 0 (MQ below (QV D cy B g dz) args s 0 0 (wA B)) g d [(0, .ref (ad B x0)), (1, .int x1), (2, .ref (ad B x2)), (3, .int x3), (4, .int x4)] 81 [] := by
  unfold fX5_renewLatest_J81 at hf
  refine b_aload_n C dX5_renewLatest_81 0 rfl rfl ?_
  refine b_iconst C (v := (-1)) dX5_renewLatest_82 (by decide) ?_
  refine b_iconst C (v := (-1)) dX5_renewLatest_83 (by decide) ?_
  obtain ⟨h5, hf⟩ := gd_s hf
  obtain ⟨d6, k7, hf⟩ := cv_s hf
  refine b_cVN C [] dX5_renewLatest_84 (kX5_makeLatest l D cy B k7) lv_X5_33 ⟨rfl, rfl, Nat.le_of_ble_eq_true rfl, Nat.le_of_ble_eq_true rfl⟩ h5 (by decide) rfl (Nat.le_of_ble_eq_true rfl) ⟨Nat.zero_le _, Nat.zero_le _⟩ rfl ?_
  refine b_sub [(0, .ref (ad B x0)), (1, .int x1), (2, .ref (ad B x2)), (3, .int x3), (4, .int x4)] [0, 1, 2, 3, 4] rfl ?_
  exact tX5_renewLatest_87 C hr hlocks hf
set_option maxRecDepth 100000 in
def fX5_renewLatest_J49 (N : Nat) (g : Gs) (x0 : Nat) (x1 : Int32) (x2 : Nat) (x3 : Int32) (x4 : Int32) (y5 : Int32) (d : Ds) : Option (Unit × Ds) := if y5 = (-1 : Int32) then (if x3 = 0 then (gd (chk g x0 5) <| gd (chk g x2 3) <| cb (fX3_sends N g x2 (dI d x0 5) d) fun u12 d10 => (if u12 = 0 then (fX5_renewLatest_J81 N g x0 x1 x2 x3 x4 d10) else (fX5_renewLatest_J87 N g x0 x1 x2 x3 x4 d10))) else (fX5_renewLatest_J81 N g x0 x1 x2 x3 x4 d)) else (gd (chk g x0 5) <| cv (fX5_makeLatest N g x0 y5 x4 d) fun d15 => (fX5_renewLatest_J87 N g x0 x1 x2 x3 x4 d15))
set_option maxHeartbeats 4000000 in
set_option maxRecDepth 100000 in
theorem tX5_renewLatest_49 {p : Program} {l : Launch} {e : Env} {s : State} {m : MethodId} {args : Array Value} {below : List Frame} {meth : Method} {c : Code} {D : va_G} {cy : Nat → ClassId} {B : Bs} (C : Cx p s m args c cX5_renewLatest 7 RX5 D cy B) (hr : meth.sig.returnType = none) (hlocks : meth.locks = false) {N : Nat} {g : Gs} {x0 : Nat} {x1 : Int32} {x2 : Nat} {x3 : Int32} {x4 : Int32}  {dz : Ds} {y5 : Int32} {d : Ds} (hf : fX5_renewLatest_J49 N g x0 x1 x2 x3 x4 y5 d = some ((), dz)) : WB p l e rmX5_renewLatest s m args below meth c 7 D cy B 0 0 (MQ below (QV D cy B g dz) args s 0 0 (wA B)) g d [(0, .ref (ad B x0)), (1, .int x1), (2, .ref (ad B x2)), (3, .int x3), (4, .int x4), (5, .int y5)] 49 [] := by
  unfold fX5_renewLatest_J49 at hf
  refine b_iload C dX5_renewLatest_49 5 rfl ?_
  refine b_iconst C (v := (-1)) dX5_renewLatest_51 (by decide) ?_
  refine b_icmp_eq C (tgt := 66) dX5_renewLatest_52 (by decide) (fun c3 => ?_) (fun c3 => ?_)
  · have hf := it_s c3 hf
    refine b_iload_n C dX5_renewLatest_66 3 rfl rfl ?_
    refine b_if_ne C (tgt := 81) dX5_renewLatest_67 (by decide) (fun c4 => ?_) (fun c4 => ?_)
    · have hf := if_s c4 hf
      refine b_sub [(0, .ref (ad B x0)), (1, .int x1), (2, .ref (ad B x2)), (3, .int x3), (4, .int x4)] [0, 1, 2, 3, 4] rfl ?_
      exact tX5_renewLatest_81 C hr hlocks hf
    · have hf := it_s c4 hf
      refine b_aload_n C dX5_renewLatest_70 2 rfl rfl ?_
      refine b_aload_n C dX5_renewLatest_71 0 rfl rfl ?_
      obtain ⟨h8, hf⟩ := gd_s hf
      refine b_gI C dX5_renewLatest_72 fl_X5_43 h8 ?_
      obtain ⟨h9, hf⟩ := gd_s hf
      obtain ⟨u12, d10, k11, hf⟩ := cb_s hf
      refine b_cVI C [] dX5_renewLatest_75 (kX3_sends l D cy B k11) lv_X5_78 ⟨rfl, rfl, Nat.le_of_ble_eq_true rfl, Nat.le_of_ble_eq_true rfl⟩ h9 (by decide) rfl (Nat.le_of_ble_eq_true rfl) ⟨Nat.zero_le _, Nat.zero_le _⟩ rfl ?_
      refine b_if_ne C (tgt := 87) dX5_renewLatest_78 (by decide) (fun c13 => ?_) (fun c13 => ?_)
      · have hf := if_s c13 hf
        refine b_sub [(0, .ref (ad B x0)), (1, .int x1), (2, .ref (ad B x2)), (3, .int x3), (4, .int x4)] [0, 1, 2, 3, 4] rfl ?_
        exact tX5_renewLatest_87 C hr hlocks hf
      · have hf := it_s c13 hf
        refine b_sub [(0, .ref (ad B x0)), (1, .int x1), (2, .ref (ad B x2)), (3, .int x3), (4, .int x4)] [0, 1, 2, 3, 4] rfl ?_
        exact tX5_renewLatest_81 C hr hlocks hf
  · have hf := if_s c3 hf
    refine b_aload_n C dX5_renewLatest_55 0 rfl rfl ?_
    refine b_iload C dX5_renewLatest_56 5 rfl ?_
    refine b_iload C dX5_renewLatest_58 4 rfl ?_
    obtain ⟨h14, hf⟩ := gd_s hf
    obtain ⟨d15, k16, hf⟩ := cv_s hf
    refine b_cVN C [] dX5_renewLatest_60 (kX5_makeLatest l D cy B k16) lv_X5_33 ⟨rfl, rfl, Nat.le_of_ble_eq_true rfl, Nat.le_of_ble_eq_true rfl⟩ h14 (by decide) rfl (Nat.le_of_ble_eq_true rfl) ⟨Nat.zero_le _, Nat.zero_le _⟩ rfl ?_
    refine b_goto C (tgt := 87) dX5_renewLatest_63 (by decide) ?_
    refine b_sub [(0, .ref (ad B x0)), (1, .int x1), (2, .ref (ad B x2)), (3, .int x3), (4, .int x4)] [0, 1, 2, 3, 4] rfl ?_
    exact tX5_renewLatest_87 C hr hlocks hf
set_option maxRecDepth 100000 in
def fX5_renewLatest_J43 (N : Nat) (g : Gs) (x0 : Nat) (x1 : Int32) (x2 : Nat) (x3 : Int32) (x4 : Int32) (K6 : Int32 × Int32 × Ds → Option (Unit × Ds)) (y5 : Int32) (y6 : Int32) (d : Ds) : Option (Unit × Ds) := bd (y6 + 1) fun u26 => (K6 (y5, u26, d))
set_option maxHeartbeats 4000000 in
set_option maxRecDepth 100000 in
theorem tX5_renewLatest_43 {p : Program} {l : Launch} {e : Env} {s : State} {m : MethodId} {args : Array Value} {below : List Frame} {meth : Method} {c : Code} {D : va_G} {cy : Nat → ClassId} {B : Bs} (C : Cx p s m args c cX5_renewLatest 7 RX5 D cy B) (hr : meth.sig.returnType = none) (hlocks : meth.locks = false) {N : Nat} {g : Gs} {x0 : Nat} {x1 : Int32} {x2 : Nat} {x3 : Int32} {x4 : Int32}  {dz : Ds} {K6 : Int32 × Int32 × Ds → Option (Unit × Ds)} (hK6 : ∀ a, K6 a = some ((), dz) → WB p l e rmX5_renewLatest s m args below meth c 7 D cy B 0 0 (MQ below (QV D cy B g dz) args s 0 0 (wA B)) g a.2.2 [(0, .ref (ad B x0)), (1, .int x1), (2, .ref (ad B x2)), (3, .int x3), (4, .int x4), (5, .int a.1), (6, .int a.2.1)] 6 []) {y5 : Int32} {y6 : Int32} {d : Ds} (hf : fX5_renewLatest_J43 N g x0 x1 x2 x3 x4 K6 y5 y6 d = some ((), dz)) : WB p l e rmX5_renewLatest s m args below meth c 7 D cy B 0 0 (MQ below (QV D cy B g dz) args s 0 0 (wA B)) g d [(0, .ref (ad B x0)), (1, .int x1), (2, .ref (ad B x2)), (3, .int x3), (4, .int x4), (5, .int y5), (6, .int y6)] 43 [] := by
  unfold fX5_renewLatest_J43 at hf
  obtain ⟨u26, eu26, hf⟩ := bd_s hf
  refine b_iinc C dX5_renewLatest_43 6 rfl (by rw [eu26]; rfl) [(6, .int u26), (0, .ref (ad B x0)), (1, .int x1), (2, .ref (ad B x2)), (3, .int x3), (4, .int x4), (5, .int y5)] (by decide) rfl ?_
  refine b_goto C (tgt := 6) dX5_renewLatest_46 (by decide) ?_
  refine b_sub [(0, .ref (ad B x0)), (1, .int x1), (2, .ref (ad B x2)), (3, .int x3), (4, .int x4), (5, .int y5), (6, .int u26)] [1, 2, 3, 4, 5, 6, 0] rfl ?_
  exact hK6 (y5, u26, d) hf
set_option maxRecDepth 100000 in
def fX5_renewLatest_B6 (N : Nat) (g : Gs) (x0 : Nat) (x1 : Int32) (x2 : Nat) (x3 : Int32) (x4 : Int32) (K6 : Int32 × Int32 × Ds → Option (Unit × Ds)) (y5 : Int32) (y6 : Int32) (d : Ds) : Option (Unit × Ds) := gd (chk g x2 3) <| if (dI d x2 8) ≤ y6 then (fX5_renewLatest_J49 N g x0 x1 x2 x3 x4 y5 d) else (if x3 = 0 then (ob (gR g x2 7) fun r18 => (gd (chk g r18 102) <| gd (¬ (y6 < 0 ∨ gL g r18 ≤ y6.toNatClampNeg)) <| gd (chk g x0 5) <| cb (fX5_hasCode N g x0 x1 (dI d r18 y6.toNatClampNeg) d) fun u24 d22 => (if u24 = 0 then (bd ((dI d22 r18 y6.toNatClampNeg)) fun u27 => (fX5_renewLatest_J43 N g x0 x1 x2 x3 x4 K6 u27 y6 d22)) else (fX5_renewLatest_J43 N g x0 x1 x2 x3 x4 K6 y5 y6 d22)))) else (fX5_renewLatest_J49 N g x0 x1 x2 x3 x4 y5 d))
set_option maxHeartbeats 4000000 in
set_option maxRecDepth 100000 in
theorem tX5_renewLatest_6 {p : Program} {l : Launch} {e : Env} {s : State} {m : MethodId} {args : Array Value} {below : List Frame} {meth : Method} {c : Code} {D : va_G} {cy : Nat → ClassId} {B : Bs} (C : Cx p s m args c cX5_renewLatest 7 RX5 D cy B) (hr : meth.sig.returnType = none) (hlocks : meth.locks = false) {N : Nat} {g : Gs} {x0 : Nat} {x1 : Int32} {x2 : Nat} {x3 : Int32} {x4 : Int32}  {dz : Ds} {K6 : Int32 × Int32 × Ds → Option (Unit × Ds)} (hK6 : ∀ a, K6 a = some ((), dz) → WB p l e rmX5_renewLatest s m args below meth c 7 D cy B 0 0 (MQ below (QV D cy B g dz) args s 0 0 (wA B)) g a.2.2 [(0, .ref (ad B x0)), (1, .int x1), (2, .ref (ad B x2)), (3, .int x3), (4, .int x4), (5, .int a.1), (6, .int a.2.1)] 6 []) {y5 : Int32} {y6 : Int32} {d : Ds} (hf : fX5_renewLatest_B6 N g x0 x1 x2 x3 x4 K6 y5 y6 d = some ((), dz)) : WB p l e rmX5_renewLatest s m args below meth c 7 D cy B 0 0 (MQ below (QV D cy B g dz) args s 0 0 (wA B)) g d [(0, .ref (ad B x0)), (1, .int x1), (2, .ref (ad B x2)), (3, .int x3), (4, .int x4), (5, .int y5), (6, .int y6)] 6 [] := by
  unfold fX5_renewLatest_B6 at hf
  refine b_iload C dX5_renewLatest_6 6 rfl ?_
  refine b_aload_n C dX5_renewLatest_8 2 rfl rfl ?_
  obtain ⟨h1, hf⟩ := gd_s hf
  refine b_gI C dX5_renewLatest_9 fl_X5_52 h1 ?_
  refine b_icmp_ge C (tgt := 49) dX5_renewLatest_12 (by decide) (fun c2 => ?_) (fun c2 => ?_)
  · have hf := it_s c2 hf
    refine b_sub [(0, .ref (ad B x0)), (1, .int x1), (2, .ref (ad B x2)), (3, .int x3), (4, .int x4), (5, .int y5)] [0, 1, 2, 3, 4, 5] rfl ?_
    exact tX5_renewLatest_49 C hr hlocks hf
  · have hf := if_s c2 hf
    refine b_iload_n C dX5_renewLatest_15 3 rfl rfl ?_
    refine b_if_ne C (tgt := 49) dX5_renewLatest_16 (by decide) (fun c17 => ?_) (fun c17 => ?_)
    · have hf := if_s c17 hf
      refine b_sub [(0, .ref (ad B x0)), (1, .int x1), (2, .ref (ad B x2)), (3, .int x3), (4, .int x4), (5, .int y5)] [0, 1, 2, 3, 4, 5] rfl ?_
      exact tX5_renewLatest_49 C hr hlocks hf
    · have hf := it_s c17 hf
      refine b_aload_n C dX5_renewLatest_19 0 rfl rfl ?_
      refine b_iload_n C dX5_renewLatest_20 1 rfl rfl ?_
      refine b_aload_n C dX5_renewLatest_21 2 rfl rfl ?_
      obtain ⟨r18, er18, hf⟩ := ob_s hf
      refine b_gR C dX5_renewLatest_22 fl_X5_69 h1 er18 ?_
      refine b_iload C dX5_renewLatest_25 6 rfl ?_
      obtain ⟨h19, hf⟩ := gd_s hf
      obtain ⟨h20, hf⟩ := gd_s hf
      refine b_iald C h19 h20 dX5_renewLatest_27 ?_
      obtain ⟨h21, hf⟩ := gd_s hf
      obtain ⟨u24, d22, k23, hf⟩ := cb_s hf
      refine b_cVI C [] dX5_renewLatest_28 (kX5_hasCode l D cy B k23) lv_X5_74 ⟨rfl, rfl, Nat.le_of_ble_eq_true rfl, Nat.le_of_ble_eq_true rfl⟩ h21 (by decide) rfl (Nat.le_of_ble_eq_true rfl) ⟨Nat.zero_le _, Nat.zero_le _⟩ rfl ?_
      refine b_if_ne C (tgt := 43) dX5_renewLatest_31 (by decide) (fun c25 => ?_) (fun c25 => ?_)
      · have hf := if_s c25 hf
        refine b_sub [(0, .ref (ad B x0)), (1, .int x1), (2, .ref (ad B x2)), (3, .int x3), (4, .int x4), (5, .int y5), (6, .int y6)] [0, 1, 2, 3, 4, 5, 6] rfl ?_
        exact tX5_renewLatest_43 C hr hlocks hK6 hf
      · have hf := it_s c25 hf
        refine b_aload_n C dX5_renewLatest_34 2 rfl rfl ?_
        refine b_gR C dX5_renewLatest_35 fl_X5_69 h1 er18 ?_
        refine b_iload C dX5_renewLatest_38 6 rfl ?_
        refine b_iald C h19 h20 dX5_renewLatest_40 ?_
        obtain ⟨u27, eu27, hf⟩ := bd_s hf
        refine b_topI eu27 ?_
        refine b_istore C dX5_renewLatest_41 [(5, .int u27), (0, .ref (ad B x0)), (1, .int x1), (2, .ref (ad B x2)), (3, .int x3), (4, .int x4), (6, .int y6)] (by decide) rfl ?_
        refine b_sub [(0, .ref (ad B x0)), (1, .int x1), (2, .ref (ad B x2)), (3, .int x3), (4, .int x4), (5, .int u27), (6, .int y6)] [1, 2, 3, 4, 5, 0, 6] rfl ?_
        exact tX5_renewLatest_43 C hr hlocks hK6 hf
def fX5_renewLatest_L6 (N : Nat) (g : Gs) (x0 : Nat) (x1 : Int32) (x2 : Nat) (x3 : Int32) (x4 : Int32) : Int32 × Int32 × Ds → Option (Unit × Ds) := lp (fun K6 a => fX5_renewLatest_B6 N g x0 x1 x2 x3 x4 K6 a.1 a.2.1 a.2.2) N
theorem tX5_renewLatest_L6 {p : Program} {l : Launch} {e : Env} {s : State} {m : MethodId} {args : Array Value} {below : List Frame} {meth : Method} {c : Code} {D : va_G} {cy : Nat → ClassId} {B : Bs} (C : Cx p s m args c cX5_renewLatest 7 RX5 D cy B) (hr : meth.sig.returnType = none) (hlocks : meth.locks = false) {N : Nat} {g : Gs} {x0 : Nat} {x1 : Int32} {x2 : Nat} {x3 : Int32} {x4 : Int32}  {dz : Ds} (a : Int32 × Int32 × Ds) (hf : fX5_renewLatest_L6 N g x0 x1 x2 x3 x4 a = some ((), dz)) : WB p l e rmX5_renewLatest s m args below meth c 7 D cy B 0 0 (MQ below (QV D cy B g dz) args s 0 0 (wA B)) g a.2.2 [(0, .ref (ad B x0)), (1, .int x1), (2, .ref (ad B x2)), (3, .int x3), (4, .int x4), (5, .int a.1), (6, .int a.2.1)] 6 [] :=
  lp_w (fun K6 hK6 a ha => tX5_renewLatest_6 C hr hlocks hK6 ha) N a hf
set_option maxRecDepth 100000 in
def fX5_renewLatest (N : Nat) (g : Gs) (x0 : Nat) (x1 : Int32) (x2 : Nat) (x3 : Int32) (x4 : Int32) (d : Ds) : Option (Unit × Ds) := fX5_renewLatest_L6 N g x0 x1 x2 x3 x4 ((-1), 0, d)
set_option maxHeartbeats 4000000 in
set_option maxRecDepth 100000 in
theorem tX5_renewLatest_E {p : Program} {l : Launch} {e : Env} {s : State} {m : MethodId} {args : Array Value} {below : List Frame} {meth : Method} {c : Code} {D : va_G} {cy : Nat → ClassId} {B : Bs} (C : Cx p s m args c cX5_renewLatest 7 RX5 D cy B) (hr : meth.sig.returnType = none) (hlocks : meth.locks = false) {N : Nat} {g : Gs} {x0 : Nat} {x1 : Int32} {x2 : Nat} {x3 : Int32} {x4 : Int32}  {dz : Ds} {d : Ds} (hf : fX5_renewLatest N g x0 x1 x2 x3 x4 d = some ((), dz)) : WB p l e rmX5_renewLatest s m args below meth c 7 D cy B 0 0 (MQ below (QV D cy B g dz) args s 0 0 (wA B)) g d [(0, .ref (ad B x0)), (1, .int x1), (2, .ref (ad B x2)), (3, .int x3), (4, .int x4)] 0 [] := by
  unfold fX5_renewLatest at hf
  refine b_iconst C (v := (-1)) dX5_renewLatest_0 (by decide) ?_
  refine b_istore C dX5_renewLatest_1 [(5, .int (-1)), (0, .ref (ad B x0)), (1, .int x1), (2, .ref (ad B x2)), (3, .int x3), (4, .int x4)] (by decide) rfl ?_
  refine b_iconst C (v := 0) dX5_renewLatest_3 (by decide) ?_
  refine b_istore C dX5_renewLatest_4 [(6, .int 0), (5, .int (-1)), (0, .ref (ad B x0)), (1, .int x1), (2, .ref (ad B x2)), (3, .int x3), (4, .int x4)] (by decide) rfl ?_
  refine b_sub [(0, .ref (ad B x0)), (1, .int x1), (2, .ref (ad B x2)), (3, .int x3), (4, .int x4), (5, .int (-1)), (6, .int 0)] [2, 3, 4, 5, 6, 1, 0] rfl ?_
  exact tX5_renewLatest_L6 C hr hlocks ((-1), 0, d) hf
theorem kX5_renewLatest (l : Launch) (D : va_G) (cy : Nat → ClassId) (B : Bs) {N : Nat} {g : Gs} {x0 : Nat} {x1 : Int32} {x2 : Nat} {x3 : Int32} {x4 : Int32}  {dz : Ds} {d : Ds} (hf : fX5_renewLatest N g x0 x1 x2 x3 x4 d = some ((), dz)) : Met l yX5_renewLatest (.code yX5_renewLatest cX5_renewLatest 7 none :: wl) rmX5_renewLatest (PC D cy B [.ref (ad B x0), .int x1, .ref (ad B x2), .int x3, .int x4] g d) (QV D cy B g dz) 0 0 (wA B) :=
  met_of (by decide +kernel) (Nat.le_of_ble_eq_true rfl) (fun p e s m args below meth c C hr hlocks _ => b_sub [(0, .ref (ad B x0)), (1, .int x1), (2, .ref (ad B x2)), (3, .int x3), (4, .int x4)] [0, 1, 2, 3, 4] rfl (tX5_renewLatest_E C hr hlocks hf))
/-! KeyMatrix$Reports.reportIfUnlike(LKeyMatrix$Doing;ZI)V -/
theorem yo_X5_rowOf : yX5_rowOf.cls ≠ "java/lang/invoke/MethodHandle" ∧ yX5_rowOf.cls ≠ "java/lang/invoke/VarHandle" ∧ (parseMethodDescriptor yX5_rowOf.desc).map (fun d => d.parameters.length) = some 1 := by decide +kernel
theorem co_X5_rowOf : Cond.code yX5_rowOf cX5_rowOf 2 (some .int) ∈ wl := mW (mT4 (List.mem_of_getElem? (i := 159) (by decide +kernel))) rfl
theorem in_X5_rowOf : Cond.initialized yX5_rowOf.cls ∈ wl := mW (mT1 (List.mem_of_getElem? (i := 11) (by decide +kernel))) rfl
theorem im_X5_rowOf : Cond.instanceMethod yX5_rowOf ∈ wl := mW (mT4 (List.mem_of_getElem? (i := 157) (by decide +kernel))) rfl
theorem se_X5_rowOf : Cond.selects yX5_rowOf.cls yX5_rowOf yX5_rowOf ∈ wl := mW (mT4 (List.mem_of_getElem? (i := 158) (by decide +kernel))) rfl
theorem lv_X5_55 : LV RX5 55 yX5_rowOf cX5_rowOf 2 (some .int) 1 5 := ⟨⟨(RX5, TX5, 9), rfl, rfl⟩, yo_X5_rowOf, mW (mT4 (List.mem_of_getElem? (i := 156) (by decide +kernel))) rfl, im_X5_rowOf, se_X5_rowOf, in_X5_rowOf, co_X5_rowOf⟩
theorem yo_X5_isAlike : yX5_isAlike.cls ≠ "java/lang/invoke/MethodHandle" ∧ yX5_isAlike.cls ≠ "java/lang/invoke/VarHandle" ∧ (parseMethodDescriptor yX5_isAlike.desc).map (fun d => d.parameters.length) = some 3 := by decide +kernel
theorem co_X5_isAlike : Cond.code yX5_isAlike cX5_isAlike 5 (some .boolean) ∈ wl := mW (mT4 (List.mem_of_getElem? (i := 163) (by decide +kernel))) rfl
theorem in_X5_isAlike : Cond.initialized yX5_isAlike.cls ∈ wl := mW (mT1 (List.mem_of_getElem? (i := 11) (by decide +kernel))) rfl
theorem im_X5_isAlike : Cond.instanceMethod yX5_isAlike ∈ wl := mW (mT4 (List.mem_of_getElem? (i := 162) (by decide +kernel))) rfl
theorem se_X5_isAlike : Cond.selects yX5_isAlike.cls yX5_isAlike yX5_isAlike ∈ wl := mW (mT0 (List.mem_of_getElem? (i := 26) (by decide +kernel))) rfl
theorem lv_X5_59 : LV RX5 59 yX5_isAlike cX5_isAlike 5 (some .boolean) 3 5 := ⟨⟨(RX5, TX5, 9), rfl, rfl⟩, yo_X5_isAlike, mW (mT4 (List.mem_of_getElem? (i := 160) (by decide +kernel))) rfl, im_X5_isAlike, se_X5_isAlike, in_X5_isAlike, co_X5_isAlike⟩
theorem yo_X5_renewLatest : yX5_renewLatest.cls ≠ "java/lang/invoke/MethodHandle" ∧ yX5_renewLatest.cls ≠ "java/lang/invoke/VarHandle" ∧ (parseMethodDescriptor yX5_renewLatest.desc).map (fun d => d.parameters.length) = some 4 := by decide +kernel
theorem co_X5_renewLatest : Cond.code yX5_renewLatest cX5_renewLatest 7 none ∈ wl := mW (mT4 (List.mem_of_getElem? (i := 171) (by decide +kernel))) rfl
theorem in_X5_renewLatest : Cond.initialized yX5_renewLatest.cls ∈ wl := mW (mT1 (List.mem_of_getElem? (i := 11) (by decide +kernel))) rfl
theorem im_X5_renewLatest : Cond.instanceMethod yX5_renewLatest ∈ wl := mW (mT4 (List.mem_of_getElem? (i := 170) (by decide +kernel))) rfl
theorem se_X5_renewLatest : Cond.selects yX5_renewLatest.cls yX5_renewLatest yX5_renewLatest ∈ wl := mW (mT0 (List.mem_of_getElem? (i := 27) (by decide +kernel))) rfl
theorem lv_X5_63 : LV RX5 63 yX5_renewLatest cX5_renewLatest 7 none 4 5 := ⟨⟨(RX5, TX5, 9), rfl, rfl⟩, yo_X5_renewLatest, mW (mT4 (List.mem_of_getElem? (i := 168) (by decide +kernel))) rfl, im_X5_renewLatest, se_X5_renewLatest, in_X5_renewLatest, co_X5_renewLatest⟩
theorem dX5_reportIfUnlike_0 : decode cX5_reportIfUnlike 0 = .ok (.iload_n 2, 1) := by decide +kernel
theorem dX5_reportIfUnlike_1 : decode cX5_reportIfUnlike 1 = .ok (.ifCond .eq 16, 3) := by decide +kernel
theorem dX5_reportIfUnlike_4 : decode cX5_reportIfUnlike 4 = .ok (.aload_n 1, 1) := by decide +kernel
theorem dX5_reportIfUnlike_5 : decode cX5_reportIfUnlike 5 = .ok (.getfield 52, 3) := by decide +kernel
theorem dX5_reportIfUnlike_8 : decode cX5_reportIfUnlike 8 = .ok (.bipush 6, 2) := by decide +kernel
theorem dX5_reportIfUnlike_10 : decode cX5_reportIfUnlike 10 = .ok (.if_icmp .le 7, 3) := by decide +kernel
theorem dX5_reportIfUnlike_13 : decode cX5_reportIfUnlike 13 = .ok (.iconst 1, 1) := by decide +kernel
theorem dX5_reportIfUnlike_14 : decode cX5_reportIfUnlike 14 = .ok (.goto 4, 3) := by decide +kernel
theorem dX5_reportIfUnlike_17 : decode cX5_reportIfUnlike 17 = .ok (.iconst 0, 1) := by decide +kernel
theorem dX5_reportIfUnlike_18 : decode cX5_reportIfUnlike 18 = .ok (.istore 4, 2) := by decide +kernel
theorem dX5_reportIfUnlike_20 : decode cX5_reportIfUnlike 20 = .ok (.aload_n 0, 1) := by decide +kernel
theorem dX5_reportIfUnlike_21 : decode cX5_reportIfUnlike 21 = .ok (.iconst 0, 1) := by decide +kernel
theorem dX5_reportIfUnlike_22 : decode cX5_reportIfUnlike 22 = .ok (.invokevirtual 55, 3) := by decide +kernel
theorem dX5_reportIfUnlike_25 : decode cX5_reportIfUnlike 25 = .ok (.istore 5, 2) := by decide +kernel
theorem dX5_reportIfUnlike_27 : decode cX5_reportIfUnlike 27 = .ok (.aload_n 0, 1) := by decide +kernel
theorem dX5_reportIfUnlike_28 : decode cX5_reportIfUnlike 28 = .ok (.iload 5, 2) := by decide +kernel
theorem dX5_reportIfUnlike_30 : decode cX5_reportIfUnlike 30 = .ok (.aload_n 1, 1) := by decide +kernel
theorem dX5_reportIfUnlike_31 : decode cX5_reportIfUnlike 31 = .ok (.iload 4, 2) := by decide +kernel
theorem dX5_reportIfUnlike_33 : decode cX5_reportIfUnlike 33 = .ok (.invokevirtual 59, 3) := by decide +kernel
theorem dX5_reportIfUnlike_36 : decode cX5_reportIfUnlike 36 = .ok (.ifCond .eq 4, 3) := by decide +kernel
theorem dX5_reportIfUnlike_39 : decode cX5_reportIfUnlike 39 = .ok (.return_, 1) := by decide +kernel
theorem dX5_reportIfUnlike_40 : decode cX5_reportIfUnlike 40 = .ok (.aload_n 0, 1) := by decide +kernel
theorem dX5_reportIfUnlike_41 : decode cX5_reportIfUnlike 41 = .ok (.iload 5, 2) := by decide +kernel
theorem dX5_reportIfUnlike_43 : decode cX5_reportIfUnlike 43 = .ok (.aload_n 1, 1) := by decide +kernel
theorem dX5_reportIfUnlike_44 : decode cX5_reportIfUnlike 44 = .ok (.iload 4, 2) := by decide +kernel
theorem dX5_reportIfUnlike_46 : decode cX5_reportIfUnlike 46 = .ok (.iload_n 3, 1) := by decide +kernel
theorem dX5_reportIfUnlike_47 : decode cX5_reportIfUnlike 47 = .ok (.invokevirtual 63, 3) := by decide +kernel
theorem dX5_reportIfUnlike_50 : decode cX5_reportIfUnlike 50 = .ok (.aload_n 0, 1) := by decide +kernel
theorem dX5_reportIfUnlike_51 : decode cX5_reportIfUnlike 51 = .ok (.getfield 26, 3) := by decide +kernel
theorem dX5_reportIfUnlike_54 : decode cX5_reportIfUnlike 54 = .ok (.bipush 40, 2) := by decide +kernel
theorem dX5_reportIfUnlike_56 : decode cX5_reportIfUnlike 56 = .ok (.irem, 1) := by decide +kernel
theorem dX5_reportIfUnlike_57 : decode cX5_reportIfUnlike 57 = .ok (.istore 6, 2) := by decide +kernel
theorem dX5_reportIfUnlike_59 : decode cX5_reportIfUnlike 59 = .ok (.aload_n 0, 1) := by decide +kernel
theorem dX5_reportIfUnlike_60 : decode cX5_reportIfUnlike 60 = .ok (.getfield 11, 3) := by decide +kernel
theorem dX5_reportIfUnlike_63 : decode cX5_reportIfUnlike 63 = .ok (.iload 6, 2) := by decide +kernel
theorem dX5_reportIfUnlike_65 : decode cX5_reportIfUnlike 65 = .ok (.iload_n 3, 1) := by decide +kernel
theorem dX5_reportIfUnlike_66 : decode cX5_reportIfUnlike 66 = .ok (.iastore, 1) := by decide +kernel
theorem dX5_reportIfUnlike_67 : decode cX5_reportIfUnlike 67 = .ok (.aload_n 0, 1) := by decide +kernel
theorem dX5_reportIfUnlike_68 : decode cX5_reportIfUnlike 68 = .ok (.getfield 15, 3) := by decide +kernel
theorem dX5_reportIfUnlike_71 : decode cX5_reportIfUnlike 71 = .ok (.iload 6, 2) := by decide +kernel
theorem dX5_reportIfUnlike_73 : decode cX5_reportIfUnlike 73 = .ok (.aload_n 1, 1) := by decide +kernel
theorem dX5_reportIfUnlike_74 : decode cX5_reportIfUnlike 74 = .ok (.getfield 67, 3) := by decide +kernel
theorem dX5_reportIfUnlike_77 : decode cX5_reportIfUnlike 77 = .ok (.iastore, 1) := by decide +kernel
theorem dX5_reportIfUnlike_78 : decode cX5_reportIfUnlike 78 = .ok (.aload_n 0, 1) := by decide +kernel
theorem dX5_reportIfUnlike_79 : decode cX5_reportIfUnlike 79 = .ok (.getfield 18, 3) := by decide +kernel
theorem dX5_reportIfUnlike_82 : decode cX5_reportIfUnlike 82 = .ok (.iload 6, 2) := by decide +kernel
theorem dX5_reportIfUnlike_84 : decode cX5_reportIfUnlike 84 = .ok (.iload 4, 2) := by decide +kernel
theorem dX5_reportIfUnlike_86 : decode cX5_reportIfUnlike 86 = .ok (.ifCond .eq 8, 3) := by decide +kernel
theorem dX5_reportIfUnlike_89 : decode cX5_reportIfUnlike 89 = .ok (.bipush (-2), 2) := by decide +kernel
theorem dX5_reportIfUnlike_91 : decode cX5_reportIfUnlike 91 = .ok (.goto 7, 3) := by decide +kernel
theorem dX5_reportIfUnlike_94 : decode cX5_reportIfUnlike 94 = .ok (.aload_n 1, 1) := by decide +kernel
theorem dX5_reportIfUnlike_95 : decode cX5_reportIfUnlike 95 = .ok (.getfield 52, 3) := by decide +kernel
theorem dX5_reportIfUnlike_98 : decode cX5_reportIfUnlike 98 = .ok (.iastore, 1) := by decide +kernel
theorem dX5_reportIfUnlike_99 : decode cX5_reportIfUnlike 99 = .ok (.aload_n 1, 1) := by decide +kernel
theorem dX5_reportIfUnlike_100 : decode cX5_reportIfUnlike 100 = .ok (.getfield 69, 3) := by decide +kernel
theorem dX5_reportIfUnlike_103 : decode cX5_reportIfUnlike 103 = .ok (.iconst 0, 1) := by decide +kernel
theorem dX5_reportIfUnlike_104 : decode cX5_reportIfUnlike 104 = .ok (.aload_n 0, 1) := by decide +kernel
theorem dX5_reportIfUnlike_105 : decode cX5_reportIfUnlike 105 = .ok (.getfield 23, 3) := by decide +kernel
theorem dX5_reportIfUnlike_108 : decode cX5_reportIfUnlike 108 = .ok (.iload 6, 2) := by decide +kernel
theorem dX5_reportIfUnlike_110 : decode cX5_reportIfUnlike 110 = .ok (.bipush 25, 2) := by decide +kernel
theorem dX5_reportIfUnlike_112 : decode cX5_reportIfUnlike 112 = .ok (.imul, 1) := by decide +kernel
theorem dX5_reportIfUnlike_113 : decode cX5_reportIfUnlike 113 = .ok (.aload_n 1, 1) := by decide +kernel
theorem dX5_reportIfUnlike_114 : decode cX5_reportIfUnlike 114 = .ok (.getfield 52, 3) := by decide +kernel
theorem dX5_reportIfUnlike_117 : decode cX5_reportIfUnlike 117 = .ok (.invokestatic 37, 3) := by decide +kernel
theorem dX5_reportIfUnlike_120 : decode cX5_reportIfUnlike 120 = .ok (.aload_n 0, 1) := by decide +kernel
theorem dX5_reportIfUnlike_121 : decode cX5_reportIfUnlike 121 = .ok (.dup, 1) := by decide +kernel
theorem dX5_reportIfUnlike_122 : decode cX5_reportIfUnlike 122 = .ok (.getfield 26, 3) := by decide +kernel
theorem dX5_reportIfUnlike_125 : decode cX5_reportIfUnlike 125 = .ok (.iconst 1, 1) := by decide +kernel
theorem dX5_reportIfUnlike_126 : decode cX5_reportIfUnlike 126 = .ok (.iadd, 1) := by decide +kernel
theorem dX5_reportIfUnlike_127 : decode cX5_reportIfUnlike 127 = .ok (.putfield 26, 3) := by decide +kernel
theorem dX5_reportIfUnlike_130 : decode cX5_reportIfUnlike 130 = .ok (.return_, 1) := by decide +kernel
def rmX5_reportIfUnlike : Room := { frames := 2, cells := 0, slots := 0, locals := 49 }
set_option maxRecDepth 100000 in
def fX5_reportIfUnlike_J98 (N : Nat) (g : Gs) (x0 : Nat) (x1 : Nat) (x2 : Int32) (x3 : Int32) (y6 : Int32) (z0 : Int32) (z1 : Int32) (z2 : Nat) (d : Ds) : Option (Unit × Ds) := gd (chk g z2 102) <| gd (¬ (z1 < 0 ∨ gL g z2 ≤ z1.toNatClampNeg)) <| bd (sI d z2 z1.toNatClampNeg z0) fun d27 => (gd (chk g x1 3) <| ob (gR g x1 7) fun r29 => (gd (chk g x0 5) <| ob (gR g x0 3) fun r31 => (gd (chk g r29 102) <| gd (chk g r31 102) <| gd (¬ (0 : Int32) < 0) <| gd (¬ (y6 * 25) < 0) <| gd (¬ (dI d27 x1 8) < 0) <| gd ((0 : Int32).toNatClampNeg + (dI d27 x1 8).toNatClampNeg ≤ gL g r29) <| gd ((y6 * 25).toNatClampNeg + (dI d27 x1 8).toNatClampNeg ≤ gL g r31) <| bd (cI d27 r29 r31 (0 : Int32).toNatClampNeg (y6 * 25).toNatClampNeg (dI d27 x1 8).toNatClampNeg) fun d39 => (bd (sI d39 x0 4 ((dI d39 x0 4) + 1)) fun d40 => (some ((), d40))))))
set_option maxHeartbeats 4000000 in
set_option maxRecDepth 100000 in
theorem tX5_reportIfUnlike_98 {p : Program} {l : Launch} {e : Env} {s : State} {m : MethodId} {args : Array Value} {below : List Frame} {meth : Method} {c : Code} {D : va_G} {cy : Nat → ClassId} {B : Bs} (C : Cx p s m args c cX5_reportIfUnlike 7 RX5 D cy B) (hr : meth.sig.returnType = none) (hlocks : meth.locks = false) {N : Nat} {g : Gs} {x0 : Nat} {x1 : Nat} {x2 : Int32} {x3 : Int32}  {dz : Ds} {y6 : Int32} {z0 : Int32} {z1 : Int32} {z2 : Nat} {d : Ds} (hf : fX5_reportIfUnlike_J98 N g x0 x1 x2 x3 y6 z0 z1 z2 d = some ((), dz)) : WB p l e rmX5_reportIfUnlike s m args below meth c 7 D cy B 0 0 (MQ below (QV D cy B g dz) args s 0 0 (wA B)) g d [(0, .ref (ad B x0)), (1, .ref (ad B x1)), (2, .int x2), (3, .int x3), (6, .int y6)] 98 [.int z0, .int z1, .ref (ad B z2)] := by
  unfold fX5_reportIfUnlike_J98 at hf
  obtain ⟨h25, hf⟩ := gd_s hf
  obtain ⟨h26, hf⟩ := gd_s hf
  obtain ⟨d27, ed27, hf⟩ := bd_s hf
  refine b_iast C h25 h26 ed27 dX5_reportIfUnlike_98 ?_
  refine b_aload_n C dX5_reportIfUnlike_99 1 rfl rfl ?_
  obtain ⟨h28, hf⟩ := gd_s hf
  obtain ⟨r29, er29, hf⟩ := ob_s hf
  refine b_gR C dX5_reportIfUnlike_100 fl_X5_69 h28 er29 ?_
  refine b_iconst C (v := 0) dX5_reportIfUnlike_103 (by decide) ?_
  refine b_aload_n C dX5_reportIfUnlike_104 0 rfl rfl ?_
  obtain ⟨h30, hf⟩ := gd_s hf
  obtain ⟨r31, er31, hf⟩ := ob_s hf
  refine b_gR C dX5_reportIfUnlike_105 fl_X5_23 h30 er31 ?_
  refine b_iload C dX5_reportIfUnlike_108 4 rfl ?_
  refine b_bipush C (v := 25) dX5_reportIfUnlike_110 (by decide) ?_
  refine b_imul C dX5_reportIfUnlike_112 ?_
  refine b_aload_n C dX5_reportIfUnlike_113 1 rfl rfl ?_
  refine b_gI C dX5_reportIfUnlike_114 fl_X5_52 h28 ?_
  obtain ⟨h32, hf⟩ := gd_s hf
  obtain ⟨h33, hf⟩ := gd_s hf
  obtain ⟨h34, hf⟩ := gd_s hf
  obtain ⟨h35, hf⟩ := gd_s hf
  obtain ⟨h36, hf⟩ := gd_s hf
  obtain ⟨h37, hf⟩ := gd_s hf
  obtain ⟨h38, hf⟩ := gd_s hf
  obtain ⟨d39, ed39, hf⟩ := bd_s hf
  refine b_copyI C ac_X5_37 ac_n ac_s ac_i h32 h33 h34 h35 h36 h37 h38 ed39 (by decide) (by decide +kernel) dX5_reportIfUnlike_117 ?_
  refine b_aload_n C dX5_reportIfUnlike_120 0 rfl rfl ?_
  refine b_dup C dX5_reportIfUnlike_121 rfl ?_
  refine b_gI C dX5_reportIfUnlike_122 fl_X5_26 h30 ?_
  refine b_iconst C (v := 1) dX5_reportIfUnlike_125 (by decide) ?_
  refine b_iadd C dX5_reportIfUnlike_126 ?_
  obtain ⟨d40, ed40, hf⟩ := bd_s hf
  refine b_pI C dX5_reportIfUnlike_127 fl_X5_26 fp5_4 h30 ed40 ?_
  exact b_vret C hr hlocks hf dX5_reportIfUnlike_130
set_option maxRecDepth 100000 in
def fX5_reportIfUnlike_J18 (N : Nat) (g : Gs) (x0 : Nat) (x1 : Nat) (x2 : Int32) (x3 : Int32) (z0 : Int32) (d : Ds) : Option (Unit × Ds) := gd (chk g x0 5) <| cb (fX5_rowOf N g x0 0 d) fun u5 d3 => (cb (fX5_isAlike N g x0 u5 x1 z0 d3) fun u8 d6 => (if u8 = 0 then (cv (fX5_renewLatest N g x0 u5 x1 z0 x3 d6) fun d10 => (gd (¬ (40 : Int32) = 0) <| bd (((dI d10 x0 4) - (dI d10 x0 4) / 40 * 40)) fun u13 => (ob (gR g x0 0) fun r14 => (gd (chk g r14 102) <| gd (¬ (u13 < 0 ∨ gL g r14 ≤ u13.toNatClampNeg)) <| bd (sI d10 r14 u13.toNatClampNeg x3) fun d17 => (ob (gR g x0 1) fun r18 => (gd (chk g x1 3) <| gd (chk g r18 102) <| gd (¬ (u13 < 0 ∨ gL g r18 ≤ u13.toNatClampNeg)) <| bd (sI d17 r18 u13.toNatClampNeg (dI d17 x1 6)) fun d22 => (ob (gR g x0 2) fun r23 => (if z0 = 0 then (fX5_reportIfUnlike_J98 N g x0 x1 x2 x3 u13 (dI d22 x1 8) u13 r23 d22) else (fX5_reportIfUnlike_J98 N g x0 x1 x2 x3 u13 (-2) u13 r23 d22))))))))) else (some ((), d6))))
set_option maxHeartbeats 4000000 in
set_option maxRecDepth 100000 in
theorem tX5_reportIfUnlike_18 {p : Program} {l : Launch} {e : Env} {s : State} {m : MethodId} {args : Array Value} {below : List Frame} {meth : Method} {c : Code} {D : va_G} {cy : Nat → ClassId} {B : Bs} (C : Cx p s m args c cX5_reportIfUnlike 7 RX5 D cy B) (hr : meth.sig.returnType = none) (hlocks : meth.locks = false) {N : Nat} {g : Gs} {x0 : Nat} {x1 : Nat} {x2 : Int32} {x3 : Int32}  {dz : Ds} {z0 : Int32} {d : Ds} (hf : fX5_reportIfUnlike_J18 N g x0 x1 x2 x3 z0 d = some ((), dz)) : WB p l e rmX5_reportIfUnlike s m args below meth c 7 D cy B 0 0 (MQ below (QV D cy B g dz) args s 0 0 (wA B)) g d [(0, .ref (ad B x0)), (1, .ref (ad B x1)), (2, .int x2), (3, .int x3)] 18 [.int z0] := by
  unfold fX5_reportIfUnlike_J18 at hf
  refine b_istore C dX5_reportIfUnlike_18 [(4, .int z0), (0, .ref (ad B x0)), (1, .ref (ad B x1)), (2, .int x2), (3, .int x3)] (by decide) rfl ?_
  refine b_aload_n C dX5_reportIfUnlike_20 1 rfl rfl ?_
  refine b_iconst C (v := 0) dX5_reportIfUnlike_21 (by decide) ?_
  obtain ⟨h2, hf⟩ := gd_s hf
  obtain ⟨u5, d3, k4, hf⟩ := cb_s hf
  refine b_cVI C [] dX5_reportIfUnlike_22 (kX5_rowOf l D cy B k4) lv_X5_55 ⟨rfl, rfl, Nat.le_of_ble_eq_true rfl, Nat.le_of_ble_eq_true rfl⟩ h2 (by decide) rfl (Nat.le_of_ble_eq_true rfl) ⟨Nat.zero_le _, Nat.zero_le _⟩ rfl ?_
  refine b_istore C dX5_reportIfUnlike_25 [(5, .int u5), (4, .int z0), (0, .ref (ad B x0)), (1, .ref (ad B x1)), (2, .int x2), (3, .int x3)] (by decide) rfl ?_
  refine b_aload_n C dX5_reportIfUnlike_27 2 rfl rfl ?_
  refine b_iload C dX5_reportIfUnlike_28 0 rfl ?_
  refine b_aload_n C dX5_reportIfUnlike_30 3 rfl rfl ?_
  refine b_iload C dX5_reportIfUnlike_31 1 rfl ?_
  obtain ⟨u8, d6, k7, hf⟩ := cb_s hf
  refine b_cVI C [] dX5_reportIfUnlike_33 (kX5_isAlike l D cy B k7) lv_X5_59 ⟨rfl, rfl, Nat.le_of_ble_eq_true rfl, Nat.le_of_ble_eq_true rfl⟩ h2 (by decide) rfl (Nat.le_of_ble_eq_true rfl) ⟨Nat.zero_le _, Nat.zero_le _⟩ rfl ?_
  refine b_if_eq C (tgt := 40) dX5_reportIfUnlike_36 (by decide) (fun c9 => ?_) (fun c9 => ?_)
  · have hf := it_s c9 hf
    refine b_aload_n C dX5_reportIfUnlike_40 2 rfl rfl ?_
    refine b_iload C dX5_reportIfUnlike_41 0 rfl ?_
    refine b_aload_n C dX5_reportIfUnlike_43 3 rfl rfl ?_
    refine b_iload C dX5_reportIfUnlike_44 1 rfl ?_
    refine b_iload_n C dX5_reportIfUnlike_46 5 rfl rfl ?_
    obtain ⟨d10, k11, hf⟩ := cv_s hf
    refine b_cVN C [] dX5_reportIfUnlike_47 (kX5_renewLatest l D cy B k11) lv_X5_63 ⟨rfl, rfl, Nat.le_of_ble_eq_true rfl, Nat.le_of_ble_eq_true rfl⟩ h2 (by decide) rfl (Nat.le_of_ble_eq_true rfl) ⟨Nat.zero_le _, Nat.zero_le _⟩ rfl ?_
    refine b_aload_n C dX5_reportIfUnlike_50 2 rfl rfl ?_
    refine b_gI C dX5_reportIfUnlike_51 fl_X5_26 h2 ?_
    refine b_bipush C (v := 40) dX5_reportIfUnlike_54 (by decide) ?_
    obtain ⟨h12, hf⟩ := gd_s hf
    refine b_irem C dX5_reportIfUnlike_56 h12 ?_
    obtain ⟨u13, eu13, hf⟩ := bd_s hf
    refine b_topI eu13 ?_
    refine b_istore C dX5_reportIfUnlike_57 [(6, .int u13), (5, .int u5), (4, .int z0), (0, .ref (ad B x0)), (1, .ref (ad B x1)), (2, .int x2), (3, .int x3)] (by decide) rfl ?_
    refine b_aload_n C dX5_reportIfUnlike_59 3 rfl rfl ?_
    obtain ⟨r14, er14, hf⟩ := ob_s hf
    refine b_gR C dX5_reportIfUnlike_60 fl_X5_11 h2 er14 ?_
    refine b_iload C dX5_reportIfUnlike_63 0 rfl ?_
    refine b_iload_n C dX5_reportIfUnlike_65 6 rfl rfl ?_
    obtain ⟨h15, hf⟩ := gd_s hf
    obtain ⟨h16, hf⟩ := gd_s hf
    obtain ⟨d17, ed17, hf⟩ := bd_s hf
    refine b_iast C h15 h16 ed17 dX5_reportIfUnlike_66 ?_
    refine b_aload_n C dX5_reportIfUnlike_67 3 rfl rfl ?_
    obtain ⟨r18, er18, hf⟩ := ob_s hf
    refine b_gR C dX5_reportIfUnlike_68 fl_X5_15 h2 er18 ?_
    refine b_iload C dX5_reportIfUnlike_71 0 rfl ?_
    refine b_aload_n C dX5_reportIfUnlike_73 4 rfl rfl ?_
    obtain ⟨h19, hf⟩ := gd_s hf
    refine b_gI C dX5_reportIfUnlike_74 fl_X5_67 h19 ?_
    obtain ⟨h20, hf⟩ := gd_s hf
    obtain ⟨h21, hf⟩ := gd_s hf
    obtain ⟨d22, ed22, hf⟩ := bd_s hf
    refine b_iast C h20 h21 ed22 dX5_reportIfUnlike_77 ?_
    refine b_aload_n C dX5_reportIfUnlike_78 3 rfl rfl ?_
    obtain ⟨r23, er23, hf⟩ := ob_s hf
    refine b_gR C dX5_reportIfUnlike_79 fl_X5_18 h2 er23 ?_
    refine b_iload C dX5_reportIfUnlike_82 0 rfl ?_
    refine b_iload C dX5_reportIfUnlike_84 2 rfl ?_
    refine b_if_eq C (tgt := 94) dX5_reportIfUnlike_86 (by decide) (fun c24 => ?_) (fun c24 => ?_)
    · have hf := it_s c24 hf
      refine b_aload_n C dX5_reportIfUnlike_94 4 rfl rfl ?_
      refine b_gI C dX5_reportIfUnlike_95 fl_X5_52 h19 ?_
      refine b_sub [(0, .ref (ad B x0)), (1, .ref (ad B x1)), (2, .int x2), (3, .int x3), (6, .int u13)] [3, 4, 5, 6, 0] rfl ?_
      exact tX5_reportIfUnlike_98 C hr hlocks hf
    · have hf := if_s c24 hf
      refine b_bipush C (v := (-2)) dX5_reportIfUnlike_89 (by decide) ?_
      refine b_goto C (tgt := 98) dX5_reportIfUnlike_91 (by decide) ?_
      refine b_sub [(0, .ref (ad B x0)), (1, .ref (ad B x1)), (2, .int x2), (3, .int x3), (6, .int u13)] [3, 4, 5, 6, 0] rfl ?_
      exact tX5_reportIfUnlike_98 C hr hlocks hf
  · have hf := if_s c9 hf
    exact b_vret C hr hlocks hf dX5_reportIfUnlike_39
set_option maxRecDepth 100000 in
def fX5_reportIfUnlike_J17 (N : Nat) (g : Gs) (x0 : Nat) (x1 : Nat) (x2 : Int32) (x3 : Int32) (d : Ds) : Option (Unit × Ds) := fX5_reportIfUnlike_J18 N g x0 x1 x2 x3 0 d
set_option maxHeartbeats 4000000 in
set_option maxRecDepth 100000 in
theorem tX5_reportIfUnlike_17 {p : Program} {l : Launch} {e : Env} {s : State} {m : MethodId} {args : Array Value} {below : List Frame} {meth : Method} {c : Code} {D : va_G} {cy : Nat → ClassId} {B : Bs} (C : Cx p s m args c cX5_reportIfUnlike 7 RX5 D cy B) (hr : meth.sig.returnType = none) (hlocks : meth.locks = false) {N : Nat} {g : Gs} {x0 : Nat} {x1 : Nat} {x2 : Int32} {x3 : Int32}  {dz : Ds} {d : Ds} (hf : fX5_reportIfUnlike_J17 N g x0 x1 x2 x3 d = some ((), dz)) : WB p l e rmX5_reportIfUnlike s m args below meth c 7 D cy B 0 0 (MQ below (QV D cy B g dz) args s 0 0 (wA B)) g d [(0, .ref (ad B x0)), (1, .ref (ad B x1)), (2, .int x2), (3, .int x3)] 17 [] := by
  unfold fX5_reportIfUnlike_J17 at hf
  refine b_iconst C (v := 0) dX5_reportIfUnlike_17 (by decide) ?_
  refine b_sub [(0, .ref (ad B x0)), (1, .ref (ad B x1)), (2, .int x2), (3, .int x3)] [0, 1, 2, 3] rfl ?_
  exact tX5_reportIfUnlike_18 C hr hlocks hf
set_option maxRecDepth 100000 in
def fX5_reportIfUnlike (N : Nat) (g : Gs) (x0 : Nat) (x1 : Nat) (x2 : Int32) (x3 : Int32) (d : Ds) : Option (Unit × Ds) := if x2 = 0 then (fX5_reportIfUnlike_J17 N g x0 x1 x2 x3 d) else (gd (chk g x1 3) <| if (dI d x1 8) ≤ (6 : Int32) then (fX5_reportIfUnlike_J17 N g x0 x1 x2 x3 d) else (fX5_reportIfUnlike_J18 N g x0 x1 x2 x3 1 d))
set_option maxHeartbeats 4000000 in
set_option maxRecDepth 100000 in
theorem tX5_reportIfUnlike_E {p : Program} {l : Launch} {e : Env} {s : State} {m : MethodId} {args : Array Value} {below : List Frame} {meth : Method} {c : Code} {D : va_G} {cy : Nat → ClassId} {B : Bs} (C : Cx p s m args c cX5_reportIfUnlike 7 RX5 D cy B) (hr : meth.sig.returnType = none) (hlocks : meth.locks = false) {N : Nat} {g : Gs} {x0 : Nat} {x1 : Nat} {x2 : Int32} {x3 : Int32}  {dz : Ds} {d : Ds} (hf : fX5_reportIfUnlike N g x0 x1 x2 x3 d = some ((), dz)) : WB p l e rmX5_reportIfUnlike s m args below meth c 7 D cy B 0 0 (MQ below (QV D cy B g dz) args s 0 0 (wA B)) g d [(0, .ref (ad B x0)), (1, .ref (ad B x1)), (2, .int x2), (3, .int x3)] 0 [] := by
  unfold fX5_reportIfUnlike at hf
  refine b_iload_n C dX5_reportIfUnlike_0 2 rfl rfl ?_
  refine b_if_eq C (tgt := 17) dX5_reportIfUnlike_1 (by decide) (fun c1 => ?_) (fun c1 => ?_)
  · have hf := it_s c1 hf
    refine b_sub [(0, .ref (ad B x0)), (1, .ref (ad B x1)), (2, .int x2), (3, .int x3)] [0, 1, 2, 3] rfl ?_
    exact tX5_reportIfUnlike_17 C hr hlocks hf
  · have hf := if_s c1 hf
    refine b_aload_n C dX5_reportIfUnlike_4 1 rfl rfl ?_
    obtain ⟨h41, hf⟩ := gd_s hf
    refine b_gI C dX5_reportIfUnlike_5 fl_X5_52 h41 ?_
    refine b_bipush C (v := 6) dX5_reportIfUnlike_8 (by decide) ?_
    refine b_icmp_le C (tgt := 17) dX5_reportIfUnlike_10 (by decide) (fun c42 => ?_) (fun c42 => ?_)
    · have hf := it_s c42 hf
      refine b_sub [(0, .ref (ad B x0)), (1, .ref (ad B x1)), (2, .int x2), (3, .int x3)] [0, 1, 2, 3] rfl ?_
      exact tX5_reportIfUnlike_17 C hr hlocks hf
    · have hf := if_s c42 hf
      refine b_iconst C (v := 1) dX5_reportIfUnlike_13 (by decide) ?_
      refine b_goto C (tgt := 18) dX5_reportIfUnlike_14 (by decide) ?_
      refine b_sub [(0, .ref (ad B x0)), (1, .ref (ad B x1)), (2, .int x2), (3, .int x3)] [0, 1, 2, 3] rfl ?_
      exact tX5_reportIfUnlike_18 C hr hlocks hf
theorem kX5_reportIfUnlike (l : Launch) (D : va_G) (cy : Nat → ClassId) (B : Bs) {N : Nat} {g : Gs} {x0 : Nat} {x1 : Nat} {x2 : Int32} {x3 : Int32}  {dz : Ds} {d : Ds} (hf : fX5_reportIfUnlike N g x0 x1 x2 x3 d = some ((), dz)) : Met l yX5_reportIfUnlike (.code yX5_reportIfUnlike cX5_reportIfUnlike 7 none :: wl) rmX5_reportIfUnlike (PC D cy B [.ref (ad B x0), .ref (ad B x1), .int x2, .int x3] g d) (QV D cy B g dz) 0 0 (wA B) :=
  met_of (by decide +kernel) (Nat.le_of_ble_eq_true rfl) (fun p e s m args below meth c C hr hlocks _ => b_sub [(0, .ref (ad B x0)), (1, .ref (ad B x1)), (2, .int x2), (3, .int x3)] [0, 1, 2, 3] rfl (tX5_reportIfUnlike_E C hr hlocks hf))
/-! KeyMatrix$Course.send(I)V -/
theorem yo_X3_gather : yX3_gather.cls ≠ "java/lang/invoke/MethodHandle" ∧ yX3_gather.cls ≠ "java/lang/invoke/VarHandle" ∧ (parseMethodDescriptor yX3_gather.desc).map (fun d => d.parameters.length) = some 1 := by decide +kernel
theorem co_X3_gather : Cond.code yX3_gather cX3_gather 4 none ∈ wl := mW (mT4 (List.mem_of_getElem? (i := 147) (by decide +kernel))) rfl
theorem in_X3_gather : Cond.initialized yX3_gather.cls ∈ wl := mW (mT1 (List.mem_of_getElem? (i := 10) (by decide +kernel))) rfl
theorem im_X3_gather : Cond.instanceMethod yX3_gather ∈ wl := mW (mT4 (List.mem_of_getElem? (i := 145) (by decide +kernel))) rfl
theorem se_X3_gather : Cond.selects yX3_gather.cls yX3_gather yX3_gather ∈ wl := mW (mT4 (List.mem_of_getElem? (i := 146) (by decide +kernel))) rfl
theorem lv_X1_207 : LV RX1 207 yX3_gather cX3_gather 4 none 1 3 := ⟨⟨(RX3, TX3, 9), rfl, rfl⟩, yo_X3_gather, mW (mT4 (List.mem_of_getElem? (i := 144) (by decide +kernel))) rfl, im_X3_gather, se_X3_gather, in_X3_gather, co_X3_gather⟩
theorem fl_X1_210 : FLI RX1 210 0 3 := ⟨⟨RX0, TX0, 19, rfl, by decide, inl0, Or.inr (mT1 (List.mem_of_getElem? (i := 122) (by decide +kernel)))⟩, by decide, by decide +kernel⟩
theorem yo_X5_reportIfUnlike : yX5_reportIfUnlike.cls ≠ "java/lang/invoke/MethodHandle" ∧ yX5_reportIfUnlike.cls ≠ "java/lang/invoke/VarHandle" ∧ (parseMethodDescriptor yX5_reportIfUnlike.desc).map (fun d => d.parameters.length) = some 3 := by decide +kernel
theorem co_X5_reportIfUnlike : Cond.code yX5_reportIfUnlike cX5_reportIfUnlike 7 none ∈ wl := mW (mT4 (List.mem_of_getElem? (i := 155) (by decide +kernel))) rfl
theorem in_X5_reportIfUnlike : Cond.initialized yX5_reportIfUnlike.cls ∈ wl := mW (mT1 (List.mem_of_getElem? (i := 11) (by decide +kernel))) rfl
theorem im_X5_reportIfUnlike : Cond.instanceMethod yX5_reportIfUnlike ∈ wl := mW (mT4 (List.mem_of_getElem? (i := 153) (by decide +kernel))) rfl
theorem se_X5_reportIfUnlike : Cond.selects yX5_reportIfUnlike.cls yX5_reportIfUnlike yX5_reportIfUnlike ∈ wl := mW (mT4 (List.mem_of_getElem? (i := 154) (by decide +kernel))) rfl
theorem lv_X1_214 : LV RX1 214 yX5_reportIfUnlike cX5_reportIfUnlike 7 none 3 5 := ⟨⟨(RX5, TX5, 9), rfl, rfl⟩, yo_X5_reportIfUnlike, mW (mT4 (List.mem_of_getElem? (i := 152) (by decide +kernel))) rfl, im_X5_reportIfUnlike, se_X5_reportIfUnlike, in_X5_reportIfUnlike, co_X5_reportIfUnlike⟩
theorem dX1_send_0 : decode cX1_send 0 = .ok (.aload_n 0, 1) := by decide +kernel
theorem dX1_send_1 : decode cX1_send 1 = .ok (.getfield 28, 3) := by decide +kernel
theorem dX1_send_4 : decode cX1_send 4 = .ok (.iload_n 1, 1) := by decide +kernel
theorem dX1_send_5 : decode cX1_send 5 = .ok (.invokevirtual 207, 3) := by decide +kernel
theorem dX1_send_8 : decode cX1_send 8 = .ok (.aload_n 0, 1) := by decide +kernel
theorem dX1_send_9 : decode cX1_send 9 = .ok (.getfield 35, 3) := by decide +kernel
theorem dX1_send_12 : decode cX1_send 12 = .ok (.aload_n 0, 1) := by decide +kernel
theorem dX1_send_13 : decode cX1_send 13 = .ok (.getfield 28, 3) := by decide +kernel
theorem dX1_send_16 : decode cX1_send 16 = .ok (.aload_n 0, 1) := by decide +kernel
theorem dX1_send_17 : decode cX1_send 17 = .ok (.getfield 39, 3) := by decide +kernel
theorem dX1_send_20 : decode cX1_send 20 = .ok (.getfield 210, 3) := by decide +kernel
theorem dX1_send_23 : decode cX1_send 23 = .ok (.aload_n 0, 1) := by decide +kernel
theorem dX1_send_24 : decode cX1_send 24 = .ok (.getfield 46, 3) := by decide +kernel
theorem dX1_send_27 : decode cX1_send 27 = .ok (.invokevirtual 214, 3) := by decide +kernel
theorem dX1_send_30 : decode cX1_send 30 = .ok (.return_, 1) := by decide +kernel
def rmX1_send : Room := { frames := 3, cells := 0, slots := 0, locals := 75 }
set_option maxRecDepth 100000 in
def fX1_send (N : Nat) (g : Gs) (x0 : Nat) (x1 : Int32) (d : Ds) : Option (Unit × Ds) := gd (chk g x0 1) <| ob (gR g x0 3) fun r2 => (gd (chk g r2 3) <| cv (fX3_gather N g r2 x1 d) fun d4 => (ob (gR g x0 4) fun r6 => (ob (gR g x0 0) fun r7 => (gd (chk g r7 0) <| gd (chk g r6 5) <| cv (fX5_reportIfUnlike N g r6 r2 (dI d4 r7 3) (dI d4 x0 5) d4) fun d10 => (some ((), d10))))))
set_option maxHeartbeats 4000000 in
set_option maxRecDepth 100000 in
theorem tX1_send_E {p : Program} {l : Launch} {e : Env} {s : State} {m : MethodId} {args : Array Value} {below : List Frame} {meth : Method} {c : Code} {D : va_G} {cy : Nat → ClassId} {B : Bs} (C : Cx p s m args c cX1_send 2 RX1 D cy B) (hr : meth.sig.returnType = none) (hlocks : meth.locks = false) {N : Nat} {g : Gs} {x0 : Nat} {x1 : Int32}  {dz : Ds} {d : Ds} (hf : fX1_send N g x0 x1 d = some ((), dz)) : WB p l e rmX1_send s m args below meth c 2 D cy B 0 0 (MQ below (QV D cy B g dz) args s 0 0 (wA B)) g d [(0, .ref (ad B x0)), (1, .int x1)] 0 [] := by
  unfold fX1_send at hf
  refine b_aload_n C dX1_send_0 0 rfl rfl ?_
  obtain ⟨h1, hf⟩ := gd_s hf
  obtain ⟨r2, er2, hf⟩ := ob_s hf
  refine b_gR C dX1_send_1 fl_X1_28 h1 er2 ?_
  refine b_iload_n C dX1_send_4 1 rfl rfl ?_
  obtain ⟨h3, hf⟩ := gd_s hf
  obtain ⟨d4, k5, hf⟩ := cv_s hf
  refine b_cVN C [] dX1_send_5 (kX3_gather l D cy B k5) lv_X1_207 ⟨rfl, rfl, Nat.le_of_ble_eq_true rfl, Nat.le_of_ble_eq_true rfl⟩ h3 (by decide) rfl (Nat.le_of_ble_eq_true rfl) ⟨Nat.zero_le _, Nat.zero_le _⟩ rfl ?_
  refine b_aload_n C dX1_send_8 0 rfl rfl ?_
  obtain ⟨r6, er6, hf⟩ := ob_s hf
  refine b_gR C dX1_send_9 fl_X1_35 h1 er6 ?_
  refine b_aload_n C dX1_send_12 0 rfl rfl ?_
  refine b_gR C dX1_send_13 fl_X1_28 h1 er2 ?_
  refine b_aload_n C dX1_send_16 0 rfl rfl ?_
  obtain ⟨r7, er7, hf⟩ := ob_s hf
  refine b_gR C dX1_send_17 fl_X1_39 h1 er7 ?_
  obtain ⟨h8, hf⟩ := gd_s hf
  refine b_gI C dX1_send_20 fl_X1_210 h8 ?_
  refine b_aload_n C dX1_send_23 0 rfl rfl ?_
  refine b_gI C dX1_send_24 fl_X1_46 h1 ?_
  obtain ⟨h9, hf⟩ := gd_s hf
  obtain ⟨d10, k11, hf⟩ := cv_s hf
  refine b_cVN C [] dX1_send_27 (kX5_reportIfUnlike l D cy B k11) lv_X1_214 ⟨rfl, rfl, Nat.le_of_ble_eq_true rfl, Nat.le_of_ble_eq_true rfl⟩ h9 (by decide) rfl (Nat.le_of_ble_eq_true rfl) ⟨Nat.zero_le _, Nat.zero_le _⟩ rfl ?_
  exact b_vret C hr hlocks hf dX1_send_30
theorem kX1_send (l : Launch) (D : va_G) (cy : Nat → ClassId) (B : Bs) {N : Nat} {g : Gs} {x0 : Nat} {x1 : Int32}  {dz : Ds} {d : Ds} (hf : fX1_send N g x0 x1 d = some ((), dz)) : Met l yX1_send (.code yX1_send cX1_send 2 none :: wl) rmX1_send (PC D cy B [.ref (ad B x0), .int x1] g d) (QV D cy B g dz) 0 0 (wA B) :=
  met_of (by decide +kernel) (Nat.le_of_ble_eq_true rfl) (fun p e s m args below meth c C hr hlocks _ => b_sub [(0, .ref (ad B x0)), (1, .int x1)] [0, 1] rfl (tX1_send_E C hr hlocks hf))
/-! KeyMatrix$Doing.begin(IIII)V -/
theorem dX3_begin_0 : decode cX3_begin 0 = .ok (.aload_n 0, 1) := by decide +kernel
theorem dX3_begin_1 : decode cX3_begin 1 = .ok (.getfield 9, 3) := by decide +kernel
theorem dX3_begin_4 : decode cX3_begin 4 = .ok (.iload_n 1, 1) := by decide +kernel
theorem dX3_begin_5 : decode cX3_begin 5 = .ok (.iaload, 1) := by decide +kernel
theorem dX3_begin_6 : decode cX3_begin 6 = .ok (.iconst (-1), 1) := by decide +kernel
theorem dX3_begin_7 : decode cX3_begin 7 = .ok (.if_icmp .ne 54, 3) := by decide +kernel
theorem dX3_begin_10 : decode cX3_begin 10 = .ok (.aload_n 0, 1) := by decide +kernel
theorem dX3_begin_11 : decode cX3_begin 11 = .ok (.getfield 27, 3) := by decide +kernel
theorem dX3_begin_14 : decode cX3_begin 14 = .ok (.bipush 24, 2) := by decide +kernel
theorem dX3_begin_16 : decode cX3_begin 16 = .ok (.if_icmp .ge 45, 3) := by decide +kernel
theorem dX3_begin_19 : decode cX3_begin 19 = .ok (.aload_n 0, 1) := by decide +kernel
theorem dX3_begin_20 : decode cX3_begin 20 = .ok (.getfield 9, 3) := by decide +kernel
theorem dX3_begin_23 : decode cX3_begin 23 = .ok (.iload_n 1, 1) := by decide +kernel
theorem dX3_begin_24 : decode cX3_begin 24 = .ok (.iload_n 2, 1) := by decide +kernel
theorem dX3_begin_25 : decode cX3_begin 25 = .ok (.iastore, 1) := by decide +kernel
theorem dX3_begin_26 : decode cX3_begin 26 = .ok (.aload_n 0, 1) := by decide +kernel
theorem dX3_begin_27 : decode cX3_begin 27 = .ok (.getfield 15, 3) := by decide +kernel
theorem dX3_begin_30 : decode cX3_begin 30 = .ok (.iload_n 1, 1) := by decide +kernel
theorem dX3_begin_31 : decode cX3_begin 31 = .ok (.iload_n 3, 1) := by decide +kernel
theorem dX3_begin_32 : decode cX3_begin 32 = .ok (.iastore, 1) := by decide +kernel
theorem dX3_begin_33 : decode cX3_begin 33 = .ok (.aload_n 0, 1) := by decide +kernel
theorem dX3_begin_34 : decode cX3_begin 34 = .ok (.getfield 18, 3) := by decide +kernel
theorem dX3_begin_37 : decode cX3_begin 37 = .ok (.iload_n 1, 1) := by decide +kernel
theorem dX3_begin_38 : decode cX3_begin 38 = .ok (.iload 4, 2) := by decide +kernel
theorem dX3_begin_40 : decode cX3_begin 40 = .ok (.iastore, 1) := by decide +kernel
theorem dX3_begin_41 : decode cX3_begin 41 = .ok (.aload_n 0, 1) := by decide +kernel
theorem dX3_begin_42 : decode cX3_begin 42 = .ok (.getfield 21, 3) := by decide +kernel
theorem dX3_begin_45 : decode cX3_begin 45 = .ok (.aload_n 0, 1) := by decide +kernel
theorem dX3_begin_46 : decode cX3_begin 46 = .ok (.getfield 27, 3) := by decide +kernel
theorem dX3_begin_49 : decode cX3_begin 49 = .ok (.iload_n 1, 1) := by decide +kernel
theorem dX3_begin_50 : decode cX3_begin 50 = .ok (.iastore, 1) := by decide +kernel
theorem dX3_begin_51 : decode cX3_begin 51 = .ok (.aload_n 0, 1) := by decide +kernel
theorem dX3_begin_52 : decode cX3_begin 52 = .ok (.dup, 1) := by decide +kernel
theorem dX3_begin_53 : decode cX3_begin 53 = .ok (.getfield 27, 3) := by decide +kernel
theorem dX3_begin_56 : decode cX3_begin 56 = .ok (.iconst 1, 1) := by decide +kernel
theorem dX3_begin_57 : decode cX3_begin 57 = .ok (.iadd, 1) := by decide +kernel
theorem dX3_begin_58 : decode cX3_begin 58 = .ok (.putfield 27, 3) := by decide +kernel
theorem dX3_begin_61 : decode cX3_begin 61 = .ok (.return_, 1) := by decide +kernel
def rmX3_begin : Room := { frames := 0, cells := 0, slots := 0, locals := 0 }
set_option maxRecDepth 100000 in
def fX3_begin_J61 (N : Nat) (g : Gs) (x0 : Nat) (x1 : Int32) (x2 : Int32) (x3 : Int32) (x4 : Int32) (d : Ds) : Option (Unit × Ds) := some ((), d)
set_option maxHeartbeats 4000000 in
set_option maxRecDepth 100000 in
theorem tX3_begin_61 {p : Program} {l : Launch} {e : Env} {s : State} {m : MethodId} {args : Array Value} {below : List Frame} {meth : Method} {c : Code} {D : va_G} {cy : Nat → ClassId} {B : Bs} (C : Cx p s m args c cX3_begin 5 RX3 D cy B) (hr : meth.sig.returnType = none) (hlocks : meth.locks = false) {N : Nat} {g : Gs} {x0 : Nat} {x1 : Int32} {x2 : Int32} {x3 : Int32} {x4 : Int32}  {dz : Ds} {d : Ds} (hf : fX3_begin_J61 N g x0 x1 x2 x3 x4 d = some ((), dz)) : WB p l e rmX3_begin s m args below meth c 5 D cy B 0 0 (MQ below (QV D cy B g dz) args s 0 0 (wA B)) g d [(0, .ref (ad B x0)), (1, .int x1), (2, .int x2), (3, .int x3), (4, .int x4)] 61 [] := by
  unfold fX3_begin_J61 at hf
  exact b_vret C hr hlocks hf dX3_begin_61
set_option maxRecDepth 100000 in
def fX3_begin (N : Nat) (g : Gs) (x0 : Nat) (x1 : Int32) (x2 : Int32) (x3 : Int32) (x4 : Int32) (d : Ds) : Option (Unit × Ds) := gd (chk g x0 3) <| ob (gR g x0 0) fun r2 => (gd (chk g r2 102) <| gd (¬ (x1 < 0 ∨ gL g r2 ≤ x1.toNatClampNeg)) <| if (dI d r2 x1.toNatClampNeg) = (-1 : Int32) then (if (24 : Int32) ≤ (dI d x0 4) then (fX3_begin_J61 N g x0 x1 x2 x3 x4 d) else (bd (sI d r2 x1.toNatClampNeg x2) fun d7 => (ob (gR g x0 1) fun r8 => (gd (chk g r8 102) <| gd (¬ (x1 < 0 ∨ gL g r8 ≤ x1.toNatClampNeg)) <| bd (sI d7 r8 x1.toNatClampNeg x3) fun d11 => (ob (gR g x0 2) fun r12 => (gd (chk g r12 102) <| gd (¬ (x1 < 0 ∨ gL g r12 ≤ x1.toNatClampNeg)) <| bd (sI d11 r12 x1.toNatClampNeg x4) fun d15 => (ob (gR g x0 3) fun r16 => (gd (chk g r16 102) <| gd (¬ ((dI d15 x0 4) < 0 ∨ gL g r16 ≤ (dI d15 x0 4).toNatClampNeg)) <| bd (sI d15 r16 (dI d15 x0 4).toNatClampNeg x1) fun d19 => (bd (sI d19 x0 4 ((dI d19 x0 4) + 1)) fun d20 => (fX3_begin_J61 N g x0 x1 x2 x3 x4 d20)))))))))) else (fX3_begin_J61 N g x0 x1 x2 x3 x4 d))
set_option maxHeartbeats 4000000 in
set_option maxRecDepth 100000 in
theorem tX3_begin_E {p : Program} {l : Launch} {e : Env} {s : State} {m : MethodId} {args : Array Value} {below : List Frame} {meth : Method} {c : Code} {D : va_G} {cy : Nat → ClassId} {B : Bs} (C : Cx p s m args c cX3_begin 5 RX3 D cy B) (hr : meth.sig.returnType = none) (hlocks : meth.locks = false) {N : Nat} {g : Gs} {x0 : Nat} {x1 : Int32} {x2 : Int32} {x3 : Int32} {x4 : Int32}  {dz : Ds} {d : Ds} (hf : fX3_begin N g x0 x1 x2 x3 x4 d = some ((), dz)) : WB p l e rmX3_begin s m args below meth c 5 D cy B 0 0 (MQ below (QV D cy B g dz) args s 0 0 (wA B)) g d [(0, .ref (ad B x0)), (1, .int x1), (2, .int x2), (3, .int x3), (4, .int x4)] 0 [] := by
  unfold fX3_begin at hf
  refine b_aload_n C dX3_begin_0 0 rfl rfl ?_
  obtain ⟨h1, hf⟩ := gd_s hf
  obtain ⟨r2, er2, hf⟩ := ob_s hf
  refine b_gR C dX3_begin_1 fl_X3_9 h1 er2 ?_
  refine b_iload_n C dX3_begin_4 1 rfl rfl ?_
  obtain ⟨h3, hf⟩ := gd_s hf
  obtain ⟨h4, hf⟩ := gd_s hf
  refine b_iald C h3 h4 dX3_begin_5 ?_
  refine b_iconst C (v := (-1)) dX3_begin_6 (by decide) ?_
  refine b_icmp_ne C (tgt := 61) dX3_begin_7 (by decide) (fun c5 => ?_) (fun c5 => ?_)
  · have hf := if_s c5 hf
    refine b_sub [(0, .ref (ad B x0)), (1, .int x1), (2, .int x2), (3, .int x3), (4, .int x4)] [0, 1, 2, 3, 4] rfl ?_
    exact tX3_begin_61 C hr hlocks hf
  · have hf := it_s c5 hf
    refine b_aload_n C dX3_begin_10 0 rfl rfl ?_
    refine b_gI C dX3_begin_11 fl_X3_27 h1 ?_
    refine b_bipush C (v := 24) dX3_begin_14 (by decide) ?_
    refine b_icmp_ge C (tgt := 61) dX3_begin_16 (by decide) (fun c6 => ?_) (fun c6 => ?_)
    · have hf := it_s c6 hf
      refine b_sub [(0, .ref (ad B x0)), (1, .int x1), (2, .int x2), (3, .int x3), (4, .int x4)] [0, 1, 2, 3, 4] rfl ?_
      exact tX3_begin_61 C hr hlocks hf
    · have hf := if_s c6 hf
      refine b_aload_n C dX3_begin_19 0 rfl rfl ?_
      refine b_gR C dX3_begin_20 fl_X3_9 h1 er2 ?_
      refine b_iload_n C dX3_begin_23 1 rfl rfl ?_
      refine b_iload_n C dX3_begin_24 2 rfl rfl ?_
      obtain ⟨d7, ed7, hf⟩ := bd_s hf
      refine b_iast C h3 h4 ed7 dX3_begin_25 ?_
      refine b_aload_n C dX3_begin_26 0 rfl rfl ?_
      obtain ⟨r8, er8, hf⟩ := ob_s hf
      refine b_gR C dX3_begin_27 fl_X3_15 h1 er8 ?_
      refine b_iload_n C dX3_begin_30 1 rfl rfl ?_
      refine b_iload_n C dX3_begin_31 3 rfl rfl ?_
      obtain ⟨h9, hf⟩ := gd_s hf
      obtain ⟨h10, hf⟩ := gd_s hf
      obtain ⟨d11, ed11, hf⟩ := bd_s hf
      refine b_iast C h9 h10 ed11 dX3_begin_32 ?_
      refine b_aload_n C dX3_begin_33 0 rfl rfl ?_
      obtain ⟨r12, er12, hf⟩ := ob_s hf
      refine b_gR C dX3_begin_34 fl_X3_18 h1 er12 ?_
      refine b_iload_n C dX3_begin_37 1 rfl rfl ?_
      refine b_iload C dX3_begin_38 4 rfl ?_
      obtain ⟨h13, hf⟩ := gd_s hf
      obtain ⟨h14, hf⟩ := gd_s hf
      obtain ⟨d15, ed15, hf⟩ := bd_s hf
      refine b_iast C h13 h14 ed15 dX3_begin_40 ?_
      refine b_aload_n C dX3_begin_41 0 rfl rfl ?_
      obtain ⟨r16, er16, hf⟩ := ob_s hf
      refine b_gR C dX3_begin_42 fl_X3_21 h1 er16 ?_
      refine b_aload_n C dX3_begin_45 0 rfl rfl ?_
      refine b_gI C dX3_begin_46 fl_X3_27 h1 ?_
      refine b_iload_n C dX3_begin_49 1 rfl rfl ?_
      obtain ⟨h17, hf⟩ := gd_s hf
      obtain ⟨h18, hf⟩ := gd_s hf
      obtain ⟨d19, ed19, hf⟩ := bd_s hf
      refine b_iast C h17 h18 ed19 dX3_begin_50 ?_
      refine b_aload_n C dX3_begin_51 0 rfl rfl ?_
      refine b_dup C dX3_begin_52 rfl ?_
      refine b_gI C dX3_begin_53 fl_X3_27 h1 ?_
      refine b_iconst C (v := 1) dX3_begin_56 (by decide) ?_
      refine b_iadd C dX3_begin_57 ?_
      obtain ⟨d20, ed20, hf⟩ := bd_s hf
      refine b_pI C dX3_begin_58 fl_X3_27 fp3_4 h1 ed20 ?_
      refine b_sub [(0, .ref (ad B x0)), (1, .int x1), (2, .int x2), (3, .int x3), (4, .int x4)] [0, 1, 2, 3, 4] rfl ?_
      exact tX3_begin_61 C hr hlocks hf
theorem kX3_begin (l : Launch) (D : va_G) (cy : Nat → ClassId) (B : Bs) {N : Nat} {g : Gs} {x0 : Nat} {x1 : Int32} {x2 : Int32} {x3 : Int32} {x4 : Int32}  {dz : Ds} {d : Ds} (hf : fX3_begin N g x0 x1 x2 x3 x4 d = some ((), dz)) : Met l yX3_begin (.code yX3_begin cX3_begin 5 none :: wl) rmX3_begin (PC D cy B [.ref (ad B x0), .int x1, .int x2, .int x3, .int x4] g d) (QV D cy B g dz) 0 0 (wA B) :=
  met_of (by decide +kernel) (Nat.le_of_ble_eq_true rfl) (fun p e s m args below meth c C hr hlocks _ => b_sub [(0, .ref (ad B x0)), (1, .int x1), (2, .int x2), (3, .int x3), (4, .int x4)] [0, 1, 2, 3, 4] rfl (tX3_begin_E C hr hlocks hf))
/-! KeyMatrix$Course.perform(IIII)V -/
theorem yo_X3_begin : yX3_begin.cls ≠ "java/lang/invoke/MethodHandle" ∧ yX3_begin.cls ≠ "java/lang/invoke/VarHandle" ∧ (parseMethodDescriptor yX3_begin.desc).map (fun d => d.parameters.length) = some 4 := by decide +kernel
theorem co_X3_begin : Cond.code yX3_begin cX3_begin 5 none ∈ wl := mW (mT4 (List.mem_of_getElem? (i := 192) (by decide +kernel))) rfl
theorem in_X3_begin : Cond.initialized yX3_begin.cls ∈ wl := mW (mT1 (List.mem_of_getElem? (i := 10) (by decide +kernel))) rfl
theorem im_X3_begin : Cond.instanceMethod yX3_begin ∈ wl := mW (mT4 (List.mem_of_getElem? (i := 190) (by decide +kernel))) rfl
theorem se_X3_begin : Cond.selects yX3_begin.cls yX3_begin yX3_begin ∈ wl := mW (mT4 (List.mem_of_getElem? (i := 191) (by decide +kernel))) rfl
theorem lv_X1_201 : LV RX1 201 yX3_begin cX3_begin 5 none 4 3 := ⟨⟨(RX3, TX3, 9), rfl, rfl⟩, yo_X3_begin, mW (mT4 (List.mem_of_getElem? (i := 189) (by decide +kernel))) rfl, im_X3_begin, se_X3_begin, in_X3_begin, co_X3_begin⟩
theorem yo_X1_send : yX1_send.cls ≠ "java/lang/invoke/MethodHandle" ∧ yX1_send.cls ≠ "java/lang/invoke/VarHandle" ∧ (parseMethodDescriptor yX1_send.desc).map (fun d => d.parameters.length) = some 1 := by decide +kernel
theorem co_X1_send : Cond.code yX1_send cX1_send 2 none ∈ wl := mW (mT4 (List.mem_of_getElem? (i := 143) (by decide +kernel))) rfl
theorem in_X1_send : Cond.initialized yX1_send.cls ∈ wl := mW (mT1 (List.mem_of_getElem? (i := 7) (by decide +kernel))) rfl
theorem im_X1_send : Cond.instanceMethod yX1_send ∈ wl := mW (mT4 (List.mem_of_getElem? (i := 142) (by decide +kernel))) rfl
theorem se_X1_send : Cond.selects yX1_send.cls yX1_send yX1_send ∈ wl := mW (mT0 (List.mem_of_getElem? (i := 24) (by decide +kernel))) rfl
theorem lv_X1_180 : LV RX1 180 yX1_send cX1_send 2 none 1 1 := ⟨⟨(RX1, TX1, 6), rfl, rfl⟩, yo_X1_send, mW (mT4 (List.mem_of_getElem? (i := 140) (by decide +kernel))) rfl, im_X1_send, se_X1_send, in_X1_send, co_X1_send⟩
theorem yo_X0_macroCode : yX0_macroCode.cls ≠ "java/lang/invoke/MethodHandle" ∧ yX0_macroCode.cls ≠ "java/lang/invoke/VarHandle" ∧ (parseMethodDescriptor yX0_macroCode.desc).map (fun d => d.parameters.length) = some 2 := by decide +kernel
theorem co_X0_macroCode : Cond.code yX0_macroCode cX0_macroCode 3 (some .int) ∈ wl := mW (mT4 (List.mem_of_getElem? (i := 196) (by decide +kernel))) rfl
theorem in_X0_macroCode : Cond.initialized yX0_macroCode.cls ∈ wl := mW (mT1 (List.mem_of_getElem? (i := 5) (by decide +kernel))) rfl
theorem im_X0_macroCode : Cond.instanceMethod yX0_macroCode ∈ wl := mW (mT4 (List.mem_of_getElem? (i := 194) (by decide +kernel))) rfl
theorem se_X0_macroCode : Cond.selects yX0_macroCode.cls yX0_macroCode yX0_macroCode ∈ wl := mW (mT4 (List.mem_of_getElem? (i := 195) (by decide +kernel))) rfl
theorem lv_X1_204 : LV RX1 204 yX0_macroCode cX0_macroCode 3 (some .int) 2 0 := ⟨⟨(RX0, TX0, 19), rfl, rfl⟩, yo_X0_macroCode, mW (mT4 (List.mem_of_getElem? (i := 193) (by decide +kernel))) rfl, im_X0_macroCode, se_X0_macroCode, in_X0_macroCode, co_X0_macroCode⟩
theorem dX1_perform_0 : decode cX1_perform 0 = .ok (.iload_n 3, 1) := by decide +kernel
theorem dX1_perform_1 : decode cX1_perform 1 = .ok (.ifCond .eq 13, 3) := by decide +kernel
theorem dX1_perform_4 : decode cX1_perform 4 = .ok (.iload_n 3, 1) := by decide +kernel
theorem dX1_perform_5 : decode cX1_perform 5 = .ok (.iconst 1, 1) := by decide +kernel
theorem dX1_perform_6 : decode cX1_perform 6 = .ok (.if_icmp .eq 8, 3) := by decide +kernel
theorem dX1_perform_9 : decode cX1_perform 9 = .ok (.iload_n 3, 1) := by decide +kernel
theorem dX1_perform_10 : decode cX1_perform 10 = .ok (.iconst 2, 1) := by decide +kernel
theorem dX1_perform_11 : decode cX1_perform 11 = .ok (.if_icmp .ne 35, 3) := by decide +kernel
theorem dX1_perform_14 : decode cX1_perform 14 = .ok (.aload_n 0, 1) := by decide +kernel
theorem dX1_perform_15 : decode cX1_perform 15 = .ok (.getfield 28, 3) := by decide +kernel
theorem dX1_perform_18 : decode cX1_perform 18 = .ok (.iload_n 1, 1) := by decide +kernel
theorem dX1_perform_19 : decode cX1_perform 19 = .ok (.iload_n 3, 1) := by decide +kernel
theorem dX1_perform_20 : decode cX1_perform 20 = .ok (.iload 4, 2) := by decide +kernel
theorem dX1_perform_22 : decode cX1_perform 22 = .ok (.iload_n 2, 1) := by decide +kernel
theorem dX1_perform_23 : decode cX1_perform 23 = .ok (.invokevirtual 201, 3) := by decide +kernel
theorem dX1_perform_26 : decode cX1_perform 26 = .ok (.iload_n 2, 1) := by decide +kernel
theorem dX1_perform_27 : decode cX1_perform 27 = .ok (.iconst (-1), 1) := by decide +kernel
theorem dX1_perform_28 : decode cX1_perform 28 = .ok (.if_icmp .eq 99, 3) := by decide +kernel
theorem dX1_perform_31 : decode cX1_perform 31 = .ok (.aload_n 0, 1) := by decide +kernel
theorem dX1_perform_32 : decode cX1_perform 32 = .ok (.getfield 28, 3) := by decide +kernel
theorem dX1_perform_35 : decode cX1_perform 35 = .ok (.iload_n 2, 1) := by decide +kernel
theorem dX1_perform_36 : decode cX1_perform 36 = .ok (.iload_n 3, 1) := by decide +kernel
theorem dX1_perform_37 : decode cX1_perform 37 = .ok (.iload 4, 2) := by decide +kernel
theorem dX1_perform_39 : decode cX1_perform 39 = .ok (.iload_n 1, 1) := by decide +kernel
theorem dX1_perform_40 : decode cX1_perform 40 = .ok (.invokevirtual 201, 3) := by decide +kernel
theorem dX1_perform_43 : decode cX1_perform 43 = .ok (.goto 84, 3) := by decide +kernel
theorem dX1_perform_46 : decode cX1_perform 46 = .ok (.iload_n 3, 1) := by decide +kernel
theorem dX1_perform_47 : decode cX1_perform 47 = .ok (.iconst 3, 1) := by decide +kernel
theorem dX1_perform_48 : decode cX1_perform 48 = .ok (.if_icmp .ne 22, 3) := by decide +kernel
theorem dX1_perform_51 : decode cX1_perform 51 = .ok (.aload_n 0, 1) := by decide +kernel
theorem dX1_perform_52 : decode cX1_perform 52 = .ok (.getfield 28, 3) := by decide +kernel
theorem dX1_perform_55 : decode cX1_perform 55 = .ok (.dup, 1) := by decide +kernel
theorem dX1_perform_56 : decode cX1_perform 56 = .ok (.getfield 67, 3) := by decide +kernel
theorem dX1_perform_59 : decode cX1_perform 59 = .ok (.iconst 1, 1) := by decide +kernel
theorem dX1_perform_60 : decode cX1_perform 60 = .ok (.iload 4, 2) := by decide +kernel
theorem dX1_perform_62 : decode cX1_perform 62 = .ok (.ishl, 1) := by decide +kernel
theorem dX1_perform_63 : decode cX1_perform 63 = .ok (.ixor, 1) := by decide +kernel
theorem dX1_perform_64 : decode cX1_perform 64 = .ok (.putfield 67, 3) := by decide +kernel
theorem dX1_perform_67 : decode cX1_perform 67 = .ok (.goto 60, 3) := by decide +kernel
theorem dX1_perform_70 : decode cX1_perform 70 = .ok (.iload_n 3, 1) := by decide +kernel
theorem dX1_perform_71 : decode cX1_perform 71 = .ok (.bipush 9, 2) := by decide +kernel
theorem dX1_perform_73 : decode cX1_perform 73 = .ok (.if_icmp .ne 54, 3) := by decide +kernel
theorem dX1_perform_76 : decode cX1_perform 76 = .ok (.iconst 0, 1) := by decide +kernel
theorem dX1_perform_77 : decode cX1_perform 77 = .ok (.istore 5, 2) := by decide +kernel
theorem dX1_perform_79 : decode cX1_perform 79 = .ok (.iload 5, 2) := by decide +kernel
theorem dX1_perform_81 : decode cX1_perform 81 = .ok (.bipush 8, 2) := by decide +kernel
theorem dX1_perform_83 : decode cX1_perform 83 = .ok (.if_icmp .ge 44, 3) := by decide +kernel
theorem dX1_perform_86 : decode cX1_perform 86 = .ok (.aload_n 0, 1) := by decide +kernel
theorem dX1_perform_87 : decode cX1_perform 87 = .ok (.getfield 39, 3) := by decide +kernel
theorem dX1_perform_90 : decode cX1_perform 90 = .ok (.iload 4, 2) := by decide +kernel
theorem dX1_perform_92 : decode cX1_perform 92 = .ok (.iload 5, 2) := by decide +kernel
theorem dX1_perform_94 : decode cX1_perform 94 = .ok (.invokevirtual 204, 3) := by decide +kernel
theorem dX1_perform_97 : decode cX1_perform 97 = .ok (.iconst (-1), 1) := by decide +kernel
theorem dX1_perform_98 : decode cX1_perform 98 = .ok (.if_icmp .eq 29, 3) := by decide +kernel
theorem dX1_perform_101 : decode cX1_perform 101 = .ok (.aload_n 0, 1) := by decide +kernel
theorem dX1_perform_102 : decode cX1_perform 102 = .ok (.aload_n 0, 1) := by decide +kernel
theorem dX1_perform_103 : decode cX1_perform 103 = .ok (.getfield 39, 3) := by decide +kernel
theorem dX1_perform_106 : decode cX1_perform 106 = .ok (.iload 4, 2) := by decide +kernel
theorem dX1_perform_108 : decode cX1_perform 108 = .ok (.iload 5, 2) := by decide +kernel
theorem dX1_perform_110 : decode cX1_perform 110 = .ok (.invokevirtual 204, 3) := by decide +kernel
theorem dX1_perform_113 : decode cX1_perform 113 = .ok (.invokevirtual 180, 3) := by decide +kernel
theorem dX1_perform_116 : decode cX1_perform 116 = .ok (.aload_n 0, 1) := by decide +kernel
theorem dX1_perform_117 : decode cX1_perform 117 = .ok (.iconst (-1), 1) := by decide +kernel
theorem dX1_perform_118 : decode cX1_perform 118 = .ok (.invokevirtual 180, 3) := by decide +kernel
theorem dX1_perform_121 : decode cX1_perform 121 = .ok (.iinc 5 1, 3) := by decide +kernel
theorem dX1_perform_124 : decode cX1_perform 124 = .ok (.goto (-45), 3) := by decide +kernel
theorem dX1_perform_127 : decode cX1_perform 127 = .ok (.aload_n 0, 1) := by decide +kernel
theorem dX1_perform_128 : decode cX1_perform 128 = .ok (.iconst (-1), 1) := by decide +kernel
theorem dX1_perform_129 : decode cX1_perform 129 = .ok (.invokevirtual 180, 3) := by decide +kernel
theorem dX1_perform_132 : decode cX1_perform 132 = .ok (.return_, 1) := by decide +kernel
def rmX1_perform : Room := { frames := 4, cells := 0, slots := 0, locals := 96 }
set_option maxRecDepth 100000 in
def fX1_perform_J127 (N : Nat) (g : Gs) (x0 : Nat) (x1 : Int32) (x2 : Int32) (x3 : Int32) (x4 : Int32) (d : Ds) : Option (Unit × Ds) := gd (chk g x0 1) <| cv (fX1_send N g x0 (-1) d) fun d9 => (some ((), d9))
set_option maxHeartbeats 4000000 in
set_option maxRecDepth 100000 in
theorem tX1_perform_127 {p : Program} {l : Launch} {e : Env} {s : State} {m : MethodId} {args : Array Value} {below : List Frame} {meth : Method} {c : Code} {D : va_G} {cy : Nat → ClassId} {B : Bs} (C : Cx p s m args c cX1_perform 6 RX1 D cy B) (hr : meth.sig.returnType = none) (hlocks : meth.locks = false) {N : Nat} {g : Gs} {x0 : Nat} {x1 : Int32} {x2 : Int32} {x3 : Int32} {x4 : Int32}  {dz : Ds} {d : Ds} (hf : fX1_perform_J127 N g x0 x1 x2 x3 x4 d = some ((), dz)) : WB p l e rmX1_perform s m args below meth c 6 D cy B 0 0 (MQ below (QV D cy B g dz) args s 0 0 (wA B)) g d [(0, .ref (ad B x0)), (1, .int x1), (2, .int x2), (3, .int x3), (4, .int x4)] 127 [] := by
  unfold fX1_perform_J127 at hf
  refine b_aload_n C dX1_perform_127 0 rfl rfl ?_
  refine b_iconst C (v := (-1)) dX1_perform_128 (by decide) ?_
  obtain ⟨h8, hf⟩ := gd_s hf
  obtain ⟨d9, k10, hf⟩ := cv_s hf
  refine b_cVN C [] dX1_perform_129 (kX1_send l D cy B k10) lv_X1_180 ⟨rfl, rfl, Nat.le_of_ble_eq_true rfl, Nat.le_of_ble_eq_true rfl⟩ h8 (by decide) rfl (Nat.le_of_ble_eq_true rfl) ⟨Nat.zero_le _, Nat.zero_le _⟩ rfl ?_
  exact b_vret C hr hlocks hf dX1_perform_132
set_option maxRecDepth 100000 in
def fX1_perform_J14 (N : Nat) (g : Gs) (x0 : Nat) (x1 : Int32) (x2 : Int32) (x3 : Int32) (x4 : Int32) (d : Ds) : Option (Unit × Ds) := gd (chk g x0 1) <| ob (gR g x0 3) fun r3 => (gd (chk g r3 3) <| cv (fX3_begin N g r3 x1 x3 x4 x2 d) fun d5 => (if x2 = (-1 : Int32) then (fX1_perform_J127 N g x0 x1 x2 x3 x4 d5) else (cv (fX3_begin N g r3 x2 x3 x4 x1 d5) fun d11 => (fX1_perform_J127 N g x0 x1 x2 x3 x4 d11))))
set_option maxHeartbeats 4000000 in
set_option maxRecDepth 100000 in
theorem tX1_perform_14 {p : Program} {l : Launch} {e : Env} {s : State} {m : MethodId} {args : Array Value} {below : List Frame} {meth : Method} {c : Code} {D : va_G} {cy : Nat → ClassId} {B : Bs} (C : Cx p s m args c cX1_perform 6 RX1 D cy B) (hr : meth.sig.returnType = none) (hlocks : meth.locks = false) {N : Nat} {g : Gs} {x0 : Nat} {x1 : Int32} {x2 : Int32} {x3 : Int32} {x4 : Int32}  {dz : Ds} {d : Ds} (hf : fX1_perform_J14 N g x0 x1 x2 x3 x4 d = some ((), dz)) : WB p l e rmX1_perform s m args below meth c 6 D cy B 0 0 (MQ below (QV D cy B g dz) args s 0 0 (wA B)) g d [(0, .ref (ad B x0)), (1, .int x1), (2, .int x2), (3, .int x3), (4, .int x4)] 14 [] := by
  unfold fX1_perform_J14 at hf
  refine b_aload_n C dX1_perform_14 0 rfl rfl ?_
  obtain ⟨h2, hf⟩ := gd_s hf
  obtain ⟨r3, er3, hf⟩ := ob_s hf
  refine b_gR C dX1_perform_15 fl_X1_28 h2 er3 ?_
  refine b_iload_n C dX1_perform_18 1 rfl rfl ?_
  refine b_iload_n C dX1_perform_19 3 rfl rfl ?_
  refine b_iload C dX1_perform_20 4 rfl ?_
  refine b_iload_n C dX1_perform_22 2 rfl rfl ?_
  obtain ⟨h4, hf⟩ := gd_s hf
  obtain ⟨d5, k6, hf⟩ := cv_s hf
  refine b_cVN C [] dX1_perform_23 (kX3_begin l D cy B k6) lv_X1_201 ⟨rfl, rfl, Nat.le_of_ble_eq_true rfl, Nat.le_of_ble_eq_true rfl⟩ h4 (by decide) rfl (Nat.le_of_ble_eq_true rfl) ⟨Nat.zero_le _, Nat.zero_le _⟩ rfl ?_
  refine b_iload_n C dX1_perform_26 2 rfl rfl ?_
  refine b_iconst C (v := (-1)) dX1_perform_27 (by decide) ?_
  refine b_icmp_eq C (tgt := 127) dX1_perform_28 (by decide) (fun c7 => ?_) (fun c7 => ?_)
  · have hf := it_s c7 hf
    refine b_sub [(0, .ref (ad B x0)), (1, .int x1), (2, .int x2), (3, .int x3), (4, .int x4)] [0, 1, 2, 3, 4] rfl ?_
    exact tX1_perform_127 C hr hlocks hf
  · have hf := if_s c7 hf
    refine b_aload_n C dX1_perform_31 0 rfl rfl ?_
    refine b_gR C dX1_perform_32 fl_X1_28 h2 er3 ?_
    refine b_iload_n C dX1_perform_35 2 rfl rfl ?_
    refine b_iload_n C dX1_perform_36 3 rfl rfl ?_
    refine b_iload C dX1_perform_37 4 rfl ?_
    refine b_iload_n C dX1_perform_39 1 rfl rfl ?_
    obtain ⟨d11, k12, hf⟩ := cv_s hf
    refine b_cVN C [] dX1_perform_40 (kX3_begin l D cy B k12) lv_X1_201 ⟨rfl, rfl, Nat.le_of_ble_eq_true rfl, Nat.le_of_ble_eq_true rfl⟩ h4 (by decide) rfl (Nat.le_of_ble_eq_true rfl) ⟨Nat.zero_le _, Nat.zero_le _⟩ rfl ?_
    refine b_goto C (tgt := 127) dX1_perform_43 (by decide) ?_
    refine b_sub [(0, .ref (ad B x0)), (1, .int x1), (2, .int x2), (3, .int x3), (4, .int x4)] [0, 1, 2, 3, 4] rfl ?_
    exact tX1_perform_127 C hr hlocks hf
set_option maxRecDepth 100000 in
def fX1_perform_B79 (N : Nat) (g : Gs) (x0 : Nat) (x1 : Int32) (x2 : Int32) (x3 : Int32) (x4 : Int32) (K79 : Int32 × Ds → Option (Unit × Ds)) (y5 : Int32) (d : Ds) : Option (Unit × Ds) := if (8 : Int32) ≤ y5 then (fX1_perform_J127 N g x0 x1 x2 x3 x4 d) else (gd (chk g x0 1) <| ob (gR g x0 0) fun r19 => (gd (chk g r19 0) <| cb (fX0_macroCode N g r19 x4 y5 d) fun u23 d21 => (if u23 = (-1 : Int32) then (fX1_perform_J127 N g x0 x1 x2 x3 x4 d21) else (cb (fX0_macroCode N g r19 x4 y5 d21) fun u27 d25 => (cv (fX1_send N g x0 u27 d25) fun d28 => (cv (fX1_send N g x0 (-1) d28) fun d30 => (bd (y5 + 1) fun u32 => (K79 (u32, d30)))))))))
set_option maxHeartbeats 4000000 in
set_option maxRecDepth 100000 in
theorem tX1_perform_79 {p : Program} {l : Launch} {e : Env} {s : State} {m : MethodId} {args : Array Value} {below : List Frame} {meth : Method} {c : Code} {D : va_G} {cy : Nat → ClassId} {B : Bs} (C : Cx p s m args c cX1_perform 6 RX1 D cy B) (hr : meth.sig.returnType = none) (hlocks : meth.locks = false) {N : Nat} {g : Gs} {x0 : Nat} {x1 : Int32} {x2 : Int32} {x3 : Int32} {x4 : Int32}  {dz : Ds} {K79 : Int32 × Ds → Option (Unit × Ds)} (hK79 : ∀ a, K79 a = some ((), dz) → WB p l e rmX1_perform s m args below meth c 6 D cy B 0 0 (MQ below (QV D cy B g dz) args s 0 0 (wA B)) g a.2 [(0, .ref (ad B x0)), (1, .int x1), (2, .int x2), (3, .int x3), (4, .int x4), (5, .int a.1)] 79 []) {y5 : Int32} {d : Ds} (hf : fX1_perform_B79 N g x0 x1 x2 x3 x4 K79 y5 d = some ((), dz)) : WB p l e rmX1_perform s m args below meth c 6 D cy B 0 0 (MQ below (QV D cy B g dz) args s 0 0 (wA B)) g d [(0, .ref (ad B x0)), (1, .int x1), (2, .int x2), (3, .int x3), (4, .int x4), (5, .int y5)] 79 [] := by
  unfold fX1_perform_B79 at hf
  refine b_iload C dX1_perform_79 5 rfl ?_
  refine b_bipush C (v := 8) dX1_perform_81 (by decide) ?_
  refine b_icmp_ge C (tgt := 127) dX1_perform_83 (by decide) (fun c17 => ?_) (fun c17 => ?_)
  · have hf := it_s c17 hf
    refine b_sub [(0, .ref (ad B x0)), (1, .int x1), (2, .int x2), (3, .int x3), (4, .int x4)] [0, 1, 2, 3, 4] rfl ?_
    exact tX1_perform_127 C hr hlocks hf
  · have hf := if_s c17 hf
    refine b_aload_n C dX1_perform_86 0 rfl rfl ?_
    obtain ⟨h18, hf⟩ := gd_s hf
    obtain ⟨r19, er19, hf⟩ := ob_s hf
    refine b_gR C dX1_perform_87 fl_X1_39 h18 er19 ?_
    refine b_iload C dX1_perform_90 4 rfl ?_
    refine b_iload C dX1_perform_92 5 rfl ?_
    obtain ⟨h20, hf⟩ := gd_s hf
    obtain ⟨u23, d21, k22, hf⟩ := cb_s hf
    refine b_cVI C [] dX1_perform_94 (kX0_macroCode l D cy B k22) lv_X1_204 ⟨rfl, rfl, Nat.le_of_ble_eq_true rfl, Nat.le_of_ble_eq_true rfl⟩ h20 (by decide) rfl (Nat.le_of_ble_eq_true rfl) ⟨Nat.zero_le _, Nat.zero_le _⟩ rfl ?_
    refine b_iconst C (v := (-1)) dX1_perform_97 (by decide) ?_
    refine b_icmp_eq C (tgt := 127) dX1_perform_98 (by decide) (fun c24 => ?_) (fun c24 => ?_)
    · have hf := it_s c24 hf
      refine b_sub [(0, .ref (ad B x0)), (1, .int x1), (2, .int x2), (3, .int x3), (4, .int x4)] [0, 1, 2, 3, 4] rfl ?_
      exact tX1_perform_127 C hr hlocks hf
    · have hf := if_s c24 hf
      refine b_aload_n C dX1_perform_101 0 rfl rfl ?_
      refine b_aload_n C dX1_perform_102 0 rfl rfl ?_
      refine b_gR C dX1_perform_103 fl_X1_39 h18 er19 ?_
      refine b_iload C dX1_perform_106 4 rfl ?_
      refine b_iload C dX1_perform_108 5 rfl ?_
      obtain ⟨u27, d25, k26, hf⟩ := cb_s hf
      refine b_cVI C [.ref (ad B x0)] dX1_perform_110 (kX0_macroCode l D cy B k26) lv_X1_204 ⟨rfl, rfl, Nat.le_of_ble_eq_true rfl, Nat.le_of_ble_eq_true rfl⟩ h20 (by decide) rfl (Nat.le_of_ble_eq_true rfl) ⟨Nat.zero_le _, Nat.zero_le _⟩ rfl ?_
      obtain ⟨d28, k29, hf⟩ := cv_s hf
      refine b_cVN C [] dX1_perform_113 (kX1_send l D cy B k29) lv_X1_180 ⟨rfl, rfl, Nat.le_of_ble_eq_true rfl, Nat.le_of_ble_eq_true rfl⟩ h18 (by decide) rfl (Nat.le_of_ble_eq_true rfl) ⟨Nat.zero_le _, Nat.zero_le _⟩ rfl ?_
      refine b_aload_n C dX1_perform_116 0 rfl rfl ?_
      refine b_iconst C (v := (-1)) dX1_perform_117 (by decide) ?_
      obtain ⟨d30, k31, hf⟩ := cv_s hf
      refine b_cVN C [] dX1_perform_118 (kX1_send l D cy B k31) lv_X1_180 ⟨rfl, rfl, Nat.le_of_ble_eq_true rfl, Nat.le_of_ble_eq_true rfl⟩ h18 (by decide) rfl (Nat.le_of_ble_eq_true rfl) ⟨Nat.zero_le _, Nat.zero_le _⟩ rfl ?_
      obtain ⟨u32, eu32, hf⟩ := bd_s hf
      refine b_iinc C dX1_perform_121 5 rfl (by rw [eu32]; rfl) [(5, .int u32), (0, .ref (ad B x0)), (1, .int x1), (2, .int x2), (3, .int x3), (4, .int x4)] (by decide) rfl ?_
      refine b_goto C (tgt := 79) dX1_perform_124 (by decide) ?_
      refine b_sub [(0, .ref (ad B x0)), (1, .int x1), (2, .int x2), (3, .int x3), (4, .int x4), (5, .int u32)] [1, 2, 3, 4, 5, 0] rfl ?_
      exact hK79 (u32, d30) hf
def fX1_perform_L79 (N : Nat) (g : Gs) (x0 : Nat) (x1 : Int32) (x2 : Int32) (x3 : Int32) (x4 : Int32) : Int32 × Ds → Option (Unit × Ds) := lp (fun K79 a => fX1_perform_B79 N g x0 x1 x2 x3 x4 K79 a.1 a.2) N
theorem tX1_perform_L79 {p : Program} {l : Launch} {e : Env} {s : State} {m : MethodId} {args : Array Value} {below : List Frame} {meth : Method} {c : Code} {D : va_G} {cy : Nat → ClassId} {B : Bs} (C : Cx p s m args c cX1_perform 6 RX1 D cy B) (hr : meth.sig.returnType = none) (hlocks : meth.locks = false) {N : Nat} {g : Gs} {x0 : Nat} {x1 : Int32} {x2 : Int32} {x3 : Int32} {x4 : Int32}  {dz : Ds} (a : Int32 × Ds) (hf : fX1_perform_L79 N g x0 x1 x2 x3 x4 a = some ((), dz)) : WB p l e rmX1_perform s m args below meth c 6 D cy B 0 0 (MQ below (QV D cy B g dz) args s 0 0 (wA B)) g a.2 [(0, .ref (ad B x0)), (1, .int x1), (2, .int x2), (3, .int x3), (4, .int x4), (5, .int a.1)] 79 [] :=
  lp_w (fun K79 hK79 a ha => tX1_perform_79 C hr hlocks hK79 ha) N a hf
set_option maxRecDepth 100000 in
def fX1_perform (N : Nat) (g : Gs) (x0 : Nat) (x1 : Int32) (x2 : Int32) (x3 : Int32) (x4 : Int32) (d : Ds) : Option (Unit × Ds) := if x3 = 0 then (fX1_perform_J14 N g x0 x1 x2 x3 x4 d) else (if x3 = (1 : Int32) then (fX1_perform_J14 N g x0 x1 x2 x3 x4 d) else (if x3 = (2 : Int32) then (fX1_perform_J14 N g x0 x1 x2 x3 x4 d) else (if x3 = (3 : Int32) then (gd (chk g x0 1) <| ob (gR g x0 3) fun r34 => (gd (chk g r34 3) <| bd (sI d r34 5 ((dI d r34 5) ^^^ ((1 : Int32) <<< (x4 &&& 31)))) fun d36 => (fX1_perform_J127 N g x0 x1 x2 x3 x4 d36))) else (if x3 = (9 : Int32) then (fX1_perform_L79 N g x0 x1 x2 x3 x4 (0, d)) else (fX1_perform_J127 N g x0 x1 x2 x3 x4 d)))))
set_option maxHeartbeats 4000000 in
set_option maxRecDepth 100000 in
theorem tX1_perform_E {p : Program} {l : Launch} {e : Env} {s : State} {m : MethodId} {args : Array Value} {below : List Frame} {meth : Method} {c : Code} {D : va_G} {cy : Nat → ClassId} {B : Bs} (C : Cx p s m args c cX1_perform 6 RX1 D cy B) (hr : meth.sig.returnType = none) (hlocks : meth.locks = false) {N : Nat} {g : Gs} {x0 : Nat} {x1 : Int32} {x2 : Int32} {x3 : Int32} {x4 : Int32}  {dz : Ds} {d : Ds} (hf : fX1_perform N g x0 x1 x2 x3 x4 d = some ((), dz)) : WB p l e rmX1_perform s m args below meth c 6 D cy B 0 0 (MQ below (QV D cy B g dz) args s 0 0 (wA B)) g d [(0, .ref (ad B x0)), (1, .int x1), (2, .int x2), (3, .int x3), (4, .int x4)] 0 [] := by
  unfold fX1_perform at hf
  refine b_iload_n C dX1_perform_0 3 rfl rfl ?_
  refine b_if_eq C (tgt := 14) dX1_perform_1 (by decide) (fun c1 => ?_) (fun c1 => ?_)
  · have hf := it_s c1 hf
    refine b_sub [(0, .ref (ad B x0)), (1, .int x1), (2, .int x2), (3, .int x3), (4, .int x4)] [0, 1, 2, 3, 4] rfl ?_
    exact tX1_perform_14 C hr hlocks hf
  · have hf := if_s c1 hf
    refine b_iload_n C dX1_perform_4 3 rfl rfl ?_
    refine b_iconst C (v := 1) dX1_perform_5 (by decide) ?_
    refine b_icmp_eq C (tgt := 14) dX1_perform_6 (by decide) (fun c13 => ?_) (fun c13 => ?_)
    · have hf := it_s c13 hf
      refine b_sub [(0, .ref (ad B x0)), (1, .int x1), (2, .int x2), (3, .int x3), (4, .int x4)] [0, 1, 2, 3, 4] rfl ?_
      exact tX1_perform_14 C hr hlocks hf
    · have hf := if_s c13 hf
      refine b_iload_n C dX1_perform_9 3 rfl rfl ?_
      refine b_iconst C (v := 2) dX1_perform_10 (by decide) ?_
      refine b_icmp_ne C (tgt := 46) dX1_perform_11 (by decide) (fun c14 => ?_) (fun c14 => ?_)
      · have hf := if_s c14 hf
        refine b_iload_n C dX1_perform_46 3 rfl rfl ?_
        refine b_iconst C (v := 3) dX1_perform_47 (by decide) ?_
        refine b_icmp_ne C (tgt := 70) dX1_perform_48 (by decide) (fun c15 => ?_) (fun c15 => ?_)
        · have hf := if_s c15 hf
          refine b_iload_n C dX1_perform_70 3 rfl rfl ?_
          refine b_bipush C (v := 9) dX1_perform_71 (by decide) ?_
          refine b_icmp_ne C (tgt := 127) dX1_perform_73 (by decide) (fun c16 => ?_) (fun c16 => ?_)
          · have hf := if_s c16 hf
            refine b_sub [(0, .ref (ad B x0)), (1, .int x1), (2, .int x2), (3, .int x3), (4, .int x4)] [0, 1, 2, 3, 4] rfl ?_
            exact tX1_perform_127 C hr hlocks hf
          · have hf := it_s c16 hf
            refine b_iconst C (v := 0) dX1_perform_76 (by decide) ?_
            refine b_istore C dX1_perform_77 [(5, .int 0), (0, .ref (ad B x0)), (1, .int x1), (2, .int x2), (3, .int x3), (4, .int x4)] (by decide) rfl ?_
            refine b_sub [(0, .ref (ad B x0)), (1, .int x1), (2, .int x2), (3, .int x3), (4, .int x4), (5, .int 0)] [1, 2, 3, 4, 5, 0] rfl ?_
            exact tX1_perform_L79 C hr hlocks (0, d) hf
        · have hf := it_s c15 hf
          refine b_aload_n C dX1_perform_51 0 rfl rfl ?_
          obtain ⟨h33, hf⟩ := gd_s hf
          obtain ⟨r34, er34, hf⟩ := ob_s hf
          refine b_gR C dX1_perform_52 fl_X1_28 h33 er34 ?_
          refine b_dup C dX1_perform_55 rfl ?_
          obtain ⟨h35, hf⟩ := gd_s hf
          refine b_gI C dX1_perform_56 fl_X1_67 h35 ?_
          refine b_iconst C (v := 1) dX1_perform_59 (by decide) ?_
          refine b_iload C dX1_perform_60 4 rfl ?_
          refine b_ishl C dX1_perform_62 ?_
          refine b_ixor C dX1_perform_63 ?_
          obtain ⟨d36, ed36, hf⟩ := bd_s hf
          refine b_pI C dX1_perform_64 fl_X1_67 fp3_5 h35 ed36 ?_
          refine b_goto C (tgt := 127) dX1_perform_67 (by decide) ?_
          refine b_sub [(0, .ref (ad B x0)), (1, .int x1), (2, .int x2), (3, .int x3), (4, .int x4)] [0, 1, 2, 3, 4] rfl ?_
          exact tX1_perform_127 C hr hlocks hf
      · have hf := it_s c14 hf
        refine b_sub [(0, .ref (ad B x0)), (1, .int x1), (2, .int x2), (3, .int x3), (4, .int x4)] [0, 1, 2, 3, 4] rfl ?_
        exact tX1_perform_14 C hr hlocks hf
theorem kX1_perform (l : Launch) (D : va_G) (cy : Nat → ClassId) (B : Bs) {N : Nat} {g : Gs} {x0 : Nat} {x1 : Int32} {x2 : Int32} {x3 : Int32} {x4 : Int32}  {dz : Ds} {d : Ds} (hf : fX1_perform N g x0 x1 x2 x3 x4 d = some ((), dz)) : Met l yX1_perform (.code yX1_perform cX1_perform 6 none :: wl) rmX1_perform (PC D cy B [.ref (ad B x0), .int x1, .int x2, .int x3, .int x4] g d) (QV D cy B g dz) 0 0 (wA B) :=
  met_of (by decide +kernel) (Nat.le_of_ble_eq_true rfl) (fun p e s m args below meth c C hr hlocks _ => b_sub [(0, .ref (ad B x0)), (1, .int x1), (2, .int x2), (3, .int x3), (4, .int x4)] [0, 1, 2, 3, 4] rfl (tX1_perform_E C hr hlocks hf))
