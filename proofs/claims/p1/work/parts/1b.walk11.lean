/-! KeyMatrixModel.works()Z -/
theorem yo_X12_worksAlone : yX12_worksAlone.cls ≠ "java/lang/invoke/MethodHandle" ∧ yX12_worksAlone.cls ≠ "java/lang/invoke/VarHandle" ∧ (parseMethodDescriptor yX12_worksAlone.desc).map (fun d => d.parameters.length) = some 2 := by decide +kernel
theorem co_X12_worksAlone : Cond.code yX12_worksAlone cX12_worksAlone 8 (some .boolean) ∈ wl := mW (mT6 (List.mem_of_getElem? (i := 203) (by decide +kernel))) rfl
theorem in_X12_worksAlone : Cond.initialized yX12_worksAlone.cls ∈ wl := mW (mT1 (List.mem_of_getElem? (i := 12) (by decide +kernel))) rfl
theorem im_X12_worksAlone : Cond.instanceMethod yX12_worksAlone ∈ wl := mW (mT6 (List.mem_of_getElem? (i := 202) (by decide +kernel))) rfl
theorem se_X12_worksAlone : Cond.selects yX12_worksAlone.cls yX12_worksAlone yX12_worksAlone ∈ wl := mW (mT0 (List.mem_of_getElem? (i := 82) (by decide +kernel))) rfl
theorem lv_X12_269 : LV RX12 269 yX12_worksAlone cX12_worksAlone 8 (some .boolean) 2 11 := ⟨⟨(RX12, TX12, 33), rfl, rfl⟩, yo_X12_worksAlone, mW (mT6 (List.mem_of_getElem? (i := 200) (by decide +kernel))) rfl, im_X12_worksAlone, se_X12_worksAlone, in_X12_worksAlone, co_X12_worksAlone⟩
theorem yo_X12_chords : yX12_chords.cls ≠ "java/lang/invoke/MethodHandle" ∧ yX12_chords.cls ≠ "java/lang/invoke/VarHandle" ∧ (parseMethodDescriptor yX12_chords.desc).map (fun d => d.parameters.length) = some 3 := by decide +kernel
theorem co_X12_chords : Cond.code yX12_chords cX12_chords 6 none ∈ wl := mW (mT6 (List.mem_of_getElem? (i := 191) (by decide +kernel))) rfl
theorem in_X12_chords : Cond.initialized yX12_chords.cls ∈ wl := mW (mT1 (List.mem_of_getElem? (i := 12) (by decide +kernel))) rfl
theorem im_X12_chords : Cond.instanceMethod yX12_chords ∈ wl := mW (mT6 (List.mem_of_getElem? (i := 190) (by decide +kernel))) rfl
theorem se_X12_chords : Cond.selects yX12_chords.cls yX12_chords yX12_chords ∈ wl := mW (mT0 (List.mem_of_getElem? (i := 79) (by decide +kernel))) rfl
theorem lv_X12_265 : LV RX12 265 yX12_chords cX12_chords 6 none 3 11 := ⟨⟨(RX12, TX12, 33), rfl, rfl⟩, yo_X12_chords, mW (mT6 (List.mem_of_getElem? (i := 188) (by decide +kernel))) rfl, im_X12_chords, se_X12_chords, in_X12_chords, co_X12_chords⟩
theorem yo_X12_ends : yX12_ends.cls ≠ "java/lang/invoke/MethodHandle" ∧ yX12_ends.cls ≠ "java/lang/invoke/VarHandle" ∧ (parseMethodDescriptor yX12_ends.desc).map (fun d => d.parameters.length) = some 1 := by decide +kernel
theorem co_X12_ends : Cond.code yX12_ends cX12_ends 3 none ∈ wl := mW (mT6 (List.mem_of_getElem? (i := 143) (by decide +kernel))) rfl
theorem in_X12_ends : Cond.initialized yX12_ends.cls ∈ wl := mW (mT1 (List.mem_of_getElem? (i := 12) (by decide +kernel))) rfl
theorem im_X12_ends : Cond.instanceMethod yX12_ends ∈ wl := mW (mT6 (List.mem_of_getElem? (i := 142) (by decide +kernel))) rfl
theorem se_X12_ends : Cond.selects yX12_ends.cls yX12_ends yX12_ends ∈ wl := mW (mT0 (List.mem_of_getElem? (i := 67) (by decide +kernel))) rfl
theorem lv_X12_253 : LV RX12 253 yX12_ends cX12_ends 3 none 1 11 := ⟨⟨(RX12, TX12, 33), rfl, rfl⟩, yo_X12_ends, mW (mT6 (List.mem_of_getElem? (i := 140) (by decide +kernel))) rfl, im_X12_ends, se_X12_ends, in_X12_ends, co_X12_ends⟩
theorem dX12_works_0 : decode cX12_works 0 = .ok (.aload_n 0, 1) := by decide +kernel
theorem dX12_works_1 : decode cX12_works 1 = .ok (.iconst 0, 1) := by decide +kernel
theorem dX12_works_2 : decode cX12_works 2 = .ok (.invokevirtual 244, 3) := by decide +kernel
theorem dX12_works_5 : decode cX12_works 5 = .ok (.istore_n 1, 1) := by decide +kernel
theorem dX12_works_6 : decode cX12_works 6 = .ok (.aload_n 0, 1) := by decide +kernel
theorem dX12_works_7 : decode cX12_works 7 = .ok (.iconst 0, 1) := by decide +kernel
theorem dX12_works_8 : decode cX12_works 8 = .ok (.invokevirtual 247, 3) := by decide +kernel
theorem dX12_works_11 : decode cX12_works 11 = .ok (.ifCond .ne 19, 3) := by decide +kernel
theorem dX12_works_14 : decode cX12_works 14 = .ok (.aload_n 0, 1) := by decide +kernel
theorem dX12_works_15 : decode cX12_works 15 = .ok (.iconst 0, 1) := by decide +kernel
theorem dX12_works_16 : decode cX12_works 16 = .ok (.invokevirtual 250, 3) := by decide +kernel
theorem dX12_works_19 : decode cX12_works 19 = .ok (.aload_n 0, 1) := by decide +kernel
theorem dX12_works_20 : decode cX12_works 20 = .ok (.iload_n 1, 1) := by decide +kernel
theorem dX12_works_21 : decode cX12_works 21 = .ok (.invokevirtual 253, 3) := by decide +kernel
theorem dX12_works_24 : decode cX12_works 24 = .ok (.aload_n 0, 1) := by decide +kernel
theorem dX12_works_25 : decode cX12_works 25 = .ok (.invokevirtual 256, 3) := by decide +kernel
theorem dX12_works_28 : decode cX12_works 28 = .ok (.iconst 1, 1) := by decide +kernel
theorem dX12_works_29 : decode cX12_works 29 = .ok (.ireturn, 1) := by decide +kernel
theorem dX12_works_30 : decode cX12_works 30 = .ok (.aload_n 0, 1) := by decide +kernel
theorem dX12_works_31 : decode cX12_works 31 = .ok (.iconst 0, 1) := by decide +kernel
theorem dX12_works_32 : decode cX12_works 32 = .ok (.invokevirtual 259, 3) := by decide +kernel
theorem dX12_works_35 : decode cX12_works 35 = .ok (.istore_n 2, 1) := by decide +kernel
theorem dX12_works_36 : decode cX12_works 36 = .ok (.aload_n 0, 1) := by decide +kernel
theorem dX12_works_37 : decode cX12_works 37 = .ok (.iload_n 1, 1) := by decide +kernel
theorem dX12_works_38 : decode cX12_works 38 = .ok (.invokevirtual 262, 3) := by decide +kernel
theorem dX12_works_41 : decode cX12_works 41 = .ok (.istore_n 3, 1) := by decide +kernel
theorem dX12_works_42 : decode cX12_works 42 = .ok (.iload_n 3, 1) := by decide +kernel
theorem dX12_works_43 : decode cX12_works 43 = .ok (.ifCond .lt 136, 3) := by decide +kernel
theorem dX12_works_46 : decode cX12_works 46 = .ok (.aload_n 0, 1) := by decide +kernel
theorem dX12_works_47 : decode cX12_works 47 = .ok (.getfield 40, 3) := by decide +kernel
theorem dX12_works_50 : decode cX12_works 50 = .ok (.sipush 300, 3) := by decide +kernel
theorem dX12_works_53 : decode cX12_works 53 = .ok (.iconst 4, 1) := by decide +kernel
theorem dX12_works_54 : decode cX12_works 54 = .ok (.iload_n 3, 1) := by decide +kernel
theorem dX12_works_55 : decode cX12_works 55 = .ok (.imul, 1) := by decide +kernel
theorem dX12_works_56 : decode cX12_works 56 = .ok (.iadd, 1) := by decide +kernel
theorem dX12_works_57 : decode cX12_works 57 = .ok (.iaload, 1) := by decide +kernel
theorem dX12_works_58 : decode cX12_works 58 = .ok (.aload_n 0, 1) := by decide +kernel
theorem dX12_works_59 : decode cX12_works 59 = .ok (.getfield 40, 3) := by decide +kernel
theorem dX12_works_62 : decode cX12_works 62 = .ok (.sipush 300, 3) := by decide +kernel
theorem dX12_works_65 : decode cX12_works 65 = .ok (.iconst 4, 1) := by decide +kernel
theorem dX12_works_66 : decode cX12_works 66 = .ok (.iload_n 3, 1) := by decide +kernel
theorem dX12_works_67 : decode cX12_works 67 = .ok (.imul, 1) := by decide +kernel
theorem dX12_works_68 : decode cX12_works 68 = .ok (.iadd, 1) := by decide +kernel
theorem dX12_works_69 : decode cX12_works 69 = .ok (.iconst 1, 1) := by decide +kernel
theorem dX12_works_70 : decode cX12_works 70 = .ok (.iadd, 1) := by decide +kernel
theorem dX12_works_71 : decode cX12_works 71 = .ok (.iaload, 1) := by decide +kernel
theorem dX12_works_72 : decode cX12_works 72 = .ok (.iadd, 1) := by decide +kernel
theorem dX12_works_73 : decode cX12_works 73 = .ok (.iload_n 1, 1) := by decide +kernel
theorem dX12_works_74 : decode cX12_works 74 = .ok (.isub, 1) := by decide +kernel
theorem dX12_works_75 : decode cX12_works 75 = .ok (.istore 4, 2) := by decide +kernel
theorem dX12_works_77 : decode cX12_works 77 = .ok (.iload_n 2, 1) := by decide +kernel
theorem dX12_works_78 : decode cX12_works 78 = .ok (.aload_n 0, 1) := by decide +kernel
theorem dX12_works_79 : decode cX12_works 79 = .ok (.getfield 40, 3) := by decide +kernel
theorem dX12_works_82 : decode cX12_works 82 = .ok (.bipush 6, 2) := by decide +kernel
theorem dX12_works_84 : decode cX12_works 84 = .ok (.iaload, 1) := by decide +kernel
theorem dX12_works_85 : decode cX12_works 85 = .ok (.iadd, 1) := by decide +kernel
theorem dX12_works_86 : decode cX12_works 86 = .ok (.istore 5, 2) := by decide +kernel
theorem dX12_works_88 : decode cX12_works 88 = .ok (.aload_n 0, 1) := by decide +kernel
theorem dX12_works_89 : decode cX12_works 89 = .ok (.getfield 40, 3) := by decide +kernel
theorem dX12_works_92 : decode cX12_works 92 = .ok (.sipush 557, 3) := by decide +kernel
theorem dX12_works_95 : decode cX12_works 95 = .ok (.iaload, 1) := by decide +kernel
theorem dX12_works_96 : decode cX12_works 96 = .ok (.iconst 1, 1) := by decide +kernel
theorem dX12_works_97 : decode cX12_works 97 = .ok (.if_icmp .ne 18, 3) := by decide +kernel
theorem dX12_works_100 : decode cX12_works 100 = .ok (.aload_n 0, 1) := by decide +kernel
theorem dX12_works_101 : decode cX12_works 101 = .ok (.getfield 40, 3) := by decide +kernel
theorem dX12_works_104 : decode cX12_works 104 = .ok (.sipush 354, 3) := by decide +kernel
theorem dX12_works_107 : decode cX12_works 107 = .ok (.iaload, 1) := by decide +kernel
theorem dX12_works_108 : decode cX12_works 108 = .ok (.iload 5, 2) := by decide +kernel
theorem dX12_works_110 : decode cX12_works 110 = .ok (.if_icmp .ge 5, 3) := by decide +kernel
theorem dX12_works_113 : decode cX12_works 113 = .ok (.iconst 0, 1) := by decide +kernel
theorem dX12_works_114 : decode cX12_works 114 = .ok (.ireturn, 1) := by decide +kernel
theorem dX12_works_115 : decode cX12_works 115 = .ok (.aload_n 0, 1) := by decide +kernel
theorem dX12_works_116 : decode cX12_works 116 = .ok (.getfield 40, 3) := by decide +kernel
theorem dX12_works_119 : decode cX12_works 119 = .ok (.sipush 557, 3) := by decide +kernel
theorem dX12_works_122 : decode cX12_works 122 = .ok (.iaload, 1) := by decide +kernel
theorem dX12_works_123 : decode cX12_works 123 = .ok (.iconst 1, 1) := by decide +kernel
theorem dX12_works_124 : decode cX12_works 124 = .ok (.if_icmp .le 55, 3) := by decide +kernel
theorem dX12_works_127 : decode cX12_works 127 = .ok (.aload_n 0, 1) := by decide +kernel
theorem dX12_works_128 : decode cX12_works 128 = .ok (.iconst 1, 1) := by decide +kernel
theorem dX12_works_129 : decode cX12_works 129 = .ok (.invokevirtual 247, 3) := by decide +kernel
theorem dX12_works_132 : decode cX12_works 132 = .ok (.ifCond .eq 47, 3) := by decide +kernel
theorem dX12_works_135 : decode cX12_works 135 = .ok (.aload_n 0, 1) := by decide +kernel
theorem dX12_works_136 : decode cX12_works 136 = .ok (.iconst 1, 1) := by decide +kernel
theorem dX12_works_137 : decode cX12_works 137 = .ok (.invokevirtual 244, 3) := by decide +kernel
theorem dX12_works_140 : decode cX12_works 140 = .ok (.iload 4, 2) := by decide +kernel
theorem dX12_works_142 : decode cX12_works 142 = .ok (.if_icmp .ne 37, 3) := by decide +kernel
theorem dX12_works_145 : decode cX12_works 145 = .ok (.aload_n 0, 1) := by decide +kernel
theorem dX12_works_146 : decode cX12_works 146 = .ok (.iconst 1, 1) := by decide +kernel
theorem dX12_works_147 : decode cX12_works 147 = .ok (.invokevirtual 259, 3) := by decide +kernel
theorem dX12_works_150 : decode cX12_works 150 = .ok (.iload 5, 2) := by decide +kernel
theorem dX12_works_152 : decode cX12_works 152 = .ok (.if_icmp .ge 27, 3) := by decide +kernel
theorem dX12_works_155 : decode cX12_works 155 = .ok (.aload_n 0, 1) := by decide +kernel
theorem dX12_works_156 : decode cX12_works 156 = .ok (.iconst 0, 1) := by decide +kernel
theorem dX12_works_157 : decode cX12_works 157 = .ok (.invokevirtual 250, 3) := by decide +kernel
theorem dX12_works_160 : decode cX12_works 160 = .ok (.aload_n 0, 1) := by decide +kernel
theorem dX12_works_161 : decode cX12_works 161 = .ok (.iconst 0, 1) := by decide +kernel
theorem dX12_works_162 : decode cX12_works 162 = .ok (.invokevirtual 250, 3) := by decide +kernel
theorem dX12_works_165 : decode cX12_works 165 = .ok (.aload_n 0, 1) := by decide +kernel
theorem dX12_works_166 : decode cX12_works 166 = .ok (.iload_n 3, 1) := by decide +kernel
theorem dX12_works_167 : decode cX12_works 167 = .ok (.iload_n 1, 1) := by decide +kernel
theorem dX12_works_168 : decode cX12_works 168 = .ok (.iload 4, 2) := by decide +kernel
theorem dX12_works_170 : decode cX12_works 170 = .ok (.invokevirtual 265, 3) := by decide +kernel
theorem dX12_works_173 : decode cX12_works 173 = .ok (.aload_n 0, 1) := by decide +kernel
theorem dX12_works_174 : decode cX12_works 174 = .ok (.invokevirtual 256, 3) := by decide +kernel
theorem dX12_works_177 : decode cX12_works 177 = .ok (.iconst 1, 1) := by decide +kernel
theorem dX12_works_178 : decode cX12_works 178 = .ok (.ireturn, 1) := by decide +kernel
theorem dX12_works_179 : decode cX12_works 179 = .ok (.aload_n 0, 1) := by decide +kernel
theorem dX12_works_180 : decode cX12_works 180 = .ok (.iload_n 1, 1) := by decide +kernel
theorem dX12_works_181 : decode cX12_works 181 = .ok (.iload_n 2, 1) := by decide +kernel
theorem dX12_works_182 : decode cX12_works 182 = .ok (.invokevirtual 269, 3) := by decide +kernel
theorem dX12_works_185 : decode cX12_works 185 = .ok (.ireturn, 1) := by decide +kernel
def rmX12_works : Room := { frames := 6, cells := 0, slots := 0, locals := 143 }
set_option maxRecDepth 100000 in
def fX12_works_J179 (N : Nat) (g : Gs) (x0 : Nat) (y1 : Int32) (y2 : Int32) (d : Ds) : Option (Int32 × Ds) := gd (chk g x0 11) <| cb (fX12_worksAlone N g x0 y1 y2 d) fun u19 d17 => (gd (u19 = 0 ∨ u19 = 1) <| some (u19, d17))
set_option maxHeartbeats 4000000 in
set_option maxRecDepth 100000 in
theorem tX12_works_179 {p : Program} {l : Launch} {e : Env} {s : State} {m : MethodId} {args : Array Value} {below : List Frame} {meth : Method} {c : Code} {D : va_G} {cy : Nat → ClassId} {B : Bs} (C : Cx p s m args c cX12_works 6 RX12 D cy B) (hr : meth.sig.returnType = (some .boolean)) (hlocks : meth.locks = false) {N : Nat} {g : Gs} {x0 : Nat} {vz : Int32} {dz : Ds} {y1 : Int32} {y2 : Int32} {d : Ds} (hf : fX12_works_J179 N g x0 y1 y2 d = some (vz, dz)) : WB p l e rmX12_works s m args below meth c 6 D cy B 0 0 (MQ below (QI D cy B vz g dz) args s 0 0 (wA B)) g d [(0, .ref (ad B x0)), (1, .int y1), (2, .int y2)] 179 [] := by
  unfold fX12_works_J179 at hf
  refine b_aload_n C dX12_works_179 0 rfl rfl ?_
  refine b_iload_n C dX12_works_180 1 rfl rfl ?_
  refine b_iload_n C dX12_works_181 2 rfl rfl ?_
  obtain ⟨h16, hf⟩ := gd_s hf
  obtain ⟨u19, d17, k18, hf⟩ := cb_s hf
  refine b_cVI C [] dX12_works_182 (kX12_worksAlone l D cy B k18) lv_X12_269 ⟨rfl, rfl, Nat.le_of_ble_eq_true rfl, Nat.le_of_ble_eq_true rfl⟩ h16 (by decide) rfl (Nat.le_of_ble_eq_true rfl) ⟨Nat.zero_le _, Nat.zero_le _⟩ rfl ?_
  obtain ⟨h20, hf⟩ := gd_s hf
  exact b_zret C hr hlocks h20 hf dX12_works_185
set_option maxRecDepth 100000 in
def fX12_works_J115 (N : Nat) (g : Gs) (x0 : Nat) (y1 : Int32) (y2 : Int32) (y3 : Int32) (y4 : Int32) (y5 : Int32) (d : Ds) : Option (Int32 × Ds) := gd (chk g x0 11) <| ob (gR g x0 17) fun r32 => (gd (chk g r32 102) <| gd (¬ ((557 : Int32) < 0 ∨ gL g r32 ≤ (557 : Int32).toNatClampNeg)) <| if (dI d r32 (557 : Int32).toNatClampNeg) ≤ (1 : Int32) then (fX12_works_J179 N g x0 y1 y2 d) else (cb (fX12_isDownAt N g x0 1 d) fun u38 d36 => (if u38 = 0 then (fX12_works_J179 N g x0 y1 y2 d36) else (cb (fX12_keyAt N g x0 1 d36) fun u42 d40 => (if u42 = y4 then (cb (fX12_timeAt N g x0 1 d40) fun u46 d44 => (if y5 ≤ u46 then (fX12_works_J179 N g x0 y1 y2 d44) else (cv (fX12_drops N g x0 0 d44) fun d48 => (cv (fX12_drops N g x0 0 d48) fun d50 => (cv (fX12_chords N g x0 y3 y1 y4 d50) fun d52 => (cv (fX12_reports N g x0 d52) fun d54 => (some (1, d54)))))))) else (fX12_works_J179 N g x0 y1 y2 d40))))))
set_option maxHeartbeats 4000000 in
set_option maxRecDepth 100000 in
theorem tX12_works_115 {p : Program} {l : Launch} {e : Env} {s : State} {m : MethodId} {args : Array Value} {below : List Frame} {meth : Method} {c : Code} {D : va_G} {cy : Nat → ClassId} {B : Bs} (C : Cx p s m args c cX12_works 6 RX12 D cy B) (hr : meth.sig.returnType = (some .boolean)) (hlocks : meth.locks = false) {N : Nat} {g : Gs} {x0 : Nat} {vz : Int32} {dz : Ds} {y1 : Int32} {y2 : Int32} {y3 : Int32} {y4 : Int32} {y5 : Int32} {d : Ds} (hf : fX12_works_J115 N g x0 y1 y2 y3 y4 y5 d = some (vz, dz)) : WB p l e rmX12_works s m args below meth c 6 D cy B 0 0 (MQ below (QI D cy B vz g dz) args s 0 0 (wA B)) g d [(0, .ref (ad B x0)), (1, .int y1), (2, .int y2), (3, .int y3), (4, .int y4), (5, .int y5)] 115 [] := by
  unfold fX12_works_J115 at hf
  refine b_aload_n C dX12_works_115 0 rfl rfl ?_
  obtain ⟨h31, hf⟩ := gd_s hf
  obtain ⟨r32, er32, hf⟩ := ob_s hf
  refine b_gR C dX12_works_116 fl_X12_40 h31 er32 ?_
  refine b_sipush C (v := 557) dX12_works_119 (by decide) ?_
  obtain ⟨h33, hf⟩ := gd_s hf
  obtain ⟨h34, hf⟩ := gd_s hf
  refine b_iald C h33 h34 dX12_works_122 ?_
  refine b_iconst C (v := 1) dX12_works_123 (by decide) ?_
  refine b_icmp_le C (tgt := 179) dX12_works_124 (by decide) (fun c35 => ?_) (fun c35 => ?_)
  · have hf := it_s c35 hf
    refine b_sub [(0, .ref (ad B x0)), (1, .int y1), (2, .int y2)] [0, 1, 2] rfl ?_
    exact tX12_works_179 C hr hlocks hf
  · have hf := if_s c35 hf
    refine b_aload_n C dX12_works_127 0 rfl rfl ?_
    refine b_iconst C (v := 1) dX12_works_128 (by decide) ?_
    obtain ⟨u38, d36, k37, hf⟩ := cb_s hf
    refine b_cVI C [] dX12_works_129 (kX12_isDownAt l D cy B k37) lv_X12_247 ⟨rfl, rfl, Nat.le_of_ble_eq_true rfl, Nat.le_of_ble_eq_true rfl⟩ h31 (by decide) rfl (Nat.le_of_ble_eq_true rfl) ⟨Nat.zero_le _, Nat.zero_le _⟩ rfl ?_
    refine b_if_eq C (tgt := 179) dX12_works_132 (by decide) (fun c39 => ?_) (fun c39 => ?_)
    · have hf := it_s c39 hf
      refine b_sub [(0, .ref (ad B x0)), (1, .int y1), (2, .int y2)] [0, 1, 2] rfl ?_
      exact tX12_works_179 C hr hlocks hf
    · have hf := if_s c39 hf
      refine b_aload_n C dX12_works_135 0 rfl rfl ?_
      refine b_iconst C (v := 1) dX12_works_136 (by decide) ?_
      obtain ⟨u42, d40, k41, hf⟩ := cb_s hf
      refine b_cVI C [] dX12_works_137 (kX12_keyAt l D cy B k41) lv_X12_244 ⟨rfl, rfl, Nat.le_of_ble_eq_true rfl, Nat.le_of_ble_eq_true rfl⟩ h31 (by decide) rfl (Nat.le_of_ble_eq_true rfl) ⟨Nat.zero_le _, Nat.zero_le _⟩ rfl ?_
      refine b_iload C dX12_works_140 4 rfl ?_
      refine b_icmp_ne C (tgt := 179) dX12_works_142 (by decide) (fun c43 => ?_) (fun c43 => ?_)
      · have hf := if_s c43 hf
        refine b_sub [(0, .ref (ad B x0)), (1, .int y1), (2, .int y2)] [0, 1, 2] rfl ?_
        exact tX12_works_179 C hr hlocks hf
      · have hf := it_s c43 hf
        refine b_aload_n C dX12_works_145 0 rfl rfl ?_
        refine b_iconst C (v := 1) dX12_works_146 (by decide) ?_
        obtain ⟨u46, d44, k45, hf⟩ := cb_s hf
        refine b_cVI C [] dX12_works_147 (kX12_timeAt l D cy B k45) lv_X12_259 ⟨rfl, rfl, Nat.le_of_ble_eq_true rfl, Nat.le_of_ble_eq_true rfl⟩ h31 (by decide) rfl (Nat.le_of_ble_eq_true rfl) ⟨Nat.zero_le _, Nat.zero_le _⟩ rfl ?_
        refine b_iload C dX12_works_150 5 rfl ?_
        refine b_icmp_ge C (tgt := 179) dX12_works_152 (by decide) (fun c47 => ?_) (fun c47 => ?_)
        · have hf := it_s c47 hf
          refine b_sub [(0, .ref (ad B x0)), (1, .int y1), (2, .int y2)] [0, 1, 2] rfl ?_
          exact tX12_works_179 C hr hlocks hf
        · have hf := if_s c47 hf
          refine b_aload_n C dX12_works_155 0 rfl rfl ?_
          refine b_iconst C (v := 0) dX12_works_156 (by decide) ?_
          obtain ⟨d48, k49, hf⟩ := cv_s hf
          refine b_cVN C [] dX12_works_157 (kX12_drops l D cy B k49) lv_X12_250 ⟨rfl, rfl, Nat.le_of_ble_eq_true rfl, Nat.le_of_ble_eq_true rfl⟩ h31 (by decide) rfl (Nat.le_of_ble_eq_true rfl) ⟨Nat.zero_le _, Nat.zero_le _⟩ rfl ?_
          refine b_aload_n C dX12_works_160 0 rfl rfl ?_
          refine b_iconst C (v := 0) dX12_works_161 (by decide) ?_
          obtain ⟨d50, k51, hf⟩ := cv_s hf
          refine b_cVN C [] dX12_works_162 (kX12_drops l D cy B k51) lv_X12_250 ⟨rfl, rfl, Nat.le_of_ble_eq_true rfl, Nat.le_of_ble_eq_true rfl⟩ h31 (by decide) rfl (Nat.le_of_ble_eq_true rfl) ⟨Nat.zero_le _, Nat.zero_le _⟩ rfl ?_
          refine b_aload_n C dX12_works_165 0 rfl rfl ?_
          refine b_iload_n C dX12_works_166 3 rfl rfl ?_
          refine b_iload_n C dX12_works_167 1 rfl rfl ?_
          refine b_iload C dX12_works_168 4 rfl ?_
          obtain ⟨d52, k53, hf⟩ := cv_s hf
          refine b_cVN C [] dX12_works_170 (kX12_chords l D cy B k53) lv_X12_265 ⟨rfl, rfl, Nat.le_of_ble_eq_true rfl, Nat.le_of_ble_eq_true rfl⟩ h31 (by decide) rfl (Nat.le_of_ble_eq_true rfl) ⟨Nat.zero_le _, Nat.zero_le _⟩ rfl ?_
          refine b_aload_n C dX12_works_173 0 rfl rfl ?_
          obtain ⟨d54, k55, hf⟩ := cv_s hf
          refine b_cVN C [] dX12_works_174 (kX12_reports l D cy B k55) lv_X12_256 ⟨rfl, rfl, Nat.le_of_ble_eq_true rfl, Nat.le_of_ble_eq_true rfl⟩ h31 (by decide) rfl (Nat.le_of_ble_eq_true rfl) ⟨Nat.zero_le _, Nat.zero_le _⟩ rfl ?_
          refine b_iconst C (v := 1) dX12_works_177 (by decide) ?_
          exact b_zret C hr hlocks (by decide) hf dX12_works_178
set_option maxRecDepth 100000 in
def fX12_works (N : Nat) (g : Gs) (x0 : Nat) (d : Ds) : Option (Int32 × Ds) := gd (chk g x0 11) <| cb (fX12_keyAt N g x0 0 d) fun u4 d2 => (cb (fX12_isDownAt N g x0 0 d2) fun u7 d5 => (if u7 = 0 then (cv (fX12_drops N g x0 0 d5) fun d58 => (cv (fX12_ends N g x0 u4 d58) fun d60 => (cv (fX12_reports N g x0 d60) fun d62 => (some (1, d62))))) else (cb (fX12_timeAt N g x0 0 d5) fun u11 d9 => (cb (fX12_chordOf N g x0 u4 d9) fun u14 d12 => (if u14 < 0 then (fX12_works_J179 N g x0 u4 u11 d12) else (ob (gR g x0 17) fun r21 => (gd (chk g r21 102) <| gd (¬ (((300 : Int32) + ((4 : Int32) * u14)) < 0 ∨ gL g r21 ≤ ((300 : Int32) + ((4 : Int32) * u14)).toNatClampNeg)) <| gd (¬ ((((300 : Int32) + ((4 : Int32) * u14)) + 1) < 0 ∨ gL g r21 ≤ (((300 : Int32) + ((4 : Int32) * u14)) + 1).toNatClampNeg)) <| bd ((dI d12 r21 ((300 : Int32) + ((4 : Int32) * u14)).toNatClampNeg) + (dI d12 r21 (((300 : Int32) + ((4 : Int32) * u14)) + 1).toNatClampNeg)) fun u25 => (bd ((u25 - u4)) fun u26 => (gd (¬ ((6 : Int32) < 0 ∨ gL g r21 ≤ (6 : Int32).toNatClampNeg)) <| bd ((u11 + (dI d12 r21 (6 : Int32).toNatClampNeg))) fun u28 => (gd (¬ ((557 : Int32) < 0 ∨ gL g r21 ≤ (557 : Int32).toNatClampNeg)) <| if (dI d12 r21 (557 : Int32).toNatClampNeg) = (1 : Int32) then (gd (¬ ((354 : Int32) < 0 ∨ gL g r21 ≤ (354 : Int32).toNatClampNeg)) <| if u28 ≤ (dI d12 r21 (354 : Int32).toNatClampNeg) then (fX12_works_J115 N g x0 u4 u11 u14 u26 u28 d12) else (some (0, d12))) else (fX12_works_J115 N g x0 u4 u11 u14 u26 u28 d12)))))))))))
set_option maxHeartbeats 4000000 in
set_option maxRecDepth 100000 in
theorem tX12_works_E {p : Program} {l : Launch} {e : Env} {s : State} {m : MethodId} {args : Array Value} {below : List Frame} {meth : Method} {c : Code} {D : va_G} {cy : Nat → ClassId} {B : Bs} (C : Cx p s m args c cX12_works 6 RX12 D cy B) (hr : meth.sig.returnType = (some .boolean)) (hlocks : meth.locks = false) {N : Nat} {g : Gs} {x0 : Nat} {vz : Int32} {dz : Ds} {d : Ds} (hf : fX12_works N g x0 d = some (vz, dz)) : WB p l e rmX12_works s m args below meth c 6 D cy B 0 0 (MQ below (QI D cy B vz g dz) args s 0 0 (wA B)) g d [(0, .ref (ad B x0))] 0 [] := by
  unfold fX12_works at hf
  refine b_aload_n C dX12_works_0 0 rfl rfl ?_
  refine b_iconst C (v := 0) dX12_works_1 (by decide) ?_
  obtain ⟨h1, hf⟩ := gd_s hf
  obtain ⟨u4, d2, k3, hf⟩ := cb_s hf
  refine b_cVI C [] dX12_works_2 (kX12_keyAt l D cy B k3) lv_X12_244 ⟨rfl, rfl, Nat.le_of_ble_eq_true rfl, Nat.le_of_ble_eq_true rfl⟩ h1 (by decide) rfl (Nat.le_of_ble_eq_true rfl) ⟨Nat.zero_le _, Nat.zero_le _⟩ rfl ?_
  refine b_istore_n C dX12_works_5 rfl [(1, .int u4), (0, .ref (ad B x0))] (by decide) rfl ?_
  refine b_aload_n C dX12_works_6 1 rfl rfl ?_
  refine b_iconst C (v := 0) dX12_works_7 (by decide) ?_
  obtain ⟨u7, d5, k6, hf⟩ := cb_s hf
  refine b_cVI C [] dX12_works_8 (kX12_isDownAt l D cy B k6) lv_X12_247 ⟨rfl, rfl, Nat.le_of_ble_eq_true rfl, Nat.le_of_ble_eq_true rfl⟩ h1 (by decide) rfl (Nat.le_of_ble_eq_true rfl) ⟨Nat.zero_le _, Nat.zero_le _⟩ rfl ?_
  refine b_if_ne C (tgt := 30) dX12_works_11 (by decide) (fun c8 => ?_) (fun c8 => ?_)
  · have hf := if_s c8 hf
    refine b_aload_n C dX12_works_30 1 rfl rfl ?_
    refine b_iconst C (v := 0) dX12_works_31 (by decide) ?_
    obtain ⟨u11, d9, k10, hf⟩ := cb_s hf
    refine b_cVI C [] dX12_works_32 (kX12_timeAt l D cy B k10) lv_X12_259 ⟨rfl, rfl, Nat.le_of_ble_eq_true rfl, Nat.le_of_ble_eq_true rfl⟩ h1 (by decide) rfl (Nat.le_of_ble_eq_true rfl) ⟨Nat.zero_le _, Nat.zero_le _⟩ rfl ?_
    refine b_istore_n C dX12_works_35 rfl [(2, .int u11), (1, .int u4), (0, .ref (ad B x0))] (by decide) rfl ?_
    refine b_aload_n C dX12_works_36 2 rfl rfl ?_
    refine b_iload_n C dX12_works_37 1 rfl rfl ?_
    obtain ⟨u14, d12, k13, hf⟩ := cb_s hf
    refine b_cVI C [] dX12_works_38 (kX12_chordOf l D cy B k13) lv_X12_262 ⟨rfl, rfl, Nat.le_of_ble_eq_true rfl, Nat.le_of_ble_eq_true rfl⟩ h1 (by decide) rfl (Nat.le_of_ble_eq_true rfl) ⟨Nat.zero_le _, Nat.zero_le _⟩ rfl ?_
    refine b_istore_n C dX12_works_41 rfl [(3, .int u14), (2, .int u11), (1, .int u4), (0, .ref (ad B x0))] (by decide) rfl ?_
    refine b_iload_n C dX12_works_42 0 rfl rfl ?_
    refine b_if_lt C (tgt := 179) dX12_works_43 (by decide) (fun c15 => ?_) (fun c15 => ?_)
    · have hf := it_s c15 hf
      refine b_sub [(0, .ref (ad B x0)), (1, .int u4), (2, .int u11)] [3, 2, 1] rfl ?_
      exact tX12_works_179 C hr hlocks hf
    · have hf := if_s c15 hf
      refine b_aload_n C dX12_works_46 3 rfl rfl ?_
      obtain ⟨r21, er21, hf⟩ := ob_s hf
      refine b_gR C dX12_works_47 fl_X12_40 h1 er21 ?_
      refine b_sipush C (v := 300) dX12_works_50 (by decide) ?_
      refine b_iconst C (v := 4) dX12_works_53 (by decide) ?_
      refine b_iload_n C dX12_works_54 0 rfl rfl ?_
      refine b_imul C dX12_works_55 ?_
      refine b_iadd C dX12_works_56 ?_
      obtain ⟨h22, hf⟩ := gd_s hf
      obtain ⟨h23, hf⟩ := gd_s hf
      refine b_iald C h22 h23 dX12_works_57 ?_
      refine b_aload_n C dX12_works_58 3 rfl rfl ?_
      refine b_gR C dX12_works_59 fl_X12_40 h1 er21 ?_
      refine b_sipush C (v := 300) dX12_works_62 (by decide) ?_
      refine b_iconst C (v := 4) dX12_works_65 (by decide) ?_
      refine b_iload_n C dX12_works_66 0 rfl rfl ?_
      refine b_imul C dX12_works_67 ?_
      refine b_iadd C dX12_works_68 ?_
      refine b_iconst C (v := 1) dX12_works_69 (by decide) ?_
      refine b_iadd C dX12_works_70 ?_
      obtain ⟨h24, hf⟩ := gd_s hf
      refine b_iald C h22 h24 dX12_works_71 ?_
      refine b_iadd C dX12_works_72 ?_
      obtain ⟨u25, eu25, hf⟩ := bd_s hf
      refine b_topI eu25 ?_
      refine b_iload_n C dX12_works_73 2 rfl rfl ?_
      refine b_isub C dX12_works_74 ?_
      obtain ⟨u26, eu26, hf⟩ := bd_s hf
      refine b_topI eu26 ?_
      refine b_istore C dX12_works_75 [(4, .int u26), (3, .int u14), (2, .int u11), (1, .int u4), (0, .ref (ad B x0))] (by decide) rfl ?_
      refine b_iload_n C dX12_works_77 2 rfl rfl ?_
      refine b_aload_n C dX12_works_78 4 rfl rfl ?_
      refine b_gR C dX12_works_79 fl_X12_40 h1 er21 ?_
      refine b_bipush C (v := 6) dX12_works_82 (by decide) ?_
      obtain ⟨h27, hf⟩ := gd_s hf
      refine b_iald C h22 h27 dX12_works_84 ?_
      refine b_iadd C dX12_works_85 ?_
      obtain ⟨u28, eu28, hf⟩ := bd_s hf
      refine b_topI eu28 ?_
      refine b_istore C dX12_works_86 [(5, .int u28), (4, .int u26), (3, .int u14), (2, .int u11), (1, .int u4), (0, .ref (ad B x0))] (by decide) rfl ?_
      refine b_aload_n C dX12_works_88 5 rfl rfl ?_
      refine b_gR C dX12_works_89 fl_X12_40 h1 er21 ?_
      refine b_sipush C (v := 557) dX12_works_92 (by decide) ?_
      obtain ⟨h29, hf⟩ := gd_s hf
      refine b_iald C h22 h29 dX12_works_95 ?_
      refine b_iconst C (v := 1) dX12_works_96 (by decide) ?_
      refine b_icmp_ne C (tgt := 115) dX12_works_97 (by decide) (fun c30 => ?_) (fun c30 => ?_)
      · have hf := if_s c30 hf
        refine b_sub [(0, .ref (ad B x0)), (1, .int u4), (2, .int u11), (3, .int u14), (4, .int u26), (5, .int u28)] [5, 4, 3, 2, 1, 0] rfl ?_
        exact tX12_works_115 C hr hlocks hf
      · have hf := it_s c30 hf
        refine b_aload_n C dX12_works_100 5 rfl rfl ?_
        refine b_gR C dX12_works_101 fl_X12_40 h1 er21 ?_
        refine b_sipush C (v := 354) dX12_works_104 (by decide) ?_
        obtain ⟨h56, hf⟩ := gd_s hf
        refine b_iald C h22 h56 dX12_works_107 ?_
        refine b_iload C dX12_works_108 0 rfl ?_
        refine b_icmp_ge C (tgt := 115) dX12_works_110 (by decide) (fun c57 => ?_) (fun c57 => ?_)
        · have hf := it_s c57 hf
          refine b_sub [(0, .ref (ad B x0)), (1, .int u4), (2, .int u11), (3, .int u14), (4, .int u26), (5, .int u28)] [5, 4, 3, 2, 1, 0] rfl ?_
          exact tX12_works_115 C hr hlocks hf
        · have hf := if_s c57 hf
          refine b_iconst C (v := 0) dX12_works_113 (by decide) ?_
          exact b_zret C hr hlocks (by decide) hf dX12_works_114
  · have hf := it_s c8 hf
    refine b_aload_n C dX12_works_14 1 rfl rfl ?_
    refine b_iconst C (v := 0) dX12_works_15 (by decide) ?_
    obtain ⟨d58, k59, hf⟩ := cv_s hf
    refine b_cVN C [] dX12_works_16 (kX12_drops l D cy B k59) lv_X12_250 ⟨rfl, rfl, Nat.le_of_ble_eq_true rfl, Nat.le_of_ble_eq_true rfl⟩ h1 (by decide) rfl (Nat.le_of_ble_eq_true rfl) ⟨Nat.zero_le _, Nat.zero_le _⟩ rfl ?_
    refine b_aload_n C dX12_works_19 1 rfl rfl ?_
    refine b_iload_n C dX12_works_20 0 rfl rfl ?_
    obtain ⟨d60, k61, hf⟩ := cv_s hf
    refine b_cVN C [] dX12_works_21 (kX12_ends l D cy B k61) lv_X12_253 ⟨rfl, rfl, Nat.le_of_ble_eq_true rfl, Nat.le_of_ble_eq_true rfl⟩ h1 (by decide) rfl (Nat.le_of_ble_eq_true rfl) ⟨Nat.zero_le _, Nat.zero_le _⟩ rfl ?_
    refine b_aload_n C dX12_works_24 1 rfl rfl ?_
    obtain ⟨d62, k63, hf⟩ := cv_s hf
    refine b_cVN C [] dX12_works_25 (kX12_reports l D cy B k63) lv_X12_256 ⟨rfl, rfl, Nat.le_of_ble_eq_true rfl, Nat.le_of_ble_eq_true rfl⟩ h1 (by decide) rfl (Nat.le_of_ble_eq_true rfl) ⟨Nat.zero_le _, Nat.zero_le _⟩ rfl ?_
    refine b_iconst C (v := 1) dX12_works_28 (by decide) ?_
    exact b_zret C hr hlocks (by decide) hf dX12_works_29
theorem kX12_works (l : Launch) (D : va_G) (cy : Nat → ClassId) (B : Bs) {N : Nat} {g : Gs} {x0 : Nat} {vz : Int32} {dz : Ds} {d : Ds} (hf : fX12_works N g x0 d = some (vz, dz)) : Met l yX12_works (.code yX12_works cX12_works 6 (some .boolean) :: wl) rmX12_works (PC D cy B [.ref (ad B x0)] g d) (QI D cy B vz g dz) 0 0 (wA B) :=
  met_of (by decide +kernel) (Nat.le_of_ble_eq_true rfl) (fun p e s m args below meth c C hr hlocks _ => b_sub [(0, .ref (ad B x0))] [0] rfl (tX12_works_E C hr hlocks hf))
/-! KeyMatrixModel.repeats()V -/
theorem dX12_repeats_0 : decode cX12_repeats 0 = .ok (.aload_n 0, 1) := by decide +kernel
theorem dX12_repeats_1 : decode cX12_repeats 1 = .ok (.getfield 40, 3) := by decide +kernel
theorem dX12_repeats_4 : decode cX12_repeats 4 = .ok (.sipush 455, 3) := by decide +kernel
theorem dX12_repeats_7 : decode cX12_repeats 7 = .ok (.iaload, 1) := by decide +kernel
theorem dX12_repeats_8 : decode cX12_repeats 8 = .ok (.ifCond .ge 4, 3) := by decide +kernel
theorem dX12_repeats_11 : decode cX12_repeats 11 = .ok (.return_, 1) := by decide +kernel
theorem dX12_repeats_12 : decode cX12_repeats 12 = .ok (.aload_n 0, 1) := by decide +kernel
theorem dX12_repeats_13 : decode cX12_repeats 13 = .ok (.getfield 40, 3) := by decide +kernel
theorem dX12_repeats_16 : decode cX12_repeats 16 = .ok (.sipush 354, 3) := by decide +kernel
theorem dX12_repeats_19 : decode cX12_repeats 19 = .ok (.iaload, 1) := by decide +kernel
theorem dX12_repeats_20 : decode cX12_repeats 20 = .ok (.aload_n 0, 1) := by decide +kernel
theorem dX12_repeats_21 : decode cX12_repeats 21 = .ok (.getfield 40, 3) := by decide +kernel
theorem dX12_repeats_24 : decode cX12_repeats 24 = .ok (.sipush 456, 3) := by decide +kernel
theorem dX12_repeats_27 : decode cX12_repeats 27 = .ok (.iaload, 1) := by decide +kernel
theorem dX12_repeats_28 : decode cX12_repeats 28 = .ok (.isub, 1) := by decide +kernel
theorem dX12_repeats_29 : decode cX12_repeats 29 = .ok (.aload_n 0, 1) := by decide +kernel
theorem dX12_repeats_30 : decode cX12_repeats 30 = .ok (.getfield 40, 3) := by decide +kernel
theorem dX12_repeats_33 : decode cX12_repeats 33 = .ok (.bipush 8, 2) := by decide +kernel
theorem dX12_repeats_35 : decode cX12_repeats 35 = .ok (.iaload, 1) := by decide +kernel
theorem dX12_repeats_36 : decode cX12_repeats 36 = .ok (.isub, 1) := by decide +kernel
theorem dX12_repeats_37 : decode cX12_repeats 37 = .ok (.istore_n 1, 1) := by decide +kernel
theorem dX12_repeats_38 : decode cX12_repeats 38 = .ok (.iload_n 1, 1) := by decide +kernel
theorem dX12_repeats_39 : decode cX12_repeats 39 = .ok (.ifCond .lt 15, 3) := by decide +kernel
theorem dX12_repeats_42 : decode cX12_repeats 42 = .ok (.iload_n 1, 1) := by decide +kernel
theorem dX12_repeats_43 : decode cX12_repeats 43 = .ok (.aload_n 0, 1) := by decide +kernel
theorem dX12_repeats_44 : decode cX12_repeats 44 = .ok (.getfield 40, 3) := by decide +kernel
theorem dX12_repeats_47 : decode cX12_repeats 47 = .ok (.bipush 9, 2) := by decide +kernel
theorem dX12_repeats_49 : decode cX12_repeats 49 = .ok (.iaload, 1) := by decide +kernel
theorem dX12_repeats_50 : decode cX12_repeats 50 = .ok (.irem, 1) := by decide +kernel
theorem dX12_repeats_51 : decode cX12_repeats 51 = .ok (.ifCond .eq 4, 3) := by decide +kernel
theorem dX12_repeats_54 : decode cX12_repeats 54 = .ok (.return_, 1) := by decide +kernel
theorem dX12_repeats_55 : decode cX12_repeats 55 = .ok (.aload_n 0, 1) := by decide +kernel
theorem dX12_repeats_56 : decode cX12_repeats 56 = .ok (.getfield 40, 3) := by decide +kernel
theorem dX12_repeats_59 : decode cX12_repeats 59 = .ok (.sipush 457, 3) := by decide +kernel
theorem dX12_repeats_62 : decode cX12_repeats 62 = .ok (.dup2, 1) := by decide +kernel
theorem dX12_repeats_63 : decode cX12_repeats 63 = .ok (.iaload, 1) := by decide +kernel
theorem dX12_repeats_64 : decode cX12_repeats 64 = .ok (.iconst 1, 1) := by decide +kernel
theorem dX12_repeats_65 : decode cX12_repeats 65 = .ok (.iadd, 1) := by decide +kernel
theorem dX12_repeats_66 : decode cX12_repeats 66 = .ok (.iastore, 1) := by decide +kernel
theorem dX12_repeats_67 : decode cX12_repeats 67 = .ok (.aload_n 0, 1) := by decide +kernel
theorem dX12_repeats_68 : decode cX12_repeats 68 = .ok (.getfield 40, 3) := by decide +kernel
theorem dX12_repeats_71 : decode cX12_repeats 71 = .ok (.sipush 458, 3) := by decide +kernel
theorem dX12_repeats_74 : decode cX12_repeats 74 = .ok (.dup2, 1) := by decide +kernel
theorem dX12_repeats_75 : decode cX12_repeats 75 = .ok (.iaload, 1) := by decide +kernel
theorem dX12_repeats_76 : decode cX12_repeats 76 = .ok (.iconst 1, 1) := by decide +kernel
theorem dX12_repeats_77 : decode cX12_repeats 77 = .ok (.iadd, 1) := by decide +kernel
theorem dX12_repeats_78 : decode cX12_repeats 78 = .ok (.iastore, 1) := by decide +kernel
theorem dX12_repeats_79 : decode cX12_repeats 79 = .ok (.return_, 1) := by decide +kernel
def rmX12_repeats : Room := { frames := 0, cells := 0, slots := 0, locals := 0 }
set_option maxRecDepth 100000 in
def fX12_repeats_J54 (N : Nat) (g : Gs) (x0 : Nat) (d : Ds) : Option (Unit × Ds) := some ((), d)
set_option maxHeartbeats 4000000 in
set_option maxRecDepth 100000 in
theorem tX12_repeats_54 {p : Program} {l : Launch} {e : Env} {s : State} {m : MethodId} {args : Array Value} {below : List Frame} {meth : Method} {c : Code} {D : va_G} {cy : Nat → ClassId} {B : Bs} (C : Cx p s m args c cX12_repeats 2 RX12 D cy B) (hr : meth.sig.returnType = none) (hlocks : meth.locks = false) {N : Nat} {g : Gs} {x0 : Nat}  {dz : Ds} {d : Ds} (hf : fX12_repeats_J54 N g x0 d = some ((), dz)) : WB p l e rmX12_repeats s m args below meth c 2 D cy B 0 0 (MQ below (QV D cy B g dz) args s 0 0 (wA B)) g d [(0, .ref (ad B x0))] 54 [] := by
  unfold fX12_repeats_J54 at hf
  exact b_vret C hr hlocks hf dX12_repeats_54
set_option maxRecDepth 100000 in
def fX12_repeats (N : Nat) (g : Gs) (x0 : Nat) (d : Ds) : Option (Unit × Ds) := gd (chk g x0 11) <| ob (gR g x0 17) fun r2 => (gd (chk g r2 102) <| gd (¬ ((455 : Int32) < 0 ∨ gL g r2 ≤ (455 : Int32).toNatClampNeg)) <| if 0 ≤ (dI d r2 (455 : Int32).toNatClampNeg) then (gd (¬ ((354 : Int32) < 0 ∨ gL g r2 ≤ (354 : Int32).toNatClampNeg)) <| gd (¬ ((456 : Int32) < 0 ∨ gL g r2 ≤ (456 : Int32).toNatClampNeg)) <| gd (¬ ((8 : Int32) < 0 ∨ gL g r2 ≤ (8 : Int32).toNatClampNeg)) <| bd (((dI d r2 (354 : Int32).toNatClampNeg) - (dI d r2 (456 : Int32).toNatClampNeg)) - (dI d r2 (8 : Int32).toNatClampNeg)) fun u9 => (if u9 < 0 then (fX12_repeats_J54 N g x0 d) else (gd (¬ ((9 : Int32) < 0 ∨ gL g r2 ≤ (9 : Int32).toNatClampNeg)) <| gd (¬ (dI d r2 (9 : Int32).toNatClampNeg) = 0) <| if (u9 - u9 / (dI d r2 (9 : Int32).toNatClampNeg) * (dI d r2 (9 : Int32).toNatClampNeg)) = 0 then (gd (¬ ((457 : Int32) < 0 ∨ gL g r2 ≤ (457 : Int32).toNatClampNeg)) <| bd (sI d r2 (457 : Int32).toNatClampNeg ((dI d r2 (457 : Int32).toNatClampNeg) + 1)) fun d15 => (gd (¬ ((458 : Int32) < 0 ∨ gL g r2 ≤ (458 : Int32).toNatClampNeg)) <| bd (sI d15 r2 (458 : Int32).toNatClampNeg ((dI d15 r2 (458 : Int32).toNatClampNeg) + 1)) fun d17 => (some ((), d17)))) else (fX12_repeats_J54 N g x0 d)))) else (some ((), d)))
set_option maxHeartbeats 4000000 in
set_option maxRecDepth 100000 in
theorem tX12_repeats_E {p : Program} {l : Launch} {e : Env} {s : State} {m : MethodId} {args : Array Value} {below : List Frame} {meth : Method} {c : Code} {D : va_G} {cy : Nat → ClassId} {B : Bs} (C : Cx p s m args c cX12_repeats 2 RX12 D cy B) (hr : meth.sig.returnType = none) (hlocks : meth.locks = false) {N : Nat} {g : Gs} {x0 : Nat}  {dz : Ds} {d : Ds} (hf : fX12_repeats N g x0 d = some ((), dz)) : WB p l e rmX12_repeats s m args below meth c 2 D cy B 0 0 (MQ below (QV D cy B g dz) args s 0 0 (wA B)) g d [(0, .ref (ad B x0))] 0 [] := by
  unfold fX12_repeats at hf
  refine b_aload_n C dX12_repeats_0 0 rfl rfl ?_
  obtain ⟨h1, hf⟩ := gd_s hf
  obtain ⟨r2, er2, hf⟩ := ob_s hf
  refine b_gR C dX12_repeats_1 fl_X12_40 h1 er2 ?_
  refine b_sipush C (v := 455) dX12_repeats_4 (by decide) ?_
  obtain ⟨h3, hf⟩ := gd_s hf
  obtain ⟨h4, hf⟩ := gd_s hf
  refine b_iald C h3 h4 dX12_repeats_7 ?_
  refine b_if_ge C (tgt := 12) dX12_repeats_8 (by decide) (fun c5 => ?_) (fun c5 => ?_)
  · have hf := it_s c5 hf
    refine b_aload_n C dX12_repeats_12 0 rfl rfl ?_
    refine b_gR C dX12_repeats_13 fl_X12_40 h1 er2 ?_
    refine b_sipush C (v := 354) dX12_repeats_16 (by decide) ?_
    obtain ⟨h6, hf⟩ := gd_s hf
    refine b_iald C h3 h6 dX12_repeats_19 ?_
    refine b_aload_n C dX12_repeats_20 0 rfl rfl ?_
    refine b_gR C dX12_repeats_21 fl_X12_40 h1 er2 ?_
    refine b_sipush C (v := 456) dX12_repeats_24 (by decide) ?_
    obtain ⟨h7, hf⟩ := gd_s hf
    refine b_iald C h3 h7 dX12_repeats_27 ?_
    refine b_isub C dX12_repeats_28 ?_
    refine b_aload_n C dX12_repeats_29 0 rfl rfl ?_
    refine b_gR C dX12_repeats_30 fl_X12_40 h1 er2 ?_
    refine b_bipush C (v := 8) dX12_repeats_33 (by decide) ?_
    obtain ⟨h8, hf⟩ := gd_s hf
    refine b_iald C h3 h8 dX12_repeats_35 ?_
    refine b_isub C dX12_repeats_36 ?_
    obtain ⟨u9, eu9, hf⟩ := bd_s hf
    refine b_topI eu9 ?_
    refine b_istore_n C dX12_repeats_37 rfl [(1, .int u9), (0, .ref (ad B x0))] (by decide) rfl ?_
    refine b_iload_n C dX12_repeats_38 0 rfl rfl ?_
    refine b_if_lt C (tgt := 54) dX12_repeats_39 (by decide) (fun c10 => ?_) (fun c10 => ?_)
    · have hf := it_s c10 hf
      refine b_sub [(0, .ref (ad B x0))] [1] rfl ?_
      exact tX12_repeats_54 C hr hlocks hf
    · have hf := if_s c10 hf
      refine b_iload_n C dX12_repeats_42 0 rfl rfl ?_
      refine b_aload_n C dX12_repeats_43 1 rfl rfl ?_
      refine b_gR C dX12_repeats_44 fl_X12_40 h1 er2 ?_
      refine b_bipush C (v := 9) dX12_repeats_47 (by decide) ?_
      obtain ⟨h11, hf⟩ := gd_s hf
      refine b_iald C h3 h11 dX12_repeats_49 ?_
      obtain ⟨h12, hf⟩ := gd_s hf
      refine b_irem C dX12_repeats_50 h12 ?_
      refine b_if_eq C (tgt := 55) dX12_repeats_51 (by decide) (fun c13 => ?_) (fun c13 => ?_)
      · have hf := it_s c13 hf
        refine b_aload_n C dX12_repeats_55 1 rfl rfl ?_
        refine b_gR C dX12_repeats_56 fl_X12_40 h1 er2 ?_
        refine b_sipush C (v := 457) dX12_repeats_59 (by decide) ?_
        refine b_dup2 C dX12_repeats_62 rfl rfl ?_
        obtain ⟨h14, hf⟩ := gd_s hf
        refine b_iald C h3 h14 dX12_repeats_63 ?_
        refine b_iconst C (v := 1) dX12_repeats_64 (by decide) ?_
        refine b_iadd C dX12_repeats_65 ?_
        obtain ⟨d15, ed15, hf⟩ := bd_s hf
        refine b_iast C h3 h14 ed15 dX12_repeats_66 ?_
        refine b_aload_n C dX12_repeats_67 1 rfl rfl ?_
        refine b_gR C dX12_repeats_68 fl_X12_40 h1 er2 ?_
        refine b_sipush C (v := 458) dX12_repeats_71 (by decide) ?_
        refine b_dup2 C dX12_repeats_74 rfl rfl ?_
        obtain ⟨h16, hf⟩ := gd_s hf
        refine b_iald C h3 h16 dX12_repeats_75 ?_
        refine b_iconst C (v := 1) dX12_repeats_76 (by decide) ?_
        refine b_iadd C dX12_repeats_77 ?_
        obtain ⟨d17, ed17, hf⟩ := bd_s hf
        refine b_iast C h3 h16 ed17 dX12_repeats_78 ?_
        exact b_vret C hr hlocks hf dX12_repeats_79
      · have hf := if_s c13 hf
        refine b_sub [(0, .ref (ad B x0))] [1] rfl ?_
        exact tX12_repeats_54 C hr hlocks hf
  · have hf := if_s c5 hf
    exact b_vret C hr hlocks hf dX12_repeats_11
theorem kX12_repeats (l : Launch) (D : va_G) (cy : Nat → ClassId) (B : Bs) {N : Nat} {g : Gs} {x0 : Nat}  {dz : Ds} {d : Ds} (hf : fX12_repeats N g x0 d = some ((), dz)) : Met l yX12_repeats (.code yX12_repeats cX12_repeats 2 none :: wl) rmX12_repeats (PC D cy B [.ref (ad B x0)] g d) (QV D cy B g dz) 0 0 (wA B) :=
  met_of (by decide +kernel) (Nat.le_of_ble_eq_true rfl) (fun p e s m args below meth c C hr hlocks _ => b_sub [(0, .ref (ad B x0))] [0] rfl (tX12_repeats_E C hr hlocks hf))
/-! KeyMatrixModel.ticks()V -/
theorem yo_X12_repeats : yX12_repeats.cls ≠ "java/lang/invoke/MethodHandle" ∧ yX12_repeats.cls ≠ "java/lang/invoke/VarHandle" ∧ (parseMethodDescriptor yX12_repeats.desc).map (fun d => d.parameters.length) = some 0 := by decide +kernel
theorem co_X12_repeats : Cond.code yX12_repeats cX12_repeats 2 none ∈ wl := mW (mT6 (List.mem_of_getElem? (i := 225) (by decide +kernel))) rfl
theorem in_X12_repeats : Cond.initialized yX12_repeats.cls ∈ wl := mW (mT1 (List.mem_of_getElem? (i := 12) (by decide +kernel))) rfl
theorem im_X12_repeats : Cond.instanceMethod yX12_repeats ∈ wl := mW (mT6 (List.mem_of_getElem? (i := 224) (by decide +kernel))) rfl
theorem se_X12_repeats : Cond.selects yX12_repeats.cls yX12_repeats yX12_repeats ∈ wl := mW (mT0 (List.mem_of_getElem? (i := 87) (by decide +kernel))) rfl
theorem lv_X12_241 : LV RX12 241 yX12_repeats cX12_repeats 2 none 0 11 := ⟨⟨(RX12, TX12, 33), rfl, rfl⟩, yo_X12_repeats, mW (mT6 (List.mem_of_getElem? (i := 222) (by decide +kernel))) rfl, im_X12_repeats, se_X12_repeats, in_X12_repeats, co_X12_repeats⟩
theorem yo_X12_works : yX12_works.cls ≠ "java/lang/invoke/MethodHandle" ∧ yX12_works.cls ≠ "java/lang/invoke/VarHandle" ∧ (parseMethodDescriptor yX12_works.desc).map (fun d => d.parameters.length) = some 0 := by decide +kernel
theorem co_X12_works : Cond.code yX12_works cX12_works 6 (some .boolean) ∈ wl := mW (mT6 (List.mem_of_getElem? (i := 127) (by decide +kernel))) rfl
theorem in_X12_works : Cond.initialized yX12_works.cls ∈ wl := mW (mT1 (List.mem_of_getElem? (i := 12) (by decide +kernel))) rfl
theorem im_X12_works : Cond.instanceMethod yX12_works ∈ wl := mW (mT6 (List.mem_of_getElem? (i := 126) (by decide +kernel))) rfl
theorem se_X12_works : Cond.selects yX12_works.cls yX12_works yX12_works ∈ wl := mW (mT0 (List.mem_of_getElem? (i := 63) (by decide +kernel))) rfl
theorem lv_X12_235 : LV RX12 235 yX12_works cX12_works 6 (some .boolean) 0 11 := ⟨⟨(RX12, TX12, 33), rfl, rfl⟩, yo_X12_works, mW (mT6 (List.mem_of_getElem? (i := 124) (by decide +kernel))) rfl, im_X12_works, se_X12_works, in_X12_works, co_X12_works⟩
theorem yo_X12_changes : yX12_changes.cls ≠ "java/lang/invoke/MethodHandle" ∧ yX12_changes.cls ≠ "java/lang/invoke/VarHandle" ∧ (parseMethodDescriptor yX12_changes.desc).map (fun d => d.parameters.length) = some 1 := by decide +kernel
theorem co_X12_changes : Cond.code yX12_changes cX12_changes 5 none ∈ wl := mW (mT6 (List.mem_of_getElem? (i := 123) (by decide +kernel))) rfl
theorem in_X12_changes : Cond.initialized yX12_changes.cls ∈ wl := mW (mT1 (List.mem_of_getElem? (i := 12) (by decide +kernel))) rfl
theorem im_X12_changes : Cond.instanceMethod yX12_changes ∈ wl := mW (mT6 (List.mem_of_getElem? (i := 122) (by decide +kernel))) rfl
theorem se_X12_changes : Cond.selects yX12_changes.cls yX12_changes yX12_changes ∈ wl := mW (mT0 (List.mem_of_getElem? (i := 62) (by decide +kernel))) rfl
theorem lv_X12_232 : LV RX12 232 yX12_changes cX12_changes 5 none 1 11 := ⟨⟨(RX12, TX12, 33), rfl, rfl⟩, yo_X12_changes, mW (mT6 (List.mem_of_getElem? (i := 120) (by decide +kernel))) rfl, im_X12_changes, se_X12_changes, in_X12_changes, co_X12_changes⟩
theorem dX12_ticks_0 : decode cX12_ticks 0 = .ok (.aload_n 0, 1) := by decide +kernel
theorem dX12_ticks_1 : decode cX12_ticks 1 = .ok (.getfield 40, 3) := by decide +kernel
theorem dX12_ticks_4 : decode cX12_ticks 4 = .ok (.sipush 354, 3) := by decide +kernel
theorem dX12_ticks_7 : decode cX12_ticks 7 = .ok (.dup2, 1) := by decide +kernel
theorem dX12_ticks_8 : decode cX12_ticks 8 = .ok (.iaload, 1) := by decide +kernel
theorem dX12_ticks_9 : decode cX12_ticks 9 = .ok (.iconst 1, 1) := by decide +kernel
theorem dX12_ticks_10 : decode cX12_ticks 10 = .ok (.iadd, 1) := by decide +kernel
theorem dX12_ticks_11 : decode cX12_ticks 11 = .ok (.iastore, 1) := by decide +kernel
theorem dX12_ticks_12 : decode cX12_ticks 12 = .ok (.aload_n 0, 1) := by decide +kernel
theorem dX12_ticks_13 : decode cX12_ticks 13 = .ok (.aload_n 0, 1) := by decide +kernel
theorem dX12_ticks_14 : decode cX12_ticks 14 = .ok (.getfield 40, 3) := by decide +kernel
theorem dX12_ticks_17 : decode cX12_ticks 17 = .ok (.sipush 352, 3) := by decide +kernel
theorem dX12_ticks_20 : decode cX12_ticks 20 = .ok (.iaload, 1) := by decide +kernel
theorem dX12_ticks_21 : decode cX12_ticks 21 = .ok (.invokevirtual 223, 3) := by decide +kernel
theorem dX12_ticks_24 : decode cX12_ticks 24 = .ok (.istore_n 1, 1) := by decide +kernel
theorem dX12_ticks_25 : decode cX12_ticks 25 = .ok (.aload_n 0, 1) := by decide +kernel
theorem dX12_ticks_26 : decode cX12_ticks 26 = .ok (.iload_n 1, 1) := by decide +kernel
theorem dX12_ticks_27 : decode cX12_ticks 27 = .ok (.invokevirtual 229, 3) := by decide +kernel
theorem dX12_ticks_30 : decode cX12_ticks 30 = .ok (.istore_n 2, 1) := by decide +kernel
theorem dX12_ticks_31 : decode cX12_ticks 31 = .ok (.iconst 0, 1) := by decide +kernel
theorem dX12_ticks_32 : decode cX12_ticks 32 = .ok (.istore_n 3, 1) := by decide +kernel
theorem dX12_ticks_33 : decode cX12_ticks 33 = .ok (.iload_n 3, 1) := by decide +kernel
theorem dX12_ticks_34 : decode cX12_ticks 34 = .ok (.aload_n 0, 1) := by decide +kernel
theorem dX12_ticks_35 : decode cX12_ticks 35 = .ok (.invokevirtual 206, 3) := by decide +kernel
theorem dX12_ticks_38 : decode cX12_ticks 38 = .ok (.if_icmp .ge 99, 3) := by decide +kernel
theorem dX12_ticks_41 : decode cX12_ticks 41 = .ok (.iload_n 2, 1) := by decide +kernel
theorem dX12_ticks_42 : decode cX12_ticks 42 = .ok (.iload_n 3, 1) := by decide +kernel
theorem dX12_ticks_43 : decode cX12_ticks 43 = .ok (.invokestatic 210, 3) := by decide +kernel
theorem dX12_ticks_46 : decode cX12_ticks 46 = .ok (.ifCond .ne 27, 3) := by decide +kernel
theorem dX12_ticks_49 : decode cX12_ticks 49 = .ok (.iload_n 1, 1) := by decide +kernel
theorem dX12_ticks_50 : decode cX12_ticks 50 = .ok (.iload_n 3, 1) := by decide +kernel
theorem dX12_ticks_51 : decode cX12_ticks 51 = .ok (.invokestatic 210, 3) := by decide +kernel
theorem dX12_ticks_54 : decode cX12_ticks 54 = .ok (.aload_n 0, 1) := by decide +kernel
theorem dX12_ticks_55 : decode cX12_ticks 55 = .ok (.getfield 40, 3) := by decide +kernel
theorem dX12_ticks_58 : decode cX12_ticks 58 = .ok (.sipush 353, 3) := by decide +kernel
theorem dX12_ticks_61 : decode cX12_ticks 61 = .ok (.iaload, 1) := by decide +kernel
theorem dX12_ticks_62 : decode cX12_ticks 62 = .ok (.iload_n 3, 1) := by decide +kernel
theorem dX12_ticks_63 : decode cX12_ticks 63 = .ok (.invokestatic 210, 3) := by decide +kernel
theorem dX12_ticks_66 : decode cX12_ticks 66 = .ok (.if_icmp .eq 7, 3) := by decide +kernel
theorem dX12_ticks_69 : decode cX12_ticks 69 = .ok (.iconst 1, 1) := by decide +kernel
theorem dX12_ticks_70 : decode cX12_ticks 70 = .ok (.goto 4, 3) := by decide +kernel
theorem dX12_ticks_73 : decode cX12_ticks 73 = .ok (.iconst 0, 1) := by decide +kernel
theorem dX12_ticks_74 : decode cX12_ticks 74 = .ok (.istore 4, 2) := by decide +kernel
theorem dX12_ticks_76 : decode cX12_ticks 76 = .ok (.aload_n 0, 1) := by decide +kernel
theorem dX12_ticks_77 : decode cX12_ticks 77 = .ok (.getfield 40, 3) := by decide +kernel
theorem dX12_ticks_80 : decode cX12_ticks 80 = .ok (.sipush 355, 3) := by decide +kernel
theorem dX12_ticks_83 : decode cX12_ticks 83 = .ok (.iload_n 3, 1) := by decide +kernel
theorem dX12_ticks_84 : decode cX12_ticks 84 = .ok (.iadd, 1) := by decide +kernel
theorem dX12_ticks_85 : decode cX12_ticks 85 = .ok (.iload 4, 2) := by decide +kernel
theorem dX12_ticks_87 : decode cX12_ticks 87 = .ok (.ifCond .eq 18, 3) := by decide +kernel
theorem dX12_ticks_90 : decode cX12_ticks 90 = .ok (.aload_n 0, 1) := by decide +kernel
theorem dX12_ticks_91 : decode cX12_ticks 91 = .ok (.getfield 40, 3) := by decide +kernel
theorem dX12_ticks_94 : decode cX12_ticks 94 = .ok (.sipush 355, 3) := by decide +kernel
theorem dX12_ticks_97 : decode cX12_ticks 97 = .ok (.iload_n 3, 1) := by decide +kernel
theorem dX12_ticks_98 : decode cX12_ticks 98 = .ok (.iadd, 1) := by decide +kernel
theorem dX12_ticks_99 : decode cX12_ticks 99 = .ok (.iaload, 1) := by decide +kernel
theorem dX12_ticks_100 : decode cX12_ticks 100 = .ok (.iconst 1, 1) := by decide +kernel
theorem dX12_ticks_101 : decode cX12_ticks 101 = .ok (.iadd, 1) := by decide +kernel
theorem dX12_ticks_102 : decode cX12_ticks 102 = .ok (.goto 4, 3) := by decide +kernel
theorem dX12_ticks_105 : decode cX12_ticks 105 = .ok (.iconst 0, 1) := by decide +kernel
theorem dX12_ticks_106 : decode cX12_ticks 106 = .ok (.iastore, 1) := by decide +kernel
theorem dX12_ticks_107 : decode cX12_ticks 107 = .ok (.aload_n 0, 1) := by decide +kernel
theorem dX12_ticks_108 : decode cX12_ticks 108 = .ok (.getfield 40, 3) := by decide +kernel
theorem dX12_ticks_111 : decode cX12_ticks 111 = .ok (.sipush 355, 3) := by decide +kernel
theorem dX12_ticks_114 : decode cX12_ticks 114 = .ok (.iload_n 3, 1) := by decide +kernel
theorem dX12_ticks_115 : decode cX12_ticks 115 = .ok (.iadd, 1) := by decide +kernel
theorem dX12_ticks_116 : decode cX12_ticks 116 = .ok (.iaload, 1) := by decide +kernel
theorem dX12_ticks_117 : decode cX12_ticks 117 = .ok (.aload_n 0, 1) := by decide +kernel
theorem dX12_ticks_118 : decode cX12_ticks 118 = .ok (.getfield 40, 3) := by decide +kernel
theorem dX12_ticks_121 : decode cX12_ticks 121 = .ok (.iconst 4, 1) := by decide +kernel
theorem dX12_ticks_122 : decode cX12_ticks 122 = .ok (.iaload, 1) := by decide +kernel
theorem dX12_ticks_123 : decode cX12_ticks 123 = .ok (.if_icmp .ne 8, 3) := by decide +kernel
theorem dX12_ticks_126 : decode cX12_ticks 126 = .ok (.aload_n 0, 1) := by decide +kernel
theorem dX12_ticks_127 : decode cX12_ticks 127 = .ok (.iload_n 3, 1) := by decide +kernel
theorem dX12_ticks_128 : decode cX12_ticks 128 = .ok (.invokevirtual 232, 3) := by decide +kernel
theorem dX12_ticks_131 : decode cX12_ticks 131 = .ok (.iinc 3 1, 3) := by decide +kernel
theorem dX12_ticks_134 : decode cX12_ticks 134 = .ok (.goto (-101), 3) := by decide +kernel
theorem dX12_ticks_137 : decode cX12_ticks 137 = .ok (.iconst 1, 1) := by decide +kernel
theorem dX12_ticks_138 : decode cX12_ticks 138 = .ok (.istore_n 3, 1) := by decide +kernel
theorem dX12_ticks_139 : decode cX12_ticks 139 = .ok (.iload_n 3, 1) := by decide +kernel
theorem dX12_ticks_140 : decode cX12_ticks 140 = .ok (.ifCond .eq 22, 3) := by decide +kernel
theorem dX12_ticks_143 : decode cX12_ticks 143 = .ok (.aload_n 0, 1) := by decide +kernel
theorem dX12_ticks_144 : decode cX12_ticks 144 = .ok (.getfield 40, 3) := by decide +kernel
theorem dX12_ticks_147 : decode cX12_ticks 147 = .ok (.sipush 557, 3) := by decide +kernel
theorem dX12_ticks_150 : decode cX12_ticks 150 = .ok (.iaload, 1) := by decide +kernel
theorem dX12_ticks_151 : decode cX12_ticks 151 = .ok (.ifCond .le 11, 3) := by decide +kernel
theorem dX12_ticks_154 : decode cX12_ticks 154 = .ok (.aload_n 0, 1) := by decide +kernel
theorem dX12_ticks_155 : decode cX12_ticks 155 = .ok (.invokevirtual 235, 3) := by decide +kernel
theorem dX12_ticks_158 : decode cX12_ticks 158 = .ok (.istore_n 3, 1) := by decide +kernel
theorem dX12_ticks_159 : decode cX12_ticks 159 = .ok (.goto (-20), 3) := by decide +kernel
theorem dX12_ticks_162 : decode cX12_ticks 162 = .ok (.iconst 0, 1) := by decide +kernel
theorem dX12_ticks_163 : decode cX12_ticks 163 = .ok (.istore 4, 2) := by decide +kernel
theorem dX12_ticks_165 : decode cX12_ticks 165 = .ok (.iload 4, 2) := by decide +kernel
theorem dX12_ticks_167 : decode cX12_ticks 167 = .ok (.aload_n 0, 1) := by decide +kernel
theorem dX12_ticks_168 : decode cX12_ticks 168 = .ok (.invokevirtual 206, 3) := by decide +kernel
theorem dX12_ticks_171 : decode cX12_ticks 171 = .ok (.if_icmp .ge 52, 3) := by decide +kernel
theorem dX12_ticks_174 : decode cX12_ticks 174 = .ok (.aload_n 0, 1) := by decide +kernel
theorem dX12_ticks_175 : decode cX12_ticks 175 = .ok (.getfield 46, 3) := by decide +kernel
theorem dX12_ticks_178 : decode cX12_ticks 178 = .ok (.iload 4, 2) := by decide +kernel
theorem dX12_ticks_180 : decode cX12_ticks 180 = .ok (.aload_n 0, 1) := by decide +kernel
theorem dX12_ticks_181 : decode cX12_ticks 181 = .ok (.getfield 46, 3) := by decide +kernel
theorem dX12_ticks_184 : decode cX12_ticks 184 = .ok (.iload 4, 2) := by decide +kernel
theorem dX12_ticks_186 : decode cX12_ticks 186 = .ok (.faload, 1) := by decide +kernel
theorem dX12_ticks_187 : decode cX12_ticks 187 = .ok (.ldc 239, 2) := by decide +kernel
theorem dX12_ticks_189 : decode cX12_ticks 189 = .ok (.fmul, 1) := by decide +kernel
theorem dX12_ticks_190 : decode cX12_ticks 190 = .ok (.fastore, 1) := by decide +kernel
theorem dX12_ticks_191 : decode cX12_ticks 191 = .ok (.iload_n 1, 1) := by decide +kernel
theorem dX12_ticks_192 : decode cX12_ticks 192 = .ok (.iload 4, 2) := by decide +kernel
theorem dX12_ticks_194 : decode cX12_ticks 194 = .ok (.invokestatic 210, 3) := by decide +kernel
theorem dX12_ticks_197 : decode cX12_ticks 197 = .ok (.ifCond .eq 20, 3) := by decide +kernel
theorem dX12_ticks_200 : decode cX12_ticks 200 = .ok (.aload_n 0, 1) := by decide +kernel
theorem dX12_ticks_201 : decode cX12_ticks 201 = .ok (.getfield 46, 3) := by decide +kernel
theorem dX12_ticks_204 : decode cX12_ticks 204 = .ok (.iload 4, 2) := by decide +kernel
theorem dX12_ticks_206 : decode cX12_ticks 206 = .ok (.aload_n 0, 1) := by decide +kernel
theorem dX12_ticks_207 : decode cX12_ticks 207 = .ok (.getfield 46, 3) := by decide +kernel
theorem dX12_ticks_210 : decode cX12_ticks 210 = .ok (.iload 4, 2) := by decide +kernel
theorem dX12_ticks_212 : decode cX12_ticks 212 = .ok (.faload, 1) := by decide +kernel
theorem dX12_ticks_213 : decode cX12_ticks 213 = .ok (.ldc 240, 2) := by decide +kernel
theorem dX12_ticks_215 : decode cX12_ticks 215 = .ok (.fadd, 1) := by decide +kernel
theorem dX12_ticks_216 : decode cX12_ticks 216 = .ok (.fastore, 1) := by decide +kernel
theorem dX12_ticks_217 : decode cX12_ticks 217 = .ok (.iinc 4 1, 3) := by decide +kernel
theorem dX12_ticks_220 : decode cX12_ticks 220 = .ok (.goto (-55), 3) := by decide +kernel
theorem dX12_ticks_223 : decode cX12_ticks 223 = .ok (.aload_n 0, 1) := by decide +kernel
theorem dX12_ticks_224 : decode cX12_ticks 224 = .ok (.invokevirtual 241, 3) := by decide +kernel
theorem dX12_ticks_227 : decode cX12_ticks 227 = .ok (.return_, 1) := by decide +kernel
def rmX12_ticks : Room := { frames := 7, cells := 0, slots := 0, locals := 168 }
set_option maxRecDepth 100000 in
def fX12_ticks_B165 (N : Nat) (g : Gs) (x0 : Nat) (K165 : Int32 × Int32 × Ds → Option (Unit × Ds)) (y1 : Int32) (y4 : Int32) (d : Ds) : Option (Unit × Ds) := gd (chk g x0 11) <| cb (fX12_keysMany N g x0 d) fun u22 d20 => (if u22 ≤ y4 then (cv (fX12_repeats N g x0 d20) fun d24 => (some ((), d24))) else (ob (gR g x0 19) fun r26 => (gd (chk g r26 101) <| gd (¬ (y4 < 0 ∨ gL g r26 ≤ y4.toNatClampNeg)) <| none)))
set_option maxHeartbeats 4000000 in
set_option maxRecDepth 100000 in
theorem tX12_ticks_165 {p : Program} {l : Launch} {e : Env} {s : State} {m : MethodId} {args : Array Value} {below : List Frame} {meth : Method} {c : Code} {D : va_G} {cy : Nat → ClassId} {B : Bs} (C : Cx p s m args c cX12_ticks 5 RX12 D cy B) (hr : meth.sig.returnType = none) (hlocks : meth.locks = false) {N : Nat} {g : Gs} {x0 : Nat}  {dz : Ds} {K165 : Int32 × Int32 × Ds → Option (Unit × Ds)} (hK165 : ∀ a, K165 a = some ((), dz) → WB p l e rmX12_ticks s m args below meth c 5 D cy B 0 0 (MQ below (QV D cy B g dz) args s 0 0 (wA B)) g a.2.2 [(0, .ref (ad B x0)), (1, .int a.1), (4, .int a.2.1)] 165 []) {y1 : Int32} {y4 : Int32} {d : Ds} (hf : fX12_ticks_B165 N g x0 K165 y1 y4 d = some ((), dz)) : WB p l e rmX12_ticks s m args below meth c 5 D cy B 0 0 (MQ below (QV D cy B g dz) args s 0 0 (wA B)) g d [(0, .ref (ad B x0)), (1, .int y1), (4, .int y4)] 165 [] := by
  unfold fX12_ticks_B165 at hf
  refine b_iload C dX12_ticks_165 2 rfl ?_
  refine b_aload_n C dX12_ticks_167 0 rfl rfl ?_
  obtain ⟨h19, hf⟩ := gd_s hf
  obtain ⟨u22, d20, k21, hf⟩ := cb_s hf
  refine b_cVI C [.int y4] dX12_ticks_168 (kX12_keysMany l D cy B k21) lv_X12_206 ⟨rfl, rfl, Nat.le_of_ble_eq_true rfl, Nat.le_of_ble_eq_true rfl⟩ h19 (by decide) rfl (Nat.le_of_ble_eq_true rfl) ⟨Nat.zero_le _, Nat.zero_le _⟩ rfl ?_
  refine b_icmp_ge C (tgt := 223) dX12_ticks_171 (by decide) (fun c23 => ?_) (fun c23 => ?_)
  · have hf := it_s c23 hf
    refine b_aload_n C dX12_ticks_223 0 rfl rfl ?_
    obtain ⟨d24, k25, hf⟩ := cv_s hf
    refine b_cVN C [] dX12_ticks_224 (kX12_repeats l D cy B k25) lv_X12_241 ⟨rfl, rfl, Nat.le_of_ble_eq_true rfl, Nat.le_of_ble_eq_true rfl⟩ h19 (by decide) rfl (Nat.le_of_ble_eq_true rfl) ⟨Nat.zero_le _, Nat.zero_le _⟩ rfl ?_
    exact b_vret C hr hlocks hf dX12_ticks_227
  · have hf := if_s c23 hf
    refine b_aload_n C dX12_ticks_174 0 rfl rfl ?_
    obtain ⟨r26, er26, hf⟩ := ob_s hf
    refine b_gR C dX12_ticks_175 fl_X12_46 h19 er26 ?_
    refine b_iload C dX12_ticks_178 2 rfl ?_
    refine b_aload_n C dX12_ticks_180 0 rfl rfl ?_
    refine b_gR C dX12_ticks_181 fl_X12_46 h19 er26 ?_
    refine b_iload C dX12_ticks_184 2 rfl ?_
    obtain ⟨h27, hf⟩ := gd_s hf
    obtain ⟨h28, hf⟩ := gd_s hf
    refine b_fald C h27 h28 dX12_ticks_186 ?_
    cases hf
def fX12_ticks_L165 (N : Nat) (g : Gs) (x0 : Nat) : Int32 × Int32 × Ds → Option (Unit × Ds) := lp (fun K165 a => fX12_ticks_B165 N g x0 K165 a.1 a.2.1 a.2.2) N
theorem tX12_ticks_L165 {p : Program} {l : Launch} {e : Env} {s : State} {m : MethodId} {args : Array Value} {below : List Frame} {meth : Method} {c : Code} {D : va_G} {cy : Nat → ClassId} {B : Bs} (C : Cx p s m args c cX12_ticks 5 RX12 D cy B) (hr : meth.sig.returnType = none) (hlocks : meth.locks = false) {N : Nat} {g : Gs} {x0 : Nat}  {dz : Ds} (a : Int32 × Int32 × Ds) (hf : fX12_ticks_L165 N g x0 a = some ((), dz)) : WB p l e rmX12_ticks s m args below meth c 5 D cy B 0 0 (MQ below (QV D cy B g dz) args s 0 0 (wA B)) g a.2.2 [(0, .ref (ad B x0)), (1, .int a.1), (4, .int a.2.1)] 165 [] :=
  lp_w (fun K165 hK165 a ha => tX12_ticks_165 C hr hlocks hK165 ha) N a hf
set_option maxRecDepth 100000 in
def fX12_ticks_J162 (N : Nat) (g : Gs) (x0 : Nat) (y1 : Int32) (d : Ds) : Option (Unit × Ds) := fX12_ticks_L165 N g x0 (y1, 0, d)
set_option maxHeartbeats 4000000 in
set_option maxRecDepth 100000 in
theorem tX12_ticks_162 {p : Program} {l : Launch} {e : Env} {s : State} {m : MethodId} {args : Array Value} {below : List Frame} {meth : Method} {c : Code} {D : va_G} {cy : Nat → ClassId} {B : Bs} (C : Cx p s m args c cX12_ticks 5 RX12 D cy B) (hr : meth.sig.returnType = none) (hlocks : meth.locks = false) {N : Nat} {g : Gs} {x0 : Nat}  {dz : Ds} {y1 : Int32} {d : Ds} (hf : fX12_ticks_J162 N g x0 y1 d = some ((), dz)) : WB p l e rmX12_ticks s m args below meth c 5 D cy B 0 0 (MQ below (QV D cy B g dz) args s 0 0 (wA B)) g d [(0, .ref (ad B x0)), (1, .int y1)] 162 [] := by
  unfold fX12_ticks_J162 at hf
  refine b_iconst C (v := 0) dX12_ticks_162 (by decide) ?_
  refine b_istore C dX12_ticks_163 [(4, .int 0), (0, .ref (ad B x0)), (1, .int y1)] (by decide) rfl ?_
  refine b_sub [(0, .ref (ad B x0)), (1, .int y1), (4, .int 0)] [1, 2, 0] rfl ?_
  exact tX12_ticks_L165 C hr hlocks (y1, 0, d) hf
set_option maxRecDepth 100000 in
def fX12_ticks_B139 (N : Nat) (g : Gs) (x0 : Nat) (K139 : Int32 × Int32 × Ds → Option (Unit × Ds)) (y1 : Int32) (y3 : Int32) (d : Ds) : Option (Unit × Ds) := if y3 = 0 then (fX12_ticks_J162 N g x0 y1 d) else (gd (chk g x0 11) <| ob (gR g x0 17) fun r30 => (gd (chk g r30 102) <| gd (¬ ((557 : Int32) < 0 ∨ gL g r30 ≤ (557 : Int32).toNatClampNeg)) <| if (dI d r30 (557 : Int32).toNatClampNeg) ≤ 0 then (fX12_ticks_J162 N g x0 y1 d) else (cb (fX12_works N g x0 d) fun u36 d34 => (K139 (y1, u36, d34)))))
set_option maxHeartbeats 4000000 in
set_option maxRecDepth 100000 in
theorem tX12_ticks_139 {p : Program} {l : Launch} {e : Env} {s : State} {m : MethodId} {args : Array Value} {below : List Frame} {meth : Method} {c : Code} {D : va_G} {cy : Nat → ClassId} {B : Bs} (C : Cx p s m args c cX12_ticks 5 RX12 D cy B) (hr : meth.sig.returnType = none) (hlocks : meth.locks = false) {N : Nat} {g : Gs} {x0 : Nat}  {dz : Ds} {K139 : Int32 × Int32 × Ds → Option (Unit × Ds)} (hK139 : ∀ a, K139 a = some ((), dz) → WB p l e rmX12_ticks s m args below meth c 5 D cy B 0 0 (MQ below (QV D cy B g dz) args s 0 0 (wA B)) g a.2.2 [(0, .ref (ad B x0)), (1, .int a.1), (3, .int a.2.1)] 139 []) {y1 : Int32} {y3 : Int32} {d : Ds} (hf : fX12_ticks_B139 N g x0 K139 y1 y3 d = some ((), dz)) : WB p l e rmX12_ticks s m args below meth c 5 D cy B 0 0 (MQ below (QV D cy B g dz) args s 0 0 (wA B)) g d [(0, .ref (ad B x0)), (1, .int y1), (3, .int y3)] 139 [] := by
  unfold fX12_ticks_B139 at hf
  refine b_iload_n C dX12_ticks_139 2 rfl rfl ?_
  refine b_if_eq C (tgt := 162) dX12_ticks_140 (by decide) (fun c18 => ?_) (fun c18 => ?_)
  · have hf := it_s c18 hf
    refine b_sub [(0, .ref (ad B x0)), (1, .int y1)] [0, 1] rfl ?_
    exact tX12_ticks_162 C hr hlocks hf
  · have hf := if_s c18 hf
    refine b_aload_n C dX12_ticks_143 0 rfl rfl ?_
    obtain ⟨h29, hf⟩ := gd_s hf
    obtain ⟨r30, er30, hf⟩ := ob_s hf
    refine b_gR C dX12_ticks_144 fl_X12_40 h29 er30 ?_
    refine b_sipush C (v := 557) dX12_ticks_147 (by decide) ?_
    obtain ⟨h31, hf⟩ := gd_s hf
    obtain ⟨h32, hf⟩ := gd_s hf
    refine b_iald C h31 h32 dX12_ticks_150 ?_
    refine b_if_le C (tgt := 162) dX12_ticks_151 (by decide) (fun c33 => ?_) (fun c33 => ?_)
    · have hf := it_s c33 hf
      refine b_sub [(0, .ref (ad B x0)), (1, .int y1)] [0, 1] rfl ?_
      exact tX12_ticks_162 C hr hlocks hf
    · have hf := if_s c33 hf
      refine b_aload_n C dX12_ticks_154 0 rfl rfl ?_
      obtain ⟨u36, d34, k35, hf⟩ := cb_s hf
      refine b_cVI C [] dX12_ticks_155 (kX12_works l D cy B k35) lv_X12_235 ⟨rfl, rfl, Nat.le_of_ble_eq_true rfl, Nat.le_of_ble_eq_true rfl⟩ h29 (by decide) rfl (Nat.le_of_ble_eq_true rfl) ⟨Nat.zero_le _, Nat.zero_le _⟩ rfl ?_
      refine b_istore_n C dX12_ticks_158 rfl [(3, .int u36), (0, .ref (ad B x0)), (1, .int y1)] (by decide) rfl ?_
      refine b_goto C (tgt := 139) dX12_ticks_159 (by decide) ?_
      refine b_sub [(0, .ref (ad B x0)), (1, .int y1), (3, .int u36)] [1, 2, 0] rfl ?_
      exact hK139 (y1, u36, d34) hf
def fX12_ticks_L139 (N : Nat) (g : Gs) (x0 : Nat) : Int32 × Int32 × Ds → Option (Unit × Ds) := lp (fun K139 a => fX12_ticks_B139 N g x0 K139 a.1 a.2.1 a.2.2) N
theorem tX12_ticks_L139 {p : Program} {l : Launch} {e : Env} {s : State} {m : MethodId} {args : Array Value} {below : List Frame} {meth : Method} {c : Code} {D : va_G} {cy : Nat → ClassId} {B : Bs} (C : Cx p s m args c cX12_ticks 5 RX12 D cy B) (hr : meth.sig.returnType = none) (hlocks : meth.locks = false) {N : Nat} {g : Gs} {x0 : Nat}  {dz : Ds} (a : Int32 × Int32 × Ds) (hf : fX12_ticks_L139 N g x0 a = some ((), dz)) : WB p l e rmX12_ticks s m args below meth c 5 D cy B 0 0 (MQ below (QV D cy B g dz) args s 0 0 (wA B)) g a.2.2 [(0, .ref (ad B x0)), (1, .int a.1), (3, .int a.2.1)] 139 [] :=
  lp_w (fun K139 hK139 a ha => tX12_ticks_139 C hr hlocks hK139 ha) N a hf
set_option maxRecDepth 100000 in
def fX12_ticks_J131 (N : Nat) (g : Gs) (x0 : Nat) (K33 : Int32 × Int32 × Int32 × Ds → Option (Unit × Ds)) (y1 : Int32) (y2 : Int32) (y3 : Int32) (d : Ds) : Option (Unit × Ds) := bd (y3 + 1) fun u53 => (K33 (y1, y2, u53, d))
set_option maxHeartbeats 4000000 in
set_option maxRecDepth 100000 in
theorem tX12_ticks_131 {p : Program} {l : Launch} {e : Env} {s : State} {m : MethodId} {args : Array Value} {below : List Frame} {meth : Method} {c : Code} {D : va_G} {cy : Nat → ClassId} {B : Bs} (C : Cx p s m args c cX12_ticks 5 RX12 D cy B) (hr : meth.sig.returnType = none) (hlocks : meth.locks = false) {N : Nat} {g : Gs} {x0 : Nat}  {dz : Ds} {K33 : Int32 × Int32 × Int32 × Ds → Option (Unit × Ds)} (hK33 : ∀ a, K33 a = some ((), dz) → WB p l e rmX12_ticks s m args below meth c 5 D cy B 0 0 (MQ below (QV D cy B g dz) args s 0 0 (wA B)) g a.2.2.2 [(0, .ref (ad B x0)), (1, .int a.1), (2, .int a.2.1), (3, .int a.2.2.1)] 33 []) {y1 : Int32} {y2 : Int32} {y3 : Int32} {d : Ds} (hf : fX12_ticks_J131 N g x0 K33 y1 y2 y3 d = some ((), dz)) : WB p l e rmX12_ticks s m args below meth c 5 D cy B 0 0 (MQ below (QV D cy B g dz) args s 0 0 (wA B)) g d [(0, .ref (ad B x0)), (1, .int y1), (2, .int y2), (3, .int y3)] 131 [] := by
  unfold fX12_ticks_J131 at hf
  obtain ⟨u53, eu53, hf⟩ := bd_s hf
  refine b_iinc C dX12_ticks_131 3 rfl (by rw [eu53]; rfl) [(3, .int u53), (0, .ref (ad B x0)), (1, .int y1), (2, .int y2)] (by decide) rfl ?_
  refine b_goto C (tgt := 33) dX12_ticks_134 (by decide) ?_
  refine b_sub [(0, .ref (ad B x0)), (1, .int y1), (2, .int y2), (3, .int u53)] [1, 2, 3, 0] rfl ?_
  exact hK33 (y1, y2, u53, d) hf
set_option maxRecDepth 100000 in
def fX12_ticks_J106 (N : Nat) (g : Gs) (x0 : Nat) (K33 : Int32 × Int32 × Int32 × Ds → Option (Unit × Ds)) (y1 : Int32) (y2 : Int32) (y3 : Int32) (z0 : Int32) (z1 : Int32) (z2 : Nat) (d : Ds) : Option (Unit × Ds) := gd (chk g z2 102) <| gd (¬ (z1 < 0 ∨ gL g z2 ≤ z1.toNatClampNeg)) <| bd (sI d z2 z1.toNatClampNeg z0) fun d46 => (gd (chk g x0 11) <| ob (gR g x0 17) fun r48 => (gd (chk g r48 102) <| gd (¬ (((355 : Int32) + y3) < 0 ∨ gL g r48 ≤ ((355 : Int32) + y3).toNatClampNeg)) <| gd (¬ ((4 : Int32) < 0 ∨ gL g r48 ≤ (4 : Int32).toNatClampNeg)) <| if (dI d46 r48 ((355 : Int32) + y3).toNatClampNeg) = (dI d46 r48 (4 : Int32).toNatClampNeg) then (cv (fX12_changes N g x0 y3 d46) fun d54 => (fX12_ticks_J131 N g x0 K33 y1 y2 y3 d54)) else (fX12_ticks_J131 N g x0 K33 y1 y2 y3 d46)))
set_option maxHeartbeats 4000000 in
set_option maxRecDepth 100000 in
theorem tX12_ticks_106 {p : Program} {l : Launch} {e : Env} {s : State} {m : MethodId} {args : Array Value} {below : List Frame} {meth : Method} {c : Code} {D : va_G} {cy : Nat → ClassId} {B : Bs} (C : Cx p s m args c cX12_ticks 5 RX12 D cy B) (hr : meth.sig.returnType = none) (hlocks : meth.locks = false) {N : Nat} {g : Gs} {x0 : Nat}  {dz : Ds} {K33 : Int32 × Int32 × Int32 × Ds → Option (Unit × Ds)} (hK33 : ∀ a, K33 a = some ((), dz) → WB p l e rmX12_ticks s m args below meth c 5 D cy B 0 0 (MQ below (QV D cy B g dz) args s 0 0 (wA B)) g a.2.2.2 [(0, .ref (ad B x0)), (1, .int a.1), (2, .int a.2.1), (3, .int a.2.2.1)] 33 []) {y1 : Int32} {y2 : Int32} {y3 : Int32} {z0 : Int32} {z1 : Int32} {z2 : Nat} {d : Ds} (hf : fX12_ticks_J106 N g x0 K33 y1 y2 y3 z0 z1 z2 d = some ((), dz)) : WB p l e rmX12_ticks s m args below meth c 5 D cy B 0 0 (MQ below (QV D cy B g dz) args s 0 0 (wA B)) g d [(0, .ref (ad B x0)), (1, .int y1), (2, .int y2), (3, .int y3)] 106 [.int z0, .int z1, .ref (ad B z2)] := by
  unfold fX12_ticks_J106 at hf
  obtain ⟨h44, hf⟩ := gd_s hf
  obtain ⟨h45, hf⟩ := gd_s hf
  obtain ⟨d46, ed46, hf⟩ := bd_s hf
  refine b_iast C h44 h45 ed46 dX12_ticks_106 ?_
  refine b_aload_n C dX12_ticks_107 0 rfl rfl ?_
  obtain ⟨h47, hf⟩ := gd_s hf
  obtain ⟨r48, er48, hf⟩ := ob_s hf
  refine b_gR C dX12_ticks_108 fl_X12_40 h47 er48 ?_
  refine b_sipush C (v := 355) dX12_ticks_111 (by decide) ?_
  refine b_iload_n C dX12_ticks_114 3 rfl rfl ?_
  refine b_iadd C dX12_ticks_115 ?_
  obtain ⟨h49, hf⟩ := gd_s hf
  obtain ⟨h50, hf⟩ := gd_s hf
  refine b_iald C h49 h50 dX12_ticks_116 ?_
  refine b_aload_n C dX12_ticks_117 0 rfl rfl ?_
  refine b_gR C dX12_ticks_118 fl_X12_40 h47 er48 ?_
  refine b_iconst C (v := 4) dX12_ticks_121 (by decide) ?_
  obtain ⟨h51, hf⟩ := gd_s hf
  refine b_iald C h49 h51 dX12_ticks_122 ?_
  refine b_icmp_ne C (tgt := 131) dX12_ticks_123 (by decide) (fun c52 => ?_) (fun c52 => ?_)
  · have hf := if_s c52 hf
    refine b_sub [(0, .ref (ad B x0)), (1, .int y1), (2, .int y2), (3, .int y3)] [0, 1, 2, 3] rfl ?_
    exact tX12_ticks_131 C hr hlocks hK33 hf
  · have hf := it_s c52 hf
    refine b_aload_n C dX12_ticks_126 0 rfl rfl ?_
    refine b_iload_n C dX12_ticks_127 3 rfl rfl ?_
    obtain ⟨d54, k55, hf⟩ := cv_s hf
    refine b_cVN C [] dX12_ticks_128 (kX12_changes l D cy B k55) lv_X12_232 ⟨rfl, rfl, Nat.le_of_ble_eq_true rfl, Nat.le_of_ble_eq_true rfl⟩ h47 (by decide) rfl (Nat.le_of_ble_eq_true rfl) ⟨Nat.zero_le _, Nat.zero_le _⟩ rfl ?_
    refine b_sub [(0, .ref (ad B x0)), (1, .int y1), (2, .int y2), (3, .int y3)] [0, 1, 2, 3] rfl ?_
    exact tX12_ticks_131 C hr hlocks hK33 hf
set_option maxRecDepth 100000 in
def fX12_ticks_J74 (N : Nat) (g : Gs) (x0 : Nat) (K33 : Int32 × Int32 × Int32 × Ds → Option (Unit × Ds)) (y1 : Int32) (y2 : Int32) (y3 : Int32) (z0 : Int32) (d : Ds) : Option (Unit × Ds) := gd (chk g x0 11) <| ob (gR g x0 17) fun r42 => (if z0 = 0 then (fX12_ticks_J106 N g x0 K33 y1 y2 y3 0 ((355 : Int32) + y3) r42 d) else (gd (chk g r42 102) <| gd (¬ (((355 : Int32) + y3) < 0 ∨ gL g r42 ≤ ((355 : Int32) + y3).toNatClampNeg)) <| fX12_ticks_J106 N g x0 K33 y1 y2 y3 ((dI d r42 ((355 : Int32) + y3).toNatClampNeg) + 1) ((355 : Int32) + y3) r42 d))
set_option maxHeartbeats 4000000 in
set_option maxRecDepth 100000 in
theorem tX12_ticks_74 {p : Program} {l : Launch} {e : Env} {s : State} {m : MethodId} {args : Array Value} {below : List Frame} {meth : Method} {c : Code} {D : va_G} {cy : Nat → ClassId} {B : Bs} (C : Cx p s m args c cX12_ticks 5 RX12 D cy B) (hr : meth.sig.returnType = none) (hlocks : meth.locks = false) {N : Nat} {g : Gs} {x0 : Nat}  {dz : Ds} {K33 : Int32 × Int32 × Int32 × Ds → Option (Unit × Ds)} (hK33 : ∀ a, K33 a = some ((), dz) → WB p l e rmX12_ticks s m args below meth c 5 D cy B 0 0 (MQ below (QV D cy B g dz) args s 0 0 (wA B)) g a.2.2.2 [(0, .ref (ad B x0)), (1, .int a.1), (2, .int a.2.1), (3, .int a.2.2.1)] 33 []) {y1 : Int32} {y2 : Int32} {y3 : Int32} {z0 : Int32} {d : Ds} (hf : fX12_ticks_J74 N g x0 K33 y1 y2 y3 z0 d = some ((), dz)) : WB p l e rmX12_ticks s m args below meth c 5 D cy B 0 0 (MQ below (QV D cy B g dz) args s 0 0 (wA B)) g d [(0, .ref (ad B x0)), (1, .int y1), (2, .int y2), (3, .int y3)] 74 [.int z0] := by
  unfold fX12_ticks_J74 at hf
  refine b_istore C dX12_ticks_74 [(4, .int z0), (0, .ref (ad B x0)), (1, .int y1), (2, .int y2), (3, .int y3)] (by decide) rfl ?_
  refine b_aload_n C dX12_ticks_76 1 rfl rfl ?_
  obtain ⟨h41, hf⟩ := gd_s hf
  obtain ⟨r42, er42, hf⟩ := ob_s hf
  refine b_gR C dX12_ticks_77 fl_X12_40 h41 er42 ?_
  refine b_sipush C (v := 355) dX12_ticks_80 (by decide) ?_
  refine b_iload_n C dX12_ticks_83 4 rfl rfl ?_
  refine b_iadd C dX12_ticks_84 ?_
  refine b_iload C dX12_ticks_85 0 rfl ?_
  refine b_if_eq C (tgt := 105) dX12_ticks_87 (by decide) (fun c43 => ?_) (fun c43 => ?_)
  · have hf := it_s c43 hf
    refine b_iconst C (v := 0) dX12_ticks_105 (by decide) ?_
    refine b_sub [(0, .ref (ad B x0)), (1, .int y1), (2, .int y2), (3, .int y3)] [1, 2, 3, 4] rfl ?_
    exact tX12_ticks_106 C hr hlocks hK33 hf
  · have hf := if_s c43 hf
    refine b_aload_n C dX12_ticks_90 1 rfl rfl ?_
    refine b_gR C dX12_ticks_91 fl_X12_40 h41 er42 ?_
    refine b_sipush C (v := 355) dX12_ticks_94 (by decide) ?_
    refine b_iload_n C dX12_ticks_97 4 rfl rfl ?_
    refine b_iadd C dX12_ticks_98 ?_
    obtain ⟨h56, hf⟩ := gd_s hf
    obtain ⟨h57, hf⟩ := gd_s hf
    refine b_iald C h56 h57 dX12_ticks_99 ?_
    refine b_iconst C (v := 1) dX12_ticks_100 (by decide) ?_
    refine b_iadd C dX12_ticks_101 ?_
    refine b_goto C (tgt := 106) dX12_ticks_102 (by decide) ?_
    refine b_sub [(0, .ref (ad B x0)), (1, .int y1), (2, .int y2), (3, .int y3)] [1, 2, 3, 4] rfl ?_
    exact tX12_ticks_106 C hr hlocks hK33 hf
set_option maxRecDepth 100000 in
def fX12_ticks_J73 (N : Nat) (g : Gs) (x0 : Nat) (K33 : Int32 × Int32 × Int32 × Ds → Option (Unit × Ds)) (y1 : Int32) (y2 : Int32) (y3 : Int32) (d : Ds) : Option (Unit × Ds) := fX12_ticks_J74 N g x0 K33 y1 y2 y3 0 d
set_option maxHeartbeats 4000000 in
set_option maxRecDepth 100000 in
theorem tX12_ticks_73 {p : Program} {l : Launch} {e : Env} {s : State} {m : MethodId} {args : Array Value} {below : List Frame} {meth : Method} {c : Code} {D : va_G} {cy : Nat → ClassId} {B : Bs} (C : Cx p s m args c cX12_ticks 5 RX12 D cy B) (hr : meth.sig.returnType = none) (hlocks : meth.locks = false) {N : Nat} {g : Gs} {x0 : Nat}  {dz : Ds} {K33 : Int32 × Int32 × Int32 × Ds → Option (Unit × Ds)} (hK33 : ∀ a, K33 a = some ((), dz) → WB p l e rmX12_ticks s m args below meth c 5 D cy B 0 0 (MQ below (QV D cy B g dz) args s 0 0 (wA B)) g a.2.2.2 [(0, .ref (ad B x0)), (1, .int a.1), (2, .int a.2.1), (3, .int a.2.2.1)] 33 []) {y1 : Int32} {y2 : Int32} {y3 : Int32} {d : Ds} (hf : fX12_ticks_J73 N g x0 K33 y1 y2 y3 d = some ((), dz)) : WB p l e rmX12_ticks s m args below meth c 5 D cy B 0 0 (MQ below (QV D cy B g dz) args s 0 0 (wA B)) g d [(0, .ref (ad B x0)), (1, .int y1), (2, .int y2), (3, .int y3)] 73 [] := by
  unfold fX12_ticks_J73 at hf
  refine b_iconst C (v := 0) dX12_ticks_73 (by decide) ?_
  refine b_sub [(0, .ref (ad B x0)), (1, .int y1), (2, .int y2), (3, .int y3)] [0, 1, 2, 3] rfl ?_
  exact tX12_ticks_74 C hr hlocks hK33 hf
set_option maxRecDepth 100000 in
def fX12_ticks_B33 (N : Nat) (g : Gs) (x0 : Nat) (K33 : Int32 × Int32 × Int32 × Ds → Option (Unit × Ds)) (y1 : Int32) (y2 : Int32) (y3 : Int32) (d : Ds) : Option (Unit × Ds) := gd (chk g x0 11) <| cb (fX12_keysMany N g x0 d) fun u16 d14 => (if u16 ≤ y3 then (fX12_ticks_L139 N g x0 (y1, 1, d14)) else (cb (fX12_has N g y2 y3 d14) fun u39 d37 => (if u39 = 0 then (cb (fX12_has N g y1 y3 d37) fun u60 d58 => (ob (gR g x0 17) fun r61 => (gd (chk g r61 102) <| gd (¬ ((353 : Int32) < 0 ∨ gL g r61 ≤ (353 : Int32).toNatClampNeg)) <| cb (fX12_has N g (dI d58 r61 (353 : Int32).toNatClampNeg) y3 d58) fun u66 d64 => (if u60 = u66 then (fX12_ticks_J73 N g x0 K33 y1 y2 y3 d64) else (fX12_ticks_J74 N g x0 K33 y1 y2 y3 1 d64))))) else (fX12_ticks_J73 N g x0 K33 y1 y2 y3 d37))))
set_option maxHeartbeats 4000000 in
set_option maxRecDepth 100000 in
theorem tX12_ticks_33 {p : Program} {l : Launch} {e : Env} {s : State} {m : MethodId} {args : Array Value} {below : List Frame} {meth : Method} {c : Code} {D : va_G} {cy : Nat → ClassId} {B : Bs} (C : Cx p s m args c cX12_ticks 5 RX12 D cy B) (hr : meth.sig.returnType = none) (hlocks : meth.locks = false) {N : Nat} {g : Gs} {x0 : Nat}  {dz : Ds} {K33 : Int32 × Int32 × Int32 × Ds → Option (Unit × Ds)} (hK33 : ∀ a, K33 a = some ((), dz) → WB p l e rmX12_ticks s m args below meth c 5 D cy B 0 0 (MQ below (QV D cy B g dz) args s 0 0 (wA B)) g a.2.2.2 [(0, .ref (ad B x0)), (1, .int a.1), (2, .int a.2.1), (3, .int a.2.2.1)] 33 []) {y1 : Int32} {y2 : Int32} {y3 : Int32} {d : Ds} (hf : fX12_ticks_B33 N g x0 K33 y1 y2 y3 d = some ((), dz)) : WB p l e rmX12_ticks s m args below meth c 5 D cy B 0 0 (MQ below (QV D cy B g dz) args s 0 0 (wA B)) g d [(0, .ref (ad B x0)), (1, .int y1), (2, .int y2), (3, .int y3)] 33 [] := by
  unfold fX12_ticks_B33 at hf
  refine b_iload_n C dX12_ticks_33 3 rfl rfl ?_
  refine b_aload_n C dX12_ticks_34 0 rfl rfl ?_
  obtain ⟨h13, hf⟩ := gd_s hf
  obtain ⟨u16, d14, k15, hf⟩ := cb_s hf
  refine b_cVI C [.int y3] dX12_ticks_35 (kX12_keysMany l D cy B k15) lv_X12_206 ⟨rfl, rfl, Nat.le_of_ble_eq_true rfl, Nat.le_of_ble_eq_true rfl⟩ h13 (by decide) rfl (Nat.le_of_ble_eq_true rfl) ⟨Nat.zero_le _, Nat.zero_le _⟩ rfl ?_
  refine b_icmp_ge C (tgt := 137) dX12_ticks_38 (by decide) (fun c17 => ?_) (fun c17 => ?_)
  · have hf := it_s c17 hf
    refine b_iconst C (v := 1) dX12_ticks_137 (by decide) ?_
    refine b_istore_n C dX12_ticks_138 rfl [(3, .int 1), (0, .ref (ad B x0)), (1, .int y1), (2, .int y2)] (by decide) rfl ?_
    refine b_sub [(0, .ref (ad B x0)), (1, .int y1), (3, .int 1)] [1, 2, 0] rfl ?_
    exact tX12_ticks_L139 C hr hlocks (y1, 1, d14) hf
  · have hf := if_s c17 hf
    refine b_iload_n C dX12_ticks_41 2 rfl rfl ?_
    refine b_iload_n C dX12_ticks_42 3 rfl rfl ?_
    obtain ⟨u39, d37, k38, hf⟩ := cb_s hf
    refine b_cSI C [] dX12_ticks_43 (kX12_has l D cy B k38) lv_X12_210 ⟨rfl, rfl, Nat.le_of_ble_eq_true rfl, Nat.le_of_ble_eq_true rfl⟩ rfl (Nat.le_of_ble_eq_true rfl) ⟨Nat.zero_le _, Nat.zero_le _⟩ rfl ?_
    refine b_if_ne C (tgt := 73) dX12_ticks_46 (by decide) (fun c40 => ?_) (fun c40 => ?_)
    · have hf := if_s c40 hf
      refine b_sub [(0, .ref (ad B x0)), (1, .int y1), (2, .int y2), (3, .int y3)] [0, 1, 2, 3] rfl ?_
      exact tX12_ticks_73 C hr hlocks hK33 hf
    · have hf := it_s c40 hf
      refine b_iload_n C dX12_ticks_49 1 rfl rfl ?_
      refine b_iload_n C dX12_ticks_50 3 rfl rfl ?_
      obtain ⟨u60, d58, k59, hf⟩ := cb_s hf
      refine b_cSI C [] dX12_ticks_51 (kX12_has l D cy B k59) lv_X12_210 ⟨rfl, rfl, Nat.le_of_ble_eq_true rfl, Nat.le_of_ble_eq_true rfl⟩ rfl (Nat.le_of_ble_eq_true rfl) ⟨Nat.zero_le _, Nat.zero_le _⟩ rfl ?_
      refine b_aload_n C dX12_ticks_54 0 rfl rfl ?_
      obtain ⟨r61, er61, hf⟩ := ob_s hf
      refine b_gR C dX12_ticks_55 fl_X12_40 h13 er61 ?_
      refine b_sipush C (v := 353) dX12_ticks_58 (by decide) ?_
      obtain ⟨h62, hf⟩ := gd_s hf
      obtain ⟨h63, hf⟩ := gd_s hf
      refine b_iald C h62 h63 dX12_ticks_61 ?_
      refine b_iload_n C dX12_ticks_62 3 rfl rfl ?_
      obtain ⟨u66, d64, k65, hf⟩ := cb_s hf
      refine b_cSI C [.int u60] dX12_ticks_63 (kX12_has l D cy B k65) lv_X12_210 ⟨rfl, rfl, Nat.le_of_ble_eq_true rfl, Nat.le_of_ble_eq_true rfl⟩ rfl (Nat.le_of_ble_eq_true rfl) ⟨Nat.zero_le _, Nat.zero_le _⟩ rfl ?_
      refine b_icmp_eq C (tgt := 73) dX12_ticks_66 (by decide) (fun c67 => ?_) (fun c67 => ?_)
      · have hf := it_s c67 hf
        refine b_sub [(0, .ref (ad B x0)), (1, .int y1), (2, .int y2), (3, .int y3)] [0, 1, 2, 3] rfl ?_
        exact tX12_ticks_73 C hr hlocks hK33 hf
      · have hf := if_s c67 hf
        refine b_iconst C (v := 1) dX12_ticks_69 (by decide) ?_
        refine b_goto C (tgt := 74) dX12_ticks_70 (by decide) ?_
        refine b_sub [(0, .ref (ad B x0)), (1, .int y1), (2, .int y2), (3, .int y3)] [0, 1, 2, 3] rfl ?_
        exact tX12_ticks_74 C hr hlocks hK33 hf
def fX12_ticks_L33 (N : Nat) (g : Gs) (x0 : Nat) : Int32 × Int32 × Int32 × Ds → Option (Unit × Ds) := lp (fun K33 a => fX12_ticks_B33 N g x0 K33 a.1 a.2.1 a.2.2.1 a.2.2.2) N
theorem tX12_ticks_L33 {p : Program} {l : Launch} {e : Env} {s : State} {m : MethodId} {args : Array Value} {below : List Frame} {meth : Method} {c : Code} {D : va_G} {cy : Nat → ClassId} {B : Bs} (C : Cx p s m args c cX12_ticks 5 RX12 D cy B) (hr : meth.sig.returnType = none) (hlocks : meth.locks = false) {N : Nat} {g : Gs} {x0 : Nat}  {dz : Ds} (a : Int32 × Int32 × Int32 × Ds) (hf : fX12_ticks_L33 N g x0 a = some ((), dz)) : WB p l e rmX12_ticks s m args below meth c 5 D cy B 0 0 (MQ below (QV D cy B g dz) args s 0 0 (wA B)) g a.2.2.2 [(0, .ref (ad B x0)), (1, .int a.1), (2, .int a.2.1), (3, .int a.2.2.1)] 33 [] :=
  lp_w (fun K33 hK33 a ha => tX12_ticks_33 C hr hlocks hK33 ha) N a hf
set_option maxRecDepth 100000 in
def fX12_ticks (N : Nat) (g : Gs) (x0 : Nat) (d : Ds) : Option (Unit × Ds) := gd (chk g x0 11) <| ob (gR g x0 17) fun r2 => (gd (chk g r2 102) <| gd (¬ ((354 : Int32) < 0 ∨ gL g r2 ≤ (354 : Int32).toNatClampNeg)) <| bd (sI d r2 (354 : Int32).toNatClampNeg ((dI d r2 (354 : Int32).toNatClampNeg) + 1)) fun d5 => (gd (¬ ((352 : Int32) < 0 ∨ gL g r2 ≤ (352 : Int32).toNatClampNeg)) <| cb (fX12_seenBy N g x0 (dI d5 r2 (352 : Int32).toNatClampNeg) d5) fun u9 d7 => (cb (fX12_barredBy N g x0 u9 d7) fun u12 d10 => (fX12_ticks_L33 N g x0 (u9, u12, 0, d10)))))
set_option maxHeartbeats 4000000 in
set_option maxRecDepth 100000 in
theorem tX12_ticks_E {p : Program} {l : Launch} {e : Env} {s : State} {m : MethodId} {args : Array Value} {below : List Frame} {meth : Method} {c : Code} {D : va_G} {cy : Nat → ClassId} {B : Bs} (C : Cx p s m args c cX12_ticks 5 RX12 D cy B) (hr : meth.sig.returnType = none) (hlocks : meth.locks = false) {N : Nat} {g : Gs} {x0 : Nat}  {dz : Ds} {d : Ds} (hf : fX12_ticks N g x0 d = some ((), dz)) : WB p l e rmX12_ticks s m args below meth c 5 D cy B 0 0 (MQ below (QV D cy B g dz) args s 0 0 (wA B)) g d [(0, .ref (ad B x0))] 0 [] := by
  unfold fX12_ticks at hf
  refine b_aload_n C dX12_ticks_0 0 rfl rfl ?_
  obtain ⟨h1, hf⟩ := gd_s hf
  obtain ⟨r2, er2, hf⟩ := ob_s hf
  refine b_gR C dX12_ticks_1 fl_X12_40 h1 er2 ?_
  refine b_sipush C (v := 354) dX12_ticks_4 (by decide) ?_
  refine b_dup2 C dX12_ticks_7 rfl rfl ?_
  obtain ⟨h3, hf⟩ := gd_s hf
  obtain ⟨h4, hf⟩ := gd_s hf
  refine b_iald C h3 h4 dX12_ticks_8 ?_
  refine b_iconst C (v := 1) dX12_ticks_9 (by decide) ?_
  refine b_iadd C dX12_ticks_10 ?_
  obtain ⟨d5, ed5, hf⟩ := bd_s hf
  refine b_iast C h3 h4 ed5 dX12_ticks_11 ?_
  refine b_aload_n C dX12_ticks_12 0 rfl rfl ?_
  refine b_aload_n C dX12_ticks_13 0 rfl rfl ?_
  refine b_gR C dX12_ticks_14 fl_X12_40 h1 er2 ?_
  refine b_sipush C (v := 352) dX12_ticks_17 (by decide) ?_
  obtain ⟨h6, hf⟩ := gd_s hf
  refine b_iald C h3 h6 dX12_ticks_20 ?_
  obtain ⟨u9, d7, k8, hf⟩ := cb_s hf
  refine b_cVI C [] dX12_ticks_21 (kX12_seenBy l D cy B k8) lv_X12_223 ⟨rfl, rfl, Nat.le_of_ble_eq_true rfl, Nat.le_of_ble_eq_true rfl⟩ h1 (by decide) rfl (Nat.le_of_ble_eq_true rfl) ⟨Nat.zero_le _, Nat.zero_le _⟩ rfl ?_
  refine b_istore_n C dX12_ticks_24 rfl [(1, .int u9), (0, .ref (ad B x0))] (by decide) rfl ?_
  refine b_aload_n C dX12_ticks_25 1 rfl rfl ?_
  refine b_iload_n C dX12_ticks_26 0 rfl rfl ?_
  obtain ⟨u12, d10, k11, hf⟩ := cb_s hf
  refine b_cVI C [] dX12_ticks_27 (kX12_barredBy l D cy B k11) lv_X12_229 ⟨rfl, rfl, Nat.le_of_ble_eq_true rfl, Nat.le_of_ble_eq_true rfl⟩ h1 (by decide) rfl (Nat.le_of_ble_eq_true rfl) ⟨Nat.zero_le _, Nat.zero_le _⟩ rfl ?_
  refine b_istore_n C dX12_ticks_30 rfl [(2, .int u12), (1, .int u9), (0, .ref (ad B x0))] (by decide) rfl ?_
  refine b_iconst C (v := 0) dX12_ticks_31 (by decide) ?_
  refine b_istore_n C dX12_ticks_32 rfl [(3, .int 0), (2, .int u12), (1, .int u9), (0, .ref (ad B x0))] (by decide) rfl ?_
  refine b_sub [(0, .ref (ad B x0)), (1, .int u9), (2, .int u12), (3, .int 0)] [3, 2, 1, 0] rfl ?_
  exact tX12_ticks_L33 C hr hlocks (u9, u12, 0, d10) hf
theorem kX12_ticks (l : Launch) (D : va_G) (cy : Nat → ClassId) (B : Bs) {N : Nat} {g : Gs} {x0 : Nat}  {dz : Ds} {d : Ds} (hf : fX12_ticks N g x0 d = some ((), dz)) : Met l yX12_ticks (.code yX12_ticks cX12_ticks 5 none :: wl) rmX12_ticks (PC D cy B [.ref (ad B x0)] g d) (QV D cy B g dz) 0 0 (wA B) :=
  met_of (by decide +kernel) (Nat.le_of_ble_eq_true rfl) (fun p e s m args below meth c C hr hlocks _ => b_sub [(0, .ref (ad B x0))] [0] rfl (tX12_ticks_E C hr hlocks hf))
/-! KeyMatrixModel.deed(III)I -/
theorem dX12_deed_0 : decode cX12_deed 0 = .ok (.iload_n 1, 1) := by decide +kernel
theorem dX12_deed_1 : decode cX12_deed 1 = .ok (.iconst (-1), 1) := by decide +kernel
theorem dX12_deed_2 : decode cX12_deed 2 = .ok (.iconst 3, 1) := by decide +kernel
theorem dX12_deed_3 : decode cX12_deed 3 = .ok (.invokestatic 169, 3) := by decide +kernel
theorem dX12_deed_6 : decode cX12_deed 6 = .ok (.ifCond .eq 20, 3) := by decide +kernel
theorem dX12_deed_9 : decode cX12_deed 9 = .ok (.aload_n 0, 1) := by decide +kernel
theorem dX12_deed_10 : decode cX12_deed 10 = .ok (.iload_n 2, 1) := by decide +kernel
theorem dX12_deed_11 : decode cX12_deed 11 = .ok (.invokevirtual 220, 3) := by decide +kernel
theorem dX12_deed_14 : decode cX12_deed 14 = .ok (.ifCond .eq 12, 3) := by decide +kernel
theorem dX12_deed_17 : decode cX12_deed 17 = .ok (.iload_n 3, 1) := by decide +kernel
theorem dX12_deed_18 : decode cX12_deed 18 = .ok (.iconst 0, 1) := by decide +kernel
theorem dX12_deed_19 : decode cX12_deed 19 = .ok (.iconst 2, 1) := by decide +kernel
theorem dX12_deed_20 : decode cX12_deed 20 = .ok (.invokestatic 169, 3) := by decide +kernel
theorem dX12_deed_23 : decode cX12_deed 23 = .ok (.ifCond .ne 5, 3) := by decide +kernel
theorem dX12_deed_26 : decode cX12_deed 26 = .ok (.iconst (-1), 1) := by decide +kernel
theorem dX12_deed_27 : decode cX12_deed 27 = .ok (.ireturn, 1) := by decide +kernel
theorem dX12_deed_28 : decode cX12_deed 28 = .ok (.aload_n 0, 1) := by decide +kernel
theorem dX12_deed_29 : decode cX12_deed 29 = .ok (.getfield 40, 3) := by decide +kernel
theorem dX12_deed_32 : decode cX12_deed 32 = .ok (.bipush 12, 2) := by decide +kernel
theorem dX12_deed_34 : decode cX12_deed 34 = .ok (.iconst 3, 1) := by decide +kernel
theorem dX12_deed_35 : decode cX12_deed 35 = .ok (.bipush 24, 2) := by decide +kernel
theorem dX12_deed_37 : decode cX12_deed 37 = .ok (.iload_n 1, 1) := by decide +kernel
theorem dX12_deed_38 : decode cX12_deed 38 = .ok (.ifCond .ge 11, 3) := by decide +kernel
theorem dX12_deed_41 : decode cX12_deed 41 = .ok (.aload_n 0, 1) := by decide +kernel
theorem dX12_deed_42 : decode cX12_deed 42 = .ok (.iload_n 2, 1) := by decide +kernel
theorem dX12_deed_43 : decode cX12_deed 43 = .ok (.invokevirtual 272, 3) := by decide +kernel
theorem dX12_deed_46 : decode cX12_deed 46 = .ok (.goto 4, 3) := by decide +kernel
theorem dX12_deed_49 : decode cX12_deed 49 = .ok (.iload_n 1, 1) := by decide +kernel
theorem dX12_deed_50 : decode cX12_deed 50 = .ok (.imul, 1) := by decide +kernel
theorem dX12_deed_51 : decode cX12_deed 51 = .ok (.iload_n 2, 1) := by decide +kernel
theorem dX12_deed_52 : decode cX12_deed 52 = .ok (.iadd, 1) := by decide +kernel
theorem dX12_deed_53 : decode cX12_deed 53 = .ok (.imul, 1) := by decide +kernel
theorem dX12_deed_54 : decode cX12_deed 54 = .ok (.iadd, 1) := by decide +kernel
theorem dX12_deed_55 : decode cX12_deed 55 = .ok (.iload_n 3, 1) := by decide +kernel
theorem dX12_deed_56 : decode cX12_deed 56 = .ok (.iadd, 1) := by decide +kernel
theorem dX12_deed_57 : decode cX12_deed 57 = .ok (.iaload, 1) := by decide +kernel
theorem dX12_deed_58 : decode cX12_deed 58 = .ok (.istore 4, 2) := by decide +kernel
theorem dX12_deed_60 : decode cX12_deed 60 = .ok (.iload_n 1, 1) := by decide +kernel
theorem dX12_deed_61 : decode cX12_deed 61 = .ok (.ifCond .ge 17, 3) := by decide +kernel
theorem dX12_deed_64 : decode cX12_deed 64 = .ok (.iload_n 3, 1) := by decide +kernel
theorem dX12_deed_65 : decode cX12_deed 65 = .ok (.ifCond .ne 13, 3) := by decide +kernel
theorem dX12_deed_68 : decode cX12_deed 68 = .ok (.iload 4, 2) := by decide +kernel
theorem dX12_deed_70 : decode cX12_deed 70 = .ok (.iconst 5, 1) := by decide +kernel
theorem dX12_deed_71 : decode cX12_deed 71 = .ok (.if_icmp .ne 7, 3) := by decide +kernel
theorem dX12_deed_74 : decode cX12_deed 74 = .ok (.iconst 4, 1) := by decide +kernel
theorem dX12_deed_75 : decode cX12_deed 75 = .ok (.goto 5, 3) := by decide +kernel
theorem dX12_deed_78 : decode cX12_deed 78 = .ok (.iload 4, 2) := by decide +kernel
theorem dX12_deed_80 : decode cX12_deed 80 = .ok (.ireturn, 1) := by decide +kernel
def rmX12_deed : Room := { frames := 2, cells := 0, slots := 0, locals := 45 }
set_option maxRecDepth 100000 in
def fX12_deed_J26 (N : Nat) (g : Gs) (x0 : Nat) (x1 : Int32) (x2 : Int32) (x3 : Int32) (d : Ds) : Option (Int32 × Ds) := some ((-1), d)
set_option maxHeartbeats 4000000 in
set_option maxRecDepth 100000 in
theorem tX12_deed_26 {p : Program} {l : Launch} {e : Env} {s : State} {m : MethodId} {args : Array Value} {below : List Frame} {meth : Method} {c : Code} {D : va_G} {cy : Nat → ClassId} {B : Bs} (C : Cx p s m args c cX12_deed 5 RX12 D cy B) (hr : meth.sig.returnType = (some .int)) (hlocks : meth.locks = false) {N : Nat} {g : Gs} {x0 : Nat} {x1 : Int32} {x2 : Int32} {x3 : Int32} {vz : Int32} {dz : Ds} {d : Ds} (hf : fX12_deed_J26 N g x0 x1 x2 x3 d = some (vz, dz)) : WB p l e rmX12_deed s m args below meth c 5 D cy B 0 0 (MQ below (QI D cy B vz g dz) args s 0 0 (wA B)) g d [(0, .ref (ad B x0)), (1, .int x1), (2, .int x2), (3, .int x3)] 26 [] := by
  unfold fX12_deed_J26 at hf
  refine b_iconst C (v := (-1)) dX12_deed_26 (by decide) ?_
  exact b_iret C hr hlocks hf dX12_deed_27
set_option maxRecDepth 100000 in
def fX12_deed_J80 (N : Nat) (g : Gs) (x0 : Nat) (x1 : Int32) (x2 : Int32) (x3 : Int32) (z0 : Int32) (d : Ds) : Option (Int32 × Ds) := some (z0, d)
set_option maxHeartbeats 4000000 in
set_option maxRecDepth 100000 in
theorem tX12_deed_80 {p : Program} {l : Launch} {e : Env} {s : State} {m : MethodId} {args : Array Value} {below : List Frame} {meth : Method} {c : Code} {D : va_G} {cy : Nat → ClassId} {B : Bs} (C : Cx p s m args c cX12_deed 5 RX12 D cy B) (hr : meth.sig.returnType = (some .int)) (hlocks : meth.locks = false) {N : Nat} {g : Gs} {x0 : Nat} {x1 : Int32} {x2 : Int32} {x3 : Int32} {vz : Int32} {dz : Ds} {z0 : Int32} {d : Ds} (hf : fX12_deed_J80 N g x0 x1 x2 x3 z0 d = some (vz, dz)) : WB p l e rmX12_deed s m args below meth c 5 D cy B 0 0 (MQ below (QI D cy B vz g dz) args s 0 0 (wA B)) g d [(0, .ref (ad B x0)), (1, .int x1), (2, .int x2), (3, .int x3)] 80 [.int z0] := by
  unfold fX12_deed_J80 at hf
  exact b_iret C hr hlocks hf dX12_deed_80
set_option maxRecDepth 100000 in
def fX12_deed_J78 (N : Nat) (g : Gs) (x0 : Nat) (x1 : Int32) (x2 : Int32) (x3 : Int32) (y4 : Int32) (d : Ds) : Option (Int32 × Ds) := fX12_deed_J80 N g x0 x1 x2 x3 y4 d
set_option maxHeartbeats 4000000 in
set_option maxRecDepth 100000 in
theorem tX12_deed_78 {p : Program} {l : Launch} {e : Env} {s : State} {m : MethodId} {args : Array Value} {below : List Frame} {meth : Method} {c : Code} {D : va_G} {cy : Nat → ClassId} {B : Bs} (C : Cx p s m args c cX12_deed 5 RX12 D cy B) (hr : meth.sig.returnType = (some .int)) (hlocks : meth.locks = false) {N : Nat} {g : Gs} {x0 : Nat} {x1 : Int32} {x2 : Int32} {x3 : Int32} {vz : Int32} {dz : Ds} {y4 : Int32} {d : Ds} (hf : fX12_deed_J78 N g x0 x1 x2 x3 y4 d = some (vz, dz)) : WB p l e rmX12_deed s m args below meth c 5 D cy B 0 0 (MQ below (QI D cy B vz g dz) args s 0 0 (wA B)) g d [(0, .ref (ad B x0)), (1, .int x1), (2, .int x2), (3, .int x3), (4, .int y4)] 78 [] := by
  unfold fX12_deed_J78 at hf
  refine b_iload C dX12_deed_78 4 rfl ?_
  refine b_sub [(0, .ref (ad B x0)), (1, .int x1), (2, .int x2), (3, .int x3)] [0, 1, 2, 3] rfl ?_
  exact tX12_deed_80 C hr hlocks hf
set_option maxRecDepth 100000 in
def fX12_deed_J50 (N : Nat) (g : Gs) (x0 : Nat) (x1 : Int32) (x2 : Int32) (x3 : Int32) (z0 : Int32) (z1 : Int32) (z2 : Int32) (z3 : Int32) (z4 : Nat) (d : Ds) : Option (Int32 × Ds) := gd (chk g z4 102) <| gd (¬ (((z3 + (z2 * ((z1 * z0) + x2))) + x3) < 0 ∨ gL g z4 ≤ ((z3 + (z2 * ((z1 * z0) + x2))) + x3).toNatClampNeg)) <| bd ((dI d z4 ((z3 + (z2 * ((z1 * z0) + x2))) + x3).toNatClampNeg)) fun u18 => (if 0 ≤ x1 then (fX12_deed_J78 N g x0 x1 x2 x3 u18 d) else (if x3 = 0 then (if u18 = (5 : Int32) then (fX12_deed_J80 N g x0 x1 x2 x3 4 d) else (fX12_deed_J78 N g x0 x1 x2 x3 u18 d)) else (fX12_deed_J78 N g x0 x1 x2 x3 u18 d)))
set_option maxHeartbeats 4000000 in
set_option maxRecDepth 100000 in
theorem tX12_deed_50 {p : Program} {l : Launch} {e : Env} {s : State} {m : MethodId} {args : Array Value} {below : List Frame} {meth : Method} {c : Code} {D : va_G} {cy : Nat → ClassId} {B : Bs} (C : Cx p s m args c cX12_deed 5 RX12 D cy B) (hr : meth.sig.returnType = (some .int)) (hlocks : meth.locks = false) {N : Nat} {g : Gs} {x0 : Nat} {x1 : Int32} {x2 : Int32} {x3 : Int32} {vz : Int32} {dz : Ds} {z0 : Int32} {z1 : Int32} {z2 : Int32} {z3 : Int32} {z4 : Nat} {d : Ds} (hf : fX12_deed_J50 N g x0 x1 x2 x3 z0 z1 z2 z3 z4 d = some (vz, dz)) : WB p l e rmX12_deed s m args below meth c 5 D cy B 0 0 (MQ below (QI D cy B vz g dz) args s 0 0 (wA B)) g d [(0, .ref (ad B x0)), (1, .int x1), (2, .int x2), (3, .int x3)] 50 [.int z0, .int z1, .int z2, .int z3, .ref (ad B z4)] := by
  unfold fX12_deed_J50 at hf
  refine b_imul C dX12_deed_50 ?_
  refine b_iload_n C dX12_deed_51 2 rfl rfl ?_
  refine b_iadd C dX12_deed_52 ?_
  refine b_imul C dX12_deed_53 ?_
  refine b_iadd C dX12_deed_54 ?_
  refine b_iload_n C dX12_deed_55 3 rfl rfl ?_
  refine b_iadd C dX12_deed_56 ?_
  obtain ⟨h16, hf⟩ := gd_s hf
  obtain ⟨h17, hf⟩ := gd_s hf
  refine b_iald C h16 h17 dX12_deed_57 ?_
  obtain ⟨u18, eu18, hf⟩ := bd_s hf
  refine b_topI eu18 ?_
  refine b_istore C dX12_deed_58 [(4, .int u18), (0, .ref (ad B x0)), (1, .int x1), (2, .int x2), (3, .int x3)] (by decide) rfl ?_
  refine b_iload_n C dX12_deed_60 2 rfl rfl ?_
  refine b_if_ge C (tgt := 78) dX12_deed_61 (by decide) (fun c19 => ?_) (fun c19 => ?_)
  · have hf := it_s c19 hf
    refine b_sub [(0, .ref (ad B x0)), (1, .int x1), (2, .int x2), (3, .int x3), (4, .int u18)] [1, 2, 3, 4, 0] rfl ?_
    exact tX12_deed_78 C hr hlocks hf
  · have hf := if_s c19 hf
    refine b_iload_n C dX12_deed_64 4 rfl rfl ?_
    refine b_if_ne C (tgt := 78) dX12_deed_65 (by decide) (fun c20 => ?_) (fun c20 => ?_)
    · have hf := if_s c20 hf
      refine b_sub [(0, .ref (ad B x0)), (1, .int x1), (2, .int x2), (3, .int x3), (4, .int u18)] [1, 2, 3, 4, 0] rfl ?_
      exact tX12_deed_78 C hr hlocks hf
    · have hf := it_s c20 hf
      refine b_iload C dX12_deed_68 0 rfl ?_
      refine b_iconst C (v := 5) dX12_deed_70 (by decide) ?_
      refine b_icmp_ne C (tgt := 78) dX12_deed_71 (by decide) (fun c21 => ?_) (fun c21 => ?_)
      · have hf := if_s c21 hf
        refine b_sub [(0, .ref (ad B x0)), (1, .int x1), (2, .int x2), (3, .int x3), (4, .int u18)] [1, 2, 3, 4, 0] rfl ?_
        exact tX12_deed_78 C hr hlocks hf
      · have hf := it_s c21 hf
        refine b_iconst C (v := 4) dX12_deed_74 (by decide) ?_
        refine b_goto C (tgt := 80) dX12_deed_75 (by decide) ?_
        refine b_sub [(0, .ref (ad B x0)), (1, .int x1), (2, .int x2), (3, .int x3)] [1, 2, 3, 4] rfl ?_
        exact tX12_deed_80 C hr hlocks hf
set_option maxRecDepth 100000 in
def fX12_deed (N : Nat) (g : Gs) (x0 : Nat) (x1 : Int32) (x2 : Int32) (x3 : Int32) (d : Ds) : Option (Int32 × Ds) := cb (fX12_in N g x1 (-1) 3 d) fun u3 d1 => (if u3 = 0 then (fX12_deed_J26 N g x0 x1 x2 x3 d1) else (gd (chk g x0 11) <| cb (fX12_isKey N g x0 x2 d1) fun u8 d6 => (if u8 = 0 then (fX12_deed_J26 N g x0 x1 x2 x3 d6) else (cb (fX12_in N g x3 0 2 d6) fun u12 d10 => (if u12 = 0 then (fX12_deed_J26 N g x0 x1 x2 x3 d10) else (ob (gR g x0 17) fun r14 => (if 0 ≤ x1 then (fX12_deed_J50 N g x0 x1 x2 x3 x1 24 3 12 r14 d10) else (cb (fX12_layerOf N g x0 x2 d10) fun u24 d22 => (fX12_deed_J50 N g x0 x1 x2 x3 u24 24 3 12 r14 d22)))))))))
set_option maxHeartbeats 4000000 in
set_option maxRecDepth 100000 in
theorem tX12_deed_E {p : Program} {l : Launch} {e : Env} {s : State} {m : MethodId} {args : Array Value} {below : List Frame} {meth : Method} {c : Code} {D : va_G} {cy : Nat → ClassId} {B : Bs} (C : Cx p s m args c cX12_deed 5 RX12 D cy B) (hr : meth.sig.returnType = (some .int)) (hlocks : meth.locks = false) {N : Nat} {g : Gs} {x0 : Nat} {x1 : Int32} {x2 : Int32} {x3 : Int32} {vz : Int32} {dz : Ds} {d : Ds} (hf : fX12_deed N g x0 x1 x2 x3 d = some (vz, dz)) : WB p l e rmX12_deed s m args below meth c 5 D cy B 0 0 (MQ below (QI D cy B vz g dz) args s 0 0 (wA B)) g d [(0, .ref (ad B x0)), (1, .int x1), (2, .int x2), (3, .int x3)] 0 [] := by
  unfold fX12_deed at hf
  refine b_iload_n C dX12_deed_0 1 rfl rfl ?_
  refine b_iconst C (v := (-1)) dX12_deed_1 (by decide) ?_
  refine b_iconst C (v := 3) dX12_deed_2 (by decide) ?_
  obtain ⟨u3, d1, k2, hf⟩ := cb_s hf
  refine b_cSI C [] dX12_deed_3 (kX12_in l D cy B k2) lv_X12_169 ⟨rfl, rfl, Nat.le_of_ble_eq_true rfl, Nat.le_of_ble_eq_true rfl⟩ rfl (Nat.le_of_ble_eq_true rfl) ⟨Nat.zero_le _, Nat.zero_le _⟩ rfl ?_
  refine b_if_eq C (tgt := 26) dX12_deed_6 (by decide) (fun c4 => ?_) (fun c4 => ?_)
  · have hf := it_s c4 hf
    refine b_sub [(0, .ref (ad B x0)), (1, .int x1), (2, .int x2), (3, .int x3)] [0, 1, 2, 3] rfl ?_
    exact tX12_deed_26 C hr hlocks hf
  · have hf := if_s c4 hf
    refine b_aload_n C dX12_deed_9 0 rfl rfl ?_
    refine b_iload_n C dX12_deed_10 2 rfl rfl ?_
    obtain ⟨h5, hf⟩ := gd_s hf
    obtain ⟨u8, d6, k7, hf⟩ := cb_s hf
    refine b_cVI C [] dX12_deed_11 (kX12_isKey l D cy B k7) lv_X12_220 ⟨rfl, rfl, Nat.le_of_ble_eq_true rfl, Nat.le_of_ble_eq_true rfl⟩ h5 (by decide) rfl (Nat.le_of_ble_eq_true rfl) ⟨Nat.zero_le _, Nat.zero_le _⟩ rfl ?_
    refine b_if_eq C (tgt := 26) dX12_deed_14 (by decide) (fun c9 => ?_) (fun c9 => ?_)
    · have hf := it_s c9 hf
      refine b_sub [(0, .ref (ad B x0)), (1, .int x1), (2, .int x2), (3, .int x3)] [0, 1, 2, 3] rfl ?_
      exact tX12_deed_26 C hr hlocks hf
    · have hf := if_s c9 hf
      refine b_iload_n C dX12_deed_17 3 rfl rfl ?_
      refine b_iconst C (v := 0) dX12_deed_18 (by decide) ?_
      refine b_iconst C (v := 2) dX12_deed_19 (by decide) ?_
      obtain ⟨u12, d10, k11, hf⟩ := cb_s hf
      refine b_cSI C [] dX12_deed_20 (kX12_in l D cy B k11) lv_X12_169 ⟨rfl, rfl, Nat.le_of_ble_eq_true rfl, Nat.le_of_ble_eq_true rfl⟩ rfl (Nat.le_of_ble_eq_true rfl) ⟨Nat.zero_le _, Nat.zero_le _⟩ rfl ?_
      refine b_if_ne C (tgt := 28) dX12_deed_23 (by decide) (fun c13 => ?_) (fun c13 => ?_)
      · have hf := if_s c13 hf
        refine b_aload_n C dX12_deed_28 0 rfl rfl ?_
        obtain ⟨r14, er14, hf⟩ := ob_s hf
        refine b_gR C dX12_deed_29 fl_X12_40 h5 er14 ?_
        refine b_bipush C (v := 12) dX12_deed_32 (by decide) ?_
        refine b_iconst C (v := 3) dX12_deed_34 (by decide) ?_
        refine b_bipush C (v := 24) dX12_deed_35 (by decide) ?_
        refine b_iload_n C dX12_deed_37 1 rfl rfl ?_
        refine b_if_ge C (tgt := 49) dX12_deed_38 (by decide) (fun c15 => ?_) (fun c15 => ?_)
        · have hf := it_s c15 hf
          refine b_iload_n C dX12_deed_49 1 rfl rfl ?_
          refine b_sub [(0, .ref (ad B x0)), (1, .int x1), (2, .int x2), (3, .int x3)] [0, 1, 2, 3] rfl ?_
          exact tX12_deed_50 C hr hlocks hf
        · have hf := if_s c15 hf
          refine b_aload_n C dX12_deed_41 0 rfl rfl ?_
          refine b_iload_n C dX12_deed_42 2 rfl rfl ?_
          obtain ⟨u24, d22, k23, hf⟩ := cb_s hf
          refine b_cVI C [.int 24, .int 3, .int 12, .ref (ad B r14)] dX12_deed_43 (kX12_layerOf l D cy B k23) lv_X12_272 ⟨rfl, rfl, Nat.le_of_ble_eq_true rfl, Nat.le_of_ble_eq_true rfl⟩ h5 (by decide) rfl (Nat.le_of_ble_eq_true rfl) ⟨Nat.zero_le _, Nat.zero_le _⟩ rfl ?_
          refine b_goto C (tgt := 50) dX12_deed_46 (by decide) ?_
          refine b_sub [(0, .ref (ad B x0)), (1, .int x1), (2, .int x2), (3, .int x3)] [0, 1, 2, 3] rfl ?_
          exact tX12_deed_50 C hr hlocks hf
      · have hf := it_s c13 hf
        refine b_sub [(0, .ref (ad B x0)), (1, .int x1), (2, .int x2), (3, .int x3)] [0, 1, 2, 3] rfl ?_
        exact tX12_deed_26 C hr hlocks hf
theorem kX12_deed (l : Launch) (D : va_G) (cy : Nat → ClassId) (B : Bs) {N : Nat} {g : Gs} {x0 : Nat} {x1 : Int32} {x2 : Int32} {x3 : Int32} {vz : Int32} {dz : Ds} {d : Ds} (hf : fX12_deed N g x0 x1 x2 x3 d = some (vz, dz)) : Met l yX12_deed (.code yX12_deed cX12_deed 5 (some .int) :: wl) rmX12_deed (PC D cy B [.ref (ad B x0), .int x1, .int x2, .int x3] g d) (QI D cy B vz g dz) 0 0 (wA B) :=
  met_of (by decide +kernel) (Nat.le_of_ble_eq_true rfl) (fun p e s m args below meth c C hr hlocks _ => b_sub [(0, .ref (ad B x0)), (1, .int x1), (2, .int x2), (3, .int x3)] [0, 1, 2, 3] rfl (tX12_deed_E C hr hlocks hf))
/-! KeyMatrixModel.tick(I)I -/
theorem yo_X12_ticks : yX12_ticks.cls ≠ "java/lang/invoke/MethodHandle" ∧ yX12_ticks.cls ≠ "java/lang/invoke/VarHandle" ∧ (parseMethodDescriptor yX12_ticks.desc).map (fun d => d.parameters.length) = some 0 := by decide +kernel
theorem co_X12_ticks : Cond.code yX12_ticks cX12_ticks 5 none ∈ wl := mW (mT6 (List.mem_of_getElem? (i := 119) (by decide +kernel))) rfl
theorem in_X12_ticks : Cond.initialized yX12_ticks.cls ∈ wl := mW (mT1 (List.mem_of_getElem? (i := 12) (by decide +kernel))) rfl
theorem im_X12_ticks : Cond.instanceMethod yX12_ticks ∈ wl := mW (mT6 (List.mem_of_getElem? (i := 118) (by decide +kernel))) rfl
theorem se_X12_ticks : Cond.selects yX12_ticks.cls yX12_ticks yX12_ticks ∈ wl := mW (mT0 (List.mem_of_getElem? (i := 61) (by decide +kernel))) rfl
theorem lv_X12_326 : LV RX12 326 yX12_ticks cX12_ticks 5 none 0 11 := ⟨⟨(RX12, TX12, 33), rfl, rfl⟩, yo_X12_ticks, mW (mT6 (List.mem_of_getElem? (i := 116) (by decide +kernel))) rfl, im_X12_ticks, se_X12_ticks, in_X12_ticks, co_X12_ticks⟩
theorem dX12_tick_0 : decode cX12_tick 0 = .ok (.iload_n 1, 1) := by decide +kernel
theorem dX12_tick_1 : decode cX12_tick 1 = .ok (.iconst 1, 1) := by decide +kernel
theorem dX12_tick_2 : decode cX12_tick 2 = .ok (.bipush 50, 2) := by decide +kernel
theorem dX12_tick_4 : decode cX12_tick 4 = .ok (.invokestatic 169, 3) := by decide +kernel
theorem dX12_tick_7 : decode cX12_tick 7 = .ok (.ifCond .eq 10, 3) := by decide +kernel
theorem dX12_tick_10 : decode cX12_tick 10 = .ok (.aload_n 0, 1) := by decide +kernel
theorem dX12_tick_11 : decode cX12_tick 11 = .ok (.invokevirtual 206, 3) := by decide +kernel
theorem dX12_tick_14 : decode cX12_tick 14 = .ok (.ifCond .ne 5, 3) := by decide +kernel
theorem dX12_tick_17 : decode cX12_tick 17 = .ok (.iconst (-1), 1) := by decide +kernel
theorem dX12_tick_18 : decode cX12_tick 18 = .ok (.ireturn, 1) := by decide +kernel
theorem dX12_tick_19 : decode cX12_tick 19 = .ok (.aload_n 0, 1) := by decide +kernel
theorem dX12_tick_20 : decode cX12_tick 20 = .ok (.getfield 40, 3) := by decide +kernel
theorem dX12_tick_23 : decode cX12_tick 23 = .ok (.sipush 555, 3) := by decide +kernel
theorem dX12_tick_26 : decode cX12_tick 26 = .ok (.iaload, 1) := by decide +kernel
theorem dX12_tick_27 : decode cX12_tick 27 = .ok (.istore_n 2, 1) := by decide +kernel
theorem dX12_tick_28 : decode cX12_tick 28 = .ok (.iconst 0, 1) := by decide +kernel
theorem dX12_tick_29 : decode cX12_tick 29 = .ok (.istore_n 3, 1) := by decide +kernel
theorem dX12_tick_30 : decode cX12_tick 30 = .ok (.iload_n 3, 1) := by decide +kernel
theorem dX12_tick_31 : decode cX12_tick 31 = .ok (.iload_n 1, 1) := by decide +kernel
theorem dX12_tick_32 : decode cX12_tick 32 = .ok (.if_icmp .ge 13, 3) := by decide +kernel
theorem dX12_tick_35 : decode cX12_tick 35 = .ok (.aload_n 0, 1) := by decide +kernel
theorem dX12_tick_36 : decode cX12_tick 36 = .ok (.invokevirtual 326, 3) := by decide +kernel
theorem dX12_tick_39 : decode cX12_tick 39 = .ok (.iinc 3 1, 3) := by decide +kernel
theorem dX12_tick_42 : decode cX12_tick 42 = .ok (.goto (-12), 3) := by decide +kernel
theorem dX12_tick_45 : decode cX12_tick 45 = .ok (.aload_n 0, 1) := by decide +kernel
theorem dX12_tick_46 : decode cX12_tick 46 = .ok (.getfield 40, 3) := by decide +kernel
theorem dX12_tick_49 : decode cX12_tick 49 = .ok (.sipush 555, 3) := by decide +kernel
theorem dX12_tick_52 : decode cX12_tick 52 = .ok (.iaload, 1) := by decide +kernel
theorem dX12_tick_53 : decode cX12_tick 53 = .ok (.iload_n 2, 1) := by decide +kernel
theorem dX12_tick_54 : decode cX12_tick 54 = .ok (.isub, 1) := by decide +kernel
theorem dX12_tick_55 : decode cX12_tick 55 = .ok (.ireturn, 1) := by decide +kernel
def rmX12_tick : Room := { frames := 8, cells := 0, slots := 0, locals := 192 }
set_option maxRecDepth 100000 in
def fX12_tick_J17 (N : Nat) (g : Gs) (x0 : Nat) (x1 : Int32) (d : Ds) : Option (Int32 × Ds) := some ((-1), d)
set_option maxHeartbeats 4000000 in
set_option maxRecDepth 100000 in
theorem tX12_tick_17 {p : Program} {l : Launch} {e : Env} {s : State} {m : MethodId} {args : Array Value} {below : List Frame} {meth : Method} {c : Code} {D : va_G} {cy : Nat → ClassId} {B : Bs} (C : Cx p s m args c cX12_tick 4 RX12 D cy B) (hr : meth.sig.returnType = (some .int)) (hlocks : meth.locks = false) {N : Nat} {g : Gs} {x0 : Nat} {x1 : Int32} {vz : Int32} {dz : Ds} {d : Ds} (hf : fX12_tick_J17 N g x0 x1 d = some (vz, dz)) : WB p l e rmX12_tick s m args below meth c 4 D cy B 0 0 (MQ below (QI D cy B vz g dz) args s 0 0 (wA B)) g d [(0, .ref (ad B x0)), (1, .int x1)] 17 [] := by
  unfold fX12_tick_J17 at hf
  refine b_iconst C (v := (-1)) dX12_tick_17 (by decide) ?_
  exact b_iret C hr hlocks hf dX12_tick_18
set_option maxRecDepth 100000 in
def fX12_tick_B30 (N : Nat) (g : Gs) (x0 : Nat) (x1 : Int32) (K30 : Int32 × Int32 × Ds → Option (Int32 × Ds)) (y2 : Int32) (y3 : Int32) (d : Ds) : Option (Int32 × Ds) := if x1 ≤ y3 then (gd (chk g x0 11) <| ob (gR g x0 17) fun r16 => (gd (chk g r16 102) <| gd (¬ ((555 : Int32) < 0 ∨ gL g r16 ≤ (555 : Int32).toNatClampNeg)) <| some (((dI d r16 (555 : Int32).toNatClampNeg) - y2), d))) else (gd (chk g x0 11) <| cv (fX12_ticks N g x0 d) fun d20 => (bd (y3 + 1) fun u22 => (K30 (y2, u22, d20))))
set_option maxHeartbeats 4000000 in
set_option maxRecDepth 100000 in
theorem tX12_tick_30 {p : Program} {l : Launch} {e : Env} {s : State} {m : MethodId} {args : Array Value} {below : List Frame} {meth : Method} {c : Code} {D : va_G} {cy : Nat → ClassId} {B : Bs} (C : Cx p s m args c cX12_tick 4 RX12 D cy B) (hr : meth.sig.returnType = (some .int)) (hlocks : meth.locks = false) {N : Nat} {g : Gs} {x0 : Nat} {x1 : Int32} {vz : Int32} {dz : Ds} {K30 : Int32 × Int32 × Ds → Option (Int32 × Ds)} (hK30 : ∀ a, K30 a = some (vz, dz) → WB p l e rmX12_tick s m args below meth c 4 D cy B 0 0 (MQ below (QI D cy B vz g dz) args s 0 0 (wA B)) g a.2.2 [(0, .ref (ad B x0)), (1, .int x1), (2, .int a.1), (3, .int a.2.1)] 30 []) {y2 : Int32} {y3 : Int32} {d : Ds} (hf : fX12_tick_B30 N g x0 x1 K30 y2 y3 d = some (vz, dz)) : WB p l e rmX12_tick s m args below meth c 4 D cy B 0 0 (MQ below (QI D cy B vz g dz) args s 0 0 (wA B)) g d [(0, .ref (ad B x0)), (1, .int x1), (2, .int y2), (3, .int y3)] 30 [] := by
  unfold fX12_tick_B30 at hf
  refine b_iload_n C dX12_tick_30 3 rfl rfl ?_
  refine b_iload_n C dX12_tick_31 1 rfl rfl ?_
  refine b_icmp_ge C (tgt := 45) dX12_tick_32 (by decide) (fun c14 => ?_) (fun c14 => ?_)
  · have hf := it_s c14 hf
    refine b_aload_n C dX12_tick_45 0 rfl rfl ?_
    obtain ⟨h15, hf⟩ := gd_s hf
    obtain ⟨r16, er16, hf⟩ := ob_s hf
    refine b_gR C dX12_tick_46 fl_X12_40 h15 er16 ?_
    refine b_sipush C (v := 555) dX12_tick_49 (by decide) ?_
    obtain ⟨h17, hf⟩ := gd_s hf
    obtain ⟨h18, hf⟩ := gd_s hf
    refine b_iald C h17 h18 dX12_tick_52 ?_
    refine b_iload_n C dX12_tick_53 2 rfl rfl ?_
    refine b_isub C dX12_tick_54 ?_
    exact b_iret C hr hlocks hf dX12_tick_55
  · have hf := if_s c14 hf
    refine b_aload_n C dX12_tick_35 0 rfl rfl ?_
    obtain ⟨h19, hf⟩ := gd_s hf
    obtain ⟨d20, k21, hf⟩ := cv_s hf
    refine b_cVN C [] dX12_tick_36 (kX12_ticks l D cy B k21) lv_X12_326 ⟨rfl, rfl, Nat.le_of_ble_eq_true rfl, Nat.le_of_ble_eq_true rfl⟩ h19 (by decide) rfl (Nat.le_of_ble_eq_true rfl) ⟨Nat.zero_le _, Nat.zero_le _⟩ rfl ?_
    obtain ⟨u22, eu22, hf⟩ := bd_s hf
    refine b_iinc C dX12_tick_39 3 rfl (by rw [eu22]; rfl) [(3, .int u22), (0, .ref (ad B x0)), (1, .int x1), (2, .int y2)] (by decide) rfl ?_
    refine b_goto C (tgt := 30) dX12_tick_42 (by decide) ?_
    refine b_sub [(0, .ref (ad B x0)), (1, .int x1), (2, .int y2), (3, .int u22)] [1, 2, 3, 0] rfl ?_
    exact hK30 (y2, u22, d20) hf
def fX12_tick_L30 (N : Nat) (g : Gs) (x0 : Nat) (x1 : Int32) : Int32 × Int32 × Ds → Option (Int32 × Ds) := lp (fun K30 a => fX12_tick_B30 N g x0 x1 K30 a.1 a.2.1 a.2.2) N
theorem tX12_tick_L30 {p : Program} {l : Launch} {e : Env} {s : State} {m : MethodId} {args : Array Value} {below : List Frame} {meth : Method} {c : Code} {D : va_G} {cy : Nat → ClassId} {B : Bs} (C : Cx p s m args c cX12_tick 4 RX12 D cy B) (hr : meth.sig.returnType = (some .int)) (hlocks : meth.locks = false) {N : Nat} {g : Gs} {x0 : Nat} {x1 : Int32} {vz : Int32} {dz : Ds} (a : Int32 × Int32 × Ds) (hf : fX12_tick_L30 N g x0 x1 a = some (vz, dz)) : WB p l e rmX12_tick s m args below meth c 4 D cy B 0 0 (MQ below (QI D cy B vz g dz) args s 0 0 (wA B)) g a.2.2 [(0, .ref (ad B x0)), (1, .int x1), (2, .int a.1), (3, .int a.2.1)] 30 [] :=
  lp_w (fun K30 hK30 a ha => tX12_tick_30 C hr hlocks hK30 ha) N a hf
set_option maxRecDepth 100000 in
def fX12_tick (N : Nat) (g : Gs) (x0 : Nat) (x1 : Int32) (d : Ds) : Option (Int32 × Ds) := cb (fX12_in N g x1 1 50 d) fun u3 d1 => (if u3 = 0 then (fX12_tick_J17 N g x0 x1 d1) else (gd (chk g x0 11) <| cb (fX12_keysMany N g x0 d1) fun u8 d6 => (if u8 = 0 then (fX12_tick_J17 N g x0 x1 d6) else (ob (gR g x0 17) fun r10 => (gd (chk g r10 102) <| gd (¬ ((555 : Int32) < 0 ∨ gL g r10 ≤ (555 : Int32).toNatClampNeg)) <| bd ((dI d6 r10 (555 : Int32).toNatClampNeg)) fun u13 => (fX12_tick_L30 N g x0 x1 (u13, 0, d6)))))))
set_option maxHeartbeats 4000000 in
set_option maxRecDepth 100000 in
theorem tX12_tick_E {p : Program} {l : Launch} {e : Env} {s : State} {m : MethodId} {args : Array Value} {below : List Frame} {meth : Method} {c : Code} {D : va_G} {cy : Nat → ClassId} {B : Bs} (C : Cx p s m args c cX12_tick 4 RX12 D cy B) (hr : meth.sig.returnType = (some .int)) (hlocks : meth.locks = false) {N : Nat} {g : Gs} {x0 : Nat} {x1 : Int32} {vz : Int32} {dz : Ds} {d : Ds} (hf : fX12_tick N g x0 x1 d = some (vz, dz)) : WB p l e rmX12_tick s m args below meth c 4 D cy B 0 0 (MQ below (QI D cy B vz g dz) args s 0 0 (wA B)) g d [(0, .ref (ad B x0)), (1, .int x1)] 0 [] := by
  unfold fX12_tick at hf
  refine b_iload_n C dX12_tick_0 1 rfl rfl ?_
  refine b_iconst C (v := 1) dX12_tick_1 (by decide) ?_
  refine b_bipush C (v := 50) dX12_tick_2 (by decide) ?_
  obtain ⟨u3, d1, k2, hf⟩ := cb_s hf
  refine b_cSI C [] dX12_tick_4 (kX12_in l D cy B k2) lv_X12_169 ⟨rfl, rfl, Nat.le_of_ble_eq_true rfl, Nat.le_of_ble_eq_true rfl⟩ rfl (Nat.le_of_ble_eq_true rfl) ⟨Nat.zero_le _, Nat.zero_le _⟩ rfl ?_
  refine b_if_eq C (tgt := 17) dX12_tick_7 (by decide) (fun c4 => ?_) (fun c4 => ?_)
  · have hf := it_s c4 hf
    refine b_sub [(0, .ref (ad B x0)), (1, .int x1)] [0, 1] rfl ?_
    exact tX12_tick_17 C hr hlocks hf
  · have hf := if_s c4 hf
    refine b_aload_n C dX12_tick_10 0 rfl rfl ?_
    obtain ⟨h5, hf⟩ := gd_s hf
    obtain ⟨u8, d6, k7, hf⟩ := cb_s hf
    refine b_cVI C [] dX12_tick_11 (kX12_keysMany l D cy B k7) lv_X12_206 ⟨rfl, rfl, Nat.le_of_ble_eq_true rfl, Nat.le_of_ble_eq_true rfl⟩ h5 (by decide) rfl (Nat.le_of_ble_eq_true rfl) ⟨Nat.zero_le _, Nat.zero_le _⟩ rfl ?_
    refine b_if_ne C (tgt := 19) dX12_tick_14 (by decide) (fun c9 => ?_) (fun c9 => ?_)
    · have hf := if_s c9 hf
      refine b_aload_n C dX12_tick_19 0 rfl rfl ?_
      obtain ⟨r10, er10, hf⟩ := ob_s hf
      refine b_gR C dX12_tick_20 fl_X12_40 h5 er10 ?_
      refine b_sipush C (v := 555) dX12_tick_23 (by decide) ?_
      obtain ⟨h11, hf⟩ := gd_s hf
      obtain ⟨h12, hf⟩ := gd_s hf
      refine b_iald C h11 h12 dX12_tick_26 ?_
      obtain ⟨u13, eu13, hf⟩ := bd_s hf
      refine b_topI eu13 ?_
      refine b_istore_n C dX12_tick_27 rfl [(2, .int u13), (0, .ref (ad B x0)), (1, .int x1)] (by decide) rfl ?_
      refine b_iconst C (v := 0) dX12_tick_28 (by decide) ?_
      refine b_istore_n C dX12_tick_29 rfl [(3, .int 0), (2, .int u13), (0, .ref (ad B x0)), (1, .int x1)] (by decide) rfl ?_
      refine b_sub [(0, .ref (ad B x0)), (1, .int x1), (2, .int u13), (3, .int 0)] [2, 3, 1, 0] rfl ?_
      exact tX12_tick_L30 C hr hlocks (u13, 0, d6) hf
    · have hf := it_s c9 hf
      refine b_sub [(0, .ref (ad B x0)), (1, .int x1)] [0, 1] rfl ?_
      exact tX12_tick_17 C hr hlocks hf
theorem kX12_tick (l : Launch) (D : va_G) (cy : Nat → ClassId) (B : Bs) {N : Nat} {g : Gs} {x0 : Nat} {x1 : Int32} {vz : Int32} {dz : Ds} {d : Ds} (hf : fX12_tick N g x0 x1 d = some (vz, dz)) : Met l yX12_tick (.code yX12_tick cX12_tick 4 (some .int) :: wl) rmX12_tick (PC D cy B [.ref (ad B x0), .int x1] g d) (QI D cy B vz g dz) 0 0 (wA B) :=
  met_of (by decide +kernel) (Nat.le_of_ble_eq_true rfl) (fun p e s m args below meth c C hr hlocks _ => b_sub [(0, .ref (ad B x0)), (1, .int x1)] [0, 1] rfl (tX12_tick_E C hr hlocks hf))
/-! KeyMatrixModel.bitsOfNumber(F)I -/
theorem dX12_bitsOfNumber_0 : decode cX12_bitsOfNumber 0 = .ok (.fload_n 0, 1) := by decide +kernel
theorem dX12_bitsOfNumber_1 : decode cX12_bitsOfNumber 1 = .ok (.f2d, 1) := by decide +kernel
theorem dX12_bitsOfNumber_2 : decode cX12_bitsOfNumber 2 = .ok (.dstore_n 1, 1) := by decide +kernel
theorem dX12_bitsOfNumber_3 : decode cX12_bitsOfNumber 3 = .ok (.dload_n 1, 1) := by decide +kernel
theorem dX12_bitsOfNumber_4 : decode cX12_bitsOfNumber 4 = .ok (.dconst 0, 1) := by decide +kernel
theorem dX12_bitsOfNumber_5 : decode cX12_bitsOfNumber 5 = .ok (.dcmp .l, 1) := by decide +kernel
theorem dX12_bitsOfNumber_6 : decode cX12_bitsOfNumber 6 = .ok (.ifCond .ne 5, 3) := by decide +kernel
theorem dX12_bitsOfNumber_9 : decode cX12_bitsOfNumber 9 = .ok (.iconst 0, 1) := by decide +kernel
theorem dX12_bitsOfNumber_10 : decode cX12_bitsOfNumber 10 = .ok (.ireturn, 1) := by decide +kernel
theorem dX12_bitsOfNumber_11 : decode cX12_bitsOfNumber 11 = .ok (.bipush 127, 2) := by decide +kernel
theorem dX12_bitsOfNumber_13 : decode cX12_bitsOfNumber 13 = .ok (.istore_n 3, 1) := by decide +kernel
theorem dX12_bitsOfNumber_14 : decode cX12_bitsOfNumber 14 = .ok (.dload_n 1, 1) := by decide +kernel
theorem dX12_bitsOfNumber_15 : decode cX12_bitsOfNumber 15 = .ok (.dconst 1, 1) := by decide +kernel
theorem dX12_bitsOfNumber_16 : decode cX12_bitsOfNumber 16 = .ok (.dcmp .g, 1) := by decide +kernel
theorem dX12_bitsOfNumber_17 : decode cX12_bitsOfNumber 17 = .ok (.ifCond .ge 20, 3) := by decide +kernel
theorem dX12_bitsOfNumber_20 : decode cX12_bitsOfNumber 20 = .ok (.iload_n 3, 1) := by decide +kernel
theorem dX12_bitsOfNumber_21 : decode cX12_bitsOfNumber 21 = .ok (.iconst 1, 1) := by decide +kernel
theorem dX12_bitsOfNumber_22 : decode cX12_bitsOfNumber 22 = .ok (.if_icmp .le 15, 3) := by decide +kernel
theorem dX12_bitsOfNumber_25 : decode cX12_bitsOfNumber 25 = .ok (.dload_n 1, 1) := by decide +kernel
theorem dX12_bitsOfNumber_26 : decode cX12_bitsOfNumber 26 = .ok (.ldc2_w 329, 3) := by decide +kernel
theorem dX12_bitsOfNumber_29 : decode cX12_bitsOfNumber 29 = .ok (.dmul, 1) := by decide +kernel
theorem dX12_bitsOfNumber_30 : decode cX12_bitsOfNumber 30 = .ok (.dstore_n 1, 1) := by decide +kernel
theorem dX12_bitsOfNumber_31 : decode cX12_bitsOfNumber 31 = .ok (.iinc 3 (-1), 3) := by decide +kernel
theorem dX12_bitsOfNumber_34 : decode cX12_bitsOfNumber 34 = .ok (.goto (-20), 3) := by decide +kernel
theorem dX12_bitsOfNumber_37 : decode cX12_bitsOfNumber 37 = .ok (.iconst 0, 1) := by decide +kernel
theorem dX12_bitsOfNumber_38 : decode cX12_bitsOfNumber 38 = .ok (.istore 4, 2) := by decide +kernel
theorem dX12_bitsOfNumber_40 : decode cX12_bitsOfNumber 40 = .ok (.iload 4, 2) := by decide +kernel
theorem dX12_bitsOfNumber_42 : decode cX12_bitsOfNumber 42 = .ok (.bipush 23, 2) := by decide +kernel
theorem dX12_bitsOfNumber_44 : decode cX12_bitsOfNumber 44 = .ok (.if_icmp .ge 15, 3) := by decide +kernel
theorem dX12_bitsOfNumber_47 : decode cX12_bitsOfNumber 47 = .ok (.dload_n 1, 1) := by decide +kernel
theorem dX12_bitsOfNumber_48 : decode cX12_bitsOfNumber 48 = .ok (.ldc2_w 329, 3) := by decide +kernel
theorem dX12_bitsOfNumber_51 : decode cX12_bitsOfNumber 51 = .ok (.dmul, 1) := by decide +kernel
theorem dX12_bitsOfNumber_52 : decode cX12_bitsOfNumber 52 = .ok (.dstore_n 1, 1) := by decide +kernel
theorem dX12_bitsOfNumber_53 : decode cX12_bitsOfNumber 53 = .ok (.iinc 4 1, 3) := by decide +kernel
theorem dX12_bitsOfNumber_56 : decode cX12_bitsOfNumber 56 = .ok (.goto (-16), 3) := by decide +kernel
theorem dX12_bitsOfNumber_59 : decode cX12_bitsOfNumber 59 = .ok (.dload_n 1, 1) := by decide +kernel
theorem dX12_bitsOfNumber_60 : decode cX12_bitsOfNumber 60 = .ok (.d2i, 1) := by decide +kernel
theorem dX12_bitsOfNumber_61 : decode cX12_bitsOfNumber 61 = .ok (.istore 4, 2) := by decide +kernel
theorem dX12_bitsOfNumber_63 : decode cX12_bitsOfNumber 63 = .ok (.iload 4, 2) := by decide +kernel
theorem dX12_bitsOfNumber_65 : decode cX12_bitsOfNumber 65 = .ok (.ldc_w 331, 3) := by decide +kernel
theorem dX12_bitsOfNumber_68 : decode cX12_bitsOfNumber 68 = .ok (.if_icmp .ge 8, 3) := by decide +kernel
theorem dX12_bitsOfNumber_71 : decode cX12_bitsOfNumber 71 = .ok (.iload 4, 2) := by decide +kernel
theorem dX12_bitsOfNumber_73 : decode cX12_bitsOfNumber 73 = .ok (.goto 14, 3) := by decide +kernel
theorem dX12_bitsOfNumber_76 : decode cX12_bitsOfNumber 76 = .ok (.iload_n 3, 1) := by decide +kernel
theorem dX12_bitsOfNumber_77 : decode cX12_bitsOfNumber 77 = .ok (.bipush 23, 2) := by decide +kernel
theorem dX12_bitsOfNumber_79 : decode cX12_bitsOfNumber 79 = .ok (.ishl, 1) := by decide +kernel
theorem dX12_bitsOfNumber_80 : decode cX12_bitsOfNumber 80 = .ok (.iload 4, 2) := by decide +kernel
theorem dX12_bitsOfNumber_82 : decode cX12_bitsOfNumber 82 = .ok (.ldc_w 331, 3) := by decide +kernel
theorem dX12_bitsOfNumber_85 : decode cX12_bitsOfNumber 85 = .ok (.isub, 1) := by decide +kernel
theorem dX12_bitsOfNumber_86 : decode cX12_bitsOfNumber 86 = .ok (.ior, 1) := by decide +kernel
theorem dX12_bitsOfNumber_87 : decode cX12_bitsOfNumber 87 = .ok (.ireturn, 1) := by decide +kernel
def rmX12_bitsOfNumber : Room := { frames := 0, cells := 0, slots := 0, locals := 0 }
set_option maxRecDepth 100000 in
def fX12_bitsOfNumber (N : Nat) (g : Gs) (x0 : UInt32) (d : Ds) : Option (Int32 × Ds) := none
set_option maxHeartbeats 4000000 in
set_option maxRecDepth 100000 in
theorem tX12_bitsOfNumber_E {p : Program} {l : Launch} {e : Env} {s : State} {m : MethodId} {args : Array Value} {below : List Frame} {meth : Method} {c : Code} {D : va_G} {cy : Nat → ClassId} {B : Bs} (C : Cx p s m args c cX12_bitsOfNumber 5 RX12 D cy B) (hr : meth.sig.returnType = (some .int)) (hlocks : meth.locks = false) {N : Nat} {g : Gs} {x0 : UInt32} {vz : Int32} {dz : Ds} {d : Ds} (hf : fX12_bitsOfNumber N g x0 d = some (vz, dz)) : WB p l e rmX12_bitsOfNumber s m args below meth c 5 D cy B 0 0 (MQ below (QI D cy B vz g dz) args s 0 0 (wA B)) g d [(0, .float x0)] 0 [] := by
  unfold fX12_bitsOfNumber at hf
  refine b_fload_n C dX12_bitsOfNumber_0 0 rfl rfl ?_
  cases hf
theorem kX12_bitsOfNumber (l : Launch) (D : va_G) (cy : Nat → ClassId) (B : Bs) {N : Nat} {g : Gs} {x0 : UInt32} {vz : Int32} {dz : Ds} {d : Ds} (hf : fX12_bitsOfNumber N g x0 d = some (vz, dz)) : Met l yX12_bitsOfNumber (.code yX12_bitsOfNumber cX12_bitsOfNumber 5 (some .int) :: wl) rmX12_bitsOfNumber (PC D cy B [.float x0] g d) (QI D cy B vz g dz) 0 0 (wA B) :=
  met_of (by decide +kernel) (Nat.le_of_ble_eq_true rfl) (fun p e s m args below meth c C hr hlocks _ => b_sub [(0, .float x0)] [0] rfl (tX12_bitsOfNumber_E C hr hlocks hf))
/-! KeyMatrixModel.key(II)I -/
theorem yo_X12_bitsOfNumber : yX12_bitsOfNumber.cls ≠ "java/lang/invoke/MethodHandle" ∧ yX12_bitsOfNumber.cls ≠ "java/lang/invoke/VarHandle" ∧ (parseMethodDescriptor yX12_bitsOfNumber.desc).map (fun d => d.parameters.length) = some 1 := by decide +kernel
theorem co_X12_bitsOfNumber : Cond.code yX12_bitsOfNumber cX12_bitsOfNumber 5 (some .int) ∈ wl := mW (mT6 (List.mem_of_getElem? (i := 232) (by decide +kernel))) rfl
theorem in_X12_bitsOfNumber : Cond.initialized yX12_bitsOfNumber.cls ∈ wl := mW (mT1 (List.mem_of_getElem? (i := 12) (by decide +kernel))) rfl
theorem st_X12_bitsOfNumber : Cond.static yX12_bitsOfNumber ∈ wl := mW (mT6 (List.mem_of_getElem? (i := 231) (by decide +kernel))) rfl
theorem lv_X12_332 : LSt RX12 332 yX12_bitsOfNumber cX12_bitsOfNumber 5 (some .int) 1 := ⟨yo_X12_bitsOfNumber, Or.inl (mW (mT6 (List.mem_of_getElem? (i := 230) (by decide +kernel))) rfl), st_X12_bitsOfNumber, in_X12_bitsOfNumber, co_X12_bitsOfNumber⟩
theorem dX12_key_0 : decode cX12_key 0 = .ok (.aload_n 0, 1) := by decide +kernel
theorem dX12_key_1 : decode cX12_key 1 = .ok (.iload_n 1, 1) := by decide +kernel
theorem dX12_key_2 : decode cX12_key 2 = .ok (.invokevirtual 220, 3) := by decide +kernel
theorem dX12_key_5 : decode cX12_key 5 = .ok (.ifCond .ne 5, 3) := by decide +kernel
theorem dX12_key_8 : decode cX12_key 8 = .ok (.iconst (-1), 1) := by decide +kernel
theorem dX12_key_9 : decode cX12_key 9 = .ok (.ireturn, 1) := by decide +kernel
theorem dX12_key_10 : decode cX12_key 10 = .ok (.aload_n 0, 1) := by decide +kernel
theorem dX12_key_11 : decode cX12_key 11 = .ok (.aload_n 0, 1) := by decide +kernel
theorem dX12_key_12 : decode cX12_key 12 = .ok (.getfield 40, 3) := by decide +kernel
theorem dX12_key_15 : decode cX12_key 15 = .ok (.sipush 352, 3) := by decide +kernel
theorem dX12_key_18 : decode cX12_key 18 = .ok (.iaload, 1) := by decide +kernel
theorem dX12_key_19 : decode cX12_key 19 = .ok (.invokevirtual 223, 3) := by decide +kernel
theorem dX12_key_22 : decode cX12_key 22 = .ok (.istore_n 3, 1) := by decide +kernel
theorem dX12_key_23 : decode cX12_key 23 = .ok (.iload_n 2, 1) := by decide +kernel
theorem dX12_key_24 : decode cX12_key 24 = .ok (.tableswitch 103 0 5 #[40, 53, 59, 69, 82, 93], 40) := by decide +kernel
theorem dX12_key_64 : decode cX12_key 64 = .ok (.aload_n 0, 1) := by decide +kernel
theorem dX12_key_65 : decode cX12_key 65 = .ok (.getfield 40, 3) := by decide +kernel
theorem dX12_key_68 : decode cX12_key 68 = .ok (.sipush 352, 3) := by decide +kernel
theorem dX12_key_71 : decode cX12_key 71 = .ok (.iaload, 1) := by decide +kernel
theorem dX12_key_72 : decode cX12_key 72 = .ok (.iload_n 1, 1) := by decide +kernel
theorem dX12_key_73 : decode cX12_key 73 = .ok (.ishr, 1) := by decide +kernel
theorem dX12_key_74 : decode cX12_key 74 = .ok (.iconst 1, 1) := by decide +kernel
theorem dX12_key_75 : decode cX12_key 75 = .ok (.iand, 1) := by decide +kernel
theorem dX12_key_76 : decode cX12_key 76 = .ok (.ireturn, 1) := by decide +kernel
theorem dX12_key_77 : decode cX12_key 77 = .ok (.iload_n 3, 1) := by decide +kernel
theorem dX12_key_78 : decode cX12_key 78 = .ok (.iload_n 1, 1) := by decide +kernel
theorem dX12_key_79 : decode cX12_key 79 = .ok (.ishr, 1) := by decide +kernel
theorem dX12_key_80 : decode cX12_key 80 = .ok (.iconst 1, 1) := by decide +kernel
theorem dX12_key_81 : decode cX12_key 81 = .ok (.iand, 1) := by decide +kernel
theorem dX12_key_82 : decode cX12_key 82 = .ok (.ireturn, 1) := by decide +kernel
theorem dX12_key_83 : decode cX12_key 83 = .ok (.aload_n 0, 1) := by decide +kernel
theorem dX12_key_84 : decode cX12_key 84 = .ok (.iload_n 3, 1) := by decide +kernel
theorem dX12_key_85 : decode cX12_key 85 = .ok (.invokevirtual 229, 3) := by decide +kernel
theorem dX12_key_88 : decode cX12_key 88 = .ok (.iload_n 1, 1) := by decide +kernel
theorem dX12_key_89 : decode cX12_key 89 = .ok (.ishr, 1) := by decide +kernel
theorem dX12_key_90 : decode cX12_key 90 = .ok (.iconst 1, 1) := by decide +kernel
theorem dX12_key_91 : decode cX12_key 91 = .ok (.iand, 1) := by decide +kernel
theorem dX12_key_92 : decode cX12_key 92 = .ok (.ireturn, 1) := by decide +kernel
theorem dX12_key_93 : decode cX12_key 93 = .ok (.aload_n 0, 1) := by decide +kernel
theorem dX12_key_94 : decode cX12_key 94 = .ok (.getfield 40, 3) := by decide +kernel
theorem dX12_key_97 : decode cX12_key 97 = .ok (.sipush 353, 3) := by decide +kernel
theorem dX12_key_100 : decode cX12_key 100 = .ok (.iaload, 1) := by decide +kernel
theorem dX12_key_101 : decode cX12_key 101 = .ok (.iload_n 1, 1) := by decide +kernel
theorem dX12_key_102 : decode cX12_key 102 = .ok (.ishr, 1) := by decide +kernel
theorem dX12_key_103 : decode cX12_key 103 = .ok (.iconst 1, 1) := by decide +kernel
theorem dX12_key_104 : decode cX12_key 104 = .ok (.iand, 1) := by decide +kernel
theorem dX12_key_105 : decode cX12_key 105 = .ok (.ireturn, 1) := by decide +kernel
theorem dX12_key_106 : decode cX12_key 106 = .ok (.aload_n 0, 1) := by decide +kernel
theorem dX12_key_107 : decode cX12_key 107 = .ok (.getfield 40, 3) := by decide +kernel
theorem dX12_key_110 : decode cX12_key 110 = .ok (.sipush 355, 3) := by decide +kernel
theorem dX12_key_113 : decode cX12_key 113 = .ok (.iload_n 1, 1) := by decide +kernel
theorem dX12_key_114 : decode cX12_key 114 = .ok (.iadd, 1) := by decide +kernel
theorem dX12_key_115 : decode cX12_key 115 = .ok (.iaload, 1) := by decide +kernel
theorem dX12_key_116 : decode cX12_key 116 = .ok (.ireturn, 1) := by decide +kernel
theorem dX12_key_117 : decode cX12_key 117 = .ok (.aload_n 0, 1) := by decide +kernel
theorem dX12_key_118 : decode cX12_key 118 = .ok (.getfield 46, 3) := by decide +kernel
theorem dX12_key_121 : decode cX12_key 121 = .ok (.iload_n 1, 1) := by decide +kernel
theorem dX12_key_122 : decode cX12_key 122 = .ok (.faload, 1) := by decide +kernel
theorem dX12_key_123 : decode cX12_key 123 = .ok (.invokestatic 332, 3) := by decide +kernel
theorem dX12_key_126 : decode cX12_key 126 = .ok (.ireturn, 1) := by decide +kernel
theorem dX12_key_127 : decode cX12_key 127 = .ok (.iconst (-1), 1) := by decide +kernel
theorem dX12_key_128 : decode cX12_key 128 = .ok (.ireturn, 1) := by decide +kernel
def rmX12_key : Room := { frames := 3, cells := 0, slots := 0, locals := 72 }
set_option maxRecDepth 100000 in
def fX12_key (N : Nat) (g : Gs) (x0 : Nat) (x1 : Int32) (x2 : Int32) (d : Ds) : Option (Int32 × Ds) := gd (chk g x0 11) <| cb (fX12_isKey N g x0 x1 d) fun u4 d2 => (if u4 = 0 then (some ((-1), d2)) else (ob (gR g x0 17) fun r6 => (gd (chk g r6 102) <| gd (¬ ((352 : Int32) < 0 ∨ gL g r6 ≤ (352 : Int32).toNatClampNeg)) <| cb (fX12_seenBy N g x0 (dI d2 r6 (352 : Int32).toNatClampNeg) d2) fun u11 d9 => (if x2.toInt < 0 ∨ 5 < x2.toInt then (some ((-1), d9)) else if x2 = 0 then (some ((((dI d9 r6 (352 : Int32).toNatClampNeg) >>> (x1 &&& 31)) &&& 1), d9)) else if x2 = 1 then (some (((u11 >>> (x1 &&& 31)) &&& 1), d9)) else if x2 = 2 then (cb (fX12_barredBy N g x0 u11 d9) fun u18 d16 => (some (((u18 >>> (x1 &&& 31)) &&& 1), d16))) else if x2 = 3 then (gd (¬ ((353 : Int32) < 0 ∨ gL g r6 ≤ (353 : Int32).toNatClampNeg)) <| some ((((dI d9 r6 (353 : Int32).toNatClampNeg) >>> (x1 &&& 31)) &&& 1), d9)) else if x2 = 4 then (gd (¬ (((355 : Int32) + x1) < 0 ∨ gL g r6 ≤ ((355 : Int32) + x1).toNatClampNeg)) <| some ((dI d9 r6 ((355 : Int32) + x1).toNatClampNeg), d9)) else if x2 = 5 then (ob (gR g x0 19) fun r24 => (gd (chk g r24 101) <| gd (¬ (x1 < 0 ∨ gL g r24 ≤ x1.toNatClampNeg)) <| cb (fX12_bitsOfNumber N g (dF d9 r24 x1.toNatClampNeg) d9) fun u29 d27 => (some (u29, d27)))) else none))))
set_option maxHeartbeats 4000000 in
set_option maxRecDepth 100000 in
theorem tX12_key_E {p : Program} {l : Launch} {e : Env} {s : State} {m : MethodId} {args : Array Value} {below : List Frame} {meth : Method} {c : Code} {D : va_G} {cy : Nat → ClassId} {B : Bs} (C : Cx p s m args c cX12_key 4 RX12 D cy B) (hr : meth.sig.returnType = (some .int)) (hlocks : meth.locks = false) {N : Nat} {g : Gs} {x0 : Nat} {x1 : Int32} {x2 : Int32} {vz : Int32} {dz : Ds} {d : Ds} (hf : fX12_key N g x0 x1 x2 d = some (vz, dz)) : WB p l e rmX12_key s m args below meth c 4 D cy B 0 0 (MQ below (QI D cy B vz g dz) args s 0 0 (wA B)) g d [(0, .ref (ad B x0)), (1, .int x1), (2, .int x2)] 0 [] := by
  unfold fX12_key at hf
  refine b_aload_n C dX12_key_0 0 rfl rfl ?_
  refine b_iload_n C dX12_key_1 1 rfl rfl ?_
  obtain ⟨h1, hf⟩ := gd_s hf
  obtain ⟨u4, d2, k3, hf⟩ := cb_s hf
  refine b_cVI C [] dX12_key_2 (kX12_isKey l D cy B k3) lv_X12_220 ⟨rfl, rfl, Nat.le_of_ble_eq_true rfl, Nat.le_of_ble_eq_true rfl⟩ h1 (by decide) rfl (Nat.le_of_ble_eq_true rfl) ⟨Nat.zero_le _, Nat.zero_le _⟩ rfl ?_
  refine b_if_ne C (tgt := 10) dX12_key_5 (by decide) (fun c5 => ?_) (fun c5 => ?_)
  · have hf := if_s c5 hf
    refine b_aload_n C dX12_key_10 0 rfl rfl ?_
    refine b_aload_n C dX12_key_11 0 rfl rfl ?_
    obtain ⟨r6, er6, hf⟩ := ob_s hf
    refine b_gR C dX12_key_12 fl_X12_40 h1 er6 ?_
    refine b_sipush C (v := 352) dX12_key_15 (by decide) ?_
    obtain ⟨h7, hf⟩ := gd_s hf
    obtain ⟨h8, hf⟩ := gd_s hf
    refine b_iald C h7 h8 dX12_key_18 ?_
    obtain ⟨u11, d9, k10, hf⟩ := cb_s hf
    refine b_cVI C [] dX12_key_19 (kX12_seenBy l D cy B k10) lv_X12_223 ⟨rfl, rfl, Nat.le_of_ble_eq_true rfl, Nat.le_of_ble_eq_true rfl⟩ h1 (by decide) rfl (Nat.le_of_ble_eq_true rfl) ⟨Nat.zero_le _, Nat.zero_le _⟩ rfl ?_
    refine b_istore_n C dX12_key_22 rfl [(3, .int u11), (0, .ref (ad B x0)), (1, .int x1), (2, .int x2)] (by decide) rfl ?_
    refine b_iload_n C dX12_key_23 3 rfl rfl ?_
    by_cases c12 : x2.toInt < 0 ∨ 5 < x2.toInt
    · have hf := it_s c12 hf
      refine b_tabOut C (tgt := 127) dX12_key_24 c12 (by decide) ?_
      refine b_iconst C (v := (-1)) dX12_key_127 (by decide) ?_
      exact b_iret C hr hlocks hf dX12_key_128
    · have hf := if_s c12 hf
      by_cases c13 : x2 = 0
      · have hf := it_s c13 hf
        refine b_tabIn C (tgt := 64) (off := 40) dX12_key_24 c13 (by decide) (by decide) (by decide) (by decide) ?_
        refine b_aload_n C dX12_key_64 1 rfl rfl ?_
        refine b_gR C dX12_key_65 fl_X12_40 h1 er6 ?_
        refine b_sipush C (v := 352) dX12_key_68 (by decide) ?_
        refine b_iald C h7 h8 dX12_key_71 ?_
        refine b_iload_n C dX12_key_72 2 rfl rfl ?_
        refine b_ishr C dX12_key_73 ?_
        refine b_iconst C (v := 1) dX12_key_74 (by decide) ?_
        refine b_iand C dX12_key_75 ?_
        exact b_iret C hr hlocks hf dX12_key_76
      have hf := if_s c13 hf
      by_cases c14 : x2 = 1
      · have hf := it_s c14 hf
        refine b_tabIn C (tgt := 77) (off := 53) dX12_key_24 c14 (by decide) (by decide) (by decide) (by decide) ?_
        refine b_iload_n C dX12_key_77 0 rfl rfl ?_
        refine b_iload_n C dX12_key_78 2 rfl rfl ?_
        refine b_ishr C dX12_key_79 ?_
        refine b_iconst C (v := 1) dX12_key_80 (by decide) ?_
        refine b_iand C dX12_key_81 ?_
        exact b_iret C hr hlocks hf dX12_key_82
      have hf := if_s c14 hf
      by_cases c15 : x2 = 2
      · have hf := it_s c15 hf
        refine b_tabIn C (tgt := 83) (off := 59) dX12_key_24 c15 (by decide) (by decide) (by decide) (by decide) ?_
        refine b_aload_n C dX12_key_83 1 rfl rfl ?_
        refine b_iload_n C dX12_key_84 0 rfl rfl ?_
        obtain ⟨u18, d16, k17, hf⟩ := cb_s hf
        refine b_cVI C [] dX12_key_85 (kX12_barredBy l D cy B k17) lv_X12_229 ⟨rfl, rfl, Nat.le_of_ble_eq_true rfl, Nat.le_of_ble_eq_true rfl⟩ h1 (by decide) rfl (Nat.le_of_ble_eq_true rfl) ⟨Nat.zero_le _, Nat.zero_le _⟩ rfl ?_
        refine b_iload_n C dX12_key_88 2 rfl rfl ?_
        refine b_ishr C dX12_key_89 ?_
        refine b_iconst C (v := 1) dX12_key_90 (by decide) ?_
        refine b_iand C dX12_key_91 ?_
        exact b_iret C hr hlocks hf dX12_key_92
      have hf := if_s c15 hf
      by_cases c19 : x2 = 3
      · have hf := it_s c19 hf
        refine b_tabIn C (tgt := 93) (off := 69) dX12_key_24 c19 (by decide) (by decide) (by decide) (by decide) ?_
        refine b_aload_n C dX12_key_93 1 rfl rfl ?_
        refine b_gR C dX12_key_94 fl_X12_40 h1 er6 ?_
        refine b_sipush C (v := 353) dX12_key_97 (by decide) ?_
        obtain ⟨h20, hf⟩ := gd_s hf
        refine b_iald C h7 h20 dX12_key_100 ?_
        refine b_iload_n C dX12_key_101 2 rfl rfl ?_
        refine b_ishr C dX12_key_102 ?_
        refine b_iconst C (v := 1) dX12_key_103 (by decide) ?_
        refine b_iand C dX12_key_104 ?_
        exact b_iret C hr hlocks hf dX12_key_105
      have hf := if_s c19 hf
      by_cases c21 : x2 = 4
      · have hf := it_s c21 hf
        refine b_tabIn C (tgt := 106) (off := 82) dX12_key_24 c21 (by decide) (by decide) (by decide) (by decide) ?_
        refine b_aload_n C dX12_key_106 1 rfl rfl ?_
        refine b_gR C dX12_key_107 fl_X12_40 h1 er6 ?_
        refine b_sipush C (v := 355) dX12_key_110 (by decide) ?_
        refine b_iload_n C dX12_key_113 2 rfl rfl ?_
        refine b_iadd C dX12_key_114 ?_
        obtain ⟨h22, hf⟩ := gd_s hf
        refine b_iald C h7 h22 dX12_key_115 ?_
        exact b_iret C hr hlocks hf dX12_key_116
      have hf := if_s c21 hf
      by_cases c23 : x2 = 5
      · have hf := it_s c23 hf
        refine b_tabIn C (tgt := 117) (off := 93) dX12_key_24 c23 (by decide) (by decide) (by decide) (by decide) ?_
        refine b_aload_n C dX12_key_117 1 rfl rfl ?_
        obtain ⟨r24, er24, hf⟩ := ob_s hf
        refine b_gR C dX12_key_118 fl_X12_46 h1 er24 ?_
        refine b_iload_n C dX12_key_121 2 rfl rfl ?_
        obtain ⟨h25, hf⟩ := gd_s hf
        obtain ⟨h26, hf⟩ := gd_s hf
        refine b_fald C h25 h26 dX12_key_122 ?_
        obtain ⟨u29, d27, k28, hf⟩ := cb_s hf
        refine b_cSI C [] dX12_key_123 (kX12_bitsOfNumber l D cy B k28) lv_X12_332 ⟨rfl, rfl, Nat.le_of_ble_eq_true rfl, Nat.le_of_ble_eq_true rfl⟩ rfl (Nat.le_of_ble_eq_true rfl) ⟨Nat.zero_le _, Nat.zero_le _⟩ rfl ?_
        exact b_iret C hr hlocks hf dX12_key_126
      have hf := if_s c23 hf
      cases hf
  · have hf := it_s c5 hf
    refine b_iconst C (v := (-1)) dX12_key_8 (by decide) ?_
    exact b_iret C hr hlocks hf dX12_key_9
theorem kX12_key (l : Launch) (D : va_G) (cy : Nat → ClassId) (B : Bs) {N : Nat} {g : Gs} {x0 : Nat} {x1 : Int32} {x2 : Int32} {vz : Int32} {dz : Ds} {d : Ds} (hf : fX12_key N g x0 x1 x2 d = some (vz, dz)) : Met l yX12_key (.code yX12_key cX12_key 4 (some .int) :: wl) rmX12_key (PC D cy B [.ref (ad B x0), .int x1, .int x2] g d) (QI D cy B vz g dz) 0 0 (wA B) :=
  met_of (by decide +kernel) (Nat.le_of_ble_eq_true rfl) (fun p e s m args below meth c C hr hlocks _ => b_sub [(0, .ref (ad B x0)), (1, .int x1), (2, .int x2)] [0, 1, 2] rfl (tX12_key_E C hr hlocks hf))
/-! KeyMatrixModel.does(II)I -/
theorem dX12_does_0 : decode cX12_does 0 = .ok (.aload_n 0, 1) := by decide +kernel
theorem dX12_does_1 : decode cX12_does 1 = .ok (.iload_n 1, 1) := by decide +kernel
theorem dX12_does_2 : decode cX12_does 2 = .ok (.invokevirtual 220, 3) := by decide +kernel
theorem dX12_does_5 : decode cX12_does 5 = .ok (.ifCond .eq 29, 3) := by decide +kernel
theorem dX12_does_8 : decode cX12_does 8 = .ok (.iload_n 2, 1) := by decide +kernel
theorem dX12_does_9 : decode cX12_does 9 = .ok (.iconst 0, 1) := by decide +kernel
theorem dX12_does_10 : decode cX12_does 10 = .ok (.iconst 1, 1) := by decide +kernel
theorem dX12_does_11 : decode cX12_does 11 = .ok (.invokestatic 169, 3) := by decide +kernel
theorem dX12_does_14 : decode cX12_does 14 = .ok (.ifCond .eq 20, 3) := by decide +kernel
theorem dX12_does_17 : decode cX12_does 17 = .ok (.aload_n 0, 1) := by decide +kernel
theorem dX12_does_18 : decode cX12_does 18 = .ok (.getfield 40, 3) := by decide +kernel
theorem dX12_does_21 : decode cX12_does 21 = .ok (.sipush 379, 3) := by decide +kernel
theorem dX12_does_24 : decode cX12_does 24 = .ok (.iconst 3, 1) := by decide +kernel
theorem dX12_does_25 : decode cX12_does 25 = .ok (.iload_n 1, 1) := by decide +kernel
theorem dX12_does_26 : decode cX12_does 26 = .ok (.imul, 1) := by decide +kernel
theorem dX12_does_27 : decode cX12_does 27 = .ok (.iadd, 1) := by decide +kernel
theorem dX12_does_28 : decode cX12_does 28 = .ok (.iload_n 2, 1) := by decide +kernel
theorem dX12_does_29 : decode cX12_does 29 = .ok (.iadd, 1) := by decide +kernel
theorem dX12_does_30 : decode cX12_does 30 = .ok (.iaload, 1) := by decide +kernel
theorem dX12_does_31 : decode cX12_does 31 = .ok (.goto 5, 3) := by decide +kernel
theorem dX12_does_34 : decode cX12_does 34 = .ok (.bipush (-2), 2) := by decide +kernel
theorem dX12_does_36 : decode cX12_does 36 = .ok (.ireturn, 1) := by decide +kernel
def rmX12_does : Room := { frames := 2, cells := 0, slots := 0, locals := 43 }
set_option maxRecDepth 100000 in
def fX12_does_J36 (N : Nat) (g : Gs) (x0 : Nat) (x1 : Int32) (x2 : Int32) (z0 : Int32) (d : Ds) : Option (Int32 × Ds) := some (z0, d)
set_option maxHeartbeats 4000000 in
set_option maxRecDepth 100000 in
theorem tX12_does_36 {p : Program} {l : Launch} {e : Env} {s : State} {m : MethodId} {args : Array Value} {below : List Frame} {meth : Method} {c : Code} {D : va_G} {cy : Nat → ClassId} {B : Bs} (C : Cx p s m args c cX12_does 3 RX12 D cy B) (hr : meth.sig.returnType = (some .int)) (hlocks : meth.locks = false) {N : Nat} {g : Gs} {x0 : Nat} {x1 : Int32} {x2 : Int32} {vz : Int32} {dz : Ds} {z0 : Int32} {d : Ds} (hf : fX12_does_J36 N g x0 x1 x2 z0 d = some (vz, dz)) : WB p l e rmX12_does s m args below meth c 3 D cy B 0 0 (MQ below (QI D cy B vz g dz) args s 0 0 (wA B)) g d [(0, .ref (ad B x0)), (1, .int x1), (2, .int x2)] 36 [.int z0] := by
  unfold fX12_does_J36 at hf
  exact b_iret C hr hlocks hf dX12_does_36
set_option maxRecDepth 100000 in
def fX12_does_J34 (N : Nat) (g : Gs) (x0 : Nat) (x1 : Int32) (x2 : Int32) (d : Ds) : Option (Int32 × Ds) := fX12_does_J36 N g x0 x1 x2 (-2) d
set_option maxHeartbeats 4000000 in
set_option maxRecDepth 100000 in
theorem tX12_does_34 {p : Program} {l : Launch} {e : Env} {s : State} {m : MethodId} {args : Array Value} {below : List Frame} {meth : Method} {c : Code} {D : va_G} {cy : Nat → ClassId} {B : Bs} (C : Cx p s m args c cX12_does 3 RX12 D cy B) (hr : meth.sig.returnType = (some .int)) (hlocks : meth.locks = false) {N : Nat} {g : Gs} {x0 : Nat} {x1 : Int32} {x2 : Int32} {vz : Int32} {dz : Ds} {d : Ds} (hf : fX12_does_J34 N g x0 x1 x2 d = some (vz, dz)) : WB p l e rmX12_does s m args below meth c 3 D cy B 0 0 (MQ below (QI D cy B vz g dz) args s 0 0 (wA B)) g d [(0, .ref (ad B x0)), (1, .int x1), (2, .int x2)] 34 [] := by
  unfold fX12_does_J34 at hf
  refine b_bipush C (v := (-2)) dX12_does_34 (by decide) ?_
  refine b_sub [(0, .ref (ad B x0)), (1, .int x1), (2, .int x2)] [0, 1, 2] rfl ?_
  exact tX12_does_36 C hr hlocks hf
set_option maxRecDepth 100000 in
def fX12_does (N : Nat) (g : Gs) (x0 : Nat) (x1 : Int32) (x2 : Int32) (d : Ds) : Option (Int32 × Ds) := gd (chk g x0 11) <| cb (fX12_isKey N g x0 x1 d) fun u4 d2 => (if u4 = 0 then (fX12_does_J34 N g x0 x1 x2 d2) else (cb (fX12_in N g x2 0 1 d2) fun u8 d6 => (if u8 = 0 then (fX12_does_J34 N g x0 x1 x2 d6) else (ob (gR g x0 17) fun r10 => (gd (chk g r10 102) <| gd (¬ ((((379 : Int32) + ((3 : Int32) * x1)) + x2) < 0 ∨ gL g r10 ≤ (((379 : Int32) + ((3 : Int32) * x1)) + x2).toNatClampNeg)) <| fX12_does_J36 N g x0 x1 x2 (dI d6 r10 (((379 : Int32) + ((3 : Int32) * x1)) + x2).toNatClampNeg) d6)))))
set_option maxHeartbeats 4000000 in
set_option maxRecDepth 100000 in
theorem tX12_does_E {p : Program} {l : Launch} {e : Env} {s : State} {m : MethodId} {args : Array Value} {below : List Frame} {meth : Method} {c : Code} {D : va_G} {cy : Nat → ClassId} {B : Bs} (C : Cx p s m args c cX12_does 3 RX12 D cy B) (hr : meth.sig.returnType = (some .int)) (hlocks : meth.locks = false) {N : Nat} {g : Gs} {x0 : Nat} {x1 : Int32} {x2 : Int32} {vz : Int32} {dz : Ds} {d : Ds} (hf : fX12_does N g x0 x1 x2 d = some (vz, dz)) : WB p l e rmX12_does s m args below meth c 3 D cy B 0 0 (MQ below (QI D cy B vz g dz) args s 0 0 (wA B)) g d [(0, .ref (ad B x0)), (1, .int x1), (2, .int x2)] 0 [] := by
  unfold fX12_does at hf
  refine b_aload_n C dX12_does_0 0 rfl rfl ?_
  refine b_iload_n C dX12_does_1 1 rfl rfl ?_
  obtain ⟨h1, hf⟩ := gd_s hf
  obtain ⟨u4, d2, k3, hf⟩ := cb_s hf
  refine b_cVI C [] dX12_does_2 (kX12_isKey l D cy B k3) lv_X12_220 ⟨rfl, rfl, Nat.le_of_ble_eq_true rfl, Nat.le_of_ble_eq_true rfl⟩ h1 (by decide) rfl (Nat.le_of_ble_eq_true rfl) ⟨Nat.zero_le _, Nat.zero_le _⟩ rfl ?_
  refine b_if_eq C (tgt := 34) dX12_does_5 (by decide) (fun c5 => ?_) (fun c5 => ?_)
  · have hf := it_s c5 hf
    refine b_sub [(0, .ref (ad B x0)), (1, .int x1), (2, .int x2)] [0, 1, 2] rfl ?_
    exact tX12_does_34 C hr hlocks hf
  · have hf := if_s c5 hf
    refine b_iload_n C dX12_does_8 2 rfl rfl ?_
    refine b_iconst C (v := 0) dX12_does_9 (by decide) ?_
    refine b_iconst C (v := 1) dX12_does_10 (by decide) ?_
    obtain ⟨u8, d6, k7, hf⟩ := cb_s hf
    refine b_cSI C [] dX12_does_11 (kX12_in l D cy B k7) lv_X12_169 ⟨rfl, rfl, Nat.le_of_ble_eq_true rfl, Nat.le_of_ble_eq_true rfl⟩ rfl (Nat.le_of_ble_eq_true rfl) ⟨Nat.zero_le _, Nat.zero_le _⟩ rfl ?_
    refine b_if_eq C (tgt := 34) dX12_does_14 (by decide) (fun c9 => ?_) (fun c9 => ?_)
    · have hf := it_s c9 hf
      refine b_sub [(0, .ref (ad B x0)), (1, .int x1), (2, .int x2)] [0, 1, 2] rfl ?_
      exact tX12_does_34 C hr hlocks hf
    · have hf := if_s c9 hf
      refine b_aload_n C dX12_does_17 0 rfl rfl ?_
      obtain ⟨r10, er10, hf⟩ := ob_s hf
      refine b_gR C dX12_does_18 fl_X12_40 h1 er10 ?_
      refine b_sipush C (v := 379) dX12_does_21 (by decide) ?_
      refine b_iconst C (v := 3) dX12_does_24 (by decide) ?_
      refine b_iload_n C dX12_does_25 1 rfl rfl ?_
      refine b_imul C dX12_does_26 ?_
      refine b_iadd C dX12_does_27 ?_
      refine b_iload_n C dX12_does_28 2 rfl rfl ?_
      refine b_iadd C dX12_does_29 ?_
      obtain ⟨h11, hf⟩ := gd_s hf
      obtain ⟨h12, hf⟩ := gd_s hf
      refine b_iald C h11 h12 dX12_does_30 ?_
      refine b_goto C (tgt := 36) dX12_does_31 (by decide) ?_
      refine b_sub [(0, .ref (ad B x0)), (1, .int x1), (2, .int x2)] [0, 1, 2] rfl ?_
      exact tX12_does_36 C hr hlocks hf
theorem kX12_does (l : Launch) (D : va_G) (cy : Nat → ClassId) (B : Bs) {N : Nat} {g : Gs} {x0 : Nat} {x1 : Int32} {x2 : Int32} {vz : Int32} {dz : Ds} {d : Ds} (hf : fX12_does N g x0 x1 x2 d = some (vz, dz)) : Met l yX12_does (.code yX12_does cX12_does 3 (some .int) :: wl) rmX12_does (PC D cy B [.ref (ad B x0), .int x1, .int x2] g d) (QI D cy B vz g dz) 0 0 (wA B) :=
  met_of (by decide +kernel) (Nat.le_of_ble_eq_true rfl) (fun p e s m args below meth c C hr hlocks _ => b_sub [(0, .ref (ad B x0)), (1, .int x1), (2, .int x2)] [0, 1, 2] rfl (tX12_does_E C hr hlocks hf))
/-! KeyMatrixModel.event(II)I -/
theorem dX12_event_0 : decode cX12_event 0 = .ok (.iload_n 1, 1) := by decide +kernel
theorem dX12_event_1 : decode cX12_event 1 = .ok (.iconst (-1), 1) := by decide +kernel
theorem dX12_event_2 : decode cX12_event 2 = .ok (.if_icmp .ne 12, 3) := by decide +kernel
theorem dX12_event_5 : decode cX12_event 5 = .ok (.aload_n 0, 1) := by decide +kernel
theorem dX12_event_6 : decode cX12_event 6 = .ok (.getfield 40, 3) := by decide +kernel
theorem dX12_event_9 : decode cX12_event 9 = .ok (.sipush 557, 3) := by decide +kernel
theorem dX12_event_12 : decode cX12_event 12 = .ok (.iaload, 1) := by decide +kernel
theorem dX12_event_13 : decode cX12_event 13 = .ok (.ireturn, 1) := by decide +kernel
theorem dX12_event_14 : decode cX12_event 14 = .ok (.iload_n 1, 1) := by decide +kernel
theorem dX12_event_15 : decode cX12_event 15 = .ok (.iconst 0, 1) := by decide +kernel
theorem dX12_event_16 : decode cX12_event 16 = .ok (.aload_n 0, 1) := by decide +kernel
theorem dX12_event_17 : decode cX12_event 17 = .ok (.getfield 40, 3) := by decide +kernel
theorem dX12_event_20 : decode cX12_event 20 = .ok (.sipush 557, 3) := by decide +kernel
theorem dX12_event_23 : decode cX12_event 23 = .ok (.iaload, 1) := by decide +kernel
theorem dX12_event_24 : decode cX12_event 24 = .ok (.iconst 1, 1) := by decide +kernel
theorem dX12_event_25 : decode cX12_event 25 = .ok (.isub, 1) := by decide +kernel
theorem dX12_event_26 : decode cX12_event 26 = .ok (.invokestatic 169, 3) := by decide +kernel
theorem dX12_event_29 : decode cX12_event 29 = .ok (.ifCond .eq 29, 3) := by decide +kernel
theorem dX12_event_32 : decode cX12_event 32 = .ok (.iload_n 2, 1) := by decide +kernel
theorem dX12_event_33 : decode cX12_event 33 = .ok (.iconst 0, 1) := by decide +kernel
theorem dX12_event_34 : decode cX12_event 34 = .ok (.iconst 2, 1) := by decide +kernel
theorem dX12_event_35 : decode cX12_event 35 = .ok (.invokestatic 169, 3) := by decide +kernel
theorem dX12_event_38 : decode cX12_event 38 = .ok (.ifCond .eq 20, 3) := by decide +kernel
theorem dX12_event_41 : decode cX12_event 41 = .ok (.aload_n 0, 1) := by decide +kernel
theorem dX12_event_42 : decode cX12_event 42 = .ok (.getfield 40, 3) := by decide +kernel
theorem dX12_event_45 : decode cX12_event 45 = .ok (.sipush 1678, 3) := by decide +kernel
theorem dX12_event_48 : decode cX12_event 48 = .ok (.iconst 3, 1) := by decide +kernel
theorem dX12_event_49 : decode cX12_event 49 = .ok (.iload_n 1, 1) := by decide +kernel
theorem dX12_event_50 : decode cX12_event 50 = .ok (.imul, 1) := by decide +kernel
theorem dX12_event_51 : decode cX12_event 51 = .ok (.iadd, 1) := by decide +kernel
theorem dX12_event_52 : decode cX12_event 52 = .ok (.iload_n 2, 1) := by decide +kernel
theorem dX12_event_53 : decode cX12_event 53 = .ok (.iadd, 1) := by decide +kernel
theorem dX12_event_54 : decode cX12_event 54 = .ok (.iaload, 1) := by decide +kernel
theorem dX12_event_55 : decode cX12_event 55 = .ok (.goto 4, 3) := by decide +kernel
theorem dX12_event_58 : decode cX12_event 58 = .ok (.iconst (-1), 1) := by decide +kernel
theorem dX12_event_59 : decode cX12_event 59 = .ok (.ireturn, 1) := by decide +kernel
def rmX12_event : Room := { frames := 1, cells := 0, slots := 0, locals := 22 }
set_option maxRecDepth 100000 in
def fX12_event_J59 (N : Nat) (g : Gs) (x0 : Nat) (x1 : Int32) (x2 : Int32) (z0 : Int32) (d : Ds) : Option (Int32 × Ds) := some (z0, d)
set_option maxHeartbeats 4000000 in
set_option maxRecDepth 100000 in
theorem tX12_event_59 {p : Program} {l : Launch} {e : Env} {s : State} {m : MethodId} {args : Array Value} {below : List Frame} {meth : Method} {c : Code} {D : va_G} {cy : Nat → ClassId} {B : Bs} (C : Cx p s m args c cX12_event 3 RX12 D cy B) (hr : meth.sig.returnType = (some .int)) (hlocks : meth.locks = false) {N : Nat} {g : Gs} {x0 : Nat} {x1 : Int32} {x2 : Int32} {vz : Int32} {dz : Ds} {z0 : Int32} {d : Ds} (hf : fX12_event_J59 N g x0 x1 x2 z0 d = some (vz, dz)) : WB p l e rmX12_event s m args below meth c 3 D cy B 0 0 (MQ below (QI D cy B vz g dz) args s 0 0 (wA B)) g d [(0, .ref (ad B x0)), (1, .int x1), (2, .int x2)] 59 [.int z0] := by
  unfold fX12_event_J59 at hf
  exact b_iret C hr hlocks hf dX12_event_59
set_option maxRecDepth 100000 in
def fX12_event_J58 (N : Nat) (g : Gs) (x0 : Nat) (x1 : Int32) (x2 : Int32) (d : Ds) : Option (Int32 × Ds) := fX12_event_J59 N g x0 x1 x2 (-1) d
set_option maxHeartbeats 4000000 in
set_option maxRecDepth 100000 in
theorem tX12_event_58 {p : Program} {l : Launch} {e : Env} {s : State} {m : MethodId} {args : Array Value} {below : List Frame} {meth : Method} {c : Code} {D : va_G} {cy : Nat → ClassId} {B : Bs} (C : Cx p s m args c cX12_event 3 RX12 D cy B) (hr : meth.sig.returnType = (some .int)) (hlocks : meth.locks = false) {N : Nat} {g : Gs} {x0 : Nat} {x1 : Int32} {x2 : Int32} {vz : Int32} {dz : Ds} {d : Ds} (hf : fX12_event_J58 N g x0 x1 x2 d = some (vz, dz)) : WB p l e rmX12_event s m args below meth c 3 D cy B 0 0 (MQ below (QI D cy B vz g dz) args s 0 0 (wA B)) g d [(0, .ref (ad B x0)), (1, .int x1), (2, .int x2)] 58 [] := by
  unfold fX12_event_J58 at hf
  refine b_iconst C (v := (-1)) dX12_event_58 (by decide) ?_
  refine b_sub [(0, .ref (ad B x0)), (1, .int x1), (2, .int x2)] [0, 1, 2] rfl ?_
  exact tX12_event_59 C hr hlocks hf
set_option maxRecDepth 100000 in
def fX12_event (N : Nat) (g : Gs) (x0 : Nat) (x1 : Int32) (x2 : Int32) (d : Ds) : Option (Int32 × Ds) := if x1 = (-1 : Int32) then (gd (chk g x0 11) <| ob (gR g x0 17) fun r16 => (gd (chk g r16 102) <| gd (¬ ((557 : Int32) < 0 ∨ gL g r16 ≤ (557 : Int32).toNatClampNeg)) <| some ((dI d r16 (557 : Int32).toNatClampNeg), d))) else (gd (chk g x0 11) <| ob (gR g x0 17) fun r3 => (gd (chk g r3 102) <| gd (¬ ((557 : Int32) < 0 ∨ gL g r3 ≤ (557 : Int32).toNatClampNeg)) <| cb (fX12_in N g x1 0 ((dI d r3 (557 : Int32).toNatClampNeg) - 1) d) fun u8 d6 => (if u8 = 0 then (fX12_event_J58 N g x0 x1 x2 d6) else (cb (fX12_in N g x2 0 2 d6) fun u12 d10 => (if u12 = 0 then (fX12_event_J58 N g x0 x1 x2 d10) else (gd (¬ ((((1678 : Int32) + ((3 : Int32) * x1)) + x2) < 0 ∨ gL g r3 ≤ (((1678 : Int32) + ((3 : Int32) * x1)) + x2).toNatClampNeg)) <| fX12_event_J59 N g x0 x1 x2 (dI d10 r3 (((1678 : Int32) + ((3 : Int32) * x1)) + x2).toNatClampNeg) d10))))))
set_option maxHeartbeats 4000000 in
set_option maxRecDepth 100000 in
theorem tX12_event_E {p : Program} {l : Launch} {e : Env} {s : State} {m : MethodId} {args : Array Value} {below : List Frame} {meth : Method} {c : Code} {D : va_G} {cy : Nat → ClassId} {B : Bs} (C : Cx p s m args c cX12_event 3 RX12 D cy B) (hr : meth.sig.returnType = (some .int)) (hlocks : meth.locks = false) {N : Nat} {g : Gs} {x0 : Nat} {x1 : Int32} {x2 : Int32} {vz : Int32} {dz : Ds} {d : Ds} (hf : fX12_event N g x0 x1 x2 d = some (vz, dz)) : WB p l e rmX12_event s m args below meth c 3 D cy B 0 0 (MQ below (QI D cy B vz g dz) args s 0 0 (wA B)) g d [(0, .ref (ad B x0)), (1, .int x1), (2, .int x2)] 0 [] := by
  unfold fX12_event at hf
  refine b_iload_n C dX12_event_0 1 rfl rfl ?_
  refine b_iconst C (v := (-1)) dX12_event_1 (by decide) ?_
  refine b_icmp_ne C (tgt := 14) dX12_event_2 (by decide) (fun c1 => ?_) (fun c1 => ?_)
  · have hf := if_s c1 hf
    refine b_iload_n C dX12_event_14 1 rfl rfl ?_
    refine b_iconst C (v := 0) dX12_event_15 (by decide) ?_
    refine b_aload_n C dX12_event_16 0 rfl rfl ?_
    obtain ⟨h2, hf⟩ := gd_s hf
    obtain ⟨r3, er3, hf⟩ := ob_s hf
    refine b_gR C dX12_event_17 fl_X12_40 h2 er3 ?_
    refine b_sipush C (v := 557) dX12_event_20 (by decide) ?_
    obtain ⟨h4, hf⟩ := gd_s hf
    obtain ⟨h5, hf⟩ := gd_s hf
    refine b_iald C h4 h5 dX12_event_23 ?_
    refine b_iconst C (v := 1) dX12_event_24 (by decide) ?_
    refine b_isub C dX12_event_25 ?_
    obtain ⟨u8, d6, k7, hf⟩ := cb_s hf
    refine b_cSI C [] dX12_event_26 (kX12_in l D cy B k7) lv_X12_169 ⟨rfl, rfl, Nat.le_of_ble_eq_true rfl, Nat.le_of_ble_eq_true rfl⟩ rfl (Nat.le_of_ble_eq_true rfl) ⟨Nat.zero_le _, Nat.zero_le _⟩ rfl ?_
    refine b_if_eq C (tgt := 58) dX12_event_29 (by decide) (fun c9 => ?_) (fun c9 => ?_)
    · have hf := it_s c9 hf
      refine b_sub [(0, .ref (ad B x0)), (1, .int x1), (2, .int x2)] [0, 1, 2] rfl ?_
      exact tX12_event_58 C hr hlocks hf
    · have hf := if_s c9 hf
      refine b_iload_n C dX12_event_32 2 rfl rfl ?_
      refine b_iconst C (v := 0) dX12_event_33 (by decide) ?_
      refine b_iconst C (v := 2) dX12_event_34 (by decide) ?_
      obtain ⟨u12, d10, k11, hf⟩ := cb_s hf
      refine b_cSI C [] dX12_event_35 (kX12_in l D cy B k11) lv_X12_169 ⟨rfl, rfl, Nat.le_of_ble_eq_true rfl, Nat.le_of_ble_eq_true rfl⟩ rfl (Nat.le_of_ble_eq_true rfl) ⟨Nat.zero_le _, Nat.zero_le _⟩ rfl ?_
      refine b_if_eq C (tgt := 58) dX12_event_38 (by decide) (fun c13 => ?_) (fun c13 => ?_)
      · have hf := it_s c13 hf
        refine b_sub [(0, .ref (ad B x0)), (1, .int x1), (2, .int x2)] [0, 1, 2] rfl ?_
        exact tX12_event_58 C hr hlocks hf
      · have hf := if_s c13 hf
        refine b_aload_n C dX12_event_41 0 rfl rfl ?_
        refine b_gR C dX12_event_42 fl_X12_40 h2 er3 ?_
        refine b_sipush C (v := 1678) dX12_event_45 (by decide) ?_
        refine b_iconst C (v := 3) dX12_event_48 (by decide) ?_
        refine b_iload_n C dX12_event_49 1 rfl rfl ?_
        refine b_imul C dX12_event_50 ?_
        refine b_iadd C dX12_event_51 ?_
        refine b_iload_n C dX12_event_52 2 rfl rfl ?_
        refine b_iadd C dX12_event_53 ?_
        obtain ⟨h14, hf⟩ := gd_s hf
        refine b_iald C h4 h14 dX12_event_54 ?_
        refine b_goto C (tgt := 59) dX12_event_55 (by decide) ?_
        refine b_sub [(0, .ref (ad B x0)), (1, .int x1), (2, .int x2)] [0, 1, 2] rfl ?_
        exact tX12_event_59 C hr hlocks hf
  · have hf := it_s c1 hf
    refine b_aload_n C dX12_event_5 0 rfl rfl ?_
    obtain ⟨h15, hf⟩ := gd_s hf
    obtain ⟨r16, er16, hf⟩ := ob_s hf
    refine b_gR C dX12_event_6 fl_X12_40 h15 er16 ?_
    refine b_sipush C (v := 557) dX12_event_9 (by decide) ?_
    obtain ⟨h17, hf⟩ := gd_s hf
    obtain ⟨h18, hf⟩ := gd_s hf
    refine b_iald C h17 h18 dX12_event_12 ?_
    exact b_iret C hr hlocks hf dX12_event_13
theorem kX12_event (l : Launch) (D : va_G) (cy : Nat → ClassId) (B : Bs) {N : Nat} {g : Gs} {x0 : Nat} {x1 : Int32} {x2 : Int32} {vz : Int32} {dz : Ds} {d : Ds} (hf : fX12_event N g x0 x1 x2 d = some (vz, dz)) : Met l yX12_event (.code yX12_event cX12_event 3 (some .int) :: wl) rmX12_event (PC D cy B [.ref (ad B x0), .int x1, .int x2] g d) (QI D cy B vz g dz) 0 0 (wA B) :=
  met_of (by decide +kernel) (Nat.le_of_ble_eq_true rfl) (fun p e s m args below meth c C hr hlocks _ => b_sub [(0, .ref (ad B x0)), (1, .int x1), (2, .int x2)] [0, 1, 2] rfl (tX12_event_E C hr hlocks hf))
/-! KeyMatrixModel.reportsKept()I -/
theorem dX12_reportsKept_0 : decode cX12_reportsKept 0 = .ok (.aload_n 0, 1) := by decide +kernel
theorem dX12_reportsKept_1 : decode cX12_reportsKept 1 = .ok (.getfield 40, 3) := by decide +kernel
theorem dX12_reportsKept_4 : decode cX12_reportsKept 4 = .ok (.sipush 555, 3) := by decide +kernel
theorem dX12_reportsKept_7 : decode cX12_reportsKept 7 = .ok (.iaload, 1) := by decide +kernel
theorem dX12_reportsKept_8 : decode cX12_reportsKept 8 = .ok (.bipush 40, 2) := by decide +kernel
theorem dX12_reportsKept_10 : decode cX12_reportsKept 10 = .ok (.if_icmp .ge 14, 3) := by decide +kernel
theorem dX12_reportsKept_13 : decode cX12_reportsKept 13 = .ok (.aload_n 0, 1) := by decide +kernel
theorem dX12_reportsKept_14 : decode cX12_reportsKept 14 = .ok (.getfield 40, 3) := by decide +kernel
theorem dX12_reportsKept_17 : decode cX12_reportsKept 17 = .ok (.sipush 555, 3) := by decide +kernel
theorem dX12_reportsKept_20 : decode cX12_reportsKept 20 = .ok (.iaload, 1) := by decide +kernel
theorem dX12_reportsKept_21 : decode cX12_reportsKept 21 = .ok (.goto 5, 3) := by decide +kernel
theorem dX12_reportsKept_24 : decode cX12_reportsKept 24 = .ok (.bipush 40, 2) := by decide +kernel
theorem dX12_reportsKept_26 : decode cX12_reportsKept 26 = .ok (.ireturn, 1) := by decide +kernel
def rmX12_reportsKept : Room := { frames := 0, cells := 0, slots := 0, locals := 0 }
set_option maxRecDepth 100000 in
def fX12_reportsKept_J26 (N : Nat) (g : Gs) (x0 : Nat) (z0 : Int32) (d : Ds) : Option (Int32 × Ds) := some (z0, d)
set_option maxHeartbeats 4000000 in
set_option maxRecDepth 100000 in
theorem tX12_reportsKept_26 {p : Program} {l : Launch} {e : Env} {s : State} {m : MethodId} {args : Array Value} {below : List Frame} {meth : Method} {c : Code} {D : va_G} {cy : Nat → ClassId} {B : Bs} (C : Cx p s m args c cX12_reportsKept 1 RX12 D cy B) (hr : meth.sig.returnType = (some .int)) (hlocks : meth.locks = false) {N : Nat} {g : Gs} {x0 : Nat} {vz : Int32} {dz : Ds} {z0 : Int32} {d : Ds} (hf : fX12_reportsKept_J26 N g x0 z0 d = some (vz, dz)) : WB p l e rmX12_reportsKept s m args below meth c 1 D cy B 0 0 (MQ below (QI D cy B vz g dz) args s 0 0 (wA B)) g d [(0, .ref (ad B x0))] 26 [.int z0] := by
  unfold fX12_reportsKept_J26 at hf
  exact b_iret C hr hlocks hf dX12_reportsKept_26
set_option maxRecDepth 100000 in
def fX12_reportsKept (N : Nat) (g : Gs) (x0 : Nat) (d : Ds) : Option (Int32 × Ds) := gd (chk g x0 11) <| ob (gR g x0 17) fun r2 => (gd (chk g r2 102) <| gd (¬ ((555 : Int32) < 0 ∨ gL g r2 ≤ (555 : Int32).toNatClampNeg)) <| if (40 : Int32) ≤ (dI d r2 (555 : Int32).toNatClampNeg) then (fX12_reportsKept_J26 N g x0 40 d) else (fX12_reportsKept_J26 N g x0 (dI d r2 (555 : Int32).toNatClampNeg) d))
set_option maxHeartbeats 4000000 in
set_option maxRecDepth 100000 in
theorem tX12_reportsKept_E {p : Program} {l : Launch} {e : Env} {s : State} {m : MethodId} {args : Array Value} {below : List Frame} {meth : Method} {c : Code} {D : va_G} {cy : Nat → ClassId} {B : Bs} (C : Cx p s m args c cX12_reportsKept 1 RX12 D cy B) (hr : meth.sig.returnType = (some .int)) (hlocks : meth.locks = false) {N : Nat} {g : Gs} {x0 : Nat} {vz : Int32} {dz : Ds} {d : Ds} (hf : fX12_reportsKept N g x0 d = some (vz, dz)) : WB p l e rmX12_reportsKept s m args below meth c 1 D cy B 0 0 (MQ below (QI D cy B vz g dz) args s 0 0 (wA B)) g d [(0, .ref (ad B x0))] 0 [] := by
  unfold fX12_reportsKept at hf
  refine b_aload_n C dX12_reportsKept_0 0 rfl rfl ?_
  obtain ⟨h1, hf⟩ := gd_s hf
  obtain ⟨r2, er2, hf⟩ := ob_s hf
  refine b_gR C dX12_reportsKept_1 fl_X12_40 h1 er2 ?_
  refine b_sipush C (v := 555) dX12_reportsKept_4 (by decide) ?_
  obtain ⟨h3, hf⟩ := gd_s hf
  obtain ⟨h4, hf⟩ := gd_s hf
  refine b_iald C h3 h4 dX12_reportsKept_7 ?_
  refine b_bipush C (v := 40) dX12_reportsKept_8 (by decide) ?_
  refine b_icmp_ge C (tgt := 24) dX12_reportsKept_10 (by decide) (fun c5 => ?_) (fun c5 => ?_)
  · have hf := it_s c5 hf
    refine b_bipush C (v := 40) dX12_reportsKept_24 (by decide) ?_
    refine b_sub [(0, .ref (ad B x0))] [0] rfl ?_
    exact tX12_reportsKept_26 C hr hlocks hf
  · have hf := if_s c5 hf
    refine b_aload_n C dX12_reportsKept_13 0 rfl rfl ?_
    refine b_gR C dX12_reportsKept_14 fl_X12_40 h1 er2 ?_
    refine b_sipush C (v := 555) dX12_reportsKept_17 (by decide) ?_
    refine b_iald C h3 h4 dX12_reportsKept_20 ?_
    refine b_goto C (tgt := 26) dX12_reportsKept_21 (by decide) ?_
    refine b_sub [(0, .ref (ad B x0))] [0] rfl ?_
    exact tX12_reportsKept_26 C hr hlocks hf
theorem kX12_reportsKept (l : Launch) (D : va_G) (cy : Nat → ClassId) (B : Bs) {N : Nat} {g : Gs} {x0 : Nat} {vz : Int32} {dz : Ds} {d : Ds} (hf : fX12_reportsKept N g x0 d = some (vz, dz)) : Met l yX12_reportsKept (.code yX12_reportsKept cX12_reportsKept 1 (some .int) :: wl) rmX12_reportsKept (PC D cy B [.ref (ad B x0)] g d) (QI D cy B vz g dz) 0 0 (wA B) :=
  met_of (by decide +kernel) (Nat.le_of_ble_eq_true rfl) (fun p e s m args below meth c C hr hlocks _ => b_sub [(0, .ref (ad B x0))] [0] rfl (tX12_reportsKept_E C hr hlocks hf))
/-! KeyMatrixModel.report(II)I -/
theorem yo_X12_reportsKept : yX12_reportsKept.cls ≠ "java/lang/invoke/MethodHandle" ∧ yX12_reportsKept.cls ≠ "java/lang/invoke/VarHandle" ∧ (parseMethodDescriptor yX12_reportsKept.desc).map (fun d => d.parameters.length) = some 0 := by decide +kernel
theorem co_X12_reportsKept : Cond.code yX12_reportsKept cX12_reportsKept 1 (some .int) ∈ wl := mW (mT7 (List.mem_of_getElem? (i := 10) (by decide +kernel))) rfl
theorem in_X12_reportsKept : Cond.initialized yX12_reportsKept.cls ∈ wl := mW (mT1 (List.mem_of_getElem? (i := 12) (by decide +kernel))) rfl
theorem im_X12_reportsKept : Cond.instanceMethod yX12_reportsKept ∈ wl := mW (mT7 (List.mem_of_getElem? (i := 9) (by decide +kernel))) rfl
theorem se_X12_reportsKept : Cond.selects yX12_reportsKept.cls yX12_reportsKept yX12_reportsKept ∈ wl := mW (mT0 (List.mem_of_getElem? (i := 88) (by decide +kernel))) rfl
theorem lv_X12_336 : LV RX12 336 yX12_reportsKept cX12_reportsKept 1 (some .int) 0 11 := ⟨⟨(RX12, TX12, 33), rfl, rfl⟩, yo_X12_reportsKept, mW (mT7 (List.mem_of_getElem? (i := 7) (by decide +kernel))) rfl, im_X12_reportsKept, se_X12_reportsKept, in_X12_reportsKept, co_X12_reportsKept⟩
theorem dX12_report_0 : decode cX12_report 0 = .ok (.iload_n 1, 1) := by decide +kernel
theorem dX12_report_1 : decode cX12_report 1 = .ok (.iconst 0, 1) := by decide +kernel
theorem dX12_report_2 : decode cX12_report 2 = .ok (.aload_n 0, 1) := by decide +kernel
theorem dX12_report_3 : decode cX12_report 3 = .ok (.invokevirtual 336, 3) := by decide +kernel
theorem dX12_report_6 : decode cX12_report 6 = .ok (.iconst 1, 1) := by decide +kernel
theorem dX12_report_7 : decode cX12_report 7 = .ok (.isub, 1) := by decide +kernel
theorem dX12_report_8 : decode cX12_report 8 = .ok (.invokestatic 169, 3) := by decide +kernel
theorem dX12_report_11 : decode cX12_report 11 = .ok (.ifCond .eq 7, 3) := by decide +kernel
theorem dX12_report_14 : decode cX12_report 14 = .ok (.iload_n 2, 1) := by decide +kernel
theorem dX12_report_15 : decode cX12_report 15 = .ok (.ifCond .ge 5, 3) := by decide +kernel
theorem dX12_report_18 : decode cX12_report 18 = .ok (.iconst (-1), 1) := by decide +kernel
theorem dX12_report_19 : decode cX12_report 19 = .ok (.ireturn, 1) := by decide +kernel
theorem dX12_report_20 : decode cX12_report 20 = .ok (.aload_n 0, 1) := by decide +kernel
theorem dX12_report_21 : decode cX12_report 21 = .ok (.iload_n 1, 1) := by decide +kernel
theorem dX12_report_22 : decode cX12_report 22 = .ok (.invokevirtual 311, 3) := by decide +kernel
theorem dX12_report_25 : decode cX12_report 25 = .ok (.istore_n 3, 1) := by decide +kernel
theorem dX12_report_26 : decode cX12_report 26 = .ok (.iload_n 2, 1) := by decide +kernel
theorem dX12_report_27 : decode cX12_report 27 = .ok (.iconst 3, 1) := by decide +kernel
theorem dX12_report_28 : decode cX12_report 28 = .ok (.if_icmp .ge 14, 3) := by decide +kernel
theorem dX12_report_31 : decode cX12_report 31 = .ok (.aload_n 0, 1) := by decide +kernel
theorem dX12_report_32 : decode cX12_report 32 = .ok (.getfield 40, 3) := by decide +kernel
theorem dX12_report_35 : decode cX12_report 35 = .ok (.iload_n 3, 1) := by decide +kernel
theorem dX12_report_36 : decode cX12_report 36 = .ok (.iload_n 2, 1) := by decide +kernel
theorem dX12_report_37 : decode cX12_report 37 = .ok (.iadd, 1) := by decide +kernel
theorem dX12_report_38 : decode cX12_report 38 = .ok (.iaload, 1) := by decide +kernel
theorem dX12_report_39 : decode cX12_report 39 = .ok (.goto 29, 3) := by decide +kernel
theorem dX12_report_42 : decode cX12_report 42 = .ok (.iload_n 2, 1) := by decide +kernel
theorem dX12_report_43 : decode cX12_report 43 = .ok (.iconst 3, 1) := by decide +kernel
theorem dX12_report_44 : decode cX12_report 44 = .ok (.isub, 1) := by decide +kernel
theorem dX12_report_45 : decode cX12_report 45 = .ok (.aload_n 0, 1) := by decide +kernel
theorem dX12_report_46 : decode cX12_report 46 = .ok (.getfield 40, 3) := by decide +kernel
theorem dX12_report_49 : decode cX12_report 49 = .ok (.iload_n 3, 1) := by decide +kernel
theorem dX12_report_50 : decode cX12_report 50 = .ok (.iconst 2, 1) := by decide +kernel
theorem dX12_report_51 : decode cX12_report 51 = .ok (.iadd, 1) := by decide +kernel
theorem dX12_report_52 : decode cX12_report 52 = .ok (.iaload, 1) := by decide +kernel
theorem dX12_report_53 : decode cX12_report 53 = .ok (.if_icmp .ge 14, 3) := by decide +kernel
theorem dX12_report_56 : decode cX12_report 56 = .ok (.aload_n 0, 1) := by decide +kernel
theorem dX12_report_57 : decode cX12_report 57 = .ok (.getfield 40, 3) := by decide +kernel
theorem dX12_report_60 : decode cX12_report 60 = .ok (.iload_n 3, 1) := by decide +kernel
theorem dX12_report_61 : decode cX12_report 61 = .ok (.iload_n 2, 1) := by decide +kernel
theorem dX12_report_62 : decode cX12_report 62 = .ok (.iadd, 1) := by decide +kernel
theorem dX12_report_63 : decode cX12_report 63 = .ok (.iaload, 1) := by decide +kernel
theorem dX12_report_64 : decode cX12_report 64 = .ok (.goto 4, 3) := by decide +kernel
theorem dX12_report_67 : decode cX12_report 67 = .ok (.iconst (-1), 1) := by decide +kernel
theorem dX12_report_68 : decode cX12_report 68 = .ok (.ireturn, 1) := by decide +kernel
def rmX12_report : Room := { frames := 1, cells := 0, slots := 0, locals := 22 }
set_option maxRecDepth 100000 in
def fX12_report_J18 (N : Nat) (g : Gs) (x0 : Nat) (x1 : Int32) (x2 : Int32) (d : Ds) : Option (Int32 × Ds) := some ((-1), d)
set_option maxHeartbeats 4000000 in
set_option maxRecDepth 100000 in
theorem tX12_report_18 {p : Program} {l : Launch} {e : Env} {s : State} {m : MethodId} {args : Array Value} {below : List Frame} {meth : Method} {c : Code} {D : va_G} {cy : Nat → ClassId} {B : Bs} (C : Cx p s m args c cX12_report 4 RX12 D cy B) (hr : meth.sig.returnType = (some .int)) (hlocks : meth.locks = false) {N : Nat} {g : Gs} {x0 : Nat} {x1 : Int32} {x2 : Int32} {vz : Int32} {dz : Ds} {d : Ds} (hf : fX12_report_J18 N g x0 x1 x2 d = some (vz, dz)) : WB p l e rmX12_report s m args below meth c 4 D cy B 0 0 (MQ below (QI D cy B vz g dz) args s 0 0 (wA B)) g d [(0, .ref (ad B x0)), (1, .int x1), (2, .int x2)] 18 [] := by
  unfold fX12_report_J18 at hf
  refine b_iconst C (v := (-1)) dX12_report_18 (by decide) ?_
  exact b_iret C hr hlocks hf dX12_report_19
set_option maxRecDepth 100000 in
def fX12_report_J68 (N : Nat) (g : Gs) (x0 : Nat) (x1 : Int32) (x2 : Int32) (z0 : Int32) (d : Ds) : Option (Int32 × Ds) := some (z0, d)
set_option maxHeartbeats 4000000 in
set_option maxRecDepth 100000 in
theorem tX12_report_68 {p : Program} {l : Launch} {e : Env} {s : State} {m : MethodId} {args : Array Value} {below : List Frame} {meth : Method} {c : Code} {D : va_G} {cy : Nat → ClassId} {B : Bs} (C : Cx p s m args c cX12_report 4 RX12 D cy B) (hr : meth.sig.returnType = (some .int)) (hlocks : meth.locks = false) {N : Nat} {g : Gs} {x0 : Nat} {x1 : Int32} {x2 : Int32} {vz : Int32} {dz : Ds} {z0 : Int32} {d : Ds} (hf : fX12_report_J68 N g x0 x1 x2 z0 d = some (vz, dz)) : WB p l e rmX12_report s m args below meth c 4 D cy B 0 0 (MQ below (QI D cy B vz g dz) args s 0 0 (wA B)) g d [(0, .ref (ad B x0)), (1, .int x1), (2, .int x2)] 68 [.int z0] := by
  unfold fX12_report_J68 at hf
  exact b_iret C hr hlocks hf dX12_report_68
set_option maxRecDepth 100000 in
def fX12_report (N : Nat) (g : Gs) (x0 : Nat) (x1 : Int32) (x2 : Int32) (d : Ds) : Option (Int32 × Ds) := gd (chk g x0 11) <| cb (fX12_reportsKept N g x0 d) fun u4 d2 => (cb (fX12_in N g x1 0 (u4 - 1) d2) fun u7 d5 => (if u7 = 0 then (fX12_report_J18 N g x0 x1 x2 d5) else (if 0 ≤ x2 then (cb (fX12_reportAt N g x0 x1 d5) fun u12 d10 => (if (3 : Int32) ≤ x2 then (ob (gR g x0 17) fun r14 => (gd (chk g r14 102) <| gd (¬ ((u12 + 2) < 0 ∨ gL g r14 ≤ (u12 + 2).toNatClampNeg)) <| if (dI d10 r14 (u12 + 2).toNatClampNeg) ≤ (x2 - 3) then (fX12_report_J68 N g x0 x1 x2 (-1) d10) else (gd (¬ ((u12 + x2) < 0 ∨ gL g r14 ≤ (u12 + x2).toNatClampNeg)) <| fX12_report_J68 N g x0 x1 x2 (dI d10 r14 (u12 + x2).toNatClampNeg) d10))) else (ob (gR g x0 17) fun r19 => (gd (chk g r19 102) <| gd (¬ ((u12 + x2) < 0 ∨ gL g r19 ≤ (u12 + x2).toNatClampNeg)) <| fX12_report_J68 N g x0 x1 x2 (dI d10 r19 (u12 + x2).toNatClampNeg) d10)))) else (fX12_report_J18 N g x0 x1 x2 d5))))
set_option maxHeartbeats 4000000 in
set_option maxRecDepth 100000 in
theorem tX12_report_E {p : Program} {l : Launch} {e : Env} {s : State} {m : MethodId} {args : Array Value} {below : List Frame} {meth : Method} {c : Code} {D : va_G} {cy : Nat → ClassId} {B : Bs} (C : Cx p s m args c cX12_report 4 RX12 D cy B) (hr : meth.sig.returnType = (some .int)) (hlocks : meth.locks = false) {N : Nat} {g : Gs} {x0 : Nat} {x1 : Int32} {x2 : Int32} {vz : Int32} {dz : Ds} {d : Ds} (hf : fX12_report N g x0 x1 x2 d = some (vz, dz)) : WB p l e rmX12_report s m args below meth c 4 D cy B 0 0 (MQ below (QI D cy B vz g dz) args s 0 0 (wA B)) g d [(0, .ref (ad B x0)), (1, .int x1), (2, .int x2)] 0 [] := by
  unfold fX12_report at hf
  refine b_iload_n C dX12_report_0 1 rfl rfl ?_
  refine b_iconst C (v := 0) dX12_report_1 (by decide) ?_
  refine b_aload_n C dX12_report_2 0 rfl rfl ?_
  obtain ⟨h1, hf⟩ := gd_s hf
  obtain ⟨u4, d2, k3, hf⟩ := cb_s hf
  refine b_cVI C [.int 0, .int x1] dX12_report_3 (kX12_reportsKept l D cy B k3) lv_X12_336 ⟨rfl, rfl, Nat.le_of_ble_eq_true rfl, Nat.le_of_ble_eq_true rfl⟩ h1 (by decide) rfl (Nat.le_of_ble_eq_true rfl) ⟨Nat.zero_le _, Nat.zero_le _⟩ rfl ?_
  refine b_iconst C (v := 1) dX12_report_6 (by decide) ?_
  refine b_isub C dX12_report_7 ?_
  obtain ⟨u7, d5, k6, hf⟩ := cb_s hf
  refine b_cSI C [] dX12_report_8 (kX12_in l D cy B k6) lv_X12_169 ⟨rfl, rfl, Nat.le_of_ble_eq_true rfl, Nat.le_of_ble_eq_true rfl⟩ rfl (Nat.le_of_ble_eq_true rfl) ⟨Nat.zero_le _, Nat.zero_le _⟩ rfl ?_
  refine b_if_eq C (tgt := 18) dX12_report_11 (by decide) (fun c8 => ?_) (fun c8 => ?_)
  · have hf := it_s c8 hf
    refine b_sub [(0, .ref (ad B x0)), (1, .int x1), (2, .int x2)] [0, 1, 2] rfl ?_
    exact tX12_report_18 C hr hlocks hf
  · have hf := if_s c8 hf
    refine b_iload_n C dX12_report_14 2 rfl rfl ?_
    refine b_if_ge C (tgt := 20) dX12_report_15 (by decide) (fun c9 => ?_) (fun c9 => ?_)
    · have hf := it_s c9 hf
      refine b_aload_n C dX12_report_20 0 rfl rfl ?_
      refine b_iload_n C dX12_report_21 1 rfl rfl ?_
      obtain ⟨u12, d10, k11, hf⟩ := cb_s hf
      refine b_cVI C [] dX12_report_22 (kX12_reportAt l D cy B k11) lv_X12_311 ⟨rfl, rfl, Nat.le_of_ble_eq_true rfl, Nat.le_of_ble_eq_true rfl⟩ h1 (by decide) rfl (Nat.le_of_ble_eq_true rfl) ⟨Nat.zero_le _, Nat.zero_le _⟩ rfl ?_
      refine b_istore_n C dX12_report_25 rfl [(3, .int u12), (0, .ref (ad B x0)), (1, .int x1), (2, .int x2)] (by decide) rfl ?_
      refine b_iload_n C dX12_report_26 3 rfl rfl ?_
      refine b_iconst C (v := 3) dX12_report_27 (by decide) ?_
      refine b_icmp_ge C (tgt := 42) dX12_report_28 (by decide) (fun c13 => ?_) (fun c13 => ?_)
      · have hf := it_s c13 hf
        refine b_iload_n C dX12_report_42 3 rfl rfl ?_
        refine b_iconst C (v := 3) dX12_report_43 (by decide) ?_
        refine b_isub C dX12_report_44 ?_
        refine b_aload_n C dX12_report_45 1 rfl rfl ?_
        obtain ⟨r14, er14, hf⟩ := ob_s hf
        refine b_gR C dX12_report_46 fl_X12_40 h1 er14 ?_
        refine b_iload_n C dX12_report_49 0 rfl rfl ?_
        refine b_iconst C (v := 2) dX12_report_50 (by decide) ?_
        refine b_iadd C dX12_report_51 ?_
        obtain ⟨h15, hf⟩ := gd_s hf
        obtain ⟨h16, hf⟩ := gd_s hf
        refine b_iald C h15 h16 dX12_report_52 ?_
        refine b_icmp_ge C (tgt := 67) dX12_report_53 (by decide) (fun c17 => ?_) (fun c17 => ?_)
        · have hf := it_s c17 hf
          refine b_iconst C (v := (-1)) dX12_report_67 (by decide) ?_
          refine b_sub [(0, .ref (ad B x0)), (1, .int x1), (2, .int x2)] [1, 2, 3] rfl ?_
          exact tX12_report_68 C hr hlocks hf
        · have hf := if_s c17 hf
          refine b_aload_n C dX12_report_56 1 rfl rfl ?_
          refine b_gR C dX12_report_57 fl_X12_40 h1 er14 ?_
          refine b_iload_n C dX12_report_60 0 rfl rfl ?_
          refine b_iload_n C dX12_report_61 3 rfl rfl ?_
          refine b_iadd C dX12_report_62 ?_
          obtain ⟨h18, hf⟩ := gd_s hf
          refine b_iald C h15 h18 dX12_report_63 ?_
          refine b_goto C (tgt := 68) dX12_report_64 (by decide) ?_
          refine b_sub [(0, .ref (ad B x0)), (1, .int x1), (2, .int x2)] [1, 2, 3] rfl ?_
          exact tX12_report_68 C hr hlocks hf
      · have hf := if_s c13 hf
        refine b_aload_n C dX12_report_31 1 rfl rfl ?_
        obtain ⟨r19, er19, hf⟩ := ob_s hf
        refine b_gR C dX12_report_32 fl_X12_40 h1 er19 ?_
        refine b_iload_n C dX12_report_35 0 rfl rfl ?_
        refine b_iload_n C dX12_report_36 3 rfl rfl ?_
        refine b_iadd C dX12_report_37 ?_
        obtain ⟨h20, hf⟩ := gd_s hf
        obtain ⟨h21, hf⟩ := gd_s hf
        refine b_iald C h20 h21 dX12_report_38 ?_
        refine b_goto C (tgt := 68) dX12_report_39 (by decide) ?_
        refine b_sub [(0, .ref (ad B x0)), (1, .int x1), (2, .int x2)] [1, 2, 3] rfl ?_
        exact tX12_report_68 C hr hlocks hf
    · have hf := if_s c9 hf
      refine b_sub [(0, .ref (ad B x0)), (1, .int x1), (2, .int x2)] [0, 1, 2] rfl ?_
      exact tX12_report_18 C hr hlocks hf
theorem kX12_report (l : Launch) (D : va_G) (cy : Nat → ClassId) (B : Bs) {N : Nat} {g : Gs} {x0 : Nat} {x1 : Int32} {x2 : Int32} {vz : Int32} {dz : Ds} {d : Ds} (hf : fX12_report N g x0 x1 x2 d = some (vz, dz)) : Met l yX12_report (.code yX12_report cX12_report 4 (some .int) :: wl) rmX12_report (PC D cy B [.ref (ad B x0), .int x1, .int x2] g d) (QI D cy B vz g dz) 0 0 (wA B) :=
  met_of (by decide +kernel) (Nat.le_of_ble_eq_true rfl) (fun p e s m args below meth c C hr hlocks _ => b_sub [(0, .ref (ad B x0)), (1, .int x1), (2, .int x2)] [0, 1, 2] rfl (tX12_report_E C hr hlocks hf))
/-! KeyMatrixModel.sent(I)I -/
theorem dX12_sent_0 : decode cX12_sent 0 = .ok (.aload_n 0, 1) := by decide +kernel
theorem dX12_sent_1 : decode cX12_sent 1 = .ok (.invokevirtual 314, 3) := by decide +kernel
theorem dX12_sent_4 : decode cX12_sent 4 = .ok (.iload_n 1, 1) := by decide +kernel
theorem dX12_sent_5 : decode cX12_sent 5 = .ok (.ifCond .ne 10, 3) := by decide +kernel
theorem dX12_sent_8 : decode cX12_sent 8 = .ok (.aload_n 0, 1) := by decide +kernel
theorem dX12_sent_9 : decode cX12_sent 9 = .ok (.getfield 302, 3) := by decide +kernel
theorem dX12_sent_12 : decode cX12_sent 12 = .ok (.goto 47, 3) := by decide +kernel
theorem dX12_sent_15 : decode cX12_sent 15 = .ok (.iload_n 1, 1) := by decide +kernel
theorem dX12_sent_16 : decode cX12_sent 16 = .ok (.iconst 1, 1) := by decide +kernel
theorem dX12_sent_17 : decode cX12_sent 17 = .ok (.if_icmp .ne 10, 3) := by decide +kernel
theorem dX12_sent_20 : decode cX12_sent 20 = .ok (.aload_n 0, 1) := by decide +kernel
theorem dX12_sent_21 : decode cX12_sent 21 = .ok (.getfield 299, 3) := by decide +kernel
theorem dX12_sent_24 : decode cX12_sent 24 = .ok (.goto 35, 3) := by decide +kernel
theorem dX12_sent_27 : decode cX12_sent 27 = .ok (.iload_n 1, 1) := by decide +kernel
theorem dX12_sent_28 : decode cX12_sent 28 = .ok (.iconst 2, 1) := by decide +kernel
theorem dX12_sent_29 : decode cX12_sent 29 = .ok (.isub, 1) := by decide +kernel
theorem dX12_sent_30 : decode cX12_sent 30 = .ok (.iconst 0, 1) := by decide +kernel
theorem dX12_sent_31 : decode cX12_sent 31 = .ok (.aload_n 0, 1) := by decide +kernel
theorem dX12_sent_32 : decode cX12_sent 32 = .ok (.getfield 299, 3) := by decide +kernel
theorem dX12_sent_35 : decode cX12_sent 35 = .ok (.iconst 1, 1) := by decide +kernel
theorem dX12_sent_36 : decode cX12_sent 36 = .ok (.isub, 1) := by decide +kernel
theorem dX12_sent_37 : decode cX12_sent 37 = .ok (.invokestatic 169, 3) := by decide +kernel
theorem dX12_sent_40 : decode cX12_sent 40 = .ok (.ifCond .eq 18, 3) := by decide +kernel
theorem dX12_sent_43 : decode cX12_sent 43 = .ok (.iload_n 1, 1) := by decide +kernel
theorem dX12_sent_44 : decode cX12_sent 44 = .ok (.ifCond .le 14, 3) := by decide +kernel
theorem dX12_sent_47 : decode cX12_sent 47 = .ok (.aload_n 0, 1) := by decide +kernel
theorem dX12_sent_48 : decode cX12_sent 48 = .ok (.getfield 56, 3) := by decide +kernel
theorem dX12_sent_51 : decode cX12_sent 51 = .ok (.iload_n 1, 1) := by decide +kernel
theorem dX12_sent_52 : decode cX12_sent 52 = .ok (.iconst 2, 1) := by decide +kernel
theorem dX12_sent_53 : decode cX12_sent 53 = .ok (.isub, 1) := by decide +kernel
theorem dX12_sent_54 : decode cX12_sent 54 = .ok (.iaload, 1) := by decide +kernel
theorem dX12_sent_55 : decode cX12_sent 55 = .ok (.goto 4, 3) := by decide +kernel
theorem dX12_sent_58 : decode cX12_sent 58 = .ok (.iconst (-1), 1) := by decide +kernel
theorem dX12_sent_59 : decode cX12_sent 59 = .ok (.ireturn, 1) := by decide +kernel
def rmX12_sent : Room := { frames := 2, cells := 0, slots := 0, locals := 46 }
set_option maxRecDepth 100000 in
def fX12_sent_J59 (N : Nat) (g : Gs) (x0 : Nat) (x1 : Int32) (z0 : Int32) (d : Ds) : Option (Int32 × Ds) := some (z0, d)
set_option maxHeartbeats 4000000 in
set_option maxRecDepth 100000 in
theorem tX12_sent_59 {p : Program} {l : Launch} {e : Env} {s : State} {m : MethodId} {args : Array Value} {below : List Frame} {meth : Method} {c : Code} {D : va_G} {cy : Nat → ClassId} {B : Bs} (C : Cx p s m args c cX12_sent 2 RX12 D cy B) (hr : meth.sig.returnType = (some .int)) (hlocks : meth.locks = false) {N : Nat} {g : Gs} {x0 : Nat} {x1 : Int32} {vz : Int32} {dz : Ds} {z0 : Int32} {d : Ds} (hf : fX12_sent_J59 N g x0 x1 z0 d = some (vz, dz)) : WB p l e rmX12_sent s m args below meth c 2 D cy B 0 0 (MQ below (QI D cy B vz g dz) args s 0 0 (wA B)) g d [(0, .ref (ad B x0)), (1, .int x1)] 59 [.int z0] := by
  unfold fX12_sent_J59 at hf
  exact b_iret C hr hlocks hf dX12_sent_59
set_option maxRecDepth 100000 in
def fX12_sent_J58 (N : Nat) (g : Gs) (x0 : Nat) (x1 : Int32) (d : Ds) : Option (Int32 × Ds) := fX12_sent_J59 N g x0 x1 (-1) d
set_option maxHeartbeats 4000000 in
set_option maxRecDepth 100000 in
theorem tX12_sent_58 {p : Program} {l : Launch} {e : Env} {s : State} {m : MethodId} {args : Array Value} {below : List Frame} {meth : Method} {c : Code} {D : va_G} {cy : Nat → ClassId} {B : Bs} (C : Cx p s m args c cX12_sent 2 RX12 D cy B) (hr : meth.sig.returnType = (some .int)) (hlocks : meth.locks = false) {N : Nat} {g : Gs} {x0 : Nat} {x1 : Int32} {vz : Int32} {dz : Ds} {d : Ds} (hf : fX12_sent_J58 N g x0 x1 d = some (vz, dz)) : WB p l e rmX12_sent s m args below meth c 2 D cy B 0 0 (MQ below (QI D cy B vz g dz) args s 0 0 (wA B)) g d [(0, .ref (ad B x0)), (1, .int x1)] 58 [] := by
  unfold fX12_sent_J58 at hf
  refine b_iconst C (v := (-1)) dX12_sent_58 (by decide) ?_
  refine b_sub [(0, .ref (ad B x0)), (1, .int x1)] [0, 1] rfl ?_
  exact tX12_sent_59 C hr hlocks hf
set_option maxRecDepth 100000 in
def fX12_sent (N : Nat) (g : Gs) (x0 : Nat) (x1 : Int32) (d : Ds) : Option (Int32 × Ds) := gd (chk g x0 11) <| cv (fX12_laysSent N g x0 d) fun d2 => (if x1 = 0 then (fX12_sent_J59 N g x0 x1 (dI d2 x0 25) d2) else (if x1 = (1 : Int32) then (fX12_sent_J59 N g x0 x1 (dI d2 x0 26) d2) else (cb (fX12_in N g (x1 - 2) 0 ((dI d2 x0 26) - 1) d2) fun u8 d6 => (if u8 = 0 then (fX12_sent_J58 N g x0 x1 d6) else (if x1 ≤ 0 then (fX12_sent_J58 N g x0 x1 d6) else (ob (gR g x0 27) fun r11 => (gd (chk g r11 102) <| gd (¬ ((x1 - 2) < 0 ∨ gL g r11 ≤ (x1 - 2).toNatClampNeg)) <| fX12_sent_J59 N g x0 x1 (dI d6 r11 (x1 - 2).toNatClampNeg) d6)))))))
set_option maxHeartbeats 4000000 in
set_option maxRecDepth 100000 in
theorem tX12_sent_E {p : Program} {l : Launch} {e : Env} {s : State} {m : MethodId} {args : Array Value} {below : List Frame} {meth : Method} {c : Code} {D : va_G} {cy : Nat → ClassId} {B : Bs} (C : Cx p s m args c cX12_sent 2 RX12 D cy B) (hr : meth.sig.returnType = (some .int)) (hlocks : meth.locks = false) {N : Nat} {g : Gs} {x0 : Nat} {x1 : Int32} {vz : Int32} {dz : Ds} {d : Ds} (hf : fX12_sent N g x0 x1 d = some (vz, dz)) : WB p l e rmX12_sent s m args below meth c 2 D cy B 0 0 (MQ below (QI D cy B vz g dz) args s 0 0 (wA B)) g d [(0, .ref (ad B x0)), (1, .int x1)] 0 [] := by
  unfold fX12_sent at hf
  refine b_aload_n C dX12_sent_0 0 rfl rfl ?_
  obtain ⟨h1, hf⟩ := gd_s hf
  obtain ⟨d2, k3, hf⟩ := cv_s hf
  refine b_cVN C [] dX12_sent_1 (kX12_laysSent l D cy B k3) lv_X12_314 ⟨rfl, rfl, Nat.le_of_ble_eq_true rfl, Nat.le_of_ble_eq_true rfl⟩ h1 (by decide) rfl (Nat.le_of_ble_eq_true rfl) ⟨Nat.zero_le _, Nat.zero_le _⟩ rfl ?_
  refine b_iload_n C dX12_sent_4 1 rfl rfl ?_
  refine b_if_ne C (tgt := 15) dX12_sent_5 (by decide) (fun c4 => ?_) (fun c4 => ?_)
  · have hf := if_s c4 hf
    refine b_iload_n C dX12_sent_15 1 rfl rfl ?_
    refine b_iconst C (v := 1) dX12_sent_16 (by decide) ?_
    refine b_icmp_ne C (tgt := 27) dX12_sent_17 (by decide) (fun c5 => ?_) (fun c5 => ?_)
    · have hf := if_s c5 hf
      refine b_iload_n C dX12_sent_27 1 rfl rfl ?_
      refine b_iconst C (v := 2) dX12_sent_28 (by decide) ?_
      refine b_isub C dX12_sent_29 ?_
      refine b_iconst C (v := 0) dX12_sent_30 (by decide) ?_
      refine b_aload_n C dX12_sent_31 0 rfl rfl ?_
      refine b_gI C dX12_sent_32 fl_X12_299 h1 ?_
      refine b_iconst C (v := 1) dX12_sent_35 (by decide) ?_
      refine b_isub C dX12_sent_36 ?_
      obtain ⟨u8, d6, k7, hf⟩ := cb_s hf
      refine b_cSI C [] dX12_sent_37 (kX12_in l D cy B k7) lv_X12_169 ⟨rfl, rfl, Nat.le_of_ble_eq_true rfl, Nat.le_of_ble_eq_true rfl⟩ rfl (Nat.le_of_ble_eq_true rfl) ⟨Nat.zero_le _, Nat.zero_le _⟩ rfl ?_
      refine b_if_eq C (tgt := 58) dX12_sent_40 (by decide) (fun c9 => ?_) (fun c9 => ?_)
      · have hf := it_s c9 hf
        refine b_sub [(0, .ref (ad B x0)), (1, .int x1)] [0, 1] rfl ?_
        exact tX12_sent_58 C hr hlocks hf
      · have hf := if_s c9 hf
        refine b_iload_n C dX12_sent_43 1 rfl rfl ?_
        refine b_if_le C (tgt := 58) dX12_sent_44 (by decide) (fun c10 => ?_) (fun c10 => ?_)
        · have hf := it_s c10 hf
          refine b_sub [(0, .ref (ad B x0)), (1, .int x1)] [0, 1] rfl ?_
          exact tX12_sent_58 C hr hlocks hf
        · have hf := if_s c10 hf
          refine b_aload_n C dX12_sent_47 0 rfl rfl ?_
          obtain ⟨r11, er11, hf⟩ := ob_s hf
          refine b_gR C dX12_sent_48 fl_X12_56 h1 er11 ?_
          refine b_iload_n C dX12_sent_51 1 rfl rfl ?_
          refine b_iconst C (v := 2) dX12_sent_52 (by decide) ?_
          refine b_isub C dX12_sent_53 ?_
          obtain ⟨h12, hf⟩ := gd_s hf
          obtain ⟨h13, hf⟩ := gd_s hf
          refine b_iald C h12 h13 dX12_sent_54 ?_
          refine b_goto C (tgt := 59) dX12_sent_55 (by decide) ?_
          refine b_sub [(0, .ref (ad B x0)), (1, .int x1)] [0, 1] rfl ?_
          exact tX12_sent_59 C hr hlocks hf
    · have hf := it_s c5 hf
      refine b_aload_n C dX12_sent_20 0 rfl rfl ?_
      refine b_gI C dX12_sent_21 fl_X12_299 h1 ?_
      refine b_goto C (tgt := 59) dX12_sent_24 (by decide) ?_
      refine b_sub [(0, .ref (ad B x0)), (1, .int x1)] [0, 1] rfl ?_
      exact tX12_sent_59 C hr hlocks hf
  · have hf := it_s c4 hf
    refine b_aload_n C dX12_sent_8 0 rfl rfl ?_
    refine b_gI C dX12_sent_9 fl_X12_302 h1 ?_
    refine b_goto C (tgt := 59) dX12_sent_12 (by decide) ?_
    refine b_sub [(0, .ref (ad B x0)), (1, .int x1)] [0, 1] rfl ?_
    exact tX12_sent_59 C hr hlocks hf
theorem kX12_sent (l : Launch) (D : va_G) (cy : Nat → ClassId) (B : Bs) {N : Nat} {g : Gs} {x0 : Nat} {x1 : Int32} {vz : Int32} {dz : Ds} {d : Ds} (hf : fX12_sent N g x0 x1 d = some (vz, dz)) : Met l yX12_sent (.code yX12_sent cX12_sent 2 (some .int) :: wl) rmX12_sent (PC D cy B [.ref (ad B x0), .int x1] g d) (QI D cy B vz g dz) 0 0 (wA B) :=
  met_of (by decide +kernel) (Nat.le_of_ble_eq_true rfl) (fun p e s m args below meth c C hr hlocks _ => b_sub [(0, .ref (ad B x0)), (1, .int x1)] [0, 1] rfl (tX12_sent_E C hr hlocks hf))
/-! KeyMatrixModel.host(I)I -/
theorem dX12_host_0 : decode cX12_host 0 = .ok (.iload_n 1, 1) := by decide +kernel
theorem dX12_host_1 : decode cX12_host 1 = .ok (.tableswitch 67 0 3 #[31, 40, 49, 58], 31) := by decide +kernel
theorem dX12_host_32 : decode cX12_host 32 = .ok (.aload_n 0, 1) := by decide +kernel
theorem dX12_host_33 : decode cX12_host 33 = .ok (.getfield 40, 3) := by decide +kernel
theorem dX12_host_36 : decode cX12_host 36 = .ok (.sipush 455, 3) := by decide +kernel
theorem dX12_host_39 : decode cX12_host 39 = .ok (.iaload, 1) := by decide +kernel
theorem dX12_host_40 : decode cX12_host 40 = .ok (.ireturn, 1) := by decide +kernel
theorem dX12_host_41 : decode cX12_host 41 = .ok (.aload_n 0, 1) := by decide +kernel
theorem dX12_host_42 : decode cX12_host 42 = .ok (.getfield 40, 3) := by decide +kernel
theorem dX12_host_45 : decode cX12_host 45 = .ok (.sipush 456, 3) := by decide +kernel
theorem dX12_host_48 : decode cX12_host 48 = .ok (.iaload, 1) := by decide +kernel
theorem dX12_host_49 : decode cX12_host 49 = .ok (.ireturn, 1) := by decide +kernel
theorem dX12_host_50 : decode cX12_host 50 = .ok (.aload_n 0, 1) := by decide +kernel
theorem dX12_host_51 : decode cX12_host 51 = .ok (.getfield 40, 3) := by decide +kernel
theorem dX12_host_54 : decode cX12_host 54 = .ok (.sipush 457, 3) := by decide +kernel
theorem dX12_host_57 : decode cX12_host 57 = .ok (.iaload, 1) := by decide +kernel
theorem dX12_host_58 : decode cX12_host 58 = .ok (.ireturn, 1) := by decide +kernel
theorem dX12_host_59 : decode cX12_host 59 = .ok (.aload_n 0, 1) := by decide +kernel
theorem dX12_host_60 : decode cX12_host 60 = .ok (.getfield 40, 3) := by decide +kernel
theorem dX12_host_63 : decode cX12_host 63 = .ok (.sipush 458, 3) := by decide +kernel
theorem dX12_host_66 : decode cX12_host 66 = .ok (.iaload, 1) := by decide +kernel
theorem dX12_host_67 : decode cX12_host 67 = .ok (.ireturn, 1) := by decide +kernel
theorem dX12_host_68 : decode cX12_host 68 = .ok (.bipush (-2), 2) := by decide +kernel
theorem dX12_host_70 : decode cX12_host 70 = .ok (.ireturn, 1) := by decide +kernel
def rmX12_host : Room := { frames := 0, cells := 0, slots := 0, locals := 0 }
set_option maxRecDepth 100000 in
def fX12_host (N : Nat) (g : Gs) (x0 : Nat) (x1 : Int32) (d : Ds) : Option (Int32 × Ds) := if x1.toInt < 0 ∨ 3 < x1.toInt then (some ((-2), d)) else if x1 = 0 then (gd (chk g x0 11) <| ob (gR g x0 17) fun r4 => (gd (chk g r4 102) <| gd (¬ ((455 : Int32) < 0 ∨ gL g r4 ≤ (455 : Int32).toNatClampNeg)) <| some ((dI d r4 (455 : Int32).toNatClampNeg), d))) else if x1 = 1 then (gd (chk g x0 11) <| ob (gR g x0 17) fun r9 => (gd (chk g r9 102) <| gd (¬ ((456 : Int32) < 0 ∨ gL g r9 ≤ (456 : Int32).toNatClampNeg)) <| some ((dI d r9 (456 : Int32).toNatClampNeg), d))) else if x1 = 2 then (gd (chk g x0 11) <| ob (gR g x0 17) fun r14 => (gd (chk g r14 102) <| gd (¬ ((457 : Int32) < 0 ∨ gL g r14 ≤ (457 : Int32).toNatClampNeg)) <| some ((dI d r14 (457 : Int32).toNatClampNeg), d))) else if x1 = 3 then (gd (chk g x0 11) <| ob (gR g x0 17) fun r19 => (gd (chk g r19 102) <| gd (¬ ((458 : Int32) < 0 ∨ gL g r19 ≤ (458 : Int32).toNatClampNeg)) <| some ((dI d r19 (458 : Int32).toNatClampNeg), d))) else none
set_option maxHeartbeats 4000000 in
set_option maxRecDepth 100000 in
theorem tX12_host_E {p : Program} {l : Launch} {e : Env} {s : State} {m : MethodId} {args : Array Value} {below : List Frame} {meth : Method} {c : Code} {D : va_G} {cy : Nat → ClassId} {B : Bs} (C : Cx p s m args c cX12_host 2 RX12 D cy B) (hr : meth.sig.returnType = (some .int)) (hlocks : meth.locks = false) {N : Nat} {g : Gs} {x0 : Nat} {x1 : Int32} {vz : Int32} {dz : Ds} {d : Ds} (hf : fX12_host N g x0 x1 d = some (vz, dz)) : WB p l e rmX12_host s m args below meth c 2 D cy B 0 0 (MQ below (QI D cy B vz g dz) args s 0 0 (wA B)) g d [(0, .ref (ad B x0)), (1, .int x1)] 0 [] := by
  unfold fX12_host at hf
  refine b_iload_n C dX12_host_0 1 rfl rfl ?_
  by_cases c1 : x1.toInt < 0 ∨ 3 < x1.toInt
  · have hf := it_s c1 hf
    refine b_tabOut C (tgt := 68) dX12_host_1 c1 (by decide) ?_
    refine b_bipush C (v := (-2)) dX12_host_68 (by decide) ?_
    exact b_iret C hr hlocks hf dX12_host_70
  · have hf := if_s c1 hf
    by_cases c2 : x1 = 0
    · have hf := it_s c2 hf
      refine b_tabIn C (tgt := 32) (off := 31) dX12_host_1 c2 (by decide) (by decide) (by decide) (by decide) ?_
      refine b_aload_n C dX12_host_32 0 rfl rfl ?_
      obtain ⟨h3, hf⟩ := gd_s hf
      obtain ⟨r4, er4, hf⟩ := ob_s hf
      refine b_gR C dX12_host_33 fl_X12_40 h3 er4 ?_
      refine b_sipush C (v := 455) dX12_host_36 (by decide) ?_
      obtain ⟨h5, hf⟩ := gd_s hf
      obtain ⟨h6, hf⟩ := gd_s hf
      refine b_iald C h5 h6 dX12_host_39 ?_
      exact b_iret C hr hlocks hf dX12_host_40
    have hf := if_s c2 hf
    by_cases c7 : x1 = 1
    · have hf := it_s c7 hf
      refine b_tabIn C (tgt := 41) (off := 40) dX12_host_1 c7 (by decide) (by decide) (by decide) (by decide) ?_
      refine b_aload_n C dX12_host_41 0 rfl rfl ?_
      obtain ⟨h8, hf⟩ := gd_s hf
      obtain ⟨r9, er9, hf⟩ := ob_s hf
      refine b_gR C dX12_host_42 fl_X12_40 h8 er9 ?_
      refine b_sipush C (v := 456) dX12_host_45 (by decide) ?_
      obtain ⟨h10, hf⟩ := gd_s hf
      obtain ⟨h11, hf⟩ := gd_s hf
      refine b_iald C h10 h11 dX12_host_48 ?_
      exact b_iret C hr hlocks hf dX12_host_49
    have hf := if_s c7 hf
    by_cases c12 : x1 = 2
    · have hf := it_s c12 hf
      refine b_tabIn C (tgt := 50) (off := 49) dX12_host_1 c12 (by decide) (by decide) (by decide) (by decide) ?_
      refine b_aload_n C dX12_host_50 0 rfl rfl ?_
      obtain ⟨h13, hf⟩ := gd_s hf
      obtain ⟨r14, er14, hf⟩ := ob_s hf
      refine b_gR C dX12_host_51 fl_X12_40 h13 er14 ?_
      refine b_sipush C (v := 457) dX12_host_54 (by decide) ?_
      obtain ⟨h15, hf⟩ := gd_s hf
      obtain ⟨h16, hf⟩ := gd_s hf
      refine b_iald C h15 h16 dX12_host_57 ?_
      exact b_iret C hr hlocks hf dX12_host_58
    have hf := if_s c12 hf
    by_cases c17 : x1 = 3
    · have hf := it_s c17 hf
      refine b_tabIn C (tgt := 59) (off := 58) dX12_host_1 c17 (by decide) (by decide) (by decide) (by decide) ?_
      refine b_aload_n C dX12_host_59 0 rfl rfl ?_
      obtain ⟨h18, hf⟩ := gd_s hf
      obtain ⟨r19, er19, hf⟩ := ob_s hf
      refine b_gR C dX12_host_60 fl_X12_40 h18 er19 ?_
      refine b_sipush C (v := 458) dX12_host_63 (by decide) ?_
      obtain ⟨h20, hf⟩ := gd_s hf
      obtain ⟨h21, hf⟩ := gd_s hf
      refine b_iald C h20 h21 dX12_host_66 ?_
      exact b_iret C hr hlocks hf dX12_host_67
    have hf := if_s c17 hf
    cases hf
theorem kX12_host (l : Launch) (D : va_G) (cy : Nat → ClassId) (B : Bs) {N : Nat} {g : Gs} {x0 : Nat} {x1 : Int32} {vz : Int32} {dz : Ds} {d : Ds} (hf : fX12_host N g x0 x1 d = some (vz, dz)) : Met l yX12_host (.code yX12_host cX12_host 2 (some .int) :: wl) rmX12_host (PC D cy B [.ref (ad B x0), .int x1] g d) (QI D cy B vz g dz) 0 0 (wA B) :=
  met_of (by decide +kernel) (Nat.le_of_ble_eq_true rfl) (fun p e s m args below meth c C hr hlocks _ => b_sub [(0, .ref (ad B x0)), (1, .int x1)] [0, 1] rfl (tX12_host_E C hr hlocks hf))
/-! KeyMatrixModel.strokes(II)I -/
theorem dX12_strokes_0 : decode cX12_strokes 0 = .ok (.aload_n 0, 1) := by decide +kernel
theorem dX12_strokes_1 : decode cX12_strokes 1 = .ok (.iload_n 1, 1) := by decide +kernel
theorem dX12_strokes_2 : decode cX12_strokes 2 = .ok (.invokevirtual 220, 3) := by decide +kernel
theorem dX12_strokes_5 : decode cX12_strokes 5 = .ok (.ifCond .ne 6, 3) := by decide +kernel
theorem dX12_strokes_8 : decode cX12_strokes 8 = .ok (.bipush (-2), 2) := by decide +kernel
theorem dX12_strokes_10 : decode cX12_strokes 10 = .ok (.ireturn, 1) := by decide +kernel
theorem dX12_strokes_11 : decode cX12_strokes 11 = .ok (.iload_n 2, 1) := by decide +kernel
theorem dX12_strokes_12 : decode cX12_strokes 12 = .ok (.ifCond .ne 16, 3) := by decide +kernel
theorem dX12_strokes_15 : decode cX12_strokes 15 = .ok (.aload_n 0, 1) := by decide +kernel
theorem dX12_strokes_16 : decode cX12_strokes 16 = .ok (.getfield 40, 3) := by decide +kernel
theorem dX12_strokes_19 : decode cX12_strokes 19 = .ok (.sipush 459, 3) := by decide +kernel
theorem dX12_strokes_22 : decode cX12_strokes 22 = .ok (.iload_n 1, 1) := by decide +kernel
theorem dX12_strokes_23 : decode cX12_strokes 23 = .ok (.iadd, 1) := by decide +kernel
theorem dX12_strokes_24 : decode cX12_strokes 24 = .ok (.iaload, 1) := by decide +kernel
theorem dX12_strokes_25 : decode cX12_strokes 25 = .ok (.goto 41, 3) := by decide +kernel
theorem dX12_strokes_28 : decode cX12_strokes 28 = .ok (.iload_n 2, 1) := by decide +kernel
theorem dX12_strokes_29 : decode cX12_strokes 29 = .ok (.iconst 1, 1) := by decide +kernel
theorem dX12_strokes_30 : decode cX12_strokes 30 = .ok (.if_icmp .ne 16, 3) := by decide +kernel
theorem dX12_strokes_33 : decode cX12_strokes 33 = .ok (.aload_n 0, 1) := by decide +kernel
theorem dX12_strokes_34 : decode cX12_strokes 34 = .ok (.getfield 40, 3) := by decide +kernel
theorem dX12_strokes_37 : decode cX12_strokes 37 = .ok (.sipush 483, 3) := by decide +kernel
theorem dX12_strokes_40 : decode cX12_strokes 40 = .ok (.iload_n 1, 1) := by decide +kernel
theorem dX12_strokes_41 : decode cX12_strokes 41 = .ok (.iadd, 1) := by decide +kernel
theorem dX12_strokes_42 : decode cX12_strokes 42 = .ok (.iaload, 1) := by decide +kernel
theorem dX12_strokes_43 : decode cX12_strokes 43 = .ok (.goto 23, 3) := by decide +kernel
theorem dX12_strokes_46 : decode cX12_strokes 46 = .ok (.iload_n 2, 1) := by decide +kernel
theorem dX12_strokes_47 : decode cX12_strokes 47 = .ok (.iconst 2, 1) := by decide +kernel
theorem dX12_strokes_48 : decode cX12_strokes 48 = .ok (.if_icmp .ne 16, 3) := by decide +kernel
theorem dX12_strokes_51 : decode cX12_strokes 51 = .ok (.aload_n 0, 1) := by decide +kernel
theorem dX12_strokes_52 : decode cX12_strokes 52 = .ok (.getfield 40, 3) := by decide +kernel
theorem dX12_strokes_55 : decode cX12_strokes 55 = .ok (.sipush 507, 3) := by decide +kernel
theorem dX12_strokes_58 : decode cX12_strokes 58 = .ok (.iload_n 1, 1) := by decide +kernel
theorem dX12_strokes_59 : decode cX12_strokes 59 = .ok (.iadd, 1) := by decide +kernel
theorem dX12_strokes_60 : decode cX12_strokes 60 = .ok (.iaload, 1) := by decide +kernel
theorem dX12_strokes_61 : decode cX12_strokes 61 = .ok (.goto 5, 3) := by decide +kernel
theorem dX12_strokes_64 : decode cX12_strokes 64 = .ok (.bipush (-2), 2) := by decide +kernel
theorem dX12_strokes_66 : decode cX12_strokes 66 = .ok (.ireturn, 1) := by decide +kernel
def rmX12_strokes : Room := { frames := 2, cells := 0, slots := 0, locals := 43 }
set_option maxRecDepth 100000 in
def fX12_strokes_J66 (N : Nat) (g : Gs) (x0 : Nat) (x1 : Int32) (x2 : Int32) (z0 : Int32) (d : Ds) : Option (Int32 × Ds) := some (z0, d)
set_option maxHeartbeats 4000000 in
set_option maxRecDepth 100000 in
theorem tX12_strokes_66 {p : Program} {l : Launch} {e : Env} {s : State} {m : MethodId} {args : Array Value} {below : List Frame} {meth : Method} {c : Code} {D : va_G} {cy : Nat → ClassId} {B : Bs} (C : Cx p s m args c cX12_strokes 3 RX12 D cy B) (hr : meth.sig.returnType = (some .int)) (hlocks : meth.locks = false) {N : Nat} {g : Gs} {x0 : Nat} {x1 : Int32} {x2 : Int32} {vz : Int32} {dz : Ds} {z0 : Int32} {d : Ds} (hf : fX12_strokes_J66 N g x0 x1 x2 z0 d = some (vz, dz)) : WB p l e rmX12_strokes s m args below meth c 3 D cy B 0 0 (MQ below (QI D cy B vz g dz) args s 0 0 (wA B)) g d [(0, .ref (ad B x0)), (1, .int x1), (2, .int x2)] 66 [.int z0] := by
  unfold fX12_strokes_J66 at hf
  exact b_iret C hr hlocks hf dX12_strokes_66
set_option maxRecDepth 100000 in
def fX12_strokes (N : Nat) (g : Gs) (x0 : Nat) (x1 : Int32) (x2 : Int32) (d : Ds) : Option (Int32 × Ds) := gd (chk g x0 11) <| cb (fX12_isKey N g x0 x1 d) fun u4 d2 => (if u4 = 0 then (some ((-2), d2)) else (if x2 = 0 then (ob (gR g x0 17) fun r15 => (gd (chk g r15 102) <| gd (¬ (((459 : Int32) + x1) < 0 ∨ gL g r15 ≤ ((459 : Int32) + x1).toNatClampNeg)) <| fX12_strokes_J66 N g x0 x1 x2 (dI d2 r15 ((459 : Int32) + x1).toNatClampNeg) d2)) else (if x2 = (1 : Int32) then (ob (gR g x0 17) fun r12 => (gd (chk g r12 102) <| gd (¬ (((483 : Int32) + x1) < 0 ∨ gL g r12 ≤ ((483 : Int32) + x1).toNatClampNeg)) <| fX12_strokes_J66 N g x0 x1 x2 (dI d2 r12 ((483 : Int32) + x1).toNatClampNeg) d2)) else (if x2 = (2 : Int32) then (ob (gR g x0 17) fun r9 => (gd (chk g r9 102) <| gd (¬ (((507 : Int32) + x1) < 0 ∨ gL g r9 ≤ ((507 : Int32) + x1).toNatClampNeg)) <| fX12_strokes_J66 N g x0 x1 x2 (dI d2 r9 ((507 : Int32) + x1).toNatClampNeg) d2)) else (fX12_strokes_J66 N g x0 x1 x2 (-2) d2)))))
set_option maxHeartbeats 4000000 in
set_option maxRecDepth 100000 in
theorem tX12_strokes_E {p : Program} {l : Launch} {e : Env} {s : State} {m : MethodId} {args : Array Value} {below : List Frame} {meth : Method} {c : Code} {D : va_G} {cy : Nat → ClassId} {B : Bs} (C : Cx p s m args c cX12_strokes 3 RX12 D cy B) (hr : meth.sig.returnType = (some .int)) (hlocks : meth.locks = false) {N : Nat} {g : Gs} {x0 : Nat} {x1 : Int32} {x2 : Int32} {vz : Int32} {dz : Ds} {d : Ds} (hf : fX12_strokes N g x0 x1 x2 d = some (vz, dz)) : WB p l e rmX12_strokes s m args below meth c 3 D cy B 0 0 (MQ below (QI D cy B vz g dz) args s 0 0 (wA B)) g d [(0, .ref (ad B x0)), (1, .int x1), (2, .int x2)] 0 [] := by
  unfold fX12_strokes at hf
  refine b_aload_n C dX12_strokes_0 0 rfl rfl ?_
  refine b_iload_n C dX12_strokes_1 1 rfl rfl ?_
  obtain ⟨h1, hf⟩ := gd_s hf
  obtain ⟨u4, d2, k3, hf⟩ := cb_s hf
  refine b_cVI C [] dX12_strokes_2 (kX12_isKey l D cy B k3) lv_X12_220 ⟨rfl, rfl, Nat.le_of_ble_eq_true rfl, Nat.le_of_ble_eq_true rfl⟩ h1 (by decide) rfl (Nat.le_of_ble_eq_true rfl) ⟨Nat.zero_le _, Nat.zero_le _⟩ rfl ?_
  refine b_if_ne C (tgt := 11) dX12_strokes_5 (by decide) (fun c5 => ?_) (fun c5 => ?_)
  · have hf := if_s c5 hf
    refine b_iload_n C dX12_strokes_11 2 rfl rfl ?_
    refine b_if_ne C (tgt := 28) dX12_strokes_12 (by decide) (fun c6 => ?_) (fun c6 => ?_)
    · have hf := if_s c6 hf
      refine b_iload_n C dX12_strokes_28 2 rfl rfl ?_
      refine b_iconst C (v := 1) dX12_strokes_29 (by decide) ?_
      refine b_icmp_ne C (tgt := 46) dX12_strokes_30 (by decide) (fun c7 => ?_) (fun c7 => ?_)
      · have hf := if_s c7 hf
        refine b_iload_n C dX12_strokes_46 2 rfl rfl ?_
        refine b_iconst C (v := 2) dX12_strokes_47 (by decide) ?_
        refine b_icmp_ne C (tgt := 64) dX12_strokes_48 (by decide) (fun c8 => ?_) (fun c8 => ?_)
        · have hf := if_s c8 hf
          refine b_bipush C (v := (-2)) dX12_strokes_64 (by decide) ?_
          refine b_sub [(0, .ref (ad B x0)), (1, .int x1), (2, .int x2)] [0, 1, 2] rfl ?_
          exact tX12_strokes_66 C hr hlocks hf
        · have hf := it_s c8 hf
          refine b_aload_n C dX12_strokes_51 0 rfl rfl ?_
          obtain ⟨r9, er9, hf⟩ := ob_s hf
          refine b_gR C dX12_strokes_52 fl_X12_40 h1 er9 ?_
          refine b_sipush C (v := 507) dX12_strokes_55 (by decide) ?_
          refine b_iload_n C dX12_strokes_58 1 rfl rfl ?_
          refine b_iadd C dX12_strokes_59 ?_
          obtain ⟨h10, hf⟩ := gd_s hf
          obtain ⟨h11, hf⟩ := gd_s hf
          refine b_iald C h10 h11 dX12_strokes_60 ?_
          refine b_goto C (tgt := 66) dX12_strokes_61 (by decide) ?_
          refine b_sub [(0, .ref (ad B x0)), (1, .int x1), (2, .int x2)] [0, 1, 2] rfl ?_
          exact tX12_strokes_66 C hr hlocks hf
      · have hf := it_s c7 hf
        refine b_aload_n C dX12_strokes_33 0 rfl rfl ?_
        obtain ⟨r12, er12, hf⟩ := ob_s hf
        refine b_gR C dX12_strokes_34 fl_X12_40 h1 er12 ?_
        refine b_sipush C (v := 483) dX12_strokes_37 (by decide) ?_
        refine b_iload_n C dX12_strokes_40 1 rfl rfl ?_
        refine b_iadd C dX12_strokes_41 ?_
        obtain ⟨h13, hf⟩ := gd_s hf
        obtain ⟨h14, hf⟩ := gd_s hf
        refine b_iald C h13 h14 dX12_strokes_42 ?_
        refine b_goto C (tgt := 66) dX12_strokes_43 (by decide) ?_
        refine b_sub [(0, .ref (ad B x0)), (1, .int x1), (2, .int x2)] [0, 1, 2] rfl ?_
        exact tX12_strokes_66 C hr hlocks hf
    · have hf := it_s c6 hf
      refine b_aload_n C dX12_strokes_15 0 rfl rfl ?_
      obtain ⟨r15, er15, hf⟩ := ob_s hf
      refine b_gR C dX12_strokes_16 fl_X12_40 h1 er15 ?_
      refine b_sipush C (v := 459) dX12_strokes_19 (by decide) ?_
      refine b_iload_n C dX12_strokes_22 1 rfl rfl ?_
      refine b_iadd C dX12_strokes_23 ?_
      obtain ⟨h16, hf⟩ := gd_s hf
      obtain ⟨h17, hf⟩ := gd_s hf
      refine b_iald C h16 h17 dX12_strokes_24 ?_
      refine b_goto C (tgt := 66) dX12_strokes_25 (by decide) ?_
      refine b_sub [(0, .ref (ad B x0)), (1, .int x1), (2, .int x2)] [0, 1, 2] rfl ?_
      exact tX12_strokes_66 C hr hlocks hf
  · have hf := it_s c5 hf
    refine b_bipush C (v := (-2)) dX12_strokes_8 (by decide) ?_
    exact b_iret C hr hlocks hf dX12_strokes_10
theorem kX12_strokes (l : Launch) (D : va_G) (cy : Nat → ClassId) (B : Bs) {N : Nat} {g : Gs} {x0 : Nat} {x1 : Int32} {x2 : Int32} {vz : Int32} {dz : Ds} {d : Ds} (hf : fX12_strokes N g x0 x1 x2 d = some (vz, dz)) : Met l yX12_strokes (.code yX12_strokes cX12_strokes 3 (some .int) :: wl) rmX12_strokes (PC D cy B [.ref (ad B x0), .int x1, .int x2] g d) (QI D cy B vz g dz) 0 0 (wA B) :=
  met_of (by decide +kernel) (Nat.le_of_ble_eq_true rfl) (fun p e s m args below meth c C hr hlocks _ => b_sub [(0, .ref (ad B x0)), (1, .int x1), (2, .int x2)] [0, 1, 2] rfl (tX12_strokes_E C hr hlocks hf))
/-! KeyMatrixModel.chord(II)I -/
theorem dX12_chord_0 : decode cX12_chord 0 = .ok (.iload_n 1, 1) := by decide +kernel
theorem dX12_chord_1 : decode cX12_chord 1 = .ok (.iconst (-1), 1) := by decide +kernel
theorem dX12_chord_2 : decode cX12_chord 2 = .ok (.if_icmp .ne 11, 3) := by decide +kernel
theorem dX12_chord_5 : decode cX12_chord 5 = .ok (.aload_n 0, 1) := by decide +kernel
theorem dX12_chord_6 : decode cX12_chord 6 = .ok (.getfield 40, 3) := by decide +kernel
theorem dX12_chord_9 : decode cX12_chord 9 = .ok (.bipush 10, 2) := by decide +kernel
theorem dX12_chord_11 : decode cX12_chord 11 = .ok (.iaload, 1) := by decide +kernel
theorem dX12_chord_12 : decode cX12_chord 12 = .ok (.ireturn, 1) := by decide +kernel
theorem dX12_chord_13 : decode cX12_chord 13 = .ok (.iload_n 1, 1) := by decide +kernel
theorem dX12_chord_14 : decode cX12_chord 14 = .ok (.iconst 0, 1) := by decide +kernel
theorem dX12_chord_15 : decode cX12_chord 15 = .ok (.aload_n 0, 1) := by decide +kernel
theorem dX12_chord_16 : decode cX12_chord 16 = .ok (.getfield 40, 3) := by decide +kernel
theorem dX12_chord_19 : decode cX12_chord 19 = .ok (.bipush 10, 2) := by decide +kernel
theorem dX12_chord_21 : decode cX12_chord 21 = .ok (.iaload, 1) := by decide +kernel
theorem dX12_chord_22 : decode cX12_chord 22 = .ok (.iconst 1, 1) := by decide +kernel
theorem dX12_chord_23 : decode cX12_chord 23 = .ok (.isub, 1) := by decide +kernel
theorem dX12_chord_24 : decode cX12_chord 24 = .ok (.invokestatic 169, 3) := by decide +kernel
theorem dX12_chord_27 : decode cX12_chord 27 = .ok (.ifCond .eq 12, 3) := by decide +kernel
theorem dX12_chord_30 : decode cX12_chord 30 = .ok (.iload_n 2, 1) := by decide +kernel
theorem dX12_chord_31 : decode cX12_chord 31 = .ok (.iconst 0, 1) := by decide +kernel
theorem dX12_chord_32 : decode cX12_chord 32 = .ok (.iconst 2, 1) := by decide +kernel
theorem dX12_chord_33 : decode cX12_chord 33 = .ok (.invokestatic 169, 3) := by decide +kernel
theorem dX12_chord_36 : decode cX12_chord 36 = .ok (.ifCond .ne 5, 3) := by decide +kernel
theorem dX12_chord_39 : decode cX12_chord 39 = .ok (.iconst (-1), 1) := by decide +kernel
theorem dX12_chord_40 : decode cX12_chord 40 = .ok (.ireturn, 1) := by decide +kernel
theorem dX12_chord_41 : decode cX12_chord 41 = .ok (.iload_n 2, 1) := by decide +kernel
theorem dX12_chord_42 : decode cX12_chord 42 = .ok (.iconst 2, 1) := by decide +kernel
theorem dX12_chord_43 : decode cX12_chord 43 = .ok (.if_icmp .ge 20, 3) := by decide +kernel
theorem dX12_chord_46 : decode cX12_chord 46 = .ok (.aload_n 0, 1) := by decide +kernel
theorem dX12_chord_47 : decode cX12_chord 47 = .ok (.getfield 40, 3) := by decide +kernel
theorem dX12_chord_50 : decode cX12_chord 50 = .ok (.sipush 300, 3) := by decide +kernel
theorem dX12_chord_53 : decode cX12_chord 53 = .ok (.iconst 4, 1) := by decide +kernel
theorem dX12_chord_54 : decode cX12_chord 54 = .ok (.iload_n 1, 1) := by decide +kernel
theorem dX12_chord_55 : decode cX12_chord 55 = .ok (.imul, 1) := by decide +kernel
theorem dX12_chord_56 : decode cX12_chord 56 = .ok (.iadd, 1) := by decide +kernel
theorem dX12_chord_57 : decode cX12_chord 57 = .ok (.iload_n 2, 1) := by decide +kernel
theorem dX12_chord_58 : decode cX12_chord 58 = .ok (.iadd, 1) := by decide +kernel
theorem dX12_chord_59 : decode cX12_chord 59 = .ok (.iaload, 1) := by decide +kernel
theorem dX12_chord_60 : decode cX12_chord 60 = .ok (.goto 15, 3) := by decide +kernel
theorem dX12_chord_63 : decode cX12_chord 63 = .ok (.aload_n 0, 1) := by decide +kernel
theorem dX12_chord_64 : decode cX12_chord 64 = .ok (.getfield 40, 3) := by decide +kernel
theorem dX12_chord_67 : decode cX12_chord 67 = .ok (.sipush 453, 3) := by decide +kernel
theorem dX12_chord_70 : decode cX12_chord 70 = .ok (.iaload, 1) := by decide +kernel
theorem dX12_chord_71 : decode cX12_chord 71 = .ok (.iload_n 1, 1) := by decide +kernel
theorem dX12_chord_72 : decode cX12_chord 72 = .ok (.ishr, 1) := by decide +kernel
theorem dX12_chord_73 : decode cX12_chord 73 = .ok (.iconst 1, 1) := by decide +kernel
theorem dX12_chord_74 : decode cX12_chord 74 = .ok (.iand, 1) := by decide +kernel
theorem dX12_chord_75 : decode cX12_chord 75 = .ok (.ireturn, 1) := by decide +kernel
def rmX12_chord : Room := { frames := 1, cells := 0, slots := 0, locals := 22 }
set_option maxRecDepth 100000 in
def fX12_chord_J39 (N : Nat) (g : Gs) (x0 : Nat) (x1 : Int32) (x2 : Int32) (d : Ds) : Option (Int32 × Ds) := some ((-1), d)
set_option maxHeartbeats 4000000 in
set_option maxRecDepth 100000 in
theorem tX12_chord_39 {p : Program} {l : Launch} {e : Env} {s : State} {m : MethodId} {args : Array Value} {below : List Frame} {meth : Method} {c : Code} {D : va_G} {cy : Nat → ClassId} {B : Bs} (C : Cx p s m args c cX12_chord 3 RX12 D cy B) (hr : meth.sig.returnType = (some .int)) (hlocks : meth.locks = false) {N : Nat} {g : Gs} {x0 : Nat} {x1 : Int32} {x2 : Int32} {vz : Int32} {dz : Ds} {d : Ds} (hf : fX12_chord_J39 N g x0 x1 x2 d = some (vz, dz)) : WB p l e rmX12_chord s m args below meth c 3 D cy B 0 0 (MQ below (QI D cy B vz g dz) args s 0 0 (wA B)) g d [(0, .ref (ad B x0)), (1, .int x1), (2, .int x2)] 39 [] := by
  unfold fX12_chord_J39 at hf
  refine b_iconst C (v := (-1)) dX12_chord_39 (by decide) ?_
  exact b_iret C hr hlocks hf dX12_chord_40
set_option maxRecDepth 100000 in
def fX12_chord_J75 (N : Nat) (g : Gs) (x0 : Nat) (x1 : Int32) (x2 : Int32) (z0 : Int32) (d : Ds) : Option (Int32 × Ds) := some (z0, d)
set_option maxHeartbeats 4000000 in
set_option maxRecDepth 100000 in
theorem tX12_chord_75 {p : Program} {l : Launch} {e : Env} {s : State} {m : MethodId} {args : Array Value} {below : List Frame} {meth : Method} {c : Code} {D : va_G} {cy : Nat → ClassId} {B : Bs} (C : Cx p s m args c cX12_chord 3 RX12 D cy B) (hr : meth.sig.returnType = (some .int)) (hlocks : meth.locks = false) {N : Nat} {g : Gs} {x0 : Nat} {x1 : Int32} {x2 : Int32} {vz : Int32} {dz : Ds} {z0 : Int32} {d : Ds} (hf : fX12_chord_J75 N g x0 x1 x2 z0 d = some (vz, dz)) : WB p l e rmX12_chord s m args below meth c 3 D cy B 0 0 (MQ below (QI D cy B vz g dz) args s 0 0 (wA B)) g d [(0, .ref (ad B x0)), (1, .int x1), (2, .int x2)] 75 [.int z0] := by
  unfold fX12_chord_J75 at hf
  exact b_iret C hr hlocks hf dX12_chord_75
set_option maxRecDepth 100000 in
def fX12_chord (N : Nat) (g : Gs) (x0 : Nat) (x1 : Int32) (x2 : Int32) (d : Ds) : Option (Int32 × Ds) := if x1 = (-1 : Int32) then (gd (chk g x0 11) <| ob (gR g x0 17) fun r18 => (gd (chk g r18 102) <| gd (¬ ((10 : Int32) < 0 ∨ gL g r18 ≤ (10 : Int32).toNatClampNeg)) <| some ((dI d r18 (10 : Int32).toNatClampNeg), d))) else (gd (chk g x0 11) <| ob (gR g x0 17) fun r3 => (gd (chk g r3 102) <| gd (¬ ((10 : Int32) < 0 ∨ gL g r3 ≤ (10 : Int32).toNatClampNeg)) <| cb (fX12_in N g x1 0 ((dI d r3 (10 : Int32).toNatClampNeg) - 1) d) fun u8 d6 => (if u8 = 0 then (fX12_chord_J39 N g x0 x1 x2 d6) else (cb (fX12_in N g x2 0 2 d6) fun u12 d10 => (if u12 = 0 then (fX12_chord_J39 N g x0 x1 x2 d10) else (if (2 : Int32) ≤ x2 then (gd (¬ ((453 : Int32) < 0 ∨ gL g r3 ≤ (453 : Int32).toNatClampNeg)) <| fX12_chord_J75 N g x0 x1 x2 (((dI d10 r3 (453 : Int32).toNatClampNeg) >>> (x1 &&& 31)) &&& 1) d10) else (gd (¬ ((((300 : Int32) + ((4 : Int32) * x1)) + x2) < 0 ∨ gL g r3 ≤ (((300 : Int32) + ((4 : Int32) * x1)) + x2).toNatClampNeg)) <| fX12_chord_J75 N g x0 x1 x2 (dI d10 r3 (((300 : Int32) + ((4 : Int32) * x1)) + x2).toNatClampNeg) d10)))))))
set_option maxHeartbeats 4000000 in
set_option maxRecDepth 100000 in
theorem tX12_chord_E {p : Program} {l : Launch} {e : Env} {s : State} {m : MethodId} {args : Array Value} {below : List Frame} {meth : Method} {c : Code} {D : va_G} {cy : Nat → ClassId} {B : Bs} (C : Cx p s m args c cX12_chord 3 RX12 D cy B) (hr : meth.sig.returnType = (some .int)) (hlocks : meth.locks = false) {N : Nat} {g : Gs} {x0 : Nat} {x1 : Int32} {x2 : Int32} {vz : Int32} {dz : Ds} {d : Ds} (hf : fX12_chord N g x0 x1 x2 d = some (vz, dz)) : WB p l e rmX12_chord s m args below meth c 3 D cy B 0 0 (MQ below (QI D cy B vz g dz) args s 0 0 (wA B)) g d [(0, .ref (ad B x0)), (1, .int x1), (2, .int x2)] 0 [] := by
  unfold fX12_chord at hf
  refine b_iload_n C dX12_chord_0 1 rfl rfl ?_
  refine b_iconst C (v := (-1)) dX12_chord_1 (by decide) ?_
  refine b_icmp_ne C (tgt := 13) dX12_chord_2 (by decide) (fun c1 => ?_) (fun c1 => ?_)
  · have hf := if_s c1 hf
    refine b_iload_n C dX12_chord_13 1 rfl rfl ?_
    refine b_iconst C (v := 0) dX12_chord_14 (by decide) ?_
    refine b_aload_n C dX12_chord_15 0 rfl rfl ?_
    obtain ⟨h2, hf⟩ := gd_s hf
    obtain ⟨r3, er3, hf⟩ := ob_s hf
    refine b_gR C dX12_chord_16 fl_X12_40 h2 er3 ?_
    refine b_bipush C (v := 10) dX12_chord_19 (by decide) ?_
    obtain ⟨h4, hf⟩ := gd_s hf
    obtain ⟨h5, hf⟩ := gd_s hf
    refine b_iald C h4 h5 dX12_chord_21 ?_
    refine b_iconst C (v := 1) dX12_chord_22 (by decide) ?_
    refine b_isub C dX12_chord_23 ?_
    obtain ⟨u8, d6, k7, hf⟩ := cb_s hf
    refine b_cSI C [] dX12_chord_24 (kX12_in l D cy B k7) lv_X12_169 ⟨rfl, rfl, Nat.le_of_ble_eq_true rfl, Nat.le_of_ble_eq_true rfl⟩ rfl (Nat.le_of_ble_eq_true rfl) ⟨Nat.zero_le _, Nat.zero_le _⟩ rfl ?_
    refine b_if_eq C (tgt := 39) dX12_chord_27 (by decide) (fun c9 => ?_) (fun c9 => ?_)
    · have hf := it_s c9 hf
      refine b_sub [(0, .ref (ad B x0)), (1, .int x1), (2, .int x2)] [0, 1, 2] rfl ?_
      exact tX12_chord_39 C hr hlocks hf
    · have hf := if_s c9 hf
      refine b_iload_n C dX12_chord_30 2 rfl rfl ?_
      refine b_iconst C (v := 0) dX12_chord_31 (by decide) ?_
      refine b_iconst C (v := 2) dX12_chord_32 (by decide) ?_
      obtain ⟨u12, d10, k11, hf⟩ := cb_s hf
      refine b_cSI C [] dX12_chord_33 (kX12_in l D cy B k11) lv_X12_169 ⟨rfl, rfl, Nat.le_of_ble_eq_true rfl, Nat.le_of_ble_eq_true rfl⟩ rfl (Nat.le_of_ble_eq_true rfl) ⟨Nat.zero_le _, Nat.zero_le _⟩ rfl ?_
      refine b_if_ne C (tgt := 41) dX12_chord_36 (by decide) (fun c13 => ?_) (fun c13 => ?_)
      · have hf := if_s c13 hf
        refine b_iload_n C dX12_chord_41 2 rfl rfl ?_
        refine b_iconst C (v := 2) dX12_chord_42 (by decide) ?_
        refine b_icmp_ge C (tgt := 63) dX12_chord_43 (by decide) (fun c14 => ?_) (fun c14 => ?_)
        · have hf := it_s c14 hf
          refine b_aload_n C dX12_chord_63 0 rfl rfl ?_
          refine b_gR C dX12_chord_64 fl_X12_40 h2 er3 ?_
          refine b_sipush C (v := 453) dX12_chord_67 (by decide) ?_
          obtain ⟨h15, hf⟩ := gd_s hf
          refine b_iald C h4 h15 dX12_chord_70 ?_
          refine b_iload_n C dX12_chord_71 1 rfl rfl ?_
          refine b_ishr C dX12_chord_72 ?_
          refine b_iconst C (v := 1) dX12_chord_73 (by decide) ?_
          refine b_iand C dX12_chord_74 ?_
          refine b_sub [(0, .ref (ad B x0)), (1, .int x1), (2, .int x2)] [0, 1, 2] rfl ?_
          exact tX12_chord_75 C hr hlocks hf
        · have hf := if_s c14 hf
          refine b_aload_n C dX12_chord_46 0 rfl rfl ?_
          refine b_gR C dX12_chord_47 fl_X12_40 h2 er3 ?_
          refine b_sipush C (v := 300) dX12_chord_50 (by decide) ?_
          refine b_iconst C (v := 4) dX12_chord_53 (by decide) ?_
          refine b_iload_n C dX12_chord_54 1 rfl rfl ?_
          refine b_imul C dX12_chord_55 ?_
          refine b_iadd C dX12_chord_56 ?_
          refine b_iload_n C dX12_chord_57 2 rfl rfl ?_
          refine b_iadd C dX12_chord_58 ?_
          obtain ⟨h16, hf⟩ := gd_s hf
          refine b_iald C h4 h16 dX12_chord_59 ?_
          refine b_goto C (tgt := 75) dX12_chord_60 (by decide) ?_
          refine b_sub [(0, .ref (ad B x0)), (1, .int x1), (2, .int x2)] [0, 1, 2] rfl ?_
          exact tX12_chord_75 C hr hlocks hf
      · have hf := it_s c13 hf
        refine b_sub [(0, .ref (ad B x0)), (1, .int x1), (2, .int x2)] [0, 1, 2] rfl ?_
        exact tX12_chord_39 C hr hlocks hf
  · have hf := it_s c1 hf
    refine b_aload_n C dX12_chord_5 0 rfl rfl ?_
    obtain ⟨h17, hf⟩ := gd_s hf
    obtain ⟨r18, er18, hf⟩ := ob_s hf
    refine b_gR C dX12_chord_6 fl_X12_40 h17 er18 ?_
    refine b_bipush C (v := 10) dX12_chord_9 (by decide) ?_
    obtain ⟨h19, hf⟩ := gd_s hf
    obtain ⟨h20, hf⟩ := gd_s hf
    refine b_iald C h19 h20 dX12_chord_11 ?_
    exact b_iret C hr hlocks hf dX12_chord_12
theorem kX12_chord (l : Launch) (D : va_G) (cy : Nat → ClassId) (B : Bs) {N : Nat} {g : Gs} {x0 : Nat} {x1 : Int32} {x2 : Int32} {vz : Int32} {dz : Ds} {d : Ds} (hf : fX12_chord N g x0 x1 x2 d = some (vz, dz)) : Met l yX12_chord (.code yX12_chord cX12_chord 3 (some .int) :: wl) rmX12_chord (PC D cy B [.ref (ad B x0), .int x1, .int x2] g d) (QI D cy B vz g dz) 0 0 (wA B) :=
  met_of (by decide +kernel) (Nat.le_of_ble_eq_true rfl) (fun p e s m args below meth c C hr hlocks _ => b_sub [(0, .ref (ad B x0)), (1, .int x1), (2, .int x2)] [0, 1, 2] rfl (tX12_chord_E C hr hlocks hf))
/-! KeyMatrixModel.macro(II)I -/
theorem dX12_macro_0 : decode cX12_macro 0 = .ok (.iload_n 1, 1) := by decide +kernel
theorem dX12_macro_1 : decode cX12_macro 1 = .ok (.iconst 0, 1) := by decide +kernel
theorem dX12_macro_2 : decode cX12_macro 2 = .ok (.aload_n 0, 1) := by decide +kernel
theorem dX12_macro_3 : decode cX12_macro 3 = .ok (.getfield 40, 3) := by decide +kernel
theorem dX12_macro_6 : decode cX12_macro 6 = .ok (.bipush 11, 2) := by decide +kernel
theorem dX12_macro_8 : decode cX12_macro 8 = .ok (.iaload, 1) := by decide +kernel
theorem dX12_macro_9 : decode cX12_macro 9 = .ok (.iconst 1, 1) := by decide +kernel
theorem dX12_macro_10 : decode cX12_macro 10 = .ok (.isub, 1) := by decide +kernel
theorem dX12_macro_11 : decode cX12_macro 11 = .ok (.invokestatic 169, 3) := by decide +kernel
theorem dX12_macro_14 : decode cX12_macro 14 = .ok (.ifCond .ne 5, 3) := by decide +kernel
theorem dX12_macro_17 : decode cX12_macro 17 = .ok (.iconst (-1), 1) := by decide +kernel
theorem dX12_macro_18 : decode cX12_macro 18 = .ok (.ireturn, 1) := by decide +kernel
theorem dX12_macro_19 : decode cX12_macro 19 = .ok (.aload_n 0, 1) := by decide +kernel
theorem dX12_macro_20 : decode cX12_macro 20 = .ok (.getfield 40, 3) := by decide +kernel
theorem dX12_macro_23 : decode cX12_macro 23 = .ok (.sipush 316, 3) := by decide +kernel
theorem dX12_macro_26 : decode cX12_macro 26 = .ok (.bipush 9, 2) := by decide +kernel
theorem dX12_macro_28 : decode cX12_macro 28 = .ok (.iload_n 1, 1) := by decide +kernel
theorem dX12_macro_29 : decode cX12_macro 29 = .ok (.imul, 1) := by decide +kernel
theorem dX12_macro_30 : decode cX12_macro 30 = .ok (.iadd, 1) := by decide +kernel
theorem dX12_macro_31 : decode cX12_macro 31 = .ok (.iaload, 1) := by decide +kernel
theorem dX12_macro_32 : decode cX12_macro 32 = .ok (.istore_n 3, 1) := by decide +kernel
theorem dX12_macro_33 : decode cX12_macro 33 = .ok (.iload_n 2, 1) := by decide +kernel
theorem dX12_macro_34 : decode cX12_macro 34 = .ok (.iconst (-1), 1) := by decide +kernel
theorem dX12_macro_35 : decode cX12_macro 35 = .ok (.if_icmp .ne 7, 3) := by decide +kernel
theorem dX12_macro_38 : decode cX12_macro 38 = .ok (.iload_n 3, 1) := by decide +kernel
theorem dX12_macro_39 : decode cX12_macro 39 = .ok (.goto 35, 3) := by decide +kernel
theorem dX12_macro_42 : decode cX12_macro 42 = .ok (.iload_n 2, 1) := by decide +kernel
theorem dX12_macro_43 : decode cX12_macro 43 = .ok (.iconst 0, 1) := by decide +kernel
theorem dX12_macro_44 : decode cX12_macro 44 = .ok (.iload_n 3, 1) := by decide +kernel
theorem dX12_macro_45 : decode cX12_macro 45 = .ok (.iconst 1, 1) := by decide +kernel
theorem dX12_macro_46 : decode cX12_macro 46 = .ok (.isub, 1) := by decide +kernel
theorem dX12_macro_47 : decode cX12_macro 47 = .ok (.invokestatic 169, 3) := by decide +kernel
theorem dX12_macro_50 : decode cX12_macro 50 = .ok (.ifCond .eq 23, 3) := by decide +kernel
theorem dX12_macro_53 : decode cX12_macro 53 = .ok (.aload_n 0, 1) := by decide +kernel
theorem dX12_macro_54 : decode cX12_macro 54 = .ok (.getfield 40, 3) := by decide +kernel
theorem dX12_macro_57 : decode cX12_macro 57 = .ok (.sipush 316, 3) := by decide +kernel
theorem dX12_macro_60 : decode cX12_macro 60 = .ok (.bipush 9, 2) := by decide +kernel
theorem dX12_macro_62 : decode cX12_macro 62 = .ok (.iload_n 1, 1) := by decide +kernel
theorem dX12_macro_63 : decode cX12_macro 63 = .ok (.imul, 1) := by decide +kernel
theorem dX12_macro_64 : decode cX12_macro 64 = .ok (.iadd, 1) := by decide +kernel
theorem dX12_macro_65 : decode cX12_macro 65 = .ok (.iconst 1, 1) := by decide +kernel
theorem dX12_macro_66 : decode cX12_macro 66 = .ok (.iadd, 1) := by decide +kernel
theorem dX12_macro_67 : decode cX12_macro 67 = .ok (.iload_n 2, 1) := by decide +kernel
theorem dX12_macro_68 : decode cX12_macro 68 = .ok (.iadd, 1) := by decide +kernel
theorem dX12_macro_69 : decode cX12_macro 69 = .ok (.iaload, 1) := by decide +kernel
theorem dX12_macro_70 : decode cX12_macro 70 = .ok (.goto 4, 3) := by decide +kernel
theorem dX12_macro_73 : decode cX12_macro 73 = .ok (.iconst (-1), 1) := by decide +kernel
theorem dX12_macro_74 : decode cX12_macro 74 = .ok (.ireturn, 1) := by decide +kernel
def rmX12_macro : Room := { frames := 1, cells := 0, slots := 0, locals := 22 }
set_option maxRecDepth 100000 in
def fX12_macro_J74 (N : Nat) (g : Gs) (x0 : Nat) (x1 : Int32) (x2 : Int32) (z0 : Int32) (d : Ds) : Option (Int32 × Ds) := some (z0, d)
set_option maxHeartbeats 4000000 in
set_option maxRecDepth 100000 in
theorem tX12_macro_74 {p : Program} {l : Launch} {e : Env} {s : State} {m : MethodId} {args : Array Value} {below : List Frame} {meth : Method} {c : Code} {D : va_G} {cy : Nat → ClassId} {B : Bs} (C : Cx p s m args c cX12_macro 4 RX12 D cy B) (hr : meth.sig.returnType = (some .int)) (hlocks : meth.locks = false) {N : Nat} {g : Gs} {x0 : Nat} {x1 : Int32} {x2 : Int32} {vz : Int32} {dz : Ds} {z0 : Int32} {d : Ds} (hf : fX12_macro_J74 N g x0 x1 x2 z0 d = some (vz, dz)) : WB p l e rmX12_macro s m args below meth c 4 D cy B 0 0 (MQ below (QI D cy B vz g dz) args s 0 0 (wA B)) g d [(0, .ref (ad B x0)), (1, .int x1), (2, .int x2)] 74 [.int z0] := by
  unfold fX12_macro_J74 at hf
  exact b_iret C hr hlocks hf dX12_macro_74
set_option maxRecDepth 100000 in
def fX12_macro (N : Nat) (g : Gs) (x0 : Nat) (x1 : Int32) (x2 : Int32) (d : Ds) : Option (Int32 × Ds) := gd (chk g x0 11) <| ob (gR g x0 17) fun r2 => (gd (chk g r2 102) <| gd (¬ ((11 : Int32) < 0 ∨ gL g r2 ≤ (11 : Int32).toNatClampNeg)) <| cb (fX12_in N g x1 0 ((dI d r2 (11 : Int32).toNatClampNeg) - 1) d) fun u7 d5 => (if u7 = 0 then (some ((-1), d5)) else (gd (¬ (((316 : Int32) + ((9 : Int32) * x1)) < 0 ∨ gL g r2 ≤ ((316 : Int32) + ((9 : Int32) * x1)).toNatClampNeg)) <| bd ((dI d5 r2 ((316 : Int32) + ((9 : Int32) * x1)).toNatClampNeg)) fun u10 => (if x2 = (-1 : Int32) then (fX12_macro_J74 N g x0 x1 x2 u10 d5) else (cb (fX12_in N g x2 0 (u10 - 1) d5) fun u14 d12 => (if u14 = 0 then (fX12_macro_J74 N g x0 x1 x2 (-1) d12) else (gd (¬ (((((316 : Int32) + ((9 : Int32) * x1)) + 1) + x2) < 0 ∨ gL g r2 ≤ ((((316 : Int32) + ((9 : Int32) * x1)) + 1) + x2).toNatClampNeg)) <| fX12_macro_J74 N g x0 x1 x2 (dI d12 r2 ((((316 : Int32) + ((9 : Int32) * x1)) + 1) + x2).toNatClampNeg) d12)))))))
set_option maxHeartbeats 4000000 in
set_option maxRecDepth 100000 in
theorem tX12_macro_E {p : Program} {l : Launch} {e : Env} {s : State} {m : MethodId} {args : Array Value} {below : List Frame} {meth : Method} {c : Code} {D : va_G} {cy : Nat → ClassId} {B : Bs} (C : Cx p s m args c cX12_macro 4 RX12 D cy B) (hr : meth.sig.returnType = (some .int)) (hlocks : meth.locks = false) {N : Nat} {g : Gs} {x0 : Nat} {x1 : Int32} {x2 : Int32} {vz : Int32} {dz : Ds} {d : Ds} (hf : fX12_macro N g x0 x1 x2 d = some (vz, dz)) : WB p l e rmX12_macro s m args below meth c 4 D cy B 0 0 (MQ below (QI D cy B vz g dz) args s 0 0 (wA B)) g d [(0, .ref (ad B x0)), (1, .int x1), (2, .int x2)] 0 [] := by
  unfold fX12_macro at hf
  refine b_iload_n C dX12_macro_0 1 rfl rfl ?_
  refine b_iconst C (v := 0) dX12_macro_1 (by decide) ?_
  refine b_aload_n C dX12_macro_2 0 rfl rfl ?_
  obtain ⟨h1, hf⟩ := gd_s hf
  obtain ⟨r2, er2, hf⟩ := ob_s hf
  refine b_gR C dX12_macro_3 fl_X12_40 h1 er2 ?_
  refine b_bipush C (v := 11) dX12_macro_6 (by decide) ?_
  obtain ⟨h3, hf⟩ := gd_s hf
  obtain ⟨h4, hf⟩ := gd_s hf
  refine b_iald C h3 h4 dX12_macro_8 ?_
  refine b_iconst C (v := 1) dX12_macro_9 (by decide) ?_
  refine b_isub C dX12_macro_10 ?_
  obtain ⟨u7, d5, k6, hf⟩ := cb_s hf
  refine b_cSI C [] dX12_macro_11 (kX12_in l D cy B k6) lv_X12_169 ⟨rfl, rfl, Nat.le_of_ble_eq_true rfl, Nat.le_of_ble_eq_true rfl⟩ rfl (Nat.le_of_ble_eq_true rfl) ⟨Nat.zero_le _, Nat.zero_le _⟩ rfl ?_
  refine b_if_ne C (tgt := 19) dX12_macro_14 (by decide) (fun c8 => ?_) (fun c8 => ?_)
  · have hf := if_s c8 hf
    refine b_aload_n C dX12_macro_19 0 rfl rfl ?_
    refine b_gR C dX12_macro_20 fl_X12_40 h1 er2 ?_
    refine b_sipush C (v := 316) dX12_macro_23 (by decide) ?_
    refine b_bipush C (v := 9) dX12_macro_26 (by decide) ?_
    refine b_iload_n C dX12_macro_28 1 rfl rfl ?_
    refine b_imul C dX12_macro_29 ?_
    refine b_iadd C dX12_macro_30 ?_
    obtain ⟨h9, hf⟩ := gd_s hf
    refine b_iald C h3 h9 dX12_macro_31 ?_
    obtain ⟨u10, eu10, hf⟩ := bd_s hf
    refine b_topI eu10 ?_
    refine b_istore_n C dX12_macro_32 rfl [(3, .int u10), (0, .ref (ad B x0)), (1, .int x1), (2, .int x2)] (by decide) rfl ?_
    refine b_iload_n C dX12_macro_33 3 rfl rfl ?_
    refine b_iconst C (v := (-1)) dX12_macro_34 (by decide) ?_
    refine b_icmp_ne C (tgt := 42) dX12_macro_35 (by decide) (fun c11 => ?_) (fun c11 => ?_)
    · have hf := if_s c11 hf
      refine b_iload_n C dX12_macro_42 3 rfl rfl ?_
      refine b_iconst C (v := 0) dX12_macro_43 (by decide) ?_
      refine b_iload_n C dX12_macro_44 0 rfl rfl ?_
      refine b_iconst C (v := 1) dX12_macro_45 (by decide) ?_
      refine b_isub C dX12_macro_46 ?_
      obtain ⟨u14, d12, k13, hf⟩ := cb_s hf
      refine b_cSI C [] dX12_macro_47 (kX12_in l D cy B k13) lv_X12_169 ⟨rfl, rfl, Nat.le_of_ble_eq_true rfl, Nat.le_of_ble_eq_true rfl⟩ rfl (Nat.le_of_ble_eq_true rfl) ⟨Nat.zero_le _, Nat.zero_le _⟩ rfl ?_
      refine b_if_eq C (tgt := 73) dX12_macro_50 (by decide) (fun c15 => ?_) (fun c15 => ?_)
      · have hf := it_s c15 hf
        refine b_iconst C (v := (-1)) dX12_macro_73 (by decide) ?_
        refine b_sub [(0, .ref (ad B x0)), (1, .int x1), (2, .int x2)] [1, 2, 3] rfl ?_
        exact tX12_macro_74 C hr hlocks hf
      · have hf := if_s c15 hf
        refine b_aload_n C dX12_macro_53 1 rfl rfl ?_
        refine b_gR C dX12_macro_54 fl_X12_40 h1 er2 ?_
        refine b_sipush C (v := 316) dX12_macro_57 (by decide) ?_
        refine b_bipush C (v := 9) dX12_macro_60 (by decide) ?_
        refine b_iload_n C dX12_macro_62 2 rfl rfl ?_
        refine b_imul C dX12_macro_63 ?_
        refine b_iadd C dX12_macro_64 ?_
        refine b_iconst C (v := 1) dX12_macro_65 (by decide) ?_
        refine b_iadd C dX12_macro_66 ?_
        refine b_iload_n C dX12_macro_67 3 rfl rfl ?_
        refine b_iadd C dX12_macro_68 ?_
        obtain ⟨h16, hf⟩ := gd_s hf
        refine b_iald C h3 h16 dX12_macro_69 ?_
        refine b_goto C (tgt := 74) dX12_macro_70 (by decide) ?_
        refine b_sub [(0, .ref (ad B x0)), (1, .int x1), (2, .int x2)] [1, 2, 3] rfl ?_
        exact tX12_macro_74 C hr hlocks hf
    · have hf := it_s c11 hf
      refine b_iload_n C dX12_macro_38 0 rfl rfl ?_
      refine b_goto C (tgt := 74) dX12_macro_39 (by decide) ?_
      refine b_sub [(0, .ref (ad B x0)), (1, .int x1), (2, .int x2)] [1, 2, 3] rfl ?_
      exact tX12_macro_74 C hr hlocks hf
  · have hf := it_s c8 hf
    refine b_iconst C (v := (-1)) dX12_macro_17 (by decide) ?_
    exact b_iret C hr hlocks hf dX12_macro_18
theorem kX12_macro (l : Launch) (D : va_G) (cy : Nat → ClassId) (B : Bs) {N : Nat} {g : Gs} {x0 : Nat} {x1 : Int32} {x2 : Int32} {vz : Int32} {dz : Ds} {d : Ds} (hf : fX12_macro N g x0 x1 x2 d = some (vz, dz)) : Met l yX12_macro (.code yX12_macro cX12_macro 4 (some .int) :: wl) rmX12_macro (PC D cy B [.ref (ad B x0), .int x1, .int x2] g d) (QI D cy B vz g dz) 0 0 (wA B) :=
  met_of (by decide +kernel) (Nat.le_of_ble_eq_true rfl) (fun p e s m args below meth c C hr hlocks _ => b_sub [(0, .ref (ad B x0)), (1, .int x1), (2, .int x2)] [0, 1, 2] rfl (tX12_macro_E C hr hlocks hf))
