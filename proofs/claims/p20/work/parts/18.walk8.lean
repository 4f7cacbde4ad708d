/-! KeyMatrixModel.keyTold(I)I -/
theorem fl_X12_181 : FLI RX12 181 11 22 := ⟨⟨RX12, TX12, 33, rfl, by decide, inl11, Or.inl (mW (mT5 (List.mem_of_getElem? (i := 113) (by decide +kernel))) rfl)⟩, by decide, by decide +kernel⟩
theorem fl_X12_43 : FLR RX12 43 11 18 := ⟨⟨RX12, TX12, 33, rfl, by decide, inl11, Or.inl (mW (mT5 (List.mem_of_getElem? (i := 109) (by decide +kernel))) rfl)⟩, by decide, by decide +kernel⟩
theorem yo_X12_within : yX12_within.cls ≠ "java/lang/invoke/MethodHandle" ∧ yX12_within.cls ≠ "java/lang/invoke/VarHandle" ∧ (parseMethodDescriptor yX12_within.desc).map (fun d => d.parameters.length) = some 3 := by decide +kernel
theorem co_X12_within : Cond.code yX12_within cX12_within 4 (some .int) ∈ wl := mW (mT6 (List.mem_of_getElem? (i := 22) (by decide +kernel))) rfl
theorem in_X12_within : Cond.initialized yX12_within.cls ∈ wl := mW (mT1 (List.mem_of_getElem? (i := 12) (by decide +kernel))) rfl
theorem im_X12_within : Cond.instanceMethod yX12_within ∈ wl := mW (mT6 (List.mem_of_getElem? (i := 21) (by decide +kernel))) rfl
theorem se_X12_within : Cond.selects yX12_within.cls yX12_within yX12_within ∈ wl := mW (mT0 (List.mem_of_getElem? (i := 44) (by decide +kernel))) rfl
theorem lv_X12_177 : LV RX12 177 yX12_within cX12_within 4 (some .int) 3 11 := ⟨⟨(RX12, TX12, 33), rfl, rfl⟩, yo_X12_within, mW (mT6 (List.mem_of_getElem? (i := 19) (by decide +kernel))) rfl, im_X12_within, se_X12_within, in_X12_within, co_X12_within⟩
theorem dX12_keyTold_0 : decode cX12_keyTold 0 = .ok (.aload_n 0, 1) := by decide +kernel
theorem dX12_keyTold_1 : decode cX12_keyTold 1 = .ok (.getfield 181, 3) := by decide +kernel
theorem dX12_keyTold_4 : decode cX12_keyTold 4 = .ok (.ifCond .eq 27, 3) := by decide +kernel
theorem dX12_keyTold_7 : decode cX12_keyTold 7 = .ok (.aload_n 0, 1) := by decide +kernel
theorem dX12_keyTold_8 : decode cX12_keyTold 8 = .ok (.iload_n 1, 1) := by decide +kernel
theorem dX12_keyTold_9 : decode cX12_keyTold 9 = .ok (.iconst 0, 1) := by decide +kernel
theorem dX12_keyTold_10 : decode cX12_keyTold 10 = .ok (.aload_n 0, 1) := by decide +kernel
theorem dX12_keyTold_11 : decode cX12_keyTold 11 = .ok (.getfield 43, 3) := by decide +kernel
theorem dX12_keyTold_14 : decode cX12_keyTold 14 = .ok (.iconst 0, 1) := by decide +kernel
theorem dX12_keyTold_15 : decode cX12_keyTold 15 = .ok (.iaload, 1) := by decide +kernel
theorem dX12_keyTold_16 : decode cX12_keyTold 16 = .ok (.aload_n 0, 1) := by decide +kernel
theorem dX12_keyTold_17 : decode cX12_keyTold 17 = .ok (.getfield 43, 3) := by decide +kernel
theorem dX12_keyTold_20 : decode cX12_keyTold 20 = .ok (.iconst 1, 1) := by decide +kernel
theorem dX12_keyTold_21 : decode cX12_keyTold 21 = .ok (.iaload, 1) := by decide +kernel
theorem dX12_keyTold_22 : decode cX12_keyTold 22 = .ok (.imul, 1) := by decide +kernel
theorem dX12_keyTold_23 : decode cX12_keyTold 23 = .ok (.iconst 1, 1) := by decide +kernel
theorem dX12_keyTold_24 : decode cX12_keyTold 24 = .ok (.isub, 1) := by decide +kernel
theorem dX12_keyTold_25 : decode cX12_keyTold 25 = .ok (.invokevirtual 177, 3) := by decide +kernel
theorem dX12_keyTold_28 : decode cX12_keyTold 28 = .ok (.goto 4, 3) := by decide +kernel
theorem dX12_keyTold_31 : decode cX12_keyTold 31 = .ok (.iconst 0, 1) := by decide +kernel
theorem dX12_keyTold_32 : decode cX12_keyTold 32 = .ok (.ireturn, 1) := by decide +kernel
def rmX12_keyTold : Room := { frames := 2, cells := 0, slots := 0, locals := 46 }
set_option maxRecDepth 100000 in
def fX12_keyTold_J32 (N : Nat) (g : Gs) (x0 : Nat) (x1 : Int32) (z0 : Int32) (d : Ds) : Option (Int32 × Ds) := some (z0, d)
set_option maxHeartbeats 4000000 in
set_option maxRecDepth 100000 in
theorem tX12_keyTold_32 {p : Program} {l : Launch} {e : Env} {s : State} {m : MethodId} {args : Array Value} {below : List Frame} {meth : Method} {c : Code} {D : va_G} {cy : Nat → ClassId} {B : Bs} (C : Cx p s m args c cX12_keyTold 2 RX12 D cy B) (hr : meth.sig.returnType = (some .int)) (hlocks : meth.locks = false) {N : Nat} {g : Gs} {x0 : Nat} {x1 : Int32} {vz : Int32} {dz : Ds} {z0 : Int32} {d : Ds} (hf : fX12_keyTold_J32 N g x0 x1 z0 d = some (vz, dz)) : WB p l e rmX12_keyTold s m args below meth c 2 D cy B 0 0 (MQ below (QI D cy B vz g dz) args s 0 0 (wA B)) g d [(0, .ref (ad B x0)), (1, .int x1)] 32 [.int z0] := by
  unfold fX12_keyTold_J32 at hf
  exact b_iret C hr hlocks hf dX12_keyTold_32
set_option maxRecDepth 100000 in
def fX12_keyTold (N : Nat) (g : Gs) (x0 : Nat) (x1 : Int32) (d : Ds) : Option (Int32 × Ds) := gd (chk g x0 11) <| if (dI d x0 22) = 0 then (fX12_keyTold_J32 N g x0 x1 0 d) else (ob (gR g x0 18) fun r3 => (gd (chk g r3 102) <| gd (¬ ((0 : Int32) < 0 ∨ gL g r3 ≤ (0 : Int32).toNatClampNeg)) <| gd (¬ ((1 : Int32) < 0 ∨ gL g r3 ≤ (1 : Int32).toNatClampNeg)) <| cb (fX12_within N g x0 x1 0 (((dI d r3 (0 : Int32).toNatClampNeg) * (dI d r3 (1 : Int32).toNatClampNeg)) - 1) d) fun u9 d7 => (fX12_keyTold_J32 N g x0 x1 u9 d7)))
set_option maxHeartbeats 4000000 in
set_option maxRecDepth 100000 in
theorem tX12_keyTold_E {p : Program} {l : Launch} {e : Env} {s : State} {m : MethodId} {args : Array Value} {below : List Frame} {meth : Method} {c : Code} {D : va_G} {cy : Nat → ClassId} {B : Bs} (C : Cx p s m args c cX12_keyTold 2 RX12 D cy B) (hr : meth.sig.returnType = (some .int)) (hlocks : meth.locks = false) {N : Nat} {g : Gs} {x0 : Nat} {x1 : Int32} {vz : Int32} {dz : Ds} {d : Ds} (hf : fX12_keyTold N g x0 x1 d = some (vz, dz)) : WB p l e rmX12_keyTold s m args below meth c 2 D cy B 0 0 (MQ below (QI D cy B vz g dz) args s 0 0 (wA B)) g d [(0, .ref (ad B x0)), (1, .int x1)] 0 [] := by
  unfold fX12_keyTold at hf
  refine b_aload_n C dX12_keyTold_0 0 rfl rfl ?_
  obtain ⟨h1, hf⟩ := gd_s hf
  refine b_gI C dX12_keyTold_1 fl_X12_181 h1 ?_
  refine b_if_eq C (tgt := 31) dX12_keyTold_4 (by decide) (fun c2 => ?_) (fun c2 => ?_)
  · have hf := it_s c2 hf
    refine b_iconst C (v := 0) dX12_keyTold_31 (by decide) ?_
    refine b_sub [(0, .ref (ad B x0)), (1, .int x1)] [0, 1] rfl ?_
    exact tX12_keyTold_32 C hr hlocks hf
  · have hf := if_s c2 hf
    refine b_aload_n C dX12_keyTold_7 0 rfl rfl ?_
    refine b_iload_n C dX12_keyTold_8 1 rfl rfl ?_
    refine b_iconst C (v := 0) dX12_keyTold_9 (by decide) ?_
    refine b_aload_n C dX12_keyTold_10 0 rfl rfl ?_
    obtain ⟨r3, er3, hf⟩ := ob_s hf
    refine b_gR C dX12_keyTold_11 fl_X12_43 h1 er3 ?_
    refine b_iconst C (v := 0) dX12_keyTold_14 (by decide) ?_
    obtain ⟨h4, hf⟩ := gd_s hf
    obtain ⟨h5, hf⟩ := gd_s hf
    refine b_iald C h4 h5 dX12_keyTold_15 ?_
    refine b_aload_n C dX12_keyTold_16 0 rfl rfl ?_
    refine b_gR C dX12_keyTold_17 fl_X12_43 h1 er3 ?_
    refine b_iconst C (v := 1) dX12_keyTold_20 (by decide) ?_
    obtain ⟨h6, hf⟩ := gd_s hf
    refine b_iald C h4 h6 dX12_keyTold_21 ?_
    refine b_imul C dX12_keyTold_22 ?_
    refine b_iconst C (v := 1) dX12_keyTold_23 (by decide) ?_
    refine b_isub C dX12_keyTold_24 ?_
    obtain ⟨u9, d7, k8, hf⟩ := cb_s hf
    refine b_cVI C [] dX12_keyTold_25 (kX12_within l D cy B k8) lv_X12_177 ⟨rfl, rfl, Nat.le_of_ble_eq_true rfl, Nat.le_of_ble_eq_true rfl⟩ h1 (by decide) rfl (Nat.le_of_ble_eq_true rfl) ⟨Nat.zero_le _, Nat.zero_le _⟩ rfl ?_
    refine b_goto C (tgt := 32) dX12_keyTold_28 (by decide) ?_
    refine b_sub [(0, .ref (ad B x0)), (1, .int x1)] [0, 1] rfl ?_
    exact tX12_keyTold_32 C hr hlocks hf
theorem kX12_keyTold (l : Launch) (D : va_G) (cy : Nat → ClassId) (B : Bs) {N : Nat} {g : Gs} {x0 : Nat} {x1 : Int32} {vz : Int32} {dz : Ds} {d : Ds} (hf : fX12_keyTold N g x0 x1 d = some (vz, dz)) : Met l yX12_keyTold (.code yX12_keyTold cX12_keyTold 2 (some .int) :: wl) rmX12_keyTold (PC D cy B [.ref (ad B x0), .int x1] g d) (QI D cy B vz g dz) 0 0 (wA B) :=
  met_of (by decide +kernel) (Nat.le_of_ble_eq_true rfl) (fun p e s m args below meth c C hr hlocks _ => b_sub [(0, .ref (ad B x0)), (1, .int x1)] [0, 1] rfl (tX12_keyTold_E C hr hlocks hf))
/-! KeyMatrixModel.meansDeed(I)V -/
theorem fl_X12_50 : FLR RX12 50 11 23 := ⟨⟨RX12, TX12, 33, rfl, by decide, inl11, Or.inl (mW (mT5 (List.mem_of_getElem? (i := 114) (by decide +kernel))) rfl)⟩, by decide, by decide +kernel⟩
theorem dX12_meansDeed_0 : decode cX12_meansDeed 0 = .ok (.aload_n 0, 1) := by decide +kernel
theorem dX12_meansDeed_1 : decode cX12_meansDeed 1 = .ok (.getfield 50, 3) := by decide +kernel
theorem dX12_meansDeed_4 : decode cX12_meansDeed 4 = .ok (.iconst 1, 1) := by decide +kernel
theorem dX12_meansDeed_5 : decode cX12_meansDeed 5 = .ok (.iconst (-1), 1) := by decide +kernel
theorem dX12_meansDeed_6 : decode cX12_meansDeed 6 = .ok (.iastore, 1) := by decide +kernel
theorem dX12_meansDeed_7 : decode cX12_meansDeed 7 = .ok (.aload_n 0, 1) := by decide +kernel
theorem dX12_meansDeed_8 : decode cX12_meansDeed 8 = .ok (.getfield 50, 3) := by decide +kernel
theorem dX12_meansDeed_11 : decode cX12_meansDeed 11 = .ok (.iconst 2, 1) := by decide +kernel
theorem dX12_meansDeed_12 : decode cX12_meansDeed 12 = .ok (.iconst (-1), 1) := by decide +kernel
theorem dX12_meansDeed_13 : decode cX12_meansDeed 13 = .ok (.iastore, 1) := by decide +kernel
theorem dX12_meansDeed_14 : decode cX12_meansDeed 14 = .ok (.aload_n 0, 1) := by decide +kernel
theorem dX12_meansDeed_15 : decode cX12_meansDeed 15 = .ok (.getfield 20, 3) := by decide +kernel
theorem dX12_meansDeed_18 : decode cX12_meansDeed 18 = .ok (.iload_n 1, 1) := by decide +kernel
theorem dX12_meansDeed_19 : decode cX12_meansDeed 19 = .ok (.iaload, 1) := by decide +kernel
theorem dX12_meansDeed_20 : decode cX12_meansDeed 20 = .ok (.tableswitch 304 31 38 #[48, 75, 101, 126, 151, 161, 171, 259], 48) := by decide +kernel
theorem dX12_meansDeed_68 : decode cX12_meansDeed 68 = .ok (.aload_n 0, 1) := by decide +kernel
theorem dX12_meansDeed_69 : decode cX12_meansDeed 69 = .ok (.getfield 50, 3) := by decide +kernel
theorem dX12_meansDeed_72 : decode cX12_meansDeed 72 = .ok (.iconst 0, 1) := by decide +kernel
theorem dX12_meansDeed_73 : decode cX12_meansDeed 73 = .ok (.iconst 0, 1) := by decide +kernel
theorem dX12_meansDeed_74 : decode cX12_meansDeed 74 = .ok (.iastore, 1) := by decide +kernel
theorem dX12_meansDeed_75 : decode cX12_meansDeed 75 = .ok (.aload_n 0, 1) := by decide +kernel
theorem dX12_meansDeed_76 : decode cX12_meansDeed 76 = .ok (.getfield 50, 3) := by decide +kernel
theorem dX12_meansDeed_79 : decode cX12_meansDeed 79 = .ok (.iconst 1, 1) := by decide +kernel
theorem dX12_meansDeed_80 : decode cX12_meansDeed 80 = .ok (.aload_n 0, 1) := by decide +kernel
theorem dX12_meansDeed_81 : decode cX12_meansDeed 81 = .ok (.iload_n 1, 1) := by decide +kernel
theorem dX12_meansDeed_82 : decode cX12_meansDeed 82 = .ok (.iconst 1, 1) := by decide +kernel
theorem dX12_meansDeed_83 : decode cX12_meansDeed 83 = .ok (.iadd, 1) := by decide +kernel
theorem dX12_meansDeed_84 : decode cX12_meansDeed 84 = .ok (.iconst 1, 1) := by decide +kernel
theorem dX12_meansDeed_85 : decode cX12_meansDeed 85 = .ok (.sipush 200, 3) := by decide +kernel
theorem dX12_meansDeed_88 : decode cX12_meansDeed 88 = .ok (.invokevirtual 177, 3) := by decide +kernel
theorem dX12_meansDeed_91 : decode cX12_meansDeed 91 = .ok (.iastore, 1) := by decide +kernel
theorem dX12_meansDeed_92 : decode cX12_meansDeed 92 = .ok (.goto 255, 3) := by decide +kernel
theorem dX12_meansDeed_95 : decode cX12_meansDeed 95 = .ok (.aload_n 0, 1) := by decide +kernel
theorem dX12_meansDeed_96 : decode cX12_meansDeed 96 = .ok (.getfield 50, 3) := by decide +kernel
theorem dX12_meansDeed_99 : decode cX12_meansDeed 99 = .ok (.iconst 0, 1) := by decide +kernel
theorem dX12_meansDeed_100 : decode cX12_meansDeed 100 = .ok (.iconst 1, 1) := by decide +kernel
theorem dX12_meansDeed_101 : decode cX12_meansDeed 101 = .ok (.iastore, 1) := by decide +kernel
theorem dX12_meansDeed_102 : decode cX12_meansDeed 102 = .ok (.aload_n 0, 1) := by decide +kernel
theorem dX12_meansDeed_103 : decode cX12_meansDeed 103 = .ok (.getfield 50, 3) := by decide +kernel
theorem dX12_meansDeed_106 : decode cX12_meansDeed 106 = .ok (.iconst 1, 1) := by decide +kernel
theorem dX12_meansDeed_107 : decode cX12_meansDeed 107 = .ok (.aload_n 0, 1) := by decide +kernel
theorem dX12_meansDeed_108 : decode cX12_meansDeed 108 = .ok (.iload_n 1, 1) := by decide +kernel
theorem dX12_meansDeed_109 : decode cX12_meansDeed 109 = .ok (.iconst 1, 1) := by decide +kernel
theorem dX12_meansDeed_110 : decode cX12_meansDeed 110 = .ok (.iadd, 1) := by decide +kernel
theorem dX12_meansDeed_111 : decode cX12_meansDeed 111 = .ok (.iconst 0, 1) := by decide +kernel
theorem dX12_meansDeed_112 : decode cX12_meansDeed 112 = .ok (.bipush 7, 2) := by decide +kernel
theorem dX12_meansDeed_114 : decode cX12_meansDeed 114 = .ok (.invokevirtual 177, 3) := by decide +kernel
theorem dX12_meansDeed_117 : decode cX12_meansDeed 117 = .ok (.iastore, 1) := by decide +kernel
theorem dX12_meansDeed_118 : decode cX12_meansDeed 118 = .ok (.goto 229, 3) := by decide +kernel
theorem dX12_meansDeed_121 : decode cX12_meansDeed 121 = .ok (.aload_n 0, 1) := by decide +kernel
theorem dX12_meansDeed_122 : decode cX12_meansDeed 122 = .ok (.getfield 50, 3) := by decide +kernel
theorem dX12_meansDeed_125 : decode cX12_meansDeed 125 = .ok (.iconst 0, 1) := by decide +kernel
theorem dX12_meansDeed_126 : decode cX12_meansDeed 126 = .ok (.iconst 2, 1) := by decide +kernel
theorem dX12_meansDeed_127 : decode cX12_meansDeed 127 = .ok (.iastore, 1) := by decide +kernel
theorem dX12_meansDeed_128 : decode cX12_meansDeed 128 = .ok (.aload_n 0, 1) := by decide +kernel
theorem dX12_meansDeed_129 : decode cX12_meansDeed 129 = .ok (.getfield 50, 3) := by decide +kernel
theorem dX12_meansDeed_132 : decode cX12_meansDeed 132 = .ok (.iconst 1, 1) := by decide +kernel
theorem dX12_meansDeed_133 : decode cX12_meansDeed 133 = .ok (.aload_n 0, 1) := by decide +kernel
theorem dX12_meansDeed_134 : decode cX12_meansDeed 134 = .ok (.iload_n 1, 1) := by decide +kernel
theorem dX12_meansDeed_135 : decode cX12_meansDeed 135 = .ok (.iconst 1, 1) := by decide +kernel
theorem dX12_meansDeed_136 : decode cX12_meansDeed 136 = .ok (.iadd, 1) := by decide +kernel
theorem dX12_meansDeed_137 : decode cX12_meansDeed 137 = .ok (.iconst 1, 1) := by decide +kernel
theorem dX12_meansDeed_138 : decode cX12_meansDeed 138 = .ok (.iconst 3, 1) := by decide +kernel
theorem dX12_meansDeed_139 : decode cX12_meansDeed 139 = .ok (.invokevirtual 177, 3) := by decide +kernel
theorem dX12_meansDeed_142 : decode cX12_meansDeed 142 = .ok (.iastore, 1) := by decide +kernel
theorem dX12_meansDeed_143 : decode cX12_meansDeed 143 = .ok (.goto 204, 3) := by decide +kernel
theorem dX12_meansDeed_146 : decode cX12_meansDeed 146 = .ok (.aload_n 0, 1) := by decide +kernel
theorem dX12_meansDeed_147 : decode cX12_meansDeed 147 = .ok (.getfield 50, 3) := by decide +kernel
theorem dX12_meansDeed_150 : decode cX12_meansDeed 150 = .ok (.iconst 0, 1) := by decide +kernel
theorem dX12_meansDeed_151 : decode cX12_meansDeed 151 = .ok (.iconst 3, 1) := by decide +kernel
theorem dX12_meansDeed_152 : decode cX12_meansDeed 152 = .ok (.iastore, 1) := by decide +kernel
theorem dX12_meansDeed_153 : decode cX12_meansDeed 153 = .ok (.aload_n 0, 1) := by decide +kernel
theorem dX12_meansDeed_154 : decode cX12_meansDeed 154 = .ok (.getfield 50, 3) := by decide +kernel
theorem dX12_meansDeed_157 : decode cX12_meansDeed 157 = .ok (.iconst 1, 1) := by decide +kernel
theorem dX12_meansDeed_158 : decode cX12_meansDeed 158 = .ok (.aload_n 0, 1) := by decide +kernel
theorem dX12_meansDeed_159 : decode cX12_meansDeed 159 = .ok (.iload_n 1, 1) := by decide +kernel
theorem dX12_meansDeed_160 : decode cX12_meansDeed 160 = .ok (.iconst 1, 1) := by decide +kernel
theorem dX12_meansDeed_161 : decode cX12_meansDeed 161 = .ok (.iadd, 1) := by decide +kernel
theorem dX12_meansDeed_162 : decode cX12_meansDeed 162 = .ok (.iconst 1, 1) := by decide +kernel
theorem dX12_meansDeed_163 : decode cX12_meansDeed 163 = .ok (.iconst 3, 1) := by decide +kernel
theorem dX12_meansDeed_164 : decode cX12_meansDeed 164 = .ok (.invokevirtual 177, 3) := by decide +kernel
theorem dX12_meansDeed_167 : decode cX12_meansDeed 167 = .ok (.iastore, 1) := by decide +kernel
theorem dX12_meansDeed_168 : decode cX12_meansDeed 168 = .ok (.goto 179, 3) := by decide +kernel
theorem dX12_meansDeed_171 : decode cX12_meansDeed 171 = .ok (.aload_n 0, 1) := by decide +kernel
theorem dX12_meansDeed_172 : decode cX12_meansDeed 172 = .ok (.getfield 50, 3) := by decide +kernel
theorem dX12_meansDeed_175 : decode cX12_meansDeed 175 = .ok (.iconst 0, 1) := by decide +kernel
theorem dX12_meansDeed_176 : decode cX12_meansDeed 176 = .ok (.iconst 4, 1) := by decide +kernel
theorem dX12_meansDeed_177 : decode cX12_meansDeed 177 = .ok (.iastore, 1) := by decide +kernel
theorem dX12_meansDeed_178 : decode cX12_meansDeed 178 = .ok (.goto 169, 3) := by decide +kernel
theorem dX12_meansDeed_181 : decode cX12_meansDeed 181 = .ok (.aload_n 0, 1) := by decide +kernel
theorem dX12_meansDeed_182 : decode cX12_meansDeed 182 = .ok (.getfield 50, 3) := by decide +kernel
theorem dX12_meansDeed_185 : decode cX12_meansDeed 185 = .ok (.iconst 0, 1) := by decide +kernel
theorem dX12_meansDeed_186 : decode cX12_meansDeed 186 = .ok (.iconst 5, 1) := by decide +kernel
theorem dX12_meansDeed_187 : decode cX12_meansDeed 187 = .ok (.iastore, 1) := by decide +kernel
theorem dX12_meansDeed_188 : decode cX12_meansDeed 188 = .ok (.goto 159, 3) := by decide +kernel
theorem dX12_meansDeed_191 : decode cX12_meansDeed 191 = .ok (.aload_n 0, 1) := by decide +kernel
theorem dX12_meansDeed_192 : decode cX12_meansDeed 192 = .ok (.getfield 20, 3) := by decide +kernel
theorem dX12_meansDeed_195 : decode cX12_meansDeed 195 = .ok (.iload_n 1, 1) := by decide +kernel
theorem dX12_meansDeed_196 : decode cX12_meansDeed 196 = .ok (.iconst 2, 1) := by decide +kernel
theorem dX12_meansDeed_197 : decode cX12_meansDeed 197 = .ok (.iadd, 1) := by decide +kernel
theorem dX12_meansDeed_198 : decode cX12_meansDeed 198 = .ok (.iaload, 1) := by decide +kernel
theorem dX12_meansDeed_199 : decode cX12_meansDeed 199 = .ok (.bipush 33, 2) := by decide +kernel
theorem dX12_meansDeed_201 : decode cX12_meansDeed 201 = .ok (.if_icmp .ne 7, 3) := by decide +kernel
theorem dX12_meansDeed_204 : decode cX12_meansDeed 204 = .ok (.iconst 1, 1) := by decide +kernel
theorem dX12_meansDeed_205 : decode cX12_meansDeed 205 = .ok (.goto 4, 3) := by decide +kernel
theorem dX12_meansDeed_208 : decode cX12_meansDeed 208 = .ok (.iconst 0, 1) := by decide +kernel
theorem dX12_meansDeed_209 : decode cX12_meansDeed 209 = .ok (.istore_n 2, 1) := by decide +kernel
theorem dX12_meansDeed_210 : decode cX12_meansDeed 210 = .ok (.aload_n 0, 1) := by decide +kernel
theorem dX12_meansDeed_211 : decode cX12_meansDeed 211 = .ok (.getfield 50, 3) := by decide +kernel
theorem dX12_meansDeed_214 : decode cX12_meansDeed 214 = .ok (.iconst 0, 1) := by decide +kernel
theorem dX12_meansDeed_215 : decode cX12_meansDeed 215 = .ok (.iload_n 2, 1) := by decide +kernel
theorem dX12_meansDeed_216 : decode cX12_meansDeed 216 = .ok (.ifCond .eq 8, 3) := by decide +kernel
theorem dX12_meansDeed_219 : decode cX12_meansDeed 219 = .ok (.bipush 6, 2) := by decide +kernel
theorem dX12_meansDeed_221 : decode cX12_meansDeed 221 = .ok (.goto 5, 3) := by decide +kernel
theorem dX12_meansDeed_224 : decode cX12_meansDeed 224 = .ok (.bipush 7, 2) := by decide +kernel
theorem dX12_meansDeed_226 : decode cX12_meansDeed 226 = .ok (.iastore, 1) := by decide +kernel
theorem dX12_meansDeed_227 : decode cX12_meansDeed 227 = .ok (.aload_n 0, 1) := by decide +kernel
theorem dX12_meansDeed_228 : decode cX12_meansDeed 228 = .ok (.getfield 50, 3) := by decide +kernel
theorem dX12_meansDeed_231 : decode cX12_meansDeed 231 = .ok (.iconst 1, 1) := by decide +kernel
theorem dX12_meansDeed_232 : decode cX12_meansDeed 232 = .ok (.aload_n 0, 1) := by decide +kernel
theorem dX12_meansDeed_233 : decode cX12_meansDeed 233 = .ok (.iload_n 1, 1) := by decide +kernel
theorem dX12_meansDeed_234 : decode cX12_meansDeed 234 = .ok (.iconst 1, 1) := by decide +kernel
theorem dX12_meansDeed_235 : decode cX12_meansDeed 235 = .ok (.iadd, 1) := by decide +kernel
theorem dX12_meansDeed_236 : decode cX12_meansDeed 236 = .ok (.iconst 1, 1) := by decide +kernel
theorem dX12_meansDeed_237 : decode cX12_meansDeed 237 = .ok (.sipush 200, 3) := by decide +kernel
theorem dX12_meansDeed_240 : decode cX12_meansDeed 240 = .ok (.invokevirtual 177, 3) := by decide +kernel
theorem dX12_meansDeed_243 : decode cX12_meansDeed 243 = .ok (.iastore, 1) := by decide +kernel
theorem dX12_meansDeed_244 : decode cX12_meansDeed 244 = .ok (.aload_n 0, 1) := by decide +kernel
theorem dX12_meansDeed_245 : decode cX12_meansDeed 245 = .ok (.getfield 50, 3) := by decide +kernel
theorem dX12_meansDeed_248 : decode cX12_meansDeed 248 = .ok (.iconst 2, 1) := by decide +kernel
theorem dX12_meansDeed_249 : decode cX12_meansDeed 249 = .ok (.iload_n 2, 1) := by decide +kernel
theorem dX12_meansDeed_250 : decode cX12_meansDeed 250 = .ok (.ifCond .eq 15, 3) := by decide +kernel
theorem dX12_meansDeed_253 : decode cX12_meansDeed 253 = .ok (.aload_n 0, 1) := by decide +kernel
theorem dX12_meansDeed_254 : decode cX12_meansDeed 254 = .ok (.iload_n 1, 1) := by decide +kernel
theorem dX12_meansDeed_255 : decode cX12_meansDeed 255 = .ok (.iconst 3, 1) := by decide +kernel
theorem dX12_meansDeed_256 : decode cX12_meansDeed 256 = .ok (.iadd, 1) := by decide +kernel
theorem dX12_meansDeed_257 : decode cX12_meansDeed 257 = .ok (.iconst 1, 1) := by decide +kernel
theorem dX12_meansDeed_258 : decode cX12_meansDeed 258 = .ok (.iconst 3, 1) := by decide +kernel
theorem dX12_meansDeed_259 : decode cX12_meansDeed 259 = .ok (.invokevirtual 177, 3) := by decide +kernel
theorem dX12_meansDeed_262 : decode cX12_meansDeed 262 = .ok (.goto 13, 3) := by decide +kernel
theorem dX12_meansDeed_265 : decode cX12_meansDeed 265 = .ok (.aload_n 0, 1) := by decide +kernel
theorem dX12_meansDeed_266 : decode cX12_meansDeed 266 = .ok (.iload_n 1, 1) := by decide +kernel
theorem dX12_meansDeed_267 : decode cX12_meansDeed 267 = .ok (.iconst 3, 1) := by decide +kernel
theorem dX12_meansDeed_268 : decode cX12_meansDeed 268 = .ok (.iadd, 1) := by decide +kernel
theorem dX12_meansDeed_269 : decode cX12_meansDeed 269 = .ok (.iconst 0, 1) := by decide +kernel
theorem dX12_meansDeed_270 : decode cX12_meansDeed 270 = .ok (.bipush 7, 2) := by decide +kernel
theorem dX12_meansDeed_272 : decode cX12_meansDeed 272 = .ok (.invokevirtual 177, 3) := by decide +kernel
theorem dX12_meansDeed_275 : decode cX12_meansDeed 275 = .ok (.iastore, 1) := by decide +kernel
theorem dX12_meansDeed_276 : decode cX12_meansDeed 276 = .ok (.goto 71, 3) := by decide +kernel
theorem dX12_meansDeed_279 : decode cX12_meansDeed 279 = .ok (.aload_n 0, 1) := by decide +kernel
theorem dX12_meansDeed_280 : decode cX12_meansDeed 280 = .ok (.getfield 50, 3) := by decide +kernel
theorem dX12_meansDeed_283 : decode cX12_meansDeed 283 = .ok (.iconst 0, 1) := by decide +kernel
theorem dX12_meansDeed_284 : decode cX12_meansDeed 284 = .ok (.bipush 8, 2) := by decide +kernel
theorem dX12_meansDeed_286 : decode cX12_meansDeed 286 = .ok (.iastore, 1) := by decide +kernel
theorem dX12_meansDeed_287 : decode cX12_meansDeed 287 = .ok (.aload_n 0, 1) := by decide +kernel
theorem dX12_meansDeed_288 : decode cX12_meansDeed 288 = .ok (.getfield 50, 3) := by decide +kernel
theorem dX12_meansDeed_291 : decode cX12_meansDeed 291 = .ok (.iconst 1, 1) := by decide +kernel
theorem dX12_meansDeed_292 : decode cX12_meansDeed 292 = .ok (.aload_n 0, 1) := by decide +kernel
theorem dX12_meansDeed_293 : decode cX12_meansDeed 293 = .ok (.iload_n 1, 1) := by decide +kernel
theorem dX12_meansDeed_294 : decode cX12_meansDeed 294 = .ok (.iconst 1, 1) := by decide +kernel
theorem dX12_meansDeed_295 : decode cX12_meansDeed 295 = .ok (.iadd, 1) := by decide +kernel
theorem dX12_meansDeed_296 : decode cX12_meansDeed 296 = .ok (.iconst 1, 1) := by decide +kernel
theorem dX12_meansDeed_297 : decode cX12_meansDeed 297 = .ok (.sipush 200, 3) := by decide +kernel
theorem dX12_meansDeed_300 : decode cX12_meansDeed 300 = .ok (.invokevirtual 177, 3) := by decide +kernel
theorem dX12_meansDeed_303 : decode cX12_meansDeed 303 = .ok (.iastore, 1) := by decide +kernel
theorem dX12_meansDeed_304 : decode cX12_meansDeed 304 = .ok (.aload_n 0, 1) := by decide +kernel
theorem dX12_meansDeed_305 : decode cX12_meansDeed 305 = .ok (.getfield 50, 3) := by decide +kernel
theorem dX12_meansDeed_308 : decode cX12_meansDeed 308 = .ok (.iconst 2, 1) := by decide +kernel
theorem dX12_meansDeed_309 : decode cX12_meansDeed 309 = .ok (.aload_n 0, 1) := by decide +kernel
theorem dX12_meansDeed_310 : decode cX12_meansDeed 310 = .ok (.iload_n 1, 1) := by decide +kernel
theorem dX12_meansDeed_311 : decode cX12_meansDeed 311 = .ok (.iconst 2, 1) := by decide +kernel
theorem dX12_meansDeed_312 : decode cX12_meansDeed 312 = .ok (.iadd, 1) := by decide +kernel
theorem dX12_meansDeed_313 : decode cX12_meansDeed 313 = .ok (.iconst 1, 1) := by decide +kernel
theorem dX12_meansDeed_314 : decode cX12_meansDeed 314 = .ok (.sipush 200, 3) := by decide +kernel
theorem dX12_meansDeed_317 : decode cX12_meansDeed 317 = .ok (.invokevirtual 177, 3) := by decide +kernel
theorem dX12_meansDeed_320 : decode cX12_meansDeed 320 = .ok (.iastore, 1) := by decide +kernel
theorem dX12_meansDeed_321 : decode cX12_meansDeed 321 = .ok (.goto 26, 3) := by decide +kernel
theorem dX12_meansDeed_324 : decode cX12_meansDeed 324 = .ok (.aload_n 0, 1) := by decide +kernel
theorem dX12_meansDeed_325 : decode cX12_meansDeed 325 = .ok (.getfield 50, 3) := by decide +kernel
theorem dX12_meansDeed_328 : decode cX12_meansDeed 328 = .ok (.iconst 0, 1) := by decide +kernel
theorem dX12_meansDeed_329 : decode cX12_meansDeed 329 = .ok (.bipush 9, 2) := by decide +kernel
theorem dX12_meansDeed_331 : decode cX12_meansDeed 331 = .ok (.iastore, 1) := by decide +kernel
theorem dX12_meansDeed_332 : decode cX12_meansDeed 332 = .ok (.aload_n 0, 1) := by decide +kernel
theorem dX12_meansDeed_333 : decode cX12_meansDeed 333 = .ok (.getfield 50, 3) := by decide +kernel
theorem dX12_meansDeed_336 : decode cX12_meansDeed 336 = .ok (.iconst 1, 1) := by decide +kernel
theorem dX12_meansDeed_337 : decode cX12_meansDeed 337 = .ok (.aload_n 0, 1) := by decide +kernel
theorem dX12_meansDeed_338 : decode cX12_meansDeed 338 = .ok (.iload_n 1, 1) := by decide +kernel
theorem dX12_meansDeed_339 : decode cX12_meansDeed 339 = .ok (.iconst 1, 1) := by decide +kernel
theorem dX12_meansDeed_340 : decode cX12_meansDeed 340 = .ok (.iadd, 1) := by decide +kernel
theorem dX12_meansDeed_341 : decode cX12_meansDeed 341 = .ok (.iconst 0, 1) := by decide +kernel
theorem dX12_meansDeed_342 : decode cX12_meansDeed 342 = .ok (.iconst 3, 1) := by decide +kernel
theorem dX12_meansDeed_343 : decode cX12_meansDeed 343 = .ok (.invokevirtual 177, 3) := by decide +kernel
theorem dX12_meansDeed_346 : decode cX12_meansDeed 346 = .ok (.iastore, 1) := by decide +kernel
theorem dX12_meansDeed_347 : decode cX12_meansDeed 347 = .ok (.return_, 1) := by decide +kernel
def rmX12_meansDeed : Room := { frames := 2, cells := 0, slots := 0, locals := 46 }
set_option maxRecDepth 100000 in
def fX12_meansDeed_J347 (N : Nat) (g : Gs) (x0 : Nat) (x1 : Int32) (d : Ds) : Option (Unit × Ds) := some ((), d)
set_option maxHeartbeats 4000000 in
set_option maxRecDepth 100000 in
theorem tX12_meansDeed_347 {p : Program} {l : Launch} {e : Env} {s : State} {m : MethodId} {args : Array Value} {below : List Frame} {meth : Method} {c : Code} {D : va_G} {cy : Nat → ClassId} {B : Bs} (C : Cx p s m args c cX12_meansDeed 3 RX12 D cy B) (hr : meth.sig.returnType = none) (hlocks : meth.locks = false) {N : Nat} {g : Gs} {x0 : Nat} {x1 : Int32}  {dz : Ds} {d : Ds} (hf : fX12_meansDeed_J347 N g x0 x1 d = some ((), dz)) : WB p l e rmX12_meansDeed s m args below meth c 3 D cy B 0 0 (MQ below (QV D cy B g dz) args s 0 0 (wA B)) g d [(0, .ref (ad B x0)), (1, .int x1)] 347 [] := by
  unfold fX12_meansDeed_J347 at hf
  exact b_vret C hr hlocks hf dX12_meansDeed_347
set_option maxRecDepth 100000 in
def fX12_meansDeed_J153 (N : Nat) (g : Gs) (x0 : Nat) (x1 : Int32) (d : Ds) : Option (Unit × Ds) := gd (chk g x0 11) <| ob (gR g x0 23) fun r43 => (cb (fX12_within N g x0 (x1 + 1) 1 3 d) fun u46 d44 => (gd (chk g r43 102) <| gd (¬ ((1 : Int32) < 0 ∨ gL g r43 ≤ (1 : Int32).toNatClampNeg)) <| bd (sI d44 r43 (1 : Int32).toNatClampNeg u46) fun d49 => (fX12_meansDeed_J347 N g x0 x1 d49)))
set_option maxHeartbeats 4000000 in
set_option maxRecDepth 100000 in
theorem tX12_meansDeed_153 {p : Program} {l : Launch} {e : Env} {s : State} {m : MethodId} {args : Array Value} {below : List Frame} {meth : Method} {c : Code} {D : va_G} {cy : Nat → ClassId} {B : Bs} (C : Cx p s m args c cX12_meansDeed 3 RX12 D cy B) (hr : meth.sig.returnType = none) (hlocks : meth.locks = false) {N : Nat} {g : Gs} {x0 : Nat} {x1 : Int32}  {dz : Ds} {d : Ds} (hf : fX12_meansDeed_J153 N g x0 x1 d = some ((), dz)) : WB p l e rmX12_meansDeed s m args below meth c 3 D cy B 0 0 (MQ below (QV D cy B g dz) args s 0 0 (wA B)) g d [(0, .ref (ad B x0)), (1, .int x1)] 153 [] := by
  unfold fX12_meansDeed_J153 at hf
  refine b_aload_n C dX12_meansDeed_153 0 rfl rfl ?_
  obtain ⟨h42, hf⟩ := gd_s hf
  obtain ⟨r43, er43, hf⟩ := ob_s hf
  refine b_gR C dX12_meansDeed_154 fl_X12_50 h42 er43 ?_
  refine b_iconst C (v := 1) dX12_meansDeed_157 (by decide) ?_
  refine b_aload_n C dX12_meansDeed_158 0 rfl rfl ?_
  refine b_iload_n C dX12_meansDeed_159 1 rfl rfl ?_
  refine b_iconst C (v := 1) dX12_meansDeed_160 (by decide) ?_
  refine b_iadd C dX12_meansDeed_161 ?_
  refine b_iconst C (v := 1) dX12_meansDeed_162 (by decide) ?_
  refine b_iconst C (v := 3) dX12_meansDeed_163 (by decide) ?_
  obtain ⟨u46, d44, k45, hf⟩ := cb_s hf
  refine b_cVI C [.int 1, .ref (ad B r43)] dX12_meansDeed_164 (kX12_within l D cy B k45) lv_X12_177 ⟨rfl, rfl, Nat.le_of_ble_eq_true rfl, Nat.le_of_ble_eq_true rfl⟩ h42 (by decide) rfl (Nat.le_of_ble_eq_true rfl) ⟨Nat.zero_le _, Nat.zero_le _⟩ rfl ?_
  obtain ⟨h47, hf⟩ := gd_s hf
  obtain ⟨h48, hf⟩ := gd_s hf
  obtain ⟨d49, ed49, hf⟩ := bd_s hf
  refine b_iast C h47 h48 ed49 dX12_meansDeed_167 ?_
  refine b_goto C (tgt := 347) dX12_meansDeed_168 (by decide) ?_
  refine b_sub [(0, .ref (ad B x0)), (1, .int x1)] [0, 1] rfl ?_
  exact tX12_meansDeed_347 C hr hlocks hf
set_option maxRecDepth 100000 in
def fX12_meansDeed_J275 (N : Nat) (g : Gs) (x0 : Nat) (x1 : Int32) (z0 : Int32) (z1 : Int32) (z2 : Nat) (d : Ds) : Option (Unit × Ds) := gd (chk g z2 102) <| gd (¬ (z1 < 0 ∨ gL g z2 ≤ z1.toNatClampNeg)) <| bd (sI d z2 z1.toNatClampNeg z0) fun d79 => (fX12_meansDeed_J347 N g x0 x1 d79)
set_option maxHeartbeats 4000000 in
set_option maxRecDepth 100000 in
theorem tX12_meansDeed_275 {p : Program} {l : Launch} {e : Env} {s : State} {m : MethodId} {args : Array Value} {below : List Frame} {meth : Method} {c : Code} {D : va_G} {cy : Nat → ClassId} {B : Bs} (C : Cx p s m args c cX12_meansDeed 3 RX12 D cy B) (hr : meth.sig.returnType = none) (hlocks : meth.locks = false) {N : Nat} {g : Gs} {x0 : Nat} {x1 : Int32}  {dz : Ds} {z0 : Int32} {z1 : Int32} {z2 : Nat} {d : Ds} (hf : fX12_meansDeed_J275 N g x0 x1 z0 z1 z2 d = some ((), dz)) : WB p l e rmX12_meansDeed s m args below meth c 3 D cy B 0 0 (MQ below (QV D cy B g dz) args s 0 0 (wA B)) g d [(0, .ref (ad B x0)), (1, .int x1)] 275 [.int z0, .int z1, .ref (ad B z2)] := by
  unfold fX12_meansDeed_J275 at hf
  obtain ⟨h77, hf⟩ := gd_s hf
  obtain ⟨h78, hf⟩ := gd_s hf
  obtain ⟨d79, ed79, hf⟩ := bd_s hf
  refine b_iast C h77 h78 ed79 dX12_meansDeed_275 ?_
  refine b_goto C (tgt := 347) dX12_meansDeed_276 (by decide) ?_
  refine b_sub [(0, .ref (ad B x0)), (1, .int x1)] [0, 1] rfl ?_
  exact tX12_meansDeed_347 C hr hlocks hf
set_option maxRecDepth 100000 in
def fX12_meansDeed_J226 (N : Nat) (g : Gs) (x0 : Nat) (x1 : Int32) (y2 : Int32) (z0 : Int32) (z1 : Int32) (z2 : Nat) (d : Ds) : Option (Unit × Ds) := gd (chk g z2 102) <| gd (¬ (z1 < 0 ∨ gL g z2 ≤ z1.toNatClampNeg)) <| bd (sI d z2 z1.toNatClampNeg z0) fun d64 => (gd (chk g x0 11) <| ob (gR g x0 23) fun r66 => (cb (fX12_within N g x0 (x1 + 1) 1 200 d64) fun u69 d67 => (gd (chk g r66 102) <| gd (¬ ((1 : Int32) < 0 ∨ gL g r66 ≤ (1 : Int32).toNatClampNeg)) <| bd (sI d67 r66 (1 : Int32).toNatClampNeg u69) fun d72 => (if y2 = 0 then (cb (fX12_within N g x0 (x1 + 3) 0 7 d72) fun u76 d74 => (fX12_meansDeed_J275 N g x0 x1 u76 2 r66 d74)) else (cb (fX12_within N g x0 (x1 + 3) 1 3 d72) fun u82 d80 => (fX12_meansDeed_J275 N g x0 x1 u82 2 r66 d80))))))
set_option maxHeartbeats 4000000 in
set_option maxRecDepth 100000 in
theorem tX12_meansDeed_226 {p : Program} {l : Launch} {e : Env} {s : State} {m : MethodId} {args : Array Value} {below : List Frame} {meth : Method} {c : Code} {D : va_G} {cy : Nat → ClassId} {B : Bs} (C : Cx p s m args c cX12_meansDeed 3 RX12 D cy B) (hr : meth.sig.returnType = none) (hlocks : meth.locks = false) {N : Nat} {g : Gs} {x0 : Nat} {x1 : Int32}  {dz : Ds} {y2 : Int32} {z0 : Int32} {z1 : Int32} {z2 : Nat} {d : Ds} (hf : fX12_meansDeed_J226 N g x0 x1 y2 z0 z1 z2 d = some ((), dz)) : WB p l e rmX12_meansDeed s m args below meth c 3 D cy B 0 0 (MQ below (QV D cy B g dz) args s 0 0 (wA B)) g d [(0, .ref (ad B x0)), (1, .int x1), (2, .int y2)] 226 [.int z0, .int z1, .ref (ad B z2)] := by
  unfold fX12_meansDeed_J226 at hf
  obtain ⟨h62, hf⟩ := gd_s hf
  obtain ⟨h63, hf⟩ := gd_s hf
  obtain ⟨d64, ed64, hf⟩ := bd_s hf
  refine b_iast C h62 h63 ed64 dX12_meansDeed_226 ?_
  refine b_aload_n C dX12_meansDeed_227 0 rfl rfl ?_
  obtain ⟨h65, hf⟩ := gd_s hf
  obtain ⟨r66, er66, hf⟩ := ob_s hf
  refine b_gR C dX12_meansDeed_228 fl_X12_50 h65 er66 ?_
  refine b_iconst C (v := 1) dX12_meansDeed_231 (by decide) ?_
  refine b_aload_n C dX12_meansDeed_232 0 rfl rfl ?_
  refine b_iload_n C dX12_meansDeed_233 1 rfl rfl ?_
  refine b_iconst C (v := 1) dX12_meansDeed_234 (by decide) ?_
  refine b_iadd C dX12_meansDeed_235 ?_
  refine b_iconst C (v := 1) dX12_meansDeed_236 (by decide) ?_
  refine b_sipush C (v := 200) dX12_meansDeed_237 (by decide) ?_
  obtain ⟨u69, d67, k68, hf⟩ := cb_s hf
  refine b_cVI C [.int 1, .ref (ad B r66)] dX12_meansDeed_240 (kX12_within l D cy B k68) lv_X12_177 ⟨rfl, rfl, Nat.le_of_ble_eq_true rfl, Nat.le_of_ble_eq_true rfl⟩ h65 (by decide) rfl (Nat.le_of_ble_eq_true rfl) ⟨Nat.zero_le _, Nat.zero_le _⟩ rfl ?_
  obtain ⟨h70, hf⟩ := gd_s hf
  obtain ⟨h71, hf⟩ := gd_s hf
  obtain ⟨d72, ed72, hf⟩ := bd_s hf
  refine b_iast C h70 h71 ed72 dX12_meansDeed_243 ?_
  refine b_aload_n C dX12_meansDeed_244 0 rfl rfl ?_
  refine b_gR C dX12_meansDeed_245 fl_X12_50 h65 er66 ?_
  refine b_iconst C (v := 2) dX12_meansDeed_248 (by decide) ?_
  refine b_iload_n C dX12_meansDeed_249 2 rfl rfl ?_
  refine b_if_eq C (tgt := 265) dX12_meansDeed_250 (by decide) (fun c73 => ?_) (fun c73 => ?_)
  · have hf := it_s c73 hf
    refine b_aload_n C dX12_meansDeed_265 0 rfl rfl ?_
    refine b_iload_n C dX12_meansDeed_266 1 rfl rfl ?_
    refine b_iconst C (v := 3) dX12_meansDeed_267 (by decide) ?_
    refine b_iadd C dX12_meansDeed_268 ?_
    refine b_iconst C (v := 0) dX12_meansDeed_269 (by decide) ?_
    refine b_bipush C (v := 7) dX12_meansDeed_270 (by decide) ?_
    obtain ⟨u76, d74, k75, hf⟩ := cb_s hf
    refine b_cVI C [.int 2, .ref (ad B r66)] dX12_meansDeed_272 (kX12_within l D cy B k75) lv_X12_177 ⟨rfl, rfl, Nat.le_of_ble_eq_true rfl, Nat.le_of_ble_eq_true rfl⟩ h65 (by decide) rfl (Nat.le_of_ble_eq_true rfl) ⟨Nat.zero_le _, Nat.zero_le _⟩ rfl ?_
    refine b_sub [(0, .ref (ad B x0)), (1, .int x1)] [0, 1] rfl ?_
    exact tX12_meansDeed_275 C hr hlocks hf
  · have hf := if_s c73 hf
    refine b_aload_n C dX12_meansDeed_253 0 rfl rfl ?_
    refine b_iload_n C dX12_meansDeed_254 1 rfl rfl ?_
    refine b_iconst C (v := 3) dX12_meansDeed_255 (by decide) ?_
    refine b_iadd C dX12_meansDeed_256 ?_
    refine b_iconst C (v := 1) dX12_meansDeed_257 (by decide) ?_
    refine b_iconst C (v := 3) dX12_meansDeed_258 (by decide) ?_
    obtain ⟨u82, d80, k81, hf⟩ := cb_s hf
    refine b_cVI C [.int 2, .ref (ad B r66)] dX12_meansDeed_259 (kX12_within l D cy B k81) lv_X12_177 ⟨rfl, rfl, Nat.le_of_ble_eq_true rfl, Nat.le_of_ble_eq_true rfl⟩ h65 (by decide) rfl (Nat.le_of_ble_eq_true rfl) ⟨Nat.zero_le _, Nat.zero_le _⟩ rfl ?_
    refine b_goto C (tgt := 275) dX12_meansDeed_262 (by decide) ?_
    refine b_sub [(0, .ref (ad B x0)), (1, .int x1)] [0, 1] rfl ?_
    exact tX12_meansDeed_275 C hr hlocks hf
set_option maxRecDepth 100000 in
def fX12_meansDeed_J209 (N : Nat) (g : Gs) (x0 : Nat) (x1 : Int32) (z0 : Int32) (d : Ds) : Option (Unit × Ds) := gd (chk g x0 11) <| ob (gR g x0 23) fun r60 => (if z0 = 0 then (fX12_meansDeed_J226 N g x0 x1 z0 7 0 r60 d) else (fX12_meansDeed_J226 N g x0 x1 z0 6 0 r60 d))
set_option maxHeartbeats 4000000 in
set_option maxRecDepth 100000 in
theorem tX12_meansDeed_209 {p : Program} {l : Launch} {e : Env} {s : State} {m : MethodId} {args : Array Value} {below : List Frame} {meth : Method} {c : Code} {D : va_G} {cy : Nat → ClassId} {B : Bs} (C : Cx p s m args c cX12_meansDeed 3 RX12 D cy B) (hr : meth.sig.returnType = none) (hlocks : meth.locks = false) {N : Nat} {g : Gs} {x0 : Nat} {x1 : Int32}  {dz : Ds} {z0 : Int32} {d : Ds} (hf : fX12_meansDeed_J209 N g x0 x1 z0 d = some ((), dz)) : WB p l e rmX12_meansDeed s m args below meth c 3 D cy B 0 0 (MQ below (QV D cy B g dz) args s 0 0 (wA B)) g d [(0, .ref (ad B x0)), (1, .int x1)] 209 [.int z0] := by
  unfold fX12_meansDeed_J209 at hf
  refine b_istore_n C dX12_meansDeed_209 rfl [(2, .int z0), (0, .ref (ad B x0)), (1, .int x1)] (by decide) rfl ?_
  refine b_aload_n C dX12_meansDeed_210 1 rfl rfl ?_
  obtain ⟨h59, hf⟩ := gd_s hf
  obtain ⟨r60, er60, hf⟩ := ob_s hf
  refine b_gR C dX12_meansDeed_211 fl_X12_50 h59 er60 ?_
  refine b_iconst C (v := 0) dX12_meansDeed_214 (by decide) ?_
  refine b_iload_n C dX12_meansDeed_215 0 rfl rfl ?_
  refine b_if_eq C (tgt := 224) dX12_meansDeed_216 (by decide) (fun c61 => ?_) (fun c61 => ?_)
  · have hf := it_s c61 hf
    refine b_bipush C (v := 7) dX12_meansDeed_224 (by decide) ?_
    refine b_sub [(0, .ref (ad B x0)), (1, .int x1), (2, .int z0)] [1, 2, 0] rfl ?_
    exact tX12_meansDeed_226 C hr hlocks hf
  · have hf := if_s c61 hf
    refine b_bipush C (v := 6) dX12_meansDeed_219 (by decide) ?_
    refine b_goto C (tgt := 226) dX12_meansDeed_221 (by decide) ?_
    refine b_sub [(0, .ref (ad B x0)), (1, .int x1), (2, .int z0)] [1, 2, 0] rfl ?_
    exact tX12_meansDeed_226 C hr hlocks hf
set_option maxRecDepth 100000 in
def fX12_meansDeed (N : Nat) (g : Gs) (x0 : Nat) (x1 : Int32) (d : Ds) : Option (Unit × Ds) := gd (chk g x0 11) <| ob (gR g x0 23) fun r2 => (gd (chk g r2 102) <| gd (¬ ((1 : Int32) < 0 ∨ gL g r2 ≤ (1 : Int32).toNatClampNeg)) <| bd (sI d r2 (1 : Int32).toNatClampNeg (-1)) fun d5 => (gd (¬ ((2 : Int32) < 0 ∨ gL g r2 ≤ (2 : Int32).toNatClampNeg)) <| bd (sI d5 r2 (2 : Int32).toNatClampNeg (-1)) fun d7 => (ob (gR g x0 5) fun r8 => (gd (chk g r8 102) <| gd (¬ (x1 < 0 ∨ gL g r8 ≤ x1.toNatClampNeg)) <| if (dI d7 r8 x1.toNatClampNeg).toInt < 31 ∨ 38 < (dI d7 r8 x1.toNatClampNeg).toInt then (gd (¬ ((0 : Int32) < 0 ∨ gL g r2 ≤ (0 : Int32).toNatClampNeg)) <| bd (sI d7 r2 (0 : Int32).toNatClampNeg 9) fun d13 => (cb (fX12_within N g x0 (x1 + 1) 0 3 d13) fun u16 d14 => (bd (sI d14 r2 (1 : Int32).toNatClampNeg u16) fun d17 => (fX12_meansDeed_J347 N g x0 x1 d17)))) else if (dI d7 r8 x1.toNatClampNeg) = 31 then (gd (¬ ((0 : Int32) < 0 ∨ gL g r2 ≤ (0 : Int32).toNatClampNeg)) <| bd (sI d7 r2 (0 : Int32).toNatClampNeg 0) fun d20 => (cb (fX12_within N g x0 (x1 + 1) 1 200 d20) fun u23 d21 => (bd (sI d21 r2 (1 : Int32).toNatClampNeg u23) fun d24 => (fX12_meansDeed_J347 N g x0 x1 d24)))) else if (dI d7 r8 x1.toNatClampNeg) = 32 then (gd (¬ ((0 : Int32) < 0 ∨ gL g r2 ≤ (0 : Int32).toNatClampNeg)) <| bd (sI d7 r2 (0 : Int32).toNatClampNeg 1) fun d27 => (cb (fX12_within N g x0 (x1 + 1) 0 7 d27) fun u30 d28 => (bd (sI d28 r2 (1 : Int32).toNatClampNeg u30) fun d31 => (fX12_meansDeed_J347 N g x0 x1 d31)))) else if (dI d7 r8 x1.toNatClampNeg) = 33 then (gd (¬ ((0 : Int32) < 0 ∨ gL g r2 ≤ (0 : Int32).toNatClampNeg)) <| bd (sI d7 r2 (0 : Int32).toNatClampNeg 2) fun d34 => (cb (fX12_within N g x0 (x1 + 1) 1 3 d34) fun u37 d35 => (bd (sI d35 r2 (1 : Int32).toNatClampNeg u37) fun d38 => (fX12_meansDeed_J347 N g x0 x1 d38)))) else if (dI d7 r8 x1.toNatClampNeg) = 34 then (gd (¬ ((0 : Int32) < 0 ∨ gL g r2 ≤ (0 : Int32).toNatClampNeg)) <| bd (sI d7 r2 (0 : Int32).toNatClampNeg 3) fun d41 => (fX12_meansDeed_J153 N g x0 x1 d41)) else if (dI d7 r8 x1.toNatClampNeg) = 35 then (gd (¬ ((0 : Int32) < 0 ∨ gL g r2 ≤ (0 : Int32).toNatClampNeg)) <| bd (sI d7 r2 (0 : Int32).toNatClampNeg 4) fun d52 => (fX12_meansDeed_J347 N g x0 x1 d52)) else if (dI d7 r8 x1.toNatClampNeg) = 36 then (gd (¬ ((0 : Int32) < 0 ∨ gL g r2 ≤ (0 : Int32).toNatClampNeg)) <| bd (sI d7 r2 (0 : Int32).toNatClampNeg 5) fun d55 => (fX12_meansDeed_J347 N g x0 x1 d55)) else if (dI d7 r8 x1.toNatClampNeg) = 37 then (gd (¬ ((x1 + 2) < 0 ∨ gL g r8 ≤ (x1 + 2).toNatClampNeg)) <| if (dI d7 r8 (x1 + 2).toNatClampNeg) = (33 : Int32) then (fX12_meansDeed_J209 N g x0 x1 1 d7) else (fX12_meansDeed_J209 N g x0 x1 0 d7)) else if (dI d7 r8 x1.toNatClampNeg) = 38 then (gd (¬ ((0 : Int32) < 0 ∨ gL g r2 ≤ (0 : Int32).toNatClampNeg)) <| bd (sI d7 r2 (0 : Int32).toNatClampNeg 8) fun d85 => (cb (fX12_within N g x0 (x1 + 1) 1 200 d85) fun u88 d86 => (bd (sI d86 r2 (1 : Int32).toNatClampNeg u88) fun d89 => (cb (fX12_within N g x0 (x1 + 2) 1 200 d89) fun u92 d90 => (bd (sI d90 r2 (2 : Int32).toNatClampNeg u92) fun d93 => (fX12_meansDeed_J347 N g x0 x1 d93)))))) else none))))
set_option maxHeartbeats 4000000 in
set_option maxRecDepth 100000 in
theorem tX12_meansDeed_E {p : Program} {l : Launch} {e : Env} {s : State} {m : MethodId} {args : Array Value} {below : List Frame} {meth : Method} {c : Code} {D : va_G} {cy : Nat → ClassId} {B : Bs} (C : Cx p s m args c cX12_meansDeed 3 RX12 D cy B) (hr : meth.sig.returnType = none) (hlocks : meth.locks = false) {N : Nat} {g : Gs} {x0 : Nat} {x1 : Int32}  {dz : Ds} {d : Ds} (hf : fX12_meansDeed N g x0 x1 d = some ((), dz)) : WB p l e rmX12_meansDeed s m args below meth c 3 D cy B 0 0 (MQ below (QV D cy B g dz) args s 0 0 (wA B)) g d [(0, .ref (ad B x0)), (1, .int x1)] 0 [] := by
  unfold fX12_meansDeed at hf
  refine b_aload_n C dX12_meansDeed_0 0 rfl rfl ?_
  obtain ⟨h1, hf⟩ := gd_s hf
  obtain ⟨r2, er2, hf⟩ := ob_s hf
  refine b_gR C dX12_meansDeed_1 fl_X12_50 h1 er2 ?_
  refine b_iconst C (v := 1) dX12_meansDeed_4 (by decide) ?_
  refine b_iconst C (v := (-1)) dX12_meansDeed_5 (by decide) ?_
  obtain ⟨h3, hf⟩ := gd_s hf
  obtain ⟨h4, hf⟩ := gd_s hf
  obtain ⟨d5, ed5, hf⟩ := bd_s hf
  refine b_iast C h3 h4 ed5 dX12_meansDeed_6 ?_
  refine b_aload_n C dX12_meansDeed_7 0 rfl rfl ?_
  refine b_gR C dX12_meansDeed_8 fl_X12_50 h1 er2 ?_
  refine b_iconst C (v := 2) dX12_meansDeed_11 (by decide) ?_
  refine b_iconst C (v := (-1)) dX12_meansDeed_12 (by decide) ?_
  obtain ⟨h6, hf⟩ := gd_s hf
  obtain ⟨d7, ed7, hf⟩ := bd_s hf
  refine b_iast C h3 h6 ed7 dX12_meansDeed_13 ?_
  refine b_aload_n C dX12_meansDeed_14 0 rfl rfl ?_
  obtain ⟨r8, er8, hf⟩ := ob_s hf
  refine b_gR C dX12_meansDeed_15 fl_X12_20 h1 er8 ?_
  refine b_iload_n C dX12_meansDeed_18 1 rfl rfl ?_
  obtain ⟨h9, hf⟩ := gd_s hf
  obtain ⟨h10, hf⟩ := gd_s hf
  refine b_iald C h9 h10 dX12_meansDeed_19 ?_
  by_cases c11 : (dI d7 r8 x1.toNatClampNeg).toInt < 31 ∨ 38 < (dI d7 r8 x1.toNatClampNeg).toInt
  · have hf := it_s c11 hf
    refine b_tabOut C (tgt := 324) dX12_meansDeed_20 c11 (by decide) ?_
    refine b_aload_n C dX12_meansDeed_324 0 rfl rfl ?_
    refine b_gR C dX12_meansDeed_325 fl_X12_50 h1 er2 ?_
    refine b_iconst C (v := 0) dX12_meansDeed_328 (by decide) ?_
    refine b_bipush C (v := 9) dX12_meansDeed_329 (by decide) ?_
    obtain ⟨h12, hf⟩ := gd_s hf
    obtain ⟨d13, ed13, hf⟩ := bd_s hf
    refine b_iast C h3 h12 ed13 dX12_meansDeed_331 ?_
    refine b_aload_n C dX12_meansDeed_332 0 rfl rfl ?_
    refine b_gR C dX12_meansDeed_333 fl_X12_50 h1 er2 ?_
    refine b_iconst C (v := 1) dX12_meansDeed_336 (by decide) ?_
    refine b_aload_n C dX12_meansDeed_337 0 rfl rfl ?_
    refine b_iload_n C dX12_meansDeed_338 1 rfl rfl ?_
    refine b_iconst C (v := 1) dX12_meansDeed_339 (by decide) ?_
    refine b_iadd C dX12_meansDeed_340 ?_
    refine b_iconst C (v := 0) dX12_meansDeed_341 (by decide) ?_
    refine b_iconst C (v := 3) dX12_meansDeed_342 (by decide) ?_
    obtain ⟨u16, d14, k15, hf⟩ := cb_s hf
    refine b_cVI C [.int 1, .ref (ad B r2)] dX12_meansDeed_343 (kX12_within l D cy B k15) lv_X12_177 ⟨rfl, rfl, Nat.le_of_ble_eq_true rfl, Nat.le_of_ble_eq_true rfl⟩ h1 (by decide) rfl (Nat.le_of_ble_eq_true rfl) ⟨Nat.zero_le _, Nat.zero_le _⟩ rfl ?_
    obtain ⟨d17, ed17, hf⟩ := bd_s hf
    refine b_iast C h3 h4 ed17 dX12_meansDeed_346 ?_
    refine b_sub [(0, .ref (ad B x0)), (1, .int x1)] [0, 1] rfl ?_
    exact tX12_meansDeed_347 C hr hlocks hf
  · have hf := if_s c11 hf
    by_cases c18 : (dI d7 r8 x1.toNatClampNeg) = 31
    · have hf := it_s c18 hf
      refine b_tabIn C (tgt := 68) (off := 48) dX12_meansDeed_20 c18 (by decide) (by decide) (by decide) (by decide) ?_
      refine b_aload_n C dX12_meansDeed_68 0 rfl rfl ?_
      refine b_gR C dX12_meansDeed_69 fl_X12_50 h1 er2 ?_
      refine b_iconst C (v := 0) dX12_meansDeed_72 (by decide) ?_
      refine b_iconst C (v := 0) dX12_meansDeed_73 (by decide) ?_
      obtain ⟨h19, hf⟩ := gd_s hf
      obtain ⟨d20, ed20, hf⟩ := bd_s hf
      refine b_iast C h3 h19 ed20 dX12_meansDeed_74 ?_
      refine b_aload_n C dX12_meansDeed_75 0 rfl rfl ?_
      refine b_gR C dX12_meansDeed_76 fl_X12_50 h1 er2 ?_
      refine b_iconst C (v := 1) dX12_meansDeed_79 (by decide) ?_
      refine b_aload_n C dX12_meansDeed_80 0 rfl rfl ?_
      refine b_iload_n C dX12_meansDeed_81 1 rfl rfl ?_
      refine b_iconst C (v := 1) dX12_meansDeed_82 (by decide) ?_
      refine b_iadd C dX12_meansDeed_83 ?_
      refine b_iconst C (v := 1) dX12_meansDeed_84 (by decide) ?_
      refine b_sipush C (v := 200) dX12_meansDeed_85 (by decide) ?_
      obtain ⟨u23, d21, k22, hf⟩ := cb_s hf
      refine b_cVI C [.int 1, .ref (ad B r2)] dX12_meansDeed_88 (kX12_within l D cy B k22) lv_X12_177 ⟨rfl, rfl, Nat.le_of_ble_eq_true rfl, Nat.le_of_ble_eq_true rfl⟩ h1 (by decide) rfl (Nat.le_of_ble_eq_true rfl) ⟨Nat.zero_le _, Nat.zero_le _⟩ rfl ?_
      obtain ⟨d24, ed24, hf⟩ := bd_s hf
      refine b_iast C h3 h4 ed24 dX12_meansDeed_91 ?_
      refine b_goto C (tgt := 347) dX12_meansDeed_92 (by decide) ?_
      refine b_sub [(0, .ref (ad B x0)), (1, .int x1)] [0, 1] rfl ?_
      exact tX12_meansDeed_347 C hr hlocks hf
    have hf := if_s c18 hf
    by_cases c25 : (dI d7 r8 x1.toNatClampNeg) = 32
    · have hf := it_s c25 hf
      refine b_tabIn C (tgt := 95) (off := 75) dX12_meansDeed_20 c25 (by decide) (by decide) (by decide) (by decide) ?_
      refine b_aload_n C dX12_meansDeed_95 0 rfl rfl ?_
      refine b_gR C dX12_meansDeed_96 fl_X12_50 h1 er2 ?_
      refine b_iconst C (v := 0) dX12_meansDeed_99 (by decide) ?_
      refine b_iconst C (v := 1) dX12_meansDeed_100 (by decide) ?_
      obtain ⟨h26, hf⟩ := gd_s hf
      obtain ⟨d27, ed27, hf⟩ := bd_s hf
      refine b_iast C h3 h26 ed27 dX12_meansDeed_101 ?_
      refine b_aload_n C dX12_meansDeed_102 0 rfl rfl ?_
      refine b_gR C dX12_meansDeed_103 fl_X12_50 h1 er2 ?_
      refine b_iconst C (v := 1) dX12_meansDeed_106 (by decide) ?_
      refine b_aload_n C dX12_meansDeed_107 0 rfl rfl ?_
      refine b_iload_n C dX12_meansDeed_108 1 rfl rfl ?_
      refine b_iconst C (v := 1) dX12_meansDeed_109 (by decide) ?_
      refine b_iadd C dX12_meansDeed_110 ?_
      refine b_iconst C (v := 0) dX12_meansDeed_111 (by decide) ?_
      refine b_bipush C (v := 7) dX12_meansDeed_112 (by decide) ?_
      obtain ⟨u30, d28, k29, hf⟩ := cb_s hf
      refine b_cVI C [.int 1, .ref (ad B r2)] dX12_meansDeed_114 (kX12_within l D cy B k29) lv_X12_177 ⟨rfl, rfl, Nat.le_of_ble_eq_true rfl, Nat.le_of_ble_eq_true rfl⟩ h1 (by decide) rfl (Nat.le_of_ble_eq_true rfl) ⟨Nat.zero_le _, Nat.zero_le _⟩ rfl ?_
      obtain ⟨d31, ed31, hf⟩ := bd_s hf
      refine b_iast C h3 h4 ed31 dX12_meansDeed_117 ?_
      refine b_goto C (tgt := 347) dX12_meansDeed_118 (by decide) ?_
      refine b_sub [(0, .ref (ad B x0)), (1, .int x1)] [0, 1] rfl ?_
      exact tX12_meansDeed_347 C hr hlocks hf
    have hf := if_s c25 hf
    by_cases c32 : (dI d7 r8 x1.toNatClampNeg) = 33
    · have hf := it_s c32 hf
      refine b_tabIn C (tgt := 121) (off := 101) dX12_meansDeed_20 c32 (by decide) (by decide) (by decide) (by decide) ?_
      refine b_aload_n C dX12_meansDeed_121 0 rfl rfl ?_
      refine b_gR C dX12_meansDeed_122 fl_X12_50 h1 er2 ?_
      refine b_iconst C (v := 0) dX12_meansDeed_125 (by decide) ?_
      refine b_iconst C (v := 2) dX12_meansDeed_126 (by decide) ?_
      obtain ⟨h33, hf⟩ := gd_s hf
      obtain ⟨d34, ed34, hf⟩ := bd_s hf
      refine b_iast C h3 h33 ed34 dX12_meansDeed_127 ?_
      refine b_aload_n C dX12_meansDeed_128 0 rfl rfl ?_
      refine b_gR C dX12_meansDeed_129 fl_X12_50 h1 er2 ?_
      refine b_iconst C (v := 1) dX12_meansDeed_132 (by decide) ?_
      refine b_aload_n C dX12_meansDeed_133 0 rfl rfl ?_
      refine b_iload_n C dX12_meansDeed_134 1 rfl rfl ?_
      refine b_iconst C (v := 1) dX12_meansDeed_135 (by decide) ?_
      refine b_iadd C dX12_meansDeed_136 ?_
      refine b_iconst C (v := 1) dX12_meansDeed_137 (by decide) ?_
      refine b_iconst C (v := 3) dX12_meansDeed_138 (by decide) ?_
      obtain ⟨u37, d35, k36, hf⟩ := cb_s hf
      refine b_cVI C [.int 1, .ref (ad B r2)] dX12_meansDeed_139 (kX12_within l D cy B k36) lv_X12_177 ⟨rfl, rfl, Nat.le_of_ble_eq_true rfl, Nat.le_of_ble_eq_true rfl⟩ h1 (by decide) rfl (Nat.le_of_ble_eq_true rfl) ⟨Nat.zero_le _, Nat.zero_le _⟩ rfl ?_
      obtain ⟨d38, ed38, hf⟩ := bd_s hf
      refine b_iast C h3 h4 ed38 dX12_meansDeed_142 ?_
      refine b_goto C (tgt := 347) dX12_meansDeed_143 (by decide) ?_
      refine b_sub [(0, .ref (ad B x0)), (1, .int x1)] [0, 1] rfl ?_
      exact tX12_meansDeed_347 C hr hlocks hf
    have hf := if_s c32 hf
    by_cases c39 : (dI d7 r8 x1.toNatClampNeg) = 34
    · have hf := it_s c39 hf
      refine b_tabIn C (tgt := 146) (off := 126) dX12_meansDeed_20 c39 (by decide) (by decide) (by decide) (by decide) ?_
      refine b_aload_n C dX12_meansDeed_146 0 rfl rfl ?_
      refine b_gR C dX12_meansDeed_147 fl_X12_50 h1 er2 ?_
      refine b_iconst C (v := 0) dX12_meansDeed_150 (by decide) ?_
      refine b_iconst C (v := 3) dX12_meansDeed_151 (by decide) ?_
      obtain ⟨h40, hf⟩ := gd_s hf
      obtain ⟨d41, ed41, hf⟩ := bd_s hf
      refine b_iast C h3 h40 ed41 dX12_meansDeed_152 ?_
      refine b_sub [(0, .ref (ad B x0)), (1, .int x1)] [0, 1] rfl ?_
      exact tX12_meansDeed_153 C hr hlocks hf
    have hf := if_s c39 hf
    by_cases c50 : (dI d7 r8 x1.toNatClampNeg) = 35
    · have hf := it_s c50 hf
      refine b_tabIn C (tgt := 171) (off := 151) dX12_meansDeed_20 c50 (by decide) (by decide) (by decide) (by decide) ?_
      refine b_aload_n C dX12_meansDeed_171 0 rfl rfl ?_
      refine b_gR C dX12_meansDeed_172 fl_X12_50 h1 er2 ?_
      refine b_iconst C (v := 0) dX12_meansDeed_175 (by decide) ?_
      refine b_iconst C (v := 4) dX12_meansDeed_176 (by decide) ?_
      obtain ⟨h51, hf⟩ := gd_s hf
      obtain ⟨d52, ed52, hf⟩ := bd_s hf
      refine b_iast C h3 h51 ed52 dX12_meansDeed_177 ?_
      refine b_goto C (tgt := 347) dX12_meansDeed_178 (by decide) ?_
      refine b_sub [(0, .ref (ad B x0)), (1, .int x1)] [0, 1] rfl ?_
      exact tX12_meansDeed_347 C hr hlocks hf
    have hf := if_s c50 hf
    by_cases c53 : (dI d7 r8 x1.toNatClampNeg) = 36
    · have hf := it_s c53 hf
      refine b_tabIn C (tgt := 181) (off := 161) dX12_meansDeed_20 c53 (by decide) (by decide) (by decide) (by decide) ?_
      refine b_aload_n C dX12_meansDeed_181 0 rfl rfl ?_
      refine b_gR C dX12_meansDeed_182 fl_X12_50 h1 er2 ?_
      refine b_iconst C (v := 0) dX12_meansDeed_185 (by decide) ?_
      refine b_iconst C (v := 5) dX12_meansDeed_186 (by decide) ?_
      obtain ⟨h54, hf⟩ := gd_s hf
      obtain ⟨d55, ed55, hf⟩ := bd_s hf
      refine b_iast C h3 h54 ed55 dX12_meansDeed_187 ?_
      refine b_goto C (tgt := 347) dX12_meansDeed_188 (by decide) ?_
      refine b_sub [(0, .ref (ad B x0)), (1, .int x1)] [0, 1] rfl ?_
      exact tX12_meansDeed_347 C hr hlocks hf
    have hf := if_s c53 hf
    by_cases c56 : (dI d7 r8 x1.toNatClampNeg) = 37
    · have hf := it_s c56 hf
      refine b_tabIn C (tgt := 191) (off := 171) dX12_meansDeed_20 c56 (by decide) (by decide) (by decide) (by decide) ?_
      refine b_aload_n C dX12_meansDeed_191 0 rfl rfl ?_
      refine b_gR C dX12_meansDeed_192 fl_X12_20 h1 er8 ?_
      refine b_iload_n C dX12_meansDeed_195 1 rfl rfl ?_
      refine b_iconst C (v := 2) dX12_meansDeed_196 (by decide) ?_
      refine b_iadd C dX12_meansDeed_197 ?_
      obtain ⟨h57, hf⟩ := gd_s hf
      refine b_iald C h9 h57 dX12_meansDeed_198 ?_
      refine b_bipush C (v := 33) dX12_meansDeed_199 (by decide) ?_
      refine b_icmp_ne C (tgt := 208) dX12_meansDeed_201 (by decide) (fun c58 => ?_) (fun c58 => ?_)
      · have hf := if_s c58 hf
        refine b_iconst C (v := 0) dX12_meansDeed_208 (by decide) ?_
        refine b_sub [(0, .ref (ad B x0)), (1, .int x1)] [0, 1] rfl ?_
        exact tX12_meansDeed_209 C hr hlocks hf
      · have hf := it_s c58 hf
        refine b_iconst C (v := 1) dX12_meansDeed_204 (by decide) ?_
        refine b_goto C (tgt := 209) dX12_meansDeed_205 (by decide) ?_
        refine b_sub [(0, .ref (ad B x0)), (1, .int x1)] [0, 1] rfl ?_
        exact tX12_meansDeed_209 C hr hlocks hf
    have hf := if_s c56 hf
    by_cases c83 : (dI d7 r8 x1.toNatClampNeg) = 38
    · have hf := it_s c83 hf
      refine b_tabIn C (tgt := 279) (off := 259) dX12_meansDeed_20 c83 (by decide) (by decide) (by decide) (by decide) ?_
      refine b_aload_n C dX12_meansDeed_279 0 rfl rfl ?_
      refine b_gR C dX12_meansDeed_280 fl_X12_50 h1 er2 ?_
      refine b_iconst C (v := 0) dX12_meansDeed_283 (by decide) ?_
      refine b_bipush C (v := 8) dX12_meansDeed_284 (by decide) ?_
      obtain ⟨h84, hf⟩ := gd_s hf
      obtain ⟨d85, ed85, hf⟩ := bd_s hf
      refine b_iast C h3 h84 ed85 dX12_meansDeed_286 ?_
      refine b_aload_n C dX12_meansDeed_287 0 rfl rfl ?_
      refine b_gR C dX12_meansDeed_288 fl_X12_50 h1 er2 ?_
      refine b_iconst C (v := 1) dX12_meansDeed_291 (by decide) ?_
      refine b_aload_n C dX12_meansDeed_292 0 rfl rfl ?_
      refine b_iload_n C dX12_meansDeed_293 1 rfl rfl ?_
      refine b_iconst C (v := 1) dX12_meansDeed_294 (by decide) ?_
      refine b_iadd C dX12_meansDeed_295 ?_
      refine b_iconst C (v := 1) dX12_meansDeed_296 (by decide) ?_
      refine b_sipush C (v := 200) dX12_meansDeed_297 (by decide) ?_
      obtain ⟨u88, d86, k87, hf⟩ := cb_s hf
      refine b_cVI C [.int 1, .ref (ad B r2)] dX12_meansDeed_300 (kX12_within l D cy B k87) lv_X12_177 ⟨rfl, rfl, Nat.le_of_ble_eq_true rfl, Nat.le_of_ble_eq_true rfl⟩ h1 (by decide) rfl (Nat.le_of_ble_eq_true rfl) ⟨Nat.zero_le _, Nat.zero_le _⟩ rfl ?_
      obtain ⟨d89, ed89, hf⟩ := bd_s hf
      refine b_iast C h3 h4 ed89 dX12_meansDeed_303 ?_
      refine b_aload_n C dX12_meansDeed_304 0 rfl rfl ?_
      refine b_gR C dX12_meansDeed_305 fl_X12_50 h1 er2 ?_
      refine b_iconst C (v := 2) dX12_meansDeed_308 (by decide) ?_
      refine b_aload_n C dX12_meansDeed_309 0 rfl rfl ?_
      refine b_iload_n C dX12_meansDeed_310 1 rfl rfl ?_
      refine b_iconst C (v := 2) dX12_meansDeed_311 (by decide) ?_
      refine b_iadd C dX12_meansDeed_312 ?_
      refine b_iconst C (v := 1) dX12_meansDeed_313 (by decide) ?_
      refine b_sipush C (v := 200) dX12_meansDeed_314 (by decide) ?_
      obtain ⟨u92, d90, k91, hf⟩ := cb_s hf
      refine b_cVI C [.int 2, .ref (ad B r2)] dX12_meansDeed_317 (kX12_within l D cy B k91) lv_X12_177 ⟨rfl, rfl, Nat.le_of_ble_eq_true rfl, Nat.le_of_ble_eq_true rfl⟩ h1 (by decide) rfl (Nat.le_of_ble_eq_true rfl) ⟨Nat.zero_le _, Nat.zero_le _⟩ rfl ?_
      obtain ⟨d93, ed93, hf⟩ := bd_s hf
      refine b_iast C h3 h6 ed93 dX12_meansDeed_320 ?_
      refine b_goto C (tgt := 347) dX12_meansDeed_321 (by decide) ?_
      refine b_sub [(0, .ref (ad B x0)), (1, .int x1)] [0, 1] rfl ?_
      exact tX12_meansDeed_347 C hr hlocks hf
    have hf := if_s c83 hf
    cases hf
theorem kX12_meansDeed (l : Launch) (D : va_G) (cy : Nat → ClassId) (B : Bs) {N : Nat} {g : Gs} {x0 : Nat} {x1 : Int32}  {dz : Ds} {d : Ds} (hf : fX12_meansDeed N g x0 x1 d = some ((), dz)) : Met l yX12_meansDeed (.code yX12_meansDeed cX12_meansDeed 3 none :: wl) rmX12_meansDeed (PC D cy B [.ref (ad B x0), .int x1] g d) (QV D cy B g dz) 0 0 (wA B) :=
  met_of (by decide +kernel) (Nat.le_of_ble_eq_true rfl) (fun p e s m args below meth c C hr hlocks _ => b_sub [(0, .ref (ad B x0)), (1, .int x1)] [0, 1] rfl (tX12_meansDeed_E C hr hlocks hf))
/-! KeyMatrixModel.meansKey(I)V -/
theorem yo_X12_keyTold : yX12_keyTold.cls ≠ "java/lang/invoke/MethodHandle" ∧ yX12_keyTold.cls ≠ "java/lang/invoke/VarHandle" ∧ (parseMethodDescriptor yX12_keyTold.desc).map (fun d => d.parameters.length) = some 1 := by decide +kernel
theorem co_X12_keyTold : Cond.code yX12_keyTold cX12_keyTold 2 (some .int) ∈ wl := mW (mT6 (List.mem_of_getElem? (i := 41) (by decide +kernel))) rfl
theorem in_X12_keyTold : Cond.initialized yX12_keyTold.cls ∈ wl := mW (mT1 (List.mem_of_getElem? (i := 12) (by decide +kernel))) rfl
theorem im_X12_keyTold : Cond.instanceMethod yX12_keyTold ∈ wl := mW (mT6 (List.mem_of_getElem? (i := 40) (by decide +kernel))) rfl
theorem se_X12_keyTold : Cond.selects yX12_keyTold.cls yX12_keyTold yX12_keyTold ∈ wl := mW (mT0 (List.mem_of_getElem? (i := 48) (by decide +kernel))) rfl
theorem lv_X12_197 : LV RX12 197 yX12_keyTold cX12_keyTold 2 (some .int) 1 11 := ⟨⟨(RX12, TX12, 33), rfl, rfl⟩, yo_X12_keyTold, mW (mT6 (List.mem_of_getElem? (i := 38) (by decide +kernel))) rfl, im_X12_keyTold, se_X12_keyTold, in_X12_keyTold, co_X12_keyTold⟩
theorem yo_X12_meansDeed : yX12_meansDeed.cls ≠ "java/lang/invoke/MethodHandle" ∧ yX12_meansDeed.cls ≠ "java/lang/invoke/VarHandle" ∧ (parseMethodDescriptor yX12_meansDeed.desc).map (fun d => d.parameters.length) = some 1 := by decide +kernel
theorem co_X12_meansDeed : Cond.code yX12_meansDeed cX12_meansDeed 3 none ∈ wl := mW (mT6 (List.mem_of_getElem? (i := 45) (by decide +kernel))) rfl
theorem in_X12_meansDeed : Cond.initialized yX12_meansDeed.cls ∈ wl := mW (mT1 (List.mem_of_getElem? (i := 12) (by decide +kernel))) rfl
theorem im_X12_meansDeed : Cond.instanceMethod yX12_meansDeed ∈ wl := mW (mT6 (List.mem_of_getElem? (i := 44) (by decide +kernel))) rfl
theorem se_X12_meansDeed : Cond.selects yX12_meansDeed.cls yX12_meansDeed yX12_meansDeed ∈ wl := mW (mT0 (List.mem_of_getElem? (i := 49) (by decide +kernel))) rfl
theorem lv_X12_200 : LV RX12 200 yX12_meansDeed cX12_meansDeed 3 none 1 11 := ⟨⟨(RX12, TX12, 33), rfl, rfl⟩, yo_X12_meansDeed, mW (mT6 (List.mem_of_getElem? (i := 42) (by decide +kernel))) rfl, im_X12_meansDeed, se_X12_meansDeed, in_X12_meansDeed, co_X12_meansDeed⟩
theorem dX12_meansKey_0 : decode cX12_meansKey 0 = .ok (.aload_n 0, 1) := by decide +kernel
theorem dX12_meansKey_1 : decode cX12_meansKey 1 = .ok (.iload_n 1, 1) := by decide +kernel
theorem dX12_meansKey_2 : decode cX12_meansKey 2 = .ok (.iconst 1, 1) := by decide +kernel
theorem dX12_meansKey_3 : decode cX12_meansKey 3 = .ok (.iadd, 1) := by decide +kernel
theorem dX12_meansKey_4 : decode cX12_meansKey 4 = .ok (.iconst 0, 1) := by decide +kernel
theorem dX12_meansKey_5 : decode cX12_meansKey 5 = .ok (.iconst 3, 1) := by decide +kernel
theorem dX12_meansKey_6 : decode cX12_meansKey 6 = .ok (.invokevirtual 177, 3) := by decide +kernel
theorem dX12_meansKey_9 : decode cX12_meansKey 9 = .ok (.istore_n 2, 1) := by decide +kernel
theorem dX12_meansKey_10 : decode cX12_meansKey 10 = .ok (.aload_n 0, 1) := by decide +kernel
theorem dX12_meansKey_11 : decode cX12_meansKey 11 = .ok (.iload_n 1, 1) := by decide +kernel
theorem dX12_meansKey_12 : decode cX12_meansKey 12 = .ok (.iconst 2, 1) := by decide +kernel
theorem dX12_meansKey_13 : decode cX12_meansKey 13 = .ok (.iadd, 1) := by decide +kernel
theorem dX12_meansKey_14 : decode cX12_meansKey 14 = .ok (.invokevirtual 197, 3) := by decide +kernel
theorem dX12_meansKey_17 : decode cX12_meansKey 17 = .ok (.istore_n 3, 1) := by decide +kernel
theorem dX12_meansKey_18 : decode cX12_meansKey 18 = .ok (.aload_n 0, 1) := by decide +kernel
theorem dX12_meansKey_19 : decode cX12_meansKey 19 = .ok (.iload_n 1, 1) := by decide +kernel
theorem dX12_meansKey_20 : decode cX12_meansKey 20 = .ok (.iconst 3, 1) := by decide +kernel
theorem dX12_meansKey_21 : decode cX12_meansKey 21 = .ok (.iadd, 1) := by decide +kernel
theorem dX12_meansKey_22 : decode cX12_meansKey 22 = .ok (.invokevirtual 200, 3) := by decide +kernel
theorem dX12_meansKey_25 : decode cX12_meansKey 25 = .ok (.aload_n 0, 1) := by decide +kernel
theorem dX12_meansKey_26 : decode cX12_meansKey 26 = .ok (.getfield 133, 3) := by decide +kernel
theorem dX12_meansKey_29 : decode cX12_meansKey 29 = .ok (.ifCond .le 4, 3) := by decide +kernel
theorem dX12_meansKey_32 : decode cX12_meansKey 32 = .ok (.return_, 1) := by decide +kernel
theorem dX12_meansKey_33 : decode cX12_meansKey 33 = .ok (.iconst 0, 1) := by decide +kernel
theorem dX12_meansKey_34 : decode cX12_meansKey 34 = .ok (.istore 4, 2) := by decide +kernel
theorem dX12_meansKey_36 : decode cX12_meansKey 36 = .ok (.iload 4, 2) := by decide +kernel
theorem dX12_meansKey_38 : decode cX12_meansKey 38 = .ok (.iconst 3, 1) := by decide +kernel
theorem dX12_meansKey_39 : decode cX12_meansKey 39 = .ok (.if_icmp .ge 35, 3) := by decide +kernel
theorem dX12_meansKey_42 : decode cX12_meansKey 42 = .ok (.aload_n 0, 1) := by decide +kernel
theorem dX12_meansKey_43 : decode cX12_meansKey 43 = .ok (.getfield 43, 3) := by decide +kernel
theorem dX12_meansKey_46 : decode cX12_meansKey 46 = .ok (.bipush 12, 2) := by decide +kernel
theorem dX12_meansKey_48 : decode cX12_meansKey 48 = .ok (.iconst 3, 1) := by decide +kernel
theorem dX12_meansKey_49 : decode cX12_meansKey 49 = .ok (.bipush 24, 2) := by decide +kernel
theorem dX12_meansKey_51 : decode cX12_meansKey 51 = .ok (.iload_n 2, 1) := by decide +kernel
theorem dX12_meansKey_52 : decode cX12_meansKey 52 = .ok (.imul, 1) := by decide +kernel
theorem dX12_meansKey_53 : decode cX12_meansKey 53 = .ok (.iload_n 3, 1) := by decide +kernel
theorem dX12_meansKey_54 : decode cX12_meansKey 54 = .ok (.iadd, 1) := by decide +kernel
theorem dX12_meansKey_55 : decode cX12_meansKey 55 = .ok (.imul, 1) := by decide +kernel
theorem dX12_meansKey_56 : decode cX12_meansKey 56 = .ok (.iadd, 1) := by decide +kernel
theorem dX12_meansKey_57 : decode cX12_meansKey 57 = .ok (.iload 4, 2) := by decide +kernel
theorem dX12_meansKey_59 : decode cX12_meansKey 59 = .ok (.iadd, 1) := by decide +kernel
theorem dX12_meansKey_60 : decode cX12_meansKey 60 = .ok (.aload_n 0, 1) := by decide +kernel
theorem dX12_meansKey_61 : decode cX12_meansKey 61 = .ok (.getfield 50, 3) := by decide +kernel
theorem dX12_meansKey_64 : decode cX12_meansKey 64 = .ok (.iload 4, 2) := by decide +kernel
theorem dX12_meansKey_66 : decode cX12_meansKey 66 = .ok (.iaload, 1) := by decide +kernel
theorem dX12_meansKey_67 : decode cX12_meansKey 67 = .ok (.iastore, 1) := by decide +kernel
theorem dX12_meansKey_68 : decode cX12_meansKey 68 = .ok (.iinc 4 1, 3) := by decide +kernel
theorem dX12_meansKey_71 : decode cX12_meansKey 71 = .ok (.goto (-35), 3) := by decide +kernel
theorem dX12_meansKey_74 : decode cX12_meansKey 74 = .ok (.return_, 1) := by decide +kernel
def rmX12_meansKey : Room := { frames := 3, cells := 0, slots := 0, locals := 68 }
set_option maxRecDepth 100000 in
def fX12_meansKey_B36 (N : Nat) (g : Gs) (x0 : Nat) (x1 : Int32) (K36 : Int32 × Int32 × Int32 × Ds → Option (Unit × Ds)) (y2 : Int32) (y3 : Int32) (y4 : Int32) (d : Ds) : Option (Unit × Ds) := if (3 : Int32) ≤ y4 then (some ((), d)) else (gd (chk g x0 11) <| ob (gR g x0 18) fun r13 => (ob (gR g x0 23) fun r14 => (gd (chk g r14 102) <| gd (¬ (y4 < 0 ∨ gL g r14 ≤ y4.toNatClampNeg)) <| gd (chk g r13 102) <| gd (¬ ((((12 : Int32) + ((3 : Int32) * (((24 : Int32) * y2) + y3))) + y4) < 0 ∨ gL g r13 ≤ (((12 : Int32) + ((3 : Int32) * (((24 : Int32) * y2) + y3))) + y4).toNatClampNeg)) <| bd (sI d r13 (((12 : Int32) + ((3 : Int32) * (((24 : Int32) * y2) + y3))) + y4).toNatClampNeg (dI d r14 y4.toNatClampNeg)) fun d19 => (bd (y4 + 1) fun u20 => (K36 (y2, y3, u20, d19))))))
set_option maxHeartbeats 4000000 in
set_option maxRecDepth 100000 in
theorem tX12_meansKey_36 {p : Program} {l : Launch} {e : Env} {s : State} {m : MethodId} {args : Array Value} {below : List Frame} {meth : Method} {c : Code} {D : va_G} {cy : Nat → ClassId} {B : Bs} (C : Cx p s m args c cX12_meansKey 5 RX12 D cy B) (hr : meth.sig.returnType = none) (hlocks : meth.locks = false) {N : Nat} {g : Gs} {x0 : Nat} {x1 : Int32}  {dz : Ds} {K36 : Int32 × Int32 × Int32 × Ds → Option (Unit × Ds)} (hK36 : ∀ a, K36 a = some ((), dz) → WB p l e rmX12_meansKey s m args below meth c 5 D cy B 0 0 (MQ below (QV D cy B g dz) args s 0 0 (wA B)) g a.2.2.2 [(0, .ref (ad B x0)), (1, .int x1), (2, .int a.1), (3, .int a.2.1), (4, .int a.2.2.1)] 36 []) {y2 : Int32} {y3 : Int32} {y4 : Int32} {d : Ds} (hf : fX12_meansKey_B36 N g x0 x1 K36 y2 y3 y4 d = some ((), dz)) : WB p l e rmX12_meansKey s m args below meth c 5 D cy B 0 0 (MQ below (QV D cy B g dz) args s 0 0 (wA B)) g d [(0, .ref (ad B x0)), (1, .int x1), (2, .int y2), (3, .int y3), (4, .int y4)] 36 [] := by
  unfold fX12_meansKey_B36 at hf
  refine b_iload C dX12_meansKey_36 4 rfl ?_
  refine b_iconst C (v := 3) dX12_meansKey_38 (by decide) ?_
  refine b_icmp_ge C (tgt := 74) dX12_meansKey_39 (by decide) (fun c11 => ?_) (fun c11 => ?_)
  · have hf := it_s c11 hf
    exact b_vret C hr hlocks hf dX12_meansKey_74
  · have hf := if_s c11 hf
    refine b_aload_n C dX12_meansKey_42 0 rfl rfl ?_
    obtain ⟨h12, hf⟩ := gd_s hf
    obtain ⟨r13, er13, hf⟩ := ob_s hf
    refine b_gR C dX12_meansKey_43 fl_X12_43 h12 er13 ?_
    refine b_bipush C (v := 12) dX12_meansKey_46 (by decide) ?_
    refine b_iconst C (v := 3) dX12_meansKey_48 (by decide) ?_
    refine b_bipush C (v := 24) dX12_meansKey_49 (by decide) ?_
    refine b_iload_n C dX12_meansKey_51 2 rfl rfl ?_
    refine b_imul C dX12_meansKey_52 ?_
    refine b_iload_n C dX12_meansKey_53 3 rfl rfl ?_
    refine b_iadd C dX12_meansKey_54 ?_
    refine b_imul C dX12_meansKey_55 ?_
    refine b_iadd C dX12_meansKey_56 ?_
    refine b_iload C dX12_meansKey_57 4 rfl ?_
    refine b_iadd C dX12_meansKey_59 ?_
    refine b_aload_n C dX12_meansKey_60 0 rfl rfl ?_
    obtain ⟨r14, er14, hf⟩ := ob_s hf
    refine b_gR C dX12_meansKey_61 fl_X12_50 h12 er14 ?_
    refine b_iload C dX12_meansKey_64 4 rfl ?_
    obtain ⟨h15, hf⟩ := gd_s hf
    obtain ⟨h16, hf⟩ := gd_s hf
    refine b_iald C h15 h16 dX12_meansKey_66 ?_
    obtain ⟨h17, hf⟩ := gd_s hf
    obtain ⟨h18, hf⟩ := gd_s hf
    obtain ⟨d19, ed19, hf⟩ := bd_s hf
    refine b_iast C h17 h18 ed19 dX12_meansKey_67 ?_
    obtain ⟨u20, eu20, hf⟩ := bd_s hf
    refine b_iinc C dX12_meansKey_68 4 rfl (by rw [eu20]; rfl) [(4, .int u20), (0, .ref (ad B x0)), (1, .int x1), (2, .int y2), (3, .int y3)] (by decide) rfl ?_
    refine b_goto C (tgt := 36) dX12_meansKey_71 (by decide) ?_
    refine b_sub [(0, .ref (ad B x0)), (1, .int x1), (2, .int y2), (3, .int y3), (4, .int u20)] [1, 2, 3, 4, 0] rfl ?_
    exact hK36 (y2, y3, u20, d19) hf
def fX12_meansKey_L36 (N : Nat) (g : Gs) (x0 : Nat) (x1 : Int32) : Int32 × Int32 × Int32 × Ds → Option (Unit × Ds) := lp (fun K36 a => fX12_meansKey_B36 N g x0 x1 K36 a.1 a.2.1 a.2.2.1 a.2.2.2) N
theorem tX12_meansKey_L36 {p : Program} {l : Launch} {e : Env} {s : State} {m : MethodId} {args : Array Value} {below : List Frame} {meth : Method} {c : Code} {D : va_G} {cy : Nat → ClassId} {B : Bs} (C : Cx p s m args c cX12_meansKey 5 RX12 D cy B) (hr : meth.sig.returnType = none) (hlocks : meth.locks = false) {N : Nat} {g : Gs} {x0 : Nat} {x1 : Int32}  {dz : Ds} (a : Int32 × Int32 × Int32 × Ds) (hf : fX12_meansKey_L36 N g x0 x1 a = some ((), dz)) : WB p l e rmX12_meansKey s m args below meth c 5 D cy B 0 0 (MQ below (QV D cy B g dz) args s 0 0 (wA B)) g a.2.2.2 [(0, .ref (ad B x0)), (1, .int x1), (2, .int a.1), (3, .int a.2.1), (4, .int a.2.2.1)] 36 [] :=
  lp_w (fun K36 hK36 a ha => tX12_meansKey_36 C hr hlocks hK36 ha) N a hf
set_option maxRecDepth 100000 in
def fX12_meansKey (N : Nat) (g : Gs) (x0 : Nat) (x1 : Int32) (d : Ds) : Option (Unit × Ds) := gd (chk g x0 11) <| cb (fX12_within N g x0 (x1 + 1) 0 3 d) fun u4 d2 => (cb (fX12_keyTold N g x0 (x1 + 2) d2) fun u7 d5 => (cv (fX12_meansDeed N g x0 (x1 + 3) d5) fun d8 => (if (dI d8 x0 14) ≤ 0 then (fX12_meansKey_L36 N g x0 x1 (u4, u7, 0, d8)) else (some ((), d8)))))
set_option maxHeartbeats 4000000 in
set_option maxRecDepth 100000 in
theorem tX12_meansKey_E {p : Program} {l : Launch} {e : Env} {s : State} {m : MethodId} {args : Array Value} {below : List Frame} {meth : Method} {c : Code} {D : va_G} {cy : Nat → ClassId} {B : Bs} (C : Cx p s m args c cX12_meansKey 5 RX12 D cy B) (hr : meth.sig.returnType = none) (hlocks : meth.locks = false) {N : Nat} {g : Gs} {x0 : Nat} {x1 : Int32}  {dz : Ds} {d : Ds} (hf : fX12_meansKey N g x0 x1 d = some ((), dz)) : WB p l e rmX12_meansKey s m args below meth c 5 D cy B 0 0 (MQ below (QV D cy B g dz) args s 0 0 (wA B)) g d [(0, .ref (ad B x0)), (1, .int x1)] 0 [] := by
  unfold fX12_meansKey at hf
  refine b_aload_n C dX12_meansKey_0 0 rfl rfl ?_
  refine b_iload_n C dX12_meansKey_1 1 rfl rfl ?_
  refine b_iconst C (v := 1) dX12_meansKey_2 (by decide) ?_
  refine b_iadd C dX12_meansKey_3 ?_
  refine b_iconst C (v := 0) dX12_meansKey_4 (by decide) ?_
  refine b_iconst C (v := 3) dX12_meansKey_5 (by decide) ?_
  obtain ⟨h1, hf⟩ := gd_s hf
  obtain ⟨u4, d2, k3, hf⟩ := cb_s hf
  refine b_cVI C [] dX12_meansKey_6 (kX12_within l D cy B k3) lv_X12_177 ⟨rfl, rfl, Nat.le_of_ble_eq_true rfl, Nat.le_of_ble_eq_true rfl⟩ h1 (by decide) rfl (Nat.le_of_ble_eq_true rfl) ⟨Nat.zero_le _, Nat.zero_le _⟩ rfl ?_
  refine b_istore_n C dX12_meansKey_9 rfl [(2, .int u4), (0, .ref (ad B x0)), (1, .int x1)] (by decide) rfl ?_
  refine b_aload_n C dX12_meansKey_10 1 rfl rfl ?_
  refine b_iload_n C dX12_meansKey_11 2 rfl rfl ?_
  refine b_iconst C (v := 2) dX12_meansKey_12 (by decide) ?_
  refine b_iadd C dX12_meansKey_13 ?_
  obtain ⟨u7, d5, k6, hf⟩ := cb_s hf
  refine b_cVI C [] dX12_meansKey_14 (kX12_keyTold l D cy B k6) lv_X12_197 ⟨rfl, rfl, Nat.le_of_ble_eq_true rfl, Nat.le_of_ble_eq_true rfl⟩ h1 (by decide) rfl (Nat.le_of_ble_eq_true rfl) ⟨Nat.zero_le _, Nat.zero_le _⟩ rfl ?_
  refine b_istore_n C dX12_meansKey_17 rfl [(3, .int u7), (2, .int u4), (0, .ref (ad B x0)), (1, .int x1)] (by decide) rfl ?_
  refine b_aload_n C dX12_meansKey_18 2 rfl rfl ?_
  refine b_iload_n C dX12_meansKey_19 3 rfl rfl ?_
  refine b_iconst C (v := 3) dX12_meansKey_20 (by decide) ?_
  refine b_iadd C dX12_meansKey_21 ?_
  obtain ⟨d8, k9, hf⟩ := cv_s hf
  refine b_cVN C [] dX12_meansKey_22 (kX12_meansDeed l D cy B k9) lv_X12_200 ⟨rfl, rfl, Nat.le_of_ble_eq_true rfl, Nat.le_of_ble_eq_true rfl⟩ h1 (by decide) rfl (Nat.le_of_ble_eq_true rfl) ⟨Nat.zero_le _, Nat.zero_le _⟩ rfl ?_
  refine b_aload_n C dX12_meansKey_25 2 rfl rfl ?_
  refine b_gI C dX12_meansKey_26 fl_X12_133 h1 ?_
  refine b_if_le C (tgt := 33) dX12_meansKey_29 (by decide) (fun c10 => ?_) (fun c10 => ?_)
  · have hf := it_s c10 hf
    refine b_iconst C (v := 0) dX12_meansKey_33 (by decide) ?_
    refine b_istore C dX12_meansKey_34 [(4, .int 0), (3, .int u7), (2, .int u4), (0, .ref (ad B x0)), (1, .int x1)] (by decide) rfl ?_
    refine b_sub [(0, .ref (ad B x0)), (1, .int x1), (2, .int u4), (3, .int u7), (4, .int 0)] [3, 4, 2, 1, 0] rfl ?_
    exact tX12_meansKey_L36 C hr hlocks (u4, u7, 0, d8) hf
  · have hf := if_s c10 hf
    exact b_vret C hr hlocks hf dX12_meansKey_32
theorem kX12_meansKey (l : Launch) (D : va_G) (cy : Nat → ClassId) (B : Bs) {N : Nat} {g : Gs} {x0 : Nat} {x1 : Int32}  {dz : Ds} {d : Ds} (hf : fX12_meansKey N g x0 x1 d = some ((), dz)) : Met l yX12_meansKey (.code yX12_meansKey cX12_meansKey 5 none :: wl) rmX12_meansKey (PC D cy B [.ref (ad B x0), .int x1] g d) (QV D cy B g dz) 0 0 (wA B) :=
  met_of (by decide +kernel) (Nat.le_of_ble_eq_true rfl) (fun p e s m args below meth c C hr hlocks _ => b_sub [(0, .ref (ad B x0)), (1, .int x1)] [0, 1] rfl (tX12_meansKey_E C hr hlocks hf))
/-! KeyMatrixModel.isChorded(I)Z -/
theorem dX12_isChorded_0 : decode cX12_isChorded 0 = .ok (.iconst 0, 1) := by decide +kernel
theorem dX12_isChorded_1 : decode cX12_isChorded 1 = .ok (.istore_n 2, 1) := by decide +kernel
theorem dX12_isChorded_2 : decode cX12_isChorded 2 = .ok (.iload_n 2, 1) := by decide +kernel
theorem dX12_isChorded_3 : decode cX12_isChorded 3 = .ok (.aload_n 0, 1) := by decide +kernel
theorem dX12_isChorded_4 : decode cX12_isChorded 4 = .ok (.getfield 43, 3) := by decide +kernel
theorem dX12_isChorded_7 : decode cX12_isChorded 7 = .ok (.bipush 10, 2) := by decide +kernel
theorem dX12_isChorded_9 : decode cX12_isChorded 9 = .ok (.iaload, 1) := by decide +kernel
theorem dX12_isChorded_10 : decode cX12_isChorded 10 = .ok (.if_icmp .ge 45, 3) := by decide +kernel
theorem dX12_isChorded_13 : decode cX12_isChorded 13 = .ok (.aload_n 0, 1) := by decide +kernel
theorem dX12_isChorded_14 : decode cX12_isChorded 14 = .ok (.getfield 43, 3) := by decide +kernel
theorem dX12_isChorded_17 : decode cX12_isChorded 17 = .ok (.sipush 300, 3) := by decide +kernel
theorem dX12_isChorded_20 : decode cX12_isChorded 20 = .ok (.iconst 4, 1) := by decide +kernel
theorem dX12_isChorded_21 : decode cX12_isChorded 21 = .ok (.iload_n 2, 1) := by decide +kernel
theorem dX12_isChorded_22 : decode cX12_isChorded 22 = .ok (.imul, 1) := by decide +kernel
theorem dX12_isChorded_23 : decode cX12_isChorded 23 = .ok (.iadd, 1) := by decide +kernel
theorem dX12_isChorded_24 : decode cX12_isChorded 24 = .ok (.iaload, 1) := by decide +kernel
theorem dX12_isChorded_25 : decode cX12_isChorded 25 = .ok (.iload_n 1, 1) := by decide +kernel
theorem dX12_isChorded_26 : decode cX12_isChorded 26 = .ok (.if_icmp .eq 21, 3) := by decide +kernel
theorem dX12_isChorded_29 : decode cX12_isChorded 29 = .ok (.aload_n 0, 1) := by decide +kernel
theorem dX12_isChorded_30 : decode cX12_isChorded 30 = .ok (.getfield 43, 3) := by decide +kernel
theorem dX12_isChorded_33 : decode cX12_isChorded 33 = .ok (.sipush 300, 3) := by decide +kernel
theorem dX12_isChorded_36 : decode cX12_isChorded 36 = .ok (.iconst 4, 1) := by decide +kernel
theorem dX12_isChorded_37 : decode cX12_isChorded 37 = .ok (.iload_n 2, 1) := by decide +kernel
theorem dX12_isChorded_38 : decode cX12_isChorded 38 = .ok (.imul, 1) := by decide +kernel
theorem dX12_isChorded_39 : decode cX12_isChorded 39 = .ok (.iadd, 1) := by decide +kernel
theorem dX12_isChorded_40 : decode cX12_isChorded 40 = .ok (.iconst 1, 1) := by decide +kernel
theorem dX12_isChorded_41 : decode cX12_isChorded 41 = .ok (.iadd, 1) := by decide +kernel
theorem dX12_isChorded_42 : decode cX12_isChorded 42 = .ok (.iaload, 1) := by decide +kernel
theorem dX12_isChorded_43 : decode cX12_isChorded 43 = .ok (.iload_n 1, 1) := by decide +kernel
theorem dX12_isChorded_44 : decode cX12_isChorded 44 = .ok (.if_icmp .ne 5, 3) := by decide +kernel
theorem dX12_isChorded_47 : decode cX12_isChorded 47 = .ok (.iconst 1, 1) := by decide +kernel
theorem dX12_isChorded_48 : decode cX12_isChorded 48 = .ok (.ireturn, 1) := by decide +kernel
theorem dX12_isChorded_49 : decode cX12_isChorded 49 = .ok (.iinc 2 1, 3) := by decide +kernel
theorem dX12_isChorded_52 : decode cX12_isChorded 52 = .ok (.goto (-50), 3) := by decide +kernel
theorem dX12_isChorded_55 : decode cX12_isChorded 55 = .ok (.iconst 0, 1) := by decide +kernel
theorem dX12_isChorded_56 : decode cX12_isChorded 56 = .ok (.ireturn, 1) := by decide +kernel
def rmX12_isChorded : Room := { frames := 0, cells := 0, slots := 0, locals := 0 }
set_option maxRecDepth 100000 in
def fX12_isChorded_J47 (N : Nat) (g : Gs) (x0 : Nat) (x1 : Int32) (d : Ds) : Option (Int32 × Ds) := some (1, d)
set_option maxHeartbeats 4000000 in
set_option maxRecDepth 100000 in
theorem tX12_isChorded_47 {p : Program} {l : Launch} {e : Env} {s : State} {m : MethodId} {args : Array Value} {below : List Frame} {meth : Method} {c : Code} {D : va_G} {cy : Nat → ClassId} {B : Bs} (C : Cx p s m args c cX12_isChorded 3 RX12 D cy B) (hr : meth.sig.returnType = (some .boolean)) (hlocks : meth.locks = false) {N : Nat} {g : Gs} {x0 : Nat} {x1 : Int32} {vz : Int32} {dz : Ds} {d : Ds} (hf : fX12_isChorded_J47 N g x0 x1 d = some (vz, dz)) : WB p l e rmX12_isChorded s m args below meth c 3 D cy B 0 0 (MQ below (QI D cy B vz g dz) args s 0 0 (wA B)) g d [(0, .ref (ad B x0)), (1, .int x1)] 47 [] := by
  unfold fX12_isChorded_J47 at hf
  refine b_iconst C (v := 1) dX12_isChorded_47 (by decide) ?_
  exact b_zret C hr hlocks (by decide) hf dX12_isChorded_48
set_option maxRecDepth 100000 in
def fX12_isChorded_B2 (N : Nat) (g : Gs) (x0 : Nat) (x1 : Int32) (K2 : Int32 × Ds → Option (Int32 × Ds)) (y2 : Int32) (d : Ds) : Option (Int32 × Ds) := gd (chk g x0 11) <| ob (gR g x0 18) fun r2 => (gd (chk g r2 102) <| gd (¬ ((10 : Int32) < 0 ∨ gL g r2 ≤ (10 : Int32).toNatClampNeg)) <| if (dI d r2 (10 : Int32).toNatClampNeg) ≤ y2 then (some (0, d)) else (gd (¬ (((300 : Int32) + ((4 : Int32) * y2)) < 0 ∨ gL g r2 ≤ ((300 : Int32) + ((4 : Int32) * y2)).toNatClampNeg)) <| if (dI d r2 ((300 : Int32) + ((4 : Int32) * y2)).toNatClampNeg) = x1 then (fX12_isChorded_J47 N g x0 x1 d) else (gd (¬ ((((300 : Int32) + ((4 : Int32) * y2)) + 1) < 0 ∨ gL g r2 ≤ (((300 : Int32) + ((4 : Int32) * y2)) + 1).toNatClampNeg)) <| if (dI d r2 (((300 : Int32) + ((4 : Int32) * y2)) + 1).toNatClampNeg) = x1 then (fX12_isChorded_J47 N g x0 x1 d) else (bd (y2 + 1) fun u10 => (K2 (u10, d))))))
set_option maxHeartbeats 4000000 in
set_option maxRecDepth 100000 in
theorem tX12_isChorded_2 {p : Program} {l : Launch} {e : Env} {s : State} {m : MethodId} {args : Array Value} {below : List Frame} {meth : Method} {c : Code} {D : va_G} {cy : Nat → ClassId} {B : Bs} (C : Cx p s m args c cX12_isChorded 3 RX12 D cy B) (hr : meth.sig.returnType = (some .boolean)) (hlocks : meth.locks = false) {N : Nat} {g : Gs} {x0 : Nat} {x1 : Int32} {vz : Int32} {dz : Ds} {K2 : Int32 × Ds → Option (Int32 × Ds)} (hK2 : ∀ a, K2 a = some (vz, dz) → WB p l e rmX12_isChorded s m args below meth c 3 D cy B 0 0 (MQ below (QI D cy B vz g dz) args s 0 0 (wA B)) g a.2 [(0, .ref (ad B x0)), (1, .int x1), (2, .int a.1)] 2 []) {y2 : Int32} {d : Ds} (hf : fX12_isChorded_B2 N g x0 x1 K2 y2 d = some (vz, dz)) : WB p l e rmX12_isChorded s m args below meth c 3 D cy B 0 0 (MQ below (QI D cy B vz g dz) args s 0 0 (wA B)) g d [(0, .ref (ad B x0)), (1, .int x1), (2, .int y2)] 2 [] := by
  unfold fX12_isChorded_B2 at hf
  refine b_iload_n C dX12_isChorded_2 2 rfl rfl ?_
  refine b_aload_n C dX12_isChorded_3 0 rfl rfl ?_
  obtain ⟨h1, hf⟩ := gd_s hf
  obtain ⟨r2, er2, hf⟩ := ob_s hf
  refine b_gR C dX12_isChorded_4 fl_X12_43 h1 er2 ?_
  refine b_bipush C (v := 10) dX12_isChorded_7 (by decide) ?_
  obtain ⟨h3, hf⟩ := gd_s hf
  obtain ⟨h4, hf⟩ := gd_s hf
  refine b_iald C h3 h4 dX12_isChorded_9 ?_
  refine b_icmp_ge C (tgt := 55) dX12_isChorded_10 (by decide) (fun c5 => ?_) (fun c5 => ?_)
  · have hf := it_s c5 hf
    refine b_iconst C (v := 0) dX12_isChorded_55 (by decide) ?_
    exact b_zret C hr hlocks (by decide) hf dX12_isChorded_56
  · have hf := if_s c5 hf
    refine b_aload_n C dX12_isChorded_13 0 rfl rfl ?_
    refine b_gR C dX12_isChorded_14 fl_X12_43 h1 er2 ?_
    refine b_sipush C (v := 300) dX12_isChorded_17 (by decide) ?_
    refine b_iconst C (v := 4) dX12_isChorded_20 (by decide) ?_
    refine b_iload_n C dX12_isChorded_21 2 rfl rfl ?_
    refine b_imul C dX12_isChorded_22 ?_
    refine b_iadd C dX12_isChorded_23 ?_
    obtain ⟨h6, hf⟩ := gd_s hf
    refine b_iald C h3 h6 dX12_isChorded_24 ?_
    refine b_iload_n C dX12_isChorded_25 1 rfl rfl ?_
    refine b_icmp_eq C (tgt := 47) dX12_isChorded_26 (by decide) (fun c7 => ?_) (fun c7 => ?_)
    · have hf := it_s c7 hf
      refine b_sub [(0, .ref (ad B x0)), (1, .int x1)] [0, 1] rfl ?_
      exact tX12_isChorded_47 C hr hlocks hf
    · have hf := if_s c7 hf
      refine b_aload_n C dX12_isChorded_29 0 rfl rfl ?_
      refine b_gR C dX12_isChorded_30 fl_X12_43 h1 er2 ?_
      refine b_sipush C (v := 300) dX12_isChorded_33 (by decide) ?_
      refine b_iconst C (v := 4) dX12_isChorded_36 (by decide) ?_
      refine b_iload_n C dX12_isChorded_37 2 rfl rfl ?_
      refine b_imul C dX12_isChorded_38 ?_
      refine b_iadd C dX12_isChorded_39 ?_
      refine b_iconst C (v := 1) dX12_isChorded_40 (by decide) ?_
      refine b_iadd C dX12_isChorded_41 ?_
      obtain ⟨h8, hf⟩ := gd_s hf
      refine b_iald C h3 h8 dX12_isChorded_42 ?_
      refine b_iload_n C dX12_isChorded_43 1 rfl rfl ?_
      refine b_icmp_ne C (tgt := 49) dX12_isChorded_44 (by decide) (fun c9 => ?_) (fun c9 => ?_)
      · have hf := if_s c9 hf
        obtain ⟨u10, eu10, hf⟩ := bd_s hf
        refine b_iinc C dX12_isChorded_49 2 rfl (by rw [eu10]; rfl) [(2, .int u10), (0, .ref (ad B x0)), (1, .int x1)] (by decide) rfl ?_
        refine b_goto C (tgt := 2) dX12_isChorded_52 (by decide) ?_
        refine b_sub [(0, .ref (ad B x0)), (1, .int x1), (2, .int u10)] [1, 2, 0] rfl ?_
        exact hK2 (u10, d) hf
      · have hf := it_s c9 hf
        refine b_sub [(0, .ref (ad B x0)), (1, .int x1)] [0, 1] rfl ?_
        exact tX12_isChorded_47 C hr hlocks hf
def fX12_isChorded_L2 (N : Nat) (g : Gs) (x0 : Nat) (x1 : Int32) : Int32 × Ds → Option (Int32 × Ds) := lp (fun K2 a => fX12_isChorded_B2 N g x0 x1 K2 a.1 a.2) N
theorem tX12_isChorded_L2 {p : Program} {l : Launch} {e : Env} {s : State} {m : MethodId} {args : Array Value} {below : List Frame} {meth : Method} {c : Code} {D : va_G} {cy : Nat → ClassId} {B : Bs} (C : Cx p s m args c cX12_isChorded 3 RX12 D cy B) (hr : meth.sig.returnType = (some .boolean)) (hlocks : meth.locks = false) {N : Nat} {g : Gs} {x0 : Nat} {x1 : Int32} {vz : Int32} {dz : Ds} (a : Int32 × Ds) (hf : fX12_isChorded_L2 N g x0 x1 a = some (vz, dz)) : WB p l e rmX12_isChorded s m args below meth c 3 D cy B 0 0 (MQ below (QI D cy B vz g dz) args s 0 0 (wA B)) g a.2 [(0, .ref (ad B x0)), (1, .int x1), (2, .int a.1)] 2 [] :=
  lp_w (fun K2 hK2 a ha => tX12_isChorded_2 C hr hlocks hK2 ha) N a hf
set_option maxRecDepth 100000 in
def fX12_isChorded (N : Nat) (g : Gs) (x0 : Nat) (x1 : Int32) (d : Ds) : Option (Int32 × Ds) := fX12_isChorded_L2 N g x0 x1 (0, d)
set_option maxHeartbeats 4000000 in
set_option maxRecDepth 100000 in
theorem tX12_isChorded_E {p : Program} {l : Launch} {e : Env} {s : State} {m : MethodId} {args : Array Value} {below : List Frame} {meth : Method} {c : Code} {D : va_G} {cy : Nat → ClassId} {B : Bs} (C : Cx p s m args c cX12_isChorded 3 RX12 D cy B) (hr : meth.sig.returnType = (some .boolean)) (hlocks : meth.locks = false) {N : Nat} {g : Gs} {x0 : Nat} {x1 : Int32} {vz : Int32} {dz : Ds} {d : Ds} (hf : fX12_isChorded N g x0 x1 d = some (vz, dz)) : WB p l e rmX12_isChorded s m args below meth c 3 D cy B 0 0 (MQ below (QI D cy B vz g dz) args s 0 0 (wA B)) g d [(0, .ref (ad B x0)), (1, .int x1)] 0 [] := by
  unfold fX12_isChorded at hf
  refine b_iconst C (v := 0) dX12_isChorded_0 (by decide) ?_
  refine b_istore_n C dX12_isChorded_1 rfl [(2, .int 0), (0, .ref (ad B x0)), (1, .int x1)] (by decide) rfl ?_
  refine b_sub [(0, .ref (ad B x0)), (1, .int x1), (2, .int 0)] [1, 2, 0] rfl ?_
  exact tX12_isChorded_L2 C hr hlocks (0, d) hf
theorem kX12_isChorded (l : Launch) (D : va_G) (cy : Nat → ClassId) (B : Bs) {N : Nat} {g : Gs} {x0 : Nat} {x1 : Int32} {vz : Int32} {dz : Ds} {d : Ds} (hf : fX12_isChorded N g x0 x1 d = some (vz, dz)) : Met l yX12_isChorded (.code yX12_isChorded cX12_isChorded 3 (some .boolean) :: wl) rmX12_isChorded (PC D cy B [.ref (ad B x0), .int x1] g d) (QI D cy B vz g dz) 0 0 (wA B) :=
  met_of (by decide +kernel) (Nat.le_of_ble_eq_true rfl) (fun p e s m args below meth c C hr hlocks _ => b_sub [(0, .ref (ad B x0)), (1, .int x1)] [0, 1] rfl (tX12_isChorded_E C hr hlocks hf))
/-! KeyMatrixModel.meansChord(I)V -/
theorem yo_X12_isChorded : yX12_isChorded.cls ≠ "java/lang/invoke/MethodHandle" ∧ yX12_isChorded.cls ≠ "java/lang/invoke/VarHandle" ∧ (parseMethodDescriptor yX12_isChorded.desc).map (fun d => d.parameters.length) = some 1 := by decide +kernel
theorem co_X12_isChorded : Cond.code yX12_isChorded cX12_isChorded 3 (some .boolean) ∈ wl := mW (mT6 (List.mem_of_getElem? (i := 53) (by decide +kernel))) rfl
theorem in_X12_isChorded : Cond.initialized yX12_isChorded.cls ∈ wl := mW (mT1 (List.mem_of_getElem? (i := 12) (by decide +kernel))) rfl
theorem im_X12_isChorded : Cond.instanceMethod yX12_isChorded ∈ wl := mW (mT6 (List.mem_of_getElem? (i := 52) (by decide +kernel))) rfl
theorem se_X12_isChorded : Cond.selects yX12_isChorded.cls yX12_isChorded yX12_isChorded ∈ wl := mW (mT0 (List.mem_of_getElem? (i := 51) (by decide +kernel))) rfl
theorem lv_X12_203 : LV RX12 203 yX12_isChorded cX12_isChorded 3 (some .boolean) 1 11 := ⟨⟨(RX12, TX12, 33), rfl, rfl⟩, yo_X12_isChorded, mW (mT6 (List.mem_of_getElem? (i := 50) (by decide +kernel))) rfl, im_X12_isChorded, se_X12_isChorded, in_X12_isChorded, co_X12_isChorded⟩
theorem dX12_meansChord_0 : decode cX12_meansChord 0 = .ok (.sipush 300, 3) := by decide +kernel
theorem dX12_meansChord_3 : decode cX12_meansChord 3 = .ok (.iconst 4, 1) := by decide +kernel
theorem dX12_meansChord_4 : decode cX12_meansChord 4 = .ok (.aload_n 0, 1) := by decide +kernel
theorem dX12_meansChord_5 : decode cX12_meansChord 5 = .ok (.getfield 43, 3) := by decide +kernel
theorem dX12_meansChord_8 : decode cX12_meansChord 8 = .ok (.bipush 10, 2) := by decide +kernel
theorem dX12_meansChord_10 : decode cX12_meansChord 10 = .ok (.iaload, 1) := by decide +kernel
theorem dX12_meansChord_11 : decode cX12_meansChord 11 = .ok (.imul, 1) := by decide +kernel
theorem dX12_meansChord_12 : decode cX12_meansChord 12 = .ok (.iadd, 1) := by decide +kernel
theorem dX12_meansChord_13 : decode cX12_meansChord 13 = .ok (.istore_n 2, 1) := by decide +kernel
theorem dX12_meansChord_14 : decode cX12_meansChord 14 = .ok (.iconst 1, 1) := by decide +kernel
theorem dX12_meansChord_15 : decode cX12_meansChord 15 = .ok (.istore_n 3, 1) := by decide +kernel
theorem dX12_meansChord_16 : decode cX12_meansChord 16 = .ok (.iload_n 3, 1) := by decide +kernel
theorem dX12_meansChord_17 : decode cX12_meansChord 17 = .ok (.iconst 3, 1) := by decide +kernel
theorem dX12_meansChord_18 : decode cX12_meansChord 18 = .ok (.if_icmp .ge 63, 3) := by decide +kernel
theorem dX12_meansChord_21 : decode cX12_meansChord 21 = .ok (.aload_n 0, 1) := by decide +kernel
theorem dX12_meansChord_22 : decode cX12_meansChord 22 = .ok (.getfield 27, 3) := by decide +kernel
theorem dX12_meansChord_25 : decode cX12_meansChord 25 = .ok (.iload_n 1, 1) := by decide +kernel
theorem dX12_meansChord_26 : decode cX12_meansChord 26 = .ok (.iload_n 3, 1) := by decide +kernel
theorem dX12_meansChord_27 : decode cX12_meansChord 27 = .ok (.iadd, 1) := by decide +kernel
theorem dX12_meansChord_28 : decode cX12_meansChord 28 = .ok (.iaload, 1) := by decide +kernel
theorem dX12_meansChord_29 : decode cX12_meansChord 29 = .ok (.istore 4, 2) := by decide +kernel
theorem dX12_meansChord_31 : decode cX12_meansChord 31 = .ok (.aload_n 0, 1) := by decide +kernel
theorem dX12_meansChord_32 : decode cX12_meansChord 32 = .ok (.iload 4, 2) := by decide +kernel
theorem dX12_meansChord_34 : decode cX12_meansChord 34 = .ok (.invokevirtual 203, 3) := by decide +kernel
theorem dX12_meansChord_37 : decode cX12_meansChord 37 = .ok (.ifCond .ne 21, 3) := by decide +kernel
theorem dX12_meansChord_40 : decode cX12_meansChord 40 = .ok (.iload_n 3, 1) := by decide +kernel
theorem dX12_meansChord_41 : decode cX12_meansChord 41 = .ok (.iconst 2, 1) := by decide +kernel
theorem dX12_meansChord_42 : decode cX12_meansChord 42 = .ok (.if_icmp .ne 24, 3) := by decide +kernel
theorem dX12_meansChord_45 : decode cX12_meansChord 45 = .ok (.iload 4, 2) := by decide +kernel
theorem dX12_meansChord_47 : decode cX12_meansChord 47 = .ok (.aload_n 0, 1) := by decide +kernel
theorem dX12_meansChord_48 : decode cX12_meansChord 48 = .ok (.getfield 27, 3) := by decide +kernel
theorem dX12_meansChord_51 : decode cX12_meansChord 51 = .ok (.iload_n 1, 1) := by decide +kernel
theorem dX12_meansChord_52 : decode cX12_meansChord 52 = .ok (.iconst 1, 1) := by decide +kernel
theorem dX12_meansChord_53 : decode cX12_meansChord 53 = .ok (.iadd, 1) := by decide +kernel
theorem dX12_meansChord_54 : decode cX12_meansChord 54 = .ok (.iaload, 1) := by decide +kernel
theorem dX12_meansChord_55 : decode cX12_meansChord 55 = .ok (.if_icmp .ne 11, 3) := by decide +kernel
theorem dX12_meansChord_58 : decode cX12_meansChord 58 = .ok (.aload_n 0, 1) := by decide +kernel
theorem dX12_meansChord_59 : decode cX12_meansChord 59 = .ok (.iconst 3, 1) := by decide +kernel
theorem dX12_meansChord_60 : decode cX12_meansChord 60 = .ok (.iload_n 1, 1) := by decide +kernel
theorem dX12_meansChord_61 : decode cX12_meansChord 61 = .ok (.iload_n 3, 1) := by decide +kernel
theorem dX12_meansChord_62 : decode cX12_meansChord 62 = .ok (.iadd, 1) := by decide +kernel
theorem dX12_meansChord_63 : decode cX12_meansChord 63 = .ok (.invokevirtual 173, 3) := by decide +kernel
theorem dX12_meansChord_66 : decode cX12_meansChord 66 = .ok (.aload_n 0, 1) := by decide +kernel
theorem dX12_meansChord_67 : decode cX12_meansChord 67 = .ok (.iload_n 1, 1) := by decide +kernel
theorem dX12_meansChord_68 : decode cX12_meansChord 68 = .ok (.iload_n 3, 1) := by decide +kernel
theorem dX12_meansChord_69 : decode cX12_meansChord 69 = .ok (.iadd, 1) := by decide +kernel
theorem dX12_meansChord_70 : decode cX12_meansChord 70 = .ok (.invokevirtual 197, 3) := by decide +kernel
theorem dX12_meansChord_73 : decode cX12_meansChord 73 = .ok (.istore 5, 2) := by decide +kernel
theorem dX12_meansChord_75 : decode cX12_meansChord 75 = .ok (.iinc 3 1, 3) := by decide +kernel
theorem dX12_meansChord_78 : decode cX12_meansChord 78 = .ok (.goto (-62), 3) := by decide +kernel
theorem dX12_meansChord_81 : decode cX12_meansChord 81 = .ok (.aload_n 0, 1) := by decide +kernel
theorem dX12_meansChord_82 : decode cX12_meansChord 82 = .ok (.getfield 20, 3) := by decide +kernel
theorem dX12_meansChord_85 : decode cX12_meansChord 85 = .ok (.iload_n 1, 1) := by decide +kernel
theorem dX12_meansChord_86 : decode cX12_meansChord 86 = .ok (.iconst 3, 1) := by decide +kernel
theorem dX12_meansChord_87 : decode cX12_meansChord 87 = .ok (.iadd, 1) := by decide +kernel
theorem dX12_meansChord_88 : decode cX12_meansChord 88 = .ok (.iaload, 1) := by decide +kernel
theorem dX12_meansChord_89 : decode cX12_meansChord 89 = .ok (.istore_n 3, 1) := by decide +kernel
theorem dX12_meansChord_90 : decode cX12_meansChord 90 = .ok (.iload_n 3, 1) := by decide +kernel
theorem dX12_meansChord_91 : decode cX12_meansChord 91 = .ok (.bipush 31, 2) := by decide +kernel
theorem dX12_meansChord_93 : decode cX12_meansChord 93 = .ok (.if_icmp .eq 23, 3) := by decide +kernel
theorem dX12_meansChord_96 : decode cX12_meansChord 96 = .ok (.iload_n 3, 1) := by decide +kernel
theorem dX12_meansChord_97 : decode cX12_meansChord 97 = .ok (.bipush 32, 2) := by decide +kernel
theorem dX12_meansChord_99 : decode cX12_meansChord 99 = .ok (.if_icmp .eq 17, 3) := by decide +kernel
theorem dX12_meansChord_102 : decode cX12_meansChord 102 = .ok (.iload_n 3, 1) := by decide +kernel
theorem dX12_meansChord_103 : decode cX12_meansChord 103 = .ok (.bipush 39, 2) := by decide +kernel
theorem dX12_meansChord_105 : decode cX12_meansChord 105 = .ok (.if_icmp .eq 11, 3) := by decide +kernel
theorem dX12_meansChord_108 : decode cX12_meansChord 108 = .ok (.aload_n 0, 1) := by decide +kernel
theorem dX12_meansChord_109 : decode cX12_meansChord 109 = .ok (.iconst 5, 1) := by decide +kernel
theorem dX12_meansChord_110 : decode cX12_meansChord 110 = .ok (.iload_n 1, 1) := by decide +kernel
theorem dX12_meansChord_111 : decode cX12_meansChord 111 = .ok (.iconst 3, 1) := by decide +kernel
theorem dX12_meansChord_112 : decode cX12_meansChord 112 = .ok (.iadd, 1) := by decide +kernel
theorem dX12_meansChord_113 : decode cX12_meansChord 113 = .ok (.invokevirtual 173, 3) := by decide +kernel
theorem dX12_meansChord_116 : decode cX12_meansChord 116 = .ok (.aload_n 0, 1) := by decide +kernel
theorem dX12_meansChord_117 : decode cX12_meansChord 117 = .ok (.iload_n 1, 1) := by decide +kernel
theorem dX12_meansChord_118 : decode cX12_meansChord 118 = .ok (.iconst 3, 1) := by decide +kernel
theorem dX12_meansChord_119 : decode cX12_meansChord 119 = .ok (.iadd, 1) := by decide +kernel
theorem dX12_meansChord_120 : decode cX12_meansChord 120 = .ok (.invokevirtual 200, 3) := by decide +kernel
theorem dX12_meansChord_123 : decode cX12_meansChord 123 = .ok (.aload_n 0, 1) := by decide +kernel
theorem dX12_meansChord_124 : decode cX12_meansChord 124 = .ok (.getfield 43, 3) := by decide +kernel
theorem dX12_meansChord_127 : decode cX12_meansChord 127 = .ok (.iload_n 2, 1) := by decide +kernel
theorem dX12_meansChord_128 : decode cX12_meansChord 128 = .ok (.aload_n 0, 1) := by decide +kernel
theorem dX12_meansChord_129 : decode cX12_meansChord 129 = .ok (.getfield 27, 3) := by decide +kernel
theorem dX12_meansChord_132 : decode cX12_meansChord 132 = .ok (.iload_n 1, 1) := by decide +kernel
theorem dX12_meansChord_133 : decode cX12_meansChord 133 = .ok (.iconst 1, 1) := by decide +kernel
theorem dX12_meansChord_134 : decode cX12_meansChord 134 = .ok (.iadd, 1) := by decide +kernel
theorem dX12_meansChord_135 : decode cX12_meansChord 135 = .ok (.iaload, 1) := by decide +kernel
theorem dX12_meansChord_136 : decode cX12_meansChord 136 = .ok (.iastore, 1) := by decide +kernel
theorem dX12_meansChord_137 : decode cX12_meansChord 137 = .ok (.aload_n 0, 1) := by decide +kernel
theorem dX12_meansChord_138 : decode cX12_meansChord 138 = .ok (.getfield 43, 3) := by decide +kernel
theorem dX12_meansChord_141 : decode cX12_meansChord 141 = .ok (.iload_n 2, 1) := by decide +kernel
theorem dX12_meansChord_142 : decode cX12_meansChord 142 = .ok (.iconst 1, 1) := by decide +kernel
theorem dX12_meansChord_143 : decode cX12_meansChord 143 = .ok (.iadd, 1) := by decide +kernel
theorem dX12_meansChord_144 : decode cX12_meansChord 144 = .ok (.aload_n 0, 1) := by decide +kernel
theorem dX12_meansChord_145 : decode cX12_meansChord 145 = .ok (.getfield 27, 3) := by decide +kernel
theorem dX12_meansChord_148 : decode cX12_meansChord 148 = .ok (.iload_n 1, 1) := by decide +kernel
theorem dX12_meansChord_149 : decode cX12_meansChord 149 = .ok (.iconst 2, 1) := by decide +kernel
theorem dX12_meansChord_150 : decode cX12_meansChord 150 = .ok (.iadd, 1) := by decide +kernel
theorem dX12_meansChord_151 : decode cX12_meansChord 151 = .ok (.iaload, 1) := by decide +kernel
theorem dX12_meansChord_152 : decode cX12_meansChord 152 = .ok (.iastore, 1) := by decide +kernel
theorem dX12_meansChord_153 : decode cX12_meansChord 153 = .ok (.aload_n 0, 1) := by decide +kernel
theorem dX12_meansChord_154 : decode cX12_meansChord 154 = .ok (.getfield 43, 3) := by decide +kernel
theorem dX12_meansChord_157 : decode cX12_meansChord 157 = .ok (.iload_n 2, 1) := by decide +kernel
theorem dX12_meansChord_158 : decode cX12_meansChord 158 = .ok (.iconst 2, 1) := by decide +kernel
theorem dX12_meansChord_159 : decode cX12_meansChord 159 = .ok (.iadd, 1) := by decide +kernel
theorem dX12_meansChord_160 : decode cX12_meansChord 160 = .ok (.aload_n 0, 1) := by decide +kernel
theorem dX12_meansChord_161 : decode cX12_meansChord 161 = .ok (.getfield 50, 3) := by decide +kernel
theorem dX12_meansChord_164 : decode cX12_meansChord 164 = .ok (.iconst 0, 1) := by decide +kernel
theorem dX12_meansChord_165 : decode cX12_meansChord 165 = .ok (.iaload, 1) := by decide +kernel
theorem dX12_meansChord_166 : decode cX12_meansChord 166 = .ok (.iastore, 1) := by decide +kernel
theorem dX12_meansChord_167 : decode cX12_meansChord 167 = .ok (.aload_n 0, 1) := by decide +kernel
theorem dX12_meansChord_168 : decode cX12_meansChord 168 = .ok (.getfield 43, 3) := by decide +kernel
theorem dX12_meansChord_171 : decode cX12_meansChord 171 = .ok (.iload_n 2, 1) := by decide +kernel
theorem dX12_meansChord_172 : decode cX12_meansChord 172 = .ok (.iconst 3, 1) := by decide +kernel
theorem dX12_meansChord_173 : decode cX12_meansChord 173 = .ok (.iadd, 1) := by decide +kernel
theorem dX12_meansChord_174 : decode cX12_meansChord 174 = .ok (.aload_n 0, 1) := by decide +kernel
theorem dX12_meansChord_175 : decode cX12_meansChord 175 = .ok (.getfield 50, 3) := by decide +kernel
theorem dX12_meansChord_178 : decode cX12_meansChord 178 = .ok (.iconst 1, 1) := by decide +kernel
theorem dX12_meansChord_179 : decode cX12_meansChord 179 = .ok (.iaload, 1) := by decide +kernel
theorem dX12_meansChord_180 : decode cX12_meansChord 180 = .ok (.iastore, 1) := by decide +kernel
theorem dX12_meansChord_181 : decode cX12_meansChord 181 = .ok (.aload_n 0, 1) := by decide +kernel
theorem dX12_meansChord_182 : decode cX12_meansChord 182 = .ok (.getfield 43, 3) := by decide +kernel
theorem dX12_meansChord_185 : decode cX12_meansChord 185 = .ok (.bipush 10, 2) := by decide +kernel
theorem dX12_meansChord_187 : decode cX12_meansChord 187 = .ok (.dup2, 1) := by decide +kernel
theorem dX12_meansChord_188 : decode cX12_meansChord 188 = .ok (.iaload, 1) := by decide +kernel
theorem dX12_meansChord_189 : decode cX12_meansChord 189 = .ok (.iconst 1, 1) := by decide +kernel
theorem dX12_meansChord_190 : decode cX12_meansChord 190 = .ok (.iadd, 1) := by decide +kernel
theorem dX12_meansChord_191 : decode cX12_meansChord 191 = .ok (.iastore, 1) := by decide +kernel
theorem dX12_meansChord_192 : decode cX12_meansChord 192 = .ok (.return_, 1) := by decide +kernel
def rmX12_meansChord : Room := { frames := 3, cells := 0, slots := 0, locals := 68 }
set_option maxRecDepth 100000 in
def fX12_meansChord_J116 (N : Nat) (g : Gs) (x0 : Nat) (x1 : Int32) (y2 : Int32) (d : Ds) : Option (Unit × Ds) := gd (chk g x0 11) <| cv (fX12_meansDeed N g x0 (x1 + 3) d) fun d14 => (ob (gR g x0 18) fun r16 => (ob (gR g x0 7) fun r17 => (gd (chk g r17 102) <| gd (¬ ((x1 + 1) < 0 ∨ gL g r17 ≤ (x1 + 1).toNatClampNeg)) <| gd (chk g r16 102) <| gd (¬ (y2 < 0 ∨ gL g r16 ≤ y2.toNatClampNeg)) <| bd (sI d14 r16 y2.toNatClampNeg (dI d14 r17 (x1 + 1).toNatClampNeg)) fun d22 => (gd (¬ ((x1 + 2) < 0 ∨ gL g r17 ≤ (x1 + 2).toNatClampNeg)) <| gd (¬ ((y2 + 1) < 0 ∨ gL g r16 ≤ (y2 + 1).toNatClampNeg)) <| bd (sI d22 r16 (y2 + 1).toNatClampNeg (dI d22 r17 (x1 + 2).toNatClampNeg)) fun d25 => (ob (gR g x0 23) fun r26 => (gd (chk g r26 102) <| gd (¬ ((0 : Int32) < 0 ∨ gL g r26 ≤ (0 : Int32).toNatClampNeg)) <| gd (¬ ((y2 + 2) < 0 ∨ gL g r16 ≤ (y2 + 2).toNatClampNeg)) <| bd (sI d25 r16 (y2 + 2).toNatClampNeg (dI d25 r26 (0 : Int32).toNatClampNeg)) fun d30 => (gd (¬ ((1 : Int32) < 0 ∨ gL g r26 ≤ (1 : Int32).toNatClampNeg)) <| gd (¬ ((y2 + 3) < 0 ∨ gL g r16 ≤ (y2 + 3).toNatClampNeg)) <| bd (sI d30 r16 (y2 + 3).toNatClampNeg (dI d30 r26 (1 : Int32).toNatClampNeg)) fun d33 => (gd (¬ ((10 : Int32) < 0 ∨ gL g r16 ≤ (10 : Int32).toNatClampNeg)) <| bd (sI d33 r16 (10 : Int32).toNatClampNeg ((dI d33 r16 (10 : Int32).toNatClampNeg) + 1)) fun d35 => (some ((), d35))))))))))
set_option maxHeartbeats 4000000 in
set_option maxRecDepth 100000 in
theorem tX12_meansChord_116 {p : Program} {l : Launch} {e : Env} {s : State} {m : MethodId} {args : Array Value} {below : List Frame} {meth : Method} {c : Code} {D : va_G} {cy : Nat → ClassId} {B : Bs} (C : Cx p s m args c cX12_meansChord 6 RX12 D cy B) (hr : meth.sig.returnType = none) (hlocks : meth.locks = false) {N : Nat} {g : Gs} {x0 : Nat} {x1 : Int32}  {dz : Ds} {y2 : Int32} {d : Ds} (hf : fX12_meansChord_J116 N g x0 x1 y2 d = some ((), dz)) : WB p l e rmX12_meansChord s m args below meth c 6 D cy B 0 0 (MQ below (QV D cy B g dz) args s 0 0 (wA B)) g d [(0, .ref (ad B x0)), (1, .int x1), (2, .int y2)] 116 [] := by
  unfold fX12_meansChord_J116 at hf
  refine b_aload_n C dX12_meansChord_116 0 rfl rfl ?_
  refine b_iload_n C dX12_meansChord_117 1 rfl rfl ?_
  refine b_iconst C (v := 3) dX12_meansChord_118 (by decide) ?_
  refine b_iadd C dX12_meansChord_119 ?_
  obtain ⟨h13, hf⟩ := gd_s hf
  obtain ⟨d14, k15, hf⟩ := cv_s hf
  refine b_cVN C [] dX12_meansChord_120 (kX12_meansDeed l D cy B k15) lv_X12_200 ⟨rfl, rfl, Nat.le_of_ble_eq_true rfl, Nat.le_of_ble_eq_true rfl⟩ h13 (by decide) rfl (Nat.le_of_ble_eq_true rfl) ⟨Nat.zero_le _, Nat.zero_le _⟩ rfl ?_
  refine b_aload_n C dX12_meansChord_123 0 rfl rfl ?_
  obtain ⟨r16, er16, hf⟩ := ob_s hf
  refine b_gR C dX12_meansChord_124 fl_X12_43 h13 er16 ?_
  refine b_iload_n C dX12_meansChord_127 2 rfl rfl ?_
  refine b_aload_n C dX12_meansChord_128 0 rfl rfl ?_
  obtain ⟨r17, er17, hf⟩ := ob_s hf
  refine b_gR C dX12_meansChord_129 fl_X12_27 h13 er17 ?_
  refine b_iload_n C dX12_meansChord_132 1 rfl rfl ?_
  refine b_iconst C (v := 1) dX12_meansChord_133 (by decide) ?_
  refine b_iadd C dX12_meansChord_134 ?_
  obtain ⟨h18, hf⟩ := gd_s hf
  obtain ⟨h19, hf⟩ := gd_s hf
  refine b_iald C h18 h19 dX12_meansChord_135 ?_
  obtain ⟨h20, hf⟩ := gd_s hf
  obtain ⟨h21, hf⟩ := gd_s hf
  obtain ⟨d22, ed22, hf⟩ := bd_s hf
  refine b_iast C h20 h21 ed22 dX12_meansChord_136 ?_
  refine b_aload_n C dX12_meansChord_137 0 rfl rfl ?_
  refine b_gR C dX12_meansChord_138 fl_X12_43 h13 er16 ?_
  refine b_iload_n C dX12_meansChord_141 2 rfl rfl ?_
  refine b_iconst C (v := 1) dX12_meansChord_142 (by decide) ?_
  refine b_iadd C dX12_meansChord_143 ?_
  refine b_aload_n C dX12_meansChord_144 0 rfl rfl ?_
  refine b_gR C dX12_meansChord_145 fl_X12_27 h13 er17 ?_
  refine b_iload_n C dX12_meansChord_148 1 rfl rfl ?_
  refine b_iconst C (v := 2) dX12_meansChord_149 (by decide) ?_
  refine b_iadd C dX12_meansChord_150 ?_
  obtain ⟨h23, hf⟩ := gd_s hf
  refine b_iald C h18 h23 dX12_meansChord_151 ?_
  obtain ⟨h24, hf⟩ := gd_s hf
  obtain ⟨d25, ed25, hf⟩ := bd_s hf
  refine b_iast C h20 h24 ed25 dX12_meansChord_152 ?_
  refine b_aload_n C dX12_meansChord_153 0 rfl rfl ?_
  refine b_gR C dX12_meansChord_154 fl_X12_43 h13 er16 ?_
  refine b_iload_n C dX12_meansChord_157 2 rfl rfl ?_
  refine b_iconst C (v := 2) dX12_meansChord_158 (by decide) ?_
  refine b_iadd C dX12_meansChord_159 ?_
  refine b_aload_n C dX12_meansChord_160 0 rfl rfl ?_
  obtain ⟨r26, er26, hf⟩ := ob_s hf
  refine b_gR C dX12_meansChord_161 fl_X12_50 h13 er26 ?_
  refine b_iconst C (v := 0) dX12_meansChord_164 (by decide) ?_
  obtain ⟨h27, hf⟩ := gd_s hf
  obtain ⟨h28, hf⟩ := gd_s hf
  refine b_iald C h27 h28 dX12_meansChord_165 ?_
  obtain ⟨h29, hf⟩ := gd_s hf
  obtain ⟨d30, ed30, hf⟩ := bd_s hf
  refine b_iast C h20 h29 ed30 dX12_meansChord_166 ?_
  refine b_aload_n C dX12_meansChord_167 0 rfl rfl ?_
  refine b_gR C dX12_meansChord_168 fl_X12_43 h13 er16 ?_
  refine b_iload_n C dX12_meansChord_171 2 rfl rfl ?_
  refine b_iconst C (v := 3) dX12_meansChord_172 (by decide) ?_
  refine b_iadd C dX12_meansChord_173 ?_
  refine b_aload_n C dX12_meansChord_174 0 rfl rfl ?_
  refine b_gR C dX12_meansChord_175 fl_X12_50 h13 er26 ?_
  refine b_iconst C (v := 1) dX12_meansChord_178 (by decide) ?_
  obtain ⟨h31, hf⟩ := gd_s hf
  refine b_iald C h27 h31 dX12_meansChord_179 ?_
  obtain ⟨h32, hf⟩ := gd_s hf
  obtain ⟨d33, ed33, hf⟩ := bd_s hf
  refine b_iast C h20 h32 ed33 dX12_meansChord_180 ?_
  refine b_aload_n C dX12_meansChord_181 0 rfl rfl ?_
  refine b_gR C dX12_meansChord_182 fl_X12_43 h13 er16 ?_
  refine b_bipush C (v := 10) dX12_meansChord_185 (by decide) ?_
  refine b_dup2 C dX12_meansChord_187 rfl rfl ?_
  obtain ⟨h34, hf⟩ := gd_s hf
  refine b_iald C h20 h34 dX12_meansChord_188 ?_
  refine b_iconst C (v := 1) dX12_meansChord_189 (by decide) ?_
  refine b_iadd C dX12_meansChord_190 ?_
  obtain ⟨d35, ed35, hf⟩ := bd_s hf
  refine b_iast C h20 h34 ed35 dX12_meansChord_191 ?_
  exact b_vret C hr hlocks hf dX12_meansChord_192
set_option maxRecDepth 100000 in
def fX12_meansChord_J66 (N : Nat) (g : Gs) (x0 : Nat) (x1 : Int32) (K16 : Int32 × Int32 × Ds → Option (Unit × Ds)) (y2 : Int32) (y3 : Int32) (d : Ds) : Option (Unit × Ds) := gd (chk g x0 11) <| cb (fX12_keyTold N g x0 (x1 + y3) d) fun u55 d53 => (bd (y3 + 1) fun u56 => (K16 (y2, u56, d53)))
set_option maxHeartbeats 4000000 in
set_option maxRecDepth 100000 in
theorem tX12_meansChord_66 {p : Program} {l : Launch} {e : Env} {s : State} {m : MethodId} {args : Array Value} {below : List Frame} {meth : Method} {c : Code} {D : va_G} {cy : Nat → ClassId} {B : Bs} (C : Cx p s m args c cX12_meansChord 6 RX12 D cy B) (hr : meth.sig.returnType = none) (hlocks : meth.locks = false) {N : Nat} {g : Gs} {x0 : Nat} {x1 : Int32}  {dz : Ds} {K16 : Int32 × Int32 × Ds → Option (Unit × Ds)} (hK16 : ∀ a, K16 a = some ((), dz) → WB p l e rmX12_meansChord s m args below meth c 6 D cy B 0 0 (MQ below (QV D cy B g dz) args s 0 0 (wA B)) g a.2.2 [(0, .ref (ad B x0)), (1, .int x1), (2, .int a.1), (3, .int a.2.1)] 16 []) {y2 : Int32} {y3 : Int32} {d : Ds} (hf : fX12_meansChord_J66 N g x0 x1 K16 y2 y3 d = some ((), dz)) : WB p l e rmX12_meansChord s m args below meth c 6 D cy B 0 0 (MQ below (QV D cy B g dz) args s 0 0 (wA B)) g d [(0, .ref (ad B x0)), (1, .int x1), (2, .int y2), (3, .int y3)] 66 [] := by
  unfold fX12_meansChord_J66 at hf
  refine b_aload_n C dX12_meansChord_66 0 rfl rfl ?_
  refine b_iload_n C dX12_meansChord_67 1 rfl rfl ?_
  refine b_iload_n C dX12_meansChord_68 3 rfl rfl ?_
  refine b_iadd C dX12_meansChord_69 ?_
  obtain ⟨h52, hf⟩ := gd_s hf
  obtain ⟨u55, d53, k54, hf⟩ := cb_s hf
  refine b_cVI C [] dX12_meansChord_70 (kX12_keyTold l D cy B k54) lv_X12_197 ⟨rfl, rfl, Nat.le_of_ble_eq_true rfl, Nat.le_of_ble_eq_true rfl⟩ h52 (by decide) rfl (Nat.le_of_ble_eq_true rfl) ⟨Nat.zero_le _, Nat.zero_le _⟩ rfl ?_
  refine b_istore C dX12_meansChord_73 [(5, .int u55), (0, .ref (ad B x0)), (1, .int x1), (2, .int y2), (3, .int y3)] (by decide) rfl ?_
  obtain ⟨u56, eu56, hf⟩ := bd_s hf
  refine b_iinc C dX12_meansChord_75 4 rfl (by rw [eu56]; rfl) [(3, .int u56), (5, .int u55), (0, .ref (ad B x0)), (1, .int x1), (2, .int y2)] (by decide) rfl ?_
  refine b_goto C (tgt := 16) dX12_meansChord_78 (by decide) ?_
  refine b_sub [(0, .ref (ad B x0)), (1, .int x1), (2, .int y2), (3, .int u56)] [2, 3, 4, 0] rfl ?_
  exact hK16 (y2, u56, d53) hf
set_option maxRecDepth 100000 in
def fX12_meansChord_J58 (N : Nat) (g : Gs) (x0 : Nat) (x1 : Int32) (K16 : Int32 × Int32 × Ds → Option (Unit × Ds)) (y2 : Int32) (y3 : Int32) (d : Ds) : Option (Unit × Ds) := gd (chk g x0 11) <| cv (fX12_wrong N g x0 3 (x1 + y3) d) fun d50 => (fX12_meansChord_J66 N g x0 x1 K16 y2 y3 d50)
set_option maxHeartbeats 4000000 in
set_option maxRecDepth 100000 in
theorem tX12_meansChord_58 {p : Program} {l : Launch} {e : Env} {s : State} {m : MethodId} {args : Array Value} {below : List Frame} {meth : Method} {c : Code} {D : va_G} {cy : Nat → ClassId} {B : Bs} (C : Cx p s m args c cX12_meansChord 6 RX12 D cy B) (hr : meth.sig.returnType = none) (hlocks : meth.locks = false) {N : Nat} {g : Gs} {x0 : Nat} {x1 : Int32}  {dz : Ds} {K16 : Int32 × Int32 × Ds → Option (Unit × Ds)} (hK16 : ∀ a, K16 a = some ((), dz) → WB p l e rmX12_meansChord s m args below meth c 6 D cy B 0 0 (MQ below (QV D cy B g dz) args s 0 0 (wA B)) g a.2.2 [(0, .ref (ad B x0)), (1, .int x1), (2, .int a.1), (3, .int a.2.1)] 16 []) {y2 : Int32} {y3 : Int32} {d : Ds} (hf : fX12_meansChord_J58 N g x0 x1 K16 y2 y3 d = some ((), dz)) : WB p l e rmX12_meansChord s m args below meth c 6 D cy B 0 0 (MQ below (QV D cy B g dz) args s 0 0 (wA B)) g d [(0, .ref (ad B x0)), (1, .int x1), (2, .int y2), (3, .int y3)] 58 [] := by
  unfold fX12_meansChord_J58 at hf
  refine b_aload_n C dX12_meansChord_58 0 rfl rfl ?_
  refine b_iconst C (v := 3) dX12_meansChord_59 (by decide) ?_
  refine b_iload_n C dX12_meansChord_60 1 rfl rfl ?_
  refine b_iload_n C dX12_meansChord_61 3 rfl rfl ?_
  refine b_iadd C dX12_meansChord_62 ?_
  obtain ⟨h49, hf⟩ := gd_s hf
  obtain ⟨d50, k51, hf⟩ := cv_s hf
  refine b_cVN C [] dX12_meansChord_63 (kX12_wrong l D cy B k51) lv_X12_173 ⟨rfl, rfl, Nat.le_of_ble_eq_true rfl, Nat.le_of_ble_eq_true rfl⟩ h49 (by decide) rfl (Nat.le_of_ble_eq_true rfl) ⟨Nat.zero_le _, Nat.zero_le _⟩ rfl ?_
  refine b_sub [(0, .ref (ad B x0)), (1, .int x1), (2, .int y2), (3, .int y3)] [0, 1, 2, 3] rfl ?_
  exact tX12_meansChord_66 C hr hlocks hK16 hf
set_option maxRecDepth 100000 in
def fX12_meansChord_B16 (N : Nat) (g : Gs) (x0 : Nat) (x1 : Int32) (K16 : Int32 × Int32 × Ds → Option (Unit × Ds)) (y2 : Int32) (y3 : Int32) (d : Ds) : Option (Unit × Ds) := if (3 : Int32) ≤ y3 then (gd (chk g x0 11) <| ob (gR g x0 5) fun r8 => (gd (chk g r8 102) <| gd (¬ ((x1 + 3) < 0 ∨ gL g r8 ≤ (x1 + 3).toNatClampNeg)) <| bd ((dI d r8 (x1 + 3).toNatClampNeg)) fun u11 => (if u11 = (31 : Int32) then (fX12_meansChord_J116 N g x0 x1 y2 d) else (if u11 = (32 : Int32) then (fX12_meansChord_J116 N g x0 x1 y2 d) else (if u11 = (39 : Int32) then (fX12_meansChord_J116 N g x0 x1 y2 d) else (cv (fX12_wrong N g x0 5 (x1 + 3) d) fun d38 => (fX12_meansChord_J116 N g x0 x1 y2 d38))))))) else (gd (chk g x0 11) <| ob (gR g x0 7) fun r41 => (gd (chk g r41 102) <| gd (¬ ((x1 + y3) < 0 ∨ gL g r41 ≤ (x1 + y3).toNatClampNeg)) <| bd ((dI d r41 (x1 + y3).toNatClampNeg)) fun u44 => (cb (fX12_isChorded N g x0 u44 d) fun u47 d45 => (if u47 = 0 then (if y3 = (2 : Int32) then (gd (¬ ((x1 + 1) < 0 ∨ gL g r41 ≤ (x1 + 1).toNatClampNeg)) <| if u44 = (dI d45 r41 (x1 + 1).toNatClampNeg) then (fX12_meansChord_J58 N g x0 x1 K16 y2 y3 d45) else (fX12_meansChord_J66 N g x0 x1 K16 y2 y3 d45)) else (fX12_meansChord_J66 N g x0 x1 K16 y2 y3 d45)) else (fX12_meansChord_J58 N g x0 x1 K16 y2 y3 d45)))))
set_option maxHeartbeats 4000000 in
set_option maxRecDepth 100000 in
theorem tX12_meansChord_16 {p : Program} {l : Launch} {e : Env} {s : State} {m : MethodId} {args : Array Value} {below : List Frame} {meth : Method} {c : Code} {D : va_G} {cy : Nat → ClassId} {B : Bs} (C : Cx p s m args c cX12_meansChord 6 RX12 D cy B) (hr : meth.sig.returnType = none) (hlocks : meth.locks = false) {N : Nat} {g : Gs} {x0 : Nat} {x1 : Int32}  {dz : Ds} {K16 : Int32 × Int32 × Ds → Option (Unit × Ds)} (hK16 : ∀ a, K16 a = some ((), dz) → WB p l e rmX12_meansChord s m args below meth c 6 D cy B 0 0 (MQ below (QV D cy B g dz) args s 0 0 (wA B)) g a.2.2 [(0, .ref (ad B x0)), (1, .int x1), (2, .int a.1), (3, .int a.2.1)] 16 []) {y2 : Int32} {y3 : Int32} {d : Ds} (hf : fX12_meansChord_B16 N g x0 x1 K16 y2 y3 d = some ((), dz)) : WB p l e rmX12_meansChord s m args below meth c 6 D cy B 0 0 (MQ below (QV D cy B g dz) args s 0 0 (wA B)) g d [(0, .ref (ad B x0)), (1, .int x1), (2, .int y2), (3, .int y3)] 16 [] := by
  unfold fX12_meansChord_B16 at hf
  refine b_iload_n C dX12_meansChord_16 3 rfl rfl ?_
  refine b_iconst C (v := 3) dX12_meansChord_17 (by decide) ?_
  refine b_icmp_ge C (tgt := 81) dX12_meansChord_18 (by decide) (fun c6 => ?_) (fun c6 => ?_)
  · have hf := it_s c6 hf
    refine b_aload_n C dX12_meansChord_81 0 rfl rfl ?_
    obtain ⟨h7, hf⟩ := gd_s hf
    obtain ⟨r8, er8, hf⟩ := ob_s hf
    refine b_gR C dX12_meansChord_82 fl_X12_20 h7 er8 ?_
    refine b_iload_n C dX12_meansChord_85 1 rfl rfl ?_
    refine b_iconst C (v := 3) dX12_meansChord_86 (by decide) ?_
    refine b_iadd C dX12_meansChord_87 ?_
    obtain ⟨h9, hf⟩ := gd_s hf
    obtain ⟨h10, hf⟩ := gd_s hf
    refine b_iald C h9 h10 dX12_meansChord_88 ?_
    obtain ⟨u11, eu11, hf⟩ := bd_s hf
    refine b_topI eu11 ?_
    refine b_istore_n C dX12_meansChord_89 rfl [(3, .int u11), (0, .ref (ad B x0)), (1, .int x1), (2, .int y2)] (by decide) rfl ?_
    refine b_iload_n C dX12_meansChord_90 0 rfl rfl ?_
    refine b_bipush C (v := 31) dX12_meansChord_91 (by decide) ?_
    refine b_icmp_eq C (tgt := 116) dX12_meansChord_93 (by decide) (fun c12 => ?_) (fun c12 => ?_)
    · have hf := it_s c12 hf
      refine b_sub [(0, .ref (ad B x0)), (1, .int x1), (2, .int y2)] [1, 2, 3] rfl ?_
      exact tX12_meansChord_116 C hr hlocks hf
    · have hf := if_s c12 hf
      refine b_iload_n C dX12_meansChord_96 0 rfl rfl ?_
      refine b_bipush C (v := 32) dX12_meansChord_97 (by decide) ?_
      refine b_icmp_eq C (tgt := 116) dX12_meansChord_99 (by decide) (fun c36 => ?_) (fun c36 => ?_)
      · have hf := it_s c36 hf
        refine b_sub [(0, .ref (ad B x0)), (1, .int x1), (2, .int y2)] [1, 2, 3] rfl ?_
        exact tX12_meansChord_116 C hr hlocks hf
      · have hf := if_s c36 hf
        refine b_iload_n C dX12_meansChord_102 0 rfl rfl ?_
        refine b_bipush C (v := 39) dX12_meansChord_103 (by decide) ?_
        refine b_icmp_eq C (tgt := 116) dX12_meansChord_105 (by decide) (fun c37 => ?_) (fun c37 => ?_)
        · have hf := it_s c37 hf
          refine b_sub [(0, .ref (ad B x0)), (1, .int x1), (2, .int y2)] [1, 2, 3] rfl ?_
          exact tX12_meansChord_116 C hr hlocks hf
        · have hf := if_s c37 hf
          refine b_aload_n C dX12_meansChord_108 1 rfl rfl ?_
          refine b_iconst C (v := 5) dX12_meansChord_109 (by decide) ?_
          refine b_iload_n C dX12_meansChord_110 2 rfl rfl ?_
          refine b_iconst C (v := 3) dX12_meansChord_111 (by decide) ?_
          refine b_iadd C dX12_meansChord_112 ?_
          obtain ⟨d38, k39, hf⟩ := cv_s hf
          refine b_cVN C [] dX12_meansChord_113 (kX12_wrong l D cy B k39) lv_X12_173 ⟨rfl, rfl, Nat.le_of_ble_eq_true rfl, Nat.le_of_ble_eq_true rfl⟩ h7 (by decide) rfl (Nat.le_of_ble_eq_true rfl) ⟨Nat.zero_le _, Nat.zero_le _⟩ rfl ?_
          refine b_sub [(0, .ref (ad B x0)), (1, .int x1), (2, .int y2)] [1, 2, 3] rfl ?_
          exact tX12_meansChord_116 C hr hlocks hf
  · have hf := if_s c6 hf
    refine b_aload_n C dX12_meansChord_21 0 rfl rfl ?_
    obtain ⟨h40, hf⟩ := gd_s hf
    obtain ⟨r41, er41, hf⟩ := ob_s hf
    refine b_gR C dX12_meansChord_22 fl_X12_27 h40 er41 ?_
    refine b_iload_n C dX12_meansChord_25 1 rfl rfl ?_
    refine b_iload_n C dX12_meansChord_26 3 rfl rfl ?_
    refine b_iadd C dX12_meansChord_27 ?_
    obtain ⟨h42, hf⟩ := gd_s hf
    obtain ⟨h43, hf⟩ := gd_s hf
    refine b_iald C h42 h43 dX12_meansChord_28 ?_
    obtain ⟨u44, eu44, hf⟩ := bd_s hf
    refine b_topI eu44 ?_
    refine b_istore C dX12_meansChord_29 [(4, .int u44), (0, .ref (ad B x0)), (1, .int x1), (2, .int y2), (3, .int y3)] (by decide) rfl ?_
    refine b_aload_n C dX12_meansChord_31 1 rfl rfl ?_
    refine b_iload C dX12_meansChord_32 0 rfl ?_
    obtain ⟨u47, d45, k46, hf⟩ := cb_s hf
    refine b_cVI C [] dX12_meansChord_34 (kX12_isChorded l D cy B k46) lv_X12_203 ⟨rfl, rfl, Nat.le_of_ble_eq_true rfl, Nat.le_of_ble_eq_true rfl⟩ h40 (by decide) rfl (Nat.le_of_ble_eq_true rfl) ⟨Nat.zero_le _, Nat.zero_le _⟩ rfl ?_
    refine b_if_ne C (tgt := 58) dX12_meansChord_37 (by decide) (fun c48 => ?_) (fun c48 => ?_)
    · have hf := if_s c48 hf
      refine b_sub [(0, .ref (ad B x0)), (1, .int x1), (2, .int y2), (3, .int y3)] [1, 2, 3, 4] rfl ?_
      exact tX12_meansChord_58 C hr hlocks hK16 hf
    · have hf := it_s c48 hf
      refine b_iload_n C dX12_meansChord_40 4 rfl rfl ?_
      refine b_iconst C (v := 2) dX12_meansChord_41 (by decide) ?_
      refine b_icmp_ne C (tgt := 66) dX12_meansChord_42 (by decide) (fun c57 => ?_) (fun c57 => ?_)
      · have hf := if_s c57 hf
        refine b_sub [(0, .ref (ad B x0)), (1, .int x1), (2, .int y2), (3, .int y3)] [1, 2, 3, 4] rfl ?_
        exact tX12_meansChord_66 C hr hlocks hK16 hf
      · have hf := it_s c57 hf
        refine b_iload C dX12_meansChord_45 0 rfl ?_
        refine b_aload_n C dX12_meansChord_47 1 rfl rfl ?_
        refine b_gR C dX12_meansChord_48 fl_X12_27 h40 er41 ?_
        refine b_iload_n C dX12_meansChord_51 2 rfl rfl ?_
        refine b_iconst C (v := 1) dX12_meansChord_52 (by decide) ?_
        refine b_iadd C dX12_meansChord_53 ?_
        obtain ⟨h58, hf⟩ := gd_s hf
        refine b_iald C h42 h58 dX12_meansChord_54 ?_
        refine b_icmp_ne C (tgt := 66) dX12_meansChord_55 (by decide) (fun c59 => ?_) (fun c59 => ?_)
        · have hf := if_s c59 hf
          refine b_sub [(0, .ref (ad B x0)), (1, .int x1), (2, .int y2), (3, .int y3)] [1, 2, 3, 4] rfl ?_
          exact tX12_meansChord_66 C hr hlocks hK16 hf
        · have hf := it_s c59 hf
          refine b_sub [(0, .ref (ad B x0)), (1, .int x1), (2, .int y2), (3, .int y3)] [1, 2, 3, 4] rfl ?_
          exact tX12_meansChord_58 C hr hlocks hK16 hf
def fX12_meansChord_L16 (N : Nat) (g : Gs) (x0 : Nat) (x1 : Int32) : Int32 × Int32 × Ds → Option (Unit × Ds) := lp (fun K16 a => fX12_meansChord_B16 N g x0 x1 K16 a.1 a.2.1 a.2.2) N
theorem tX12_meansChord_L16 {p : Program} {l : Launch} {e : Env} {s : State} {m : MethodId} {args : Array Value} {below : List Frame} {meth : Method} {c : Code} {D : va_G} {cy : Nat → ClassId} {B : Bs} (C : Cx p s m args c cX12_meansChord 6 RX12 D cy B) (hr : meth.sig.returnType = none) (hlocks : meth.locks = false) {N : Nat} {g : Gs} {x0 : Nat} {x1 : Int32}  {dz : Ds} (a : Int32 × Int32 × Ds) (hf : fX12_meansChord_L16 N g x0 x1 a = some ((), dz)) : WB p l e rmX12_meansChord s m args below meth c 6 D cy B 0 0 (MQ below (QV D cy B g dz) args s 0 0 (wA B)) g a.2.2 [(0, .ref (ad B x0)), (1, .int x1), (2, .int a.1), (3, .int a.2.1)] 16 [] :=
  lp_w (fun K16 hK16 a ha => tX12_meansChord_16 C hr hlocks hK16 ha) N a hf
set_option maxRecDepth 100000 in
def fX12_meansChord (N : Nat) (g : Gs) (x0 : Nat) (x1 : Int32) (d : Ds) : Option (Unit × Ds) := gd (chk g x0 11) <| ob (gR g x0 18) fun r2 => (gd (chk g r2 102) <| gd (¬ ((10 : Int32) < 0 ∨ gL g r2 ≤ (10 : Int32).toNatClampNeg)) <| bd (((300 : Int32) + ((4 : Int32) * (dI d r2 (10 : Int32).toNatClampNeg)))) fun u5 => (fX12_meansChord_L16 N g x0 x1 (u5, 1, d)))
set_option maxHeartbeats 4000000 in
set_option maxRecDepth 100000 in
theorem tX12_meansChord_E {p : Program} {l : Launch} {e : Env} {s : State} {m : MethodId} {args : Array Value} {below : List Frame} {meth : Method} {c : Code} {D : va_G} {cy : Nat → ClassId} {B : Bs} (C : Cx p s m args c cX12_meansChord 6 RX12 D cy B) (hr : meth.sig.returnType = none) (hlocks : meth.locks = false) {N : Nat} {g : Gs} {x0 : Nat} {x1 : Int32}  {dz : Ds} {d : Ds} (hf : fX12_meansChord N g x0 x1 d = some ((), dz)) : WB p l e rmX12_meansChord s m args below meth c 6 D cy B 0 0 (MQ below (QV D cy B g dz) args s 0 0 (wA B)) g d [(0, .ref (ad B x0)), (1, .int x1)] 0 [] := by
  unfold fX12_meansChord at hf
  refine b_sipush C (v := 300) dX12_meansChord_0 (by decide) ?_
  refine b_iconst C (v := 4) dX12_meansChord_3 (by decide) ?_
  refine b_aload_n C dX12_meansChord_4 0 rfl rfl ?_
  obtain ⟨h1, hf⟩ := gd_s hf
  obtain ⟨r2, er2, hf⟩ := ob_s hf
  refine b_gR C dX12_meansChord_5 fl_X12_43 h1 er2 ?_
  refine b_bipush C (v := 10) dX12_meansChord_8 (by decide) ?_
  obtain ⟨h3, hf⟩ := gd_s hf
  obtain ⟨h4, hf⟩ := gd_s hf
  refine b_iald C h3 h4 dX12_meansChord_10 ?_
  refine b_imul C dX12_meansChord_11 ?_
  refine b_iadd C dX12_meansChord_12 ?_
  obtain ⟨u5, eu5, hf⟩ := bd_s hf
  refine b_topI eu5 ?_
  refine b_istore_n C dX12_meansChord_13 rfl [(2, .int u5), (0, .ref (ad B x0)), (1, .int x1)] (by decide) rfl ?_
  refine b_iconst C (v := 1) dX12_meansChord_14 (by decide) ?_
  refine b_istore_n C dX12_meansChord_15 rfl [(3, .int 1), (2, .int u5), (0, .ref (ad B x0)), (1, .int x1)] (by decide) rfl ?_
  refine b_sub [(0, .ref (ad B x0)), (1, .int x1), (2, .int u5), (3, .int 1)] [2, 3, 1, 0] rfl ?_
  exact tX12_meansChord_L16 C hr hlocks (u5, 1, d) hf
theorem kX12_meansChord (l : Launch) (D : va_G) (cy : Nat → ClassId) (B : Bs) {N : Nat} {g : Gs} {x0 : Nat} {x1 : Int32}  {dz : Ds} {d : Ds} (hf : fX12_meansChord N g x0 x1 d = some ((), dz)) : Met l yX12_meansChord (.code yX12_meansChord cX12_meansChord 6 none :: wl) rmX12_meansChord (PC D cy B [.ref (ad B x0), .int x1] g d) (QV D cy B g dz) 0 0 (wA B) :=
  met_of (by decide +kernel) (Nat.le_of_ble_eq_true rfl) (fun p e s m args below meth c C hr hlocks _ => b_sub [(0, .ref (ad B x0)), (1, .int x1)] [0, 1] rfl (tX12_meansChord_E C hr hlocks hf))
/-! KeyMatrixModel.meansMacro(I)V -/
theorem dX12_meansMacro_0 : decode cX12_meansMacro 0 = .ok (.sipush 316, 3) := by decide +kernel
theorem dX12_meansMacro_3 : decode cX12_meansMacro 3 = .ok (.bipush 9, 2) := by decide +kernel
theorem dX12_meansMacro_5 : decode cX12_meansMacro 5 = .ok (.aload_n 0, 1) := by decide +kernel
theorem dX12_meansMacro_6 : decode cX12_meansMacro 6 = .ok (.getfield 43, 3) := by decide +kernel
theorem dX12_meansMacro_9 : decode cX12_meansMacro 9 = .ok (.bipush 11, 2) := by decide +kernel
theorem dX12_meansMacro_11 : decode cX12_meansMacro 11 = .ok (.iaload, 1) := by decide +kernel
theorem dX12_meansMacro_12 : decode cX12_meansMacro 12 = .ok (.imul, 1) := by decide +kernel
theorem dX12_meansMacro_13 : decode cX12_meansMacro 13 = .ok (.iadd, 1) := by decide +kernel
theorem dX12_meansMacro_14 : decode cX12_meansMacro 14 = .ok (.istore_n 2, 1) := by decide +kernel
theorem dX12_meansMacro_15 : decode cX12_meansMacro 15 = .ok (.iload_n 1, 1) := by decide +kernel
theorem dX12_meansMacro_16 : decode cX12_meansMacro 16 = .ok (.iconst 1, 1) := by decide +kernel
theorem dX12_meansMacro_17 : decode cX12_meansMacro 17 = .ok (.iadd, 1) := by decide +kernel
theorem dX12_meansMacro_18 : decode cX12_meansMacro 18 = .ok (.istore_n 3, 1) := by decide +kernel
theorem dX12_meansMacro_19 : decode cX12_meansMacro 19 = .ok (.aload_n 0, 1) := by decide +kernel
theorem dX12_meansMacro_20 : decode cX12_meansMacro 20 = .ok (.getfield 20, 3) := by decide +kernel
theorem dX12_meansMacro_23 : decode cX12_meansMacro 23 = .ok (.iload_n 3, 1) := by decide +kernel
theorem dX12_meansMacro_24 : decode cX12_meansMacro 24 = .ok (.iaload, 1) := by decide +kernel
theorem dX12_meansMacro_25 : decode cX12_meansMacro 25 = .ok (.iconst 2, 1) := by decide +kernel
theorem dX12_meansMacro_26 : decode cX12_meansMacro 26 = .ok (.if_icmp .ne 41, 3) := by decide +kernel
theorem dX12_meansMacro_29 : decode cX12_meansMacro 29 = .ok (.aload_n 0, 1) := by decide +kernel
theorem dX12_meansMacro_30 : decode cX12_meansMacro 30 = .ok (.getfield 43, 3) := by decide +kernel
theorem dX12_meansMacro_33 : decode cX12_meansMacro 33 = .ok (.iload_n 2, 1) := by decide +kernel
theorem dX12_meansMacro_34 : decode cX12_meansMacro 34 = .ok (.dup2, 1) := by decide +kernel
theorem dX12_meansMacro_35 : decode cX12_meansMacro 35 = .ok (.iaload, 1) := by decide +kernel
theorem dX12_meansMacro_36 : decode cX12_meansMacro 36 = .ok (.iconst 1, 1) := by decide +kernel
theorem dX12_meansMacro_37 : decode cX12_meansMacro 37 = .ok (.iadd, 1) := by decide +kernel
theorem dX12_meansMacro_38 : decode cX12_meansMacro 38 = .ok (.iastore, 1) := by decide +kernel
theorem dX12_meansMacro_39 : decode cX12_meansMacro 39 = .ok (.aload_n 0, 1) := by decide +kernel
theorem dX12_meansMacro_40 : decode cX12_meansMacro 40 = .ok (.getfield 43, 3) := by decide +kernel
theorem dX12_meansMacro_43 : decode cX12_meansMacro 43 = .ok (.iload_n 2, 1) := by decide +kernel
theorem dX12_meansMacro_44 : decode cX12_meansMacro 44 = .ok (.aload_n 0, 1) := by decide +kernel
theorem dX12_meansMacro_45 : decode cX12_meansMacro 45 = .ok (.getfield 43, 3) := by decide +kernel
theorem dX12_meansMacro_48 : decode cX12_meansMacro 48 = .ok (.iload_n 2, 1) := by decide +kernel
theorem dX12_meansMacro_49 : decode cX12_meansMacro 49 = .ok (.iaload, 1) := by decide +kernel
theorem dX12_meansMacro_50 : decode cX12_meansMacro 50 = .ok (.iadd, 1) := by decide +kernel
theorem dX12_meansMacro_51 : decode cX12_meansMacro 51 = .ok (.aload_n 0, 1) := by decide +kernel
theorem dX12_meansMacro_52 : decode cX12_meansMacro 52 = .ok (.iload_n 3, 1) := by decide +kernel
theorem dX12_meansMacro_53 : decode cX12_meansMacro 53 = .ok (.iconst 1, 1) := by decide +kernel
theorem dX12_meansMacro_54 : decode cX12_meansMacro 54 = .ok (.sipush 200, 3) := by decide +kernel
theorem dX12_meansMacro_57 : decode cX12_meansMacro 57 = .ok (.invokevirtual 177, 3) := by decide +kernel
theorem dX12_meansMacro_60 : decode cX12_meansMacro 60 = .ok (.iastore, 1) := by decide +kernel
theorem dX12_meansMacro_61 : decode cX12_meansMacro 61 = .ok (.iinc 3 1, 3) := by decide +kernel
theorem dX12_meansMacro_64 : decode cX12_meansMacro 64 = .ok (.goto (-45), 3) := by decide +kernel
theorem dX12_meansMacro_67 : decode cX12_meansMacro 67 = .ok (.aload_n 0, 1) := by decide +kernel
theorem dX12_meansMacro_68 : decode cX12_meansMacro 68 = .ok (.getfield 43, 3) := by decide +kernel
theorem dX12_meansMacro_71 : decode cX12_meansMacro 71 = .ok (.bipush 11, 2) := by decide +kernel
theorem dX12_meansMacro_73 : decode cX12_meansMacro 73 = .ok (.dup2, 1) := by decide +kernel
theorem dX12_meansMacro_74 : decode cX12_meansMacro 74 = .ok (.iaload, 1) := by decide +kernel
theorem dX12_meansMacro_75 : decode cX12_meansMacro 75 = .ok (.iconst 1, 1) := by decide +kernel
theorem dX12_meansMacro_76 : decode cX12_meansMacro 76 = .ok (.iadd, 1) := by decide +kernel
theorem dX12_meansMacro_77 : decode cX12_meansMacro 77 = .ok (.iastore, 1) := by decide +kernel
theorem dX12_meansMacro_78 : decode cX12_meansMacro 78 = .ok (.return_, 1) := by decide +kernel
def rmX12_meansMacro : Room := { frames := 2, cells := 0, slots := 0, locals := 46 }
set_option maxRecDepth 100000 in
def fX12_meansMacro_B19 (N : Nat) (g : Gs) (x0 : Nat) (x1 : Int32) (K19 : Int32 × Int32 × Ds → Option (Unit × Ds)) (y2 : Int32) (y3 : Int32) (d : Ds) : Option (Unit × Ds) := gd (chk g x0 11) <| ob (gR g x0 5) fun r8 => (gd (chk g r8 102) <| gd (¬ (y3 < 0 ∨ gL g r8 ≤ y3.toNatClampNeg)) <| if (dI d r8 y3.toNatClampNeg) = (2 : Int32) then (ob (gR g x0 18) fun r16 => (gd (chk g r16 102) <| gd (¬ (y2 < 0 ∨ gL g r16 ≤ y2.toNatClampNeg)) <| bd (sI d r16 y2.toNatClampNeg ((dI d r16 y2.toNatClampNeg) + 1)) fun d19 => (cb (fX12_within N g x0 y3 1 200 d19) fun u22 d20 => (gd (¬ ((y2 + (dI d19 r16 y2.toNatClampNeg)) < 0 ∨ gL g r16 ≤ (y2 + (dI d19 r16 y2.toNatClampNeg)).toNatClampNeg)) <| bd (sI d20 r16 (y2 + (dI d19 r16 y2.toNatClampNeg)).toNatClampNeg u22) fun d24 => (bd (y3 + 1) fun u25 => (K19 (y2, u25, d24))))))) else (ob (gR g x0 18) fun r12 => (gd (chk g r12 102) <| gd (¬ ((11 : Int32) < 0 ∨ gL g r12 ≤ (11 : Int32).toNatClampNeg)) <| bd (sI d r12 (11 : Int32).toNatClampNeg ((dI d r12 (11 : Int32).toNatClampNeg) + 1)) fun d15 => (some ((), d15)))))
set_option maxHeartbeats 4000000 in
set_option maxRecDepth 100000 in
theorem tX12_meansMacro_19 {p : Program} {l : Launch} {e : Env} {s : State} {m : MethodId} {args : Array Value} {below : List Frame} {meth : Method} {c : Code} {D : va_G} {cy : Nat → ClassId} {B : Bs} (C : Cx p s m args c cX12_meansMacro 4 RX12 D cy B) (hr : meth.sig.returnType = none) (hlocks : meth.locks = false) {N : Nat} {g : Gs} {x0 : Nat} {x1 : Int32}  {dz : Ds} {K19 : Int32 × Int32 × Ds → Option (Unit × Ds)} (hK19 : ∀ a, K19 a = some ((), dz) → WB p l e rmX12_meansMacro s m args below meth c 4 D cy B 0 0 (MQ below (QV D cy B g dz) args s 0 0 (wA B)) g a.2.2 [(0, .ref (ad B x0)), (1, .int x1), (2, .int a.1), (3, .int a.2.1)] 19 []) {y2 : Int32} {y3 : Int32} {d : Ds} (hf : fX12_meansMacro_B19 N g x0 x1 K19 y2 y3 d = some ((), dz)) : WB p l e rmX12_meansMacro s m args below meth c 4 D cy B 0 0 (MQ below (QV D cy B g dz) args s 0 0 (wA B)) g d [(0, .ref (ad B x0)), (1, .int x1), (2, .int y2), (3, .int y3)] 19 [] := by
  unfold fX12_meansMacro_B19 at hf
  refine b_aload_n C dX12_meansMacro_19 0 rfl rfl ?_
  obtain ⟨h7, hf⟩ := gd_s hf
  obtain ⟨r8, er8, hf⟩ := ob_s hf
  refine b_gR C dX12_meansMacro_20 fl_X12_20 h7 er8 ?_
  refine b_iload_n C dX12_meansMacro_23 3 rfl rfl ?_
  obtain ⟨h9, hf⟩ := gd_s hf
  obtain ⟨h10, hf⟩ := gd_s hf
  refine b_iald C h9 h10 dX12_meansMacro_24 ?_
  refine b_iconst C (v := 2) dX12_meansMacro_25 (by decide) ?_
  refine b_icmp_ne C (tgt := 67) dX12_meansMacro_26 (by decide) (fun c11 => ?_) (fun c11 => ?_)
  · have hf := if_s c11 hf
    refine b_aload_n C dX12_meansMacro_67 0 rfl rfl ?_
    obtain ⟨r12, er12, hf⟩ := ob_s hf
    refine b_gR C dX12_meansMacro_68 fl_X12_43 h7 er12 ?_
    refine b_bipush C (v := 11) dX12_meansMacro_71 (by decide) ?_
    refine b_dup2 C dX12_meansMacro_73 rfl rfl ?_
    obtain ⟨h13, hf⟩ := gd_s hf
    obtain ⟨h14, hf⟩ := gd_s hf
    refine b_iald C h13 h14 dX12_meansMacro_74 ?_
    refine b_iconst C (v := 1) dX12_meansMacro_75 (by decide) ?_
    refine b_iadd C dX12_meansMacro_76 ?_
    obtain ⟨d15, ed15, hf⟩ := bd_s hf
    refine b_iast C h13 h14 ed15 dX12_meansMacro_77 ?_
    exact b_vret C hr hlocks hf dX12_meansMacro_78
  · have hf := it_s c11 hf
    refine b_aload_n C dX12_meansMacro_29 0 rfl rfl ?_
    obtain ⟨r16, er16, hf⟩ := ob_s hf
    refine b_gR C dX12_meansMacro_30 fl_X12_43 h7 er16 ?_
    refine b_iload_n C dX12_meansMacro_33 2 rfl rfl ?_
    refine b_dup2 C dX12_meansMacro_34 rfl rfl ?_
    obtain ⟨h17, hf⟩ := gd_s hf
    obtain ⟨h18, hf⟩ := gd_s hf
    refine b_iald C h17 h18 dX12_meansMacro_35 ?_
    refine b_iconst C (v := 1) dX12_meansMacro_36 (by decide) ?_
    refine b_iadd C dX12_meansMacro_37 ?_
    obtain ⟨d19, ed19, hf⟩ := bd_s hf
    refine b_iast C h17 h18 ed19 dX12_meansMacro_38 ?_
    refine b_aload_n C dX12_meansMacro_39 0 rfl rfl ?_
    refine b_gR C dX12_meansMacro_40 fl_X12_43 h7 er16 ?_
    refine b_iload_n C dX12_meansMacro_43 2 rfl rfl ?_
    refine b_aload_n C dX12_meansMacro_44 0 rfl rfl ?_
    refine b_gR C dX12_meansMacro_45 fl_X12_43 h7 er16 ?_
    refine b_iload_n C dX12_meansMacro_48 2 rfl rfl ?_
    refine b_iald C h17 h18 dX12_meansMacro_49 ?_
    refine b_iadd C dX12_meansMacro_50 ?_
    refine b_aload_n C dX12_meansMacro_51 0 rfl rfl ?_
    refine b_iload_n C dX12_meansMacro_52 3 rfl rfl ?_
    refine b_iconst C (v := 1) dX12_meansMacro_53 (by decide) ?_
    refine b_sipush C (v := 200) dX12_meansMacro_54 (by decide) ?_
    obtain ⟨u22, d20, k21, hf⟩ := cb_s hf
    refine b_cVI C [.int (y2 + (dI d19 r16 y2.toNatClampNeg)), .ref (ad B r16)] dX12_meansMacro_57 (kX12_within l D cy B k21) lv_X12_177 ⟨rfl, rfl, Nat.le_of_ble_eq_true rfl, Nat.le_of_ble_eq_true rfl⟩ h7 (by decide) rfl (Nat.le_of_ble_eq_true rfl) ⟨Nat.zero_le _, Nat.zero_le _⟩ rfl ?_
    obtain ⟨h23, hf⟩ := gd_s hf
    obtain ⟨d24, ed24, hf⟩ := bd_s hf
    refine b_iast C h17 h23 ed24 dX12_meansMacro_60 ?_
    obtain ⟨u25, eu25, hf⟩ := bd_s hf
    refine b_iinc C dX12_meansMacro_61 3 rfl (by rw [eu25]; rfl) [(3, .int u25), (0, .ref (ad B x0)), (1, .int x1), (2, .int y2)] (by decide) rfl ?_
    refine b_goto C (tgt := 19) dX12_meansMacro_64 (by decide) ?_
    refine b_sub [(0, .ref (ad B x0)), (1, .int x1), (2, .int y2), (3, .int u25)] [1, 2, 3, 0] rfl ?_
    exact hK19 (y2, u25, d24) hf
def fX12_meansMacro_L19 (N : Nat) (g : Gs) (x0 : Nat) (x1 : Int32) : Int32 × Int32 × Ds → Option (Unit × Ds) := lp (fun K19 a => fX12_meansMacro_B19 N g x0 x1 K19 a.1 a.2.1 a.2.2) N
theorem tX12_meansMacro_L19 {p : Program} {l : Launch} {e : Env} {s : State} {m : MethodId} {args : Array Value} {below : List Frame} {meth : Method} {c : Code} {D : va_G} {cy : Nat → ClassId} {B : Bs} (C : Cx p s m args c cX12_meansMacro 4 RX12 D cy B) (hr : meth.sig.returnType = none) (hlocks : meth.locks = false) {N : Nat} {g : Gs} {x0 : Nat} {x1 : Int32}  {dz : Ds} (a : Int32 × Int32 × Ds) (hf : fX12_meansMacro_L19 N g x0 x1 a = some ((), dz)) : WB p l e rmX12_meansMacro s m args below meth c 4 D cy B 0 0 (MQ below (QV D cy B g dz) args s 0 0 (wA B)) g a.2.2 [(0, .ref (ad B x0)), (1, .int x1), (2, .int a.1), (3, .int a.2.1)] 19 [] :=
  lp_w (fun K19 hK19 a ha => tX12_meansMacro_19 C hr hlocks hK19 ha) N a hf
set_option maxRecDepth 100000 in
def fX12_meansMacro (N : Nat) (g : Gs) (x0 : Nat) (x1 : Int32) (d : Ds) : Option (Unit × Ds) := gd (chk g x0 11) <| ob (gR g x0 18) fun r2 => (gd (chk g r2 102) <| gd (¬ ((11 : Int32) < 0 ∨ gL g r2 ≤ (11 : Int32).toNatClampNeg)) <| bd (((316 : Int32) + ((9 : Int32) * (dI d r2 (11 : Int32).toNatClampNeg)))) fun u5 => (bd ((x1 + 1)) fun u6 => (fX12_meansMacro_L19 N g x0 x1 (u5, u6, d))))
set_option maxHeartbeats 4000000 in
set_option maxRecDepth 100000 in
theorem tX12_meansMacro_E {p : Program} {l : Launch} {e : Env} {s : State} {m : MethodId} {args : Array Value} {below : List Frame} {meth : Method} {c : Code} {D : va_G} {cy : Nat → ClassId} {B : Bs} (C : Cx p s m args c cX12_meansMacro 4 RX12 D cy B) (hr : meth.sig.returnType = none) (hlocks : meth.locks = false) {N : Nat} {g : Gs} {x0 : Nat} {x1 : Int32}  {dz : Ds} {d : Ds} (hf : fX12_meansMacro N g x0 x1 d = some ((), dz)) : WB p l e rmX12_meansMacro s m args below meth c 4 D cy B 0 0 (MQ below (QV D cy B g dz) args s 0 0 (wA B)) g d [(0, .ref (ad B x0)), (1, .int x1)] 0 [] := by
  unfold fX12_meansMacro at hf
  refine b_sipush C (v := 316) dX12_meansMacro_0 (by decide) ?_
  refine b_bipush C (v := 9) dX12_meansMacro_3 (by decide) ?_
  refine b_aload_n C dX12_meansMacro_5 0 rfl rfl ?_
  obtain ⟨h1, hf⟩ := gd_s hf
  obtain ⟨r2, er2, hf⟩ := ob_s hf
  refine b_gR C dX12_meansMacro_6 fl_X12_43 h1 er2 ?_
  refine b_bipush C (v := 11) dX12_meansMacro_9 (by decide) ?_
  obtain ⟨h3, hf⟩ := gd_s hf
  obtain ⟨h4, hf⟩ := gd_s hf
  refine b_iald C h3 h4 dX12_meansMacro_11 ?_
  refine b_imul C dX12_meansMacro_12 ?_
  refine b_iadd C dX12_meansMacro_13 ?_
  obtain ⟨u5, eu5, hf⟩ := bd_s hf
  refine b_topI eu5 ?_
  refine b_istore_n C dX12_meansMacro_14 rfl [(2, .int u5), (0, .ref (ad B x0)), (1, .int x1)] (by decide) rfl ?_
  refine b_iload_n C dX12_meansMacro_15 2 rfl rfl ?_
  refine b_iconst C (v := 1) dX12_meansMacro_16 (by decide) ?_
  refine b_iadd C dX12_meansMacro_17 ?_
  obtain ⟨u6, eu6, hf⟩ := bd_s hf
  refine b_topI eu6 ?_
  refine b_istore_n C dX12_meansMacro_18 rfl [(3, .int u6), (2, .int u5), (0, .ref (ad B x0)), (1, .int x1)] (by decide) rfl ?_
  refine b_sub [(0, .ref (ad B x0)), (1, .int x1), (2, .int u5), (3, .int u6)] [2, 3, 1, 0] rfl ?_
  exact tX12_meansMacro_L19 C hr hlocks (u5, u6, d) hf
theorem kX12_meansMacro (l : Launch) (D : va_G) (cy : Nat → ClassId) (B : Bs) {N : Nat} {g : Gs} {x0 : Nat} {x1 : Int32}  {dz : Ds} {d : Ds} (hf : fX12_meansMacro N g x0 x1 d = some ((), dz)) : Met l yX12_meansMacro (.code yX12_meansMacro cX12_meansMacro 4 none :: wl) rmX12_meansMacro (PC D cy B [.ref (ad B x0), .int x1] g d) (QV D cy B g dz) 0 0 (wA B) :=
  met_of (by decide +kernel) (Nat.le_of_ble_eq_true rfl) (fun p e s m args below meth c C hr hlocks _ => b_sub [(0, .ref (ad B x0)), (1, .int x1)] [0, 1] rfl (tX12_meansMacro_E C hr hlocks hf))
/-! KeyMatrixModel.meansLine(I)V -/
theorem yo_X12_meansKey : yX12_meansKey.cls ≠ "java/lang/invoke/MethodHandle" ∧ yX12_meansKey.cls ≠ "java/lang/invoke/VarHandle" ∧ (parseMethodDescriptor yX12_meansKey.desc).map (fun d => d.parameters.length) = some 1 := by decide +kernel
theorem co_X12_meansKey : Cond.code yX12_meansKey cX12_meansKey 5 none ∈ wl := mW (mT6 (List.mem_of_getElem? (i := 37) (by decide +kernel))) rfl
theorem in_X12_meansKey : Cond.initialized yX12_meansKey.cls ∈ wl := mW (mT1 (List.mem_of_getElem? (i := 12) (by decide +kernel))) rfl
theorem im_X12_meansKey : Cond.instanceMethod yX12_meansKey ∈ wl := mW (mT6 (List.mem_of_getElem? (i := 36) (by decide +kernel))) rfl
theorem se_X12_meansKey : Cond.selects yX12_meansKey.cls yX12_meansKey yX12_meansKey ∈ wl := mW (mT0 (List.mem_of_getElem? (i := 47) (by decide +kernel))) rfl
theorem lv_X12_188 : LV RX12 188 yX12_meansKey cX12_meansKey 5 none 1 11 := ⟨⟨(RX12, TX12, 33), rfl, rfl⟩, yo_X12_meansKey, mW (mT6 (List.mem_of_getElem? (i := 34) (by decide +kernel))) rfl, im_X12_meansKey, se_X12_meansKey, in_X12_meansKey, co_X12_meansKey⟩
theorem yo_X12_meansChord : yX12_meansChord.cls ≠ "java/lang/invoke/MethodHandle" ∧ yX12_meansChord.cls ≠ "java/lang/invoke/VarHandle" ∧ (parseMethodDescriptor yX12_meansChord.desc).map (fun d => d.parameters.length) = some 1 := by decide +kernel
theorem co_X12_meansChord : Cond.code yX12_meansChord cX12_meansChord 6 none ∈ wl := mW (mT6 (List.mem_of_getElem? (i := 49) (by decide +kernel))) rfl
theorem in_X12_meansChord : Cond.initialized yX12_meansChord.cls ∈ wl := mW (mT1 (List.mem_of_getElem? (i := 12) (by decide +kernel))) rfl
theorem im_X12_meansChord : Cond.instanceMethod yX12_meansChord ∈ wl := mW (mT6 (List.mem_of_getElem? (i := 48) (by decide +kernel))) rfl
theorem se_X12_meansChord : Cond.selects yX12_meansChord.cls yX12_meansChord yX12_meansChord ∈ wl := mW (mT0 (List.mem_of_getElem? (i := 50) (by decide +kernel))) rfl
theorem lv_X12_191 : LV RX12 191 yX12_meansChord cX12_meansChord 6 none 1 11 := ⟨⟨(RX12, TX12, 33), rfl, rfl⟩, yo_X12_meansChord, mW (mT6 (List.mem_of_getElem? (i := 46) (by decide +kernel))) rfl, im_X12_meansChord, se_X12_meansChord, in_X12_meansChord, co_X12_meansChord⟩
theorem yo_X12_meansMacro : yX12_meansMacro.cls ≠ "java/lang/invoke/MethodHandle" ∧ yX12_meansMacro.cls ≠ "java/lang/invoke/VarHandle" ∧ (parseMethodDescriptor yX12_meansMacro.desc).map (fun d => d.parameters.length) = some 1 := by decide +kernel
theorem co_X12_meansMacro : Cond.code yX12_meansMacro cX12_meansMacro 4 none ∈ wl := mW (mT6 (List.mem_of_getElem? (i := 57) (by decide +kernel))) rfl
theorem in_X12_meansMacro : Cond.initialized yX12_meansMacro.cls ∈ wl := mW (mT1 (List.mem_of_getElem? (i := 12) (by decide +kernel))) rfl
theorem im_X12_meansMacro : Cond.instanceMethod yX12_meansMacro ∈ wl := mW (mT6 (List.mem_of_getElem? (i := 56) (by decide +kernel))) rfl
theorem se_X12_meansMacro : Cond.selects yX12_meansMacro.cls yX12_meansMacro yX12_meansMacro ∈ wl := mW (mT0 (List.mem_of_getElem? (i := 52) (by decide +kernel))) rfl
theorem lv_X12_194 : LV RX12 194 yX12_meansMacro cX12_meansMacro 4 none 1 11 := ⟨⟨(RX12, TX12, 33), rfl, rfl⟩, yo_X12_meansMacro, mW (mT6 (List.mem_of_getElem? (i := 54) (by decide +kernel))) rfl, im_X12_meansMacro, se_X12_meansMacro, in_X12_meansMacro, co_X12_meansMacro⟩
theorem dX12_meansLine_0 : decode cX12_meansLine 0 = .ok (.aload_n 0, 1) := by decide +kernel
theorem dX12_meansLine_1 : decode cX12_meansLine 1 = .ok (.getfield 20, 3) := by decide +kernel
theorem dX12_meansLine_4 : decode cX12_meansLine 4 = .ok (.iload_n 1, 1) := by decide +kernel
theorem dX12_meansLine_5 : decode cX12_meansLine 5 = .ok (.iaload, 1) := by decide +kernel
theorem dX12_meansLine_6 : decode cX12_meansLine 6 = .ok (.tableswitch 213 21 30 #[54, 64, 74, 93, 112, 132, 152, 189, 197, 205], 54) := by decide +kernel
theorem dX12_meansLine_60 : decode cX12_meansLine 60 = .ok (.aload_n 0, 1) := by decide +kernel
theorem dX12_meansLine_61 : decode cX12_meansLine 61 = .ok (.getfield 43, 3) := by decide +kernel
theorem dX12_meansLine_64 : decode cX12_meansLine 64 = .ok (.iconst 2, 1) := by decide +kernel
theorem dX12_meansLine_65 : decode cX12_meansLine 65 = .ok (.iconst 1, 1) := by decide +kernel
theorem dX12_meansLine_66 : decode cX12_meansLine 66 = .ok (.iastore, 1) := by decide +kernel
theorem dX12_meansLine_67 : decode cX12_meansLine 67 = .ok (.goto 152, 3) := by decide +kernel
theorem dX12_meansLine_70 : decode cX12_meansLine 70 = .ok (.aload_n 0, 1) := by decide +kernel
theorem dX12_meansLine_71 : decode cX12_meansLine 71 = .ok (.getfield 43, 3) := by decide +kernel
theorem dX12_meansLine_74 : decode cX12_meansLine 74 = .ok (.iconst 3, 1) := by decide +kernel
theorem dX12_meansLine_75 : decode cX12_meansLine 75 = .ok (.iconst 1, 1) := by decide +kernel
theorem dX12_meansLine_76 : decode cX12_meansLine 76 = .ok (.iastore, 1) := by decide +kernel
theorem dX12_meansLine_77 : decode cX12_meansLine 77 = .ok (.goto 142, 3) := by decide +kernel
theorem dX12_meansLine_80 : decode cX12_meansLine 80 = .ok (.aload_n 0, 1) := by decide +kernel
theorem dX12_meansLine_81 : decode cX12_meansLine 81 = .ok (.getfield 43, 3) := by decide +kernel
theorem dX12_meansLine_84 : decode cX12_meansLine 84 = .ok (.iconst 4, 1) := by decide +kernel
theorem dX12_meansLine_85 : decode cX12_meansLine 85 = .ok (.aload_n 0, 1) := by decide +kernel
theorem dX12_meansLine_86 : decode cX12_meansLine 86 = .ok (.iload_n 1, 1) := by decide +kernel
theorem dX12_meansLine_87 : decode cX12_meansLine 87 = .ok (.iconst 1, 1) := by decide +kernel
theorem dX12_meansLine_88 : decode cX12_meansLine 88 = .ok (.iadd, 1) := by decide +kernel
theorem dX12_meansLine_89 : decode cX12_meansLine 89 = .ok (.iconst 1, 1) := by decide +kernel
theorem dX12_meansLine_90 : decode cX12_meansLine 90 = .ok (.bipush 9, 2) := by decide +kernel
theorem dX12_meansLine_92 : decode cX12_meansLine 92 = .ok (.invokevirtual 177, 3) := by decide +kernel
theorem dX12_meansLine_95 : decode cX12_meansLine 95 = .ok (.iastore, 1) := by decide +kernel
theorem dX12_meansLine_96 : decode cX12_meansLine 96 = .ok (.goto 123, 3) := by decide +kernel
theorem dX12_meansLine_99 : decode cX12_meansLine 99 = .ok (.aload_n 0, 1) := by decide +kernel
theorem dX12_meansLine_100 : decode cX12_meansLine 100 = .ok (.getfield 43, 3) := by decide +kernel
theorem dX12_meansLine_103 : decode cX12_meansLine 103 = .ok (.iconst 5, 1) := by decide +kernel
theorem dX12_meansLine_104 : decode cX12_meansLine 104 = .ok (.aload_n 0, 1) := by decide +kernel
theorem dX12_meansLine_105 : decode cX12_meansLine 105 = .ok (.iload_n 1, 1) := by decide +kernel
theorem dX12_meansLine_106 : decode cX12_meansLine 106 = .ok (.iconst 1, 1) := by decide +kernel
theorem dX12_meansLine_107 : decode cX12_meansLine 107 = .ok (.iadd, 1) := by decide +kernel
theorem dX12_meansLine_108 : decode cX12_meansLine 108 = .ok (.iconst 1, 1) := by decide +kernel
theorem dX12_meansLine_109 : decode cX12_meansLine 109 = .ok (.bipush 99, 2) := by decide +kernel
theorem dX12_meansLine_111 : decode cX12_meansLine 111 = .ok (.invokevirtual 177, 3) := by decide +kernel
theorem dX12_meansLine_114 : decode cX12_meansLine 114 = .ok (.iastore, 1) := by decide +kernel
theorem dX12_meansLine_115 : decode cX12_meansLine 115 = .ok (.goto 104, 3) := by decide +kernel
theorem dX12_meansLine_118 : decode cX12_meansLine 118 = .ok (.aload_n 0, 1) := by decide +kernel
theorem dX12_meansLine_119 : decode cX12_meansLine 119 = .ok (.getfield 43, 3) := by decide +kernel
theorem dX12_meansLine_122 : decode cX12_meansLine 122 = .ok (.bipush 6, 2) := by decide +kernel
theorem dX12_meansLine_124 : decode cX12_meansLine 124 = .ok (.aload_n 0, 1) := by decide +kernel
theorem dX12_meansLine_125 : decode cX12_meansLine 125 = .ok (.iload_n 1, 1) := by decide +kernel
theorem dX12_meansLine_126 : decode cX12_meansLine 126 = .ok (.iconst 1, 1) := by decide +kernel
theorem dX12_meansLine_127 : decode cX12_meansLine 127 = .ok (.iadd, 1) := by decide +kernel
theorem dX12_meansLine_128 : decode cX12_meansLine 128 = .ok (.iconst 1, 1) := by decide +kernel
theorem dX12_meansLine_129 : decode cX12_meansLine 129 = .ok (.bipush 20, 2) := by decide +kernel
theorem dX12_meansLine_131 : decode cX12_meansLine 131 = .ok (.invokevirtual 177, 3) := by decide +kernel
theorem dX12_meansLine_134 : decode cX12_meansLine 134 = .ok (.iastore, 1) := by decide +kernel
theorem dX12_meansLine_135 : decode cX12_meansLine 135 = .ok (.goto 84, 3) := by decide +kernel
theorem dX12_meansLine_138 : decode cX12_meansLine 138 = .ok (.aload_n 0, 1) := by decide +kernel
theorem dX12_meansLine_139 : decode cX12_meansLine 139 = .ok (.getfield 43, 3) := by decide +kernel
theorem dX12_meansLine_142 : decode cX12_meansLine 142 = .ok (.bipush 7, 2) := by decide +kernel
theorem dX12_meansLine_144 : decode cX12_meansLine 144 = .ok (.aload_n 0, 1) := by decide +kernel
theorem dX12_meansLine_145 : decode cX12_meansLine 145 = .ok (.iload_n 1, 1) := by decide +kernel
theorem dX12_meansLine_146 : decode cX12_meansLine 146 = .ok (.iconst 1, 1) := by decide +kernel
theorem dX12_meansLine_147 : decode cX12_meansLine 147 = .ok (.iadd, 1) := by decide +kernel
theorem dX12_meansLine_148 : decode cX12_meansLine 148 = .ok (.iconst 1, 1) := by decide +kernel
theorem dX12_meansLine_149 : decode cX12_meansLine 149 = .ok (.bipush 40, 2) := by decide +kernel
theorem dX12_meansLine_151 : decode cX12_meansLine 151 = .ok (.invokevirtual 177, 3) := by decide +kernel
theorem dX12_meansLine_154 : decode cX12_meansLine 154 = .ok (.iastore, 1) := by decide +kernel
theorem dX12_meansLine_155 : decode cX12_meansLine 155 = .ok (.goto 64, 3) := by decide +kernel
theorem dX12_meansLine_158 : decode cX12_meansLine 158 = .ok (.aload_n 0, 1) := by decide +kernel
theorem dX12_meansLine_159 : decode cX12_meansLine 159 = .ok (.getfield 43, 3) := by decide +kernel
theorem dX12_meansLine_162 : decode cX12_meansLine 162 = .ok (.bipush 8, 2) := by decide +kernel
theorem dX12_meansLine_164 : decode cX12_meansLine 164 = .ok (.aload_n 0, 1) := by decide +kernel
theorem dX12_meansLine_165 : decode cX12_meansLine 165 = .ok (.iload_n 1, 1) := by decide +kernel
theorem dX12_meansLine_166 : decode cX12_meansLine 166 = .ok (.iconst 1, 1) := by decide +kernel
theorem dX12_meansLine_167 : decode cX12_meansLine 167 = .ok (.iadd, 1) := by decide +kernel
theorem dX12_meansLine_168 : decode cX12_meansLine 168 = .ok (.iconst 1, 1) := by decide +kernel
theorem dX12_meansLine_169 : decode cX12_meansLine 169 = .ok (.bipush 99, 2) := by decide +kernel
theorem dX12_meansLine_171 : decode cX12_meansLine 171 = .ok (.invokevirtual 177, 3) := by decide +kernel
theorem dX12_meansLine_174 : decode cX12_meansLine 174 = .ok (.iastore, 1) := by decide +kernel
theorem dX12_meansLine_175 : decode cX12_meansLine 175 = .ok (.aload_n 0, 1) := by decide +kernel
theorem dX12_meansLine_176 : decode cX12_meansLine 176 = .ok (.getfield 43, 3) := by decide +kernel
theorem dX12_meansLine_179 : decode cX12_meansLine 179 = .ok (.bipush 9, 2) := by decide +kernel
theorem dX12_meansLine_181 : decode cX12_meansLine 181 = .ok (.aload_n 0, 1) := by decide +kernel
theorem dX12_meansLine_182 : decode cX12_meansLine 182 = .ok (.iload_n 1, 1) := by decide +kernel
theorem dX12_meansLine_183 : decode cX12_meansLine 183 = .ok (.iconst 2, 1) := by decide +kernel
theorem dX12_meansLine_184 : decode cX12_meansLine 184 = .ok (.iadd, 1) := by decide +kernel
theorem dX12_meansLine_185 : decode cX12_meansLine 185 = .ok (.iconst 1, 1) := by decide +kernel
theorem dX12_meansLine_186 : decode cX12_meansLine 186 = .ok (.bipush 20, 2) := by decide +kernel
theorem dX12_meansLine_188 : decode cX12_meansLine 188 = .ok (.invokevirtual 177, 3) := by decide +kernel
theorem dX12_meansLine_191 : decode cX12_meansLine 191 = .ok (.iastore, 1) := by decide +kernel
theorem dX12_meansLine_192 : decode cX12_meansLine 192 = .ok (.goto 27, 3) := by decide +kernel
theorem dX12_meansLine_195 : decode cX12_meansLine 195 = .ok (.aload_n 0, 1) := by decide +kernel
theorem dX12_meansLine_196 : decode cX12_meansLine 196 = .ok (.iload_n 1, 1) := by decide +kernel
theorem dX12_meansLine_197 : decode cX12_meansLine 197 = .ok (.invokevirtual 188, 3) := by decide +kernel
theorem dX12_meansLine_200 : decode cX12_meansLine 200 = .ok (.goto 19, 3) := by decide +kernel
theorem dX12_meansLine_203 : decode cX12_meansLine 203 = .ok (.aload_n 0, 1) := by decide +kernel
theorem dX12_meansLine_204 : decode cX12_meansLine 204 = .ok (.iload_n 1, 1) := by decide +kernel
theorem dX12_meansLine_205 : decode cX12_meansLine 205 = .ok (.invokevirtual 191, 3) := by decide +kernel
theorem dX12_meansLine_208 : decode cX12_meansLine 208 = .ok (.goto 11, 3) := by decide +kernel
theorem dX12_meansLine_211 : decode cX12_meansLine 211 = .ok (.aload_n 0, 1) := by decide +kernel
theorem dX12_meansLine_212 : decode cX12_meansLine 212 = .ok (.iload_n 1, 1) := by decide +kernel
theorem dX12_meansLine_213 : decode cX12_meansLine 213 = .ok (.invokevirtual 194, 3) := by decide +kernel
theorem dX12_meansLine_216 : decode cX12_meansLine 216 = .ok (.goto 3, 3) := by decide +kernel
theorem dX12_meansLine_219 : decode cX12_meansLine 219 = .ok (.return_, 1) := by decide +kernel
def rmX12_meansLine : Room := { frames := 4, cells := 0, slots := 0, locals := 93 }
set_option maxRecDepth 100000 in
def fX12_meansLine_J219 (N : Nat) (g : Gs) (x0 : Nat) (x1 : Int32) (d : Ds) : Option (Unit × Ds) := some ((), d)
set_option maxHeartbeats 4000000 in
set_option maxRecDepth 100000 in
theorem tX12_meansLine_219 {p : Program} {l : Launch} {e : Env} {s : State} {m : MethodId} {args : Array Value} {below : List Frame} {meth : Method} {c : Code} {D : va_G} {cy : Nat → ClassId} {B : Bs} (C : Cx p s m args c cX12_meansLine 2 RX12 D cy B) (hr : meth.sig.returnType = none) (hlocks : meth.locks = false) {N : Nat} {g : Gs} {x0 : Nat} {x1 : Int32}  {dz : Ds} {d : Ds} (hf : fX12_meansLine_J219 N g x0 x1 d = some ((), dz)) : WB p l e rmX12_meansLine s m args below meth c 2 D cy B 0 0 (MQ below (QV D cy B g dz) args s 0 0 (wA B)) g d [(0, .ref (ad B x0)), (1, .int x1)] 219 [] := by
  unfold fX12_meansLine_J219 at hf
  exact b_vret C hr hlocks hf dX12_meansLine_219
set_option maxRecDepth 100000 in
def fX12_meansLine_J175 (N : Nat) (g : Gs) (x0 : Nat) (x1 : Int32) (d : Ds) : Option (Unit × Ds) := gd (chk g x0 11) <| ob (gR g x0 18) fun r57 => (cb (fX12_within N g x0 (x1 + 2) 1 20 d) fun u60 d58 => (gd (chk g r57 102) <| gd (¬ ((9 : Int32) < 0 ∨ gL g r57 ≤ (9 : Int32).toNatClampNeg)) <| bd (sI d58 r57 (9 : Int32).toNatClampNeg u60) fun d63 => (fX12_meansLine_J219 N g x0 x1 d63)))
set_option maxHeartbeats 4000000 in
set_option maxRecDepth 100000 in
theorem tX12_meansLine_175 {p : Program} {l : Launch} {e : Env} {s : State} {m : MethodId} {args : Array Value} {below : List Frame} {meth : Method} {c : Code} {D : va_G} {cy : Nat → ClassId} {B : Bs} (C : Cx p s m args c cX12_meansLine 2 RX12 D cy B) (hr : meth.sig.returnType = none) (hlocks : meth.locks = false) {N : Nat} {g : Gs} {x0 : Nat} {x1 : Int32}  {dz : Ds} {d : Ds} (hf : fX12_meansLine_J175 N g x0 x1 d = some ((), dz)) : WB p l e rmX12_meansLine s m args below meth c 2 D cy B 0 0 (MQ below (QV D cy B g dz) args s 0 0 (wA B)) g d [(0, .ref (ad B x0)), (1, .int x1)] 175 [] := by
  unfold fX12_meansLine_J175 at hf
  refine b_aload_n C dX12_meansLine_175 0 rfl rfl ?_
  obtain ⟨h56, hf⟩ := gd_s hf
  obtain ⟨r57, er57, hf⟩ := ob_s hf
  refine b_gR C dX12_meansLine_176 fl_X12_43 h56 er57 ?_
  refine b_bipush C (v := 9) dX12_meansLine_179 (by decide) ?_
  refine b_aload_n C dX12_meansLine_181 0 rfl rfl ?_
  refine b_iload_n C dX12_meansLine_182 1 rfl rfl ?_
  refine b_iconst C (v := 2) dX12_meansLine_183 (by decide) ?_
  refine b_iadd C dX12_meansLine_184 ?_
  refine b_iconst C (v := 1) dX12_meansLine_185 (by decide) ?_
  refine b_bipush C (v := 20) dX12_meansLine_186 (by decide) ?_
  obtain ⟨u60, d58, k59, hf⟩ := cb_s hf
  refine b_cVI C [.int 9, .ref (ad B r57)] dX12_meansLine_188 (kX12_within l D cy B k59) lv_X12_177 ⟨rfl, rfl, Nat.le_of_ble_eq_true rfl, Nat.le_of_ble_eq_true rfl⟩ h56 (by decide) rfl (Nat.le_of_ble_eq_true rfl) ⟨Nat.zero_le _, Nat.zero_le _⟩ rfl ?_
  obtain ⟨h61, hf⟩ := gd_s hf
  obtain ⟨h62, hf⟩ := gd_s hf
  obtain ⟨d63, ed63, hf⟩ := bd_s hf
  refine b_iast C h61 h62 ed63 dX12_meansLine_191 ?_
  refine b_goto C (tgt := 219) dX12_meansLine_192 (by decide) ?_
  refine b_sub [(0, .ref (ad B x0)), (1, .int x1)] [0, 1] rfl ?_
  exact tX12_meansLine_219 C hr hlocks hf
set_option maxRecDepth 100000 in
def fX12_meansLine (N : Nat) (g : Gs) (x0 : Nat) (x1 : Int32) (d : Ds) : Option (Unit × Ds) := gd (chk g x0 11) <| ob (gR g x0 5) fun r2 => (gd (chk g r2 102) <| gd (¬ (x1 < 0 ∨ gL g r2 ≤ x1.toNatClampNeg)) <| if (dI d r2 x1.toNatClampNeg).toInt < 21 ∨ 30 < (dI d r2 x1.toNatClampNeg).toInt then (fX12_meansLine_J219 N g x0 x1 d) else if (dI d r2 x1.toNatClampNeg) = 21 then (ob (gR g x0 18) fun r7 => (gd (chk g r7 102) <| gd (¬ ((2 : Int32) < 0 ∨ gL g r7 ≤ (2 : Int32).toNatClampNeg)) <| bd (sI d r7 (2 : Int32).toNatClampNeg 1) fun d10 => (fX12_meansLine_J219 N g x0 x1 d10))) else if (dI d r2 x1.toNatClampNeg) = 22 then (ob (gR g x0 18) fun r12 => (gd (chk g r12 102) <| gd (¬ ((3 : Int32) < 0 ∨ gL g r12 ≤ (3 : Int32).toNatClampNeg)) <| bd (sI d r12 (3 : Int32).toNatClampNeg 1) fun d15 => (fX12_meansLine_J219 N g x0 x1 d15))) else if (dI d r2 x1.toNatClampNeg) = 23 then (ob (gR g x0 18) fun r17 => (cb (fX12_within N g x0 (x1 + 1) 1 9 d) fun u20 d18 => (gd (chk g r17 102) <| gd (¬ ((4 : Int32) < 0 ∨ gL g r17 ≤ (4 : Int32).toNatClampNeg)) <| bd (sI d18 r17 (4 : Int32).toNatClampNeg u20) fun d23 => (fX12_meansLine_J219 N g x0 x1 d23)))) else if (dI d r2 x1.toNatClampNeg) = 24 then (ob (gR g x0 18) fun r25 => (cb (fX12_within N g x0 (x1 + 1) 1 99 d) fun u28 d26 => (gd (chk g r25 102) <| gd (¬ ((5 : Int32) < 0 ∨ gL g r25 ≤ (5 : Int32).toNatClampNeg)) <| bd (sI d26 r25 (5 : Int32).toNatClampNeg u28) fun d31 => (fX12_meansLine_J219 N g x0 x1 d31)))) else if (dI d r2 x1.toNatClampNeg) = 25 then (ob (gR g x0 18) fun r33 => (cb (fX12_within N g x0 (x1 + 1) 1 20 d) fun u36 d34 => (gd (chk g r33 102) <| gd (¬ ((6 : Int32) < 0 ∨ gL g r33 ≤ (6 : Int32).toNatClampNeg)) <| bd (sI d34 r33 (6 : Int32).toNatClampNeg u36) fun d39 => (fX12_meansLine_J219 N g x0 x1 d39)))) else if (dI d r2 x1.toNatClampNeg) = 26 then (ob (gR g x0 18) fun r41 => (cb (fX12_within N g x0 (x1 + 1) 1 40 d) fun u44 d42 => (gd (chk g r41 102) <| gd (¬ ((7 : Int32) < 0 ∨ gL g r41 ≤ (7 : Int32).toNatClampNeg)) <| bd (sI d42 r41 (7 : Int32).toNatClampNeg u44) fun d47 => (fX12_meansLine_J219 N g x0 x1 d47)))) else if (dI d r2 x1.toNatClampNeg) = 27 then (ob (gR g x0 18) fun r49 => (cb (fX12_within N g x0 (x1 + 1) 1 99 d) fun u52 d50 => (gd (chk g r49 102) <| gd (¬ ((8 : Int32) < 0 ∨ gL g r49 ≤ (8 : Int32).toNatClampNeg)) <| bd (sI d50 r49 (8 : Int32).toNatClampNeg u52) fun d55 => (fX12_meansLine_J175 N g x0 x1 d55)))) else if (dI d r2 x1.toNatClampNeg) = 28 then (cv (fX12_meansKey N g x0 x1 d) fun d65 => (fX12_meansLine_J219 N g x0 x1 d65)) else if (dI d r2 x1.toNatClampNeg) = 29 then (cv (fX12_meansChord N g x0 x1 d) fun d68 => (fX12_meansLine_J219 N g x0 x1 d68)) else if (dI d r2 x1.toNatClampNeg) = 30 then (cv (fX12_meansMacro N g x0 x1 d) fun d71 => (fX12_meansLine_J219 N g x0 x1 d71)) else none)
set_option maxHeartbeats 4000000 in
set_option maxRecDepth 100000 in
theorem tX12_meansLine_E {p : Program} {l : Launch} {e : Env} {s : State} {m : MethodId} {args : Array Value} {below : List Frame} {meth : Method} {c : Code} {D : va_G} {cy : Nat → ClassId} {B : Bs} (C : Cx p s m args c cX12_meansLine 2 RX12 D cy B) (hr : meth.sig.returnType = none) (hlocks : meth.locks = false) {N : Nat} {g : Gs} {x0 : Nat} {x1 : Int32}  {dz : Ds} {d : Ds} (hf : fX12_meansLine N g x0 x1 d = some ((), dz)) : WB p l e rmX12_meansLine s m args below meth c 2 D cy B 0 0 (MQ below (QV D cy B g dz) args s 0 0 (wA B)) g d [(0, .ref (ad B x0)), (1, .int x1)] 0 [] := by
  unfold fX12_meansLine at hf
  refine b_aload_n C dX12_meansLine_0 0 rfl rfl ?_
  obtain ⟨h1, hf⟩ := gd_s hf
  obtain ⟨r2, er2, hf⟩ := ob_s hf
  refine b_gR C dX12_meansLine_1 fl_X12_20 h1 er2 ?_
  refine b_iload_n C dX12_meansLine_4 1 rfl rfl ?_
  obtain ⟨h3, hf⟩ := gd_s hf
  obtain ⟨h4, hf⟩ := gd_s hf
  refine b_iald C h3 h4 dX12_meansLine_5 ?_
  by_cases c5 : (dI d r2 x1.toNatClampNeg).toInt < 21 ∨ 30 < (dI d r2 x1.toNatClampNeg).toInt
  · have hf := it_s c5 hf
    refine b_tabOut C (tgt := 219) dX12_meansLine_6 c5 (by decide) ?_
    refine b_sub [(0, .ref (ad B x0)), (1, .int x1)] [0, 1] rfl ?_
    exact tX12_meansLine_219 C hr hlocks hf
  · have hf := if_s c5 hf
    by_cases c6 : (dI d r2 x1.toNatClampNeg) = 21
    · have hf := it_s c6 hf
      refine b_tabIn C (tgt := 60) (off := 54) dX12_meansLine_6 c6 (by decide) (by decide) (by decide) (by decide) ?_
      refine b_aload_n C dX12_meansLine_60 0 rfl rfl ?_
      obtain ⟨r7, er7, hf⟩ := ob_s hf
      refine b_gR C dX12_meansLine_61 fl_X12_43 h1 er7 ?_
      refine b_iconst C (v := 2) dX12_meansLine_64 (by decide) ?_
      refine b_iconst C (v := 1) dX12_meansLine_65 (by decide) ?_
      obtain ⟨h8, hf⟩ := gd_s hf
      obtain ⟨h9, hf⟩ := gd_s hf
      obtain ⟨d10, ed10, hf⟩ := bd_s hf
      refine b_iast C h8 h9 ed10 dX12_meansLine_66 ?_
      refine b_goto C (tgt := 219) dX12_meansLine_67 (by decide) ?_
      refine b_sub [(0, .ref (ad B x0)), (1, .int x1)] [0, 1] rfl ?_
      exact tX12_meansLine_219 C hr hlocks hf
    have hf := if_s c6 hf
    by_cases c11 : (dI d r2 x1.toNatClampNeg) = 22
    · have hf := it_s c11 hf
      refine b_tabIn C (tgt := 70) (off := 64) dX12_meansLine_6 c11 (by decide) (by decide) (by decide) (by decide) ?_
      refine b_aload_n C dX12_meansLine_70 0 rfl rfl ?_
      obtain ⟨r12, er12, hf⟩ := ob_s hf
      refine b_gR C dX12_meansLine_71 fl_X12_43 h1 er12 ?_
      refine b_iconst C (v := 3) dX12_meansLine_74 (by decide) ?_
      refine b_iconst C (v := 1) dX12_meansLine_75 (by decide) ?_
      obtain ⟨h13, hf⟩ := gd_s hf
      obtain ⟨h14, hf⟩ := gd_s hf
      obtain ⟨d15, ed15, hf⟩ := bd_s hf
      refine b_iast C h13 h14 ed15 dX12_meansLine_76 ?_
      refine b_goto C (tgt := 219) dX12_meansLine_77 (by decide) ?_
      refine b_sub [(0, .ref (ad B x0)), (1, .int x1)] [0, 1] rfl ?_
      exact tX12_meansLine_219 C hr hlocks hf
    have hf := if_s c11 hf
    by_cases c16 : (dI d r2 x1.toNatClampNeg) = 23
    · have hf := it_s c16 hf
      refine b_tabIn C (tgt := 80) (off := 74) dX12_meansLine_6 c16 (by decide) (by decide) (by decide) (by decide) ?_
      refine b_aload_n C dX12_meansLine_80 0 rfl rfl ?_
      obtain ⟨r17, er17, hf⟩ := ob_s hf
      refine b_gR C dX12_meansLine_81 fl_X12_43 h1 er17 ?_
      refine b_iconst C (v := 4) dX12_meansLine_84 (by decide) ?_
      refine b_aload_n C dX12_meansLine_85 0 rfl rfl ?_
      refine b_iload_n C dX12_meansLine_86 1 rfl rfl ?_
      refine b_iconst C (v := 1) dX12_meansLine_87 (by decide) ?_
      refine b_iadd C dX12_meansLine_88 ?_
      refine b_iconst C (v := 1) dX12_meansLine_89 (by decide) ?_
      refine b_bipush C (v := 9) dX12_meansLine_90 (by decide) ?_
      obtain ⟨u20, d18, k19, hf⟩ := cb_s hf
      refine b_cVI C [.int 4, .ref (ad B r17)] dX12_meansLine_92 (kX12_within l D cy B k19) lv_X12_177 ⟨rfl, rfl, Nat.le_of_ble_eq_true rfl, Nat.le_of_ble_eq_true rfl⟩ h1 (by decide) rfl (Nat.le_of_ble_eq_true rfl) ⟨Nat.zero_le _, Nat.zero_le _⟩ rfl ?_
      obtain ⟨h21, hf⟩ := gd_s hf
      obtain ⟨h22, hf⟩ := gd_s hf
      obtain ⟨d23, ed23, hf⟩ := bd_s hf
      refine b_iast C h21 h22 ed23 dX12_meansLine_95 ?_
      refine b_goto C (tgt := 219) dX12_meansLine_96 (by decide) ?_
      refine b_sub [(0, .ref (ad B x0)), (1, .int x1)] [0, 1] rfl ?_
      exact tX12_meansLine_219 C hr hlocks hf
    have hf := if_s c16 hf
    by_cases c24 : (dI d r2 x1.toNatClampNeg) = 24
    · have hf := it_s c24 hf
      refine b_tabIn C (tgt := 99) (off := 93) dX12_meansLine_6 c24 (by decide) (by decide) (by decide) (by decide) ?_
      refine b_aload_n C dX12_meansLine_99 0 rfl rfl ?_
      obtain ⟨r25, er25, hf⟩ := ob_s hf
      refine b_gR C dX12_meansLine_100 fl_X12_43 h1 er25 ?_
      refine b_iconst C (v := 5) dX12_meansLine_103 (by decide) ?_
      refine b_aload_n C dX12_meansLine_104 0 rfl rfl ?_
      refine b_iload_n C dX12_meansLine_105 1 rfl rfl ?_
      refine b_iconst C (v := 1) dX12_meansLine_106 (by decide) ?_
      refine b_iadd C dX12_meansLine_107 ?_
      refine b_iconst C (v := 1) dX12_meansLine_108 (by decide) ?_
      refine b_bipush C (v := 99) dX12_meansLine_109 (by decide) ?_
      obtain ⟨u28, d26, k27, hf⟩ := cb_s hf
      refine b_cVI C [.int 5, .ref (ad B r25)] dX12_meansLine_111 (kX12_within l D cy B k27) lv_X12_177 ⟨rfl, rfl, Nat.le_of_ble_eq_true rfl, Nat.le_of_ble_eq_true rfl⟩ h1 (by decide) rfl (Nat.le_of_ble_eq_true rfl) ⟨Nat.zero_le _, Nat.zero_le _⟩ rfl ?_
      obtain ⟨h29, hf⟩ := gd_s hf
      obtain ⟨h30, hf⟩ := gd_s hf
      obtain ⟨d31, ed31, hf⟩ := bd_s hf
      refine b_iast C h29 h30 ed31 dX12_meansLine_114 ?_
      refine b_goto C (tgt := 219) dX12_meansLine_115 (by decide) ?_
      refine b_sub [(0, .ref (ad B x0)), (1, .int x1)] [0, 1] rfl ?_
      exact tX12_meansLine_219 C hr hlocks hf
    have hf := if_s c24 hf
    by_cases c32 : (dI d r2 x1.toNatClampNeg) = 25
    · have hf := it_s c32 hf
      refine b_tabIn C (tgt := 118) (off := 112) dX12_meansLine_6 c32 (by decide) (by decide) (by decide) (by decide) ?_
      refine b_aload_n C dX12_meansLine_118 0 rfl rfl ?_
      obtain ⟨r33, er33, hf⟩ := ob_s hf
      refine b_gR C dX12_meansLine_119 fl_X12_43 h1 er33 ?_
      refine b_bipush C (v := 6) dX12_meansLine_122 (by decide) ?_
      refine b_aload_n C dX12_meansLine_124 0 rfl rfl ?_
      refine b_iload_n C dX12_meansLine_125 1 rfl rfl ?_
      refine b_iconst C (v := 1) dX12_meansLine_126 (by decide) ?_
      refine b_iadd C dX12_meansLine_127 ?_
      refine b_iconst C (v := 1) dX12_meansLine_128 (by decide) ?_
      refine b_bipush C (v := 20) dX12_meansLine_129 (by decide) ?_
      obtain ⟨u36, d34, k35, hf⟩ := cb_s hf
      refine b_cVI C [.int 6, .ref (ad B r33)] dX12_meansLine_131 (kX12_within l D cy B k35) lv_X12_177 ⟨rfl, rfl, Nat.le_of_ble_eq_true rfl, Nat.le_of_ble_eq_true rfl⟩ h1 (by decide) rfl (Nat.le_of_ble_eq_true rfl) ⟨Nat.zero_le _, Nat.zero_le _⟩ rfl ?_
      obtain ⟨h37, hf⟩ := gd_s hf
      obtain ⟨h38, hf⟩ := gd_s hf
      obtain ⟨d39, ed39, hf⟩ := bd_s hf
      refine b_iast C h37 h38 ed39 dX12_meansLine_134 ?_
      refine b_goto C (tgt := 219) dX12_meansLine_135 (by decide) ?_
      refine b_sub [(0, .ref (ad B x0)), (1, .int x1)] [0, 1] rfl ?_
      exact tX12_meansLine_219 C hr hlocks hf
    have hf := if_s c32 hf
    by_cases c40 : (dI d r2 x1.toNatClampNeg) = 26
    · have hf := it_s c40 hf
      refine b_tabIn C (tgt := 138) (off := 132) dX12_meansLine_6 c40 (by decide) (by decide) (by decide) (by decide) ?_
      refine b_aload_n C dX12_meansLine_138 0 rfl rfl ?_
      obtain ⟨r41, er41, hf⟩ := ob_s hf
      refine b_gR C dX12_meansLine_139 fl_X12_43 h1 er41 ?_
      refine b_bipush C (v := 7) dX12_meansLine_142 (by decide) ?_
      refine b_aload_n C dX12_meansLine_144 0 rfl rfl ?_
      refine b_iload_n C dX12_meansLine_145 1 rfl rfl ?_
      refine b_iconst C (v := 1) dX12_meansLine_146 (by decide) ?_
      refine b_iadd C dX12_meansLine_147 ?_
      refine b_iconst C (v := 1) dX12_meansLine_148 (by decide) ?_
      refine b_bipush C (v := 40) dX12_meansLine_149 (by decide) ?_
      obtain ⟨u44, d42, k43, hf⟩ := cb_s hf
      refine b_cVI C [.int 7, .ref (ad B r41)] dX12_meansLine_151 (kX12_within l D cy B k43) lv_X12_177 ⟨rfl, rfl, Nat.le_of_ble_eq_true rfl, Nat.le_of_ble_eq_true rfl⟩ h1 (by decide) rfl (Nat.le_of_ble_eq_true rfl) ⟨Nat.zero_le _, Nat.zero_le _⟩ rfl ?_
      obtain ⟨h45, hf⟩ := gd_s hf
      obtain ⟨h46, hf⟩ := gd_s hf
      obtain ⟨d47, ed47, hf⟩ := bd_s hf
      refine b_iast C h45 h46 ed47 dX12_meansLine_154 ?_
      refine b_goto C (tgt := 219) dX12_meansLine_155 (by decide) ?_
      refine b_sub [(0, .ref (ad B x0)), (1, .int x1)] [0, 1] rfl ?_
      exact tX12_meansLine_219 C hr hlocks hf
    have hf := if_s c40 hf
    by_cases c48 : (dI d r2 x1.toNatClampNeg) = 27
    · have hf := it_s c48 hf
      refine b_tabIn C (tgt := 158) (off := 152) dX12_meansLine_6 c48 (by decide) (by decide) (by decide) (by decide) ?_
      refine b_aload_n C dX12_meansLine_158 0 rfl rfl ?_
      obtain ⟨r49, er49, hf⟩ := ob_s hf
      refine b_gR C dX12_meansLine_159 fl_X12_43 h1 er49 ?_
      refine b_bipush C (v := 8) dX12_meansLine_162 (by decide) ?_
      refine b_aload_n C dX12_meansLine_164 0 rfl rfl ?_
      refine b_iload_n C dX12_meansLine_165 1 rfl rfl ?_
      refine b_iconst C (v := 1) dX12_meansLine_166 (by decide) ?_
      refine b_iadd C dX12_meansLine_167 ?_
      refine b_iconst C (v := 1) dX12_meansLine_168 (by decide) ?_
      refine b_bipush C (v := 99) dX12_meansLine_169 (by decide) ?_
      obtain ⟨u52, d50, k51, hf⟩ := cb_s hf
      refine b_cVI C [.int 8, .ref (ad B r49)] dX12_meansLine_171 (kX12_within l D cy B k51) lv_X12_177 ⟨rfl, rfl, Nat.le_of_ble_eq_true rfl, Nat.le_of_ble_eq_true rfl⟩ h1 (by decide) rfl (Nat.le_of_ble_eq_true rfl) ⟨Nat.zero_le _, Nat.zero_le _⟩ rfl ?_
      obtain ⟨h53, hf⟩ := gd_s hf
      obtain ⟨h54, hf⟩ := gd_s hf
      obtain ⟨d55, ed55, hf⟩ := bd_s hf
      refine b_iast C h53 h54 ed55 dX12_meansLine_174 ?_
      refine b_sub [(0, .ref (ad B x0)), (1, .int x1)] [0, 1] rfl ?_
      exact tX12_meansLine_175 C hr hlocks hf
    have hf := if_s c48 hf
    by_cases c64 : (dI d r2 x1.toNatClampNeg) = 28
    · have hf := it_s c64 hf
      refine b_tabIn C (tgt := 195) (off := 189) dX12_meansLine_6 c64 (by decide) (by decide) (by decide) (by decide) ?_
      refine b_aload_n C dX12_meansLine_195 0 rfl rfl ?_
      refine b_iload_n C dX12_meansLine_196 1 rfl rfl ?_
      obtain ⟨d65, k66, hf⟩ := cv_s hf
      refine b_cVN C [] dX12_meansLine_197 (kX12_meansKey l D cy B k66) lv_X12_188 ⟨rfl, rfl, Nat.le_of_ble_eq_true rfl, Nat.le_of_ble_eq_true rfl⟩ h1 (by decide) rfl (Nat.le_of_ble_eq_true rfl) ⟨Nat.zero_le _, Nat.zero_le _⟩ rfl ?_
      refine b_goto C (tgt := 219) dX12_meansLine_200 (by decide) ?_
      refine b_sub [(0, .ref (ad B x0)), (1, .int x1)] [0, 1] rfl ?_
      exact tX12_meansLine_219 C hr hlocks hf
    have hf := if_s c64 hf
    by_cases c67 : (dI d r2 x1.toNatClampNeg) = 29
    · have hf := it_s c67 hf
      refine b_tabIn C (tgt := 203) (off := 197) dX12_meansLine_6 c67 (by decide) (by decide) (by decide) (by decide) ?_
      refine b_aload_n C dX12_meansLine_203 0 rfl rfl ?_
      refine b_iload_n C dX12_meansLine_204 1 rfl rfl ?_
      obtain ⟨d68, k69, hf⟩ := cv_s hf
      refine b_cVN C [] dX12_meansLine_205 (kX12_meansChord l D cy B k69) lv_X12_191 ⟨rfl, rfl, Nat.le_of_ble_eq_true rfl, Nat.le_of_ble_eq_true rfl⟩ h1 (by decide) rfl (Nat.le_of_ble_eq_true rfl) ⟨Nat.zero_le _, Nat.zero_le _⟩ rfl ?_
      refine b_goto C (tgt := 219) dX12_meansLine_208 (by decide) ?_
      refine b_sub [(0, .ref (ad B x0)), (1, .int x1)] [0, 1] rfl ?_
      exact tX12_meansLine_219 C hr hlocks hf
    have hf := if_s c67 hf
    by_cases c70 : (dI d r2 x1.toNatClampNeg) = 30
    · have hf := it_s c70 hf
      refine b_tabIn C (tgt := 211) (off := 205) dX12_meansLine_6 c70 (by decide) (by decide) (by decide) (by decide) ?_
      refine b_aload_n C dX12_meansLine_211 0 rfl rfl ?_
      refine b_iload_n C dX12_meansLine_212 1 rfl rfl ?_
      obtain ⟨d71, k72, hf⟩ := cv_s hf
      refine b_cVN C [] dX12_meansLine_213 (kX12_meansMacro l D cy B k72) lv_X12_194 ⟨rfl, rfl, Nat.le_of_ble_eq_true rfl, Nat.le_of_ble_eq_true rfl⟩ h1 (by decide) rfl (Nat.le_of_ble_eq_true rfl) ⟨Nat.zero_le _, Nat.zero_le _⟩ rfl ?_
      refine b_goto C (tgt := 219) dX12_meansLine_216 (by decide) ?_
      refine b_sub [(0, .ref (ad B x0)), (1, .int x1)] [0, 1] rfl ?_
      exact tX12_meansLine_219 C hr hlocks hf
    have hf := if_s c70 hf
    cases hf
theorem kX12_meansLine (l : Launch) (D : va_G) (cy : Nat → ClassId) (B : Bs) {N : Nat} {g : Gs} {x0 : Nat} {x1 : Int32}  {dz : Ds} {d : Ds} (hf : fX12_meansLine N g x0 x1 d = some ((), dz)) : Met l yX12_meansLine (.code yX12_meansLine cX12_meansLine 2 none :: wl) rmX12_meansLine (PC D cy B [.ref (ad B x0), .int x1] g d) (QV D cy B g dz) 0 0 (wA B) :=
  met_of (by decide +kernel) (Nat.le_of_ble_eq_true rfl) (fun p e s m args below meth c C hr hlocks _ => b_sub [(0, .ref (ad B x0)), (1, .int x1)] [0, 1] rfl (tX12_meansLine_E C hr hlocks hf))
/-! KeyMatrixModel.means()V -/
theorem fp11_22 : FPZ 11 22 := ⟨ft11, (RX12, TX12, 33), rfl, by decide +kernel, by decide +kernel⟩
theorem yo_X12_meansLine : yX12_meansLine.cls ≠ "java/lang/invoke/MethodHandle" ∧ yX12_meansLine.cls ≠ "java/lang/invoke/VarHandle" ∧ (parseMethodDescriptor yX12_meansLine.desc).map (fun d => d.parameters.length) = some 1 := by decide +kernel
theorem co_X12_meansLine : Cond.code yX12_meansLine cX12_meansLine 2 none ∈ wl := mW (mT6 (List.mem_of_getElem? (i := 33) (by decide +kernel))) rfl
theorem in_X12_meansLine : Cond.initialized yX12_meansLine.cls ∈ wl := mW (mT1 (List.mem_of_getElem? (i := 12) (by decide +kernel))) rfl
theorem im_X12_meansLine : Cond.instanceMethod yX12_meansLine ∈ wl := mW (mT6 (List.mem_of_getElem? (i := 32) (by decide +kernel))) rfl
theorem se_X12_meansLine : Cond.selects yX12_meansLine.cls yX12_meansLine yX12_meansLine ∈ wl := mW (mT0 (List.mem_of_getElem? (i := 46) (by decide +kernel))) rfl
theorem lv_X12_185 : LV RX12 185 yX12_meansLine cX12_meansLine 2 none 1 11 := ⟨⟨(RX12, TX12, 33), rfl, rfl⟩, yo_X12_meansLine, mW (mT6 (List.mem_of_getElem? (i := 30) (by decide +kernel))) rfl, im_X12_meansLine, se_X12_meansLine, in_X12_meansLine, co_X12_meansLine⟩
theorem dX12_means_0 : decode cX12_means 0 = .ok (.aload_n 0, 1) := by decide +kernel
theorem dX12_means_1 : decode cX12_means 1 = .ok (.getfield 43, 3) := by decide +kernel
theorem dX12_means_4 : decode cX12_means 4 = .ok (.invokestatic 83, 3) := by decide +kernel
theorem dX12_means_7 : decode cX12_means 7 = .ok (.aload_n 0, 1) := by decide +kernel
theorem dX12_means_8 : decode cX12_means 8 = .ok (.getfield 43, 3) := by decide +kernel
theorem dX12_means_11 : decode cX12_means 11 = .ok (.iconst 0, 1) := by decide +kernel
theorem dX12_means_12 : decode cX12_means 12 = .ok (.aload_n 0, 1) := by decide +kernel
theorem dX12_means_13 : decode cX12_means 13 = .ok (.iconst 1, 1) := by decide +kernel
theorem dX12_means_14 : decode cX12_means 14 = .ok (.iconst 1, 1) := by decide +kernel
theorem dX12_means_15 : decode cX12_means 15 = .ok (.iconst 4, 1) := by decide +kernel
theorem dX12_means_16 : decode cX12_means 16 = .ok (.invokevirtual 177, 3) := by decide +kernel
theorem dX12_means_19 : decode cX12_means 19 = .ok (.iastore, 1) := by decide +kernel
theorem dX12_means_20 : decode cX12_means 20 = .ok (.aload_n 0, 1) := by decide +kernel
theorem dX12_means_21 : decode cX12_means 21 = .ok (.getfield 43, 3) := by decide +kernel
theorem dX12_means_24 : decode cX12_means 24 = .ok (.iconst 1, 1) := by decide +kernel
theorem dX12_means_25 : decode cX12_means 25 = .ok (.aload_n 0, 1) := by decide +kernel
theorem dX12_means_26 : decode cX12_means 26 = .ok (.iconst 2, 1) := by decide +kernel
theorem dX12_means_27 : decode cX12_means 27 = .ok (.iconst 1, 1) := by decide +kernel
theorem dX12_means_28 : decode cX12_means 28 = .ok (.bipush 6, 2) := by decide +kernel
theorem dX12_means_30 : decode cX12_means 30 = .ok (.invokevirtual 177, 3) := by decide +kernel
theorem dX12_means_33 : decode cX12_means 33 = .ok (.iastore, 1) := by decide +kernel
theorem dX12_means_34 : decode cX12_means 34 = .ok (.aload_n 0, 1) := by decide +kernel
theorem dX12_means_35 : decode cX12_means 35 = .ok (.aload_n 0, 1) := by decide +kernel
theorem dX12_means_36 : decode cX12_means 36 = .ok (.getfield 133, 3) := by decide +kernel
theorem dX12_means_39 : decode cX12_means 39 = .ok (.ifCond .ne 7, 3) := by decide +kernel
theorem dX12_means_42 : decode cX12_means 42 = .ok (.iconst 1, 1) := by decide +kernel
theorem dX12_means_43 : decode cX12_means 43 = .ok (.goto 4, 3) := by decide +kernel
theorem dX12_means_46 : decode cX12_means 46 = .ok (.iconst 0, 1) := by decide +kernel
theorem dX12_means_47 : decode cX12_means 47 = .ok (.putfield 181, 3) := by decide +kernel
theorem dX12_means_50 : decode cX12_means 50 = .ok (.iconst 4, 1) := by decide +kernel
theorem dX12_means_51 : decode cX12_means 51 = .ok (.istore_n 1, 1) := by decide +kernel
theorem dX12_means_52 : decode cX12_means 52 = .ok (.iload_n 1, 1) := by decide +kernel
theorem dX12_means_53 : decode cX12_means 53 = .ok (.aload_n 0, 1) := by decide +kernel
theorem dX12_means_54 : decode cX12_means 54 = .ok (.getfield 102, 3) := by decide +kernel
theorem dX12_means_57 : decode cX12_means 57 = .ok (.if_icmp .ge 26, 3) := by decide +kernel
theorem dX12_means_60 : decode cX12_means 60 = .ok (.aload_n 0, 1) := by decide +kernel
theorem dX12_means_61 : decode cX12_means 61 = .ok (.getfield 20, 3) := by decide +kernel
theorem dX12_means_64 : decode cX12_means 64 = .ok (.iload_n 1, 1) := by decide +kernel
theorem dX12_means_65 : decode cX12_means 65 = .ok (.iconst 1, 1) := by decide +kernel
theorem dX12_means_66 : decode cX12_means 66 = .ok (.isub, 1) := by decide +kernel
theorem dX12_means_67 : decode cX12_means 67 = .ok (.iaload, 1) := by decide +kernel
theorem dX12_means_68 : decode cX12_means 68 = .ok (.iconst 4, 1) := by decide +kernel
theorem dX12_means_69 : decode cX12_means 69 = .ok (.if_icmp .ne 8, 3) := by decide +kernel
theorem dX12_means_72 : decode cX12_means 72 = .ok (.aload_n 0, 1) := by decide +kernel
theorem dX12_means_73 : decode cX12_means 73 = .ok (.iload_n 1, 1) := by decide +kernel
theorem dX12_means_74 : decode cX12_means 74 = .ok (.invokevirtual 185, 3) := by decide +kernel
theorem dX12_means_77 : decode cX12_means 77 = .ok (.iinc 1 1, 3) := by decide +kernel
theorem dX12_means_80 : decode cX12_means 80 = .ok (.goto (-28), 3) := by decide +kernel
theorem dX12_means_83 : decode cX12_means 83 = .ok (.return_, 1) := by decide +kernel
def rmX12_means : Room := { frames := 5, cells := 0, slots := 0, locals := 114 }
set_option maxRecDepth 100000 in
def fX12_means_J77 (N : Nat) (g : Gs) (x0 : Nat) (K52 : Int32 × Ds → Option (Unit × Ds)) (y1 : Int32) (d : Ds) : Option (Unit × Ds) := bd (y1 + 1) fun u26 => (K52 (u26, d))
set_option maxHeartbeats 4000000 in
set_option maxRecDepth 100000 in
theorem tX12_means_77 {p : Program} {l : Launch} {e : Env} {s : State} {m : MethodId} {args : Array Value} {below : List Frame} {meth : Method} {c : Code} {D : va_G} {cy : Nat → ClassId} {B : Bs} (C : Cx p s m args c cX12_means 2 RX12 D cy B) (hr : meth.sig.returnType = none) (hlocks : meth.locks = false) {N : Nat} {g : Gs} {x0 : Nat}  {dz : Ds} {K52 : Int32 × Ds → Option (Unit × Ds)} (hK52 : ∀ a, K52 a = some ((), dz) → WB p l e rmX12_means s m args below meth c 2 D cy B 0 0 (MQ below (QV D cy B g dz) args s 0 0 (wA B)) g a.2 [(0, .ref (ad B x0)), (1, .int a.1)] 52 []) {y1 : Int32} {d : Ds} (hf : fX12_means_J77 N g x0 K52 y1 d = some ((), dz)) : WB p l e rmX12_means s m args below meth c 2 D cy B 0 0 (MQ below (QV D cy B g dz) args s 0 0 (wA B)) g d [(0, .ref (ad B x0)), (1, .int y1)] 77 [] := by
  unfold fX12_means_J77 at hf
  obtain ⟨u26, eu26, hf⟩ := bd_s hf
  refine b_iinc C dX12_means_77 1 rfl (by rw [eu26]; rfl) [(1, .int u26), (0, .ref (ad B x0))] (by decide) rfl ?_
  refine b_goto C (tgt := 52) dX12_means_80 (by decide) ?_
  refine b_sub [(0, .ref (ad B x0)), (1, .int u26)] [1, 0] rfl ?_
  exact hK52 (u26, d) hf
set_option maxRecDepth 100000 in
def fX12_means_B52 (N : Nat) (g : Gs) (x0 : Nat) (K52 : Int32 × Ds → Option (Unit × Ds)) (y1 : Int32) (d : Ds) : Option (Unit × Ds) := gd (chk g x0 11) <| if (dI d x0 10) ≤ y1 then (some ((), d)) else (ob (gR g x0 5) fun r22 => (gd (chk g r22 102) <| gd (¬ ((y1 - 1) < 0 ∨ gL g r22 ≤ (y1 - 1).toNatClampNeg)) <| if (dI d r22 (y1 - 1).toNatClampNeg) = (4 : Int32) then (cv (fX12_meansLine N g x0 y1 d) fun d27 => (fX12_means_J77 N g x0 K52 y1 d27)) else (fX12_means_J77 N g x0 K52 y1 d)))
set_option maxHeartbeats 4000000 in
set_option maxRecDepth 100000 in
theorem tX12_means_52 {p : Program} {l : Launch} {e : Env} {s : State} {m : MethodId} {args : Array Value} {below : List Frame} {meth : Method} {c : Code} {D : va_G} {cy : Nat → ClassId} {B : Bs} (C : Cx p s m args c cX12_means 2 RX12 D cy B) (hr : meth.sig.returnType = none) (hlocks : meth.locks = false) {N : Nat} {g : Gs} {x0 : Nat}  {dz : Ds} {K52 : Int32 × Ds → Option (Unit × Ds)} (hK52 : ∀ a, K52 a = some ((), dz) → WB p l e rmX12_means s m args below meth c 2 D cy B 0 0 (MQ below (QV D cy B g dz) args s 0 0 (wA B)) g a.2 [(0, .ref (ad B x0)), (1, .int a.1)] 52 []) {y1 : Int32} {d : Ds} (hf : fX12_means_B52 N g x0 K52 y1 d = some ((), dz)) : WB p l e rmX12_means s m args below meth c 2 D cy B 0 0 (MQ below (QV D cy B g dz) args s 0 0 (wA B)) g d [(0, .ref (ad B x0)), (1, .int y1)] 52 [] := by
  unfold fX12_means_B52 at hf
  refine b_iload_n C dX12_means_52 1 rfl rfl ?_
  refine b_aload_n C dX12_means_53 0 rfl rfl ?_
  obtain ⟨h20, hf⟩ := gd_s hf
  refine b_gI C dX12_means_54 fl_X12_102 h20 ?_
  refine b_icmp_ge C (tgt := 83) dX12_means_57 (by decide) (fun c21 => ?_) (fun c21 => ?_)
  · have hf := it_s c21 hf
    exact b_vret C hr hlocks hf dX12_means_83
  · have hf := if_s c21 hf
    refine b_aload_n C dX12_means_60 0 rfl rfl ?_
    obtain ⟨r22, er22, hf⟩ := ob_s hf
    refine b_gR C dX12_means_61 fl_X12_20 h20 er22 ?_
    refine b_iload_n C dX12_means_64 1 rfl rfl ?_
    refine b_iconst C (v := 1) dX12_means_65 (by decide) ?_
    refine b_isub C dX12_means_66 ?_
    obtain ⟨h23, hf⟩ := gd_s hf
    obtain ⟨h24, hf⟩ := gd_s hf
    refine b_iald C h23 h24 dX12_means_67 ?_
    refine b_iconst C (v := 4) dX12_means_68 (by decide) ?_
    refine b_icmp_ne C (tgt := 77) dX12_means_69 (by decide) (fun c25 => ?_) (fun c25 => ?_)
    · have hf := if_s c25 hf
      refine b_sub [(0, .ref (ad B x0)), (1, .int y1)] [0, 1] rfl ?_
      exact tX12_means_77 C hr hlocks hK52 hf
    · have hf := it_s c25 hf
      refine b_aload_n C dX12_means_72 0 rfl rfl ?_
      refine b_iload_n C dX12_means_73 1 rfl rfl ?_
      obtain ⟨d27, k28, hf⟩ := cv_s hf
      refine b_cVN C [] dX12_means_74 (kX12_meansLine l D cy B k28) lv_X12_185 ⟨rfl, rfl, Nat.le_of_ble_eq_true rfl, Nat.le_of_ble_eq_true rfl⟩ h20 (by decide) rfl (Nat.le_of_ble_eq_true rfl) ⟨Nat.zero_le _, Nat.zero_le _⟩ rfl ?_
      refine b_sub [(0, .ref (ad B x0)), (1, .int y1)] [0, 1] rfl ?_
      exact tX12_means_77 C hr hlocks hK52 hf
def fX12_means_L52 (N : Nat) (g : Gs) (x0 : Nat) : Int32 × Ds → Option (Unit × Ds) := lp (fun K52 a => fX12_means_B52 N g x0 K52 a.1 a.2) N
theorem tX12_means_L52 {p : Program} {l : Launch} {e : Env} {s : State} {m : MethodId} {args : Array Value} {below : List Frame} {meth : Method} {c : Code} {D : va_G} {cy : Nat → ClassId} {B : Bs} (C : Cx p s m args c cX12_means 2 RX12 D cy B) (hr : meth.sig.returnType = none) (hlocks : meth.locks = false) {N : Nat} {g : Gs} {x0 : Nat}  {dz : Ds} (a : Int32 × Ds) (hf : fX12_means_L52 N g x0 a = some ((), dz)) : WB p l e rmX12_means s m args below meth c 2 D cy B 0 0 (MQ below (QV D cy B g dz) args s 0 0 (wA B)) g a.2 [(0, .ref (ad B x0)), (1, .int a.1)] 52 [] :=
  lp_w (fun K52 hK52 a ha => tX12_means_52 C hr hlocks hK52 ha) N a hf
set_option maxRecDepth 100000 in
def fX12_means_J47 (N : Nat) (g : Gs) (x0 : Nat) (z0 : Int32) (z1 : Nat) (d : Ds) : Option (Unit × Ds) := gd (chk g z1 11) <| gd (z0 = 0 ∨ z0 = 1) <| bd (sI d z1 22 z0) fun d19 => (fX12_means_L52 N g x0 (4, d19))
set_option maxHeartbeats 4000000 in
set_option maxRecDepth 100000 in
theorem tX12_means_47 {p : Program} {l : Launch} {e : Env} {s : State} {m : MethodId} {args : Array Value} {below : List Frame} {meth : Method} {c : Code} {D : va_G} {cy : Nat → ClassId} {B : Bs} (C : Cx p s m args c cX12_means 2 RX12 D cy B) (hr : meth.sig.returnType = none) (hlocks : meth.locks = false) {N : Nat} {g : Gs} {x0 : Nat}  {dz : Ds} {z0 : Int32} {z1 : Nat} {d : Ds} (hf : fX12_means_J47 N g x0 z0 z1 d = some ((), dz)) : WB p l e rmX12_means s m args below meth c 2 D cy B 0 0 (MQ below (QV D cy B g dz) args s 0 0 (wA B)) g d [(0, .ref (ad B x0))] 47 [.int z0, .ref (ad B z1)] := by
  unfold fX12_means_J47 at hf
  obtain ⟨h17, hf⟩ := gd_s hf
  obtain ⟨h18, hf⟩ := gd_s hf
  obtain ⟨d19, ed19, hf⟩ := bd_s hf
  refine b_pZ C dX12_means_47 fl_X12_181 fp11_22 h18 h17 ed19 ?_
  refine b_iconst C (v := 4) dX12_means_50 (by decide) ?_
  refine b_istore_n C dX12_means_51 rfl [(1, .int 4), (0, .ref (ad B x0))] (by decide) rfl ?_
  refine b_sub [(0, .ref (ad B x0)), (1, .int 4)] [1, 0] rfl ?_
  exact tX12_means_L52 C hr hlocks (4, d19) hf
set_option maxRecDepth 100000 in
def fX12_means (N : Nat) (g : Gs) (x0 : Nat) (d : Ds) : Option (Unit × Ds) := gd (chk g x0 11) <| ob (gR g x0 18) fun r2 => (cv (fX12_begins N g r2 d) fun d3 => (cb (fX12_within N g x0 1 1 4 d3) fun u7 d5 => (gd (chk g r2 102) <| gd (¬ ((0 : Int32) < 0 ∨ gL g r2 ≤ (0 : Int32).toNatClampNeg)) <| bd (sI d5 r2 (0 : Int32).toNatClampNeg u7) fun d10 => (cb (fX12_within N g x0 2 1 6 d10) fun u13 d11 => (gd (¬ ((1 : Int32) < 0 ∨ gL g r2 ≤ (1 : Int32).toNatClampNeg)) <| bd (sI d11 r2 (1 : Int32).toNatClampNeg u13) fun d15 => (if (dI d15 x0 14) = 0 then (fX12_means_J47 N g x0 1 x0 d15) else (fX12_means_J47 N g x0 0 x0 d15)))))))
set_option maxHeartbeats 4000000 in
set_option maxRecDepth 100000 in
theorem tX12_means_E {p : Program} {l : Launch} {e : Env} {s : State} {m : MethodId} {args : Array Value} {below : List Frame} {meth : Method} {c : Code} {D : va_G} {cy : Nat → ClassId} {B : Bs} (C : Cx p s m args c cX12_means 2 RX12 D cy B) (hr : meth.sig.returnType = none) (hlocks : meth.locks = false) {N : Nat} {g : Gs} {x0 : Nat}  {dz : Ds} {d : Ds} (hf : fX12_means N g x0 d = some ((), dz)) : WB p l e rmX12_means s m args below meth c 2 D cy B 0 0 (MQ below (QV D cy B g dz) args s 0 0 (wA B)) g d [(0, .ref (ad B x0))] 0 [] := by
  unfold fX12_means at hf
  refine b_aload_n C dX12_means_0 0 rfl rfl ?_
  obtain ⟨h1, hf⟩ := gd_s hf
  obtain ⟨r2, er2, hf⟩ := ob_s hf
  refine b_gR C dX12_means_1 fl_X12_43 h1 er2 ?_
  obtain ⟨d3, k4, hf⟩ := cv_s hf
  refine b_cSN C [] dX12_means_4 (kX12_begins l D cy B k4) lv_X12_83 ⟨rfl, rfl, Nat.le_of_ble_eq_true rfl, Nat.le_of_ble_eq_true rfl⟩ rfl (Nat.le_of_ble_eq_true rfl) ⟨Nat.zero_le _, Nat.zero_le _⟩ rfl ?_
  refine b_aload_n C dX12_means_7 0 rfl rfl ?_
  refine b_gR C dX12_means_8 fl_X12_43 h1 er2 ?_
  refine b_iconst C (v := 0) dX12_means_11 (by decide) ?_
  refine b_aload_n C dX12_means_12 0 rfl rfl ?_
  refine b_iconst C (v := 1) dX12_means_13 (by decide) ?_
  refine b_iconst C (v := 1) dX12_means_14 (by decide) ?_
  refine b_iconst C (v := 4) dX12_means_15 (by decide) ?_
  obtain ⟨u7, d5, k6, hf⟩ := cb_s hf
  refine b_cVI C [.int 0, .ref (ad B r2)] dX12_means_16 (kX12_within l D cy B k6) lv_X12_177 ⟨rfl, rfl, Nat.le_of_ble_eq_true rfl, Nat.le_of_ble_eq_true rfl⟩ h1 (by decide) rfl (Nat.le_of_ble_eq_true rfl) ⟨Nat.zero_le _, Nat.zero_le _⟩ rfl ?_
  obtain ⟨h8, hf⟩ := gd_s hf
  obtain ⟨h9, hf⟩ := gd_s hf
  obtain ⟨d10, ed10, hf⟩ := bd_s hf
  refine b_iast C h8 h9 ed10 dX12_means_19 ?_
  refine b_aload_n C dX12_means_20 0 rfl rfl ?_
  refine b_gR C dX12_means_21 fl_X12_43 h1 er2 ?_
  refine b_iconst C (v := 1) dX12_means_24 (by decide) ?_
  refine b_aload_n C dX12_means_25 0 rfl rfl ?_
  refine b_iconst C (v := 2) dX12_means_26 (by decide) ?_
  refine b_iconst C (v := 1) dX12_means_27 (by decide) ?_
  refine b_bipush C (v := 6) dX12_means_28 (by decide) ?_
  obtain ⟨u13, d11, k12, hf⟩ := cb_s hf
  refine b_cVI C [.int 1, .ref (ad B r2)] dX12_means_30 (kX12_within l D cy B k12) lv_X12_177 ⟨rfl, rfl, Nat.le_of_ble_eq_true rfl, Nat.le_of_ble_eq_true rfl⟩ h1 (by decide) rfl (Nat.le_of_ble_eq_true rfl) ⟨Nat.zero_le _, Nat.zero_le _⟩ rfl ?_
  obtain ⟨h14, hf⟩ := gd_s hf
  obtain ⟨d15, ed15, hf⟩ := bd_s hf
  refine b_iast C h8 h14 ed15 dX12_means_33 ?_
  refine b_aload_n C dX12_means_34 0 rfl rfl ?_
  refine b_aload_n C dX12_means_35 0 rfl rfl ?_
  refine b_gI C dX12_means_36 fl_X12_133 h1 ?_
  refine b_if_ne C (tgt := 46) dX12_means_39 (by decide) (fun c16 => ?_) (fun c16 => ?_)
  · have hf := if_s c16 hf
    refine b_iconst C (v := 0) dX12_means_46 (by decide) ?_
    refine b_sub [(0, .ref (ad B x0))] [0] rfl ?_
    exact tX12_means_47 C hr hlocks hf
  · have hf := it_s c16 hf
    refine b_iconst C (v := 1) dX12_means_42 (by decide) ?_
    refine b_goto C (tgt := 47) dX12_means_43 (by decide) ?_
    refine b_sub [(0, .ref (ad B x0))] [0] rfl ?_
    exact tX12_means_47 C hr hlocks hf
theorem kX12_means (l : Launch) (D : va_G) (cy : Nat → ClassId) (B : Bs) {N : Nat} {g : Gs} {x0 : Nat}  {dz : Ds} {d : Ds} (hf : fX12_means N g x0 d = some ((), dz)) : Met l yX12_means (.code yX12_means cX12_means 2 none :: wl) rmX12_means (PC D cy B [.ref (ad B x0)] g d) (QV D cy B g dz) 0 0 (wA B) :=
  met_of (by decide +kernel) (Nat.le_of_ble_eq_true rfl) (fun p e s m args below meth c C hr hlocks _ => b_sub [(0, .ref (ad B x0))] [0] rfl (tX12_means_E C hr hlocks hf))
/-! KeyMatrixModel.read()I -/
theorem fp11_4 : FPI 11 4 := ⟨ft11, (RX12, TX12, 33), rfl, by decide +kernel, by decide +kernel⟩
theorem yo_X12_cutsText : yX12_cutsText.cls ≠ "java/lang/invoke/MethodHandle" ∧ yX12_cutsText.cls ≠ "java/lang/invoke/VarHandle" ∧ (parseMethodDescriptor yX12_cutsText.desc).map (fun d => d.parameters.length) = some 0 := by decide +kernel
theorem co_X12_cutsText : Cond.code yX12_cutsText cX12_cutsText 8 none ∈ wl := mW (mT5 (List.mem_of_getElem? (i := 212) (by decide +kernel))) rfl
theorem in_X12_cutsText : Cond.initialized yX12_cutsText.cls ∈ wl := mW (mT1 (List.mem_of_getElem? (i := 12) (by decide +kernel))) rfl
theorem im_X12_cutsText : Cond.instanceMethod yX12_cutsText ∈ wl := mW (mT5 (List.mem_of_getElem? (i := 211) (by decide +kernel))) rfl
theorem se_X12_cutsText : Cond.selects yX12_cutsText.cls yX12_cutsText yX12_cutsText ∈ wl := mW (mT0 (List.mem_of_getElem? (i := 33) (by decide +kernel))) rfl
theorem lv_X12_148 : LV RX12 148 yX12_cutsText cX12_cutsText 8 none 0 11 := ⟨⟨(RX12, TX12, 33), rfl, rfl⟩, yo_X12_cutsText, mW (mT5 (List.mem_of_getElem? (i := 209) (by decide +kernel))) rfl, im_X12_cutsText, se_X12_cutsText, in_X12_cutsText, co_X12_cutsText⟩
theorem fl_X12_71 : FLR RX12 71 11 32 := ⟨⟨RX12, TX12, 33, rfl, by decide, inl11, Or.inl (mW (mT5 (List.mem_of_getElem? (i := 123) (by decide +kernel))) rfl)⟩, by decide, by decide +kernel⟩
theorem yo_X12_means : yX12_means.cls ≠ "java/lang/invoke/MethodHandle" ∧ yX12_means.cls ≠ "java/lang/invoke/VarHandle" ∧ (parseMethodDescriptor yX12_means.desc).map (fun d => d.parameters.length) = some 0 := by decide +kernel
theorem co_X12_means : Cond.code yX12_means cX12_means 2 none ∈ wl := mW (mT6 (List.mem_of_getElem? (i := 18) (by decide +kernel))) rfl
theorem in_X12_means : Cond.initialized yX12_means.cls ∈ wl := mW (mT1 (List.mem_of_getElem? (i := 12) (by decide +kernel))) rfl
theorem im_X12_means : Cond.instanceMethod yX12_means ∈ wl := mW (mT6 (List.mem_of_getElem? (i := 17) (by decide +kernel))) rfl
theorem se_X12_means : Cond.selects yX12_means.cls yX12_means yX12_means ∈ wl := mW (mT0 (List.mem_of_getElem? (i := 43) (by decide +kernel))) rfl
theorem lv_X12_163 : LV RX12 163 yX12_means cX12_means 2 none 0 11 := ⟨⟨(RX12, TX12, 33), rfl, rfl⟩, yo_X12_means, mW (mT6 (List.mem_of_getElem? (i := 15) (by decide +kernel))) rfl, im_X12_means, se_X12_means, in_X12_means, co_X12_means⟩
theorem yo_X12_tell : yX12_tell.cls ≠ "java/lang/invoke/MethodHandle" ∧ yX12_tell.cls ≠ "java/lang/invoke/VarHandle" ∧ (parseMethodDescriptor yX12_tell.desc).map (fun d => d.parameters.length) = some 0 := by decide +kernel
theorem co_X12_tell : Cond.code yX12_tell cX12_tell 3 none ∈ wl := mW (mT6 (List.mem_of_getElem? (i := 10) (by decide +kernel))) rfl
theorem in_X12_tell : Cond.initialized yX12_tell.cls ∈ wl := mW (mT1 (List.mem_of_getElem? (i := 12) (by decide +kernel))) rfl
theorem im_X12_tell : Cond.instanceMethod yX12_tell ∈ wl := mW (mT6 (List.mem_of_getElem? (i := 9) (by decide +kernel))) rfl
theorem se_X12_tell : Cond.selects yX12_tell.cls yX12_tell yX12_tell ∈ wl := mW (mT0 (List.mem_of_getElem? (i := 41) (by decide +kernel))) rfl
theorem lv_X12_160 : LV RX12 160 yX12_tell cX12_tell 3 none 0 11 := ⟨⟨(RX12, TX12, 33), rfl, rfl⟩, yo_X12_tell, mW (mT6 (List.mem_of_getElem? (i := 7) (by decide +kernel))) rfl, im_X12_tell, se_X12_tell, in_X12_tell, co_X12_tell⟩
theorem dX12_read_0 : decode cX12_read 0 = .ok (.aload_n 0, 1) := by decide +kernel
theorem dX12_read_1 : decode cX12_read 1 = .ok (.aload_n 0, 1) := by decide +kernel
theorem dX12_read_2 : decode cX12_read 2 = .ok (.getfield 90, 3) := by decide +kernel
theorem dX12_read_5 : decode cX12_read 5 = .ok (.putfield 97, 3) := by decide +kernel
theorem dX12_read_8 : decode cX12_read 8 = .ok (.iconst 0, 1) := by decide +kernel
theorem dX12_read_9 : decode cX12_read 9 = .ok (.istore_n 1, 1) := by decide +kernel
theorem dX12_read_10 : decode cX12_read 10 = .ok (.iload_n 1, 1) := by decide +kernel
theorem dX12_read_11 : decode cX12_read 11 = .ok (.aload_n 0, 1) := by decide +kernel
theorem dX12_read_12 : decode cX12_read 12 = .ok (.getfield 97, 3) := by decide +kernel
theorem dX12_read_15 : decode cX12_read 15 = .ok (.if_icmp .ge 21, 3) := by decide +kernel
theorem dX12_read_18 : decode cX12_read 18 = .ok (.aload_n 0, 1) := by decide +kernel
theorem dX12_read_19 : decode cX12_read 19 = .ok (.getfield 17, 3) := by decide +kernel
theorem dX12_read_22 : decode cX12_read 22 = .ok (.iload_n 1, 1) := by decide +kernel
theorem dX12_read_23 : decode cX12_read 23 = .ok (.aload_n 0, 1) := by decide +kernel
theorem dX12_read_24 : decode cX12_read 24 = .ok (.getfield 13, 3) := by decide +kernel
theorem dX12_read_27 : decode cX12_read 27 = .ok (.iload_n 1, 1) := by decide +kernel
theorem dX12_read_28 : decode cX12_read 28 = .ok (.baload, 1) := by decide +kernel
theorem dX12_read_29 : decode cX12_read 29 = .ok (.bastore, 1) := by decide +kernel
theorem dX12_read_30 : decode cX12_read 30 = .ok (.iinc 1 1, 3) := by decide +kernel
theorem dX12_read_33 : decode cX12_read 33 = .ok (.goto (-23), 3) := by decide +kernel
theorem dX12_read_36 : decode cX12_read 36 = .ok (.aload_n 0, 1) := by decide +kernel
theorem dX12_read_37 : decode cX12_read 37 = .ok (.iconst 0, 1) := by decide +kernel
theorem dX12_read_38 : decode cX12_read 38 = .ok (.putfield 90, 3) := by decide +kernel
theorem dX12_read_41 : decode cX12_read 41 = .ok (.aload_n 0, 1) := by decide +kernel
theorem dX12_read_42 : decode cX12_read 42 = .ok (.invokevirtual 148, 3) := by decide +kernel
theorem dX12_read_45 : decode cX12_read 45 = .ok (.aload_n 0, 1) := by decide +kernel
theorem dX12_read_46 : decode cX12_read 46 = .ok (.iconst 0, 1) := by decide +kernel
theorem dX12_read_47 : decode cX12_read 47 = .ok (.putfield 127, 3) := by decide +kernel
theorem dX12_read_50 : decode cX12_read 50 = .ok (.aload_n 0, 1) := by decide +kernel
theorem dX12_read_51 : decode cX12_read 51 = .ok (.iconst 0, 1) := by decide +kernel
theorem dX12_read_52 : decode cX12_read 52 = .ok (.putfield 124, 3) := by decide +kernel
theorem dX12_read_55 : decode cX12_read 55 = .ok (.aload_n 0, 1) := by decide +kernel
theorem dX12_read_56 : decode cX12_read 56 = .ok (.iconst 0, 1) := by decide +kernel
theorem dX12_read_57 : decode cX12_read 57 = .ok (.putfield 133, 3) := by decide +kernel
theorem dX12_read_60 : decode cX12_read 60 = .ok (.aload_n 0, 1) := by decide +kernel
theorem dX12_read_61 : decode cX12_read 61 = .ok (.iconst 0, 1) := by decide +kernel
theorem dX12_read_62 : decode cX12_read 62 = .ok (.putfield 151, 3) := by decide +kernel
theorem dX12_read_65 : decode cX12_read 65 = .ok (.aload_n 0, 1) := by decide +kernel
theorem dX12_read_66 : decode cX12_read 66 = .ok (.iconst 0, 1) := by decide +kernel
theorem dX12_read_67 : decode cX12_read 67 = .ok (.putfield 154, 3) := by decide +kernel
theorem dX12_read_70 : decode cX12_read 70 = .ok (.aload_n 0, 1) := by decide +kernel
theorem dX12_read_71 : decode cX12_read 71 = .ok (.bipush 20, 2) := by decide +kernel
theorem dX12_read_73 : decode cX12_read 73 = .ok (.invokevirtual 157, 3) := by decide +kernel
theorem dX12_read_76 : decode cX12_read 76 = .ok (.aload_n 0, 1) := by decide +kernel
theorem dX12_read_77 : decode cX12_read 77 = .ok (.iconst 2, 1) := by decide +kernel
theorem dX12_read_78 : decode cX12_read 78 = .ok (.invokevirtual 157, 3) := by decide +kernel
theorem dX12_read_81 : decode cX12_read 81 = .ok (.aload_n 0, 1) := by decide +kernel
theorem dX12_read_82 : decode cX12_read 82 = .ok (.iconst 2, 1) := by decide +kernel
theorem dX12_read_83 : decode cX12_read 83 = .ok (.invokevirtual 157, 3) := by decide +kernel
theorem dX12_read_86 : decode cX12_read 86 = .ok (.aload_n 0, 1) := by decide +kernel
theorem dX12_read_87 : decode cX12_read 87 = .ok (.iconst 4, 1) := by decide +kernel
theorem dX12_read_88 : decode cX12_read 88 = .ok (.invokevirtual 157, 3) := by decide +kernel
theorem dX12_read_91 : decode cX12_read 91 = .ok (.aload_n 0, 1) := by decide +kernel
theorem dX12_read_92 : decode cX12_read 92 = .ok (.getfield 124, 3) := by decide +kernel
theorem dX12_read_95 : decode cX12_read 95 = .ok (.ifCond .ne 18, 3) := by decide +kernel
theorem dX12_read_98 : decode cX12_read 98 = .ok (.aload_n 0, 1) := by decide +kernel
theorem dX12_read_99 : decode cX12_read 99 = .ok (.iconst 0, 1) := by decide +kernel
theorem dX12_read_100 : decode cX12_read 100 = .ok (.invokevirtual 142, 3) := by decide +kernel
theorem dX12_read_103 : decode cX12_read 103 = .ok (.ifCond .ne 10, 3) := by decide +kernel
theorem dX12_read_106 : decode cX12_read 106 = .ok (.aload_n 0, 1) := by decide +kernel
theorem dX12_read_107 : decode cX12_read 107 = .ok (.invokevirtual 160, 3) := by decide +kernel
theorem dX12_read_110 : decode cX12_read 110 = .ok (.goto (-19), 3) := by decide +kernel
theorem dX12_read_113 : decode cX12_read 113 = .ok (.aload_n 0, 1) := by decide +kernel
theorem dX12_read_114 : decode cX12_read 114 = .ok (.getfield 124, 3) := by decide +kernel
theorem dX12_read_117 : decode cX12_read 117 = .ok (.ifCond .ne 7, 3) := by decide +kernel
theorem dX12_read_120 : decode cX12_read 120 = .ok (.aload_n 0, 1) := by decide +kernel
theorem dX12_read_121 : decode cX12_read 121 = .ok (.invokevirtual 163, 3) := by decide +kernel
theorem dX12_read_124 : decode cX12_read 124 = .ok (.aload_n 0, 1) := by decide +kernel
theorem dX12_read_125 : decode cX12_read 125 = .ok (.aload_n 0, 1) := by decide +kernel
theorem dX12_read_126 : decode cX12_read 126 = .ok (.getfield 124, 3) := by decide +kernel
theorem dX12_read_129 : decode cX12_read 129 = .ok (.ifCond .le 10, 3) := by decide +kernel
theorem dX12_read_132 : decode cX12_read 132 = .ok (.aload_n 0, 1) := by decide +kernel
theorem dX12_read_133 : decode cX12_read 133 = .ok (.getfield 130, 3) := by decide +kernel
theorem dX12_read_136 : decode cX12_read 136 = .ok (.goto 18, 3) := by decide +kernel
theorem dX12_read_139 : decode cX12_read 139 = .ok (.aload_n 0, 1) := by decide +kernel
theorem dX12_read_140 : decode cX12_read 140 = .ok (.getfield 133, 3) := by decide +kernel
theorem dX12_read_143 : decode cX12_read 143 = .ok (.ifCond .le 10, 3) := by decide +kernel
theorem dX12_read_146 : decode cX12_read 146 = .ok (.aload_n 0, 1) := by decide +kernel
theorem dX12_read_147 : decode cX12_read 147 = .ok (.getfield 136, 3) := by decide +kernel
theorem dX12_read_150 : decode cX12_read 150 = .ok (.goto 4, 3) := by decide +kernel
theorem dX12_read_153 : decode cX12_read 153 = .ok (.iconst (-1), 1) := by decide +kernel
theorem dX12_read_154 : decode cX12_read 154 = .ok (.putfield 37, 3) := by decide +kernel
theorem dX12_read_157 : decode cX12_read 157 = .ok (.aload_n 0, 1) := by decide +kernel
theorem dX12_read_158 : decode cX12_read 158 = .ok (.getfield 124, 3) := by decide +kernel
theorem dX12_read_161 : decode cX12_read 161 = .ok (.ifCond .le 8, 3) := by decide +kernel
theorem dX12_read_164 : decode cX12_read 164 = .ok (.aload_n 0, 1) := by decide +kernel
theorem dX12_read_165 : decode cX12_read 165 = .ok (.getfield 124, 3) := by decide +kernel
theorem dX12_read_168 : decode cX12_read 168 = .ok (.ireturn, 1) := by decide +kernel
theorem dX12_read_169 : decode cX12_read 169 = .ok (.aload_n 0, 1) := by decide +kernel
theorem dX12_read_170 : decode cX12_read 170 = .ok (.getfield 133, 3) := by decide +kernel
theorem dX12_read_173 : decode cX12_read 173 = .ok (.ifCond .le 8, 3) := by decide +kernel
theorem dX12_read_176 : decode cX12_read 176 = .ok (.aload_n 0, 1) := by decide +kernel
theorem dX12_read_177 : decode cX12_read 177 = .ok (.getfield 133, 3) := by decide +kernel
theorem dX12_read_180 : decode cX12_read 180 = .ok (.ireturn, 1) := by decide +kernel
theorem dX12_read_181 : decode cX12_read 181 = .ok (.iconst 0, 1) := by decide +kernel
theorem dX12_read_182 : decode cX12_read 182 = .ok (.istore_n 1, 1) := by decide +kernel
theorem dX12_read_183 : decode cX12_read 183 = .ok (.iload_n 1, 1) := by decide +kernel
theorem dX12_read_184 : decode cX12_read 184 = .ok (.sipush 352, 3) := by decide +kernel
theorem dX12_read_187 : decode cX12_read 187 = .ok (.if_icmp .ge 21, 3) := by decide +kernel
theorem dX12_read_190 : decode cX12_read 190 = .ok (.aload_n 0, 1) := by decide +kernel
theorem dX12_read_191 : decode cX12_read 191 = .ok (.getfield 40, 3) := by decide +kernel
theorem dX12_read_194 : decode cX12_read 194 = .ok (.iload_n 1, 1) := by decide +kernel
theorem dX12_read_195 : decode cX12_read 195 = .ok (.aload_n 0, 1) := by decide +kernel
theorem dX12_read_196 : decode cX12_read 196 = .ok (.getfield 43, 3) := by decide +kernel
theorem dX12_read_199 : decode cX12_read 199 = .ok (.iload_n 1, 1) := by decide +kernel
theorem dX12_read_200 : decode cX12_read 200 = .ok (.iaload, 1) := by decide +kernel
theorem dX12_read_201 : decode cX12_read 201 = .ok (.iastore, 1) := by decide +kernel
theorem dX12_read_202 : decode cX12_read 202 = .ok (.iinc 1 1, 3) := by decide +kernel
theorem dX12_read_205 : decode cX12_read 205 = .ok (.goto (-22), 3) := by decide +kernel
theorem dX12_read_208 : decode cX12_read 208 = .ok (.aload_n 0, 1) := by decide +kernel
theorem dX12_read_209 : decode cX12_read 209 = .ok (.invokevirtual 87, 3) := by decide +kernel
theorem dX12_read_212 : decode cX12_read 212 = .ok (.iconst 0, 1) := by decide +kernel
theorem dX12_read_213 : decode cX12_read 213 = .ok (.istore_n 1, 1) := by decide +kernel
theorem dX12_read_214 : decode cX12_read 214 = .ok (.iload_n 1, 1) := by decide +kernel
theorem dX12_read_215 : decode cX12_read 215 = .ok (.iconst 3, 1) := by decide +kernel
theorem dX12_read_216 : decode cX12_read 216 = .ok (.if_icmp .ge 16, 3) := by decide +kernel
theorem dX12_read_219 : decode cX12_read 219 = .ok (.aload_n 0, 1) := by decide +kernel
theorem dX12_read_220 : decode cX12_read 220 = .ok (.getfield 71, 3) := by decide +kernel
theorem dX12_read_223 : decode cX12_read 223 = .ok (.iload_n 1, 1) := by decide +kernel
theorem dX12_read_224 : decode cX12_read 224 = .ok (.iconst 0, 1) := by decide +kernel
theorem dX12_read_225 : decode cX12_read 225 = .ok (.bastore, 1) := by decide +kernel
theorem dX12_read_226 : decode cX12_read 226 = .ok (.iinc 1 1, 3) := by decide +kernel
theorem dX12_read_229 : decode cX12_read 229 = .ok (.goto (-15), 3) := by decide +kernel
theorem dX12_read_232 : decode cX12_read 232 = .ok (.iconst 0, 1) := by decide +kernel
theorem dX12_read_233 : decode cX12_read 233 = .ok (.ireturn, 1) := by decide +kernel
def rmX12_read : Room := { frames := 6, cells := 0, slots := 0, locals := 135 }
set_option maxRecDepth 100000 in
def fX12_read_B214 (N : Nat) (g : Gs) (x0 : Nat) (K214 : Int32 × Ds → Option (Int32 × Ds)) (y1 : Int32) (d : Ds) : Option (Int32 × Ds) := if (3 : Int32) ≤ y1 then (some (0, d)) else (gd (chk g x0 11) <| ob (gR g x0 32) fun r39 => (gd (chk g r39 104) <| gd (¬ (y1 < 0 ∨ gL g r39 ≤ y1.toNatClampNeg)) <| bd (sI d r39 y1.toNatClampNeg (vp_nar .boolean 0)) fun d42 => (bd (y1 + 1) fun u43 => (K214 (u43, d42)))))
set_option maxHeartbeats 4000000 in
set_option maxRecDepth 100000 in
theorem tX12_read_214 {p : Program} {l : Launch} {e : Env} {s : State} {m : MethodId} {args : Array Value} {below : List Frame} {meth : Method} {c : Code} {D : va_G} {cy : Nat → ClassId} {B : Bs} (C : Cx p s m args c cX12_read 2 RX12 D cy B) (hr : meth.sig.returnType = (some .int)) (hlocks : meth.locks = false) {N : Nat} {g : Gs} {x0 : Nat} {vz : Int32} {dz : Ds} {K214 : Int32 × Ds → Option (Int32 × Ds)} (hK214 : ∀ a, K214 a = some (vz, dz) → WB p l e rmX12_read s m args below meth c 2 D cy B 0 0 (MQ below (QI D cy B vz g dz) args s 0 0 (wA B)) g a.2 [(0, .ref (ad B x0)), (1, .int a.1)] 214 []) {y1 : Int32} {d : Ds} (hf : fX12_read_B214 N g x0 K214 y1 d = some (vz, dz)) : WB p l e rmX12_read s m args below meth c 2 D cy B 0 0 (MQ below (QI D cy B vz g dz) args s 0 0 (wA B)) g d [(0, .ref (ad B x0)), (1, .int y1)] 214 [] := by
  unfold fX12_read_B214 at hf
  refine b_iload_n C dX12_read_214 1 rfl rfl ?_
  refine b_iconst C (v := 3) dX12_read_215 (by decide) ?_
  refine b_icmp_ge C (tgt := 232) dX12_read_216 (by decide) (fun c37 => ?_) (fun c37 => ?_)
  · have hf := it_s c37 hf
    refine b_iconst C (v := 0) dX12_read_232 (by decide) ?_
    exact b_iret C hr hlocks hf dX12_read_233
  · have hf := if_s c37 hf
    refine b_aload_n C dX12_read_219 0 rfl rfl ?_
    obtain ⟨h38, hf⟩ := gd_s hf
    obtain ⟨r39, er39, hf⟩ := ob_s hf
    refine b_gR C dX12_read_220 fl_X12_71 h38 er39 ?_
    refine b_iload_n C dX12_read_223 1 rfl rfl ?_
    refine b_iconst C (v := 0) dX12_read_224 (by decide) ?_
    obtain ⟨h40, hf⟩ := gd_s hf
    obtain ⟨h41, hf⟩ := gd_s hf
    obtain ⟨d42, ed42, hf⟩ := bd_s hf
    refine b_zast C h40 h41 ed42 dX12_read_225 ?_
    obtain ⟨u43, eu43, hf⟩ := bd_s hf
    refine b_iinc C dX12_read_226 1 rfl (by rw [eu43]; rfl) [(1, .int u43), (0, .ref (ad B x0))] (by decide) rfl ?_
    refine b_goto C (tgt := 214) dX12_read_229 (by decide) ?_
    refine b_sub [(0, .ref (ad B x0)), (1, .int u43)] [1, 0] rfl ?_
    exact hK214 (u43, d42) hf
def fX12_read_L214 (N : Nat) (g : Gs) (x0 : Nat) : Int32 × Ds → Option (Int32 × Ds) := lp (fun K214 a => fX12_read_B214 N g x0 K214 a.1 a.2) N
theorem tX12_read_L214 {p : Program} {l : Launch} {e : Env} {s : State} {m : MethodId} {args : Array Value} {below : List Frame} {meth : Method} {c : Code} {D : va_G} {cy : Nat → ClassId} {B : Bs} (C : Cx p s m args c cX12_read 2 RX12 D cy B) (hr : meth.sig.returnType = (some .int)) (hlocks : meth.locks = false) {N : Nat} {g : Gs} {x0 : Nat} {vz : Int32} {dz : Ds} (a : Int32 × Ds) (hf : fX12_read_L214 N g x0 a = some (vz, dz)) : WB p l e rmX12_read s m args below meth c 2 D cy B 0 0 (MQ below (QI D cy B vz g dz) args s 0 0 (wA B)) g a.2 [(0, .ref (ad B x0)), (1, .int a.1)] 214 [] :=
  lp_w (fun K214 hK214 a ha => tX12_read_214 C hr hlocks hK214 ha) N a hf
set_option maxRecDepth 100000 in
def fX12_read_B183 (N : Nat) (g : Gs) (x0 : Nat) (K183 : Int32 × Ds → Option (Int32 × Ds)) (y1 : Int32) (d : Ds) : Option (Int32 × Ds) := if (352 : Int32) ≤ y1 then (gd (chk g x0 11) <| cv (fX12_startsAnew N g x0 d) fun d35 => (fX12_read_L214 N g x0 (0, d35))) else (gd (chk g x0 11) <| ob (gR g x0 17) fun r45 => (ob (gR g x0 18) fun r46 => (gd (chk g r46 102) <| gd (¬ (y1 < 0 ∨ gL g r46 ≤ y1.toNatClampNeg)) <| gd (chk g r45 102) <| gd (¬ (y1 < 0 ∨ gL g r45 ≤ y1.toNatClampNeg)) <| bd (sI d r45 y1.toNatClampNeg (dI d r46 y1.toNatClampNeg)) fun d51 => (bd (y1 + 1) fun u52 => (K183 (u52, d51))))))
set_option maxHeartbeats 4000000 in
set_option maxRecDepth 100000 in
theorem tX12_read_183 {p : Program} {l : Launch} {e : Env} {s : State} {m : MethodId} {args : Array Value} {below : List Frame} {meth : Method} {c : Code} {D : va_G} {cy : Nat → ClassId} {B : Bs} (C : Cx p s m args c cX12_read 2 RX12 D cy B) (hr : meth.sig.returnType = (some .int)) (hlocks : meth.locks = false) {N : Nat} {g : Gs} {x0 : Nat} {vz : Int32} {dz : Ds} {K183 : Int32 × Ds → Option (Int32 × Ds)} (hK183 : ∀ a, K183 a = some (vz, dz) → WB p l e rmX12_read s m args below meth c 2 D cy B 0 0 (MQ below (QI D cy B vz g dz) args s 0 0 (wA B)) g a.2 [(0, .ref (ad B x0)), (1, .int a.1)] 183 []) {y1 : Int32} {d : Ds} (hf : fX12_read_B183 N g x0 K183 y1 d = some (vz, dz)) : WB p l e rmX12_read s m args below meth c 2 D cy B 0 0 (MQ below (QI D cy B vz g dz) args s 0 0 (wA B)) g d [(0, .ref (ad B x0)), (1, .int y1)] 183 [] := by
  unfold fX12_read_B183 at hf
  refine b_iload_n C dX12_read_183 1 rfl rfl ?_
  refine b_sipush C (v := 352) dX12_read_184 (by decide) ?_
  refine b_icmp_ge C (tgt := 208) dX12_read_187 (by decide) (fun c33 => ?_) (fun c33 => ?_)
  · have hf := it_s c33 hf
    refine b_aload_n C dX12_read_208 0 rfl rfl ?_
    obtain ⟨h34, hf⟩ := gd_s hf
    obtain ⟨d35, k36, hf⟩ := cv_s hf
    refine b_cVN C [] dX12_read_209 (kX12_startsAnew l D cy B k36) lv_X12_87 ⟨rfl, rfl, Nat.le_of_ble_eq_true rfl, Nat.le_of_ble_eq_true rfl⟩ h34 (by decide) rfl (Nat.le_of_ble_eq_true rfl) ⟨Nat.zero_le _, Nat.zero_le _⟩ rfl ?_
    refine b_iconst C (v := 0) dX12_read_212 (by decide) ?_
    refine b_istore_n C dX12_read_213 rfl [(1, .int 0), (0, .ref (ad B x0))] (by decide) rfl ?_
    refine b_sub [(0, .ref (ad B x0)), (1, .int 0)] [1, 0] rfl ?_
    exact tX12_read_L214 C hr hlocks (0, d35) hf
  · have hf := if_s c33 hf
    refine b_aload_n C dX12_read_190 0 rfl rfl ?_
    obtain ⟨h44, hf⟩ := gd_s hf
    obtain ⟨r45, er45, hf⟩ := ob_s hf
    refine b_gR C dX12_read_191 fl_X12_40 h44 er45 ?_
    refine b_iload_n C dX12_read_194 1 rfl rfl ?_
    refine b_aload_n C dX12_read_195 0 rfl rfl ?_
    obtain ⟨r46, er46, hf⟩ := ob_s hf
    refine b_gR C dX12_read_196 fl_X12_43 h44 er46 ?_
    refine b_iload_n C dX12_read_199 1 rfl rfl ?_
    obtain ⟨h47, hf⟩ := gd_s hf
    obtain ⟨h48, hf⟩ := gd_s hf
    refine b_iald C h47 h48 dX12_read_200 ?_
    obtain ⟨h49, hf⟩ := gd_s hf
    obtain ⟨h50, hf⟩ := gd_s hf
    obtain ⟨d51, ed51, hf⟩ := bd_s hf
    refine b_iast C h49 h50 ed51 dX12_read_201 ?_
    obtain ⟨u52, eu52, hf⟩ := bd_s hf
    refine b_iinc C dX12_read_202 1 rfl (by rw [eu52]; rfl) [(1, .int u52), (0, .ref (ad B x0))] (by decide) rfl ?_
    refine b_goto C (tgt := 183) dX12_read_205 (by decide) ?_
    refine b_sub [(0, .ref (ad B x0)), (1, .int u52)] [1, 0] rfl ?_
    exact hK183 (u52, d51) hf
def fX12_read_L183 (N : Nat) (g : Gs) (x0 : Nat) : Int32 × Ds → Option (Int32 × Ds) := lp (fun K183 a => fX12_read_B183 N g x0 K183 a.1 a.2) N
theorem tX12_read_L183 {p : Program} {l : Launch} {e : Env} {s : State} {m : MethodId} {args : Array Value} {below : List Frame} {meth : Method} {c : Code} {D : va_G} {cy : Nat → ClassId} {B : Bs} (C : Cx p s m args c cX12_read 2 RX12 D cy B) (hr : meth.sig.returnType = (some .int)) (hlocks : meth.locks = false) {N : Nat} {g : Gs} {x0 : Nat} {vz : Int32} {dz : Ds} (a : Int32 × Ds) (hf : fX12_read_L183 N g x0 a = some (vz, dz)) : WB p l e rmX12_read s m args below meth c 2 D cy B 0 0 (MQ below (QI D cy B vz g dz) args s 0 0 (wA B)) g a.2 [(0, .ref (ad B x0)), (1, .int a.1)] 183 [] :=
  lp_w (fun K183 hK183 a ha => tX12_read_183 C hr hlocks hK183 ha) N a hf
set_option maxRecDepth 100000 in
def fX12_read_J154 (N : Nat) (g : Gs) (x0 : Nat) (z0 : Int32) (z1 : Nat) (d : Ds) : Option (Int32 × Ds) := gd (chk g z1 11) <| bd (sI d z1 16 z0) fun d29 => (gd (chk g x0 11) <| if (dI d29 x0 12) ≤ 0 then (if (dI d29 x0 14) ≤ 0 then (fX12_read_L183 N g x0 (0, d29)) else (some ((dI d29 x0 14), d29))) else (some ((dI d29 x0 12), d29)))
set_option maxHeartbeats 4000000 in
set_option maxRecDepth 100000 in
theorem tX12_read_154 {p : Program} {l : Launch} {e : Env} {s : State} {m : MethodId} {args : Array Value} {below : List Frame} {meth : Method} {c : Code} {D : va_G} {cy : Nat → ClassId} {B : Bs} (C : Cx p s m args c cX12_read 2 RX12 D cy B) (hr : meth.sig.returnType = (some .int)) (hlocks : meth.locks = false) {N : Nat} {g : Gs} {x0 : Nat} {vz : Int32} {dz : Ds} {z0 : Int32} {z1 : Nat} {d : Ds} (hf : fX12_read_J154 N g x0 z0 z1 d = some (vz, dz)) : WB p l e rmX12_read s m args below meth c 2 D cy B 0 0 (MQ below (QI D cy B vz g dz) args s 0 0 (wA B)) g d [(0, .ref (ad B x0))] 154 [.int z0, .ref (ad B z1)] := by
  unfold fX12_read_J154 at hf
  obtain ⟨h28, hf⟩ := gd_s hf
  obtain ⟨d29, ed29, hf⟩ := bd_s hf
  refine b_pI C dX12_read_154 fl_X12_37 fp11_16 h28 ed29 ?_
  refine b_aload_n C dX12_read_157 0 rfl rfl ?_
  obtain ⟨h30, hf⟩ := gd_s hf
  refine b_gI C dX12_read_158 fl_X12_124 h30 ?_
  refine b_if_le C (tgt := 169) dX12_read_161 (by decide) (fun c31 => ?_) (fun c31 => ?_)
  · have hf := it_s c31 hf
    refine b_aload_n C dX12_read_169 0 rfl rfl ?_
    refine b_gI C dX12_read_170 fl_X12_133 h30 ?_
    refine b_if_le C (tgt := 181) dX12_read_173 (by decide) (fun c32 => ?_) (fun c32 => ?_)
    · have hf := it_s c32 hf
      refine b_iconst C (v := 0) dX12_read_181 (by decide) ?_
      refine b_istore_n C dX12_read_182 rfl [(1, .int 0), (0, .ref (ad B x0))] (by decide) rfl ?_
      refine b_sub [(0, .ref (ad B x0)), (1, .int 0)] [1, 0] rfl ?_
      exact tX12_read_L183 C hr hlocks (0, d29) hf
    · have hf := if_s c32 hf
      refine b_aload_n C dX12_read_176 0 rfl rfl ?_
      refine b_gI C dX12_read_177 fl_X12_133 h30 ?_
      exact b_iret C hr hlocks hf dX12_read_180
  · have hf := if_s c31 hf
    refine b_aload_n C dX12_read_164 0 rfl rfl ?_
    refine b_gI C dX12_read_165 fl_X12_124 h30 ?_
    exact b_iret C hr hlocks hf dX12_read_168
set_option maxRecDepth 100000 in
def fX12_read_J124 (N : Nat) (g : Gs) (x0 : Nat) (d : Ds) : Option (Int32 × Ds) := gd (chk g x0 11) <| if (dI d x0 12) ≤ 0 then (if (dI d x0 14) ≤ 0 then (fX12_read_J154 N g x0 (-1) x0 d) else (fX12_read_J154 N g x0 (dI d x0 15) x0 d)) else (fX12_read_J154 N g x0 (dI d x0 13) x0 d)
set_option maxHeartbeats 4000000 in
set_option maxRecDepth 100000 in
theorem tX12_read_124 {p : Program} {l : Launch} {e : Env} {s : State} {m : MethodId} {args : Array Value} {below : List Frame} {meth : Method} {c : Code} {D : va_G} {cy : Nat → ClassId} {B : Bs} (C : Cx p s m args c cX12_read 2 RX12 D cy B) (hr : meth.sig.returnType = (some .int)) (hlocks : meth.locks = false) {N : Nat} {g : Gs} {x0 : Nat} {vz : Int32} {dz : Ds} {d : Ds} (hf : fX12_read_J124 N g x0 d = some (vz, dz)) : WB p l e rmX12_read s m args below meth c 2 D cy B 0 0 (MQ below (QI D cy B vz g dz) args s 0 0 (wA B)) g d [(0, .ref (ad B x0))] 124 [] := by
  unfold fX12_read_J124 at hf
  refine b_aload_n C dX12_read_124 0 rfl rfl ?_
  refine b_aload_n C dX12_read_125 0 rfl rfl ?_
  obtain ⟨h25, hf⟩ := gd_s hf
  refine b_gI C dX12_read_126 fl_X12_124 h25 ?_
  refine b_if_le C (tgt := 139) dX12_read_129 (by decide) (fun c26 => ?_) (fun c26 => ?_)
  · have hf := it_s c26 hf
    refine b_aload_n C dX12_read_139 0 rfl rfl ?_
    refine b_gI C dX12_read_140 fl_X12_133 h25 ?_
    refine b_if_le C (tgt := 153) dX12_read_143 (by decide) (fun c27 => ?_) (fun c27 => ?_)
    · have hf := it_s c27 hf
      refine b_iconst C (v := (-1)) dX12_read_153 (by decide) ?_
      refine b_sub [(0, .ref (ad B x0))] [0] rfl ?_
      exact tX12_read_154 C hr hlocks hf
    · have hf := if_s c27 hf
      refine b_aload_n C dX12_read_146 0 rfl rfl ?_
      refine b_gI C dX12_read_147 fl_X12_136 h25 ?_
      refine b_goto C (tgt := 154) dX12_read_150 (by decide) ?_
      refine b_sub [(0, .ref (ad B x0))] [0] rfl ?_
      exact tX12_read_154 C hr hlocks hf
  · have hf := if_s c26 hf
    refine b_aload_n C dX12_read_132 0 rfl rfl ?_
    refine b_gI C dX12_read_133 fl_X12_130 h25 ?_
    refine b_goto C (tgt := 154) dX12_read_136 (by decide) ?_
    refine b_sub [(0, .ref (ad B x0))] [0] rfl ?_
    exact tX12_read_154 C hr hlocks hf
set_option maxRecDepth 100000 in
def fX12_read_J113 (N : Nat) (g : Gs) (x0 : Nat) (d : Ds) : Option (Int32 × Ds) := gd (chk g x0 11) <| if (dI d x0 12) = 0 then (cv (fX12_means N g x0 d) fun d53 => (fX12_read_J124 N g x0 d53)) else (fX12_read_J124 N g x0 d)
set_option maxHeartbeats 4000000 in
set_option maxRecDepth 100000 in
theorem tX12_read_113 {p : Program} {l : Launch} {e : Env} {s : State} {m : MethodId} {args : Array Value} {below : List Frame} {meth : Method} {c : Code} {D : va_G} {cy : Nat → ClassId} {B : Bs} (C : Cx p s m args c cX12_read 2 RX12 D cy B) (hr : meth.sig.returnType = (some .int)) (hlocks : meth.locks = false) {N : Nat} {g : Gs} {x0 : Nat} {vz : Int32} {dz : Ds} {d : Ds} (hf : fX12_read_J113 N g x0 d = some (vz, dz)) : WB p l e rmX12_read s m args below meth c 2 D cy B 0 0 (MQ below (QI D cy B vz g dz) args s 0 0 (wA B)) g d [(0, .ref (ad B x0))] 113 [] := by
  unfold fX12_read_J113 at hf
  refine b_aload_n C dX12_read_113 0 rfl rfl ?_
  obtain ⟨h23, hf⟩ := gd_s hf
  refine b_gI C dX12_read_114 fl_X12_124 h23 ?_
  refine b_if_ne C (tgt := 124) dX12_read_117 (by decide) (fun c24 => ?_) (fun c24 => ?_)
  · have hf := if_s c24 hf
    refine b_sub [(0, .ref (ad B x0))] [0] rfl ?_
    exact tX12_read_124 C hr hlocks hf
  · have hf := it_s c24 hf
    refine b_aload_n C dX12_read_120 0 rfl rfl ?_
    obtain ⟨d53, k54, hf⟩ := cv_s hf
    refine b_cVN C [] dX12_read_121 (kX12_means l D cy B k54) lv_X12_163 ⟨rfl, rfl, Nat.le_of_ble_eq_true rfl, Nat.le_of_ble_eq_true rfl⟩ h23 (by decide) rfl (Nat.le_of_ble_eq_true rfl) ⟨Nat.zero_le _, Nat.zero_le _⟩ rfl ?_
    refine b_sub [(0, .ref (ad B x0))] [0] rfl ?_
    exact tX12_read_124 C hr hlocks hf
set_option maxRecDepth 100000 in
def fX12_read_B91 (N : Nat) (g : Gs) (x0 : Nat) (K91 : Ds → Option (Int32 × Ds)) (d : Ds) : Option (Int32 × Ds) := gd (chk g x0 11) <| if (dI d x0 12) = 0 then (cb (fX12_is N g x0 0 d) fun u57 d55 => (if u57 = 0 then (cv (fX12_tell N g x0 d55) fun d59 => (K91 d59)) else (fX12_read_J113 N g x0 d55))) else (fX12_read_J113 N g x0 d)
set_option maxHeartbeats 4000000 in
set_option maxRecDepth 100000 in
theorem tX12_read_91 {p : Program} {l : Launch} {e : Env} {s : State} {m : MethodId} {args : Array Value} {below : List Frame} {meth : Method} {c : Code} {D : va_G} {cy : Nat → ClassId} {B : Bs} (C : Cx p s m args c cX12_read 2 RX12 D cy B) (hr : meth.sig.returnType = (some .int)) (hlocks : meth.locks = false) {N : Nat} {g : Gs} {x0 : Nat} {vz : Int32} {dz : Ds} {K91 : Ds → Option (Int32 × Ds)} (hK91 : ∀ a, K91 a = some (vz, dz) → WB p l e rmX12_read s m args below meth c 2 D cy B 0 0 (MQ below (QI D cy B vz g dz) args s 0 0 (wA B)) g a [(0, .ref (ad B x0))] 91 []) {d : Ds} (hf : fX12_read_B91 N g x0 K91 d = some (vz, dz)) : WB p l e rmX12_read s m args below meth c 2 D cy B 0 0 (MQ below (QI D cy B vz g dz) args s 0 0 (wA B)) g d [(0, .ref (ad B x0))] 91 [] := by
  unfold fX12_read_B91 at hf
  refine b_aload_n C dX12_read_91 0 rfl rfl ?_
  obtain ⟨h21, hf⟩ := gd_s hf
  refine b_gI C dX12_read_92 fl_X12_124 h21 ?_
  refine b_if_ne C (tgt := 113) dX12_read_95 (by decide) (fun c22 => ?_) (fun c22 => ?_)
  · have hf := if_s c22 hf
    refine b_sub [(0, .ref (ad B x0))] [0] rfl ?_
    exact tX12_read_113 C hr hlocks hf
  · have hf := it_s c22 hf
    refine b_aload_n C dX12_read_98 0 rfl rfl ?_
    refine b_iconst C (v := 0) dX12_read_99 (by decide) ?_
    obtain ⟨u57, d55, k56, hf⟩ := cb_s hf
    refine b_cVI C [] dX12_read_100 (kX12_is l D cy B k56) lv_X12_142 ⟨rfl, rfl, Nat.le_of_ble_eq_true rfl, Nat.le_of_ble_eq_true rfl⟩ h21 (by decide) rfl (Nat.le_of_ble_eq_true rfl) ⟨Nat.zero_le _, Nat.zero_le _⟩ rfl ?_
    refine b_if_ne C (tgt := 113) dX12_read_103 (by decide) (fun c58 => ?_) (fun c58 => ?_)
    · have hf := if_s c58 hf
      refine b_sub [(0, .ref (ad B x0))] [0] rfl ?_
      exact tX12_read_113 C hr hlocks hf
    · have hf := it_s c58 hf
      refine b_aload_n C dX12_read_106 0 rfl rfl ?_
      obtain ⟨d59, k60, hf⟩ := cv_s hf
      refine b_cVN C [] dX12_read_107 (kX12_tell l D cy B k60) lv_X12_160 ⟨rfl, rfl, Nat.le_of_ble_eq_true rfl, Nat.le_of_ble_eq_true rfl⟩ h21 (by decide) rfl (Nat.le_of_ble_eq_true rfl) ⟨Nat.zero_le _, Nat.zero_le _⟩ rfl ?_
      refine b_goto C (tgt := 91) dX12_read_110 (by decide) ?_
      refine b_sub [(0, .ref (ad B x0))] [0] rfl ?_
      exact hK91 d59 hf
def fX12_read_L91 (N : Nat) (g : Gs) (x0 : Nat) : Ds → Option (Int32 × Ds) := lp (fun K91 a => fX12_read_B91 N g x0 K91 a) N
theorem tX12_read_L91 {p : Program} {l : Launch} {e : Env} {s : State} {m : MethodId} {args : Array Value} {below : List Frame} {meth : Method} {c : Code} {D : va_G} {cy : Nat → ClassId} {B : Bs} (C : Cx p s m args c cX12_read 2 RX12 D cy B) (hr : meth.sig.returnType = (some .int)) (hlocks : meth.locks = false) {N : Nat} {g : Gs} {x0 : Nat} {vz : Int32} {dz : Ds} (a : Ds) (hf : fX12_read_L91 N g x0 a = some (vz, dz)) : WB p l e rmX12_read s m args below meth c 2 D cy B 0 0 (MQ below (QI D cy B vz g dz) args s 0 0 (wA B)) g a [(0, .ref (ad B x0))] 91 [] :=
  lp_w (fun K91 hK91 a ha => tX12_read_91 C hr hlocks hK91 ha) N a hf
set_option maxRecDepth 100000 in
def fX12_read_B10 (N : Nat) (g : Gs) (x0 : Nat) (K10 : Int32 × Ds → Option (Int32 × Ds)) (y1 : Int32) (d : Ds) : Option (Int32 × Ds) := gd (chk g x0 11) <| if (dI d x0 4) ≤ y1 then (bd (sI d x0 2 0) fun d5 => (cv (fX12_cutsText N g x0 d5) fun d6 => (bd (sI d6 x0 11 0) fun d8 => (bd (sI d8 x0 12 0) fun d9 => (bd (sI d9 x0 14 0) fun d10 => (bd (sI d10 x0 20 0) fun d11 => (bd (sI d11 x0 21 0) fun d12 => (cv (fX12_must N g x0 20 d12) fun d13 => (cv (fX12_must N g x0 2 d13) fun d15 => (cv (fX12_must N g x0 2 d15) fun d17 => (cv (fX12_must N g x0 4 d17) fun d19 => (fX12_read_L91 N g x0 d19)))))))))))) else (ob (gR g x0 3) fun r61 => (ob (gR g x0 1) fun r62 => (gd (chk g r62 100) <| gd (¬ (y1 < 0 ∨ gL g r62 ≤ y1.toNatClampNeg)) <| gd (chk g r61 100) <| gd (¬ (y1 < 0 ∨ gL g r61 ≤ y1.toNatClampNeg)) <| bd (sI d r61 y1.toNatClampNeg (vp_nar .byte (dI d r62 y1.toNatClampNeg))) fun d67 => (bd (y1 + 1) fun u68 => (K10 (u68, d67))))))
set_option maxHeartbeats 4000000 in
set_option maxRecDepth 100000 in
theorem tX12_read_10 {p : Program} {l : Launch} {e : Env} {s : State} {m : MethodId} {args : Array Value} {below : List Frame} {meth : Method} {c : Code} {D : va_G} {cy : Nat → ClassId} {B : Bs} (C : Cx p s m args c cX12_read 2 RX12 D cy B) (hr : meth.sig.returnType = (some .int)) (hlocks : meth.locks = false) {N : Nat} {g : Gs} {x0 : Nat} {vz : Int32} {dz : Ds} {K10 : Int32 × Ds → Option (Int32 × Ds)} (hK10 : ∀ a, K10 a = some (vz, dz) → WB p l e rmX12_read s m args below meth c 2 D cy B 0 0 (MQ below (QI D cy B vz g dz) args s 0 0 (wA B)) g a.2 [(0, .ref (ad B x0)), (1, .int a.1)] 10 []) {y1 : Int32} {d : Ds} (hf : fX12_read_B10 N g x0 K10 y1 d = some (vz, dz)) : WB p l e rmX12_read s m args below meth c 2 D cy B 0 0 (MQ below (QI D cy B vz g dz) args s 0 0 (wA B)) g d [(0, .ref (ad B x0)), (1, .int y1)] 10 [] := by
  unfold fX12_read_B10 at hf
  refine b_iload_n C dX12_read_10 1 rfl rfl ?_
  refine b_aload_n C dX12_read_11 0 rfl rfl ?_
  obtain ⟨h3, hf⟩ := gd_s hf
  refine b_gI C dX12_read_12 fl_X12_97 h3 ?_
  refine b_icmp_ge C (tgt := 36) dX12_read_15 (by decide) (fun c4 => ?_) (fun c4 => ?_)
  · have hf := it_s c4 hf
    refine b_aload_n C dX12_read_36 0 rfl rfl ?_
    refine b_iconst C (v := 0) dX12_read_37 (by decide) ?_
    obtain ⟨d5, ed5, hf⟩ := bd_s hf
    refine b_pI C dX12_read_38 fl_X12_90 fp11_2 h3 ed5 ?_
    refine b_aload_n C dX12_read_41 0 rfl rfl ?_
    obtain ⟨d6, k7, hf⟩ := cv_s hf
    refine b_cVN C [] dX12_read_42 (kX12_cutsText l D cy B k7) lv_X12_148 ⟨rfl, rfl, Nat.le_of_ble_eq_true rfl, Nat.le_of_ble_eq_true rfl⟩ h3 (by decide) rfl (Nat.le_of_ble_eq_true rfl) ⟨Nat.zero_le _, Nat.zero_le _⟩ rfl ?_
    refine b_aload_n C dX12_read_45 0 rfl rfl ?_
    refine b_iconst C (v := 0) dX12_read_46 (by decide) ?_
    obtain ⟨d8, ed8, hf⟩ := bd_s hf
    refine b_pI C dX12_read_47 fl_X12_127 fp11_11 h3 ed8 ?_
    refine b_aload_n C dX12_read_50 0 rfl rfl ?_
    refine b_iconst C (v := 0) dX12_read_51 (by decide) ?_
    obtain ⟨d9, ed9, hf⟩ := bd_s hf
    refine b_pI C dX12_read_52 fl_X12_124 fp11_12 h3 ed9 ?_
    refine b_aload_n C dX12_read_55 0 rfl rfl ?_
    refine b_iconst C (v := 0) dX12_read_56 (by decide) ?_
    obtain ⟨d10, ed10, hf⟩ := bd_s hf
    refine b_pI C dX12_read_57 fl_X12_133 fp11_14 h3 ed10 ?_
    refine b_aload_n C dX12_read_60 0 rfl rfl ?_
    refine b_iconst C (v := 0) dX12_read_61 (by decide) ?_
    obtain ⟨d11, ed11, hf⟩ := bd_s hf
    refine b_pI C dX12_read_62 fl_X12_151 fp11_20 h3 ed11 ?_
    refine b_aload_n C dX12_read_65 0 rfl rfl ?_
    refine b_iconst C (v := 0) dX12_read_66 (by decide) ?_
    obtain ⟨d12, ed12, hf⟩ := bd_s hf
    refine b_pI C dX12_read_67 fl_X12_154 fp11_21 h3 ed12 ?_
    refine b_aload_n C dX12_read_70 0 rfl rfl ?_
    refine b_bipush C (v := 20) dX12_read_71 (by decide) ?_
    obtain ⟨d13, k14, hf⟩ := cv_s hf
    refine b_cVN C [] dX12_read_73 (kX12_must l D cy B k14) lv_X12_157 ⟨rfl, rfl, Nat.le_of_ble_eq_true rfl, Nat.le_of_ble_eq_true rfl⟩ h3 (by decide) rfl (Nat.le_of_ble_eq_true rfl) ⟨Nat.zero_le _, Nat.zero_le _⟩ rfl ?_
    refine b_aload_n C dX12_read_76 0 rfl rfl ?_
    refine b_iconst C (v := 2) dX12_read_77 (by decide) ?_
    obtain ⟨d15, k16, hf⟩ := cv_s hf
    refine b_cVN C [] dX12_read_78 (kX12_must l D cy B k16) lv_X12_157 ⟨rfl, rfl, Nat.le_of_ble_eq_true rfl, Nat.le_of_ble_eq_true rfl⟩ h3 (by decide) rfl (Nat.le_of_ble_eq_true rfl) ⟨Nat.zero_le _, Nat.zero_le _⟩ rfl ?_
    refine b_aload_n C dX12_read_81 0 rfl rfl ?_
    refine b_iconst C (v := 2) dX12_read_82 (by decide) ?_
    obtain ⟨d17, k18, hf⟩ := cv_s hf
    refine b_cVN C [] dX12_read_83 (kX12_must l D cy B k18) lv_X12_157 ⟨rfl, rfl, Nat.le_of_ble_eq_true rfl, Nat.le_of_ble_eq_true rfl⟩ h3 (by decide) rfl (Nat.le_of_ble_eq_true rfl) ⟨Nat.zero_le _, Nat.zero_le _⟩ rfl ?_
    refine b_aload_n C dX12_read_86 0 rfl rfl ?_
    refine b_iconst C (v := 4) dX12_read_87 (by decide) ?_
    obtain ⟨d19, k20, hf⟩ := cv_s hf
    refine b_cVN C [] dX12_read_88 (kX12_must l D cy B k20) lv_X12_157 ⟨rfl, rfl, Nat.le_of_ble_eq_true rfl, Nat.le_of_ble_eq_true rfl⟩ h3 (by decide) rfl (Nat.le_of_ble_eq_true rfl) ⟨Nat.zero_le _, Nat.zero_le _⟩ rfl ?_
    refine b_sub [(0, .ref (ad B x0))] [0] rfl ?_
    exact tX12_read_L91 C hr hlocks d19 hf
  · have hf := if_s c4 hf
    refine b_aload_n C dX12_read_18 0 rfl rfl ?_
    obtain ⟨r61, er61, hf⟩ := ob_s hf
    refine b_gR C dX12_read_19 fl_X12_17 h3 er61 ?_
    refine b_iload_n C dX12_read_22 1 rfl rfl ?_
    refine b_aload_n C dX12_read_23 0 rfl rfl ?_
    obtain ⟨r62, er62, hf⟩ := ob_s hf
    refine b_gR C dX12_read_24 fl_X12_13 h3 er62 ?_
    refine b_iload_n C dX12_read_27 1 rfl rfl ?_
    obtain ⟨h63, hf⟩ := gd_s hf
    obtain ⟨h64, hf⟩ := gd_s hf
    refine b_bald C h63 h64 dX12_read_28 ?_
    obtain ⟨h65, hf⟩ := gd_s hf
    obtain ⟨h66, hf⟩ := gd_s hf
    obtain ⟨d67, ed67, hf⟩ := bd_s hf
    refine b_bast C h65 h66 ed67 dX12_read_29 ?_
    obtain ⟨u68, eu68, hf⟩ := bd_s hf
    refine b_iinc C dX12_read_30 1 rfl (by rw [eu68]; rfl) [(1, .int u68), (0, .ref (ad B x0))] (by decide) rfl ?_
    refine b_goto C (tgt := 10) dX12_read_33 (by decide) ?_
    refine b_sub [(0, .ref (ad B x0)), (1, .int u68)] [1, 0] rfl ?_
    exact hK10 (u68, d67) hf
def fX12_read_L10 (N : Nat) (g : Gs) (x0 : Nat) : Int32 × Ds → Option (Int32 × Ds) := lp (fun K10 a => fX12_read_B10 N g x0 K10 a.1 a.2) N
theorem tX12_read_L10 {p : Program} {l : Launch} {e : Env} {s : State} {m : MethodId} {args : Array Value} {below : List Frame} {meth : Method} {c : Code} {D : va_G} {cy : Nat → ClassId} {B : Bs} (C : Cx p s m args c cX12_read 2 RX12 D cy B) (hr : meth.sig.returnType = (some .int)) (hlocks : meth.locks = false) {N : Nat} {g : Gs} {x0 : Nat} {vz : Int32} {dz : Ds} (a : Int32 × Ds) (hf : fX12_read_L10 N g x0 a = some (vz, dz)) : WB p l e rmX12_read s m args below meth c 2 D cy B 0 0 (MQ below (QI D cy B vz g dz) args s 0 0 (wA B)) g a.2 [(0, .ref (ad B x0)), (1, .int a.1)] 10 [] :=
  lp_w (fun K10 hK10 a ha => tX12_read_10 C hr hlocks hK10 ha) N a hf
set_option maxRecDepth 100000 in
def fX12_read (N : Nat) (g : Gs) (x0 : Nat) (d : Ds) : Option (Int32 × Ds) := gd (chk g x0 11) <| bd (sI d x0 4 (dI d x0 2)) fun d2 => (fX12_read_L10 N g x0 (0, d2))
set_option maxHeartbeats 4000000 in
set_option maxRecDepth 100000 in
theorem tX12_read_E {p : Program} {l : Launch} {e : Env} {s : State} {m : MethodId} {args : Array Value} {below : List Frame} {meth : Method} {c : Code} {D : va_G} {cy : Nat → ClassId} {B : Bs} (C : Cx p s m args c cX12_read 2 RX12 D cy B) (hr : meth.sig.returnType = (some .int)) (hlocks : meth.locks = false) {N : Nat} {g : Gs} {x0 : Nat} {vz : Int32} {dz : Ds} {d : Ds} (hf : fX12_read N g x0 d = some (vz, dz)) : WB p l e rmX12_read s m args below meth c 2 D cy B 0 0 (MQ below (QI D cy B vz g dz) args s 0 0 (wA B)) g d [(0, .ref (ad B x0))] 0 [] := by
  unfold fX12_read at hf
  refine b_aload_n C dX12_read_0 0 rfl rfl ?_
  refine b_aload_n C dX12_read_1 0 rfl rfl ?_
  obtain ⟨h1, hf⟩ := gd_s hf
  refine b_gI C dX12_read_2 fl_X12_90 h1 ?_
  obtain ⟨d2, ed2, hf⟩ := bd_s hf
  refine b_pI C dX12_read_5 fl_X12_97 fp11_4 h1 ed2 ?_
  refine b_iconst C (v := 0) dX12_read_8 (by decide) ?_
  refine b_istore_n C dX12_read_9 rfl [(1, .int 0), (0, .ref (ad B x0))] (by decide) rfl ?_
  refine b_sub [(0, .ref (ad B x0)), (1, .int 0)] [1, 0] rfl ?_
  exact tX12_read_L10 C hr hlocks (0, d2) hf
theorem kX12_read (l : Launch) (D : va_G) (cy : Nat → ClassId) (B : Bs) {N : Nat} {g : Gs} {x0 : Nat} {vz : Int32} {dz : Ds} {d : Ds} (hf : fX12_read N g x0 d = some (vz, dz)) : Met l yX12_read (.code yX12_read cX12_read 2 (some .int) :: wl) rmX12_read (PC D cy B [.ref (ad B x0)] g d) (QI D cy B vz g dz) 0 0 (wA B) :=
  met_of (by decide +kernel) (Nat.le_of_ble_eq_true rfl) (fun p e s m args below meth c C hr hlocks _ => b_sub [(0, .ref (ad B x0))] [0] rfl (tX12_read_E C hr hlocks hf))
