/-! KeyMatrix$Tokens.placeAt(I)I -/
theorem dX8_placeAt_0 : decode cX8_placeAt 0 = .ok (.iload_n 1, 1) := by decide +kernel
theorem dX8_placeAt_1 : decode cX8_placeAt 1 = .ok (.ifCond .lt 20, 3) := by decide +kernel
theorem dX8_placeAt_4 : decode cX8_placeAt 4 = .ok (.iload_n 1, 1) := by decide +kernel
theorem dX8_placeAt_5 : decode cX8_placeAt 5 = .ok (.aload_n 0, 1) := by decide +kernel
theorem dX8_placeAt_6 : decode cX8_placeAt 6 = .ok (.getfield 25, 3) := by decide +kernel
theorem dX8_placeAt_9 : decode cX8_placeAt 9 = .ok (.if_icmp .ge 12, 3) := by decide +kernel
theorem dX8_placeAt_12 : decode cX8_placeAt 12 = .ok (.aload_n 0, 1) := by decide +kernel
theorem dX8_placeAt_13 : decode cX8_placeAt 13 = .ok (.getfield 13, 3) := by decide +kernel
theorem dX8_placeAt_16 : decode cX8_placeAt 16 = .ok (.iload_n 1, 1) := by decide +kernel
theorem dX8_placeAt_17 : decode cX8_placeAt 17 = .ok (.iaload, 1) := by decide +kernel
theorem dX8_placeAt_18 : decode cX8_placeAt 18 = .ok (.goto 7, 3) := by decide +kernel
theorem dX8_placeAt_21 : decode cX8_placeAt 21 = .ok (.aload_n 0, 1) := by decide +kernel
theorem dX8_placeAt_22 : decode cX8_placeAt 22 = .ok (.getfield 29, 3) := by decide +kernel
theorem dX8_placeAt_25 : decode cX8_placeAt 25 = .ok (.ireturn, 1) := by decide +kernel
def rmX8_placeAt : Room := { frames := 0, cells := 0, slots := 0, locals := 0 }
set_option maxRecDepth 100000 in
def fX8_placeAt_J25 (N : Nat) (g : Gs) (x0 : Nat) (x1 : Int32) (z0 : Int32) (d : Ds) : Option (Int32 × Ds) := some (z0, d)
set_option maxHeartbeats 4000000 in
set_option maxRecDepth 100000 in
theorem tX8_placeAt_25 {p : Program} {l : Launch} {e : Env} {s : State} {m : MethodId} {args : Array Value} {below : List Frame} {meth : Method} {c : Code} {D : va_G} {cy : Nat → ClassId} {B : Bs} (C : Cx p s m args c cX8_placeAt 2 RX8 D cy B) (hr : meth.sig.returnType = (some .int)) (hlocks : meth.locks = false) {N : Nat} {g : Gs} {x0 : Nat} {x1 : Int32} {vz : Int32} {dz : Ds} {z0 : Int32} {d : Ds} (hf : fX8_placeAt_J25 N g x0 x1 z0 d = some (vz, dz)) : WB p l e rmX8_placeAt s m args below meth c 2 D cy B 0 0 (MQ below (QI D cy B vz g dz) args s 0 0 (wA B)) g d [(0, .ref (ad B x0)), (1, .int x1)] 25 [.int z0] := by
  unfold fX8_placeAt_J25 at hf
  exact b_iret C hr hlocks hf dX8_placeAt_25
set_option maxRecDepth 100000 in
def fX8_placeAt_J21 (N : Nat) (g : Gs) (x0 : Nat) (x1 : Int32) (d : Ds) : Option (Int32 × Ds) := gd (chk g x0 8) <| fX8_placeAt_J25 N g x0 x1 (dI d x0 5) d
set_option maxHeartbeats 4000000 in
set_option maxRecDepth 100000 in
theorem tX8_placeAt_21 {p : Program} {l : Launch} {e : Env} {s : State} {m : MethodId} {args : Array Value} {below : List Frame} {meth : Method} {c : Code} {D : va_G} {cy : Nat → ClassId} {B : Bs} (C : Cx p s m args c cX8_placeAt 2 RX8 D cy B) (hr : meth.sig.returnType = (some .int)) (hlocks : meth.locks = false) {N : Nat} {g : Gs} {x0 : Nat} {x1 : Int32} {vz : Int32} {dz : Ds} {d : Ds} (hf : fX8_placeAt_J21 N g x0 x1 d = some (vz, dz)) : WB p l e rmX8_placeAt s m args below meth c 2 D cy B 0 0 (MQ below (QI D cy B vz g dz) args s 0 0 (wA B)) g d [(0, .ref (ad B x0)), (1, .int x1)] 21 [] := by
  unfold fX8_placeAt_J21 at hf
  refine b_aload_n C dX8_placeAt_21 0 rfl rfl ?_
  obtain ⟨h2, hf⟩ := gd_s hf
  refine b_gI C dX8_placeAt_22 fl_X8_29 h2 ?_
  refine b_sub [(0, .ref (ad B x0)), (1, .int x1)] [0, 1] rfl ?_
  exact tX8_placeAt_25 C hr hlocks hf
set_option maxRecDepth 100000 in
def fX8_placeAt (N : Nat) (g : Gs) (x0 : Nat) (x1 : Int32) (d : Ds) : Option (Int32 × Ds) := if x1 < 0 then (fX8_placeAt_J21 N g x0 x1 d) else (gd (chk g x0 8) <| if (dI d x0 4) ≤ x1 then (fX8_placeAt_J21 N g x0 x1 d) else (ob (gR g x0 1) fun r5 => (gd (chk g r5 102) <| gd (¬ (x1 < 0 ∨ gL g r5 ≤ x1.toNatClampNeg)) <| fX8_placeAt_J25 N g x0 x1 (dI d r5 x1.toNatClampNeg) d)))
set_option maxHeartbeats 4000000 in
set_option maxRecDepth 100000 in
theorem tX8_placeAt_E {p : Program} {l : Launch} {e : Env} {s : State} {m : MethodId} {args : Array Value} {below : List Frame} {meth : Method} {c : Code} {D : va_G} {cy : Nat → ClassId} {B : Bs} (C : Cx p s m args c cX8_placeAt 2 RX8 D cy B) (hr : meth.sig.returnType = (some .int)) (hlocks : meth.locks = false) {N : Nat} {g : Gs} {x0 : Nat} {x1 : Int32} {vz : Int32} {dz : Ds} {d : Ds} (hf : fX8_placeAt N g x0 x1 d = some (vz, dz)) : WB p l e rmX8_placeAt s m args below meth c 2 D cy B 0 0 (MQ below (QI D cy B vz g dz) args s 0 0 (wA B)) g d [(0, .ref (ad B x0)), (1, .int x1)] 0 [] := by
  unfold fX8_placeAt at hf
  refine b_iload_n C dX8_placeAt_0 1 rfl rfl ?_
  refine b_if_lt C (tgt := 21) dX8_placeAt_1 (by decide) (fun c1 => ?_) (fun c1 => ?_)
  · have hf := it_s c1 hf
    refine b_sub [(0, .ref (ad B x0)), (1, .int x1)] [0, 1] rfl ?_
    exact tX8_placeAt_21 C hr hlocks hf
  · have hf := if_s c1 hf
    refine b_iload_n C dX8_placeAt_4 1 rfl rfl ?_
    refine b_aload_n C dX8_placeAt_5 0 rfl rfl ?_
    obtain ⟨h3, hf⟩ := gd_s hf
    refine b_gI C dX8_placeAt_6 fl_X8_25 h3 ?_
    refine b_icmp_ge C (tgt := 21) dX8_placeAt_9 (by decide) (fun c4 => ?_) (fun c4 => ?_)
    · have hf := it_s c4 hf
      refine b_sub [(0, .ref (ad B x0)), (1, .int x1)] [0, 1] rfl ?_
      exact tX8_placeAt_21 C hr hlocks hf
    · have hf := if_s c4 hf
      refine b_aload_n C dX8_placeAt_12 0 rfl rfl ?_
      obtain ⟨r5, er5, hf⟩ := ob_s hf
      refine b_gR C dX8_placeAt_13 fl_X8_13 h3 er5 ?_
      refine b_iload_n C dX8_placeAt_16 1 rfl rfl ?_
      obtain ⟨h6, hf⟩ := gd_s hf
      obtain ⟨h7, hf⟩ := gd_s hf
      refine b_iald C h6 h7 dX8_placeAt_17 ?_
      refine b_goto C (tgt := 25) dX8_placeAt_18 (by decide) ?_
      refine b_sub [(0, .ref (ad B x0)), (1, .int x1)] [0, 1] rfl ?_
      exact tX8_placeAt_25 C hr hlocks hf
theorem kX8_placeAt (l : Launch) (D : va_G) (cy : Nat → ClassId) (B : Bs) {N : Nat} {g : Gs} {x0 : Nat} {x1 : Int32} {vz : Int32} {dz : Ds} {d : Ds} (hf : fX8_placeAt N g x0 x1 d = some (vz, dz)) : Met l yX8_placeAt (.code yX8_placeAt cX8_placeAt 2 (some .int) :: wl) rmX8_placeAt (PC D cy B [.ref (ad B x0), .int x1] g d) (QI D cy B vz g dz) 0 0 (wA B) :=
  met_of (by decide +kernel) (Nat.le_of_ble_eq_true rfl) (fun p e s m args below meth c C hr hlocks _ => b_sub [(0, .ref (ad B x0)), (1, .int x1)] [0, 1] rfl (tX8_placeAt_E C hr hlocks hf))
/-! KeyMatrix$TextReader.readTape([BI)I -/
theorem yo_X8_cut : yX8_cut.cls ≠ "java/lang/invoke/MethodHandle" ∧ yX8_cut.cls ≠ "java/lang/invoke/VarHandle" ∧ (parseMethodDescriptor yX8_cut.desc).map (fun d => d.parameters.length) = some 2 := by decide +kernel
theorem co_X8_cut : Cond.code yX8_cut cX8_cut 5 none ∈ wl := mW (mT3 (List.mem_of_getElem? (i := 44) (by decide +kernel))) rfl
theorem in_X8_cut : Cond.initialized yX8_cut.cls ∈ wl := mW (mT1 (List.mem_of_getElem? (i := 3) (by decide +kernel))) rfl
theorem im_X8_cut : Cond.instanceMethod yX8_cut ∈ wl := mW (mT3 (List.mem_of_getElem? (i := 42) (by decide +kernel))) rfl
theorem se_X8_cut : Cond.selects yX8_cut.cls yX8_cut yX8_cut ∈ wl := mW (mT3 (List.mem_of_getElem? (i := 43) (by decide +kernel))) rfl
theorem lv_X7_32 : LV RX7 32 yX8_cut cX8_cut 5 none 2 8 := ⟨⟨(RX8, TX8, 6), rfl, rfl⟩, yo_X8_cut, mW (mT3 (List.mem_of_getElem? (i := 41) (by decide +kernel))) rfl, im_X8_cut, se_X8_cut, in_X8_cut, co_X8_cut⟩
theorem lv_X7_36 : LV RX7 36 yX0_clear cX0_clear 2 none 0 0 := ⟨⟨(RX0, TX0, 19), rfl, rfl⟩, yo_X0_clear, mW (mT3 (List.mem_of_getElem? (i := 116) (by decide +kernel))) rfl, im_X0_clear, se_X0_clear, in_X0_clear, co_X0_clear⟩
theorem yo_X7_takeBoard : yX7_takeBoard.cls ≠ "java/lang/invoke/MethodHandle" ∧ yX7_takeBoard.cls ≠ "java/lang/invoke/VarHandle" ∧ (parseMethodDescriptor yX7_takeBoard.desc).map (fun d => d.parameters.length) = some 0 := by decide +kernel
theorem co_X7_takeBoard : Cond.code yX7_takeBoard cX7_takeBoard 1 (some .boolean) ∈ wl := mW (mT3 (List.mem_of_getElem? (i := 120) (by decide +kernel))) rfl
theorem in_X7_takeBoard : Cond.initialized yX7_takeBoard.cls ∈ wl := mW (mT1 (List.mem_of_getElem? (i := 2) (by decide +kernel))) rfl
theorem im_X7_takeBoard : Cond.instanceMethod yX7_takeBoard ∈ wl := mW (mT3 (List.mem_of_getElem? (i := 119) (by decide +kernel))) rfl
theorem se_X7_takeBoard : Cond.selects yX7_takeBoard.cls yX7_takeBoard yX7_takeBoard ∈ wl := mW (mT0 (List.mem_of_getElem? (i := 5) (by decide +kernel))) rfl
theorem lv_X7_49 : LV RX7 49 yX7_takeBoard cX7_takeBoard 1 (some .boolean) 0 7 := ⟨⟨(RX7, TX7, 10), rfl, rfl⟩, yo_X7_takeBoard, mW (mT3 (List.mem_of_getElem? (i := 117) (by decide +kernel))) rfl, im_X7_takeBoard, se_X7_takeBoard, in_X7_takeBoard, co_X7_takeBoard⟩
theorem yo_X8_placeAt : yX8_placeAt.cls ≠ "java/lang/invoke/MethodHandle" ∧ yX8_placeAt.cls ≠ "java/lang/invoke/VarHandle" ∧ (parseMethodDescriptor yX8_placeAt.desc).map (fun d => d.parameters.length) = some 1 := by decide +kernel
theorem co_X8_placeAt : Cond.code yX8_placeAt cX8_placeAt 2 (some .int) ∈ wl := mW (mT4 (List.mem_of_getElem? (i := 10) (by decide +kernel))) rfl
theorem in_X8_placeAt : Cond.initialized yX8_placeAt.cls ∈ wl := mW (mT1 (List.mem_of_getElem? (i := 3) (by decide +kernel))) rfl
theorem im_X8_placeAt : Cond.instanceMethod yX8_placeAt ∈ wl := mW (mT4 (List.mem_of_getElem? (i := 8) (by decide +kernel))) rfl
theorem se_X8_placeAt : Cond.selects yX8_placeAt.cls yX8_placeAt yX8_placeAt ∈ wl := mW (mT4 (List.mem_of_getElem? (i := 9) (by decide +kernel))) rfl
theorem lv_X7_66 : LV RX7 66 yX8_placeAt cX8_placeAt 2 (some .int) 1 8 := ⟨⟨(RX8, TX8, 6), rfl, rfl⟩, yo_X8_placeAt, mW (mT4 (List.mem_of_getElem? (i := 7) (by decide +kernel))) rfl, im_X8_placeAt, se_X8_placeAt, in_X8_placeAt, co_X8_placeAt⟩
theorem fl_X7_69 : FLI RX7 69 7 7 := ⟨⟨RX7, TX7, 10, rfl, by decide, inl7, Or.inl (mW (mT1 (List.mem_of_getElem? (i := 213) (by decide +kernel))) rfl)⟩, by decide, by decide +kernel⟩
theorem fp7_7 : FPI 7 7 := ⟨ft7, (RX7, TX7, 10), rfl, by decide +kernel, by decide +kernel⟩
theorem yo_X7_takeLine : yX7_takeLine.cls ≠ "java/lang/invoke/MethodHandle" ∧ yX7_takeLine.cls ≠ "java/lang/invoke/VarHandle" ∧ (parseMethodDescriptor yX7_takeLine.desc).map (fun d => d.parameters.length) = some 0 := by decide +kernel
theorem co_X7_takeLine : Cond.code yX7_takeLine cX7_takeLine 3 (some .boolean) ∈ wl := mW (mT3 (List.mem_of_getElem? (i := 154) (by decide +kernel))) rfl
theorem in_X7_takeLine : Cond.initialized yX7_takeLine.cls ∈ wl := mW (mT1 (List.mem_of_getElem? (i := 2) (by decide +kernel))) rfl
theorem im_X7_takeLine : Cond.instanceMethod yX7_takeLine ∈ wl := mW (mT3 (List.mem_of_getElem? (i := 153) (by decide +kernel))) rfl
theorem se_X7_takeLine : Cond.selects yX7_takeLine.cls yX7_takeLine yX7_takeLine ∈ wl := mW (mT0 (List.mem_of_getElem? (i := 10) (by decide +kernel))) rfl
theorem lv_X7_57 : LV RX7 57 yX7_takeLine cX7_takeLine 3 (some .boolean) 0 7 := ⟨⟨(RX7, TX7, 10), rfl, rfl⟩, yo_X7_takeLine, mW (mT3 (List.mem_of_getElem? (i := 151) (by decide +kernel))) rfl, im_X7_takeLine, se_X7_takeLine, in_X7_takeLine, co_X7_takeLine⟩
theorem dX7_readTape_0 : decode cX7_readTape 0 = .ok (.aload_n 0, 1) := by decide +kernel
theorem dX7_readTape_1 : decode cX7_readTape 1 = .ok (.getfield 12, 3) := by decide +kernel
theorem dX7_readTape_4 : decode cX7_readTape 4 = .ok (.aload_n 1, 1) := by decide +kernel
theorem dX7_readTape_5 : decode cX7_readTape 5 = .ok (.iload_n 2, 1) := by decide +kernel
theorem dX7_readTape_6 : decode cX7_readTape 6 = .ok (.invokevirtual 32, 3) := by decide +kernel
theorem dX7_readTape_9 : decode cX7_readTape 9 = .ok (.aload_n 0, 1) := by decide +kernel
theorem dX7_readTape_10 : decode cX7_readTape 10 = .ok (.getfield 28, 3) := by decide +kernel
theorem dX7_readTape_13 : decode cX7_readTape 13 = .ok (.invokevirtual 36, 3) := by decide +kernel
theorem dX7_readTape_16 : decode cX7_readTape 16 = .ok (.aload_n 0, 1) := by decide +kernel
theorem dX7_readTape_17 : decode cX7_readTape 17 = .ok (.iconst 0, 1) := by decide +kernel
theorem dX7_readTape_18 : decode cX7_readTape 18 = .ok (.putfield 39, 3) := by decide +kernel
theorem dX7_readTape_21 : decode cX7_readTape 21 = .ok (.aload_n 0, 1) := by decide +kernel
theorem dX7_readTape_22 : decode cX7_readTape 22 = .ok (.iconst 0, 1) := by decide +kernel
theorem dX7_readTape_23 : decode cX7_readTape 23 = .ok (.putfield 43, 3) := by decide +kernel
theorem dX7_readTape_26 : decode cX7_readTape 26 = .ok (.aload_n 0, 1) := by decide +kernel
theorem dX7_readTape_27 : decode cX7_readTape 27 = .ok (.iconst 0, 1) := by decide +kernel
theorem dX7_readTape_28 : decode cX7_readTape 28 = .ok (.putfield 46, 3) := by decide +kernel
theorem dX7_readTape_31 : decode cX7_readTape 31 = .ok (.aload_n 0, 1) := by decide +kernel
theorem dX7_readTape_32 : decode cX7_readTape 32 = .ok (.invokevirtual 49, 3) := by decide +kernel
theorem dX7_readTape_35 : decode cX7_readTape 35 = .ok (.istore_n 3, 1) := by decide +kernel
theorem dX7_readTape_36 : decode cX7_readTape 36 = .ok (.iconst 0, 1) := by decide +kernel
theorem dX7_readTape_37 : decode cX7_readTape 37 = .ok (.istore 4, 2) := by decide +kernel
theorem dX7_readTape_39 : decode cX7_readTape 39 = .ok (.iload 4, 2) := by decide +kernel
theorem dX7_readTape_41 : decode cX7_readTape 41 = .ok (.sipush 400, 3) := by decide +kernel
theorem dX7_readTape_44 : decode cX7_readTape 44 = .ok (.if_icmp .gt 32, 3) := by decide +kernel
theorem dX7_readTape_47 : decode cX7_readTape 47 = .ok (.iload_n 3, 1) := by decide +kernel
theorem dX7_readTape_48 : decode cX7_readTape 48 = .ok (.ifCond .eq 28, 3) := by decide +kernel
theorem dX7_readTape_51 : decode cX7_readTape 51 = .ok (.aload_n 0, 1) := by decide +kernel
theorem dX7_readTape_52 : decode cX7_readTape 52 = .ok (.getfield 12, 3) := by decide +kernel
theorem dX7_readTape_55 : decode cX7_readTape 55 = .ok (.aload_n 0, 1) := by decide +kernel
theorem dX7_readTape_56 : decode cX7_readTape 56 = .ok (.getfield 39, 3) := by decide +kernel
theorem dX7_readTape_59 : decode cX7_readTape 59 = .ok (.invokevirtual 53, 3) := by decide +kernel
theorem dX7_readTape_62 : decode cX7_readTape 62 = .ok (.ifCond .eq 14, 3) := by decide +kernel
theorem dX7_readTape_65 : decode cX7_readTape 65 = .ok (.aload_n 0, 1) := by decide +kernel
theorem dX7_readTape_66 : decode cX7_readTape 66 = .ok (.invokevirtual 57, 3) := by decide +kernel
theorem dX7_readTape_69 : decode cX7_readTape 69 = .ok (.istore_n 3, 1) := by decide +kernel
theorem dX7_readTape_70 : decode cX7_readTape 70 = .ok (.iinc 4 1, 3) := by decide +kernel
theorem dX7_readTape_73 : decode cX7_readTape 73 = .ok (.goto (-34), 3) := by decide +kernel
theorem dX7_readTape_76 : decode cX7_readTape 76 = .ok (.aload_n 0, 1) := by decide +kernel
theorem dX7_readTape_77 : decode cX7_readTape 77 = .ok (.getfield 43, 3) := by decide +kernel
theorem dX7_readTape_80 : decode cX7_readTape 80 = .ok (.ifCond .ne 19, 3) := by decide +kernel
theorem dX7_readTape_83 : decode cX7_readTape 83 = .ok (.aload_n 0, 1) := by decide +kernel
theorem dX7_readTape_84 : decode cX7_readTape 84 = .ok (.aload_n 0, 1) := by decide +kernel
theorem dX7_readTape_85 : decode cX7_readTape 85 = .ok (.getfield 46, 3) := by decide +kernel
theorem dX7_readTape_88 : decode cX7_readTape 88 = .ok (.putfield 43, 3) := by decide +kernel
theorem dX7_readTape_91 : decode cX7_readTape 91 = .ok (.aload_n 0, 1) := by decide +kernel
theorem dX7_readTape_92 : decode cX7_readTape 92 = .ok (.aload_n 0, 1) := by decide +kernel
theorem dX7_readTape_93 : decode cX7_readTape 93 = .ok (.getfield 60, 3) := by decide +kernel
theorem dX7_readTape_96 : decode cX7_readTape 96 = .ok (.putfield 63, 3) := by decide +kernel
theorem dX7_readTape_99 : decode cX7_readTape 99 = .ok (.aload_n 0, 1) := by decide +kernel
theorem dX7_readTape_100 : decode cX7_readTape 100 = .ok (.aload_n 0, 1) := by decide +kernel
theorem dX7_readTape_101 : decode cX7_readTape 101 = .ok (.getfield 43, 3) := by decide +kernel
theorem dX7_readTape_104 : decode cX7_readTape 104 = .ok (.ifCond .ne 7, 3) := by decide +kernel
theorem dX7_readTape_107 : decode cX7_readTape 107 = .ok (.iconst (-1), 1) := by decide +kernel
theorem dX7_readTape_108 : decode cX7_readTape 108 = .ok (.goto 14, 3) := by decide +kernel
theorem dX7_readTape_111 : decode cX7_readTape 111 = .ok (.aload_n 0, 1) := by decide +kernel
theorem dX7_readTape_112 : decode cX7_readTape 112 = .ok (.getfield 12, 3) := by decide +kernel
theorem dX7_readTape_115 : decode cX7_readTape 115 = .ok (.aload_n 0, 1) := by decide +kernel
theorem dX7_readTape_116 : decode cX7_readTape 116 = .ok (.getfield 63, 3) := by decide +kernel
theorem dX7_readTape_119 : decode cX7_readTape 119 = .ok (.invokevirtual 66, 3) := by decide +kernel
theorem dX7_readTape_122 : decode cX7_readTape 122 = .ok (.putfield 69, 3) := by decide +kernel
theorem dX7_readTape_125 : decode cX7_readTape 125 = .ok (.aload_n 0, 1) := by decide +kernel
theorem dX7_readTape_126 : decode cX7_readTape 126 = .ok (.getfield 43, 3) := by decide +kernel
theorem dX7_readTape_129 : decode cX7_readTape 129 = .ok (.ireturn, 1) := by decide +kernel
def rmX7_readTape : Room := { frames := 7, cells := 0, slots := 0, locals := 160 }
set_option maxRecDepth 100000 in
def fX7_readTape_J122 (N : Nat) (g : Gs) (x0 : Nat) (x1 : Nat) (x2 : Int32) (z0 : Int32) (z1 : Nat) (d : Ds) : Option (Int32 × Ds) := gd (chk g z1 7) <| bd (sI d z1 7 z0) fun d27 => (gd (chk g x0 7) <| some ((dI d27 x0 5), d27))
set_option maxHeartbeats 4000000 in
set_option maxRecDepth 100000 in
theorem tX7_readTape_122 {p : Program} {l : Launch} {e : Env} {s : State} {m : MethodId} {args : Array Value} {below : List Frame} {meth : Method} {c : Code} {D : va_G} {cy : Nat → ClassId} {B : Bs} (C : Cx p s m args c cX7_readTape 5 RX7 D cy B) (hr : meth.sig.returnType = (some .int)) (hlocks : meth.locks = false) {N : Nat} {g : Gs} {x0 : Nat} {x1 : Nat} {x2 : Int32} {vz : Int32} {dz : Ds} {z0 : Int32} {z1 : Nat} {d : Ds} (hf : fX7_readTape_J122 N g x0 x1 x2 z0 z1 d = some (vz, dz)) : WB p l e rmX7_readTape s m args below meth c 5 D cy B 0 0 (MQ below (QI D cy B vz g dz) args s 0 0 (wA B)) g d [(0, .ref (ad B x0)), (1, .ref (ad B x1)), (2, .int x2)] 122 [.int z0, .ref (ad B z1)] := by
  unfold fX7_readTape_J122 at hf
  obtain ⟨h26, hf⟩ := gd_s hf
  obtain ⟨d27, ed27, hf⟩ := bd_s hf
  refine b_pI C dX7_readTape_122 fl_X7_69 fp7_7 h26 ed27 ?_
  refine b_aload_n C dX7_readTape_125 0 rfl rfl ?_
  obtain ⟨h28, hf⟩ := gd_s hf
  refine b_gI C dX7_readTape_126 fl_X7_43 h28 ?_
  exact b_iret C hr hlocks hf dX7_readTape_129
set_option maxRecDepth 100000 in
def fX7_readTape_J99 (N : Nat) (g : Gs) (x0 : Nat) (x1 : Nat) (x2 : Int32) (d : Ds) : Option (Int32 × Ds) := gd (chk g x0 7) <| if (dI d x0 5) = 0 then (fX7_readTape_J122 N g x0 x1 x2 (-1) x0 d) else (ob (gR g x0 0) fun r21 => (gd (chk g r21 8) <| cb (fX8_placeAt N g r21 (dI d x0 6) d) fun u25 d23 => (fX7_readTape_J122 N g x0 x1 x2 u25 x0 d23)))
set_option maxHeartbeats 4000000 in
set_option maxRecDepth 100000 in
theorem tX7_readTape_99 {p : Program} {l : Launch} {e : Env} {s : State} {m : MethodId} {args : Array Value} {below : List Frame} {meth : Method} {c : Code} {D : va_G} {cy : Nat → ClassId} {B : Bs} (C : Cx p s m args c cX7_readTape 5 RX7 D cy B) (hr : meth.sig.returnType = (some .int)) (hlocks : meth.locks = false) {N : Nat} {g : Gs} {x0 : Nat} {x1 : Nat} {x2 : Int32} {vz : Int32} {dz : Ds} {d : Ds} (hf : fX7_readTape_J99 N g x0 x1 x2 d = some (vz, dz)) : WB p l e rmX7_readTape s m args below meth c 5 D cy B 0 0 (MQ below (QI D cy B vz g dz) args s 0 0 (wA B)) g d [(0, .ref (ad B x0)), (1, .ref (ad B x1)), (2, .int x2)] 99 [] := by
  unfold fX7_readTape_J99 at hf
  refine b_aload_n C dX7_readTape_99 0 rfl rfl ?_
  refine b_aload_n C dX7_readTape_100 0 rfl rfl ?_
  obtain ⟨h19, hf⟩ := gd_s hf
  refine b_gI C dX7_readTape_101 fl_X7_43 h19 ?_
  refine b_if_ne C (tgt := 111) dX7_readTape_104 (by decide) (fun c20 => ?_) (fun c20 => ?_)
  · have hf := if_s c20 hf
    refine b_aload_n C dX7_readTape_111 0 rfl rfl ?_
    obtain ⟨r21, er21, hf⟩ := ob_s hf
    refine b_gR C dX7_readTape_112 fl_X7_12 h19 er21 ?_
    refine b_aload_n C dX7_readTape_115 0 rfl rfl ?_
    refine b_gI C dX7_readTape_116 fl_X7_63 h19 ?_
    obtain ⟨h22, hf⟩ := gd_s hf
    obtain ⟨u25, d23, k24, hf⟩ := cb_s hf
    refine b_cVI C [.ref (ad B x0)] dX7_readTape_119 (kX8_placeAt l D cy B k24) lv_X7_66 ⟨rfl, rfl, Nat.le_of_ble_eq_true rfl, Nat.le_of_ble_eq_true rfl⟩ h22 (by decide) rfl (Nat.le_of_ble_eq_true rfl) ⟨Nat.zero_le _, Nat.zero_le _⟩ rfl ?_
    refine b_sub [(0, .ref (ad B x0)), (1, .ref (ad B x1)), (2, .int x2)] [0, 1, 2] rfl ?_
    exact tX7_readTape_122 C hr hlocks hf
  · have hf := it_s c20 hf
    refine b_iconst C (v := (-1)) dX7_readTape_107 (by decide) ?_
    refine b_goto C (tgt := 122) dX7_readTape_108 (by decide) ?_
    refine b_sub [(0, .ref (ad B x0)), (1, .ref (ad B x1)), (2, .int x2)] [0, 1, 2] rfl ?_
    exact tX7_readTape_122 C hr hlocks hf
set_option maxRecDepth 100000 in
def fX7_readTape_J76 (N : Nat) (g : Gs) (x0 : Nat) (x1 : Nat) (x2 : Int32) (d : Ds) : Option (Int32 × Ds) := gd (chk g x0 7) <| if (dI d x0 5) = 0 then (bd (sI d x0 5 (dI d x0 8)) fun d29 => (bd (sI d29 x0 6 (dI d29 x0 9)) fun d30 => (fX7_readTape_J99 N g x0 x1 x2 d30))) else (fX7_readTape_J99 N g x0 x1 x2 d)
set_option maxHeartbeats 4000000 in
set_option maxRecDepth 100000 in
theorem tX7_readTape_76 {p : Program} {l : Launch} {e : Env} {s : State} {m : MethodId} {args : Array Value} {below : List Frame} {meth : Method} {c : Code} {D : va_G} {cy : Nat → ClassId} {B : Bs} (C : Cx p s m args c cX7_readTape 5 RX7 D cy B) (hr : meth.sig.returnType = (some .int)) (hlocks : meth.locks = false) {N : Nat} {g : Gs} {x0 : Nat} {x1 : Nat} {x2 : Int32} {vz : Int32} {dz : Ds} {d : Ds} (hf : fX7_readTape_J76 N g x0 x1 x2 d = some (vz, dz)) : WB p l e rmX7_readTape s m args below meth c 5 D cy B 0 0 (MQ below (QI D cy B vz g dz) args s 0 0 (wA B)) g d [(0, .ref (ad B x0)), (1, .ref (ad B x1)), (2, .int x2)] 76 [] := by
  unfold fX7_readTape_J76 at hf
  refine b_aload_n C dX7_readTape_76 0 rfl rfl ?_
  obtain ⟨h17, hf⟩ := gd_s hf
  refine b_gI C dX7_readTape_77 fl_X7_43 h17 ?_
  refine b_if_ne C (tgt := 99) dX7_readTape_80 (by decide) (fun c18 => ?_) (fun c18 => ?_)
  · have hf := if_s c18 hf
    refine b_sub [(0, .ref (ad B x0)), (1, .ref (ad B x1)), (2, .int x2)] [0, 1, 2] rfl ?_
    exact tX7_readTape_99 C hr hlocks hf
  · have hf := it_s c18 hf
    refine b_aload_n C dX7_readTape_83 0 rfl rfl ?_
    refine b_aload_n C dX7_readTape_84 0 rfl rfl ?_
    refine b_gI C dX7_readTape_85 fl_X7_46 h17 ?_
    obtain ⟨d29, ed29, hf⟩ := bd_s hf
    refine b_pI C dX7_readTape_88 fl_X7_43 fp7_5 h17 ed29 ?_
    refine b_aload_n C dX7_readTape_91 0 rfl rfl ?_
    refine b_aload_n C dX7_readTape_92 0 rfl rfl ?_
    refine b_gI C dX7_readTape_93 fl_X7_60 h17 ?_
    obtain ⟨d30, ed30, hf⟩ := bd_s hf
    refine b_pI C dX7_readTape_96 fl_X7_63 fp7_6 h17 ed30 ?_
    refine b_sub [(0, .ref (ad B x0)), (1, .ref (ad B x1)), (2, .int x2)] [0, 1, 2] rfl ?_
    exact tX7_readTape_99 C hr hlocks hf
set_option maxRecDepth 100000 in
def fX7_readTape_B39 (N : Nat) (g : Gs) (x0 : Nat) (x1 : Nat) (x2 : Int32) (K39 : Int32 × Int32 × Ds → Option (Int32 × Ds)) (y3 : Int32) (y4 : Int32) (d : Ds) : Option (Int32 × Ds) := if (400 : Int32) < y4 then (fX7_readTape_J76 N g x0 x1 x2 d) else (if y3 = 0 then (fX7_readTape_J76 N g x0 x1 x2 d) else (gd (chk g x0 7) <| ob (gR g x0 0) fun r33 => (gd (chk g r33 8) <| cb (fX8_kindAt N g r33 (dI d x0 3) d) fun u37 d35 => (if u37 = 0 then (fX7_readTape_J76 N g x0 x1 x2 d35) else (cb (fX7_takeLine N g x0 d35) fun u41 d39 => (bd (y4 + 1) fun u42 => (K39 (u41, u42, d39))))))))
set_option maxHeartbeats 4000000 in
set_option maxRecDepth 100000 in
theorem tX7_readTape_39 {p : Program} {l : Launch} {e : Env} {s : State} {m : MethodId} {args : Array Value} {below : List Frame} {meth : Method} {c : Code} {D : va_G} {cy : Nat → ClassId} {B : Bs} (C : Cx p s m args c cX7_readTape 5 RX7 D cy B) (hr : meth.sig.returnType = (some .int)) (hlocks : meth.locks = false) {N : Nat} {g : Gs} {x0 : Nat} {x1 : Nat} {x2 : Int32} {vz : Int32} {dz : Ds} {K39 : Int32 × Int32 × Ds → Option (Int32 × Ds)} (hK39 : ∀ a, K39 a = some (vz, dz) → WB p l e rmX7_readTape s m args below meth c 5 D cy B 0 0 (MQ below (QI D cy B vz g dz) args s 0 0 (wA B)) g a.2.2 [(0, .ref (ad B x0)), (1, .ref (ad B x1)), (2, .int x2), (3, .int a.1), (4, .int a.2.1)] 39 []) {y3 : Int32} {y4 : Int32} {d : Ds} (hf : fX7_readTape_B39 N g x0 x1 x2 K39 y3 y4 d = some (vz, dz)) : WB p l e rmX7_readTape s m args below meth c 5 D cy B 0 0 (MQ below (QI D cy B vz g dz) args s 0 0 (wA B)) g d [(0, .ref (ad B x0)), (1, .ref (ad B x1)), (2, .int x2), (3, .int y3), (4, .int y4)] 39 [] := by
  unfold fX7_readTape_B39 at hf
  refine b_iload C dX7_readTape_39 4 rfl ?_
  refine b_sipush C (v := 400) dX7_readTape_41 (by decide) ?_
  refine b_icmp_gt C (tgt := 76) dX7_readTape_44 (by decide) (fun c16 => ?_) (fun c16 => ?_)
  · have hf := it_s c16 hf
    refine b_sub [(0, .ref (ad B x0)), (1, .ref (ad B x1)), (2, .int x2)] [0, 1, 2] rfl ?_
    exact tX7_readTape_76 C hr hlocks hf
  · have hf := if_s c16 hf
    refine b_iload_n C dX7_readTape_47 3 rfl rfl ?_
    refine b_if_eq C (tgt := 76) dX7_readTape_48 (by decide) (fun c31 => ?_) (fun c31 => ?_)
    · have hf := it_s c31 hf
      refine b_sub [(0, .ref (ad B x0)), (1, .ref (ad B x1)), (2, .int x2)] [0, 1, 2] rfl ?_
      exact tX7_readTape_76 C hr hlocks hf
    · have hf := if_s c31 hf
      refine b_aload_n C dX7_readTape_51 0 rfl rfl ?_
      obtain ⟨h32, hf⟩ := gd_s hf
      obtain ⟨r33, er33, hf⟩ := ob_s hf
      refine b_gR C dX7_readTape_52 fl_X7_12 h32 er33 ?_
      refine b_aload_n C dX7_readTape_55 0 rfl rfl ?_
      refine b_gI C dX7_readTape_56 fl_X7_39 h32 ?_
      obtain ⟨h34, hf⟩ := gd_s hf
      obtain ⟨u37, d35, k36, hf⟩ := cb_s hf
      refine b_cVI C [] dX7_readTape_59 (kX8_kindAt l D cy B k36) lv_X7_53 ⟨rfl, rfl, Nat.le_of_ble_eq_true rfl, Nat.le_of_ble_eq_true rfl⟩ h34 (by decide) rfl (Nat.le_of_ble_eq_true rfl) ⟨Nat.zero_le _, Nat.zero_le _⟩ rfl ?_
      refine b_if_eq C (tgt := 76) dX7_readTape_62 (by decide) (fun c38 => ?_) (fun c38 => ?_)
      · have hf := it_s c38 hf
        refine b_sub [(0, .ref (ad B x0)), (1, .ref (ad B x1)), (2, .int x2)] [0, 1, 2] rfl ?_
        exact tX7_readTape_76 C hr hlocks hf
      · have hf := if_s c38 hf
        refine b_aload_n C dX7_readTape_65 0 rfl rfl ?_
        obtain ⟨u41, d39, k40, hf⟩ := cb_s hf
        refine b_cVI C [] dX7_readTape_66 (kX7_takeLine l D cy B k40) lv_X7_57 ⟨rfl, rfl, Nat.le_of_ble_eq_true rfl, Nat.le_of_ble_eq_true rfl⟩ h32 (by decide) rfl (Nat.le_of_ble_eq_true rfl) ⟨Nat.zero_le _, Nat.zero_le _⟩ rfl ?_
        refine b_istore_n C dX7_readTape_69 rfl [(3, .int u41), (0, .ref (ad B x0)), (1, .ref (ad B x1)), (2, .int x2), (4, .int y4)] (by decide) rfl ?_
        obtain ⟨u42, eu42, hf⟩ := bd_s hf
        refine b_iinc C dX7_readTape_70 4 rfl (by rw [eu42]; rfl) [(4, .int u42), (3, .int u41), (0, .ref (ad B x0)), (1, .ref (ad B x1)), (2, .int x2)] (by decide) rfl ?_
        refine b_goto C (tgt := 39) dX7_readTape_73 (by decide) ?_
        refine b_sub [(0, .ref (ad B x0)), (1, .ref (ad B x1)), (2, .int x2), (3, .int u41), (4, .int u42)] [2, 3, 4, 1, 0] rfl ?_
        exact hK39 (u41, u42, d39) hf
def fX7_readTape_L39 (N : Nat) (g : Gs) (x0 : Nat) (x1 : Nat) (x2 : Int32) : Int32 × Int32 × Ds → Option (Int32 × Ds) := lp (fun K39 a => fX7_readTape_B39 N g x0 x1 x2 K39 a.1 a.2.1 a.2.2) N
theorem tX7_readTape_L39 {p : Program} {l : Launch} {e : Env} {s : State} {m : MethodId} {args : Array Value} {below : List Frame} {meth : Method} {c : Code} {D : va_G} {cy : Nat → ClassId} {B : Bs} (C : Cx p s m args c cX7_readTape 5 RX7 D cy B) (hr : meth.sig.returnType = (some .int)) (hlocks : meth.locks = false) {N : Nat} {g : Gs} {x0 : Nat} {x1 : Nat} {x2 : Int32} {vz : Int32} {dz : Ds} (a : Int32 × Int32 × Ds) (hf : fX7_readTape_L39 N g x0 x1 x2 a = some (vz, dz)) : WB p l e rmX7_readTape s m args below meth c 5 D cy B 0 0 (MQ below (QI D cy B vz g dz) args s 0 0 (wA B)) g a.2.2 [(0, .ref (ad B x0)), (1, .ref (ad B x1)), (2, .int x2), (3, .int a.1), (4, .int a.2.1)] 39 [] :=
  lp_w (fun K39 hK39 a ha => tX7_readTape_39 C hr hlocks hK39 ha) N a hf
set_option maxRecDepth 100000 in
def fX7_readTape (N : Nat) (g : Gs) (x0 : Nat) (x1 : Nat) (x2 : Int32) (d : Ds) : Option (Int32 × Ds) := gd (chk g x0 7) <| ob (gR g x0 0) fun r2 => (gd (chk g r2 8) <| cv (fX8_cut N g r2 x1 x2 d) fun d4 => (ob (gR g x0 2) fun r6 => (gd (chk g r6 0) <| cv (fX0_clear N g r6 d4) fun d8 => (bd (sI d8 x0 3 0) fun d10 => (bd (sI d10 x0 5 0) fun d11 => (bd (sI d11 x0 8 0) fun d12 => (cb (fX7_takeBoard N g x0 d12) fun u15 d13 => (fX7_readTape_L39 N g x0 x1 x2 (u15, 0, d13)))))))))
set_option maxHeartbeats 4000000 in
set_option maxRecDepth 100000 in
theorem tX7_readTape_E {p : Program} {l : Launch} {e : Env} {s : State} {m : MethodId} {args : Array Value} {below : List Frame} {meth : Method} {c : Code} {D : va_G} {cy : Nat → ClassId} {B : Bs} (C : Cx p s m args c cX7_readTape 5 RX7 D cy B) (hr : meth.sig.returnType = (some .int)) (hlocks : meth.locks = false) {N : Nat} {g : Gs} {x0 : Nat} {x1 : Nat} {x2 : Int32} {vz : Int32} {dz : Ds} {d : Ds} (hf : fX7_readTape N g x0 x1 x2 d = some (vz, dz)) : WB p l e rmX7_readTape s m args below meth c 5 D cy B 0 0 (MQ below (QI D cy B vz g dz) args s 0 0 (wA B)) g d [(0, .ref (ad B x0)), (1, .ref (ad B x1)), (2, .int x2)] 0 [] := by
  unfold fX7_readTape at hf
  refine b_aload_n C dX7_readTape_0 0 rfl rfl ?_
  obtain ⟨h1, hf⟩ := gd_s hf
  obtain ⟨r2, er2, hf⟩ := ob_s hf
  refine b_gR C dX7_readTape_1 fl_X7_12 h1 er2 ?_
  refine b_aload_n C dX7_readTape_4 1 rfl rfl ?_
  refine b_iload_n C dX7_readTape_5 2 rfl rfl ?_
  obtain ⟨h3, hf⟩ := gd_s hf
  obtain ⟨d4, k5, hf⟩ := cv_s hf
  refine b_cVN C [] dX7_readTape_6 (kX8_cut l D cy B k5) lv_X7_32 ⟨rfl, rfl, Nat.le_of_ble_eq_true rfl, Nat.le_of_ble_eq_true rfl⟩ h3 (by decide) rfl (Nat.le_of_ble_eq_true rfl) ⟨Nat.zero_le _, Nat.zero_le _⟩ rfl ?_
  refine b_aload_n C dX7_readTape_9 0 rfl rfl ?_
  obtain ⟨r6, er6, hf⟩ := ob_s hf
  refine b_gR C dX7_readTape_10 fl_X7_28 h1 er6 ?_
  obtain ⟨h7, hf⟩ := gd_s hf
  obtain ⟨d8, k9, hf⟩ := cv_s hf
  refine b_cVN C [] dX7_readTape_13 (kX0_clear l D cy B k9) lv_X7_36 ⟨rfl, rfl, Nat.le_of_ble_eq_true rfl, Nat.le_of_ble_eq_true rfl⟩ h7 (by decide) rfl (Nat.le_of_ble_eq_true rfl) ⟨Nat.zero_le _, Nat.zero_le _⟩ rfl ?_
  refine b_aload_n C dX7_readTape_16 0 rfl rfl ?_
  refine b_iconst C (v := 0) dX7_readTape_17 (by decide) ?_
  obtain ⟨d10, ed10, hf⟩ := bd_s hf
  refine b_pI C dX7_readTape_18 fl_X7_39 fp7_3 h1 ed10 ?_
  refine b_aload_n C dX7_readTape_21 0 rfl rfl ?_
  refine b_iconst C (v := 0) dX7_readTape_22 (by decide) ?_
  obtain ⟨d11, ed11, hf⟩ := bd_s hf
  refine b_pI C dX7_readTape_23 fl_X7_43 fp7_5 h1 ed11 ?_
  refine b_aload_n C dX7_readTape_26 0 rfl rfl ?_
  refine b_iconst C (v := 0) dX7_readTape_27 (by decide) ?_
  obtain ⟨d12, ed12, hf⟩ := bd_s hf
  refine b_pI C dX7_readTape_28 fl_X7_46 fp7_8 h1 ed12 ?_
  refine b_aload_n C dX7_readTape_31 0 rfl rfl ?_
  obtain ⟨u15, d13, k14, hf⟩ := cb_s hf
  refine b_cVI C [] dX7_readTape_32 (kX7_takeBoard l D cy B k14) lv_X7_49 ⟨rfl, rfl, Nat.le_of_ble_eq_true rfl, Nat.le_of_ble_eq_true rfl⟩ h1 (by decide) rfl (Nat.le_of_ble_eq_true rfl) ⟨Nat.zero_le _, Nat.zero_le _⟩ rfl ?_
  refine b_istore_n C dX7_readTape_35 rfl [(3, .int u15), (0, .ref (ad B x0)), (1, .ref (ad B x1)), (2, .int x2)] (by decide) rfl ?_
  refine b_iconst C (v := 0) dX7_readTape_36 (by decide) ?_
  refine b_istore C dX7_readTape_37 [(4, .int 0), (3, .int u15), (0, .ref (ad B x0)), (1, .ref (ad B x1)), (2, .int x2)] (by decide) rfl ?_
  refine b_sub [(0, .ref (ad B x0)), (1, .ref (ad B x1)), (2, .int x2), (3, .int u15), (4, .int 0)] [2, 3, 4, 1, 0] rfl ?_
  exact tX7_readTape_L39 C hr hlocks (u15, 0, d13) hf
theorem kX7_readTape (l : Launch) (D : va_G) (cy : Nat → ClassId) (B : Bs) {N : Nat} {g : Gs} {x0 : Nat} {x1 : Nat} {x2 : Int32} {vz : Int32} {dz : Ds} {d : Ds} (hf : fX7_readTape N g x0 x1 x2 d = some (vz, dz)) : Met l yX7_readTape (.code yX7_readTape cX7_readTape 5 (some .int) :: wl) rmX7_readTape (PC D cy B [.ref (ad B x0), .ref (ad B x1), .int x2] g d) (QI D cy B vz g dz) 0 0 (wA B) :=
  met_of (by decide +kernel) (Nat.le_of_ble_eq_true rfl) (fun p e s m args below meth c C hr hlocks _ => b_sub [(0, .ref (ad B x0)), (1, .ref (ad B x1)), (2, .int x2)] [0, 1, 2] rfl (tX7_readTape_E C hr hlocks hf))
/-! KeyMatrix$Wiring.<init>()V -/
theorem oi_X9_3 : Cond.methodLink RX9 3 objectInit ∈ wl := mW (mT2 (List.mem_of_getElem? (i := 5) (by decide +kernel))) rfl
theorem inl9 : ∀ w ∈ u_ws RX9 TX9 4, w ∈ wl := by
  have h0 : u_ws RX9 TX9 4 = [Cond.laysFinal "KeyMatrix$Wiring" "KeyMatrix$Wiring" "partOf" "[I", Cond.lays "KeyMatrix$Wiring" "KeyMatrix$Wiring" "parts" "I", Cond.lays "KeyMatrix$Wiring" "KeyMatrix$Wiring" "seen" "I", Cond.lays "KeyMatrix$Wiring" "KeyMatrix$Wiring" "barred" "I"] := by decide +kernel
  rw [h0]
  exact List.forall_mem_cons.mpr ⟨mW (mT2 (List.mem_of_getElem? (i := 13) (by decide +kernel))) rfl, List.forall_mem_cons.mpr ⟨mW (mT2 (List.mem_of_getElem? (i := 15) (by decide +kernel))) rfl, List.forall_mem_cons.mpr ⟨mW (mT2 (List.mem_of_getElem? (i := 17) (by decide +kernel))) rfl, List.forall_mem_cons.mpr ⟨mW (mT2 (List.mem_of_getElem? (i := 19) (by decide +kernel))) rfl, fun _ h => absurd h List.not_mem_nil⟩⟩⟩⟩
theorem fq_X9_9 : FLP RX9 9 9 0 := ⟨⟨RX9, TX9, 4, rfl, by decide, inl9, mW (mT2 (List.mem_of_getElem? (i := 6) (by decide +kernel))) rfl⟩, by decide, by decide +kernel⟩
theorem ft9 : FT 9 := ⟨RX9, TX9, 4, tyX9, rfl, tyX9_ok, nmX9⟩
theorem fr9_0 : FPR 9 0 RX9 := ⟨ft9, (RX9, TX9, 4), rfl, by decide +kernel, rfl, fun ty h a => by rw [tyX9_ok 0 (by decide)] at h; cases h; exact ⟨rfl, rfl⟩⟩
theorem dX9_init_0 : decode cX9_init 0 = .ok (.aload_n 0, 1) := by decide +kernel
theorem dX9_init_1 : decode cX9_init 1 = .ok (.invokespecial 3, 3) := by decide +kernel
theorem dX9_init_4 : decode cX9_init 4 = .ok (.aload_n 0, 1) := by decide +kernel
theorem dX9_init_5 : decode cX9_init 5 = .ok (.bipush 10, 2) := by decide +kernel
theorem dX9_init_7 : decode cX9_init 7 = .ok (.newarray .int, 2) := by decide +kernel
theorem dX9_init_9 : decode cX9_init 9 = .ok (.putfield 9, 3) := by decide +kernel
theorem dX9_init_12 : decode cX9_init 12 = .ok (.return_, 1) := by decide +kernel
def rmX9_init : Room := { frames := 1, cells := 1, slots := 10, locals := 20 }
set_option maxRecDepth 100000 in
def fX9_init_E (N : Nat) (x0 : Nat) (n0 s0 : Nat) (g : Gs) (d : Ds) : Option (Gs × Ds) := gd (¬ (10 : Int32) < 0) <| gd ((10 : Int32).toNatClampNeg ≤ 60000000) <| gd (gN g < 100000) <| gd (gN g + 1 - n0 ≤ 1 ∧ gS g + (10 : Int32).toNatClampNeg - s0 ≤ 10) <| bd (nG g 102 (10 : Int32).toNatClampNeg (10 : Int32).toNatClampNeg) fun g5 => (bd (nD g d) fun d6 => (bd (gN g) fun r7 => (gd (chk g5 x0 9) <| bd (sR g5 x0 0 r7) fun g10 => (gd (gN g10 = n0 + 1 ∧ gS g10 = s0 + 10) <| some (g10, d6)))))
def fX9_init (N : Nat) (x0 : Nat) (g : Gs) (d : Ds) : Option (Gs × Ds) := fX9_init_E N x0 (gN g) (gS g) g d
set_option maxHeartbeats 4000000 in
set_option maxRecDepth 100000 in
theorem tX9_init_E {p : Program} {l : Launch} {e : Env} {s : State} {m : MethodId} {args : Array Value} {below : List Frame} {meth : Method} {c : Code} {D : va_G} {cy : Nat → ClassId} {B : Bs} (C : Cx p s m args c cX9_init 1 RX9 D cy B) (hr : meth.sig.returnType = none) (hlocks : meth.locks = false) (hin : meth.name = "<init>") {n0 s0 : Nat} (hz : s.heap.size = B.1 + n0) {N : Nat} {x0 : Nat} {gz : Gs} {dz : Ds} {g : Gs} {d : Ds} (hn : n0 ≤ gN g) (hs : s0 ≤ gS g) (hf : fX9_init_E N x0 n0 s0 g d = some (gz, dz)) : WB p l e rmX9_init s m args below meth c 1 D cy B (gN g - n0) (gS g - s0) (MQ below (QV D cy B gz dz) args s 1 10 (wA B)) g d [(0, .ref (ad B x0))] 0 [] := by
  unfold fX9_init_E at hf
  refine b_aload_n C dX9_init_0 0 rfl rfl ?_
  refine b_objInit C oi_X9_3 oi_i oi_c (by decide) (by decide) dX9_init_1 ?_
  refine b_aload_n C dX9_init_4 0 rfl rfl ?_
  refine b_bipush C (v := 10) dX9_init_5 (by decide) ?_
  obtain ⟨h1, hf⟩ := gd_s hf
  obtain ⟨h2, hf⟩ := gd_s hf
  obtain ⟨h3, hf⟩ := gd_s hf
  obtain ⟨h4, hf⟩ := gd_s hf
  obtain ⟨g5, eg5, hf⟩ := bd_s hf
  obtain ⟨d6, ed6, hf⟩ := bd_s hf
  obtain ⟨r7, er7, hf⟩ := bd_s hf
  refine b_newaI C dX9_init_7 ar_int hz hn hs h3 h1 h2 h4 eg5 ed6 (fun hn8 hn8s => ?_)
  refine b_topR er7 ?_
  obtain ⟨h9, hf⟩ := gd_s hf
  obtain ⟨g10, eg10, hf⟩ := bd_s hf
  refine b_pRC C dX9_init_9 fq_X9_9 fr9_0 hin h9 eg10 ?_
  have hn11 : n0 ≤ gN g10 := by rw [eg10]; exact hn8
  have hn11s : s0 ≤ gS g10 := by rw [eg10]; exact hn8s
  obtain ⟨h12, hf⟩ := gd_s hf
  exact b_vretC C hr hlocks h12 hf dX9_init_12
theorem kX9_init (l : Launch) (D : va_G) (cy : Nat → ClassId) (B : Bs) {N : Nat} {g : Gs} {x0 : Nat} {gz : Gs} {dz : Ds} {d : Ds} (hf : fX9_init N x0 g d = some (gz, dz)) : Met l yX9_init (.code yX9_init cX9_init 1 none :: wl) rmX9_init (PCC D cy B [.ref (ad B x0)] g d) (QV D cy B gz dz) 1 10 (wA B) :=
  met_ofC (by decide +kernel) (Nat.le_of_ble_eq_true rfl) (fun p e s m args below meth c C hr hlocks hin hz => b_sub [(0, .ref (ad B x0))] [0] rfl (tX9_init_E C hr hlocks hin hz (Nat.le_refl _) (Nat.le_refl _) hf))
/-! KeyMatrix$Wiring.join(LKeyMatrix$Board;I)V -/
theorem fl_X9_9 : FLR RX9 9 9 0 := ⟨⟨RX9, TX9, 4, rfl, by decide, inl9, Or.inl (mW (mT2 (List.mem_of_getElem? (i := 6) (by decide +kernel))) rfl)⟩, by decide, by decide +kernel⟩
theorem fl_X9_39 : FLI RX9 39 0 0 := ⟨⟨RX0, TX0, 19, rfl, by decide, inl0, Or.inr (mT1 (List.mem_of_getElem? (i := 109) (by decide +kernel)))⟩, by decide, by decide +kernel⟩
theorem fl_X9_36 : FLI RX9 36 0 1 := ⟨⟨RX0, TX0, 19, rfl, by decide, inl0, Or.inr (mT1 (List.mem_of_getElem? (i := 113) (by decide +kernel)))⟩, by decide, by decide +kernel⟩
theorem fl_X9_45 : FLI RX9 45 9 1 := ⟨⟨RX9, TX9, 4, rfl, by decide, inl9, Or.inl (mW (mT2 (List.mem_of_getElem? (i := 7) (by decide +kernel))) rfl)⟩, by decide, by decide +kernel⟩
theorem fp9_1 : FPI 9 1 := ⟨ft9, (RX9, TX9, 4), rfl, by decide +kernel, by decide +kernel⟩
theorem lv_X9_32 : LV RX9 32 yX0_hasKey cX0_hasKey 2 (some .boolean) 1 0 := ⟨⟨(RX0, TX0, 19), rfl, rfl⟩, yo_X0_hasKey, mW (mT4 (List.mem_of_getElem? (i := 43) (by decide +kernel))) rfl, im_X0_hasKey, se_X0_hasKey, in_X0_hasKey, co_X0_hasKey⟩
theorem lv_X9_48 : LSt RX9 48 yX11_isIn cX11_isIn 2 (some .boolean) 2 := ⟨yo_X11_isIn, Or.inr (mT4 (List.mem_of_getElem? (i := 44) (by decide +kernel))), st_X11_isIn, in_X11_isIn, co_X11_isIn⟩
theorem dX9_join_0 : decode cX9_join 0 = .ok (.iconst 0, 1) := by decide +kernel
theorem dX9_join_1 : decode cX9_join 1 = .ok (.istore_n 3, 1) := by decide +kernel
theorem dX9_join_2 : decode cX9_join 2 = .ok (.iload_n 3, 1) := by decide +kernel
theorem dX9_join_3 : decode cX9_join 3 = .ok (.aload_n 0, 1) := by decide +kernel
theorem dX9_join_4 : decode cX9_join 4 = .ok (.getfield 9, 3) := by decide +kernel
theorem dX9_join_7 : decode cX9_join 7 = .ok (.arraylength, 1) := by decide +kernel
theorem dX9_join_8 : decode cX9_join 8 = .ok (.if_icmp .ge 16, 3) := by decide +kernel
theorem dX9_join_11 : decode cX9_join 11 = .ok (.aload_n 0, 1) := by decide +kernel
theorem dX9_join_12 : decode cX9_join 12 = .ok (.getfield 9, 3) := by decide +kernel
theorem dX9_join_15 : decode cX9_join 15 = .ok (.iload_n 3, 1) := by decide +kernel
theorem dX9_join_16 : decode cX9_join 16 = .ok (.iload_n 3, 1) := by decide +kernel
theorem dX9_join_17 : decode cX9_join 17 = .ok (.iastore, 1) := by decide +kernel
theorem dX9_join_18 : decode cX9_join 18 = .ok (.iinc 3 1, 3) := by decide +kernel
theorem dX9_join_21 : decode cX9_join 21 = .ok (.goto (-19), 3) := by decide +kernel
theorem dX9_join_24 : decode cX9_join 24 = .ok (.aload_n 0, 1) := by decide +kernel
theorem dX9_join_25 : decode cX9_join 25 = .ok (.aload_n 1, 1) := by decide +kernel
theorem dX9_join_26 : decode cX9_join 26 = .ok (.getfield 39, 3) := by decide +kernel
theorem dX9_join_29 : decode cX9_join 29 = .ok (.aload_n 1, 1) := by decide +kernel
theorem dX9_join_30 : decode cX9_join 30 = .ok (.getfield 36, 3) := by decide +kernel
theorem dX9_join_33 : decode cX9_join 33 = .ok (.iadd, 1) := by decide +kernel
theorem dX9_join_34 : decode cX9_join 34 = .ok (.putfield 45, 3) := by decide +kernel
theorem dX9_join_37 : decode cX9_join 37 = .ok (.iconst 0, 1) := by decide +kernel
theorem dX9_join_38 : decode cX9_join 38 = .ok (.istore_n 3, 1) := by decide +kernel
theorem dX9_join_39 : decode cX9_join 39 = .ok (.aload_n 1, 1) := by decide +kernel
theorem dX9_join_40 : decode cX9_join 40 = .ok (.iload_n 3, 1) := by decide +kernel
theorem dX9_join_41 : decode cX9_join 41 = .ok (.invokevirtual 32, 3) := by decide +kernel
theorem dX9_join_44 : decode cX9_join 44 = .ok (.ifCond .eq 108, 3) := by decide +kernel
theorem dX9_join_47 : decode cX9_join 47 = .ok (.iload_n 3, 1) := by decide +kernel
theorem dX9_join_48 : decode cX9_join 48 = .ok (.bipush 24, 2) := by decide +kernel
theorem dX9_join_50 : decode cX9_join 50 = .ok (.if_icmp .ge 102, 3) := by decide +kernel
theorem dX9_join_53 : decode cX9_join 53 = .ok (.aload_n 0, 1) := by decide +kernel
theorem dX9_join_54 : decode cX9_join 54 = .ok (.getfield 9, 3) := by decide +kernel
theorem dX9_join_57 : decode cX9_join 57 = .ok (.iconst 4, 1) := by decide +kernel
theorem dX9_join_58 : decode cX9_join 58 = .ok (.iload_n 3, 1) := by decide +kernel
theorem dX9_join_59 : decode cX9_join 59 = .ok (.aload_n 1, 1) := by decide +kernel
theorem dX9_join_60 : decode cX9_join 60 = .ok (.getfield 36, 3) := by decide +kernel
theorem dX9_join_63 : decode cX9_join 63 = .ok (.irem, 1) := by decide +kernel
theorem dX9_join_64 : decode cX9_join 64 = .ok (.iadd, 1) := by decide +kernel
theorem dX9_join_65 : decode cX9_join 65 = .ok (.iaload, 1) := by decide +kernel
theorem dX9_join_66 : decode cX9_join 66 = .ok (.istore 4, 2) := by decide +kernel
theorem dX9_join_68 : decode cX9_join 68 = .ok (.aload_n 0, 1) := by decide +kernel
theorem dX9_join_69 : decode cX9_join 69 = .ok (.getfield 9, 3) := by decide +kernel
theorem dX9_join_72 : decode cX9_join 72 = .ok (.iload_n 3, 1) := by decide +kernel
theorem dX9_join_73 : decode cX9_join 73 = .ok (.aload_n 1, 1) := by decide +kernel
theorem dX9_join_74 : decode cX9_join 74 = .ok (.getfield 36, 3) := by decide +kernel
theorem dX9_join_77 : decode cX9_join 77 = .ok (.idiv, 1) := by decide +kernel
theorem dX9_join_78 : decode cX9_join 78 = .ok (.iaload, 1) := by decide +kernel
theorem dX9_join_79 : decode cX9_join 79 = .ok (.istore 5, 2) := by decide +kernel
theorem dX9_join_81 : decode cX9_join 81 = .ok (.iload_n 2, 1) := by decide +kernel
theorem dX9_join_82 : decode cX9_join 82 = .ok (.iload_n 3, 1) := by decide +kernel
theorem dX9_join_83 : decode cX9_join 83 = .ok (.invokestatic 48, 3) := by decide +kernel
theorem dX9_join_86 : decode cX9_join 86 = .ok (.ifCond .eq 60, 3) := by decide +kernel
theorem dX9_join_89 : decode cX9_join 89 = .ok (.iload 4, 2) := by decide +kernel
theorem dX9_join_91 : decode cX9_join 91 = .ok (.iload 5, 2) := by decide +kernel
theorem dX9_join_93 : decode cX9_join 93 = .ok (.if_icmp .eq 53, 3) := by decide +kernel
theorem dX9_join_96 : decode cX9_join 96 = .ok (.aload_n 0, 1) := by decide +kernel
theorem dX9_join_97 : decode cX9_join 97 = .ok (.dup, 1) := by decide +kernel
theorem dX9_join_98 : decode cX9_join 98 = .ok (.getfield 45, 3) := by decide +kernel
theorem dX9_join_101 : decode cX9_join 101 = .ok (.iconst 1, 1) := by decide +kernel
theorem dX9_join_102 : decode cX9_join 102 = .ok (.isub, 1) := by decide +kernel
theorem dX9_join_103 : decode cX9_join 103 = .ok (.putfield 45, 3) := by decide +kernel
theorem dX9_join_106 : decode cX9_join 106 = .ok (.iconst 0, 1) := by decide +kernel
theorem dX9_join_107 : decode cX9_join 107 = .ok (.istore 6, 2) := by decide +kernel
theorem dX9_join_109 : decode cX9_join 109 = .ok (.iload 6, 2) := by decide +kernel
theorem dX9_join_111 : decode cX9_join 111 = .ok (.aload_n 0, 1) := by decide +kernel
theorem dX9_join_112 : decode cX9_join 112 = .ok (.getfield 9, 3) := by decide +kernel
theorem dX9_join_115 : decode cX9_join 115 = .ok (.arraylength, 1) := by decide +kernel
theorem dX9_join_116 : decode cX9_join 116 = .ok (.if_icmp .ge 30, 3) := by decide +kernel
theorem dX9_join_119 : decode cX9_join 119 = .ok (.aload_n 0, 1) := by decide +kernel
theorem dX9_join_120 : decode cX9_join 120 = .ok (.getfield 9, 3) := by decide +kernel
theorem dX9_join_123 : decode cX9_join 123 = .ok (.iload 6, 2) := by decide +kernel
theorem dX9_join_125 : decode cX9_join 125 = .ok (.iaload, 1) := by decide +kernel
theorem dX9_join_126 : decode cX9_join 126 = .ok (.iload 4, 2) := by decide +kernel
theorem dX9_join_128 : decode cX9_join 128 = .ok (.if_icmp .ne 12, 3) := by decide +kernel
theorem dX9_join_131 : decode cX9_join 131 = .ok (.aload_n 0, 1) := by decide +kernel
theorem dX9_join_132 : decode cX9_join 132 = .ok (.getfield 9, 3) := by decide +kernel
theorem dX9_join_135 : decode cX9_join 135 = .ok (.iload 6, 2) := by decide +kernel
theorem dX9_join_137 : decode cX9_join 137 = .ok (.iload 5, 2) := by decide +kernel
theorem dX9_join_139 : decode cX9_join 139 = .ok (.iastore, 1) := by decide +kernel
theorem dX9_join_140 : decode cX9_join 140 = .ok (.iinc 6 1, 3) := by decide +kernel
theorem dX9_join_143 : decode cX9_join 143 = .ok (.goto (-34), 3) := by decide +kernel
theorem dX9_join_146 : decode cX9_join 146 = .ok (.iinc 3 1, 3) := by decide +kernel
theorem dX9_join_149 : decode cX9_join 149 = .ok (.goto (-110), 3) := by decide +kernel
theorem dX9_join_152 : decode cX9_join 152 = .ok (.return_, 1) := by decide +kernel
def rmX9_join : Room := { frames := 2, cells := 0, slots := 0, locals := 41 }
set_option maxRecDepth 100000 in
def fX9_join_J152 (N : Nat) (g : Gs) (x0 : Nat) (x1 : Nat) (x2 : Int32) (d : Ds) : Option (Unit × Ds) := some ((), d)
set_option maxHeartbeats 4000000 in
set_option maxRecDepth 100000 in
theorem tX9_join_152 {p : Program} {l : Launch} {e : Env} {s : State} {m : MethodId} {args : Array Value} {below : List Frame} {meth : Method} {c : Code} {D : va_G} {cy : Nat → ClassId} {B : Bs} (C : Cx p s m args c cX9_join 7 RX9 D cy B) (hr : meth.sig.returnType = none) (hlocks : meth.locks = false) {N : Nat} {g : Gs} {x0 : Nat} {x1 : Nat} {x2 : Int32}  {dz : Ds} {d : Ds} (hf : fX9_join_J152 N g x0 x1 x2 d = some ((), dz)) : WB p l e rmX9_join s m args below meth c 7 D cy B 0 0 (MQ below (QV D cy B g dz) args s 0 0 (wA B)) g d [(0, .ref (ad B x0)), (1, .ref (ad B x1)), (2, .int x2)] 152 [] := by
  unfold fX9_join_J152 at hf
  exact b_vret C hr hlocks hf dX9_join_152
set_option maxRecDepth 100000 in
def fX9_join_J146 (N : Nat) (g : Gs) (x0 : Nat) (x1 : Nat) (x2 : Int32) (K39 : Int32 × Ds → Option (Unit × Ds)) (y3 : Int32) (d : Ds) : Option (Unit × Ds) := bd (y3 + 1) fun u25 => (K39 (u25, d))
set_option maxHeartbeats 4000000 in
set_option maxRecDepth 100000 in
theorem tX9_join_146 {p : Program} {l : Launch} {e : Env} {s : State} {m : MethodId} {args : Array Value} {below : List Frame} {meth : Method} {c : Code} {D : va_G} {cy : Nat → ClassId} {B : Bs} (C : Cx p s m args c cX9_join 7 RX9 D cy B) (hr : meth.sig.returnType = none) (hlocks : meth.locks = false) {N : Nat} {g : Gs} {x0 : Nat} {x1 : Nat} {x2 : Int32}  {dz : Ds} {K39 : Int32 × Ds → Option (Unit × Ds)} (hK39 : ∀ a, K39 a = some ((), dz) → WB p l e rmX9_join s m args below meth c 7 D cy B 0 0 (MQ below (QV D cy B g dz) args s 0 0 (wA B)) g a.2 [(0, .ref (ad B x0)), (1, .ref (ad B x1)), (2, .int x2), (3, .int a.1)] 39 []) {y3 : Int32} {d : Ds} (hf : fX9_join_J146 N g x0 x1 x2 K39 y3 d = some ((), dz)) : WB p l e rmX9_join s m args below meth c 7 D cy B 0 0 (MQ below (QV D cy B g dz) args s 0 0 (wA B)) g d [(0, .ref (ad B x0)), (1, .ref (ad B x1)), (2, .int x2), (3, .int y3)] 146 [] := by
  unfold fX9_join_J146 at hf
  obtain ⟨u25, eu25, hf⟩ := bd_s hf
  refine b_iinc C dX9_join_146 3 rfl (by rw [eu25]; rfl) [(3, .int u25), (0, .ref (ad B x0)), (1, .ref (ad B x1)), (2, .int x2)] (by decide) rfl ?_
  refine b_goto C (tgt := 39) dX9_join_149 (by decide) ?_
  refine b_sub [(0, .ref (ad B x0)), (1, .ref (ad B x1)), (2, .int x2), (3, .int u25)] [1, 2, 3, 0] rfl ?_
  exact hK39 (u25, d) hf
set_option maxRecDepth 100000 in
def fX9_join_J140 (N : Nat) (g : Gs) (x0 : Nat) (x1 : Nat) (x2 : Int32) (K39 : Int32 × Ds → Option (Unit × Ds)) (K109 : Int32 × Int32 × Int32 × Int32 × Ds → Option (Unit × Ds)) (y3 : Int32) (y4 : Int32) (y5 : Int32) (y6 : Int32) (d : Ds) : Option (Unit × Ds) := bd (y6 + 1) fun u34 => (K109 (y3, y4, y5, u34, d))
set_option maxHeartbeats 4000000 in
set_option maxRecDepth 100000 in
theorem tX9_join_140 {p : Program} {l : Launch} {e : Env} {s : State} {m : MethodId} {args : Array Value} {below : List Frame} {meth : Method} {c : Code} {D : va_G} {cy : Nat → ClassId} {B : Bs} (C : Cx p s m args c cX9_join 7 RX9 D cy B) (hr : meth.sig.returnType = none) (hlocks : meth.locks = false) {N : Nat} {g : Gs} {x0 : Nat} {x1 : Nat} {x2 : Int32}  {dz : Ds} {K39 : Int32 × Ds → Option (Unit × Ds)} {K109 : Int32 × Int32 × Int32 × Int32 × Ds → Option (Unit × Ds)} (hK39 : ∀ a, K39 a = some ((), dz) → WB p l e rmX9_join s m args below meth c 7 D cy B 0 0 (MQ below (QV D cy B g dz) args s 0 0 (wA B)) g a.2 [(0, .ref (ad B x0)), (1, .ref (ad B x1)), (2, .int x2), (3, .int a.1)] 39 []) (hK109 : ∀ a, K109 a = some ((), dz) → WB p l e rmX9_join s m args below meth c 7 D cy B 0 0 (MQ below (QV D cy B g dz) args s 0 0 (wA B)) g a.2.2.2.2 [(0, .ref (ad B x0)), (1, .ref (ad B x1)), (2, .int x2), (3, .int a.1), (4, .int a.2.1), (5, .int a.2.2.1), (6, .int a.2.2.2.1)] 109 []) {y3 : Int32} {y4 : Int32} {y5 : Int32} {y6 : Int32} {d : Ds} (hf : fX9_join_J140 N g x0 x1 x2 K39 K109 y3 y4 y5 y6 d = some ((), dz)) : WB p l e rmX9_join s m args below meth c 7 D cy B 0 0 (MQ below (QV D cy B g dz) args s 0 0 (wA B)) g d [(0, .ref (ad B x0)), (1, .ref (ad B x1)), (2, .int x2), (3, .int y3), (4, .int y4), (5, .int y5), (6, .int y6)] 140 [] := by
  unfold fX9_join_J140 at hf
  obtain ⟨u34, eu34, hf⟩ := bd_s hf
  refine b_iinc C dX9_join_140 6 rfl (by rw [eu34]; rfl) [(6, .int u34), (0, .ref (ad B x0)), (1, .ref (ad B x1)), (2, .int x2), (3, .int y3), (4, .int y4), (5, .int y5)] (by decide) rfl ?_
  refine b_goto C (tgt := 109) dX9_join_143 (by decide) ?_
  refine b_sub [(0, .ref (ad B x0)), (1, .ref (ad B x1)), (2, .int x2), (3, .int y3), (4, .int y4), (5, .int y5), (6, .int u34)] [1, 2, 3, 4, 5, 6, 0] rfl ?_
  exact hK109 (y3, y4, y5, u34, d) hf
set_option maxRecDepth 100000 in
def fX9_join_B109 (N : Nat) (g : Gs) (x0 : Nat) (x1 : Nat) (x2 : Int32) (K39 : Int32 × Ds → Option (Unit × Ds)) (K109 : Int32 × Int32 × Int32 × Int32 × Ds → Option (Unit × Ds)) (y3 : Int32) (y4 : Int32) (y5 : Int32) (y6 : Int32) (d : Ds) : Option (Unit × Ds) := gd (chk g x0 9) <| ob (gR g x0 0) fun r29 => (gd (chk g r29 102) <| if (Int32.ofNat (gL g r29)) ≤ y6 then (fX9_join_J146 N g x0 x1 x2 K39 y3 d) else (gd (¬ (y6 < 0 ∨ gL g r29 ≤ y6.toNatClampNeg)) <| if (dI d r29 y6.toNatClampNeg) = y4 then (bd (sI d r29 y6.toNatClampNeg y5) fun d35 => (fX9_join_J140 N g x0 x1 x2 K39 K109 y3 y4 y5 y6 d35)) else (fX9_join_J140 N g x0 x1 x2 K39 K109 y3 y4 y5 y6 d)))
set_option maxHeartbeats 4000000 in
set_option maxRecDepth 100000 in
theorem tX9_join_109 {p : Program} {l : Launch} {e : Env} {s : State} {m : MethodId} {args : Array Value} {below : List Frame} {meth : Method} {c : Code} {D : va_G} {cy : Nat → ClassId} {B : Bs} (C : Cx p s m args c cX9_join 7 RX9 D cy B) (hr : meth.sig.returnType = none) (hlocks : meth.locks = false) {N : Nat} {g : Gs} {x0 : Nat} {x1 : Nat} {x2 : Int32}  {dz : Ds} {K39 : Int32 × Ds → Option (Unit × Ds)} {K109 : Int32 × Int32 × Int32 × Int32 × Ds → Option (Unit × Ds)} (hK39 : ∀ a, K39 a = some ((), dz) → WB p l e rmX9_join s m args below meth c 7 D cy B 0 0 (MQ below (QV D cy B g dz) args s 0 0 (wA B)) g a.2 [(0, .ref (ad B x0)), (1, .ref (ad B x1)), (2, .int x2), (3, .int a.1)] 39 []) (hK109 : ∀ a, K109 a = some ((), dz) → WB p l e rmX9_join s m args below meth c 7 D cy B 0 0 (MQ below (QV D cy B g dz) args s 0 0 (wA B)) g a.2.2.2.2 [(0, .ref (ad B x0)), (1, .ref (ad B x1)), (2, .int x2), (3, .int a.1), (4, .int a.2.1), (5, .int a.2.2.1), (6, .int a.2.2.2.1)] 109 []) {y3 : Int32} {y4 : Int32} {y5 : Int32} {y6 : Int32} {d : Ds} (hf : fX9_join_B109 N g x0 x1 x2 K39 K109 y3 y4 y5 y6 d = some ((), dz)) : WB p l e rmX9_join s m args below meth c 7 D cy B 0 0 (MQ below (QV D cy B g dz) args s 0 0 (wA B)) g d [(0, .ref (ad B x0)), (1, .ref (ad B x1)), (2, .int x2), (3, .int y3), (4, .int y4), (5, .int y5), (6, .int y6)] 109 [] := by
  unfold fX9_join_B109 at hf
  refine b_iload C dX9_join_109 6 rfl ?_
  refine b_aload_n C dX9_join_111 0 rfl rfl ?_
  obtain ⟨h28, hf⟩ := gd_s hf
  obtain ⟨r29, er29, hf⟩ := ob_s hf
  refine b_gR C dX9_join_112 fl_X9_9 h28 er29 ?_
  obtain ⟨h30, hf⟩ := gd_s hf
  refine b_alen C (t := 2) h30 (by decide) dX9_join_115 ?_
  refine b_icmp_ge C (tgt := 146) dX9_join_116 (by decide) (fun c31 => ?_) (fun c31 => ?_)
  · have hf := it_s c31 hf
    refine b_sub [(0, .ref (ad B x0)), (1, .ref (ad B x1)), (2, .int x2), (3, .int y3)] [0, 1, 2, 3] rfl ?_
    exact tX9_join_146 C hr hlocks hK39 hf
  · have hf := if_s c31 hf
    refine b_aload_n C dX9_join_119 0 rfl rfl ?_
    refine b_gR C dX9_join_120 fl_X9_9 h28 er29 ?_
    refine b_iload C dX9_join_123 6 rfl ?_
    obtain ⟨h32, hf⟩ := gd_s hf
    refine b_iald C h30 h32 dX9_join_125 ?_
    refine b_iload C dX9_join_126 4 rfl ?_
    refine b_icmp_ne C (tgt := 140) dX9_join_128 (by decide) (fun c33 => ?_) (fun c33 => ?_)
    · have hf := if_s c33 hf
      refine b_sub [(0, .ref (ad B x0)), (1, .ref (ad B x1)), (2, .int x2), (3, .int y3), (4, .int y4), (5, .int y5), (6, .int y6)] [0, 1, 2, 3, 4, 5, 6] rfl ?_
      exact tX9_join_140 C hr hlocks hK39 hK109 hf
    · have hf := it_s c33 hf
      refine b_aload_n C dX9_join_131 0 rfl rfl ?_
      refine b_gR C dX9_join_132 fl_X9_9 h28 er29 ?_
      refine b_iload C dX9_join_135 6 rfl ?_
      refine b_iload C dX9_join_137 5 rfl ?_
      obtain ⟨d35, ed35, hf⟩ := bd_s hf
      refine b_iast C h30 h32 ed35 dX9_join_139 ?_
      refine b_sub [(0, .ref (ad B x0)), (1, .ref (ad B x1)), (2, .int x2), (3, .int y3), (4, .int y4), (5, .int y5), (6, .int y6)] [0, 1, 2, 3, 4, 5, 6] rfl ?_
      exact tX9_join_140 C hr hlocks hK39 hK109 hf
def fX9_join_L109 (N : Nat) (g : Gs) (x0 : Nat) (x1 : Nat) (x2 : Int32) (K39 : Int32 × Ds → Option (Unit × Ds)) : Int32 × Int32 × Int32 × Int32 × Ds → Option (Unit × Ds) := lp (fun K109 a => fX9_join_B109 N g x0 x1 x2 K39 K109 a.1 a.2.1 a.2.2.1 a.2.2.2.1 a.2.2.2.2) N
theorem tX9_join_L109 {p : Program} {l : Launch} {e : Env} {s : State} {m : MethodId} {args : Array Value} {below : List Frame} {meth : Method} {c : Code} {D : va_G} {cy : Nat → ClassId} {B : Bs} (C : Cx p s m args c cX9_join 7 RX9 D cy B) (hr : meth.sig.returnType = none) (hlocks : meth.locks = false) {N : Nat} {g : Gs} {x0 : Nat} {x1 : Nat} {x2 : Int32}  {dz : Ds} {K39 : Int32 × Ds → Option (Unit × Ds)} (hK39 : ∀ a, K39 a = some ((), dz) → WB p l e rmX9_join s m args below meth c 7 D cy B 0 0 (MQ below (QV D cy B g dz) args s 0 0 (wA B)) g a.2 [(0, .ref (ad B x0)), (1, .ref (ad B x1)), (2, .int x2), (3, .int a.1)] 39 []) (a : Int32 × Int32 × Int32 × Int32 × Ds) (hf : fX9_join_L109 N g x0 x1 x2 K39 a = some ((), dz)) : WB p l e rmX9_join s m args below meth c 7 D cy B 0 0 (MQ below (QV D cy B g dz) args s 0 0 (wA B)) g a.2.2.2.2 [(0, .ref (ad B x0)), (1, .ref (ad B x1)), (2, .int x2), (3, .int a.1), (4, .int a.2.1), (5, .int a.2.2.1), (6, .int a.2.2.2.1)] 109 [] :=
  lp_w (fun K109 hK109 a ha => tX9_join_109 C hr hlocks hK39 hK109 ha) N a hf
set_option maxRecDepth 100000 in
def fX9_join_B39 (N : Nat) (g : Gs) (x0 : Nat) (x1 : Nat) (x2 : Int32) (K39 : Int32 × Ds → Option (Unit × Ds)) (y3 : Int32) (d : Ds) : Option (Unit × Ds) := gd (chk g x1 0) <| cb (fX0_hasKey N g x1 y3 d) fun u10 d8 => (if u10 = 0 then (fX9_join_J152 N g x0 x1 x2 d8) else (if (24 : Int32) ≤ y3 then (fX9_join_J152 N g x0 x1 x2 d8) else (gd (chk g x0 9) <| ob (gR g x0 0) fun r14 => (gd (¬ (dI d8 x1 1) = 0) <| gd (chk g r14 102) <| gd (¬ (((4 : Int32) + (y3 - y3 / (dI d8 x1 1) * (dI d8 x1 1))) < 0 ∨ gL g r14 ≤ ((4 : Int32) + (y3 - y3 / (dI d8 x1 1) * (dI d8 x1 1))).toNatClampNeg)) <| bd ((dI d8 r14 ((4 : Int32) + (y3 - y3 / (dI d8 x1 1) * (dI d8 x1 1))).toNatClampNeg)) fun u18 => (gd (¬ ((y3 / (dI d8 x1 1)) < 0 ∨ gL g r14 ≤ (y3 / (dI d8 x1 1)).toNatClampNeg)) <| bd ((dI d8 r14 (y3 / (dI d8 x1 1)).toNatClampNeg)) fun u20 => (cb (fX11_isIn N g x2 y3 d8) fun u23 d21 => (if u23 = 0 then (fX9_join_J146 N g x0 x1 x2 K39 y3 d21) else (if u18 = u20 then (fX9_join_J146 N g x0 x1 x2 K39 y3 d21) else (bd (sI d21 x0 1 ((dI d21 x0 1) - 1)) fun d27 => (fX9_join_L109 N g x0 x1 x2 K39 (y3, u18, u20, 0, d27)))))))))))
set_option maxHeartbeats 4000000 in
set_option maxRecDepth 100000 in
theorem tX9_join_39 {p : Program} {l : Launch} {e : Env} {s : State} {m : MethodId} {args : Array Value} {below : List Frame} {meth : Method} {c : Code} {D : va_G} {cy : Nat → ClassId} {B : Bs} (C : Cx p s m args c cX9_join 7 RX9 D cy B) (hr : meth.sig.returnType = none) (hlocks : meth.locks = false) {N : Nat} {g : Gs} {x0 : Nat} {x1 : Nat} {x2 : Int32}  {dz : Ds} {K39 : Int32 × Ds → Option (Unit × Ds)} (hK39 : ∀ a, K39 a = some ((), dz) → WB p l e rmX9_join s m args below meth c 7 D cy B 0 0 (MQ below (QV D cy B g dz) args s 0 0 (wA B)) g a.2 [(0, .ref (ad B x0)), (1, .ref (ad B x1)), (2, .int x2), (3, .int a.1)] 39 []) {y3 : Int32} {d : Ds} (hf : fX9_join_B39 N g x0 x1 x2 K39 y3 d = some ((), dz)) : WB p l e rmX9_join s m args below meth c 7 D cy B 0 0 (MQ below (QV D cy B g dz) args s 0 0 (wA B)) g d [(0, .ref (ad B x0)), (1, .ref (ad B x1)), (2, .int x2), (3, .int y3)] 39 [] := by
  unfold fX9_join_B39 at hf
  refine b_aload_n C dX9_join_39 1 rfl rfl ?_
  refine b_iload_n C dX9_join_40 3 rfl rfl ?_
  obtain ⟨h7, hf⟩ := gd_s hf
  obtain ⟨u10, d8, k9, hf⟩ := cb_s hf
  refine b_cVI C [] dX9_join_41 (kX0_hasKey l D cy B k9) lv_X9_32 ⟨rfl, rfl, Nat.le_of_ble_eq_true rfl, Nat.le_of_ble_eq_true rfl⟩ h7 (by decide) rfl (Nat.le_of_ble_eq_true rfl) ⟨Nat.zero_le _, Nat.zero_le _⟩ rfl ?_
  refine b_if_eq C (tgt := 152) dX9_join_44 (by decide) (fun c11 => ?_) (fun c11 => ?_)
  · have hf := it_s c11 hf
    refine b_sub [(0, .ref (ad B x0)), (1, .ref (ad B x1)), (2, .int x2)] [0, 1, 2] rfl ?_
    exact tX9_join_152 C hr hlocks hf
  · have hf := if_s c11 hf
    refine b_iload_n C dX9_join_47 3 rfl rfl ?_
    refine b_bipush C (v := 24) dX9_join_48 (by decide) ?_
    refine b_icmp_ge C (tgt := 152) dX9_join_50 (by decide) (fun c12 => ?_) (fun c12 => ?_)
    · have hf := it_s c12 hf
      refine b_sub [(0, .ref (ad B x0)), (1, .ref (ad B x1)), (2, .int x2)] [0, 1, 2] rfl ?_
      exact tX9_join_152 C hr hlocks hf
    · have hf := if_s c12 hf
      refine b_aload_n C dX9_join_53 0 rfl rfl ?_
      obtain ⟨h13, hf⟩ := gd_s hf
      obtain ⟨r14, er14, hf⟩ := ob_s hf
      refine b_gR C dX9_join_54 fl_X9_9 h13 er14 ?_
      refine b_iconst C (v := 4) dX9_join_57 (by decide) ?_
      refine b_iload_n C dX9_join_58 3 rfl rfl ?_
      refine b_aload_n C dX9_join_59 1 rfl rfl ?_
      refine b_gI C dX9_join_60 fl_X9_36 h7 ?_
      obtain ⟨h15, hf⟩ := gd_s hf
      refine b_irem C dX9_join_63 h15 ?_
      refine b_iadd C dX9_join_64 ?_
      obtain ⟨h16, hf⟩ := gd_s hf
      obtain ⟨h17, hf⟩ := gd_s hf
      refine b_iald C h16 h17 dX9_join_65 ?_
      obtain ⟨u18, eu18, hf⟩ := bd_s hf
      refine b_topI eu18 ?_
      refine b_istore C dX9_join_66 [(4, .int u18), (0, .ref (ad B x0)), (1, .ref (ad B x1)), (2, .int x2), (3, .int y3)] (by decide) rfl ?_
      refine b_aload_n C dX9_join_68 1 rfl rfl ?_
      refine b_gR C dX9_join_69 fl_X9_9 h13 er14 ?_
      refine b_iload_n C dX9_join_72 4 rfl rfl ?_
      refine b_aload_n C dX9_join_73 2 rfl rfl ?_
      refine b_gI C dX9_join_74 fl_X9_36 h7 ?_
      refine b_idiv C dX9_join_77 h15 ?_
      obtain ⟨h19, hf⟩ := gd_s hf
      refine b_iald C h16 h19 dX9_join_78 ?_
      obtain ⟨u20, eu20, hf⟩ := bd_s hf
      refine b_topI eu20 ?_
      refine b_istore C dX9_join_79 [(5, .int u20), (4, .int u18), (0, .ref (ad B x0)), (1, .ref (ad B x1)), (2, .int x2), (3, .int y3)] (by decide) rfl ?_
      refine b_iload_n C dX9_join_81 4 rfl rfl ?_
      refine b_iload_n C dX9_join_82 5 rfl rfl ?_
      obtain ⟨u23, d21, k22, hf⟩ := cb_s hf
      refine b_cSI C [] dX9_join_83 (kX11_isIn l D cy B k22) lv_X9_48 ⟨rfl, rfl, Nat.le_of_ble_eq_true rfl, Nat.le_of_ble_eq_true rfl⟩ rfl (Nat.le_of_ble_eq_true rfl) ⟨Nat.zero_le _, Nat.zero_le _⟩ rfl ?_
      refine b_if_eq C (tgt := 146) dX9_join_86 (by decide) (fun c24 => ?_) (fun c24 => ?_)
      · have hf := it_s c24 hf
        refine b_sub [(0, .ref (ad B x0)), (1, .ref (ad B x1)), (2, .int x2), (3, .int y3)] [2, 3, 4, 5] rfl ?_
        exact tX9_join_146 C hr hlocks hK39 hf
      · have hf := if_s c24 hf
        refine b_iload C dX9_join_89 1 rfl ?_
        refine b_iload C dX9_join_91 0 rfl ?_
        refine b_icmp_eq C (tgt := 146) dX9_join_93 (by decide) (fun c26 => ?_) (fun c26 => ?_)
        · have hf := it_s c26 hf
          refine b_sub [(0, .ref (ad B x0)), (1, .ref (ad B x1)), (2, .int x2), (3, .int y3)] [2, 3, 4, 5] rfl ?_
          exact tX9_join_146 C hr hlocks hK39 hf
        · have hf := if_s c26 hf
          refine b_aload_n C dX9_join_96 2 rfl rfl ?_
          refine b_dup C dX9_join_97 rfl ?_
          refine b_gI C dX9_join_98 fl_X9_45 h13 ?_
          refine b_iconst C (v := 1) dX9_join_101 (by decide) ?_
          refine b_isub C dX9_join_102 ?_
          obtain ⟨d27, ed27, hf⟩ := bd_s hf
          refine b_pI C dX9_join_103 fl_X9_45 fp9_1 h13 ed27 ?_
          refine b_iconst C (v := 0) dX9_join_106 (by decide) ?_
          refine b_istore C dX9_join_107 [(6, .int 0), (5, .int u20), (4, .int u18), (0, .ref (ad B x0)), (1, .ref (ad B x1)), (2, .int x2), (3, .int y3)] (by decide) rfl ?_
          refine b_sub [(0, .ref (ad B x0)), (1, .ref (ad B x1)), (2, .int x2), (3, .int y3), (4, .int u18), (5, .int u20), (6, .int 0)] [3, 4, 5, 6, 2, 1, 0] rfl ?_
          exact tX9_join_L109 C hr hlocks hK39 (y3, u18, u20, 0, d27) hf
def fX9_join_L39 (N : Nat) (g : Gs) (x0 : Nat) (x1 : Nat) (x2 : Int32) : Int32 × Ds → Option (Unit × Ds) := lp (fun K39 a => fX9_join_B39 N g x0 x1 x2 K39 a.1 a.2) N
theorem tX9_join_L39 {p : Program} {l : Launch} {e : Env} {s : State} {m : MethodId} {args : Array Value} {below : List Frame} {meth : Method} {c : Code} {D : va_G} {cy : Nat → ClassId} {B : Bs} (C : Cx p s m args c cX9_join 7 RX9 D cy B) (hr : meth.sig.returnType = none) (hlocks : meth.locks = false) {N : Nat} {g : Gs} {x0 : Nat} {x1 : Nat} {x2 : Int32}  {dz : Ds} (a : Int32 × Ds) (hf : fX9_join_L39 N g x0 x1 x2 a = some ((), dz)) : WB p l e rmX9_join s m args below meth c 7 D cy B 0 0 (MQ below (QV D cy B g dz) args s 0 0 (wA B)) g a.2 [(0, .ref (ad B x0)), (1, .ref (ad B x1)), (2, .int x2), (3, .int a.1)] 39 [] :=
  lp_w (fun K39 hK39 a ha => tX9_join_39 C hr hlocks hK39 ha) N a hf
set_option maxRecDepth 100000 in
def fX9_join_B2 (N : Nat) (g : Gs) (x0 : Nat) (x1 : Nat) (x2 : Int32) (K2 : Int32 × Ds → Option (Unit × Ds)) (y3 : Int32) (d : Ds) : Option (Unit × Ds) := gd (chk g x0 9) <| ob (gR g x0 0) fun r2 => (gd (chk g r2 102) <| if (Int32.ofNat (gL g r2)) ≤ y3 then (gd (chk g x1 0) <| bd (sI d x0 1 ((dI d x1 0) + (dI d x1 1))) fun d6 => (fX9_join_L39 N g x0 x1 x2 (0, d6))) else (gd (¬ (y3 < 0 ∨ gL g r2 ≤ y3.toNatClampNeg)) <| bd (sI d r2 y3.toNatClampNeg y3) fun d37 => (bd (y3 + 1) fun u38 => (K2 (u38, d37)))))
set_option maxHeartbeats 4000000 in
set_option maxRecDepth 100000 in
theorem tX9_join_2 {p : Program} {l : Launch} {e : Env} {s : State} {m : MethodId} {args : Array Value} {below : List Frame} {meth : Method} {c : Code} {D : va_G} {cy : Nat → ClassId} {B : Bs} (C : Cx p s m args c cX9_join 7 RX9 D cy B) (hr : meth.sig.returnType = none) (hlocks : meth.locks = false) {N : Nat} {g : Gs} {x0 : Nat} {x1 : Nat} {x2 : Int32}  {dz : Ds} {K2 : Int32 × Ds → Option (Unit × Ds)} (hK2 : ∀ a, K2 a = some ((), dz) → WB p l e rmX9_join s m args below meth c 7 D cy B 0 0 (MQ below (QV D cy B g dz) args s 0 0 (wA B)) g a.2 [(0, .ref (ad B x0)), (1, .ref (ad B x1)), (2, .int x2), (3, .int a.1)] 2 []) {y3 : Int32} {d : Ds} (hf : fX9_join_B2 N g x0 x1 x2 K2 y3 d = some ((), dz)) : WB p l e rmX9_join s m args below meth c 7 D cy B 0 0 (MQ below (QV D cy B g dz) args s 0 0 (wA B)) g d [(0, .ref (ad B x0)), (1, .ref (ad B x1)), (2, .int x2), (3, .int y3)] 2 [] := by
  unfold fX9_join_B2 at hf
  refine b_iload_n C dX9_join_2 3 rfl rfl ?_
  refine b_aload_n C dX9_join_3 0 rfl rfl ?_
  obtain ⟨h1, hf⟩ := gd_s hf
  obtain ⟨r2, er2, hf⟩ := ob_s hf
  refine b_gR C dX9_join_4 fl_X9_9 h1 er2 ?_
  obtain ⟨h3, hf⟩ := gd_s hf
  refine b_alen C (t := 2) h3 (by decide) dX9_join_7 ?_
  refine b_icmp_ge C (tgt := 24) dX9_join_8 (by decide) (fun c4 => ?_) (fun c4 => ?_)
  · have hf := it_s c4 hf
    refine b_aload_n C dX9_join_24 0 rfl rfl ?_
    refine b_aload_n C dX9_join_25 1 rfl rfl ?_
    obtain ⟨h5, hf⟩ := gd_s hf
    refine b_gI C dX9_join_26 fl_X9_39 h5 ?_
    refine b_aload_n C dX9_join_29 1 rfl rfl ?_
    refine b_gI C dX9_join_30 fl_X9_36 h5 ?_
    refine b_iadd C dX9_join_33 ?_
    obtain ⟨d6, ed6, hf⟩ := bd_s hf
    refine b_pI C dX9_join_34 fl_X9_45 fp9_1 h1 ed6 ?_
    refine b_iconst C (v := 0) dX9_join_37 (by decide) ?_
    refine b_istore_n C dX9_join_38 rfl [(3, .int 0), (0, .ref (ad B x0)), (1, .ref (ad B x1)), (2, .int x2)] (by decide) rfl ?_
    refine b_sub [(0, .ref (ad B x0)), (1, .ref (ad B x1)), (2, .int x2), (3, .int 0)] [1, 2, 3, 0] rfl ?_
    exact tX9_join_L39 C hr hlocks (0, d6) hf
  · have hf := if_s c4 hf
    refine b_aload_n C dX9_join_11 0 rfl rfl ?_
    refine b_gR C dX9_join_12 fl_X9_9 h1 er2 ?_
    refine b_iload_n C dX9_join_15 3 rfl rfl ?_
    refine b_iload_n C dX9_join_16 3 rfl rfl ?_
    obtain ⟨h36, hf⟩ := gd_s hf
    obtain ⟨d37, ed37, hf⟩ := bd_s hf
    refine b_iast C h3 h36 ed37 dX9_join_17 ?_
    obtain ⟨u38, eu38, hf⟩ := bd_s hf
    refine b_iinc C dX9_join_18 3 rfl (by rw [eu38]; rfl) [(3, .int u38), (0, .ref (ad B x0)), (1, .ref (ad B x1)), (2, .int x2)] (by decide) rfl ?_
    refine b_goto C (tgt := 2) dX9_join_21 (by decide) ?_
    refine b_sub [(0, .ref (ad B x0)), (1, .ref (ad B x1)), (2, .int x2), (3, .int u38)] [1, 2, 3, 0] rfl ?_
    exact hK2 (u38, d37) hf
def fX9_join_L2 (N : Nat) (g : Gs) (x0 : Nat) (x1 : Nat) (x2 : Int32) : Int32 × Ds → Option (Unit × Ds) := lp (fun K2 a => fX9_join_B2 N g x0 x1 x2 K2 a.1 a.2) N
theorem tX9_join_L2 {p : Program} {l : Launch} {e : Env} {s : State} {m : MethodId} {args : Array Value} {below : List Frame} {meth : Method} {c : Code} {D : va_G} {cy : Nat → ClassId} {B : Bs} (C : Cx p s m args c cX9_join 7 RX9 D cy B) (hr : meth.sig.returnType = none) (hlocks : meth.locks = false) {N : Nat} {g : Gs} {x0 : Nat} {x1 : Nat} {x2 : Int32}  {dz : Ds} (a : Int32 × Ds) (hf : fX9_join_L2 N g x0 x1 x2 a = some ((), dz)) : WB p l e rmX9_join s m args below meth c 7 D cy B 0 0 (MQ below (QV D cy B g dz) args s 0 0 (wA B)) g a.2 [(0, .ref (ad B x0)), (1, .ref (ad B x1)), (2, .int x2), (3, .int a.1)] 2 [] :=
  lp_w (fun K2 hK2 a ha => tX9_join_2 C hr hlocks hK2 ha) N a hf
set_option maxRecDepth 100000 in
def fX9_join (N : Nat) (g : Gs) (x0 : Nat) (x1 : Nat) (x2 : Int32) (d : Ds) : Option (Unit × Ds) := fX9_join_L2 N g x0 x1 x2 (0, d)
set_option maxHeartbeats 4000000 in
set_option maxRecDepth 100000 in
theorem tX9_join_E {p : Program} {l : Launch} {e : Env} {s : State} {m : MethodId} {args : Array Value} {below : List Frame} {meth : Method} {c : Code} {D : va_G} {cy : Nat → ClassId} {B : Bs} (C : Cx p s m args c cX9_join 7 RX9 D cy B) (hr : meth.sig.returnType = none) (hlocks : meth.locks = false) {N : Nat} {g : Gs} {x0 : Nat} {x1 : Nat} {x2 : Int32}  {dz : Ds} {d : Ds} (hf : fX9_join N g x0 x1 x2 d = some ((), dz)) : WB p l e rmX9_join s m args below meth c 7 D cy B 0 0 (MQ below (QV D cy B g dz) args s 0 0 (wA B)) g d [(0, .ref (ad B x0)), (1, .ref (ad B x1)), (2, .int x2)] 0 [] := by
  unfold fX9_join at hf
  refine b_iconst C (v := 0) dX9_join_0 (by decide) ?_
  refine b_istore_n C dX9_join_1 rfl [(3, .int 0), (0, .ref (ad B x0)), (1, .ref (ad B x1)), (2, .int x2)] (by decide) rfl ?_
  refine b_sub [(0, .ref (ad B x0)), (1, .ref (ad B x1)), (2, .int x2), (3, .int 0)] [1, 2, 3, 0] rfl ?_
  exact tX9_join_L2 C hr hlocks (0, d) hf
theorem kX9_join (l : Launch) (D : va_G) (cy : Nat → ClassId) (B : Bs) {N : Nat} {g : Gs} {x0 : Nat} {x1 : Nat} {x2 : Int32}  {dz : Ds} {d : Ds} (hf : fX9_join N g x0 x1 x2 d = some ((), dz)) : Met l yX9_join (.code yX9_join cX9_join 7 none :: wl) rmX9_join (PC D cy B [.ref (ad B x0), .ref (ad B x1), .int x2] g d) (QV D cy B g dz) 0 0 (wA B) :=
  met_of (by decide +kernel) (Nat.le_of_ble_eq_true rfl) (fun p e s m args below meth c C hr hlocks _ => b_sub [(0, .ref (ad B x0)), (1, .ref (ad B x1)), (2, .int x2)] [0, 1, 2] rfl (tX9_join_E C hr hlocks hf))
/-! java/lang/Integer.bitCount(I)I -/
theorem ct_J6_265 : Cond.constant RJ6 265 1431655765 ∈ wl := mW (mT4 (List.mem_of_getElem? (i := 52) (by decide +kernel))) rfl
theorem ct_J6_266 : Cond.constant RJ6 266 858993459 ∈ wl := mW (mT4 (List.mem_of_getElem? (i := 53) (by decide +kernel))) rfl
theorem ct_J6_267 : Cond.constant RJ6 267 252645135 ∈ wl := mW (mT4 (List.mem_of_getElem? (i := 54) (by decide +kernel))) rfl
theorem dJ6_bitCount_0f7a4_0 : decode cJ6_bitCount_0f7a4 0 = .ok (.iload_n 0, 1) := by decide +kernel
theorem dJ6_bitCount_0f7a4_1 : decode cJ6_bitCount_0f7a4 1 = .ok (.iload_n 0, 1) := by decide +kernel
theorem dJ6_bitCount_0f7a4_2 : decode cJ6_bitCount_0f7a4 2 = .ok (.iconst 1, 1) := by decide +kernel
theorem dJ6_bitCount_0f7a4_3 : decode cJ6_bitCount_0f7a4 3 = .ok (.iushr, 1) := by decide +kernel
theorem dJ6_bitCount_0f7a4_4 : decode cJ6_bitCount_0f7a4 4 = .ok (.ldc_w 265, 3) := by decide +kernel
theorem dJ6_bitCount_0f7a4_7 : decode cJ6_bitCount_0f7a4 7 = .ok (.iand, 1) := by decide +kernel
theorem dJ6_bitCount_0f7a4_8 : decode cJ6_bitCount_0f7a4 8 = .ok (.isub, 1) := by decide +kernel
theorem dJ6_bitCount_0f7a4_9 : decode cJ6_bitCount_0f7a4 9 = .ok (.istore_n 0, 1) := by decide +kernel
theorem dJ6_bitCount_0f7a4_10 : decode cJ6_bitCount_0f7a4 10 = .ok (.iload_n 0, 1) := by decide +kernel
theorem dJ6_bitCount_0f7a4_11 : decode cJ6_bitCount_0f7a4 11 = .ok (.ldc_w 266, 3) := by decide +kernel
theorem dJ6_bitCount_0f7a4_14 : decode cJ6_bitCount_0f7a4 14 = .ok (.iand, 1) := by decide +kernel
theorem dJ6_bitCount_0f7a4_15 : decode cJ6_bitCount_0f7a4 15 = .ok (.iload_n 0, 1) := by decide +kernel
theorem dJ6_bitCount_0f7a4_16 : decode cJ6_bitCount_0f7a4 16 = .ok (.iconst 2, 1) := by decide +kernel
theorem dJ6_bitCount_0f7a4_17 : decode cJ6_bitCount_0f7a4 17 = .ok (.iushr, 1) := by decide +kernel
theorem dJ6_bitCount_0f7a4_18 : decode cJ6_bitCount_0f7a4 18 = .ok (.ldc_w 266, 3) := by decide +kernel
theorem dJ6_bitCount_0f7a4_21 : decode cJ6_bitCount_0f7a4 21 = .ok (.iand, 1) := by decide +kernel
theorem dJ6_bitCount_0f7a4_22 : decode cJ6_bitCount_0f7a4 22 = .ok (.iadd, 1) := by decide +kernel
theorem dJ6_bitCount_0f7a4_23 : decode cJ6_bitCount_0f7a4 23 = .ok (.istore_n 0, 1) := by decide +kernel
theorem dJ6_bitCount_0f7a4_24 : decode cJ6_bitCount_0f7a4 24 = .ok (.iload_n 0, 1) := by decide +kernel
theorem dJ6_bitCount_0f7a4_25 : decode cJ6_bitCount_0f7a4 25 = .ok (.iload_n 0, 1) := by decide +kernel
theorem dJ6_bitCount_0f7a4_26 : decode cJ6_bitCount_0f7a4 26 = .ok (.iconst 4, 1) := by decide +kernel
theorem dJ6_bitCount_0f7a4_27 : decode cJ6_bitCount_0f7a4 27 = .ok (.iushr, 1) := by decide +kernel
theorem dJ6_bitCount_0f7a4_28 : decode cJ6_bitCount_0f7a4 28 = .ok (.iadd, 1) := by decide +kernel
theorem dJ6_bitCount_0f7a4_29 : decode cJ6_bitCount_0f7a4 29 = .ok (.ldc_w 267, 3) := by decide +kernel
theorem dJ6_bitCount_0f7a4_32 : decode cJ6_bitCount_0f7a4 32 = .ok (.iand, 1) := by decide +kernel
theorem dJ6_bitCount_0f7a4_33 : decode cJ6_bitCount_0f7a4 33 = .ok (.istore_n 0, 1) := by decide +kernel
theorem dJ6_bitCount_0f7a4_34 : decode cJ6_bitCount_0f7a4 34 = .ok (.iload_n 0, 1) := by decide +kernel
theorem dJ6_bitCount_0f7a4_35 : decode cJ6_bitCount_0f7a4 35 = .ok (.iload_n 0, 1) := by decide +kernel
theorem dJ6_bitCount_0f7a4_36 : decode cJ6_bitCount_0f7a4 36 = .ok (.bipush 8, 2) := by decide +kernel
theorem dJ6_bitCount_0f7a4_38 : decode cJ6_bitCount_0f7a4 38 = .ok (.iushr, 1) := by decide +kernel
theorem dJ6_bitCount_0f7a4_39 : decode cJ6_bitCount_0f7a4 39 = .ok (.iadd, 1) := by decide +kernel
theorem dJ6_bitCount_0f7a4_40 : decode cJ6_bitCount_0f7a4 40 = .ok (.istore_n 0, 1) := by decide +kernel
theorem dJ6_bitCount_0f7a4_41 : decode cJ6_bitCount_0f7a4 41 = .ok (.iload_n 0, 1) := by decide +kernel
theorem dJ6_bitCount_0f7a4_42 : decode cJ6_bitCount_0f7a4 42 = .ok (.iload_n 0, 1) := by decide +kernel
theorem dJ6_bitCount_0f7a4_43 : decode cJ6_bitCount_0f7a4 43 = .ok (.bipush 16, 2) := by decide +kernel
theorem dJ6_bitCount_0f7a4_45 : decode cJ6_bitCount_0f7a4 45 = .ok (.iushr, 1) := by decide +kernel
theorem dJ6_bitCount_0f7a4_46 : decode cJ6_bitCount_0f7a4 46 = .ok (.iadd, 1) := by decide +kernel
theorem dJ6_bitCount_0f7a4_47 : decode cJ6_bitCount_0f7a4 47 = .ok (.istore_n 0, 1) := by decide +kernel
theorem dJ6_bitCount_0f7a4_48 : decode cJ6_bitCount_0f7a4 48 = .ok (.iload_n 0, 1) := by decide +kernel
theorem dJ6_bitCount_0f7a4_49 : decode cJ6_bitCount_0f7a4 49 = .ok (.bipush 63, 2) := by decide +kernel
theorem dJ6_bitCount_0f7a4_51 : decode cJ6_bitCount_0f7a4 51 = .ok (.iand, 1) := by decide +kernel
theorem dJ6_bitCount_0f7a4_52 : decode cJ6_bitCount_0f7a4 52 = .ok (.ireturn, 1) := by decide +kernel
def rmJ6_bitCount_0f7a4 : Room := { frames := 0, cells := 0, slots := 0, locals := 0 }
set_option maxRecDepth 100000 in
def fJ6_bitCount_0f7a4 (N : Nat) (g : Gs) (x0 : Int32) (d : Ds) : Option (Int32 × Ds) := bd (x0 - (((x0.toUInt32 >>> ((1 : Int32).toUInt32 &&& Int32.toUInt32 31)).toInt32) &&& 1431655765)) fun u1 => (bd ((u1 &&& 858993459) + (((u1.toUInt32 >>> ((2 : Int32).toUInt32 &&& Int32.toUInt32 31)).toInt32) &&& 858993459)) fun u2 => (bd ((u2 + ((u2.toUInt32 >>> ((4 : Int32).toUInt32 &&& Int32.toUInt32 31)).toInt32)) &&& 252645135) fun u3 => (bd ((u3 + ((u3.toUInt32 >>> ((8 : Int32).toUInt32 &&& Int32.toUInt32 31)).toInt32))) fun u4 => (bd ((u4 + ((u4.toUInt32 >>> ((16 : Int32).toUInt32 &&& Int32.toUInt32 31)).toInt32))) fun u5 => (some ((u5 &&& 63), d))))))
set_option maxHeartbeats 4000000 in
set_option maxRecDepth 100000 in
theorem tJ6_bitCount_0f7a4_E {p : Program} {l : Launch} {e : Env} {s : State} {m : MethodId} {args : Array Value} {below : List Frame} {meth : Method} {c : Code} {D : va_G} {cy : Nat → ClassId} {B : Bs} (C : Cx p s m args c cJ6_bitCount_0f7a4 1 RJ6 D cy B) (hr : meth.sig.returnType = (some .int)) (hlocks : meth.locks = false) {N : Nat} {g : Gs} {x0 : Int32} {vz : Int32} {dz : Ds} {d : Ds} (hf : fJ6_bitCount_0f7a4 N g x0 d = some (vz, dz)) : WB p l e rmJ6_bitCount_0f7a4 s m args below meth c 1 D cy B 0 0 (MQ below (QI D cy B vz g dz) args s 0 0 (wA B)) g d [(0, .int x0)] 0 [] := by
  unfold fJ6_bitCount_0f7a4 at hf
  refine b_iload_n C dJ6_bitCount_0f7a4_0 0 rfl rfl ?_
  refine b_iload_n C dJ6_bitCount_0f7a4_1 0 rfl rfl ?_
  refine b_iconst C (v := 1) dJ6_bitCount_0f7a4_2 (by decide) ?_
  refine b_iushr C dJ6_bitCount_0f7a4_3 ?_
  refine b_ldcw C ct_J6_265 dJ6_bitCount_0f7a4_4 ?_
  refine b_iand C dJ6_bitCount_0f7a4_7 ?_
  refine b_isub C dJ6_bitCount_0f7a4_8 ?_
  obtain ⟨u1, eu1, hf⟩ := bd_s hf
  refine b_topI eu1 ?_
  refine b_istore_n C dJ6_bitCount_0f7a4_9 rfl [(0, .int u1)] (by decide) rfl ?_
  refine b_iload_n C dJ6_bitCount_0f7a4_10 0 rfl rfl ?_
  refine b_ldcw C ct_J6_266 dJ6_bitCount_0f7a4_11 ?_
  refine b_iand C dJ6_bitCount_0f7a4_14 ?_
  refine b_iload_n C dJ6_bitCount_0f7a4_15 0 rfl rfl ?_
  refine b_iconst C (v := 2) dJ6_bitCount_0f7a4_16 (by decide) ?_
  refine b_iushr C dJ6_bitCount_0f7a4_17 ?_
  refine b_ldcw C ct_J6_266 dJ6_bitCount_0f7a4_18 ?_
  refine b_iand C dJ6_bitCount_0f7a4_21 ?_
  refine b_iadd C dJ6_bitCount_0f7a4_22 ?_
  obtain ⟨u2, eu2, hf⟩ := bd_s hf
  refine b_topI eu2 ?_
  refine b_istore_n C dJ6_bitCount_0f7a4_23 rfl [(0, .int u2)] (by decide) rfl ?_
  refine b_iload_n C dJ6_bitCount_0f7a4_24 0 rfl rfl ?_
  refine b_iload_n C dJ6_bitCount_0f7a4_25 0 rfl rfl ?_
  refine b_iconst C (v := 4) dJ6_bitCount_0f7a4_26 (by decide) ?_
  refine b_iushr C dJ6_bitCount_0f7a4_27 ?_
  refine b_iadd C dJ6_bitCount_0f7a4_28 ?_
  refine b_ldcw C ct_J6_267 dJ6_bitCount_0f7a4_29 ?_
  refine b_iand C dJ6_bitCount_0f7a4_32 ?_
  obtain ⟨u3, eu3, hf⟩ := bd_s hf
  refine b_topI eu3 ?_
  refine b_istore_n C dJ6_bitCount_0f7a4_33 rfl [(0, .int u3)] (by decide) rfl ?_
  refine b_iload_n C dJ6_bitCount_0f7a4_34 0 rfl rfl ?_
  refine b_iload_n C dJ6_bitCount_0f7a4_35 0 rfl rfl ?_
  refine b_bipush C (v := 8) dJ6_bitCount_0f7a4_36 (by decide) ?_
  refine b_iushr C dJ6_bitCount_0f7a4_38 ?_
  refine b_iadd C dJ6_bitCount_0f7a4_39 ?_
  obtain ⟨u4, eu4, hf⟩ := bd_s hf
  refine b_topI eu4 ?_
  refine b_istore_n C dJ6_bitCount_0f7a4_40 rfl [(0, .int u4)] (by decide) rfl ?_
  refine b_iload_n C dJ6_bitCount_0f7a4_41 0 rfl rfl ?_
  refine b_iload_n C dJ6_bitCount_0f7a4_42 0 rfl rfl ?_
  refine b_bipush C (v := 16) dJ6_bitCount_0f7a4_43 (by decide) ?_
  refine b_iushr C dJ6_bitCount_0f7a4_45 ?_
  refine b_iadd C dJ6_bitCount_0f7a4_46 ?_
  obtain ⟨u5, eu5, hf⟩ := bd_s hf
  refine b_topI eu5 ?_
  refine b_istore_n C dJ6_bitCount_0f7a4_47 rfl [(0, .int u5)] (by decide) rfl ?_
  refine b_iload_n C dJ6_bitCount_0f7a4_48 0 rfl rfl ?_
  refine b_bipush C (v := 63) dJ6_bitCount_0f7a4_49 (by decide) ?_
  refine b_iand C dJ6_bitCount_0f7a4_51 ?_
  exact b_iret C hr hlocks hf dJ6_bitCount_0f7a4_52
theorem kJ6_bitCount_0f7a4 (l : Launch) (D : va_G) (cy : Nat → ClassId) (B : Bs) {N : Nat} {g : Gs} {x0 : Int32} {vz : Int32} {dz : Ds} {d : Ds} (hf : fJ6_bitCount_0f7a4 N g x0 d = some (vz, dz)) : Met l yJ6_bitCount_0f7a4 (.code yJ6_bitCount_0f7a4 cJ6_bitCount_0f7a4 1 (some .int) :: wl) rmJ6_bitCount_0f7a4 (PC D cy B [.int x0] g d) (QI D cy B vz g dz) 0 0 (wA B) :=
  met_of (by decide +kernel) (Nat.le_of_ble_eq_true rfl) (fun p e s m args below meth c C hr hlocks _ => b_sub [(0, .int x0)] [0] rfl (tJ6_bitCount_0f7a4_E C hr hlocks hf))
/-! KeyMatrix$Wiring.bar(LKeyMatrix$Board;I)V -/
theorem fl_X9_25 : FLI RX9 25 9 2 := ⟨⟨RX9, TX9, 4, rfl, by decide, inl9, Or.inl (mW (mT2 (List.mem_of_getElem? (i := 9) (by decide +kernel))) rfl)⟩, by decide, by decide +kernel⟩
theorem yo_J6_bitCount_0f7a4 : yJ6_bitCount_0f7a4.cls ≠ "java/lang/invoke/MethodHandle" ∧ yJ6_bitCount_0f7a4.cls ≠ "java/lang/invoke/VarHandle" ∧ (parseMethodDescriptor yJ6_bitCount_0f7a4.desc).map (fun d => d.parameters.length) = some 1 := by decide +kernel
theorem co_J6_bitCount_0f7a4 : Cond.code yJ6_bitCount_0f7a4 cJ6_bitCount_0f7a4 1 (some .int) ∈ wl := mW (mT4 (List.mem_of_getElem? (i := 51) (by decide +kernel))) rfl
theorem in_J6_bitCount_0f7a4 : Cond.initialized yJ6_bitCount_0f7a4.cls ∈ wl := mW (mT1 (List.mem_of_getElem? (i := 20) (by decide +kernel))) rfl
theorem st_J6_bitCount_0f7a4 : Cond.static yJ6_bitCount_0f7a4 ∈ wl := mW (mT4 (List.mem_of_getElem? (i := 50) (by decide +kernel))) rfl
theorem lv_X9_52 : LSt RX9 52 yJ6_bitCount_0f7a4 cJ6_bitCount_0f7a4 1 (some .int) 1 := ⟨yo_J6_bitCount_0f7a4, Or.inl (mW (mT4 (List.mem_of_getElem? (i := 49) (by decide +kernel))) rfl), st_J6_bitCount_0f7a4, in_J6_bitCount_0f7a4, co_J6_bitCount_0f7a4⟩
theorem fl_X9_29 : FLI RX9 29 9 3 := ⟨⟨RX9, TX9, 4, rfl, by decide, inl9, Or.inl (mW (mT2 (List.mem_of_getElem? (i := 11) (by decide +kernel))) rfl)⟩, by decide, by decide +kernel⟩
theorem fp9_3 : FPI 9 3 := ⟨ft9, (RX9, TX9, 4), rfl, by decide +kernel, by decide +kernel⟩
theorem dX9_bar_0 : decode cX9_bar 0 = .ok (.iconst 1, 1) := by decide +kernel
theorem dX9_bar_1 : decode cX9_bar 1 = .ok (.aload_n 1, 1) := by decide +kernel
theorem dX9_bar_2 : decode cX9_bar 2 = .ok (.getfield 36, 3) := by decide +kernel
theorem dX9_bar_5 : decode cX9_bar 5 = .ok (.ishl, 1) := by decide +kernel
theorem dX9_bar_6 : decode cX9_bar 6 = .ok (.iconst 1, 1) := by decide +kernel
theorem dX9_bar_7 : decode cX9_bar 7 = .ok (.isub, 1) := by decide +kernel
theorem dX9_bar_8 : decode cX9_bar 8 = .ok (.istore_n 3, 1) := by decide +kernel
theorem dX9_bar_9 : decode cX9_bar 9 = .ok (.aload_n 0, 1) := by decide +kernel
theorem dX9_bar_10 : decode cX9_bar 10 = .ok (.getfield 25, 3) := by decide +kernel
theorem dX9_bar_13 : decode cX9_bar 13 = .ok (.iload_n 2, 1) := by decide +kernel
theorem dX9_bar_14 : decode cX9_bar 14 = .ok (.aload_n 1, 1) := by decide +kernel
theorem dX9_bar_15 : decode cX9_bar 15 = .ok (.getfield 36, 3) := by decide +kernel
theorem dX9_bar_18 : decode cX9_bar 18 = .ok (.imul, 1) := by decide +kernel
theorem dX9_bar_19 : decode cX9_bar 19 = .ok (.iushr, 1) := by decide +kernel
theorem dX9_bar_20 : decode cX9_bar 20 = .ok (.iload_n 3, 1) := by decide +kernel
theorem dX9_bar_21 : decode cX9_bar 21 = .ok (.iand, 1) := by decide +kernel
theorem dX9_bar_22 : decode cX9_bar 22 = .ok (.istore 4, 2) := by decide +kernel
theorem dX9_bar_24 : decode cX9_bar 24 = .ok (.iconst 0, 1) := by decide +kernel
theorem dX9_bar_25 : decode cX9_bar 25 = .ok (.istore 5, 2) := by decide +kernel
theorem dX9_bar_27 : decode cX9_bar 27 = .ok (.iload 5, 2) := by decide +kernel
theorem dX9_bar_29 : decode cX9_bar 29 = .ok (.aload_n 1, 1) := by decide +kernel
theorem dX9_bar_30 : decode cX9_bar 30 = .ok (.getfield 39, 3) := by decide +kernel
theorem dX9_bar_33 : decode cX9_bar 33 = .ok (.if_icmp .ge 59, 3) := by decide +kernel
theorem dX9_bar_36 : decode cX9_bar 36 = .ok (.iload 4, 2) := by decide +kernel
theorem dX9_bar_38 : decode cX9_bar 38 = .ok (.aload_n 0, 1) := by decide +kernel
theorem dX9_bar_39 : decode cX9_bar 39 = .ok (.getfield 25, 3) := by decide +kernel
theorem dX9_bar_42 : decode cX9_bar 42 = .ok (.iload 5, 2) := by decide +kernel
theorem dX9_bar_44 : decode cX9_bar 44 = .ok (.aload_n 1, 1) := by decide +kernel
theorem dX9_bar_45 : decode cX9_bar 45 = .ok (.getfield 36, 3) := by decide +kernel
theorem dX9_bar_48 : decode cX9_bar 48 = .ok (.imul, 1) := by decide +kernel
theorem dX9_bar_49 : decode cX9_bar 49 = .ok (.iushr, 1) := by decide +kernel
theorem dX9_bar_50 : decode cX9_bar 50 = .ok (.iand, 1) := by decide +kernel
theorem dX9_bar_51 : decode cX9_bar 51 = .ok (.istore 6, 2) := by decide +kernel
theorem dX9_bar_53 : decode cX9_bar 53 = .ok (.iload 5, 2) := by decide +kernel
theorem dX9_bar_55 : decode cX9_bar 55 = .ok (.iload_n 2, 1) := by decide +kernel
theorem dX9_bar_56 : decode cX9_bar 56 = .ok (.if_icmp .eq 30, 3) := by decide +kernel
theorem dX9_bar_59 : decode cX9_bar 59 = .ok (.iload 6, 2) := by decide +kernel
theorem dX9_bar_61 : decode cX9_bar 61 = .ok (.invokestatic 52, 3) := by decide +kernel
theorem dX9_bar_64 : decode cX9_bar 64 = .ok (.iconst 1, 1) := by decide +kernel
theorem dX9_bar_65 : decode cX9_bar 65 = .ok (.if_icmp .le 21, 3) := by decide +kernel
theorem dX9_bar_68 : decode cX9_bar 68 = .ok (.aload_n 0, 1) := by decide +kernel
theorem dX9_bar_69 : decode cX9_bar 69 = .ok (.dup, 1) := by decide +kernel
theorem dX9_bar_70 : decode cX9_bar 70 = .ok (.getfield 29, 3) := by decide +kernel
theorem dX9_bar_73 : decode cX9_bar 73 = .ok (.iload 6, 2) := by decide +kernel
theorem dX9_bar_75 : decode cX9_bar 75 = .ok (.iload_n 2, 1) := by decide +kernel
theorem dX9_bar_76 : decode cX9_bar 76 = .ok (.aload_n 1, 1) := by decide +kernel
theorem dX9_bar_77 : decode cX9_bar 77 = .ok (.getfield 36, 3) := by decide +kernel
theorem dX9_bar_80 : decode cX9_bar 80 = .ok (.imul, 1) := by decide +kernel
theorem dX9_bar_81 : decode cX9_bar 81 = .ok (.ishl, 1) := by decide +kernel
theorem dX9_bar_82 : decode cX9_bar 82 = .ok (.ior, 1) := by decide +kernel
theorem dX9_bar_83 : decode cX9_bar 83 = .ok (.putfield 29, 3) := by decide +kernel
theorem dX9_bar_86 : decode cX9_bar 86 = .ok (.iinc 5 1, 3) := by decide +kernel
theorem dX9_bar_89 : decode cX9_bar 89 = .ok (.goto (-62), 3) := by decide +kernel
theorem dX9_bar_92 : decode cX9_bar 92 = .ok (.return_, 1) := by decide +kernel
def rmX9_bar : Room := { frames := 1, cells := 0, slots := 0, locals := 20 }
set_option maxRecDepth 100000 in
def fX9_bar_J86 (N : Nat) (g : Gs) (x0 : Nat) (x1 : Nat) (x2 : Int32) (K27 : Int32 × Int32 × Ds → Option (Unit × Ds)) (y4 : Int32) (y5 : Int32) (d : Ds) : Option (Unit × Ds) := bd (y5 + 1) fun u10 => (K27 (y4, u10, d))
set_option maxHeartbeats 4000000 in
set_option maxRecDepth 100000 in
theorem tX9_bar_86 {p : Program} {l : Launch} {e : Env} {s : State} {m : MethodId} {args : Array Value} {below : List Frame} {meth : Method} {c : Code} {D : va_G} {cy : Nat → ClassId} {B : Bs} (C : Cx p s m args c cX9_bar 7 RX9 D cy B) (hr : meth.sig.returnType = none) (hlocks : meth.locks = false) {N : Nat} {g : Gs} {x0 : Nat} {x1 : Nat} {x2 : Int32}  {dz : Ds} {K27 : Int32 × Int32 × Ds → Option (Unit × Ds)} (hK27 : ∀ a, K27 a = some ((), dz) → WB p l e rmX9_bar s m args below meth c 7 D cy B 0 0 (MQ below (QV D cy B g dz) args s 0 0 (wA B)) g a.2.2 [(0, .ref (ad B x0)), (1, .ref (ad B x1)), (2, .int x2), (4, .int a.1), (5, .int a.2.1)] 27 []) {y4 : Int32} {y5 : Int32} {d : Ds} (hf : fX9_bar_J86 N g x0 x1 x2 K27 y4 y5 d = some ((), dz)) : WB p l e rmX9_bar s m args below meth c 7 D cy B 0 0 (MQ below (QV D cy B g dz) args s 0 0 (wA B)) g d [(0, .ref (ad B x0)), (1, .ref (ad B x1)), (2, .int x2), (4, .int y4), (5, .int y5)] 86 [] := by
  unfold fX9_bar_J86 at hf
  obtain ⟨u10, eu10, hf⟩ := bd_s hf
  refine b_iinc C dX9_bar_86 4 rfl (by rw [eu10]; rfl) [(5, .int u10), (0, .ref (ad B x0)), (1, .ref (ad B x1)), (2, .int x2), (4, .int y4)] (by decide) rfl ?_
  refine b_goto C (tgt := 27) dX9_bar_89 (by decide) ?_
  refine b_sub [(0, .ref (ad B x0)), (1, .ref (ad B x1)), (2, .int x2), (4, .int y4), (5, .int u10)] [1, 2, 3, 4, 0] rfl ?_
  exact hK27 (y4, u10, d) hf
set_option maxRecDepth 100000 in
def fX9_bar_B27 (N : Nat) (g : Gs) (x0 : Nat) (x1 : Nat) (x2 : Int32) (K27 : Int32 × Int32 × Ds → Option (Unit × Ds)) (y4 : Int32) (y5 : Int32) (d : Ds) : Option (Unit × Ds) := gd (chk g x1 0) <| if (dI d x1 0) ≤ y5 then (some ((), d)) else (gd (chk g x0 9) <| bd (y4 &&& (((dI d x0 2).toUInt32 >>> ((y5 * (dI d x1 1)).toUInt32 &&& Int32.toUInt32 31)).toInt32)) fun u8 => (if y5 = x2 then (fX9_bar_J86 N g x0 x1 x2 K27 y4 y5 d) else (cb (fJ6_bitCount_0f7a4 N g u8 d) fun u13 d11 => (if u13 ≤ (1 : Int32) then (fX9_bar_J86 N g x0 x1 x2 K27 y4 y5 d11) else (bd (sI d11 x0 3 ((dI d11 x0 3) ||| (u8 <<< ((x2 * (dI d11 x1 1)) &&& 31)))) fun d15 => (fX9_bar_J86 N g x0 x1 x2 K27 y4 y5 d15))))))
set_option maxHeartbeats 4000000 in
set_option maxRecDepth 100000 in
theorem tX9_bar_27 {p : Program} {l : Launch} {e : Env} {s : State} {m : MethodId} {args : Array Value} {below : List Frame} {meth : Method} {c : Code} {D : va_G} {cy : Nat → ClassId} {B : Bs} (C : Cx p s m args c cX9_bar 7 RX9 D cy B) (hr : meth.sig.returnType = none) (hlocks : meth.locks = false) {N : Nat} {g : Gs} {x0 : Nat} {x1 : Nat} {x2 : Int32}  {dz : Ds} {K27 : Int32 × Int32 × Ds → Option (Unit × Ds)} (hK27 : ∀ a, K27 a = some ((), dz) → WB p l e rmX9_bar s m args below meth c 7 D cy B 0 0 (MQ below (QV D cy B g dz) args s 0 0 (wA B)) g a.2.2 [(0, .ref (ad B x0)), (1, .ref (ad B x1)), (2, .int x2), (4, .int a.1), (5, .int a.2.1)] 27 []) {y4 : Int32} {y5 : Int32} {d : Ds} (hf : fX9_bar_B27 N g x0 x1 x2 K27 y4 y5 d = some ((), dz)) : WB p l e rmX9_bar s m args below meth c 7 D cy B 0 0 (MQ below (QV D cy B g dz) args s 0 0 (wA B)) g d [(0, .ref (ad B x0)), (1, .ref (ad B x1)), (2, .int x2), (4, .int y4), (5, .int y5)] 27 [] := by
  unfold fX9_bar_B27 at hf
  refine b_iload C dX9_bar_27 4 rfl ?_
  refine b_aload_n C dX9_bar_29 1 rfl rfl ?_
  obtain ⟨h5, hf⟩ := gd_s hf
  refine b_gI C dX9_bar_30 fl_X9_39 h5 ?_
  refine b_icmp_ge C (tgt := 92) dX9_bar_33 (by decide) (fun c6 => ?_) (fun c6 => ?_)
  · have hf := it_s c6 hf
    exact b_vret C hr hlocks hf dX9_bar_92
  · have hf := if_s c6 hf
    refine b_iload C dX9_bar_36 3 rfl ?_
    refine b_aload_n C dX9_bar_38 0 rfl rfl ?_
    obtain ⟨h7, hf⟩ := gd_s hf
    refine b_gI C dX9_bar_39 fl_X9_25 h7 ?_
    refine b_iload C dX9_bar_42 4 rfl ?_
    refine b_aload_n C dX9_bar_44 1 rfl rfl ?_
    refine b_gI C dX9_bar_45 fl_X9_36 h5 ?_
    refine b_imul C dX9_bar_48 ?_
    refine b_iushr C dX9_bar_49 ?_
    refine b_iand C dX9_bar_50 ?_
    obtain ⟨u8, eu8, hf⟩ := bd_s hf
    refine b_topI eu8 ?_
    refine b_istore C dX9_bar_51 [(6, .int u8), (0, .ref (ad B x0)), (1, .ref (ad B x1)), (2, .int x2), (4, .int y4), (5, .int y5)] (by decide) rfl ?_
    refine b_iload C dX9_bar_53 5 rfl ?_
    refine b_iload_n C dX9_bar_55 3 rfl rfl ?_
    refine b_icmp_eq C (tgt := 86) dX9_bar_56 (by decide) (fun c9 => ?_) (fun c9 => ?_)
    · have hf := it_s c9 hf
      refine b_sub [(0, .ref (ad B x0)), (1, .ref (ad B x1)), (2, .int x2), (4, .int y4), (5, .int y5)] [1, 2, 3, 4, 5] rfl ?_
      exact tX9_bar_86 C hr hlocks hK27 hf
    · have hf := if_s c9 hf
      refine b_iload C dX9_bar_59 0 rfl ?_
      obtain ⟨u13, d11, k12, hf⟩ := cb_s hf
      refine b_cSI C [] dX9_bar_61 (kJ6_bitCount_0f7a4 l D cy B k12) lv_X9_52 ⟨rfl, rfl, Nat.le_of_ble_eq_true rfl, Nat.le_of_ble_eq_true rfl⟩ rfl (Nat.le_of_ble_eq_true rfl) ⟨Nat.zero_le _, Nat.zero_le _⟩ rfl ?_
      refine b_iconst C (v := 1) dX9_bar_64 (by decide) ?_
      refine b_icmp_le C (tgt := 86) dX9_bar_65 (by decide) (fun c14 => ?_) (fun c14 => ?_)
      · have hf := it_s c14 hf
        refine b_sub [(0, .ref (ad B x0)), (1, .ref (ad B x1)), (2, .int x2), (4, .int y4), (5, .int y5)] [1, 2, 3, 4, 5] rfl ?_
        exact tX9_bar_86 C hr hlocks hK27 hf
      · have hf := if_s c14 hf
        refine b_aload_n C dX9_bar_68 1 rfl rfl ?_
        refine b_dup C dX9_bar_69 rfl ?_
        refine b_gI C dX9_bar_70 fl_X9_29 h7 ?_
        refine b_iload C dX9_bar_73 0 rfl ?_
        refine b_iload_n C dX9_bar_75 3 rfl rfl ?_
        refine b_aload_n C dX9_bar_76 2 rfl rfl ?_
        refine b_gI C dX9_bar_77 fl_X9_36 h5 ?_
        refine b_imul C dX9_bar_80 ?_
        refine b_ishl C dX9_bar_81 ?_
        refine b_ior C dX9_bar_82 ?_
        obtain ⟨d15, ed15, hf⟩ := bd_s hf
        refine b_pI C dX9_bar_83 fl_X9_29 fp9_3 h7 ed15 ?_
        refine b_sub [(0, .ref (ad B x0)), (1, .ref (ad B x1)), (2, .int x2), (4, .int y4), (5, .int y5)] [1, 2, 3, 4, 5] rfl ?_
        exact tX9_bar_86 C hr hlocks hK27 hf
def fX9_bar_L27 (N : Nat) (g : Gs) (x0 : Nat) (x1 : Nat) (x2 : Int32) : Int32 × Int32 × Ds → Option (Unit × Ds) := lp (fun K27 a => fX9_bar_B27 N g x0 x1 x2 K27 a.1 a.2.1 a.2.2) N
theorem tX9_bar_L27 {p : Program} {l : Launch} {e : Env} {s : State} {m : MethodId} {args : Array Value} {below : List Frame} {meth : Method} {c : Code} {D : va_G} {cy : Nat → ClassId} {B : Bs} (C : Cx p s m args c cX9_bar 7 RX9 D cy B) (hr : meth.sig.returnType = none) (hlocks : meth.locks = false) {N : Nat} {g : Gs} {x0 : Nat} {x1 : Nat} {x2 : Int32}  {dz : Ds} (a : Int32 × Int32 × Ds) (hf : fX9_bar_L27 N g x0 x1 x2 a = some ((), dz)) : WB p l e rmX9_bar s m args below meth c 7 D cy B 0 0 (MQ below (QV D cy B g dz) args s 0 0 (wA B)) g a.2.2 [(0, .ref (ad B x0)), (1, .ref (ad B x1)), (2, .int x2), (4, .int a.1), (5, .int a.2.1)] 27 [] :=
  lp_w (fun K27 hK27 a ha => tX9_bar_27 C hr hlocks hK27 ha) N a hf
set_option maxRecDepth 100000 in
def fX9_bar (N : Nat) (g : Gs) (x0 : Nat) (x1 : Nat) (x2 : Int32) (d : Ds) : Option (Unit × Ds) := gd (chk g x1 0) <| bd ((((1 : Int32) <<< ((dI d x1 1) &&& 31)) - 1)) fun u2 => (gd (chk g x0 9) <| bd ((((dI d x0 2).toUInt32 >>> ((x2 * (dI d x1 1)).toUInt32 &&& Int32.toUInt32 31)).toInt32) &&& u2) fun u4 => (fX9_bar_L27 N g x0 x1 x2 (u4, 0, d)))
set_option maxHeartbeats 4000000 in
set_option maxRecDepth 100000 in
theorem tX9_bar_E {p : Program} {l : Launch} {e : Env} {s : State} {m : MethodId} {args : Array Value} {below : List Frame} {meth : Method} {c : Code} {D : va_G} {cy : Nat → ClassId} {B : Bs} (C : Cx p s m args c cX9_bar 7 RX9 D cy B) (hr : meth.sig.returnType = none) (hlocks : meth.locks = false) {N : Nat} {g : Gs} {x0 : Nat} {x1 : Nat} {x2 : Int32}  {dz : Ds} {d : Ds} (hf : fX9_bar N g x0 x1 x2 d = some ((), dz)) : WB p l e rmX9_bar s m args below meth c 7 D cy B 0 0 (MQ below (QV D cy B g dz) args s 0 0 (wA B)) g d [(0, .ref (ad B x0)), (1, .ref (ad B x1)), (2, .int x2)] 0 [] := by
  unfold fX9_bar at hf
  refine b_iconst C (v := 1) dX9_bar_0 (by decide) ?_
  refine b_aload_n C dX9_bar_1 1 rfl rfl ?_
  obtain ⟨h1, hf⟩ := gd_s hf
  refine b_gI C dX9_bar_2 fl_X9_36 h1 ?_
  refine b_ishl C dX9_bar_5 ?_
  refine b_iconst C (v := 1) dX9_bar_6 (by decide) ?_
  refine b_isub C dX9_bar_7 ?_
  obtain ⟨u2, eu2, hf⟩ := bd_s hf
  refine b_topI eu2 ?_
  refine b_istore_n C dX9_bar_8 rfl [(3, .int u2), (0, .ref (ad B x0)), (1, .ref (ad B x1)), (2, .int x2)] (by decide) rfl ?_
  refine b_aload_n C dX9_bar_9 1 rfl rfl ?_
  obtain ⟨h3, hf⟩ := gd_s hf
  refine b_gI C dX9_bar_10 fl_X9_25 h3 ?_
  refine b_iload_n C dX9_bar_13 3 rfl rfl ?_
  refine b_aload_n C dX9_bar_14 2 rfl rfl ?_
  refine b_gI C dX9_bar_15 fl_X9_36 h1 ?_
  refine b_imul C dX9_bar_18 ?_
  refine b_iushr C dX9_bar_19 ?_
  refine b_iload_n C dX9_bar_20 0 rfl rfl ?_
  refine b_iand C dX9_bar_21 ?_
  obtain ⟨u4, eu4, hf⟩ := bd_s hf
  refine b_topI eu4 ?_
  refine b_istore C dX9_bar_22 [(4, .int u4), (3, .int u2), (0, .ref (ad B x0)), (1, .ref (ad B x1)), (2, .int x2)] (by decide) rfl ?_
  refine b_iconst C (v := 0) dX9_bar_24 (by decide) ?_
  refine b_istore C dX9_bar_25 [(5, .int 0), (4, .int u4), (3, .int u2), (0, .ref (ad B x0)), (1, .ref (ad B x1)), (2, .int x2)] (by decide) rfl ?_
  refine b_sub [(0, .ref (ad B x0)), (1, .ref (ad B x1)), (2, .int x2), (4, .int u4), (5, .int 0)] [3, 4, 5, 1, 0] rfl ?_
  exact tX9_bar_L27 C hr hlocks (u4, 0, d) hf
theorem kX9_bar (l : Launch) (D : va_G) (cy : Nat → ClassId) (B : Bs) {N : Nat} {g : Gs} {x0 : Nat} {x1 : Nat} {x2 : Int32}  {dz : Ds} {d : Ds} (hf : fX9_bar N g x0 x1 x2 d = some ((), dz)) : Met l yX9_bar (.code yX9_bar cX9_bar 7 none :: wl) rmX9_bar (PC D cy B [.ref (ad B x0), .ref (ad B x1), .int x2] g d) (QV D cy B g dz) 0 0 (wA B) :=
  met_of (by decide +kernel) (Nat.le_of_ble_eq_true rfl) (fun p e s m args below meth c C hr hlocks _ => b_sub [(0, .ref (ad B x0)), (1, .ref (ad B x1)), (2, .int x2)] [0, 1, 2] rfl (tX9_bar_E C hr hlocks hf))
/-! KeyMatrix$Wiring.follow(LKeyMatrix$Board;I)V -/
theorem yo_X9_join : yX9_join.cls ≠ "java/lang/invoke/MethodHandle" ∧ yX9_join.cls ≠ "java/lang/invoke/VarHandle" ∧ (parseMethodDescriptor yX9_join.desc).map (fun d => d.parameters.length) = some 2 := by decide +kernel
theorem co_X9_join : Cond.code yX9_join cX9_join 7 none ∈ wl := mW (mT4 (List.mem_of_getElem? (i := 42) (by decide +kernel))) rfl
theorem in_X9_join : Cond.initialized yX9_join.cls ∈ wl := mW (mT1 (List.mem_of_getElem? (i := 6) (by decide +kernel))) rfl
theorem im_X9_join : Cond.instanceMethod yX9_join ∈ wl := mW (mT4 (List.mem_of_getElem? (i := 41) (by decide +kernel))) rfl
theorem se_X9_join : Cond.selects yX9_join.cls yX9_join yX9_join ∈ wl := mW (mT0 (List.mem_of_getElem? (i := 17) (by decide +kernel))) rfl
theorem lv_X9_15 : LV RX9 15 yX9_join cX9_join 7 none 2 9 := ⟨⟨(RX9, TX9, 4), rfl, rfl⟩, yo_X9_join, mW (mT4 (List.mem_of_getElem? (i := 39) (by decide +kernel))) rfl, im_X9_join, se_X9_join, in_X9_join, co_X9_join⟩
theorem fl_X9_19 : FLI RX9 19 0 2 := ⟨⟨RX0, TX0, 19, rfl, by decide, inl0, Or.inr (mT1 (List.mem_of_getElem? (i := 116) (by decide +kernel)))⟩, by decide, by decide +kernel⟩
theorem fp9_2 : FPI 9 2 := ⟨ft9, (RX9, TX9, 4), rfl, by decide +kernel, by decide +kernel⟩
theorem yo_X9_bar : yX9_bar.cls ≠ "java/lang/invoke/MethodHandle" ∧ yX9_bar.cls ≠ "java/lang/invoke/VarHandle" ∧ (parseMethodDescriptor yX9_bar.desc).map (fun d => d.parameters.length) = some 2 := by decide +kernel
theorem co_X9_bar : Cond.code yX9_bar cX9_bar 7 none ∈ wl := mW (mT4 (List.mem_of_getElem? (i := 48) (by decide +kernel))) rfl
theorem in_X9_bar : Cond.initialized yX9_bar.cls ∈ wl := mW (mT1 (List.mem_of_getElem? (i := 6) (by decide +kernel))) rfl
theorem im_X9_bar : Cond.instanceMethod yX9_bar ∈ wl := mW (mT4 (List.mem_of_getElem? (i := 47) (by decide +kernel))) rfl
theorem se_X9_bar : Cond.selects yX9_bar.cls yX9_bar yX9_bar ∈ wl := mW (mT0 (List.mem_of_getElem? (i := 18) (by decide +kernel))) rfl
theorem lv_X9_42 : LV RX9 42 yX9_bar cX9_bar 7 none 2 9 := ⟨⟨(RX9, TX9, 4), rfl, rfl⟩, yo_X9_bar, mW (mT4 (List.mem_of_getElem? (i := 45) (by decide +kernel))) rfl, im_X9_bar, se_X9_bar, in_X9_bar, co_X9_bar⟩
theorem dX9_follow_0 : decode cX9_follow 0 = .ok (.aload_n 0, 1) := by decide +kernel
theorem dX9_follow_1 : decode cX9_follow 1 = .ok (.aload_n 1, 1) := by decide +kernel
theorem dX9_follow_2 : decode cX9_follow 2 = .ok (.iload_n 2, 1) := by decide +kernel
theorem dX9_follow_3 : decode cX9_follow 3 = .ok (.invokevirtual 15, 3) := by decide +kernel
theorem dX9_follow_6 : decode cX9_follow 6 = .ok (.aload_n 1, 1) := by decide +kernel
theorem dX9_follow_7 : decode cX9_follow 7 = .ok (.getfield 19, 3) := by decide +kernel
theorem dX9_follow_10 : decode cX9_follow 10 = .ok (.ifCond .eq 14, 3) := by decide +kernel
theorem dX9_follow_13 : decode cX9_follow 13 = .ok (.aload_n 0, 1) := by decide +kernel
theorem dX9_follow_14 : decode cX9_follow 14 = .ok (.iload_n 2, 1) := by decide +kernel
theorem dX9_follow_15 : decode cX9_follow 15 = .ok (.putfield 25, 3) := by decide +kernel
theorem dX9_follow_18 : decode cX9_follow 18 = .ok (.aload_n 0, 1) := by decide +kernel
theorem dX9_follow_19 : decode cX9_follow 19 = .ok (.iconst 0, 1) := by decide +kernel
theorem dX9_follow_20 : decode cX9_follow 20 = .ok (.putfield 29, 3) := by decide +kernel
theorem dX9_follow_23 : decode cX9_follow 23 = .ok (.return_, 1) := by decide +kernel
theorem dX9_follow_24 : decode cX9_follow 24 = .ok (.aload_n 0, 1) := by decide +kernel
theorem dX9_follow_25 : decode cX9_follow 25 = .ok (.iconst 0, 1) := by decide +kernel
theorem dX9_follow_26 : decode cX9_follow 26 = .ok (.putfield 25, 3) := by decide +kernel
theorem dX9_follow_29 : decode cX9_follow 29 = .ok (.iconst 0, 1) := by decide +kernel
theorem dX9_follow_30 : decode cX9_follow 30 = .ok (.istore_n 3, 1) := by decide +kernel
theorem dX9_follow_31 : decode cX9_follow 31 = .ok (.aload_n 1, 1) := by decide +kernel
theorem dX9_follow_32 : decode cX9_follow 32 = .ok (.iload_n 3, 1) := by decide +kernel
theorem dX9_follow_33 : decode cX9_follow 33 = .ok (.invokevirtual 32, 3) := by decide +kernel
theorem dX9_follow_36 : decode cX9_follow 36 = .ok (.ifCond .eq 54, 3) := by decide +kernel
theorem dX9_follow_39 : decode cX9_follow 39 = .ok (.iload_n 3, 1) := by decide +kernel
theorem dX9_follow_40 : decode cX9_follow 40 = .ok (.bipush 24, 2) := by decide +kernel
theorem dX9_follow_42 : decode cX9_follow 42 = .ok (.if_icmp .ge 48, 3) := by decide +kernel
theorem dX9_follow_45 : decode cX9_follow 45 = .ok (.aload_n 0, 1) := by decide +kernel
theorem dX9_follow_46 : decode cX9_follow 46 = .ok (.getfield 9, 3) := by decide +kernel
theorem dX9_follow_49 : decode cX9_follow 49 = .ok (.iload_n 3, 1) := by decide +kernel
theorem dX9_follow_50 : decode cX9_follow 50 = .ok (.aload_n 1, 1) := by decide +kernel
theorem dX9_follow_51 : decode cX9_follow 51 = .ok (.getfield 36, 3) := by decide +kernel
theorem dX9_follow_54 : decode cX9_follow 54 = .ok (.idiv, 1) := by decide +kernel
theorem dX9_follow_55 : decode cX9_follow 55 = .ok (.iaload, 1) := by decide +kernel
theorem dX9_follow_56 : decode cX9_follow 56 = .ok (.aload_n 0, 1) := by decide +kernel
theorem dX9_follow_57 : decode cX9_follow 57 = .ok (.getfield 9, 3) := by decide +kernel
theorem dX9_follow_60 : decode cX9_follow 60 = .ok (.iconst 4, 1) := by decide +kernel
theorem dX9_follow_61 : decode cX9_follow 61 = .ok (.iload_n 3, 1) := by decide +kernel
theorem dX9_follow_62 : decode cX9_follow 62 = .ok (.aload_n 1, 1) := by decide +kernel
theorem dX9_follow_63 : decode cX9_follow 63 = .ok (.getfield 36, 3) := by decide +kernel
theorem dX9_follow_66 : decode cX9_follow 66 = .ok (.irem, 1) := by decide +kernel
theorem dX9_follow_67 : decode cX9_follow 67 = .ok (.iadd, 1) := by decide +kernel
theorem dX9_follow_68 : decode cX9_follow 68 = .ok (.iaload, 1) := by decide +kernel
theorem dX9_follow_69 : decode cX9_follow 69 = .ok (.if_icmp .ne 15, 3) := by decide +kernel
theorem dX9_follow_72 : decode cX9_follow 72 = .ok (.aload_n 0, 1) := by decide +kernel
theorem dX9_follow_73 : decode cX9_follow 73 = .ok (.dup, 1) := by decide +kernel
theorem dX9_follow_74 : decode cX9_follow 74 = .ok (.getfield 25, 3) := by decide +kernel
theorem dX9_follow_77 : decode cX9_follow 77 = .ok (.iconst 1, 1) := by decide +kernel
theorem dX9_follow_78 : decode cX9_follow 78 = .ok (.iload_n 3, 1) := by decide +kernel
theorem dX9_follow_79 : decode cX9_follow 79 = .ok (.ishl, 1) := by decide +kernel
theorem dX9_follow_80 : decode cX9_follow 80 = .ok (.ior, 1) := by decide +kernel
theorem dX9_follow_81 : decode cX9_follow 81 = .ok (.putfield 25, 3) := by decide +kernel
theorem dX9_follow_84 : decode cX9_follow 84 = .ok (.iinc 3 1, 3) := by decide +kernel
theorem dX9_follow_87 : decode cX9_follow 87 = .ok (.goto (-56), 3) := by decide +kernel
theorem dX9_follow_90 : decode cX9_follow 90 = .ok (.aload_n 0, 1) := by decide +kernel
theorem dX9_follow_91 : decode cX9_follow 91 = .ok (.iconst 0, 1) := by decide +kernel
theorem dX9_follow_92 : decode cX9_follow 92 = .ok (.putfield 29, 3) := by decide +kernel
theorem dX9_follow_95 : decode cX9_follow 95 = .ok (.iconst 0, 1) := by decide +kernel
theorem dX9_follow_96 : decode cX9_follow 96 = .ok (.istore_n 3, 1) := by decide +kernel
theorem dX9_follow_97 : decode cX9_follow 97 = .ok (.iload_n 3, 1) := by decide +kernel
theorem dX9_follow_98 : decode cX9_follow 98 = .ok (.aload_n 1, 1) := by decide +kernel
theorem dX9_follow_99 : decode cX9_follow 99 = .ok (.getfield 39, 3) := by decide +kernel
theorem dX9_follow_102 : decode cX9_follow 102 = .ok (.if_icmp .ge 15, 3) := by decide +kernel
theorem dX9_follow_105 : decode cX9_follow 105 = .ok (.aload_n 0, 1) := by decide +kernel
theorem dX9_follow_106 : decode cX9_follow 106 = .ok (.aload_n 1, 1) := by decide +kernel
theorem dX9_follow_107 : decode cX9_follow 107 = .ok (.iload_n 3, 1) := by decide +kernel
theorem dX9_follow_108 : decode cX9_follow 108 = .ok (.invokevirtual 42, 3) := by decide +kernel
theorem dX9_follow_111 : decode cX9_follow 111 = .ok (.iinc 3 1, 3) := by decide +kernel
theorem dX9_follow_114 : decode cX9_follow 114 = .ok (.goto (-17), 3) := by decide +kernel
theorem dX9_follow_117 : decode cX9_follow 117 = .ok (.return_, 1) := by decide +kernel
def rmX9_follow : Room := { frames := 3, cells := 0, slots := 0, locals := 67 }
set_option maxRecDepth 100000 in
def fX9_follow_B97 (N : Nat) (g : Gs) (x0 : Nat) (x1 : Nat) (x2 : Int32) (K97 : Int32 × Ds → Option (Unit × Ds)) (y3 : Int32) (d : Ds) : Option (Unit × Ds) := gd (chk g x1 0) <| if (dI d x1 0) ≤ y3 then (some ((), d)) else (gd (chk g x0 9) <| cv (fX9_bar N g x0 x1 y3 d) fun d17 => (bd (y3 + 1) fun u19 => (K97 (u19, d17))))
set_option maxHeartbeats 4000000 in
set_option maxRecDepth 100000 in
theorem tX9_follow_97 {p : Program} {l : Launch} {e : Env} {s : State} {m : MethodId} {args : Array Value} {below : List Frame} {meth : Method} {c : Code} {D : va_G} {cy : Nat → ClassId} {B : Bs} (C : Cx p s m args c cX9_follow 4 RX9 D cy B) (hr : meth.sig.returnType = none) (hlocks : meth.locks = false) {N : Nat} {g : Gs} {x0 : Nat} {x1 : Nat} {x2 : Int32}  {dz : Ds} {K97 : Int32 × Ds → Option (Unit × Ds)} (hK97 : ∀ a, K97 a = some ((), dz) → WB p l e rmX9_follow s m args below meth c 4 D cy B 0 0 (MQ below (QV D cy B g dz) args s 0 0 (wA B)) g a.2 [(0, .ref (ad B x0)), (1, .ref (ad B x1)), (2, .int x2), (3, .int a.1)] 97 []) {y3 : Int32} {d : Ds} (hf : fX9_follow_B97 N g x0 x1 x2 K97 y3 d = some ((), dz)) : WB p l e rmX9_follow s m args below meth c 4 D cy B 0 0 (MQ below (QV D cy B g dz) args s 0 0 (wA B)) g d [(0, .ref (ad B x0)), (1, .ref (ad B x1)), (2, .int x2), (3, .int y3)] 97 [] := by
  unfold fX9_follow_B97 at hf
  refine b_iload_n C dX9_follow_97 3 rfl rfl ?_
  refine b_aload_n C dX9_follow_98 1 rfl rfl ?_
  obtain ⟨h14, hf⟩ := gd_s hf
  refine b_gI C dX9_follow_99 fl_X9_39 h14 ?_
  refine b_icmp_ge C (tgt := 117) dX9_follow_102 (by decide) (fun c15 => ?_) (fun c15 => ?_)
  · have hf := it_s c15 hf
    exact b_vret C hr hlocks hf dX9_follow_117
  · have hf := if_s c15 hf
    refine b_aload_n C dX9_follow_105 0 rfl rfl ?_
    refine b_aload_n C dX9_follow_106 1 rfl rfl ?_
    refine b_iload_n C dX9_follow_107 3 rfl rfl ?_
    obtain ⟨h16, hf⟩ := gd_s hf
    obtain ⟨d17, k18, hf⟩ := cv_s hf
    refine b_cVN C [] dX9_follow_108 (kX9_bar l D cy B k18) lv_X9_42 ⟨rfl, rfl, Nat.le_of_ble_eq_true rfl, Nat.le_of_ble_eq_true rfl⟩ h16 (by decide) rfl (Nat.le_of_ble_eq_true rfl) ⟨Nat.zero_le _, Nat.zero_le _⟩ rfl ?_
    obtain ⟨u19, eu19, hf⟩ := bd_s hf
    refine b_iinc C dX9_follow_111 3 rfl (by rw [eu19]; rfl) [(3, .int u19), (0, .ref (ad B x0)), (1, .ref (ad B x1)), (2, .int x2)] (by decide) rfl ?_
    refine b_goto C (tgt := 97) dX9_follow_114 (by decide) ?_
    refine b_sub [(0, .ref (ad B x0)), (1, .ref (ad B x1)), (2, .int x2), (3, .int u19)] [1, 2, 3, 0] rfl ?_
    exact hK97 (u19, d17) hf
def fX9_follow_L97 (N : Nat) (g : Gs) (x0 : Nat) (x1 : Nat) (x2 : Int32) : Int32 × Ds → Option (Unit × Ds) := lp (fun K97 a => fX9_follow_B97 N g x0 x1 x2 K97 a.1 a.2) N
theorem tX9_follow_L97 {p : Program} {l : Launch} {e : Env} {s : State} {m : MethodId} {args : Array Value} {below : List Frame} {meth : Method} {c : Code} {D : va_G} {cy : Nat → ClassId} {B : Bs} (C : Cx p s m args c cX9_follow 4 RX9 D cy B) (hr : meth.sig.returnType = none) (hlocks : meth.locks = false) {N : Nat} {g : Gs} {x0 : Nat} {x1 : Nat} {x2 : Int32}  {dz : Ds} (a : Int32 × Ds) (hf : fX9_follow_L97 N g x0 x1 x2 a = some ((), dz)) : WB p l e rmX9_follow s m args below meth c 4 D cy B 0 0 (MQ below (QV D cy B g dz) args s 0 0 (wA B)) g a.2 [(0, .ref (ad B x0)), (1, .ref (ad B x1)), (2, .int x2), (3, .int a.1)] 97 [] :=
  lp_w (fun K97 hK97 a ha => tX9_follow_97 C hr hlocks hK97 ha) N a hf
set_option maxRecDepth 100000 in
def fX9_follow_J90 (N : Nat) (g : Gs) (x0 : Nat) (x1 : Nat) (x2 : Int32) (d : Ds) : Option (Unit × Ds) := gd (chk g x0 9) <| bd (sI d x0 3 0) fun d13 => (fX9_follow_L97 N g x0 x1 x2 (0, d13))
set_option maxHeartbeats 4000000 in
set_option maxRecDepth 100000 in
theorem tX9_follow_90 {p : Program} {l : Launch} {e : Env} {s : State} {m : MethodId} {args : Array Value} {below : List Frame} {meth : Method} {c : Code} {D : va_G} {cy : Nat → ClassId} {B : Bs} (C : Cx p s m args c cX9_follow 4 RX9 D cy B) (hr : meth.sig.returnType = none) (hlocks : meth.locks = false) {N : Nat} {g : Gs} {x0 : Nat} {x1 : Nat} {x2 : Int32}  {dz : Ds} {d : Ds} (hf : fX9_follow_J90 N g x0 x1 x2 d = some ((), dz)) : WB p l e rmX9_follow s m args below meth c 4 D cy B 0 0 (MQ below (QV D cy B g dz) args s 0 0 (wA B)) g d [(0, .ref (ad B x0)), (1, .ref (ad B x1)), (2, .int x2)] 90 [] := by
  unfold fX9_follow_J90 at hf
  refine b_aload_n C dX9_follow_90 0 rfl rfl ?_
  refine b_iconst C (v := 0) dX9_follow_91 (by decide) ?_
  obtain ⟨h12, hf⟩ := gd_s hf
  obtain ⟨d13, ed13, hf⟩ := bd_s hf
  refine b_pI C dX9_follow_92 fl_X9_29 fp9_3 h12 ed13 ?_
  refine b_iconst C (v := 0) dX9_follow_95 (by decide) ?_
  refine b_istore_n C dX9_follow_96 rfl [(3, .int 0), (0, .ref (ad B x0)), (1, .ref (ad B x1)), (2, .int x2)] (by decide) rfl ?_
  refine b_sub [(0, .ref (ad B x0)), (1, .ref (ad B x1)), (2, .int x2), (3, .int 0)] [1, 2, 3, 0] rfl ?_
  exact tX9_follow_L97 C hr hlocks (0, d13) hf
set_option maxRecDepth 100000 in
def fX9_follow_J84 (N : Nat) (g : Gs) (x0 : Nat) (x1 : Nat) (x2 : Int32) (K31 : Int32 × Ds → Option (Unit × Ds)) (y3 : Int32) (d : Ds) : Option (Unit × Ds) := bd (y3 + 1) fun u28 => (K31 (u28, d))
set_option maxHeartbeats 4000000 in
set_option maxRecDepth 100000 in
theorem tX9_follow_84 {p : Program} {l : Launch} {e : Env} {s : State} {m : MethodId} {args : Array Value} {below : List Frame} {meth : Method} {c : Code} {D : va_G} {cy : Nat → ClassId} {B : Bs} (C : Cx p s m args c cX9_follow 4 RX9 D cy B) (hr : meth.sig.returnType = none) (hlocks : meth.locks = false) {N : Nat} {g : Gs} {x0 : Nat} {x1 : Nat} {x2 : Int32}  {dz : Ds} {K31 : Int32 × Ds → Option (Unit × Ds)} (hK31 : ∀ a, K31 a = some ((), dz) → WB p l e rmX9_follow s m args below meth c 4 D cy B 0 0 (MQ below (QV D cy B g dz) args s 0 0 (wA B)) g a.2 [(0, .ref (ad B x0)), (1, .ref (ad B x1)), (2, .int x2), (3, .int a.1)] 31 []) {y3 : Int32} {d : Ds} (hf : fX9_follow_J84 N g x0 x1 x2 K31 y3 d = some ((), dz)) : WB p l e rmX9_follow s m args below meth c 4 D cy B 0 0 (MQ below (QV D cy B g dz) args s 0 0 (wA B)) g d [(0, .ref (ad B x0)), (1, .ref (ad B x1)), (2, .int x2), (3, .int y3)] 84 [] := by
  unfold fX9_follow_J84 at hf
  obtain ⟨u28, eu28, hf⟩ := bd_s hf
  refine b_iinc C dX9_follow_84 3 rfl (by rw [eu28]; rfl) [(3, .int u28), (0, .ref (ad B x0)), (1, .ref (ad B x1)), (2, .int x2)] (by decide) rfl ?_
  refine b_goto C (tgt := 31) dX9_follow_87 (by decide) ?_
  refine b_sub [(0, .ref (ad B x0)), (1, .ref (ad B x1)), (2, .int x2), (3, .int u28)] [1, 2, 3, 0] rfl ?_
  exact hK31 (u28, d) hf
set_option maxRecDepth 100000 in
def fX9_follow_B31 (N : Nat) (g : Gs) (x0 : Nat) (x1 : Nat) (x2 : Int32) (K31 : Int32 × Ds → Option (Unit × Ds)) (y3 : Int32) (d : Ds) : Option (Unit × Ds) := gd (chk g x1 0) <| cb (fX0_hasKey N g x1 y3 d) fun u10 d8 => (if u10 = 0 then (fX9_follow_J90 N g x0 x1 x2 d8) else (if (24 : Int32) ≤ y3 then (fX9_follow_J90 N g x0 x1 x2 d8) else (gd (chk g x0 9) <| ob (gR g x0 0) fun r22 => (gd (¬ (dI d8 x1 1) = 0) <| gd (chk g r22 102) <| gd (¬ ((y3 / (dI d8 x1 1)) < 0 ∨ gL g r22 ≤ (y3 / (dI d8 x1 1)).toNatClampNeg)) <| gd (¬ (((4 : Int32) + (y3 - y3 / (dI d8 x1 1) * (dI d8 x1 1))) < 0 ∨ gL g r22 ≤ ((4 : Int32) + (y3 - y3 / (dI d8 x1 1) * (dI d8 x1 1))).toNatClampNeg)) <| if (dI d8 r22 (y3 / (dI d8 x1 1)).toNatClampNeg) = (dI d8 r22 ((4 : Int32) + (y3 - y3 / (dI d8 x1 1) * (dI d8 x1 1))).toNatClampNeg) then (bd (sI d8 x0 2 ((dI d8 x0 2) ||| ((1 : Int32) <<< (y3 &&& 31)))) fun d29 => (fX9_follow_J84 N g x0 x1 x2 K31 y3 d29)) else (fX9_follow_J84 N g x0 x1 x2 K31 y3 d8)))))
set_option maxHeartbeats 4000000 in
set_option maxRecDepth 100000 in
theorem tX9_follow_31 {p : Program} {l : Launch} {e : Env} {s : State} {m : MethodId} {args : Array Value} {below : List Frame} {meth : Method} {c : Code} {D : va_G} {cy : Nat → ClassId} {B : Bs} (C : Cx p s m args c cX9_follow 4 RX9 D cy B) (hr : meth.sig.returnType = none) (hlocks : meth.locks = false) {N : Nat} {g : Gs} {x0 : Nat} {x1 : Nat} {x2 : Int32}  {dz : Ds} {K31 : Int32 × Ds → Option (Unit × Ds)} (hK31 : ∀ a, K31 a = some ((), dz) → WB p l e rmX9_follow s m args below meth c 4 D cy B 0 0 (MQ below (QV D cy B g dz) args s 0 0 (wA B)) g a.2 [(0, .ref (ad B x0)), (1, .ref (ad B x1)), (2, .int x2), (3, .int a.1)] 31 []) {y3 : Int32} {d : Ds} (hf : fX9_follow_B31 N g x0 x1 x2 K31 y3 d = some ((), dz)) : WB p l e rmX9_follow s m args below meth c 4 D cy B 0 0 (MQ below (QV D cy B g dz) args s 0 0 (wA B)) g d [(0, .ref (ad B x0)), (1, .ref (ad B x1)), (2, .int x2), (3, .int y3)] 31 [] := by
  unfold fX9_follow_B31 at hf
  refine b_aload_n C dX9_follow_31 1 rfl rfl ?_
  refine b_iload_n C dX9_follow_32 3 rfl rfl ?_
  obtain ⟨h7, hf⟩ := gd_s hf
  obtain ⟨u10, d8, k9, hf⟩ := cb_s hf
  refine b_cVI C [] dX9_follow_33 (kX0_hasKey l D cy B k9) lv_X9_32 ⟨rfl, rfl, Nat.le_of_ble_eq_true rfl, Nat.le_of_ble_eq_true rfl⟩ h7 (by decide) rfl (Nat.le_of_ble_eq_true rfl) ⟨Nat.zero_le _, Nat.zero_le _⟩ rfl ?_
  refine b_if_eq C (tgt := 90) dX9_follow_36 (by decide) (fun c11 => ?_) (fun c11 => ?_)
  · have hf := it_s c11 hf
    refine b_sub [(0, .ref (ad B x0)), (1, .ref (ad B x1)), (2, .int x2)] [0, 1, 2] rfl ?_
    exact tX9_follow_90 C hr hlocks hf
  · have hf := if_s c11 hf
    refine b_iload_n C dX9_follow_39 3 rfl rfl ?_
    refine b_bipush C (v := 24) dX9_follow_40 (by decide) ?_
    refine b_icmp_ge C (tgt := 90) dX9_follow_42 (by decide) (fun c20 => ?_) (fun c20 => ?_)
    · have hf := it_s c20 hf
      refine b_sub [(0, .ref (ad B x0)), (1, .ref (ad B x1)), (2, .int x2)] [0, 1, 2] rfl ?_
      exact tX9_follow_90 C hr hlocks hf
    · have hf := if_s c20 hf
      refine b_aload_n C dX9_follow_45 0 rfl rfl ?_
      obtain ⟨h21, hf⟩ := gd_s hf
      obtain ⟨r22, er22, hf⟩ := ob_s hf
      refine b_gR C dX9_follow_46 fl_X9_9 h21 er22 ?_
      refine b_iload_n C dX9_follow_49 3 rfl rfl ?_
      refine b_aload_n C dX9_follow_50 1 rfl rfl ?_
      refine b_gI C dX9_follow_51 fl_X9_36 h7 ?_
      obtain ⟨h23, hf⟩ := gd_s hf
      refine b_idiv C dX9_follow_54 h23 ?_
      obtain ⟨h24, hf⟩ := gd_s hf
      obtain ⟨h25, hf⟩ := gd_s hf
      refine b_iald C h24 h25 dX9_follow_55 ?_
      refine b_aload_n C dX9_follow_56 0 rfl rfl ?_
      refine b_gR C dX9_follow_57 fl_X9_9 h21 er22 ?_
      refine b_iconst C (v := 4) dX9_follow_60 (by decide) ?_
      refine b_iload_n C dX9_follow_61 3 rfl rfl ?_
      refine b_aload_n C dX9_follow_62 1 rfl rfl ?_
      refine b_gI C dX9_follow_63 fl_X9_36 h7 ?_
      refine b_irem C dX9_follow_66 h23 ?_
      refine b_iadd C dX9_follow_67 ?_
      obtain ⟨h26, hf⟩ := gd_s hf
      refine b_iald C h24 h26 dX9_follow_68 ?_
      refine b_icmp_ne C (tgt := 84) dX9_follow_69 (by decide) (fun c27 => ?_) (fun c27 => ?_)
      · have hf := if_s c27 hf
        refine b_sub [(0, .ref (ad B x0)), (1, .ref (ad B x1)), (2, .int x2), (3, .int y3)] [0, 1, 2, 3] rfl ?_
        exact tX9_follow_84 C hr hlocks hK31 hf
      · have hf := it_s c27 hf
        refine b_aload_n C dX9_follow_72 0 rfl rfl ?_
        refine b_dup C dX9_follow_73 rfl ?_
        refine b_gI C dX9_follow_74 fl_X9_25 h21 ?_
        refine b_iconst C (v := 1) dX9_follow_77 (by decide) ?_
        refine b_iload_n C dX9_follow_78 3 rfl rfl ?_
        refine b_ishl C dX9_follow_79 ?_
        refine b_ior C dX9_follow_80 ?_
        obtain ⟨d29, ed29, hf⟩ := bd_s hf
        refine b_pI C dX9_follow_81 fl_X9_25 fp9_2 h21 ed29 ?_
        refine b_sub [(0, .ref (ad B x0)), (1, .ref (ad B x1)), (2, .int x2), (3, .int y3)] [0, 1, 2, 3] rfl ?_
        exact tX9_follow_84 C hr hlocks hK31 hf
def fX9_follow_L31 (N : Nat) (g : Gs) (x0 : Nat) (x1 : Nat) (x2 : Int32) : Int32 × Ds → Option (Unit × Ds) := lp (fun K31 a => fX9_follow_B31 N g x0 x1 x2 K31 a.1 a.2) N
theorem tX9_follow_L31 {p : Program} {l : Launch} {e : Env} {s : State} {m : MethodId} {args : Array Value} {below : List Frame} {meth : Method} {c : Code} {D : va_G} {cy : Nat → ClassId} {B : Bs} (C : Cx p s m args c cX9_follow 4 RX9 D cy B) (hr : meth.sig.returnType = none) (hlocks : meth.locks = false) {N : Nat} {g : Gs} {x0 : Nat} {x1 : Nat} {x2 : Int32}  {dz : Ds} (a : Int32 × Ds) (hf : fX9_follow_L31 N g x0 x1 x2 a = some ((), dz)) : WB p l e rmX9_follow s m args below meth c 4 D cy B 0 0 (MQ below (QV D cy B g dz) args s 0 0 (wA B)) g a.2 [(0, .ref (ad B x0)), (1, .ref (ad B x1)), (2, .int x2), (3, .int a.1)] 31 [] :=
  lp_w (fun K31 hK31 a ha => tX9_follow_31 C hr hlocks hK31 ha) N a hf
set_option maxRecDepth 100000 in
def fX9_follow (N : Nat) (g : Gs) (x0 : Nat) (x1 : Nat) (x2 : Int32) (d : Ds) : Option (Unit × Ds) := gd (chk g x0 9) <| cv (fX9_join N g x0 x1 x2 d) fun d2 => (gd (chk g x1 0) <| if (dI d2 x1 2) = 0 then (bd (sI d2 x0 2 0) fun d6 => (fX9_follow_L31 N g x0 x1 x2 (0, d6))) else (bd (sI d2 x0 2 x2) fun d30 => (bd (sI d30 x0 3 0) fun d31 => (some ((), d31)))))
set_option maxHeartbeats 4000000 in
set_option maxRecDepth 100000 in
theorem tX9_follow_E {p : Program} {l : Launch} {e : Env} {s : State} {m : MethodId} {args : Array Value} {below : List Frame} {meth : Method} {c : Code} {D : va_G} {cy : Nat → ClassId} {B : Bs} (C : Cx p s m args c cX9_follow 4 RX9 D cy B) (hr : meth.sig.returnType = none) (hlocks : meth.locks = false) {N : Nat} {g : Gs} {x0 : Nat} {x1 : Nat} {x2 : Int32}  {dz : Ds} {d : Ds} (hf : fX9_follow N g x0 x1 x2 d = some ((), dz)) : WB p l e rmX9_follow s m args below meth c 4 D cy B 0 0 (MQ below (QV D cy B g dz) args s 0 0 (wA B)) g d [(0, .ref (ad B x0)), (1, .ref (ad B x1)), (2, .int x2)] 0 [] := by
  unfold fX9_follow at hf
  refine b_aload_n C dX9_follow_0 0 rfl rfl ?_
  refine b_aload_n C dX9_follow_1 1 rfl rfl ?_
  refine b_iload_n C dX9_follow_2 2 rfl rfl ?_
  obtain ⟨h1, hf⟩ := gd_s hf
  obtain ⟨d2, k3, hf⟩ := cv_s hf
  refine b_cVN C [] dX9_follow_3 (kX9_join l D cy B k3) lv_X9_15 ⟨rfl, rfl, Nat.le_of_ble_eq_true rfl, Nat.le_of_ble_eq_true rfl⟩ h1 (by decide) rfl (Nat.le_of_ble_eq_true rfl) ⟨Nat.zero_le _, Nat.zero_le _⟩ rfl ?_
  refine b_aload_n C dX9_follow_6 1 rfl rfl ?_
  obtain ⟨h4, hf⟩ := gd_s hf
  refine b_gI C dX9_follow_7 fl_X9_19 h4 ?_
  refine b_if_eq C (tgt := 24) dX9_follow_10 (by decide) (fun c5 => ?_) (fun c5 => ?_)
  · have hf := it_s c5 hf
    refine b_aload_n C dX9_follow_24 0 rfl rfl ?_
    refine b_iconst C (v := 0) dX9_follow_25 (by decide) ?_
    obtain ⟨d6, ed6, hf⟩ := bd_s hf
    refine b_pI C dX9_follow_26 fl_X9_25 fp9_2 h1 ed6 ?_
    refine b_iconst C (v := 0) dX9_follow_29 (by decide) ?_
    refine b_istore_n C dX9_follow_30 rfl [(3, .int 0), (0, .ref (ad B x0)), (1, .ref (ad B x1)), (2, .int x2)] (by decide) rfl ?_
    refine b_sub [(0, .ref (ad B x0)), (1, .ref (ad B x1)), (2, .int x2), (3, .int 0)] [1, 2, 3, 0] rfl ?_
    exact tX9_follow_L31 C hr hlocks (0, d6) hf
  · have hf := if_s c5 hf
    refine b_aload_n C dX9_follow_13 0 rfl rfl ?_
    refine b_iload_n C dX9_follow_14 2 rfl rfl ?_
    obtain ⟨d30, ed30, hf⟩ := bd_s hf
    refine b_pI C dX9_follow_15 fl_X9_25 fp9_2 h1 ed30 ?_
    refine b_aload_n C dX9_follow_18 0 rfl rfl ?_
    refine b_iconst C (v := 0) dX9_follow_19 (by decide) ?_
    obtain ⟨d31, ed31, hf⟩ := bd_s hf
    refine b_pI C dX9_follow_20 fl_X9_29 fp9_3 h1 ed31 ?_
    exact b_vret C hr hlocks hf dX9_follow_23
theorem kX9_follow (l : Launch) (D : va_G) (cy : Nat → ClassId) (B : Bs) {N : Nat} {g : Gs} {x0 : Nat} {x1 : Nat} {x2 : Int32}  {dz : Ds} {d : Ds} (hf : fX9_follow N g x0 x1 x2 d = some ((), dz)) : Met l yX9_follow (.code yX9_follow cX9_follow 4 none :: wl) rmX9_follow (PC D cy B [.ref (ad B x0), .ref (ad B x1), .int x2] g d) (QV D cy B g dz) 0 0 (wA B) :=
  met_of (by decide +kernel) (Nat.le_of_ble_eq_true rfl) (fun p e s m args below meth c C hr hlocks _ => b_sub [(0, .ref (ad B x0)), (1, .ref (ad B x1)), (2, .int x2)] [0, 1, 2] rfl (tX9_follow_E C hr hlocks hf))
/-! KeyMatrix.<init>()V -/
theorem oi_X11_3 : Cond.methodLink RX11 3 objectInit ∈ wl := mW (mT1 (List.mem_of_getElem? (i := 27) (by decide +kernel))) rfl
theorem ar_byte : Cond.arrayClass (newarray.typeOf .byte) ∈ wl := mW (mT1 (List.mem_of_getElem? (i := 63) (by decide +kernel))) rfl
theorem inl10 : ∀ w ∈ u_ws RX11 TX11 10, w ∈ wl := by
  have h0 : u_ws RX11 TX11 10 = [Cond.laysFinal "KeyMatrix" "KeyMatrix" "tape" "[B", Cond.lays "KeyMatrix" "KeyMatrix" "tapeLength" "I", Cond.lays "KeyMatrix" "KeyMatrix" "faultPlace" "I", Cond.laysFinal "KeyMatrix" "KeyMatrix" "reader" "LKeyMatrix$TextReader;", Cond.laysFinal "KeyMatrix" "KeyMatrix" "board" "LKeyMatrix$Board;", Cond.laysFinal "KeyMatrix" "KeyMatrix" "wiring" "LKeyMatrix$Wiring;", Cond.laysFinal "KeyMatrix" "KeyMatrix" "course" "LKeyMatrix$Course;", Cond.laysFinal "KeyMatrix" "KeyMatrix" "preview" "LKeyMatrix$Course;", Cond.laysFinal "KeyMatrix" "KeyMatrix" "slots" "[LKeyMatrix$Course;", Cond.lays "KeyMatrix" "KeyMatrix" "slotsHeld" "I"] := by decide +kernel
  rw [h0]
  exact List.forall_mem_cons.mpr ⟨mW (mT3 (List.mem_of_getElem? (i := 0) (by decide +kernel))) rfl, List.forall_mem_cons.mpr ⟨mW (mT3 (List.mem_of_getElem? (i := 2) (by decide +kernel))) rfl, List.forall_mem_cons.mpr ⟨mW (mT3 (List.mem_of_getElem? (i := 4) (by decide +kernel))) rfl, List.forall_mem_cons.mpr ⟨mW (mT3 (List.mem_of_getElem? (i := 6) (by decide +kernel))) rfl, List.forall_mem_cons.mpr ⟨mW (mT3 (List.mem_of_getElem? (i := 8) (by decide +kernel))) rfl, List.forall_mem_cons.mpr ⟨mW (mT3 (List.mem_of_getElem? (i := 10) (by decide +kernel))) rfl, List.forall_mem_cons.mpr ⟨mW (mT3 (List.mem_of_getElem? (i := 12) (by decide +kernel))) rfl, List.forall_mem_cons.mpr ⟨mW (mT3 (List.mem_of_getElem? (i := 14) (by decide +kernel))) rfl, List.forall_mem_cons.mpr ⟨mW (mT3 (List.mem_of_getElem? (i := 16) (by decide +kernel))) rfl, List.forall_mem_cons.mpr ⟨mW (mT3 (List.mem_of_getElem? (i := 18) (by decide +kernel))) rfl, fun _ h => absurd h List.not_mem_nil⟩⟩⟩⟩⟩⟩⟩⟩⟩⟩
theorem fq_X11_9 : FLP RX11 9 10 0 := ⟨⟨RX11, TX11, 10, rfl, by decide, inl10, mW (mT2 (List.mem_of_getElem? (i := 230) (by decide +kernel))) rfl⟩, by decide, by decide +kernel⟩
theorem ft10 : FT 10 := ⟨RX11, TX11, 10, tyX11, rfl, tyX11_ok, nmX11⟩
theorem fr10_0 : FPR 10 0 RX11 := ⟨ft10, (RX11, TX11, 10), rfl, by decide +kernel, rfl, fun ty h a => by rw [tyX11_ok 0 (by decide)] at h; cases h; exact ⟨rfl, rfl⟩⟩
theorem fl_X11_13 : FLI RX11 13 10 1 := ⟨⟨RX11, TX11, 10, rfl, by decide, inl10, Or.inl (mW (mT2 (List.mem_of_getElem? (i := 231) (by decide +kernel))) rfl)⟩, by decide, by decide +kernel⟩
theorem fp10_1 : FPI 10 1 := ⟨ft10, (RX11, TX11, 10), rfl, by decide +kernel, by decide +kernel⟩
theorem fl_X11_17 : FLI RX11 17 10 2 := ⟨⟨RX11, TX11, 10, rfl, by decide, inl10, Or.inl (mW (mT2 (List.mem_of_getElem? (i := 232) (by decide +kernel))) rfl)⟩, by decide, by decide +kernel⟩
theorem fp10_2 : FPI 10 2 := ⟨ft10, (RX11, TX11, 10), rfl, by decide +kernel, by decide +kernel⟩
theorem df7 : ∀ j, j < 10 → defaultValue (tyX7 j) = if fR 7 j then .null else .int 0 := by
  intro j hj
  rcases (show j = 0 ∨ j = 1 ∨ j = 2 ∨ j = 3 ∨ j = 4 ∨ j = 5 ∨ j = 6 ∨ j = 7 ∨ j = 8 ∨ j = 9 by omega) with rfl | rfl | rfl | rfl | rfl | rfl | rfl | rfl | rfl | rfl
  · rw [show fR 7 0 = true by decide +kernel]; rfl
  · rw [show fR 7 1 = true by decide +kernel]; rfl
  · rw [show fR 7 2 = true by decide +kernel]; rfl
  · rw [show fR 7 3 = false by decide +kernel]; rfl
  · rw [show fR 7 4 = false by decide +kernel]; rfl
  · rw [show fR 7 5 = false by decide +kernel]; rfl
  · rw [show fR 7 6 = false by decide +kernel]; rfl
  · rw [show fR 7 7 = false by decide +kernel]; rfl
  · rw [show fR 7 8 = false by decide +kernel]; rfl
  · rw [show fR 7 9 = false by decide +kernel]; rfl
theorem ic7 : Cond.instantiable RX7 10 ∈ wl := mW (mT1 (List.mem_of_getElem? (i := 31) (by decide +kernel))) rfl
theorem ii7 : Cond.initialized RX7 ∈ wl := mW (mT1 (List.mem_of_getElem? (i := 2) (by decide +kernel))) rfl
theorem nw_X11_20 : FNW RX11 20 7 10 := ⟨RX7, TX7, tyX7, rfl, by decide, inl7, tyX7_ok, mW (mT1 (List.mem_of_getElem? (i := 30) (by decide +kernel))) rfl, ic7, ii7, df7⟩
theorem yo_X7_init : yX7_init.cls ≠ "java/lang/invoke/MethodHandle" ∧ yX7_init.cls ≠ "java/lang/invoke/VarHandle" ∧ (parseMethodDescriptor yX7_init.desc).map (fun d => d.parameters.length) = some 0 := by decide +kernel
theorem co_X7_init : Cond.code yX7_init cX7_init 1 none ∈ wl := mW (mT1 (List.mem_of_getElem? (i := 34) (by decide +kernel))) rfl
theorem in_X7_init : Cond.initialized yX7_init.cls ∈ wl := mW (mT1 (List.mem_of_getElem? (i := 2) (by decide +kernel))) rfl
theorem im_X7_init : Cond.instanceMethod yX7_init ∈ wl := mW (mT1 (List.mem_of_getElem? (i := 33) (by decide +kernel))) rfl
theorem lv_X11_22 : LCo RX11 22 yX7_init cX7_init 1 0 := ⟨rfl, yo_X7_init, Or.inr (mT1 (List.mem_of_getElem? (i := 32) (by decide +kernel))), im_X7_init, in_X7_init, co_X7_init⟩
theorem fq_X11_23 : FLP RX11 23 10 3 := ⟨⟨RX11, TX11, 10, rfl, by decide, inl10, mW (mT2 (List.mem_of_getElem? (i := 233) (by decide +kernel))) rfl⟩, by decide, by decide +kernel⟩
theorem fr10_3 : FPR 10 3 RX11 := ⟨ft10, (RX11, TX11, 10), rfl, by decide +kernel, rfl, fun ty h a => by rw [tyX11_ok 3 (by decide)] at h; cases h; exact ⟨rfl, rfl⟩⟩
theorem nw_X11_27 : FNW RX11 27 0 19 := ⟨RX0, TX0, tyX0, rfl, by decide, inl0, tyX0_ok, mW (mT1 (List.mem_of_getElem? (i := 238) (by decide +kernel))) rfl, ic0, ii0, df0⟩
theorem lv_X11_29 : LCo RX11 29 yX0_init cX0_init 2 0 := ⟨rfl, yo_X0_init, Or.inl (mW (mT1 (List.mem_of_getElem? (i := 239) (by decide +kernel))) rfl), im_X0_init, in_X0_init, co_X0_init⟩
theorem fq_X11_30 : FLP RX11 30 10 4 := ⟨⟨RX11, TX11, 10, rfl, by decide, inl10, mW (mT2 (List.mem_of_getElem? (i := 234) (by decide +kernel))) rfl⟩, by decide, by decide +kernel⟩
theorem fr10_4 : FPR 10 4 RX11 := ⟨ft10, (RX11, TX11, 10), rfl, by decide +kernel, rfl, fun ty h a => by rw [tyX11_ok 4 (by decide)] at h; cases h; exact ⟨rfl, rfl⟩⟩
theorem df9 : ∀ j, j < 4 → defaultValue (tyX9 j) = if fR 9 j then .null else .int 0 := by
  intro j hj
  rcases (show j = 0 ∨ j = 1 ∨ j = 2 ∨ j = 3 by omega) with rfl | rfl | rfl | rfl
  · rw [show fR 9 0 = true by decide +kernel]; rfl
  · rw [show fR 9 1 = false by decide +kernel]; rfl
  · rw [show fR 9 2 = false by decide +kernel]; rfl
  · rw [show fR 9 3 = false by decide +kernel]; rfl
theorem ic9 : Cond.instantiable RX9 4 ∈ wl := mW (mT2 (List.mem_of_getElem? (i := 1) (by decide +kernel))) rfl
theorem ii9 : Cond.initialized RX9 ∈ wl := mW (mT1 (List.mem_of_getElem? (i := 6) (by decide +kernel))) rfl
theorem nw_X11_34 : FNW RX11 34 9 4 := ⟨RX9, TX9, tyX9, rfl, by decide, inl9, tyX9_ok, mW (mT2 (List.mem_of_getElem? (i := 0) (by decide +kernel))) rfl, ic9, ii9, df9⟩
theorem yo_X9_init : yX9_init.cls ≠ "java/lang/invoke/MethodHandle" ∧ yX9_init.cls ≠ "java/lang/invoke/VarHandle" ∧ (parseMethodDescriptor yX9_init.desc).map (fun d => d.parameters.length) = some 0 := by decide +kernel
theorem co_X9_init : Cond.code yX9_init cX9_init 1 none ∈ wl := mW (mT2 (List.mem_of_getElem? (i := 4) (by decide +kernel))) rfl
theorem in_X9_init : Cond.initialized yX9_init.cls ∈ wl := mW (mT1 (List.mem_of_getElem? (i := 6) (by decide +kernel))) rfl
theorem im_X9_init : Cond.instanceMethod yX9_init ∈ wl := mW (mT2 (List.mem_of_getElem? (i := 3) (by decide +kernel))) rfl
theorem lv_X11_36 : LCo RX11 36 yX9_init cX9_init 1 0 := ⟨rfl, yo_X9_init, Or.inr (mT2 (List.mem_of_getElem? (i := 2) (by decide +kernel))), im_X9_init, in_X9_init, co_X9_init⟩
theorem fq_X11_37 : FLP RX11 37 10 5 := ⟨⟨RX11, TX11, 10, rfl, by decide, inl10, mW (mT2 (List.mem_of_getElem? (i := 235) (by decide +kernel))) rfl⟩, by decide, by decide +kernel⟩
theorem fr10_5 : FPR 10 5 RX11 := ⟨ft10, (RX11, TX11, 10), rfl, by decide +kernel, rfl, fun ty h a => by rw [tyX11_ok 5 (by decide)] at h; cases h; exact ⟨rfl, rfl⟩⟩
theorem df1 : ∀ j, j < 6 → defaultValue (tyX1 j) = if fR 1 j then .null else .int 0 := by
  intro j hj
  rcases (show j = 0 ∨ j = 1 ∨ j = 2 ∨ j = 3 ∨ j = 4 ∨ j = 5 by omega) with rfl | rfl | rfl | rfl | rfl | rfl
  · rw [show fR 1 0 = true by decide +kernel]; rfl
  · rw [show fR 1 1 = true by decide +kernel]; rfl
  · rw [show fR 1 2 = true by decide +kernel]; rfl
  · rw [show fR 1 3 = true by decide +kernel]; rfl
  · rw [show fR 1 4 = true by decide +kernel]; rfl
  · rw [show fR 1 5 = false by decide +kernel]; rfl
theorem ic1 : Cond.instantiable RX1 6 ∈ wl := mW (mT2 (List.mem_of_getElem? (i := 23) (by decide +kernel))) rfl
theorem ii1 : Cond.initialized RX1 ∈ wl := mW (mT1 (List.mem_of_getElem? (i := 7) (by decide +kernel))) rfl
theorem nw_X11_41 : FNW RX11 41 1 6 := ⟨RX1, TX1, tyX1, rfl, by decide, inl1, tyX1_ok, mW (mT2 (List.mem_of_getElem? (i := 22) (by decide +kernel))) rfl, ic1, ii1, df1⟩
theorem fl_X11_30 : FLR RX11 30 10 4 := ⟨⟨RX11, TX11, 10, rfl, by decide, inl10, Or.inl (mW (mT2 (List.mem_of_getElem? (i := 234) (by decide +kernel))) rfl)⟩, by decide, by decide +kernel⟩
theorem yo_X1_init : yX1_init.cls ≠ "java/lang/invoke/MethodHandle" ∧ yX1_init.cls ≠ "java/lang/invoke/VarHandle" ∧ (parseMethodDescriptor yX1_init.desc).map (fun d => d.parameters.length) = some 1 := by decide +kernel
theorem co_X1_init : Cond.code yX1_init cX1_init 2 none ∈ wl := mW (mT2 (List.mem_of_getElem? (i := 26) (by decide +kernel))) rfl
theorem in_X1_init : Cond.initialized yX1_init.cls ∈ wl := mW (mT1 (List.mem_of_getElem? (i := 7) (by decide +kernel))) rfl
theorem im_X1_init : Cond.instanceMethod yX1_init ∈ wl := mW (mT2 (List.mem_of_getElem? (i := 25) (by decide +kernel))) rfl
theorem lv_X11_43 : LCo RX11 43 yX1_init cX1_init 2 1 := ⟨rfl, yo_X1_init, Or.inl (mW (mT2 (List.mem_of_getElem? (i := 24) (by decide +kernel))) rfl), im_X1_init, in_X1_init, co_X1_init⟩
theorem fq_X11_46 : FLP RX11 46 10 6 := ⟨⟨RX11, TX11, 10, rfl, by decide, inl10, mW (mT2 (List.mem_of_getElem? (i := 236) (by decide +kernel))) rfl⟩, by decide, by decide +kernel⟩
theorem fr10_6 : FPR 10 6 RX11 := ⟨ft10, (RX11, TX11, 10), rfl, by decide +kernel, rfl, fun ty h a => by rw [tyX11_ok 6 (by decide)] at h; cases h; exact ⟨rfl, rfl⟩⟩
theorem fq_X11_50 : FLP RX11 50 10 7 := ⟨⟨RX11, TX11, 10, rfl, by decide, inl10, mW (mT2 (List.mem_of_getElem? (i := 237) (by decide +kernel))) rfl⟩, by decide, by decide +kernel⟩
theorem fr10_7 : FPR 10 7 RX11 := ⟨ft10, (RX11, TX11, 10), rfl, by decide +kernel, rfl, fun ty h a => by rw [tyX11_ok 7 (by decide)] at h; cases h; exact ⟨rfl, rfl⟩⟩
theorem cw_X11_41 : Cond.classLink RX11 41 "KeyMatrix$Course" ∈ wl := mW (mT2 (List.mem_of_getElem? (i := 22) (by decide +kernel))) rfl
theorem fq_X11_53 : FLP RX11 53 10 8 := ⟨⟨RX11, TX11, 10, rfl, by decide, inl10, mW (mT2 (List.mem_of_getElem? (i := 238) (by decide +kernel))) rfl⟩, by decide, by decide +kernel⟩
theorem fr10_8 : FPR 10 8 RX11 := ⟨ft10, (RX11, TX11, 10), rfl, by decide +kernel, rfl, fun ty h a => by rw [tyX11_ok 8 (by decide)] at h; cases h; exact ⟨rfl, rfl⟩⟩
theorem fl_X11_57 : FLI RX11 57 10 9 := ⟨⟨RX11, TX11, 10, rfl, by decide, inl10, Or.inl (mW (mT2 (List.mem_of_getElem? (i := 239) (by decide +kernel))) rfl)⟩, by decide, by decide +kernel⟩
theorem fp10_9 : FPI 10 9 := ⟨ft10, (RX11, TX11, 10), rfl, by decide +kernel, by decide +kernel⟩
theorem fl_X11_53 : FLR RX11 53 10 8 := ⟨⟨RX11, TX11, 10, rfl, by decide, inl10, Or.inl (mW (mT2 (List.mem_of_getElem? (i := 238) (by decide +kernel))) rfl)⟩, by decide, by decide +kernel⟩
theorem dX11_init_0 : decode cX11_init 0 = .ok (.aload_n 0, 1) := by decide +kernel
theorem dX11_init_1 : decode cX11_init 1 = .ok (.invokespecial 3, 3) := by decide +kernel
theorem dX11_init_4 : decode cX11_init 4 = .ok (.aload_n 0, 1) := by decide +kernel
theorem dX11_init_5 : decode cX11_init 5 = .ok (.sipush 2000, 3) := by decide +kernel
theorem dX11_init_8 : decode cX11_init 8 = .ok (.newarray .byte, 2) := by decide +kernel
theorem dX11_init_10 : decode cX11_init 10 = .ok (.putfield 9, 3) := by decide +kernel
theorem dX11_init_13 : decode cX11_init 13 = .ok (.aload_n 0, 1) := by decide +kernel
theorem dX11_init_14 : decode cX11_init 14 = .ok (.iconst 0, 1) := by decide +kernel
theorem dX11_init_15 : decode cX11_init 15 = .ok (.putfield 13, 3) := by decide +kernel
theorem dX11_init_18 : decode cX11_init 18 = .ok (.aload_n 0, 1) := by decide +kernel
theorem dX11_init_19 : decode cX11_init 19 = .ok (.iconst (-1), 1) := by decide +kernel
theorem dX11_init_20 : decode cX11_init 20 = .ok (.putfield 17, 3) := by decide +kernel
theorem dX11_init_23 : decode cX11_init 23 = .ok (.aload_n 0, 1) := by decide +kernel
theorem dX11_init_24 : decode cX11_init 24 = .ok (.new 20, 3) := by decide +kernel
theorem dX11_init_27 : decode cX11_init 27 = .ok (.dup, 1) := by decide +kernel
theorem dX11_init_28 : decode cX11_init 28 = .ok (.invokespecial 22, 3) := by decide +kernel
theorem dX11_init_31 : decode cX11_init 31 = .ok (.putfield 23, 3) := by decide +kernel
theorem dX11_init_34 : decode cX11_init 34 = .ok (.aload_n 0, 1) := by decide +kernel
theorem dX11_init_35 : decode cX11_init 35 = .ok (.new 27, 3) := by decide +kernel
theorem dX11_init_38 : decode cX11_init 38 = .ok (.dup, 1) := by decide +kernel
theorem dX11_init_39 : decode cX11_init 39 = .ok (.invokespecial 29, 3) := by decide +kernel
theorem dX11_init_42 : decode cX11_init 42 = .ok (.putfield 30, 3) := by decide +kernel
theorem dX11_init_45 : decode cX11_init 45 = .ok (.aload_n 0, 1) := by decide +kernel
theorem dX11_init_46 : decode cX11_init 46 = .ok (.new 34, 3) := by decide +kernel
theorem dX11_init_49 : decode cX11_init 49 = .ok (.dup, 1) := by decide +kernel
theorem dX11_init_50 : decode cX11_init 50 = .ok (.invokespecial 36, 3) := by decide +kernel
theorem dX11_init_53 : decode cX11_init 53 = .ok (.putfield 37, 3) := by decide +kernel
theorem dX11_init_56 : decode cX11_init 56 = .ok (.aload_n 0, 1) := by decide +kernel
theorem dX11_init_57 : decode cX11_init 57 = .ok (.new 41, 3) := by decide +kernel
theorem dX11_init_60 : decode cX11_init 60 = .ok (.dup, 1) := by decide +kernel
theorem dX11_init_61 : decode cX11_init 61 = .ok (.aload_n 0, 1) := by decide +kernel
theorem dX11_init_62 : decode cX11_init 62 = .ok (.getfield 30, 3) := by decide +kernel
theorem dX11_init_65 : decode cX11_init 65 = .ok (.invokespecial 43, 3) := by decide +kernel
theorem dX11_init_68 : decode cX11_init 68 = .ok (.putfield 46, 3) := by decide +kernel
theorem dX11_init_71 : decode cX11_init 71 = .ok (.aload_n 0, 1) := by decide +kernel
theorem dX11_init_72 : decode cX11_init 72 = .ok (.new 41, 3) := by decide +kernel
theorem dX11_init_75 : decode cX11_init 75 = .ok (.dup, 1) := by decide +kernel
theorem dX11_init_76 : decode cX11_init 76 = .ok (.aload_n 0, 1) := by decide +kernel
theorem dX11_init_77 : decode cX11_init 77 = .ok (.getfield 30, 3) := by decide +kernel
theorem dX11_init_80 : decode cX11_init 80 = .ok (.invokespecial 43, 3) := by decide +kernel
theorem dX11_init_83 : decode cX11_init 83 = .ok (.putfield 50, 3) := by decide +kernel
theorem dX11_init_86 : decode cX11_init 86 = .ok (.aload_n 0, 1) := by decide +kernel
theorem dX11_init_87 : decode cX11_init 87 = .ok (.iconst 3, 1) := by decide +kernel
theorem dX11_init_88 : decode cX11_init 88 = .ok (.anewarray 41, 3) := by decide +kernel
theorem dX11_init_91 : decode cX11_init 91 = .ok (.putfield 53, 3) := by decide +kernel
theorem dX11_init_94 : decode cX11_init 94 = .ok (.iconst 0, 1) := by decide +kernel
theorem dX11_init_95 : decode cX11_init 95 = .ok (.istore_n 1, 1) := by decide +kernel
theorem dX11_init_96 : decode cX11_init 96 = .ok (.iload_n 1, 1) := by decide +kernel
theorem dX11_init_97 : decode cX11_init 97 = .ok (.iconst 3, 1) := by decide +kernel
theorem dX11_init_98 : decode cX11_init 98 = .ok (.if_icmp .ge 26, 3) := by decide +kernel
theorem dX11_init_101 : decode cX11_init 101 = .ok (.aload_n 0, 1) := by decide +kernel
theorem dX11_init_102 : decode cX11_init 102 = .ok (.getfield 53, 3) := by decide +kernel
theorem dX11_init_105 : decode cX11_init 105 = .ok (.iload_n 1, 1) := by decide +kernel
theorem dX11_init_106 : decode cX11_init 106 = .ok (.new 41, 3) := by decide +kernel
theorem dX11_init_109 : decode cX11_init 109 = .ok (.dup, 1) := by decide +kernel
theorem dX11_init_110 : decode cX11_init 110 = .ok (.aload_n 0, 1) := by decide +kernel
theorem dX11_init_111 : decode cX11_init 111 = .ok (.getfield 30, 3) := by decide +kernel
theorem dX11_init_114 : decode cX11_init 114 = .ok (.invokespecial 43, 3) := by decide +kernel
theorem dX11_init_117 : decode cX11_init 117 = .ok (.aastore, 1) := by decide +kernel
theorem dX11_init_118 : decode cX11_init 118 = .ok (.iinc 1 1, 3) := by decide +kernel
theorem dX11_init_121 : decode cX11_init 121 = .ok (.goto (-25), 3) := by decide +kernel
theorem dX11_init_124 : decode cX11_init 124 = .ok (.aload_n 0, 1) := by decide +kernel
theorem dX11_init_125 : decode cX11_init 125 = .ok (.iconst 0, 1) := by decide +kernel
theorem dX11_init_126 : decode cX11_init 126 = .ok (.putfield 57, 3) := by decide +kernel
theorem dX11_init_129 : decode cX11_init 129 = .ok (.return_, 1) := by decide +kernel
def rmX11_init : Room := { frames := 4, cells := 327, slots := 23557, locals := 85 }
set_option maxRecDepth 100000 in
def fX11_init_B96 (N : Nat)  (x0 : Nat) (n0 s0 : Nat) (K96 : Int32 × Gs × Ds → Option (Gs × Ds)) (y1 : Int32) (g : Gs) (d : Ds) : Option (Gs × Ds) := if (3 : Int32) ≤ y1 then (gd (chk g x0 10) <| bd (sI d x0 9 0) fun d112 => (gd (gN g = n0 + 327 ∧ gS g = s0 + 23557) <| some (g, d112))) else (gd (chk g x0 10) <| ob (gR g x0 8) fun r115 => (gd (gN g < 100000) <| gd (gN g + 1 - n0 ≤ 327 ∧ gS g + 6 - s0 ≤ 23557) <| bd (nG g 1 0 6) fun g118 => (bd (nD g d) fun d119 => (bd (gN g) fun r120 => (gd (chk g118 x0 10) <| ob (gR g118 x0 4) fun r123 => (gd (0 < gN g118) <| cb (fX1_init N r120 r123 g118 d119) fun g125 d126 => (gd (gN g125 = gN g118 + 19 ∧ gS g125 = gS g118 + 3791) <| gd (gN g125 - n0 ≤ 327 ∧ gS g125 - s0 ≤ 23557) <| gd (chk g125 r115 106) <| gd (chk g125 r120 1) <| gd (¬ (y1 < 0 ∨ gL g125 r115 ≤ y1.toNatClampNeg)) <| bd (sR g125 r115 y1.toNatClampNeg r120) fun g134 => (bd (y1 + 1) fun u136 => (K96 (u136, g134, d126))))))))))
set_option maxHeartbeats 4000000 in
set_option maxRecDepth 100000 in
theorem tX11_init_96 {p : Program} {l : Launch} {e : Env} {s : State} {m : MethodId} {args : Array Value} {below : List Frame} {meth : Method} {c : Code} {D : va_G} {cy : Nat → ClassId} {B : Bs} (C : Cx p s m args c cX11_init 2 RX11 D cy B) (hr : meth.sig.returnType = none) (hlocks : meth.locks = false) (hin : meth.name = "<init>") {n0 s0 : Nat} (hz : s.heap.size = B.1 + n0) {N : Nat} {x0 : Nat} {gz : Gs} {dz : Ds} {K96 : Int32 × Gs × Ds → Option (Gs × Ds)} (hK96 : ∀ a, K96 a = some (gz, dz) → n0 ≤ gN a.2.1 → s0 ≤ gS a.2.1 → WB p l e rmX11_init s m args below meth c 2 D cy B (gN a.2.1 - n0) (gS a.2.1 - s0) (MQ below (QV D cy B gz dz) args s 327 23557 (wA B)) a.2.1 a.2.2 [(0, .ref (ad B x0)), (1, .int a.1)] 96 []) {y1 : Int32} {g : Gs} {d : Ds} (hn : n0 ≤ gN g) (hs : s0 ≤ gS g) (hf : fX11_init_B96 N x0 n0 s0 K96 y1 g d = some (gz, dz)) : WB p l e rmX11_init s m args below meth c 2 D cy B (gN g - n0) (gS g - s0) (MQ below (QV D cy B gz dz) args s 327 23557 (wA B)) g d [(0, .ref (ad B x0)), (1, .int y1)] 96 [] := by
  unfold fX11_init_B96 at hf
  refine b_iload_n C dX11_init_96 1 rfl rfl ?_
  refine b_iconst C (v := 3) dX11_init_97 (by decide) ?_
  refine b_icmp_ge C (tgt := 124) dX11_init_98 (by decide) (fun c110 => ?_) (fun c110 => ?_)
  · have hf := it_s c110 hf
    refine b_aload_n C dX11_init_124 0 rfl rfl ?_
    refine b_iconst C (v := 0) dX11_init_125 (by decide) ?_
    obtain ⟨h111, hf⟩ := gd_s hf
    obtain ⟨d112, ed112, hf⟩ := bd_s hf
    refine b_pI C dX11_init_126 fl_X11_57 fp10_9 h111 ed112 ?_
    obtain ⟨h113, hf⟩ := gd_s hf
    exact b_vretC C hr hlocks h113 hf dX11_init_129
  · have hf := if_s c110 hf
    refine b_aload_n C dX11_init_101 0 rfl rfl ?_
    obtain ⟨h114, hf⟩ := gd_s hf
    obtain ⟨r115, er115, hf⟩ := ob_s hf
    refine b_gR C dX11_init_102 fl_X11_53 h114 er115 ?_
    refine b_iload_n C dX11_init_105 1 rfl rfl ?_
    obtain ⟨h116, hf⟩ := gd_s hf
    obtain ⟨h117, hf⟩ := gd_s hf
    obtain ⟨g118, eg118, hf⟩ := bd_s hf
    obtain ⟨d119, ed119, hf⟩ := bd_s hf
    obtain ⟨r120, er120, hf⟩ := bd_s hf
    refine b_new C dX11_init_106 nw_X11_41 hz hn hs h116 h117 eg118 ed119 (fun hn121 hn121s => ?_)
    refine b_topR er120 ?_
    refine b_dup C dX11_init_109 rfl ?_
    refine b_aload_n C dX11_init_110 0 rfl rfl ?_
    obtain ⟨h122, hf⟩ := gd_s hf
    obtain ⟨r123, er123, hf⟩ := ob_s hf
    refine b_gR C dX11_init_111 fl_X11_30 h122 er123 ?_
    obtain ⟨h124, hf⟩ := gd_s hf
    obtain ⟨g125, d126, k127, hf⟩ := cb_s hf
    obtain ⟨h129, hf⟩ := gd_s hf
    obtain ⟨h130, hf⟩ := gd_s hf
    refine b_callC C [.ref (ad B r120), .int y1, .ref (ad B r115)] dX11_init_114 (kX1_init l D cy B k127) lv_X11_43 ⟨rfl, rfl, Nat.le_of_ble_eq_true rfl, Nat.le_of_ble_eq_true rfl⟩ rfl (Nat.le_of_ble_eq_true rfl) hz hn121 hn121s h124 h129 h130 rfl (fun hn128 hn128s => ?_)
    obtain ⟨h131, hf⟩ := gd_s hf
    obtain ⟨h132, hf⟩ := gd_s hf
    obtain ⟨h133, hf⟩ := gd_s hf
    obtain ⟨g134, eg134, hf⟩ := bd_s hf
    refine b_aastCC C dX11_init_117 h131 h132 h133 eg134 ?_
    have hn135 : n0 ≤ gN g134 := by rw [eg134]; exact hn128
    have hn135s : s0 ≤ gS g134 := by rw [eg134]; exact hn128s
    obtain ⟨u136, eu136, hf⟩ := bd_s hf
    refine b_iinc C dX11_init_118 1 rfl (by rw [eu136]; rfl) [(1, .int u136), (0, .ref (ad B x0))] (by decide) rfl ?_
    refine b_goto C (tgt := 96) dX11_init_121 (by decide) ?_
    refine b_sub [(0, .ref (ad B x0)), (1, .int u136)] [1, 0] rfl ?_
    exact hK96 (u136, g134, d126) hf hn135 hn135s
def fX11_init_L96 (N : Nat)  (x0 : Nat) (n0 s0 : Nat) : Int32 × Gs × Ds → Option (Gs × Ds) := lp (fun K96 a => fX11_init_B96 N x0 n0 s0 K96 a.1 a.2.1 a.2.2) N
theorem tX11_init_L96 {p : Program} {l : Launch} {e : Env} {s : State} {m : MethodId} {args : Array Value} {below : List Frame} {meth : Method} {c : Code} {D : va_G} {cy : Nat → ClassId} {B : Bs} (C : Cx p s m args c cX11_init 2 RX11 D cy B) (hr : meth.sig.returnType = none) (hlocks : meth.locks = false) (hin : meth.name = "<init>") {n0 s0 : Nat} (hz : s.heap.size = B.1 + n0) {N : Nat} {x0 : Nat} {gz : Gs} {dz : Ds} (a : Int32 × Gs × Ds) (hn : n0 ≤ gN a.2.1) (hs : s0 ≤ gS a.2.1) (hf : fX11_init_L96 N x0 n0 s0 a = some (gz, dz)) : WB p l e rmX11_init s m args below meth c 2 D cy B (gN a.2.1 - n0) (gS a.2.1 - s0) (MQ below (QV D cy B gz dz) args s 327 23557 (wA B)) a.2.1 a.2.2 [(0, .ref (ad B x0)), (1, .int a.1)] 96 [] := by
  unfold fX11_init_L96 at hf
  exact lp_w (G := fun a => n0 ≤ gN a.2.1 → s0 ≤ gS a.2.1 → WB p l e rmX11_init s m args below meth c 2 D cy B (gN a.2.1 - n0) (gS a.2.1 - s0) (MQ below (QV D cy B gz dz) args s 327 23557 (wA B)) a.2.1 a.2.2 [(0, .ref (ad B x0)), (1, .int a.1)] 96 []) (fun K96 hK96 a ha hn hs => tX11_init_96 C hr hlocks hin hz hK96 hn hs ha) N a hf hn hs
set_option maxRecDepth 100000 in
def fX11_init_E (N : Nat) (x0 : Nat) (n0 s0 : Nat) (g : Gs) (d : Ds) : Option (Gs × Ds) := gd (¬ (2000 : Int32) < 0) <| gd ((2000 : Int32).toNatClampNeg ≤ 60000000) <| gd (gN g < 100000) <| gd (gN g + 1 - n0 ≤ 327 ∧ gS g + (2000 : Int32).toNatClampNeg - s0 ≤ 23557) <| bd (nG g 100 (2000 : Int32).toNatClampNeg (2000 : Int32).toNatClampNeg) fun g5 => (bd (nD g d) fun d6 => (bd (gN g) fun r7 => (gd (chk g5 x0 10) <| bd (sR g5 x0 0 r7) fun g10 => (gd (chk g10 x0 10) <| bd (sI d6 x0 1 0) fun d13 => (bd (sI d13 x0 2 (-1)) fun d14 => (gd (gN g10 < 100000) <| gd (gN g10 + 1 - n0 ≤ 327 ∧ gS g10 + 10 - s0 ≤ 23557) <| bd (nG g10 7 0 10) fun g17 => (bd (nD g10 d14) fun d18 => (bd (gN g10) fun r19 => (gd (0 < gN g17) <| cb (fX7_init N r19 g17 d18) fun g22 d23 => (gd (gN g22 = gN g17 + 114 ∧ gS g22 = gS g17 + 2079) <| gd (gN g22 - n0 ≤ 327 ∧ gS g22 - s0 ≤ 23557) <| gd (chk g22 x0 10) <| bd (sR g22 x0 3 r19) fun g29 => (gd (gN g29 < 100000) <| gd (gN g29 + 1 - n0 ≤ 327 ∧ gS g29 + 19 - s0 ≤ 23557) <| bd (nG g29 0 0 19) fun g33 => (bd (nD g29 d23) fun d34 => (bd (gN g29) fun r35 => (gd (0 < gN g33) <| cb (fX0_init N r35 g33 d34) fun g38 d39 => (gd (gN g38 = gN g33 + 107 ∧ gS g38 = gS g33 + 447) <| gd (gN g38 - n0 ≤ 327 ∧ gS g38 - s0 ≤ 23557) <| gd (chk g38 x0 10) <| bd (sR g38 x0 4 r35) fun g45 => (gd (gN g45 < 100000) <| gd (gN g45 + 1 - n0 ≤ 327 ∧ gS g45 + 4 - s0 ≤ 23557) <| bd (nG g45 9 0 4) fun g49 => (bd (nD g45 d39) fun d50 => (bd (gN g45) fun r51 => (gd (0 < gN g49) <| cb (fX9_init N r51 g49 d50) fun g54 d55 => (gd (gN g54 = gN g49 + 1 ∧ gS g54 = gS g49 + 10) <| gd (gN g54 - n0 ≤ 327 ∧ gS g54 - s0 ≤ 23557) <| gd (chk g54 x0 10) <| bd (sR g54 x0 5 r51) fun g61 => (gd (gN g61 < 100000) <| gd (gN g61 + 1 - n0 ≤ 327 ∧ gS g61 + 6 - s0 ≤ 23557) <| bd (nG g61 1 0 6) fun g65 => (bd (nD g61 d55) fun d66 => (bd (gN g61) fun r67 => (gd (chk g65 x0 10) <| ob (gR g65 x0 4) fun r70 => (gd (0 < gN g65) <| cb (fX1_init N r67 r70 g65 d66) fun g72 d73 => (gd (gN g72 = gN g65 + 19 ∧ gS g72 = gS g65 + 3791) <| gd (gN g72 - n0 ≤ 327 ∧ gS g72 - s0 ≤ 23557) <| gd (chk g72 x0 10) <| bd (sR g72 x0 6 r67) fun g79 => (gd (gN g79 < 100000) <| gd (gN g79 + 1 - n0 ≤ 327 ∧ gS g79 + 6 - s0 ≤ 23557) <| bd (nG g79 1 0 6) fun g83 => (bd (nD g79 d73) fun d84 => (bd (gN g79) fun r85 => (gd (chk g83 x0 10) <| ob (gR g83 x0 4) fun r88 => (gd (0 < gN g83) <| cb (fX1_init N r85 r88 g83 d84) fun g90 d91 => (gd (gN g90 = gN g83 + 19 ∧ gS g90 = gS g83 + 3791) <| gd (gN g90 - n0 ≤ 327 ∧ gS g90 - s0 ≤ 23557) <| gd (chk g90 x0 10) <| bd (sR g90 x0 7 r85) fun g97 => (gd (¬ (3 : Int32) < 0) <| gd ((3 : Int32).toNatClampNeg ≤ 60000000) <| gd (gN g97 < 100000) <| gd (gN g97 + 1 - n0 ≤ 327 ∧ gS g97 + (3 : Int32).toNatClampNeg - s0 ≤ 23557) <| bd (nG g97 106 (3 : Int32).toNatClampNeg (3 : Int32).toNatClampNeg) fun g103 => (bd (nD g97 d91) fun d104 => (bd (gN g97) fun r105 => (gd (chk g103 x0 10) <| bd (sR g103 x0 8 r105) fun g108 => (fX11_init_L96 N x0 n0 s0 (0, g108, d104))))))))))))))))))))))))))))))))))))))
def fX11_init (N : Nat) (x0 : Nat) (g : Gs) (d : Ds) : Option (Gs × Ds) := fX11_init_E N x0 (gN g) (gS g) g d
set_option maxHeartbeats 4000000 in
set_option maxRecDepth 100000 in
theorem tX11_init_E {p : Program} {l : Launch} {e : Env} {s : State} {m : MethodId} {args : Array Value} {below : List Frame} {meth : Method} {c : Code} {D : va_G} {cy : Nat → ClassId} {B : Bs} (C : Cx p s m args c cX11_init 2 RX11 D cy B) (hr : meth.sig.returnType = none) (hlocks : meth.locks = false) (hin : meth.name = "<init>") {n0 s0 : Nat} (hz : s.heap.size = B.1 + n0) {N : Nat} {x0 : Nat} {gz : Gs} {dz : Ds} {g : Gs} {d : Ds} (hn : n0 ≤ gN g) (hs : s0 ≤ gS g) (hf : fX11_init_E N x0 n0 s0 g d = some (gz, dz)) : WB p l e rmX11_init s m args below meth c 2 D cy B (gN g - n0) (gS g - s0) (MQ below (QV D cy B gz dz) args s 327 23557 (wA B)) g d [(0, .ref (ad B x0))] 0 [] := by
  unfold fX11_init_E at hf
  refine b_aload_n C dX11_init_0 0 rfl rfl ?_
  refine b_objInit C oi_X11_3 oi_i oi_c (by decide) (by decide) dX11_init_1 ?_
  refine b_aload_n C dX11_init_4 0 rfl rfl ?_
  refine b_sipush C (v := 2000) dX11_init_5 (by decide) ?_
  obtain ⟨h1, hf⟩ := gd_s hf
  obtain ⟨h2, hf⟩ := gd_s hf
  obtain ⟨h3, hf⟩ := gd_s hf
  obtain ⟨h4, hf⟩ := gd_s hf
  obtain ⟨g5, eg5, hf⟩ := bd_s hf
  obtain ⟨d6, ed6, hf⟩ := bd_s hf
  obtain ⟨r7, er7, hf⟩ := bd_s hf
  refine b_newaB C dX11_init_8 ar_byte hz hn hs h3 h1 h2 h4 eg5 ed6 (fun hn8 hn8s => ?_)
  refine b_topR er7 ?_
  obtain ⟨h9, hf⟩ := gd_s hf
  obtain ⟨g10, eg10, hf⟩ := bd_s hf
  refine b_pRC C dX11_init_10 fq_X11_9 fr10_0 hin h9 eg10 ?_
  have hn11 : n0 ≤ gN g10 := by rw [eg10]; exact hn8
  have hn11s : s0 ≤ gS g10 := by rw [eg10]; exact hn8s
  refine b_aload_n C dX11_init_13 0 rfl rfl ?_
  refine b_iconst C (v := 0) dX11_init_14 (by decide) ?_
  obtain ⟨h12, hf⟩ := gd_s hf
  obtain ⟨d13, ed13, hf⟩ := bd_s hf
  refine b_pI C dX11_init_15 fl_X11_13 fp10_1 h12 ed13 ?_
  refine b_aload_n C dX11_init_18 0 rfl rfl ?_
  refine b_iconst C (v := (-1)) dX11_init_19 (by decide) ?_
  obtain ⟨d14, ed14, hf⟩ := bd_s hf
  refine b_pI C dX11_init_20 fl_X11_17 fp10_2 h12 ed14 ?_
  refine b_aload_n C dX11_init_23 0 rfl rfl ?_
  obtain ⟨h15, hf⟩ := gd_s hf
  obtain ⟨h16, hf⟩ := gd_s hf
  obtain ⟨g17, eg17, hf⟩ := bd_s hf
  obtain ⟨d18, ed18, hf⟩ := bd_s hf
  obtain ⟨r19, er19, hf⟩ := bd_s hf
  refine b_new C dX11_init_24 nw_X11_20 hz hn11 hn11s h15 h16 eg17 ed18 (fun hn20 hn20s => ?_)
  refine b_topR er19 ?_
  refine b_dup C dX11_init_27 rfl ?_
  obtain ⟨h21, hf⟩ := gd_s hf
  obtain ⟨g22, d23, k24, hf⟩ := cb_s hf
  obtain ⟨h26, hf⟩ := gd_s hf
  obtain ⟨h27, hf⟩ := gd_s hf
  refine b_callC C [.ref (ad B r19), .ref (ad B x0)] dX11_init_28 (kX7_init l D cy B k24) lv_X11_22 ⟨rfl, rfl, Nat.le_of_ble_eq_true rfl, Nat.le_of_ble_eq_true rfl⟩ rfl (Nat.le_of_ble_eq_true rfl) hz hn20 hn20s h21 h26 h27 rfl (fun hn25 hn25s => ?_)
  obtain ⟨h28, hf⟩ := gd_s hf
  obtain ⟨g29, eg29, hf⟩ := bd_s hf
  refine b_pRC C dX11_init_31 fq_X11_23 fr10_3 hin h28 eg29 ?_
  have hn30 : n0 ≤ gN g29 := by rw [eg29]; exact hn25
  have hn30s : s0 ≤ gS g29 := by rw [eg29]; exact hn25s
  refine b_aload_n C dX11_init_34 0 rfl rfl ?_
  obtain ⟨h31, hf⟩ := gd_s hf
  obtain ⟨h32, hf⟩ := gd_s hf
  obtain ⟨g33, eg33, hf⟩ := bd_s hf
  obtain ⟨d34, ed34, hf⟩ := bd_s hf
  obtain ⟨r35, er35, hf⟩ := bd_s hf
  refine b_new C dX11_init_35 nw_X11_27 hz hn30 hn30s h31 h32 eg33 ed34 (fun hn36 hn36s => ?_)
  refine b_topR er35 ?_
  refine b_dup C dX11_init_38 rfl ?_
  obtain ⟨h37, hf⟩ := gd_s hf
  obtain ⟨g38, d39, k40, hf⟩ := cb_s hf
  obtain ⟨h42, hf⟩ := gd_s hf
  obtain ⟨h43, hf⟩ := gd_s hf
  refine b_callC C [.ref (ad B r35), .ref (ad B x0)] dX11_init_39 (kX0_init l D cy B k40) lv_X11_29 ⟨rfl, rfl, Nat.le_of_ble_eq_true rfl, Nat.le_of_ble_eq_true rfl⟩ rfl (Nat.le_of_ble_eq_true rfl) hz hn36 hn36s h37 h42 h43 rfl (fun hn41 hn41s => ?_)
  obtain ⟨h44, hf⟩ := gd_s hf
  obtain ⟨g45, eg45, hf⟩ := bd_s hf
  refine b_pRC C dX11_init_42 fq_X11_30 fr10_4 hin h44 eg45 ?_
  have hn46 : n0 ≤ gN g45 := by rw [eg45]; exact hn41
  have hn46s : s0 ≤ gS g45 := by rw [eg45]; exact hn41s
  refine b_aload_n C dX11_init_45 0 rfl rfl ?_
  obtain ⟨h47, hf⟩ := gd_s hf
  obtain ⟨h48, hf⟩ := gd_s hf
  obtain ⟨g49, eg49, hf⟩ := bd_s hf
  obtain ⟨d50, ed50, hf⟩ := bd_s hf
  obtain ⟨r51, er51, hf⟩ := bd_s hf
  refine b_new C dX11_init_46 nw_X11_34 hz hn46 hn46s h47 h48 eg49 ed50 (fun hn52 hn52s => ?_)
  refine b_topR er51 ?_
  refine b_dup C dX11_init_49 rfl ?_
  obtain ⟨h53, hf⟩ := gd_s hf
  obtain ⟨g54, d55, k56, hf⟩ := cb_s hf
  obtain ⟨h58, hf⟩ := gd_s hf
  obtain ⟨h59, hf⟩ := gd_s hf
  refine b_callC C [.ref (ad B r51), .ref (ad B x0)] dX11_init_50 (kX9_init l D cy B k56) lv_X11_36 ⟨rfl, rfl, Nat.le_of_ble_eq_true rfl, Nat.le_of_ble_eq_true rfl⟩ rfl (Nat.le_of_ble_eq_true rfl) hz hn52 hn52s h53 h58 h59 rfl (fun hn57 hn57s => ?_)
  obtain ⟨h60, hf⟩ := gd_s hf
  obtain ⟨g61, eg61, hf⟩ := bd_s hf
  refine b_pRC C dX11_init_53 fq_X11_37 fr10_5 hin h60 eg61 ?_
  have hn62 : n0 ≤ gN g61 := by rw [eg61]; exact hn57
  have hn62s : s0 ≤ gS g61 := by rw [eg61]; exact hn57s
  refine b_aload_n C dX11_init_56 0 rfl rfl ?_
  obtain ⟨h63, hf⟩ := gd_s hf
  obtain ⟨h64, hf⟩ := gd_s hf
  obtain ⟨g65, eg65, hf⟩ := bd_s hf
  obtain ⟨d66, ed66, hf⟩ := bd_s hf
  obtain ⟨r67, er67, hf⟩ := bd_s hf
  refine b_new C dX11_init_57 nw_X11_41 hz hn62 hn62s h63 h64 eg65 ed66 (fun hn68 hn68s => ?_)
  refine b_topR er67 ?_
  refine b_dup C dX11_init_60 rfl ?_
  refine b_aload_n C dX11_init_61 0 rfl rfl ?_
  obtain ⟨h69, hf⟩ := gd_s hf
  obtain ⟨r70, er70, hf⟩ := ob_s hf
  refine b_gR C dX11_init_62 fl_X11_30 h69 er70 ?_
  obtain ⟨h71, hf⟩ := gd_s hf
  obtain ⟨g72, d73, k74, hf⟩ := cb_s hf
  obtain ⟨h76, hf⟩ := gd_s hf
  obtain ⟨h77, hf⟩ := gd_s hf
  refine b_callC C [.ref (ad B r67), .ref (ad B x0)] dX11_init_65 (kX1_init l D cy B k74) lv_X11_43 ⟨rfl, rfl, Nat.le_of_ble_eq_true rfl, Nat.le_of_ble_eq_true rfl⟩ rfl (Nat.le_of_ble_eq_true rfl) hz hn68 hn68s h71 h76 h77 rfl (fun hn75 hn75s => ?_)
  obtain ⟨h78, hf⟩ := gd_s hf
  obtain ⟨g79, eg79, hf⟩ := bd_s hf
  refine b_pRC C dX11_init_68 fq_X11_46 fr10_6 hin h78 eg79 ?_
  have hn80 : n0 ≤ gN g79 := by rw [eg79]; exact hn75
  have hn80s : s0 ≤ gS g79 := by rw [eg79]; exact hn75s
  refine b_aload_n C dX11_init_71 0 rfl rfl ?_
  obtain ⟨h81, hf⟩ := gd_s hf
  obtain ⟨h82, hf⟩ := gd_s hf
  obtain ⟨g83, eg83, hf⟩ := bd_s hf
  obtain ⟨d84, ed84, hf⟩ := bd_s hf
  obtain ⟨r85, er85, hf⟩ := bd_s hf
  refine b_new C dX11_init_72 nw_X11_41 hz hn80 hn80s h81 h82 eg83 ed84 (fun hn86 hn86s => ?_)
  refine b_topR er85 ?_
  refine b_dup C dX11_init_75 rfl ?_
  refine b_aload_n C dX11_init_76 0 rfl rfl ?_
  obtain ⟨h87, hf⟩ := gd_s hf
  obtain ⟨r88, er88, hf⟩ := ob_s hf
  refine b_gR C dX11_init_77 fl_X11_30 h87 er88 ?_
  obtain ⟨h89, hf⟩ := gd_s hf
  obtain ⟨g90, d91, k92, hf⟩ := cb_s hf
  obtain ⟨h94, hf⟩ := gd_s hf
  obtain ⟨h95, hf⟩ := gd_s hf
  refine b_callC C [.ref (ad B r85), .ref (ad B x0)] dX11_init_80 (kX1_init l D cy B k92) lv_X11_43 ⟨rfl, rfl, Nat.le_of_ble_eq_true rfl, Nat.le_of_ble_eq_true rfl⟩ rfl (Nat.le_of_ble_eq_true rfl) hz hn86 hn86s h89 h94 h95 rfl (fun hn93 hn93s => ?_)
  obtain ⟨h96, hf⟩ := gd_s hf
  obtain ⟨g97, eg97, hf⟩ := bd_s hf
  refine b_pRC C dX11_init_83 fq_X11_50 fr10_7 hin h96 eg97 ?_
  have hn98 : n0 ≤ gN g97 := by rw [eg97]; exact hn93
  have hn98s : s0 ≤ gS g97 := by rw [eg97]; exact hn93s
  refine b_aload_n C dX11_init_86 0 rfl rfl ?_
  refine b_iconst C (v := 3) dX11_init_87 (by decide) ?_
  obtain ⟨h99, hf⟩ := gd_s hf
  obtain ⟨h100, hf⟩ := gd_s hf
  obtain ⟨h101, hf⟩ := gd_s hf
  obtain ⟨h102, hf⟩ := gd_s hf
  obtain ⟨g103, eg103, hf⟩ := bd_s hf
  obtain ⟨d104, ed104, hf⟩ := bd_s hf
  obtain ⟨r105, er105, hf⟩ := bd_s hf
  refine b_newqC C dX11_init_88 cw_X11_41 hz hn98 hn98s h101 h99 h100 h102 eg103 ed104 (fun hn106 hn106s => ?_)
  refine b_topR er105 ?_
  obtain ⟨h107, hf⟩ := gd_s hf
  obtain ⟨g108, eg108, hf⟩ := bd_s hf
  refine b_pRC C dX11_init_91 fq_X11_53 fr10_8 hin h107 eg108 ?_
  have hn109 : n0 ≤ gN g108 := by rw [eg108]; exact hn106
  have hn109s : s0 ≤ gS g108 := by rw [eg108]; exact hn106s
  refine b_iconst C (v := 0) dX11_init_94 (by decide) ?_
  refine b_istore_n C dX11_init_95 rfl [(1, .int 0), (0, .ref (ad B x0))] (by decide) rfl ?_
  refine b_sub [(0, .ref (ad B x0)), (1, .int 0)] [1, 0] rfl ?_
  exact tX11_init_L96 C hr hlocks hin hz (0, g108, d104) hn109 hn109s hf
theorem kX11_init (l : Launch) (D : va_G) (cy : Nat → ClassId) (B : Bs) {N : Nat} {g : Gs} {x0 : Nat} {gz : Gs} {dz : Ds} {d : Ds} (hf : fX11_init N x0 g d = some (gz, dz)) : Met l yX11_init (.code yX11_init cX11_init 2 none :: wl) rmX11_init (PCC D cy B [.ref (ad B x0)] g d) (QV D cy B gz dz) 327 23557 (wA B) :=
  met_ofC (by decide +kernel) (Nat.le_of_ble_eq_true rfl) (fun p e s m args below meth c C hr hlocks hin hz => b_sub [(0, .ref (ad B x0))] [0] rfl (tX11_init_E C hr hlocks hin hz (Nat.le_refl _) (Nat.le_refl _) hf))
/-! KeyMatrix.appendFour(I)V -/
theorem fl_X11_9 : FLR RX11 9 10 0 := ⟨⟨RX11, TX11, 10, rfl, by decide, inl10, Or.inl (mW (mT2 (List.mem_of_getElem? (i := 230) (by decide +kernel))) rfl)⟩, by decide, by decide +kernel⟩
theorem dX11_appendFour_0 : decode cX11_appendFour 0 = .ok (.bipush 24, 2) := by decide +kernel
theorem dX11_appendFour_2 : decode cX11_appendFour 2 = .ok (.istore_n 2, 1) := by decide +kernel
theorem dX11_appendFour_3 : decode cX11_appendFour 3 = .ok (.iload_n 2, 1) := by decide +kernel
theorem dX11_appendFour_4 : decode cX11_appendFour 4 = .ok (.ifCond .lt 42, 3) := by decide +kernel
theorem dX11_appendFour_7 : decode cX11_appendFour 7 = .ok (.aload_n 0, 1) := by decide +kernel
theorem dX11_appendFour_8 : decode cX11_appendFour 8 = .ok (.getfield 13, 3) := by decide +kernel
theorem dX11_appendFour_11 : decode cX11_appendFour 11 = .ok (.sipush 2000, 3) := by decide +kernel
theorem dX11_appendFour_14 : decode cX11_appendFour 14 = .ok (.if_icmp .ge 32, 3) := by decide +kernel
theorem dX11_appendFour_17 : decode cX11_appendFour 17 = .ok (.aload_n 0, 1) := by decide +kernel
theorem dX11_appendFour_18 : decode cX11_appendFour 18 = .ok (.getfield 9, 3) := by decide +kernel
theorem dX11_appendFour_21 : decode cX11_appendFour 21 = .ok (.aload_n 0, 1) := by decide +kernel
theorem dX11_appendFour_22 : decode cX11_appendFour 22 = .ok (.getfield 13, 3) := by decide +kernel
theorem dX11_appendFour_25 : decode cX11_appendFour 25 = .ok (.iload_n 1, 1) := by decide +kernel
theorem dX11_appendFour_26 : decode cX11_appendFour 26 = .ok (.iload_n 2, 1) := by decide +kernel
theorem dX11_appendFour_27 : decode cX11_appendFour 27 = .ok (.iushr, 1) := by decide +kernel
theorem dX11_appendFour_28 : decode cX11_appendFour 28 = .ok (.i2b, 1) := by decide +kernel
theorem dX11_appendFour_29 : decode cX11_appendFour 29 = .ok (.bastore, 1) := by decide +kernel
theorem dX11_appendFour_30 : decode cX11_appendFour 30 = .ok (.aload_n 0, 1) := by decide +kernel
theorem dX11_appendFour_31 : decode cX11_appendFour 31 = .ok (.dup, 1) := by decide +kernel
theorem dX11_appendFour_32 : decode cX11_appendFour 32 = .ok (.getfield 13, 3) := by decide +kernel
theorem dX11_appendFour_35 : decode cX11_appendFour 35 = .ok (.iconst 1, 1) := by decide +kernel
theorem dX11_appendFour_36 : decode cX11_appendFour 36 = .ok (.iadd, 1) := by decide +kernel
theorem dX11_appendFour_37 : decode cX11_appendFour 37 = .ok (.putfield 13, 3) := by decide +kernel
theorem dX11_appendFour_40 : decode cX11_appendFour 40 = .ok (.iinc 2 (-8), 3) := by decide +kernel
theorem dX11_appendFour_43 : decode cX11_appendFour 43 = .ok (.goto (-40), 3) := by decide +kernel
theorem dX11_appendFour_46 : decode cX11_appendFour 46 = .ok (.return_, 1) := by decide +kernel
def rmX11_appendFour : Room := { frames := 0, cells := 0, slots := 0, locals := 0 }
set_option maxRecDepth 100000 in
def fX11_appendFour_J46 (N : Nat) (g : Gs) (x0 : Nat) (x1 : Int32) (d : Ds) : Option (Unit × Ds) := some ((), d)
set_option maxHeartbeats 4000000 in
set_option maxRecDepth 100000 in
theorem tX11_appendFour_46 {p : Program} {l : Launch} {e : Env} {s : State} {m : MethodId} {args : Array Value} {below : List Frame} {meth : Method} {c : Code} {D : va_G} {cy : Nat → ClassId} {B : Bs} (C : Cx p s m args c cX11_appendFour 3 RX11 D cy B) (hr : meth.sig.returnType = none) (hlocks : meth.locks = false) {N : Nat} {g : Gs} {x0 : Nat} {x1 : Int32}  {dz : Ds} {d : Ds} (hf : fX11_appendFour_J46 N g x0 x1 d = some ((), dz)) : WB p l e rmX11_appendFour s m args below meth c 3 D cy B 0 0 (MQ below (QV D cy B g dz) args s 0 0 (wA B)) g d [(0, .ref (ad B x0)), (1, .int x1)] 46 [] := by
  unfold fX11_appendFour_J46 at hf
  exact b_vret C hr hlocks hf dX11_appendFour_46
set_option maxRecDepth 100000 in
def fX11_appendFour_B3 (N : Nat) (g : Gs) (x0 : Nat) (x1 : Int32) (K3 : Int32 × Ds → Option (Unit × Ds)) (y2 : Int32) (d : Ds) : Option (Unit × Ds) := if y2 < 0 then (fX11_appendFour_J46 N g x0 x1 d) else (gd (chk g x0 10) <| if (2000 : Int32) ≤ (dI d x0 1) then (fX11_appendFour_J46 N g x0 x1 d) else (ob (gR g x0 0) fun r4 => (gd (chk g r4 100) <| gd (¬ ((dI d x0 1) < 0 ∨ gL g r4 ≤ (dI d x0 1).toNatClampNeg)) <| bd (sI d r4 (dI d x0 1).toNatClampNeg (vp_nar .byte (((x1.toUInt32 >>> (y2.toUInt32 &&& Int32.toUInt32 31)).toInt32).toInt8.toInt32))) fun d7 => (bd (sI d7 x0 1 ((dI d7 x0 1) + 1)) fun d8 => (bd (y2 + (-8)) fun u9 => (K3 (u9, d8)))))))
set_option maxHeartbeats 4000000 in
set_option maxRecDepth 100000 in
theorem tX11_appendFour_3 {p : Program} {l : Launch} {e : Env} {s : State} {m : MethodId} {args : Array Value} {below : List Frame} {meth : Method} {c : Code} {D : va_G} {cy : Nat → ClassId} {B : Bs} (C : Cx p s m args c cX11_appendFour 3 RX11 D cy B) (hr : meth.sig.returnType = none) (hlocks : meth.locks = false) {N : Nat} {g : Gs} {x0 : Nat} {x1 : Int32}  {dz : Ds} {K3 : Int32 × Ds → Option (Unit × Ds)} (hK3 : ∀ a, K3 a = some ((), dz) → WB p l e rmX11_appendFour s m args below meth c 3 D cy B 0 0 (MQ below (QV D cy B g dz) args s 0 0 (wA B)) g a.2 [(0, .ref (ad B x0)), (1, .int x1), (2, .int a.1)] 3 []) {y2 : Int32} {d : Ds} (hf : fX11_appendFour_B3 N g x0 x1 K3 y2 d = some ((), dz)) : WB p l e rmX11_appendFour s m args below meth c 3 D cy B 0 0 (MQ below (QV D cy B g dz) args s 0 0 (wA B)) g d [(0, .ref (ad B x0)), (1, .int x1), (2, .int y2)] 3 [] := by
  unfold fX11_appendFour_B3 at hf
  refine b_iload_n C dX11_appendFour_3 2 rfl rfl ?_
  refine b_if_lt C (tgt := 46) dX11_appendFour_4 (by decide) (fun c1 => ?_) (fun c1 => ?_)
  · have hf := it_s c1 hf
    refine b_sub [(0, .ref (ad B x0)), (1, .int x1)] [0, 1] rfl ?_
    exact tX11_appendFour_46 C hr hlocks hf
  · have hf := if_s c1 hf
    refine b_aload_n C dX11_appendFour_7 0 rfl rfl ?_
    obtain ⟨h2, hf⟩ := gd_s hf
    refine b_gI C dX11_appendFour_8 fl_X11_13 h2 ?_
    refine b_sipush C (v := 2000) dX11_appendFour_11 (by decide) ?_
    refine b_icmp_ge C (tgt := 46) dX11_appendFour_14 (by decide) (fun c3 => ?_) (fun c3 => ?_)
    · have hf := it_s c3 hf
      refine b_sub [(0, .ref (ad B x0)), (1, .int x1)] [0, 1] rfl ?_
      exact tX11_appendFour_46 C hr hlocks hf
    · have hf := if_s c3 hf
      refine b_aload_n C dX11_appendFour_17 0 rfl rfl ?_
      obtain ⟨r4, er4, hf⟩ := ob_s hf
      refine b_gR C dX11_appendFour_18 fl_X11_9 h2 er4 ?_
      refine b_aload_n C dX11_appendFour_21 0 rfl rfl ?_
      refine b_gI C dX11_appendFour_22 fl_X11_13 h2 ?_
      refine b_iload_n C dX11_appendFour_25 1 rfl rfl ?_
      refine b_iload_n C dX11_appendFour_26 2 rfl rfl ?_
      refine b_iushr C dX11_appendFour_27 ?_
      refine b_i2b C dX11_appendFour_28 ?_
      obtain ⟨h5, hf⟩ := gd_s hf
      obtain ⟨h6, hf⟩ := gd_s hf
      obtain ⟨d7, ed7, hf⟩ := bd_s hf
      refine b_bast C h5 h6 ed7 dX11_appendFour_29 ?_
      refine b_aload_n C dX11_appendFour_30 0 rfl rfl ?_
      refine b_dup C dX11_appendFour_31 rfl ?_
      refine b_gI C dX11_appendFour_32 fl_X11_13 h2 ?_
      refine b_iconst C (v := 1) dX11_appendFour_35 (by decide) ?_
      refine b_iadd C dX11_appendFour_36 ?_
      obtain ⟨d8, ed8, hf⟩ := bd_s hf
      refine b_pI C dX11_appendFour_37 fl_X11_13 fp10_1 h2 ed8 ?_
      obtain ⟨u9, eu9, hf⟩ := bd_s hf
      refine b_iinc C dX11_appendFour_40 2 rfl (by rw [eu9]; rfl) [(2, .int u9), (0, .ref (ad B x0)), (1, .int x1)] (by decide) rfl ?_
      refine b_goto C (tgt := 3) dX11_appendFour_43 (by decide) ?_
      refine b_sub [(0, .ref (ad B x0)), (1, .int x1), (2, .int u9)] [1, 2, 0] rfl ?_
      exact hK3 (u9, d8) hf
def fX11_appendFour_L3 (N : Nat) (g : Gs) (x0 : Nat) (x1 : Int32) : Int32 × Ds → Option (Unit × Ds) := lp (fun K3 a => fX11_appendFour_B3 N g x0 x1 K3 a.1 a.2) N
theorem tX11_appendFour_L3 {p : Program} {l : Launch} {e : Env} {s : State} {m : MethodId} {args : Array Value} {below : List Frame} {meth : Method} {c : Code} {D : va_G} {cy : Nat → ClassId} {B : Bs} (C : Cx p s m args c cX11_appendFour 3 RX11 D cy B) (hr : meth.sig.returnType = none) (hlocks : meth.locks = false) {N : Nat} {g : Gs} {x0 : Nat} {x1 : Int32}  {dz : Ds} (a : Int32 × Ds) (hf : fX11_appendFour_L3 N g x0 x1 a = some ((), dz)) : WB p l e rmX11_appendFour s m args below meth c 3 D cy B 0 0 (MQ below (QV D cy B g dz) args s 0 0 (wA B)) g a.2 [(0, .ref (ad B x0)), (1, .int x1), (2, .int a.1)] 3 [] :=
  lp_w (fun K3 hK3 a ha => tX11_appendFour_3 C hr hlocks hK3 ha) N a hf
set_option maxRecDepth 100000 in
def fX11_appendFour (N : Nat) (g : Gs) (x0 : Nat) (x1 : Int32) (d : Ds) : Option (Unit × Ds) := fX11_appendFour_L3 N g x0 x1 (24, d)
set_option maxHeartbeats 4000000 in
set_option maxRecDepth 100000 in
theorem tX11_appendFour_E {p : Program} {l : Launch} {e : Env} {s : State} {m : MethodId} {args : Array Value} {below : List Frame} {meth : Method} {c : Code} {D : va_G} {cy : Nat → ClassId} {B : Bs} (C : Cx p s m args c cX11_appendFour 3 RX11 D cy B) (hr : meth.sig.returnType = none) (hlocks : meth.locks = false) {N : Nat} {g : Gs} {x0 : Nat} {x1 : Int32}  {dz : Ds} {d : Ds} (hf : fX11_appendFour N g x0 x1 d = some ((), dz)) : WB p l e rmX11_appendFour s m args below meth c 3 D cy B 0 0 (MQ below (QV D cy B g dz) args s 0 0 (wA B)) g d [(0, .ref (ad B x0)), (1, .int x1)] 0 [] := by
  unfold fX11_appendFour at hf
  refine b_bipush C (v := 24) dX11_appendFour_0 (by decide) ?_
  refine b_istore_n C dX11_appendFour_2 rfl [(2, .int 24), (0, .ref (ad B x0)), (1, .int x1)] (by decide) rfl ?_
  refine b_sub [(0, .ref (ad B x0)), (1, .int x1), (2, .int 24)] [1, 2, 0] rfl ?_
  exact tX11_appendFour_L3 C hr hlocks (24, d) hf
theorem kX11_appendFour (l : Launch) (D : va_G) (cy : Nat → ClassId) (B : Bs) {N : Nat} {g : Gs} {x0 : Nat} {x1 : Int32}  {dz : Ds} {d : Ds} (hf : fX11_appendFour N g x0 x1 d = some ((), dz)) : Met l yX11_appendFour (.code yX11_appendFour cX11_appendFour 3 none :: wl) rmX11_appendFour (PC D cy B [.ref (ad B x0), .int x1] g d) (QV D cy B g dz) 0 0 (wA B) :=
  met_of (by decide +kernel) (Nat.le_of_ble_eq_true rfl) (fun p e s m args below meth c C hr hlocks _ => b_sub [(0, .ref (ad B x0)), (1, .int x1)] [0, 1] rfl (tX11_appendFour_E C hr hlocks hf))
/-! KeyMatrix.feed(IIIII)I -/
theorem yo_X11_appendFour : yX11_appendFour.cls ≠ "java/lang/invoke/MethodHandle" ∧ yX11_appendFour.cls ≠ "java/lang/invoke/VarHandle" ∧ (parseMethodDescriptor yX11_appendFour.desc).map (fun d => d.parameters.length) = some 1 := by decide +kernel
theorem co_X11_appendFour : Cond.code yX11_appendFour cX11_appendFour 3 none ∈ wl := mW (mT3 (List.mem_of_getElem? (i := 28) (by decide +kernel))) rfl
theorem in_X11_appendFour : Cond.initialized yX11_appendFour.cls ∈ wl := mW (mT1 (List.mem_of_getElem? (i := 1) (by decide +kernel))) rfl
theorem im_X11_appendFour : Cond.instanceMethod yX11_appendFour ∈ wl := mW (mT3 (List.mem_of_getElem? (i := 27) (by decide +kernel))) rfl
theorem se_X11_appendFour : Cond.selects yX11_appendFour.cls yX11_appendFour yX11_appendFour ∈ wl := mW (mT0 (List.mem_of_getElem? (i := 1) (by decide +kernel))) rfl
theorem lv_X11_60 : LV RX11 60 yX11_appendFour cX11_appendFour 3 none 1 10 := ⟨⟨(RX11, TX11, 10), rfl, rfl⟩, yo_X11_appendFour, mW (mT3 (List.mem_of_getElem? (i := 25) (by decide +kernel))) rfl, im_X11_appendFour, se_X11_appendFour, in_X11_appendFour, co_X11_appendFour⟩
theorem dX11_feed_0 : decode cX11_feed 0 = .ok (.aload_n 0, 1) := by decide +kernel
theorem dX11_feed_1 : decode cX11_feed 1 = .ok (.getfield 13, 3) := by decide +kernel
theorem dX11_feed_4 : decode cX11_feed 4 = .ok (.bipush 20, 2) := by decide +kernel
theorem dX11_feed_6 : decode cX11_feed 6 = .ok (.iadd, 1) := by decide +kernel
theorem dX11_feed_7 : decode cX11_feed 7 = .ok (.sipush 2000, 3) := by decide +kernel
theorem dX11_feed_10 : decode cX11_feed 10 = .ok (.if_icmp .le 5, 3) := by decide +kernel
theorem dX11_feed_13 : decode cX11_feed 13 = .ok (.iconst (-1), 1) := by decide +kernel
theorem dX11_feed_14 : decode cX11_feed 14 = .ok (.ireturn, 1) := by decide +kernel
theorem dX11_feed_15 : decode cX11_feed 15 = .ok (.aload_n 0, 1) := by decide +kernel
theorem dX11_feed_16 : decode cX11_feed 16 = .ok (.iload_n 1, 1) := by decide +kernel
theorem dX11_feed_17 : decode cX11_feed 17 = .ok (.invokevirtual 60, 3) := by decide +kernel
theorem dX11_feed_20 : decode cX11_feed 20 = .ok (.aload_n 0, 1) := by decide +kernel
theorem dX11_feed_21 : decode cX11_feed 21 = .ok (.iload_n 2, 1) := by decide +kernel
theorem dX11_feed_22 : decode cX11_feed 22 = .ok (.invokevirtual 60, 3) := by decide +kernel
theorem dX11_feed_25 : decode cX11_feed 25 = .ok (.aload_n 0, 1) := by decide +kernel
theorem dX11_feed_26 : decode cX11_feed 26 = .ok (.iload_n 3, 1) := by decide +kernel
theorem dX11_feed_27 : decode cX11_feed 27 = .ok (.invokevirtual 60, 3) := by decide +kernel
theorem dX11_feed_30 : decode cX11_feed 30 = .ok (.aload_n 0, 1) := by decide +kernel
theorem dX11_feed_31 : decode cX11_feed 31 = .ok (.iload 4, 2) := by decide +kernel
theorem dX11_feed_33 : decode cX11_feed 33 = .ok (.invokevirtual 60, 3) := by decide +kernel
theorem dX11_feed_36 : decode cX11_feed 36 = .ok (.aload_n 0, 1) := by decide +kernel
theorem dX11_feed_37 : decode cX11_feed 37 = .ok (.iload 5, 2) := by decide +kernel
theorem dX11_feed_39 : decode cX11_feed 39 = .ok (.invokevirtual 60, 3) := by decide +kernel
theorem dX11_feed_42 : decode cX11_feed 42 = .ok (.aload_n 0, 1) := by decide +kernel
theorem dX11_feed_43 : decode cX11_feed 43 = .ok (.getfield 13, 3) := by decide +kernel
theorem dX11_feed_46 : decode cX11_feed 46 = .ok (.ireturn, 1) := by decide +kernel
def rmX11_feed : Room := { frames := 1, cells := 0, slots := 0, locals := 22 }
set_option maxRecDepth 100000 in
def fX11_feed (N : Nat) (g : Gs) (x0 : Nat) (x1 : Int32) (x2 : Int32) (x3 : Int32) (x4 : Int32) (x5 : Int32) (d : Ds) : Option (Int32 × Ds) := gd (chk g x0 10) <| if ((dI d x0 1) + 20) ≤ (2000 : Int32) then (cv (fX11_appendFour N g x0 x1 d) fun d3 => (cv (fX11_appendFour N g x0 x2 d3) fun d5 => (cv (fX11_appendFour N g x0 x3 d5) fun d7 => (cv (fX11_appendFour N g x0 x4 d7) fun d9 => (cv (fX11_appendFour N g x0 x5 d9) fun d11 => (some ((dI d11 x0 1), d11))))))) else (some ((-1), d))
set_option maxHeartbeats 4000000 in
set_option maxRecDepth 100000 in
theorem tX11_feed_E {p : Program} {l : Launch} {e : Env} {s : State} {m : MethodId} {args : Array Value} {below : List Frame} {meth : Method} {c : Code} {D : va_G} {cy : Nat → ClassId} {B : Bs} (C : Cx p s m args c cX11_feed 6 RX11 D cy B) (hr : meth.sig.returnType = (some .int)) (hlocks : meth.locks = false) {N : Nat} {g : Gs} {x0 : Nat} {x1 : Int32} {x2 : Int32} {x3 : Int32} {x4 : Int32} {x5 : Int32} {vz : Int32} {dz : Ds} {d : Ds} (hf : fX11_feed N g x0 x1 x2 x3 x4 x5 d = some (vz, dz)) : WB p l e rmX11_feed s m args below meth c 6 D cy B 0 0 (MQ below (QI D cy B vz g dz) args s 0 0 (wA B)) g d [(0, .ref (ad B x0)), (1, .int x1), (2, .int x2), (3, .int x3), (4, .int x4), (5, .int x5)] 0 [] := by
  unfold fX11_feed at hf
  refine b_aload_n C dX11_feed_0 0 rfl rfl ?_
  obtain ⟨h1, hf⟩ := gd_s hf
  refine b_gI C dX11_feed_1 fl_X11_13 h1 ?_
  refine b_bipush C (v := 20) dX11_feed_4 (by decide) ?_
  refine b_iadd C dX11_feed_6 ?_
  refine b_sipush C (v := 2000) dX11_feed_7 (by decide) ?_
  refine b_icmp_le C (tgt := 15) dX11_feed_10 (by decide) (fun c2 => ?_) (fun c2 => ?_)
  · have hf := it_s c2 hf
    refine b_aload_n C dX11_feed_15 0 rfl rfl ?_
    refine b_iload_n C dX11_feed_16 1 rfl rfl ?_
    obtain ⟨d3, k4, hf⟩ := cv_s hf
    refine b_cVN C [] dX11_feed_17 (kX11_appendFour l D cy B k4) lv_X11_60 ⟨rfl, rfl, Nat.le_of_ble_eq_true rfl, Nat.le_of_ble_eq_true rfl⟩ h1 (by decide) rfl (Nat.le_of_ble_eq_true rfl) ⟨Nat.zero_le _, Nat.zero_le _⟩ rfl ?_
    refine b_aload_n C dX11_feed_20 0 rfl rfl ?_
    refine b_iload_n C dX11_feed_21 2 rfl rfl ?_
    obtain ⟨d5, k6, hf⟩ := cv_s hf
    refine b_cVN C [] dX11_feed_22 (kX11_appendFour l D cy B k6) lv_X11_60 ⟨rfl, rfl, Nat.le_of_ble_eq_true rfl, Nat.le_of_ble_eq_true rfl⟩ h1 (by decide) rfl (Nat.le_of_ble_eq_true rfl) ⟨Nat.zero_le _, Nat.zero_le _⟩ rfl ?_
    refine b_aload_n C dX11_feed_25 0 rfl rfl ?_
    refine b_iload_n C dX11_feed_26 3 rfl rfl ?_
    obtain ⟨d7, k8, hf⟩ := cv_s hf
    refine b_cVN C [] dX11_feed_27 (kX11_appendFour l D cy B k8) lv_X11_60 ⟨rfl, rfl, Nat.le_of_ble_eq_true rfl, Nat.le_of_ble_eq_true rfl⟩ h1 (by decide) rfl (Nat.le_of_ble_eq_true rfl) ⟨Nat.zero_le _, Nat.zero_le _⟩ rfl ?_
    refine b_aload_n C dX11_feed_30 0 rfl rfl ?_
    refine b_iload C dX11_feed_31 4 rfl ?_
    obtain ⟨d9, k10, hf⟩ := cv_s hf
    refine b_cVN C [] dX11_feed_33 (kX11_appendFour l D cy B k10) lv_X11_60 ⟨rfl, rfl, Nat.le_of_ble_eq_true rfl, Nat.le_of_ble_eq_true rfl⟩ h1 (by decide) rfl (Nat.le_of_ble_eq_true rfl) ⟨Nat.zero_le _, Nat.zero_le _⟩ rfl ?_
    refine b_aload_n C dX11_feed_36 0 rfl rfl ?_
    refine b_iload C dX11_feed_37 5 rfl ?_
    obtain ⟨d11, k12, hf⟩ := cv_s hf
    refine b_cVN C [] dX11_feed_39 (kX11_appendFour l D cy B k12) lv_X11_60 ⟨rfl, rfl, Nat.le_of_ble_eq_true rfl, Nat.le_of_ble_eq_true rfl⟩ h1 (by decide) rfl (Nat.le_of_ble_eq_true rfl) ⟨Nat.zero_le _, Nat.zero_le _⟩ rfl ?_
    refine b_aload_n C dX11_feed_42 0 rfl rfl ?_
    refine b_gI C dX11_feed_43 fl_X11_13 h1 ?_
    exact b_iret C hr hlocks hf dX11_feed_46
  · have hf := if_s c2 hf
    refine b_iconst C (v := (-1)) dX11_feed_13 (by decide) ?_
    exact b_iret C hr hlocks hf dX11_feed_14
theorem kX11_feed (l : Launch) (D : va_G) (cy : Nat → ClassId) (B : Bs) {N : Nat} {g : Gs} {x0 : Nat} {x1 : Int32} {x2 : Int32} {x3 : Int32} {x4 : Int32} {x5 : Int32} {vz : Int32} {dz : Ds} {d : Ds} (hf : fX11_feed N g x0 x1 x2 x3 x4 x5 d = some (vz, dz)) : Met l yX11_feed (.code yX11_feed cX11_feed 6 (some .int) :: wl) rmX11_feed (PC D cy B [.ref (ad B x0), .int x1, .int x2, .int x3, .int x4, .int x5] g d) (QI D cy B vz g dz) 0 0 (wA B) :=
  met_of (by decide +kernel) (Nat.le_of_ble_eq_true rfl) (fun p e s m args below meth c C hr hlocks _ => b_sub [(0, .ref (ad B x0)), (1, .int x1), (2, .int x2), (3, .int x3), (4, .int x4), (5, .int x5)] [0, 1, 2, 3, 4, 5] rfl (tX11_feed_E C hr hlocks hf))
/-! KeyMatrix.back(I)I -/
theorem dX11_back_0 : decode cX11_back 0 = .ok (.iload_n 1, 1) := by decide +kernel
theorem dX11_back_1 : decode cX11_back 1 = .ok (.ifCond .lt 11, 3) := by decide +kernel
theorem dX11_back_4 : decode cX11_back 4 = .ok (.iload_n 1, 1) := by decide +kernel
theorem dX11_back_5 : decode cX11_back 5 = .ok (.aload_n 0, 1) := by decide +kernel
theorem dX11_back_6 : decode cX11_back 6 = .ok (.getfield 13, 3) := by decide +kernel
theorem dX11_back_9 : decode cX11_back 9 = .ok (.if_icmp .le 5, 3) := by decide +kernel
theorem dX11_back_12 : decode cX11_back 12 = .ok (.iconst (-1), 1) := by decide +kernel
theorem dX11_back_13 : decode cX11_back 13 = .ok (.ireturn, 1) := by decide +kernel
theorem dX11_back_14 : decode cX11_back 14 = .ok (.aload_n 0, 1) := by decide +kernel
theorem dX11_back_15 : decode cX11_back 15 = .ok (.dup, 1) := by decide +kernel
theorem dX11_back_16 : decode cX11_back 16 = .ok (.getfield 13, 3) := by decide +kernel
theorem dX11_back_19 : decode cX11_back 19 = .ok (.iload_n 1, 1) := by decide +kernel
theorem dX11_back_20 : decode cX11_back 20 = .ok (.isub, 1) := by decide +kernel
theorem dX11_back_21 : decode cX11_back 21 = .ok (.putfield 13, 3) := by decide +kernel
theorem dX11_back_24 : decode cX11_back 24 = .ok (.aload_n 0, 1) := by decide +kernel
theorem dX11_back_25 : decode cX11_back 25 = .ok (.getfield 13, 3) := by decide +kernel
theorem dX11_back_28 : decode cX11_back 28 = .ok (.ireturn, 1) := by decide +kernel
def rmX11_back : Room := { frames := 0, cells := 0, slots := 0, locals := 0 }
set_option maxRecDepth 100000 in
def fX11_back_J12 (N : Nat) (g : Gs) (x0 : Nat) (x1 : Int32) (d : Ds) : Option (Int32 × Ds) := some ((-1), d)
set_option maxHeartbeats 4000000 in
set_option maxRecDepth 100000 in
theorem tX11_back_12 {p : Program} {l : Launch} {e : Env} {s : State} {m : MethodId} {args : Array Value} {below : List Frame} {meth : Method} {c : Code} {D : va_G} {cy : Nat → ClassId} {B : Bs} (C : Cx p s m args c cX11_back 2 RX11 D cy B) (hr : meth.sig.returnType = (some .int)) (hlocks : meth.locks = false) {N : Nat} {g : Gs} {x0 : Nat} {x1 : Int32} {vz : Int32} {dz : Ds} {d : Ds} (hf : fX11_back_J12 N g x0 x1 d = some (vz, dz)) : WB p l e rmX11_back s m args below meth c 2 D cy B 0 0 (MQ below (QI D cy B vz g dz) args s 0 0 (wA B)) g d [(0, .ref (ad B x0)), (1, .int x1)] 12 [] := by
  unfold fX11_back_J12 at hf
  refine b_iconst C (v := (-1)) dX11_back_12 (by decide) ?_
  exact b_iret C hr hlocks hf dX11_back_13
set_option maxRecDepth 100000 in
def fX11_back (N : Nat) (g : Gs) (x0 : Nat) (x1 : Int32) (d : Ds) : Option (Int32 × Ds) := if x1 < 0 then (fX11_back_J12 N g x0 x1 d) else (gd (chk g x0 10) <| if x1 ≤ (dI d x0 1) then (bd (sI d x0 1 ((dI d x0 1) - x1)) fun d4 => (some ((dI d4 x0 1), d4))) else (fX11_back_J12 N g x0 x1 d))
set_option maxHeartbeats 4000000 in
set_option maxRecDepth 100000 in
theorem tX11_back_E {p : Program} {l : Launch} {e : Env} {s : State} {m : MethodId} {args : Array Value} {below : List Frame} {meth : Method} {c : Code} {D : va_G} {cy : Nat → ClassId} {B : Bs} (C : Cx p s m args c cX11_back 2 RX11 D cy B) (hr : meth.sig.returnType = (some .int)) (hlocks : meth.locks = false) {N : Nat} {g : Gs} {x0 : Nat} {x1 : Int32} {vz : Int32} {dz : Ds} {d : Ds} (hf : fX11_back N g x0 x1 d = some (vz, dz)) : WB p l e rmX11_back s m args below meth c 2 D cy B 0 0 (MQ below (QI D cy B vz g dz) args s 0 0 (wA B)) g d [(0, .ref (ad B x0)), (1, .int x1)] 0 [] := by
  unfold fX11_back at hf
  refine b_iload_n C dX11_back_0 1 rfl rfl ?_
  refine b_if_lt C (tgt := 12) dX11_back_1 (by decide) (fun c1 => ?_) (fun c1 => ?_)
  · have hf := it_s c1 hf
    refine b_sub [(0, .ref (ad B x0)), (1, .int x1)] [0, 1] rfl ?_
    exact tX11_back_12 C hr hlocks hf
  · have hf := if_s c1 hf
    refine b_iload_n C dX11_back_4 1 rfl rfl ?_
    refine b_aload_n C dX11_back_5 0 rfl rfl ?_
    obtain ⟨h2, hf⟩ := gd_s hf
    refine b_gI C dX11_back_6 fl_X11_13 h2 ?_
    refine b_icmp_le C (tgt := 14) dX11_back_9 (by decide) (fun c3 => ?_) (fun c3 => ?_)
    · have hf := it_s c3 hf
      refine b_aload_n C dX11_back_14 0 rfl rfl ?_
      refine b_dup C dX11_back_15 rfl ?_
      refine b_gI C dX11_back_16 fl_X11_13 h2 ?_
      refine b_iload_n C dX11_back_19 1 rfl rfl ?_
      refine b_isub C dX11_back_20 ?_
      obtain ⟨d4, ed4, hf⟩ := bd_s hf
      refine b_pI C dX11_back_21 fl_X11_13 fp10_1 h2 ed4 ?_
      refine b_aload_n C dX11_back_24 0 rfl rfl ?_
      refine b_gI C dX11_back_25 fl_X11_13 h2 ?_
      exact b_iret C hr hlocks hf dX11_back_28
    · have hf := if_s c3 hf
      refine b_sub [(0, .ref (ad B x0)), (1, .int x1)] [0, 1] rfl ?_
      exact tX11_back_12 C hr hlocks hf
theorem kX11_back (l : Launch) (D : va_G) (cy : Nat → ClassId) (B : Bs) {N : Nat} {g : Gs} {x0 : Nat} {x1 : Int32} {vz : Int32} {dz : Ds} {d : Ds} (hf : fX11_back N g x0 x1 d = some (vz, dz)) : Met l yX11_back (.code yX11_back cX11_back 2 (some .int) :: wl) rmX11_back (PC D cy B [.ref (ad B x0), .int x1] g d) (QI D cy B vz g dz) 0 0 (wA B) :=
  met_of (by decide +kernel) (Nat.le_of_ble_eq_true rfl) (fun p e s m args below meth c C hr hlocks _ => b_sub [(0, .ref (ad B x0)), (1, .int x1)] [0, 1] rfl (tX11_back_E C hr hlocks hf))
/-! KeyMatrix.read()I -/
theorem fl_X11_23 : FLR RX11 23 10 3 := ⟨⟨RX11, TX11, 10, rfl, by decide, inl10, Or.inl (mW (mT2 (List.mem_of_getElem? (i := 233) (by decide +kernel))) rfl)⟩, by decide, by decide +kernel⟩
theorem yo_X7_readTape : yX7_readTape.cls ≠ "java/lang/invoke/MethodHandle" ∧ yX7_readTape.cls ≠ "java/lang/invoke/VarHandle" ∧ (parseMethodDescriptor yX7_readTape.desc).map (fun d => d.parameters.length) = some 2 := by decide +kernel
theorem co_X7_readTape : Cond.code yX7_readTape cX7_readTape 5 (some .int) ∈ wl := mW (mT3 (List.mem_of_getElem? (i := 40) (by decide +kernel))) rfl
theorem in_X7_readTape : Cond.initialized yX7_readTape.cls ∈ wl := mW (mT1 (List.mem_of_getElem? (i := 2) (by decide +kernel))) rfl
theorem im_X7_readTape : Cond.instanceMethod yX7_readTape ∈ wl := mW (mT3 (List.mem_of_getElem? (i := 38) (by decide +kernel))) rfl
theorem se_X7_readTape : Cond.selects yX7_readTape.cls yX7_readTape yX7_readTape ∈ wl := mW (mT3 (List.mem_of_getElem? (i := 39) (by decide +kernel))) rfl
theorem lv_X11_64 : LV RX11 64 yX7_readTape cX7_readTape 5 (some .int) 2 7 := ⟨⟨(RX7, TX7, 10), rfl, rfl⟩, yo_X7_readTape, mW (mT3 (List.mem_of_getElem? (i := 37) (by decide +kernel))) rfl, im_X7_readTape, se_X7_readTape, in_X7_readTape, co_X7_readTape⟩
theorem fl_X11_68 : FLI RX11 68 7 7 := ⟨⟨RX7, TX7, 10, rfl, by decide, inl7, Or.inr (mT1 (List.mem_of_getElem? (i := 214) (by decide +kernel)))⟩, by decide, by decide +kernel⟩
theorem fl_X11_69 : FLR RX11 69 7 2 := ⟨⟨RX7, TX7, 10, rfl, by decide, inl7, Or.inr (mT1 (List.mem_of_getElem? (i := 208) (by decide +kernel)))⟩, by decide, by decide +kernel⟩
theorem yo_X0_copyFrom : yX0_copyFrom.cls ≠ "java/lang/invoke/MethodHandle" ∧ yX0_copyFrom.cls ≠ "java/lang/invoke/VarHandle" ∧ (parseMethodDescriptor yX0_copyFrom.desc).map (fun d => d.parameters.length) = some 1 := by decide +kernel
theorem co_X0_copyFrom : Cond.code yX0_copyFrom cX0_copyFrom 3 none ∈ wl := mW (mT4 (List.mem_of_getElem? (i := 14) (by decide +kernel))) rfl
theorem in_X0_copyFrom : Cond.initialized yX0_copyFrom.cls ∈ wl := mW (mT1 (List.mem_of_getElem? (i := 5) (by decide +kernel))) rfl
theorem im_X0_copyFrom : Cond.instanceMethod yX0_copyFrom ∈ wl := mW (mT4 (List.mem_of_getElem? (i := 12) (by decide +kernel))) rfl
theorem se_X0_copyFrom : Cond.selects yX0_copyFrom.cls yX0_copyFrom yX0_copyFrom ∈ wl := mW (mT4 (List.mem_of_getElem? (i := 13) (by decide +kernel))) rfl
theorem lv_X11_72 : LV RX11 72 yX0_copyFrom cX0_copyFrom 3 none 1 0 := ⟨⟨(RX0, TX0, 19), rfl, rfl⟩, yo_X0_copyFrom, mW (mT4 (List.mem_of_getElem? (i := 11) (by decide +kernel))) rfl, im_X0_copyFrom, se_X0_copyFrom, in_X0_copyFrom, co_X0_copyFrom⟩
theorem fl_X11_46 : FLR RX11 46 10 6 := ⟨⟨RX11, TX11, 10, rfl, by decide, inl10, Or.inl (mW (mT2 (List.mem_of_getElem? (i := 236) (by decide +kernel))) rfl)⟩, by decide, by decide +kernel⟩
theorem lv_X11_75 : LV RX11 75 yX1_clear cX1_clear 1 none 0 1 := ⟨⟨(RX1, TX1, 6), rfl, rfl⟩, yo_X1_clear, mW (mT4 (List.mem_of_getElem? (i := 18) (by decide +kernel))) rfl, im_X1_clear, se_X1_clear, in_X1_clear, co_X1_clear⟩
theorem dX11_read_0 : decode cX11_read 0 = .ok (.aload_n 0, 1) := by decide +kernel
theorem dX11_read_1 : decode cX11_read 1 = .ok (.getfield 23, 3) := by decide +kernel
theorem dX11_read_4 : decode cX11_read 4 = .ok (.aload_n 0, 1) := by decide +kernel
theorem dX11_read_5 : decode cX11_read 5 = .ok (.getfield 9, 3) := by decide +kernel
theorem dX11_read_8 : decode cX11_read 8 = .ok (.aload_n 0, 1) := by decide +kernel
theorem dX11_read_9 : decode cX11_read 9 = .ok (.getfield 13, 3) := by decide +kernel
theorem dX11_read_12 : decode cX11_read 12 = .ok (.invokevirtual 64, 3) := by decide +kernel
theorem dX11_read_15 : decode cX11_read 15 = .ok (.istore_n 1, 1) := by decide +kernel
theorem dX11_read_16 : decode cX11_read 16 = .ok (.aload_n 0, 1) := by decide +kernel
theorem dX11_read_17 : decode cX11_read 17 = .ok (.iconst 0, 1) := by decide +kernel
theorem dX11_read_18 : decode cX11_read 18 = .ok (.putfield 13, 3) := by decide +kernel
theorem dX11_read_21 : decode cX11_read 21 = .ok (.aload_n 0, 1) := by decide +kernel
theorem dX11_read_22 : decode cX11_read 22 = .ok (.aload_n 0, 1) := by decide +kernel
theorem dX11_read_23 : decode cX11_read 23 = .ok (.getfield 23, 3) := by decide +kernel
theorem dX11_read_26 : decode cX11_read 26 = .ok (.getfield 68, 3) := by decide +kernel
theorem dX11_read_29 : decode cX11_read 29 = .ok (.putfield 17, 3) := by decide +kernel
theorem dX11_read_32 : decode cX11_read 32 = .ok (.iload_n 1, 1) := by decide +kernel
theorem dX11_read_33 : decode cX11_read 33 = .ok (.ifCond .ne 29, 3) := by decide +kernel
theorem dX11_read_36 : decode cX11_read 36 = .ok (.aload_n 0, 1) := by decide +kernel
theorem dX11_read_37 : decode cX11_read 37 = .ok (.getfield 30, 3) := by decide +kernel
theorem dX11_read_40 : decode cX11_read 40 = .ok (.aload_n 0, 1) := by decide +kernel
theorem dX11_read_41 : decode cX11_read 41 = .ok (.getfield 23, 3) := by decide +kernel
theorem dX11_read_44 : decode cX11_read 44 = .ok (.getfield 69, 3) := by decide +kernel
theorem dX11_read_47 : decode cX11_read 47 = .ok (.invokevirtual 72, 3) := by decide +kernel
theorem dX11_read_50 : decode cX11_read 50 = .ok (.aload_n 0, 1) := by decide +kernel
theorem dX11_read_51 : decode cX11_read 51 = .ok (.getfield 46, 3) := by decide +kernel
theorem dX11_read_54 : decode cX11_read 54 = .ok (.invokevirtual 75, 3) := by decide +kernel
theorem dX11_read_57 : decode cX11_read 57 = .ok (.aload_n 0, 1) := by decide +kernel
theorem dX11_read_58 : decode cX11_read 58 = .ok (.iconst 0, 1) := by decide +kernel
theorem dX11_read_59 : decode cX11_read 59 = .ok (.putfield 57, 3) := by decide +kernel
theorem dX11_read_62 : decode cX11_read 62 = .ok (.iload_n 1, 1) := by decide +kernel
theorem dX11_read_63 : decode cX11_read 63 = .ok (.ireturn, 1) := by decide +kernel
def rmX11_read : Room := { frames := 8, cells := 0, slots := 0, locals := 184 }
set_option maxRecDepth 100000 in
def fX11_read_J62 (N : Nat) (g : Gs) (x0 : Nat) (y1 : Int32) (d : Ds) : Option (Int32 × Ds) := some (y1, d)
set_option maxHeartbeats 4000000 in
set_option maxRecDepth 100000 in
theorem tX11_read_62 {p : Program} {l : Launch} {e : Env} {s : State} {m : MethodId} {args : Array Value} {below : List Frame} {meth : Method} {c : Code} {D : va_G} {cy : Nat → ClassId} {B : Bs} (C : Cx p s m args c cX11_read 2 RX11 D cy B) (hr : meth.sig.returnType = (some .int)) (hlocks : meth.locks = false) {N : Nat} {g : Gs} {x0 : Nat} {vz : Int32} {dz : Ds} {y1 : Int32} {d : Ds} (hf : fX11_read_J62 N g x0 y1 d = some (vz, dz)) : WB p l e rmX11_read s m args below meth c 2 D cy B 0 0 (MQ below (QI D cy B vz g dz) args s 0 0 (wA B)) g d [(0, .ref (ad B x0)), (1, .int y1)] 62 [] := by
  unfold fX11_read_J62 at hf
  refine b_iload_n C dX11_read_62 1 rfl rfl ?_
  exact b_iret C hr hlocks hf dX11_read_63
set_option maxRecDepth 100000 in
def fX11_read (N : Nat) (g : Gs) (x0 : Nat) (d : Ds) : Option (Int32 × Ds) := gd (chk g x0 10) <| ob (gR g x0 3) fun r2 => (ob (gR g x0 0) fun r3 => (gd (chk g r2 7) <| cb (fX7_readTape N g r2 r3 (dI d x0 1) d) fun u7 d5 => (bd (sI d5 x0 1 0) fun d8 => (bd (sI d8 x0 2 (dI d8 r2 7)) fun d9 => (if u7 = 0 then (ob (gR g x0 4) fun r11 => (ob (gR g r2 2) fun r12 => (gd (chk g r11 0) <| cv (fX0_copyFrom N g r11 r12 d9) fun d14 => (ob (gR g x0 6) fun r16 => (gd (chk g r16 1) <| cv (fX1_clear N g r16 d14) fun d18 => (bd (sI d18 x0 9 0) fun d20 => (fX11_read_J62 N g x0 u7 d20))))))) else (fX11_read_J62 N g x0 u7 d9))))))
set_option maxHeartbeats 4000000 in
set_option maxRecDepth 100000 in
theorem tX11_read_E {p : Program} {l : Launch} {e : Env} {s : State} {m : MethodId} {args : Array Value} {below : List Frame} {meth : Method} {c : Code} {D : va_G} {cy : Nat → ClassId} {B : Bs} (C : Cx p s m args c cX11_read 2 RX11 D cy B) (hr : meth.sig.returnType = (some .int)) (hlocks : meth.locks = false) {N : Nat} {g : Gs} {x0 : Nat} {vz : Int32} {dz : Ds} {d : Ds} (hf : fX11_read N g x0 d = some (vz, dz)) : WB p l e rmX11_read s m args below meth c 2 D cy B 0 0 (MQ below (QI D cy B vz g dz) args s 0 0 (wA B)) g d [(0, .ref (ad B x0))] 0 [] := by
  unfold fX11_read at hf
  refine b_aload_n C dX11_read_0 0 rfl rfl ?_
  obtain ⟨h1, hf⟩ := gd_s hf
  obtain ⟨r2, er2, hf⟩ := ob_s hf
  refine b_gR C dX11_read_1 fl_X11_23 h1 er2 ?_
  refine b_aload_n C dX11_read_4 0 rfl rfl ?_
  obtain ⟨r3, er3, hf⟩ := ob_s hf
  refine b_gR C dX11_read_5 fl_X11_9 h1 er3 ?_
  refine b_aload_n C dX11_read_8 0 rfl rfl ?_
  refine b_gI C dX11_read_9 fl_X11_13 h1 ?_
  obtain ⟨h4, hf⟩ := gd_s hf
  obtain ⟨u7, d5, k6, hf⟩ := cb_s hf
  refine b_cVI C [] dX11_read_12 (kX7_readTape l D cy B k6) lv_X11_64 ⟨rfl, rfl, Nat.le_of_ble_eq_true rfl, Nat.le_of_ble_eq_true rfl⟩ h4 (by decide) rfl (Nat.le_of_ble_eq_true rfl) ⟨Nat.zero_le _, Nat.zero_le _⟩ rfl ?_
  refine b_istore_n C dX11_read_15 rfl [(1, .int u7), (0, .ref (ad B x0))] (by decide) rfl ?_
  refine b_aload_n C dX11_read_16 1 rfl rfl ?_
  refine b_iconst C (v := 0) dX11_read_17 (by decide) ?_
  obtain ⟨d8, ed8, hf⟩ := bd_s hf
  refine b_pI C dX11_read_18 fl_X11_13 fp10_1 h1 ed8 ?_
  refine b_aload_n C dX11_read_21 1 rfl rfl ?_
  refine b_aload_n C dX11_read_22 1 rfl rfl ?_
  refine b_gR C dX11_read_23 fl_X11_23 h1 er2 ?_
  refine b_gI C dX11_read_26 fl_X11_68 h4 ?_
  obtain ⟨d9, ed9, hf⟩ := bd_s hf
  refine b_pI C dX11_read_29 fl_X11_17 fp10_2 h1 ed9 ?_
  refine b_iload_n C dX11_read_32 0 rfl rfl ?_
  refine b_if_ne C (tgt := 62) dX11_read_33 (by decide) (fun c10 => ?_) (fun c10 => ?_)
  · have hf := if_s c10 hf
    refine b_sub [(0, .ref (ad B x0)), (1, .int u7)] [1, 0] rfl ?_
    exact tX11_read_62 C hr hlocks hf
  · have hf := it_s c10 hf
    refine b_aload_n C dX11_read_36 1 rfl rfl ?_
    obtain ⟨r11, er11, hf⟩ := ob_s hf
    refine b_gR C dX11_read_37 fl_X11_30 h1 er11 ?_
    refine b_aload_n C dX11_read_40 1 rfl rfl ?_
    refine b_gR C dX11_read_41 fl_X11_23 h1 er2 ?_
    obtain ⟨r12, er12, hf⟩ := ob_s hf
    refine b_gR C dX11_read_44 fl_X11_69 h4 er12 ?_
    obtain ⟨h13, hf⟩ := gd_s hf
    obtain ⟨d14, k15, hf⟩ := cv_s hf
    refine b_cVN C [] dX11_read_47 (kX0_copyFrom l D cy B k15) lv_X11_72 ⟨rfl, rfl, Nat.le_of_ble_eq_true rfl, Nat.le_of_ble_eq_true rfl⟩ h13 (by decide) rfl (Nat.le_of_ble_eq_true rfl) ⟨Nat.zero_le _, Nat.zero_le _⟩ rfl ?_
    refine b_aload_n C dX11_read_50 1 rfl rfl ?_
    obtain ⟨r16, er16, hf⟩ := ob_s hf
    refine b_gR C dX11_read_51 fl_X11_46 h1 er16 ?_
    obtain ⟨h17, hf⟩ := gd_s hf
    obtain ⟨d18, k19, hf⟩ := cv_s hf
    refine b_cVN C [] dX11_read_54 (kX1_clear l D cy B k19) lv_X11_75 ⟨rfl, rfl, Nat.le_of_ble_eq_true rfl, Nat.le_of_ble_eq_true rfl⟩ h17 (by decide) rfl (Nat.le_of_ble_eq_true rfl) ⟨Nat.zero_le _, Nat.zero_le _⟩ rfl ?_
    refine b_aload_n C dX11_read_57 1 rfl rfl ?_
    refine b_iconst C (v := 0) dX11_read_58 (by decide) ?_
    obtain ⟨d20, ed20, hf⟩ := bd_s hf
    refine b_pI C dX11_read_59 fl_X11_57 fp10_9 h1 ed20 ?_
    refine b_sub [(0, .ref (ad B x0)), (1, .int u7)] [1, 0] rfl ?_
    exact tX11_read_62 C hr hlocks hf
theorem kX11_read (l : Launch) (D : va_G) (cy : Nat → ClassId) (B : Bs) {N : Nat} {g : Gs} {x0 : Nat} {vz : Int32} {dz : Ds} {d : Ds} (hf : fX11_read N g x0 d = some (vz, dz)) : Met l yX11_read (.code yX11_read cX11_read 2 (some .int) :: wl) rmX11_read (PC D cy B [.ref (ad B x0)] g d) (QI D cy B vz g dz) 0 0 (wA B) :=
  met_of (by decide +kernel) (Nat.le_of_ble_eq_true rfl) (fun p e s m args below meth c C hr hlocks _ => b_sub [(0, .ref (ad B x0))] [0] rfl (tX11_read_E C hr hlocks hf))
/-! KeyMatrix.place()I -/
theorem dX11_place_0 : decode cX11_place 0 = .ok (.aload_n 0, 1) := by decide +kernel
theorem dX11_place_1 : decode cX11_place 1 = .ok (.getfield 17, 3) := by decide +kernel
theorem dX11_place_4 : decode cX11_place 4 = .ok (.ireturn, 1) := by decide +kernel
def rmX11_place : Room := { frames := 0, cells := 0, slots := 0, locals := 0 }
set_option maxRecDepth 100000 in
def fX11_place (N : Nat) (g : Gs) (x0 : Nat) (d : Ds) : Option (Int32 × Ds) := gd (chk g x0 10) <| some ((dI d x0 2), d)
set_option maxHeartbeats 4000000 in
set_option maxRecDepth 100000 in
theorem tX11_place_E {p : Program} {l : Launch} {e : Env} {s : State} {m : MethodId} {args : Array Value} {below : List Frame} {meth : Method} {c : Code} {D : va_G} {cy : Nat → ClassId} {B : Bs} (C : Cx p s m args c cX11_place 1 RX11 D cy B) (hr : meth.sig.returnType = (some .int)) (hlocks : meth.locks = false) {N : Nat} {g : Gs} {x0 : Nat} {vz : Int32} {dz : Ds} {d : Ds} (hf : fX11_place N g x0 d = some (vz, dz)) : WB p l e rmX11_place s m args below meth c 1 D cy B 0 0 (MQ below (QI D cy B vz g dz) args s 0 0 (wA B)) g d [(0, .ref (ad B x0))] 0 [] := by
  unfold fX11_place at hf
  refine b_aload_n C dX11_place_0 0 rfl rfl ?_
  obtain ⟨h1, hf⟩ := gd_s hf
  refine b_gI C dX11_place_1 fl_X11_17 h1 ?_
  exact b_iret C hr hlocks hf dX11_place_4
theorem kX11_place (l : Launch) (D : va_G) (cy : Nat → ClassId) (B : Bs) {N : Nat} {g : Gs} {x0 : Nat} {vz : Int32} {dz : Ds} {d : Ds} (hf : fX11_place N g x0 d = some (vz, dz)) : Met l yX11_place (.code yX11_place cX11_place 1 (some .int) :: wl) rmX11_place (PC D cy B [.ref (ad B x0)] g d) (QI D cy B vz g dz) 0 0 (wA B) :=
  met_of (by decide +kernel) (Nat.le_of_ble_eq_true rfl) (fun p e s m args below meth c C hr hlocks _ => b_sub [(0, .ref (ad B x0))] [0] rfl (tX11_place_E C hr hlocks hf))
/-! KeyMatrix.press(IZ)Z -/
theorem fl_X11_78 : FLR RX11 78 1 1 := ⟨⟨RX1, TX1, 6, rfl, by decide, inl1, Or.inr (mT2 (List.mem_of_getElem? (i := 207) (by decide +kernel)))⟩, by decide, by decide +kernel⟩
theorem lv_X11_82 : LV RX11 82 yX0_hasKey cX0_hasKey 2 (some .boolean) 1 0 := ⟨⟨(RX0, TX0, 19), rfl, rfl⟩, yo_X0_hasKey, mW (mT4 (List.mem_of_getElem? (i := 27) (by decide +kernel))) rfl, im_X0_hasKey, se_X0_hasKey, in_X0_hasKey, co_X0_hasKey⟩
theorem fl_X11_86 : FLI RX11 86 6 0 := ⟨⟨RX6, TX6, 9, rfl, by decide, inl6, Or.inr (mT2 (List.mem_of_getElem? (i := 35) (by decide +kernel)))⟩, by decide, by decide +kernel⟩
theorem lv_X11_91 : LSt RX11 91 yX11_isIn cX11_isIn 2 (some .boolean) 2 := ⟨yo_X11_isIn, Or.inl (mW (mT4 (List.mem_of_getElem? (i := 32) (by decide +kernel))) rfl), st_X11_isIn, in_X11_isIn, co_X11_isIn⟩
theorem fl_X11_37 : FLR RX11 37 10 5 := ⟨⟨RX11, TX11, 10, rfl, by decide, inl10, Or.inl (mW (mT2 (List.mem_of_getElem? (i := 235) (by decide +kernel))) rfl)⟩, by decide, by decide +kernel⟩
theorem yo_X9_follow : yX9_follow.cls ≠ "java/lang/invoke/MethodHandle" ∧ yX9_follow.cls ≠ "java/lang/invoke/VarHandle" ∧ (parseMethodDescriptor yX9_follow.desc).map (fun d => d.parameters.length) = some 2 := by decide +kernel
theorem co_X9_follow : Cond.code yX9_follow cX9_follow 4 none ∈ wl := mW (mT4 (List.mem_of_getElem? (i := 38) (by decide +kernel))) rfl
theorem in_X9_follow : Cond.initialized yX9_follow.cls ∈ wl := mW (mT1 (List.mem_of_getElem? (i := 6) (by decide +kernel))) rfl
theorem im_X9_follow : Cond.instanceMethod yX9_follow ∈ wl := mW (mT4 (List.mem_of_getElem? (i := 36) (by decide +kernel))) rfl
theorem se_X9_follow : Cond.selects yX9_follow.cls yX9_follow yX9_follow ∈ wl := mW (mT4 (List.mem_of_getElem? (i := 37) (by decide +kernel))) rfl
theorem lv_X11_95 : LV RX11 95 yX9_follow cX9_follow 4 none 2 9 := ⟨⟨(RX9, TX9, 4), rfl, rfl⟩, yo_X9_follow, mW (mT4 (List.mem_of_getElem? (i := 35) (by decide +kernel))) rfl, im_X9_follow, se_X9_follow, in_X9_follow, co_X9_follow⟩
theorem fl_X11_99 : FLI RX11 99 9 2 := ⟨⟨RX9, TX9, 4, rfl, by decide, inl9, Or.inr (mT2 (List.mem_of_getElem? (i := 10) (by decide +kernel)))⟩, by decide, by decide +kernel⟩
theorem fl_X11_102 : FLI RX11 102 6 1 := ⟨⟨RX6, TX6, 9, rfl, by decide, inl6, Or.inr (mT2 (List.mem_of_getElem? (i := 37) (by decide +kernel)))⟩, by decide, by decide +kernel⟩
theorem fl_X11_103 : FLI RX11 103 9 3 := ⟨⟨RX9, TX9, 4, rfl, by decide, inl9, Or.inr (mT2 (List.mem_of_getElem? (i := 12) (by decide +kernel)))⟩, by decide, by decide +kernel⟩
theorem fl_X11_106 : FLI RX11 106 6 2 := ⟨⟨RX6, TX6, 9, rfl, by decide, inl6, Or.inr (mT2 (List.mem_of_getElem? (i := 39) (by decide +kernel)))⟩, by decide, by decide +kernel⟩
theorem dX11_press_0 : decode cX11_press 0 = .ok (.aload_n 0, 1) := by decide +kernel
theorem dX11_press_1 : decode cX11_press 1 = .ok (.getfield 46, 3) := by decide +kernel
theorem dX11_press_4 : decode cX11_press 4 = .ok (.getfield 78, 3) := by decide +kernel
theorem dX11_press_7 : decode cX11_press 7 = .ok (.astore_n 3, 1) := by decide +kernel
theorem dX11_press_8 : decode cX11_press 8 = .ok (.aload_n 0, 1) := by decide +kernel
theorem dX11_press_9 : decode cX11_press 9 = .ok (.getfield 30, 3) := by decide +kernel
theorem dX11_press_12 : decode cX11_press 12 = .ok (.iload_n 1, 1) := by decide +kernel
theorem dX11_press_13 : decode cX11_press 13 = .ok (.invokevirtual 82, 3) := by decide +kernel
theorem dX11_press_16 : decode cX11_press 16 = .ok (.ifCond .eq 15, 3) := by decide +kernel
theorem dX11_press_19 : decode cX11_press 19 = .ok (.aload_n 3, 1) := by decide +kernel
theorem dX11_press_20 : decode cX11_press 20 = .ok (.getfield 86, 3) := by decide +kernel
theorem dX11_press_23 : decode cX11_press 23 = .ok (.iload_n 1, 1) := by decide +kernel
theorem dX11_press_24 : decode cX11_press 24 = .ok (.invokestatic 91, 3) := by decide +kernel
theorem dX11_press_27 : decode cX11_press 27 = .ok (.iload_n 2, 1) := by decide +kernel
theorem dX11_press_28 : decode cX11_press 28 = .ok (.if_icmp .ne 5, 3) := by decide +kernel
theorem dX11_press_31 : decode cX11_press 31 = .ok (.iconst 0, 1) := by decide +kernel
theorem dX11_press_32 : decode cX11_press 32 = .ok (.ireturn, 1) := by decide +kernel
theorem dX11_press_33 : decode cX11_press 33 = .ok (.aload_n 3, 1) := by decide +kernel
theorem dX11_press_34 : decode cX11_press 34 = .ok (.dup, 1) := by decide +kernel
theorem dX11_press_35 : decode cX11_press 35 = .ok (.getfield 86, 3) := by decide +kernel
theorem dX11_press_38 : decode cX11_press 38 = .ok (.iconst 1, 1) := by decide +kernel
theorem dX11_press_39 : decode cX11_press 39 = .ok (.iload_n 1, 1) := by decide +kernel
theorem dX11_press_40 : decode cX11_press 40 = .ok (.ishl, 1) := by decide +kernel
theorem dX11_press_41 : decode cX11_press 41 = .ok (.ixor, 1) := by decide +kernel
theorem dX11_press_42 : decode cX11_press 42 = .ok (.putfield 86, 3) := by decide +kernel
theorem dX11_press_45 : decode cX11_press 45 = .ok (.aload_n 0, 1) := by decide +kernel
theorem dX11_press_46 : decode cX11_press 46 = .ok (.getfield 37, 3) := by decide +kernel
theorem dX11_press_49 : decode cX11_press 49 = .ok (.aload_n 0, 1) := by decide +kernel
theorem dX11_press_50 : decode cX11_press 50 = .ok (.getfield 30, 3) := by decide +kernel
theorem dX11_press_53 : decode cX11_press 53 = .ok (.aload_n 3, 1) := by decide +kernel
theorem dX11_press_54 : decode cX11_press 54 = .ok (.getfield 86, 3) := by decide +kernel
theorem dX11_press_57 : decode cX11_press 57 = .ok (.invokevirtual 95, 3) := by decide +kernel
theorem dX11_press_60 : decode cX11_press 60 = .ok (.aload_n 3, 1) := by decide +kernel
theorem dX11_press_61 : decode cX11_press 61 = .ok (.aload_n 0, 1) := by decide +kernel
theorem dX11_press_62 : decode cX11_press 62 = .ok (.getfield 37, 3) := by decide +kernel
theorem dX11_press_65 : decode cX11_press 65 = .ok (.getfield 99, 3) := by decide +kernel
theorem dX11_press_68 : decode cX11_press 68 = .ok (.putfield 102, 3) := by decide +kernel
theorem dX11_press_71 : decode cX11_press 71 = .ok (.aload_n 3, 1) := by decide +kernel
theorem dX11_press_72 : decode cX11_press 72 = .ok (.aload_n 0, 1) := by decide +kernel
theorem dX11_press_73 : decode cX11_press 73 = .ok (.getfield 37, 3) := by decide +kernel
theorem dX11_press_76 : decode cX11_press 76 = .ok (.getfield 103, 3) := by decide +kernel
theorem dX11_press_79 : decode cX11_press 79 = .ok (.putfield 106, 3) := by decide +kernel
theorem dX11_press_82 : decode cX11_press 82 = .ok (.iconst 1, 1) := by decide +kernel
theorem dX11_press_83 : decode cX11_press 83 = .ok (.ireturn, 1) := by decide +kernel
def rmX11_press : Room := { frames := 4, cells := 0, slots := 0, locals := 90 }
set_option maxRecDepth 100000 in
def fX11_press_J31 (N : Nat) (g : Gs) (x0 : Nat) (x1 : Int32) (x2 : Int32) (d : Ds) : Option (Int32 × Ds) := some (0, d)
set_option maxHeartbeats 4000000 in
set_option maxRecDepth 100000 in
theorem tX11_press_31 {p : Program} {l : Launch} {e : Env} {s : State} {m : MethodId} {args : Array Value} {below : List Frame} {meth : Method} {c : Code} {D : va_G} {cy : Nat → ClassId} {B : Bs} (C : Cx p s m args c cX11_press 4 RX11 D cy B) (hr : meth.sig.returnType = (some .boolean)) (hlocks : meth.locks = false) {N : Nat} {g : Gs} {x0 : Nat} {x1 : Int32} {x2 : Int32} {vz : Int32} {dz : Ds} {d : Ds} (hf : fX11_press_J31 N g x0 x1 x2 d = some (vz, dz)) : WB p l e rmX11_press s m args below meth c 4 D cy B 0 0 (MQ below (QI D cy B vz g dz) args s 0 0 (wA B)) g d [(0, .ref (ad B x0)), (1, .int x1), (2, .int x2)] 31 [] := by
  unfold fX11_press_J31 at hf
  refine b_iconst C (v := 0) dX11_press_31 (by decide) ?_
  exact b_zret C hr hlocks (by decide) hf dX11_press_32
set_option maxRecDepth 100000 in
def fX11_press (N : Nat) (g : Gs) (x0 : Nat) (x1 : Int32) (x2 : Int32) (d : Ds) : Option (Int32 × Ds) := gd (chk g x0 10) <| ob (gR g x0 6) fun r2 => (gd (chk g r2 1) <| ob (gR g r2 1) fun r4 => (ob (gR g x0 4) fun r5 => (gd (chk g r5 0) <| cb (fX0_hasKey N g r5 x1 d) fun u9 d7 => (if u9 = 0 then (fX11_press_J31 N g x0 x1 x2 d7) else (gd (chk g r4 6) <| cb (fX11_isIn N g (dI d7 r4 0) x1 d7) fun u14 d12 => (if u14 = x2 then (fX11_press_J31 N g x0 x1 x2 d12) else (bd (sI d12 r4 0 ((dI d12 r4 0) ^^^ ((1 : Int32) <<< (x1 &&& 31)))) fun d16 => (ob (gR g x0 5) fun r17 => (gd (chk g r17 9) <| cv (fX9_follow N g r17 r5 (dI d16 r4 0) d16) fun d19 => (bd (sI d19 r4 1 (dI d19 r17 2)) fun d21 => (bd (sI d21 r4 2 (dI d21 r17 3)) fun d22 => (some (1, d22)))))))))))))
set_option maxHeartbeats 4000000 in
set_option maxRecDepth 100000 in
theorem tX11_press_E {p : Program} {l : Launch} {e : Env} {s : State} {m : MethodId} {args : Array Value} {below : List Frame} {meth : Method} {c : Code} {D : va_G} {cy : Nat → ClassId} {B : Bs} (C : Cx p s m args c cX11_press 4 RX11 D cy B) (hr : meth.sig.returnType = (some .boolean)) (hlocks : meth.locks = false) {N : Nat} {g : Gs} {x0 : Nat} {x1 : Int32} {x2 : Int32} {vz : Int32} {dz : Ds} {d : Ds} (hf : fX11_press N g x0 x1 x2 d = some (vz, dz)) : WB p l e rmX11_press s m args below meth c 4 D cy B 0 0 (MQ below (QI D cy B vz g dz) args s 0 0 (wA B)) g d [(0, .ref (ad B x0)), (1, .int x1), (2, .int x2)] 0 [] := by
  unfold fX11_press at hf
  refine b_aload_n C dX11_press_0 0 rfl rfl ?_
  obtain ⟨h1, hf⟩ := gd_s hf
  obtain ⟨r2, er2, hf⟩ := ob_s hf
  refine b_gR C dX11_press_1 fl_X11_46 h1 er2 ?_
  obtain ⟨h3, hf⟩ := gd_s hf
  obtain ⟨r4, er4, hf⟩ := ob_s hf
  refine b_gR C dX11_press_4 fl_X11_78 h3 er4 ?_
  refine b_astore_n C dX11_press_7 rfl [(3, .ref (ad B r4)), (0, .ref (ad B x0)), (1, .int x1), (2, .int x2)] (by decide) rfl ?_
  refine b_aload_n C dX11_press_8 1 rfl rfl ?_
  obtain ⟨r5, er5, hf⟩ := ob_s hf
  refine b_gR C dX11_press_9 fl_X11_30 h1 er5 ?_
  refine b_iload_n C dX11_press_12 2 rfl rfl ?_
  obtain ⟨h6, hf⟩ := gd_s hf
  obtain ⟨u9, d7, k8, hf⟩ := cb_s hf
  refine b_cVI C [] dX11_press_13 (kX0_hasKey l D cy B k8) lv_X11_82 ⟨rfl, rfl, Nat.le_of_ble_eq_true rfl, Nat.le_of_ble_eq_true rfl⟩ h6 (by decide) rfl (Nat.le_of_ble_eq_true rfl) ⟨Nat.zero_le _, Nat.zero_le _⟩ rfl ?_
  refine b_if_eq C (tgt := 31) dX11_press_16 (by decide) (fun c10 => ?_) (fun c10 => ?_)
  · have hf := it_s c10 hf
    refine b_sub [(0, .ref (ad B x0)), (1, .int x1), (2, .int x2)] [1, 2, 3] rfl ?_
    exact tX11_press_31 C hr hlocks hf
  · have hf := if_s c10 hf
    refine b_aload_n C dX11_press_19 0 rfl rfl ?_
    obtain ⟨h11, hf⟩ := gd_s hf
    refine b_gI C dX11_press_20 fl_X11_86 h11 ?_
    refine b_iload_n C dX11_press_23 2 rfl rfl ?_
    obtain ⟨u14, d12, k13, hf⟩ := cb_s hf
    refine b_cSI C [] dX11_press_24 (kX11_isIn l D cy B k13) lv_X11_91 ⟨rfl, rfl, Nat.le_of_ble_eq_true rfl, Nat.le_of_ble_eq_true rfl⟩ rfl (Nat.le_of_ble_eq_true rfl) ⟨Nat.zero_le _, Nat.zero_le _⟩ rfl ?_
    refine b_iload_n C dX11_press_27 3 rfl rfl ?_
    refine b_icmp_ne C (tgt := 33) dX11_press_28 (by decide) (fun c15 => ?_) (fun c15 => ?_)
    · have hf := if_s c15 hf
      refine b_aload_n C dX11_press_33 0 rfl rfl ?_
      refine b_dup C dX11_press_34 rfl ?_
      refine b_gI C dX11_press_35 fl_X11_86 h11 ?_
      refine b_iconst C (v := 1) dX11_press_38 (by decide) ?_
      refine b_iload_n C dX11_press_39 2 rfl rfl ?_
      refine b_ishl C dX11_press_40 ?_
      refine b_ixor C dX11_press_41 ?_
      obtain ⟨d16, ed16, hf⟩ := bd_s hf
      refine b_pI C dX11_press_42 fl_X11_86 fp6_0 h11 ed16 ?_
      refine b_aload_n C dX11_press_45 1 rfl rfl ?_
      obtain ⟨r17, er17, hf⟩ := ob_s hf
      refine b_gR C dX11_press_46 fl_X11_37 h1 er17 ?_
      refine b_aload_n C dX11_press_49 1 rfl rfl ?_
      refine b_gR C dX11_press_50 fl_X11_30 h1 er5 ?_
      refine b_aload_n C dX11_press_53 0 rfl rfl ?_
      refine b_gI C dX11_press_54 fl_X11_86 h11 ?_
      obtain ⟨h18, hf⟩ := gd_s hf
      obtain ⟨d19, k20, hf⟩ := cv_s hf
      refine b_cVN C [] dX11_press_57 (kX9_follow l D cy B k20) lv_X11_95 ⟨rfl, rfl, Nat.le_of_ble_eq_true rfl, Nat.le_of_ble_eq_true rfl⟩ h18 (by decide) rfl (Nat.le_of_ble_eq_true rfl) ⟨Nat.zero_le _, Nat.zero_le _⟩ rfl ?_
      refine b_aload_n C dX11_press_60 0 rfl rfl ?_
      refine b_aload_n C dX11_press_61 1 rfl rfl ?_
      refine b_gR C dX11_press_62 fl_X11_37 h1 er17 ?_
      refine b_gI C dX11_press_65 fl_X11_99 h18 ?_
      obtain ⟨d21, ed21, hf⟩ := bd_s hf
      refine b_pI C dX11_press_68 fl_X11_102 fp6_1 h11 ed21 ?_
      refine b_aload_n C dX11_press_71 0 rfl rfl ?_
      refine b_aload_n C dX11_press_72 1 rfl rfl ?_
      refine b_gR C dX11_press_73 fl_X11_37 h1 er17 ?_
      refine b_gI C dX11_press_76 fl_X11_103 h18 ?_
      obtain ⟨d22, ed22, hf⟩ := bd_s hf
      refine b_pI C dX11_press_79 fl_X11_106 fp6_2 h11 ed22 ?_
      refine b_iconst C (v := 1) dX11_press_82 (by decide) ?_
      exact b_zret C hr hlocks (by decide) hf dX11_press_83
    · have hf := it_s c15 hf
      refine b_sub [(0, .ref (ad B x0)), (1, .int x1), (2, .int x2)] [1, 2, 3] rfl ?_
      exact tX11_press_31 C hr hlocks hf
theorem kX11_press (l : Launch) (D : va_G) (cy : Nat → ClassId) (B : Bs) {N : Nat} {g : Gs} {x0 : Nat} {x1 : Int32} {x2 : Int32} {vz : Int32} {dz : Ds} {d : Ds} (hf : fX11_press N g x0 x1 x2 d = some (vz, dz)) : Met l yX11_press (.code yX11_press cX11_press 4 (some .boolean) :: wl) rmX11_press (PC D cy B [.ref (ad B x0), .int x1, .int x2] g d) (QI D cy B vz g dz) 0 0 (wA B) :=
  met_of (by decide +kernel) (Nat.le_of_ble_eq_true rfl) (fun p e s m args below meth c C hr hlocks _ => b_sub [(0, .ref (ad B x0)), (1, .int x1), (2, .int x2)] [0, 1, 2] rfl (tX11_press_E C hr hlocks hf))
/-! KeyMatrix.tick(I)I -/
theorem lv_X11_107 : LV RX11 107 yX0_keys cX0_keys 1 (some .int) 0 0 := ⟨⟨(RX0, TX0, 19), rfl, rfl⟩, yo_X0_keys, mW (mT4 (List.mem_of_getElem? (i := 59) (by decide +kernel))) rfl, im_X0_keys, se_X0_keys, in_X0_keys, co_X0_keys⟩
theorem fl_X11_111 : FLR RX11 111 1 4 := ⟨⟨RX1, TX1, 6, rfl, by decide, inl1, Or.inr (mT2 (List.mem_of_getElem? (i := 213) (by decide +kernel)))⟩, by decide, by decide +kernel⟩
theorem fl_X11_115 : FLI RX11 115 5 4 := ⟨⟨RX5, TX5, 9, rfl, by decide, inl5, Or.inr (mT2 (List.mem_of_getElem? (i := 153) (by decide +kernel)))⟩, by decide, by decide +kernel⟩
theorem yo_X1_passTick : yX1_passTick.cls ≠ "java/lang/invoke/MethodHandle" ∧ yX1_passTick.cls ≠ "java/lang/invoke/VarHandle" ∧ (parseMethodDescriptor yX1_passTick.desc).map (fun d => d.parameters.length) = some 0 := by decide +kernel
theorem co_X1_passTick : Cond.code yX1_passTick cX1_passTick 3 none ∈ wl := mW (mT4 (List.mem_of_getElem? (i := 63) (by decide +kernel))) rfl
theorem in_X1_passTick : Cond.initialized yX1_passTick.cls ∈ wl := mW (mT1 (List.mem_of_getElem? (i := 7) (by decide +kernel))) rfl
theorem im_X1_passTick : Cond.instanceMethod yX1_passTick ∈ wl := mW (mT4 (List.mem_of_getElem? (i := 61) (by decide +kernel))) rfl
theorem se_X1_passTick : Cond.selects yX1_passTick.cls yX1_passTick yX1_passTick ∈ wl := mW (mT4 (List.mem_of_getElem? (i := 62) (by decide +kernel))) rfl
theorem lv_X11_120 : LV RX11 120 yX1_passTick cX1_passTick 3 none 0 1 := ⟨⟨(RX1, TX1, 6), rfl, rfl⟩, yo_X1_passTick, mW (mT4 (List.mem_of_getElem? (i := 60) (by decide +kernel))) rfl, im_X1_passTick, se_X1_passTick, in_X1_passTick, co_X1_passTick⟩
theorem dX11_tick_0 : decode cX11_tick 0 = .ok (.iload_n 1, 1) := by decide +kernel
theorem dX11_tick_1 : decode cX11_tick 1 = .ok (.iconst 1, 1) := by decide +kernel
theorem dX11_tick_2 : decode cX11_tick 2 = .ok (.if_icmp .lt 19, 3) := by decide +kernel
theorem dX11_tick_5 : decode cX11_tick 5 = .ok (.iload_n 1, 1) := by decide +kernel
theorem dX11_tick_6 : decode cX11_tick 6 = .ok (.bipush 50, 2) := by decide +kernel
theorem dX11_tick_8 : decode cX11_tick 8 = .ok (.if_icmp .gt 13, 3) := by decide +kernel
theorem dX11_tick_11 : decode cX11_tick 11 = .ok (.aload_n 0, 1) := by decide +kernel
theorem dX11_tick_12 : decode cX11_tick 12 = .ok (.getfield 30, 3) := by decide +kernel
theorem dX11_tick_15 : decode cX11_tick 15 = .ok (.invokevirtual 107, 3) := by decide +kernel
theorem dX11_tick_18 : decode cX11_tick 18 = .ok (.ifCond .ne 5, 3) := by decide +kernel
theorem dX11_tick_21 : decode cX11_tick 21 = .ok (.iconst (-1), 1) := by decide +kernel
theorem dX11_tick_22 : decode cX11_tick 22 = .ok (.ireturn, 1) := by decide +kernel
theorem dX11_tick_23 : decode cX11_tick 23 = .ok (.aload_n 0, 1) := by decide +kernel
theorem dX11_tick_24 : decode cX11_tick 24 = .ok (.getfield 46, 3) := by decide +kernel
theorem dX11_tick_27 : decode cX11_tick 27 = .ok (.getfield 111, 3) := by decide +kernel
theorem dX11_tick_30 : decode cX11_tick 30 = .ok (.getfield 115, 3) := by decide +kernel
theorem dX11_tick_33 : decode cX11_tick 33 = .ok (.istore_n 2, 1) := by decide +kernel
theorem dX11_tick_34 : decode cX11_tick 34 = .ok (.iconst 0, 1) := by decide +kernel
theorem dX11_tick_35 : decode cX11_tick 35 = .ok (.istore_n 3, 1) := by decide +kernel
theorem dX11_tick_36 : decode cX11_tick 36 = .ok (.iload_n 3, 1) := by decide +kernel
theorem dX11_tick_37 : decode cX11_tick 37 = .ok (.iload_n 1, 1) := by decide +kernel
theorem dX11_tick_38 : decode cX11_tick 38 = .ok (.if_icmp .ge 16, 3) := by decide +kernel
theorem dX11_tick_41 : decode cX11_tick 41 = .ok (.aload_n 0, 1) := by decide +kernel
theorem dX11_tick_42 : decode cX11_tick 42 = .ok (.getfield 46, 3) := by decide +kernel
theorem dX11_tick_45 : decode cX11_tick 45 = .ok (.invokevirtual 120, 3) := by decide +kernel
theorem dX11_tick_48 : decode cX11_tick 48 = .ok (.iinc 3 1, 3) := by decide +kernel
theorem dX11_tick_51 : decode cX11_tick 51 = .ok (.goto (-15), 3) := by decide +kernel
theorem dX11_tick_54 : decode cX11_tick 54 = .ok (.aload_n 0, 1) := by decide +kernel
theorem dX11_tick_55 : decode cX11_tick 55 = .ok (.getfield 46, 3) := by decide +kernel
theorem dX11_tick_58 : decode cX11_tick 58 = .ok (.getfield 111, 3) := by decide +kernel
theorem dX11_tick_61 : decode cX11_tick 61 = .ok (.getfield 115, 3) := by decide +kernel
theorem dX11_tick_64 : decode cX11_tick 64 = .ok (.iload_n 2, 1) := by decide +kernel
theorem dX11_tick_65 : decode cX11_tick 65 = .ok (.isub, 1) := by decide +kernel
theorem dX11_tick_66 : decode cX11_tick 66 = .ok (.ireturn, 1) := by decide +kernel
def rmX11_tick : Room := { frames := 7, cells := 0, slots := 0, locals := 167 }
set_option maxRecDepth 100000 in
def fX11_tick_J21 (N : Nat) (g : Gs) (x0 : Nat) (x1 : Int32) (d : Ds) : Option (Int32 × Ds) := some ((-1), d)
set_option maxHeartbeats 4000000 in
set_option maxRecDepth 100000 in
theorem tX11_tick_21 {p : Program} {l : Launch} {e : Env} {s : State} {m : MethodId} {args : Array Value} {below : List Frame} {meth : Method} {c : Code} {D : va_G} {cy : Nat → ClassId} {B : Bs} (C : Cx p s m args c cX11_tick 4 RX11 D cy B) (hr : meth.sig.returnType = (some .int)) (hlocks : meth.locks = false) {N : Nat} {g : Gs} {x0 : Nat} {x1 : Int32} {vz : Int32} {dz : Ds} {d : Ds} (hf : fX11_tick_J21 N g x0 x1 d = some (vz, dz)) : WB p l e rmX11_tick s m args below meth c 4 D cy B 0 0 (MQ below (QI D cy B vz g dz) args s 0 0 (wA B)) g d [(0, .ref (ad B x0)), (1, .int x1)] 21 [] := by
  unfold fX11_tick_J21 at hf
  refine b_iconst C (v := (-1)) dX11_tick_21 (by decide) ?_
  exact b_iret C hr hlocks hf dX11_tick_22
set_option maxRecDepth 100000 in
def fX11_tick_B36 (N : Nat) (g : Gs) (x0 : Nat) (x1 : Int32) (K36 : Int32 × Int32 × Ds → Option (Int32 × Ds)) (y2 : Int32) (y3 : Int32) (d : Ds) : Option (Int32 × Ds) := if x1 ≤ y3 then (gd (chk g x0 10) <| ob (gR g x0 6) fun r17 => (gd (chk g r17 1) <| ob (gR g r17 4) fun r19 => (gd (chk g r19 5) <| some (((dI d r19 4) - y2), d)))) else (gd (chk g x0 10) <| ob (gR g x0 6) fun r22 => (gd (chk g r22 1) <| cv (fX1_passTick N g r22 d) fun d24 => (bd (y3 + 1) fun u26 => (K36 (y2, u26, d24)))))
set_option maxHeartbeats 4000000 in
set_option maxRecDepth 100000 in
theorem tX11_tick_36 {p : Program} {l : Launch} {e : Env} {s : State} {m : MethodId} {args : Array Value} {below : List Frame} {meth : Method} {c : Code} {D : va_G} {cy : Nat → ClassId} {B : Bs} (C : Cx p s m args c cX11_tick 4 RX11 D cy B) (hr : meth.sig.returnType = (some .int)) (hlocks : meth.locks = false) {N : Nat} {g : Gs} {x0 : Nat} {x1 : Int32} {vz : Int32} {dz : Ds} {K36 : Int32 × Int32 × Ds → Option (Int32 × Ds)} (hK36 : ∀ a, K36 a = some (vz, dz) → WB p l e rmX11_tick s m args below meth c 4 D cy B 0 0 (MQ below (QI D cy B vz g dz) args s 0 0 (wA B)) g a.2.2 [(0, .ref (ad B x0)), (1, .int x1), (2, .int a.1), (3, .int a.2.1)] 36 []) {y2 : Int32} {y3 : Int32} {d : Ds} (hf : fX11_tick_B36 N g x0 x1 K36 y2 y3 d = some (vz, dz)) : WB p l e rmX11_tick s m args below meth c 4 D cy B 0 0 (MQ below (QI D cy B vz g dz) args s 0 0 (wA B)) g d [(0, .ref (ad B x0)), (1, .int x1), (2, .int y2), (3, .int y3)] 36 [] := by
  unfold fX11_tick_B36 at hf
  refine b_iload_n C dX11_tick_36 3 rfl rfl ?_
  refine b_iload_n C dX11_tick_37 1 rfl rfl ?_
  refine b_icmp_ge C (tgt := 54) dX11_tick_38 (by decide) (fun c15 => ?_) (fun c15 => ?_)
  · have hf := it_s c15 hf
    refine b_aload_n C dX11_tick_54 0 rfl rfl ?_
    obtain ⟨h16, hf⟩ := gd_s hf
    obtain ⟨r17, er17, hf⟩ := ob_s hf
    refine b_gR C dX11_tick_55 fl_X11_46 h16 er17 ?_
    obtain ⟨h18, hf⟩ := gd_s hf
    obtain ⟨r19, er19, hf⟩ := ob_s hf
    refine b_gR C dX11_tick_58 fl_X11_111 h18 er19 ?_
    obtain ⟨h20, hf⟩ := gd_s hf
    refine b_gI C dX11_tick_61 fl_X11_115 h20 ?_
    refine b_iload_n C dX11_tick_64 2 rfl rfl ?_
    refine b_isub C dX11_tick_65 ?_
    exact b_iret C hr hlocks hf dX11_tick_66
  · have hf := if_s c15 hf
    refine b_aload_n C dX11_tick_41 0 rfl rfl ?_
    obtain ⟨h21, hf⟩ := gd_s hf
    obtain ⟨r22, er22, hf⟩ := ob_s hf
    refine b_gR C dX11_tick_42 fl_X11_46 h21 er22 ?_
    obtain ⟨h23, hf⟩ := gd_s hf
    obtain ⟨d24, k25, hf⟩ := cv_s hf
    refine b_cVN C [] dX11_tick_45 (kX1_passTick l D cy B k25) lv_X11_120 ⟨rfl, rfl, Nat.le_of_ble_eq_true rfl, Nat.le_of_ble_eq_true rfl⟩ h23 (by decide) rfl (Nat.le_of_ble_eq_true rfl) ⟨Nat.zero_le _, Nat.zero_le _⟩ rfl ?_
    obtain ⟨u26, eu26, hf⟩ := bd_s hf
    refine b_iinc C dX11_tick_48 3 rfl (by rw [eu26]; rfl) [(3, .int u26), (0, .ref (ad B x0)), (1, .int x1), (2, .int y2)] (by decide) rfl ?_
    refine b_goto C (tgt := 36) dX11_tick_51 (by decide) ?_
    refine b_sub [(0, .ref (ad B x0)), (1, .int x1), (2, .int y2), (3, .int u26)] [1, 2, 3, 0] rfl ?_
    exact hK36 (y2, u26, d24) hf
def fX11_tick_L36 (N : Nat) (g : Gs) (x0 : Nat) (x1 : Int32) : Int32 × Int32 × Ds → Option (Int32 × Ds) := lp (fun K36 a => fX11_tick_B36 N g x0 x1 K36 a.1 a.2.1 a.2.2) N
theorem tX11_tick_L36 {p : Program} {l : Launch} {e : Env} {s : State} {m : MethodId} {args : Array Value} {below : List Frame} {meth : Method} {c : Code} {D : va_G} {cy : Nat → ClassId} {B : Bs} (C : Cx p s m args c cX11_tick 4 RX11 D cy B) (hr : meth.sig.returnType = (some .int)) (hlocks : meth.locks = false) {N : Nat} {g : Gs} {x0 : Nat} {x1 : Int32} {vz : Int32} {dz : Ds} (a : Int32 × Int32 × Ds) (hf : fX11_tick_L36 N g x0 x1 a = some (vz, dz)) : WB p l e rmX11_tick s m args below meth c 4 D cy B 0 0 (MQ below (QI D cy B vz g dz) args s 0 0 (wA B)) g a.2.2 [(0, .ref (ad B x0)), (1, .int x1), (2, .int a.1), (3, .int a.2.1)] 36 [] :=
  lp_w (fun K36 hK36 a ha => tX11_tick_36 C hr hlocks hK36 ha) N a hf
set_option maxRecDepth 100000 in
def fX11_tick (N : Nat) (g : Gs) (x0 : Nat) (x1 : Int32) (d : Ds) : Option (Int32 × Ds) := if x1 < (1 : Int32) then (fX11_tick_J21 N g x0 x1 d) else (if (50 : Int32) < x1 then (fX11_tick_J21 N g x0 x1 d) else (gd (chk g x0 10) <| ob (gR g x0 4) fun r4 => (gd (chk g r4 0) <| cb (fX0_keys N g r4 d) fun u8 d6 => (if u8 = 0 then (fX11_tick_J21 N g x0 x1 d6) else (ob (gR g x0 6) fun r10 => (gd (chk g r10 1) <| ob (gR g r10 4) fun r12 => (gd (chk g r12 5) <| bd ((dI d6 r12 4)) fun u14 => (fX11_tick_L36 N g x0 x1 (u14, 0, d6)))))))))
set_option maxHeartbeats 4000000 in
set_option maxRecDepth 100000 in
theorem tX11_tick_E {p : Program} {l : Launch} {e : Env} {s : State} {m : MethodId} {args : Array Value} {below : List Frame} {meth : Method} {c : Code} {D : va_G} {cy : Nat → ClassId} {B : Bs} (C : Cx p s m args c cX11_tick 4 RX11 D cy B) (hr : meth.sig.returnType = (some .int)) (hlocks : meth.locks = false) {N : Nat} {g : Gs} {x0 : Nat} {x1 : Int32} {vz : Int32} {dz : Ds} {d : Ds} (hf : fX11_tick N g x0 x1 d = some (vz, dz)) : WB p l e rmX11_tick s m args below meth c 4 D cy B 0 0 (MQ below (QI D cy B vz g dz) args s 0 0 (wA B)) g d [(0, .ref (ad B x0)), (1, .int x1)] 0 [] := by
  unfold fX11_tick at hf
  refine b_iload_n C dX11_tick_0 1 rfl rfl ?_
  refine b_iconst C (v := 1) dX11_tick_1 (by decide) ?_
  refine b_icmp_lt C (tgt := 21) dX11_tick_2 (by decide) (fun c1 => ?_) (fun c1 => ?_)
  · have hf := it_s c1 hf
    refine b_sub [(0, .ref (ad B x0)), (1, .int x1)] [0, 1] rfl ?_
    exact tX11_tick_21 C hr hlocks hf
  · have hf := if_s c1 hf
    refine b_iload_n C dX11_tick_5 1 rfl rfl ?_
    refine b_bipush C (v := 50) dX11_tick_6 (by decide) ?_
    refine b_icmp_gt C (tgt := 21) dX11_tick_8 (by decide) (fun c2 => ?_) (fun c2 => ?_)
    · have hf := it_s c2 hf
      refine b_sub [(0, .ref (ad B x0)), (1, .int x1)] [0, 1] rfl ?_
      exact tX11_tick_21 C hr hlocks hf
    · have hf := if_s c2 hf
      refine b_aload_n C dX11_tick_11 0 rfl rfl ?_
      obtain ⟨h3, hf⟩ := gd_s hf
      obtain ⟨r4, er4, hf⟩ := ob_s hf
      refine b_gR C dX11_tick_12 fl_X11_30 h3 er4 ?_
      obtain ⟨h5, hf⟩ := gd_s hf
      obtain ⟨u8, d6, k7, hf⟩ := cb_s hf
      refine b_cVI C [] dX11_tick_15 (kX0_keys l D cy B k7) lv_X11_107 ⟨rfl, rfl, Nat.le_of_ble_eq_true rfl, Nat.le_of_ble_eq_true rfl⟩ h5 (by decide) rfl (Nat.le_of_ble_eq_true rfl) ⟨Nat.zero_le _, Nat.zero_le _⟩ rfl ?_
      refine b_if_ne C (tgt := 23) dX11_tick_18 (by decide) (fun c9 => ?_) (fun c9 => ?_)
      · have hf := if_s c9 hf
        refine b_aload_n C dX11_tick_23 0 rfl rfl ?_
        obtain ⟨r10, er10, hf⟩ := ob_s hf
        refine b_gR C dX11_tick_24 fl_X11_46 h3 er10 ?_
        obtain ⟨h11, hf⟩ := gd_s hf
        obtain ⟨r12, er12, hf⟩ := ob_s hf
        refine b_gR C dX11_tick_27 fl_X11_111 h11 er12 ?_
        obtain ⟨h13, hf⟩ := gd_s hf
        refine b_gI C dX11_tick_30 fl_X11_115 h13 ?_
        obtain ⟨u14, eu14, hf⟩ := bd_s hf
        refine b_topI eu14 ?_
        refine b_istore_n C dX11_tick_33 rfl [(2, .int u14), (0, .ref (ad B x0)), (1, .int x1)] (by decide) rfl ?_
        refine b_iconst C (v := 0) dX11_tick_34 (by decide) ?_
        refine b_istore_n C dX11_tick_35 rfl [(3, .int 0), (2, .int u14), (0, .ref (ad B x0)), (1, .int x1)] (by decide) rfl ?_
        refine b_sub [(0, .ref (ad B x0)), (1, .int x1), (2, .int u14), (3, .int 0)] [2, 3, 1, 0] rfl ?_
        exact tX11_tick_L36 C hr hlocks (u14, 0, d6) hf
      · have hf := it_s c9 hf
        refine b_sub [(0, .ref (ad B x0)), (1, .int x1)] [0, 1] rfl ?_
        exact tX11_tick_21 C hr hlocks hf
theorem kX11_tick (l : Launch) (D : va_G) (cy : Nat → ClassId) (B : Bs) {N : Nat} {g : Gs} {x0 : Nat} {x1 : Int32} {vz : Int32} {dz : Ds} {d : Ds} (hf : fX11_tick N g x0 x1 d = some (vz, dz)) : Met l yX11_tick (.code yX11_tick cX11_tick 4 (some .int) :: wl) rmX11_tick (PC D cy B [.ref (ad B x0), .int x1] g d) (QI D cy B vz g dz) 0 0 (wA B) :=
  met_of (by decide +kernel) (Nat.le_of_ble_eq_true rfl) (fun p e s m args below meth c C hr hlocks _ => b_sub [(0, .ref (ad B x0)), (1, .int x1)] [0, 1] rfl (tX11_tick_E C hr hlocks hf))
/-! KeyMatrix.bitOf(II)I -/
theorem dX11_bitOf_0 : decode cX11_bitOf 0 = .ok (.iload_n 0, 1) := by decide +kernel
theorem dX11_bitOf_1 : decode cX11_bitOf 1 = .ok (.iload_n 1, 1) := by decide +kernel
theorem dX11_bitOf_2 : decode cX11_bitOf 2 = .ok (.iushr, 1) := by decide +kernel
theorem dX11_bitOf_3 : decode cX11_bitOf 3 = .ok (.iconst 1, 1) := by decide +kernel
theorem dX11_bitOf_4 : decode cX11_bitOf 4 = .ok (.iand, 1) := by decide +kernel
theorem dX11_bitOf_5 : decode cX11_bitOf 5 = .ok (.ireturn, 1) := by decide +kernel
def rmX11_bitOf : Room := { frames := 0, cells := 0, slots := 0, locals := 0 }
set_option maxRecDepth 100000 in
def fX11_bitOf (N : Nat) (g : Gs) (x0 : Int32) (x1 : Int32) (d : Ds) : Option (Int32 × Ds) := some ((((x0.toUInt32 >>> (x1.toUInt32 &&& Int32.toUInt32 31)).toInt32) &&& 1), d)
set_option maxHeartbeats 4000000 in
set_option maxRecDepth 100000 in
theorem tX11_bitOf_E {p : Program} {l : Launch} {e : Env} {s : State} {m : MethodId} {args : Array Value} {below : List Frame} {meth : Method} {c : Code} {D : va_G} {cy : Nat → ClassId} {B : Bs} (C : Cx p s m args c cX11_bitOf 2 RX11 D cy B) (hr : meth.sig.returnType = (some .int)) (hlocks : meth.locks = false) {N : Nat} {g : Gs} {x0 : Int32} {x1 : Int32} {vz : Int32} {dz : Ds} {d : Ds} (hf : fX11_bitOf N g x0 x1 d = some (vz, dz)) : WB p l e rmX11_bitOf s m args below meth c 2 D cy B 0 0 (MQ below (QI D cy B vz g dz) args s 0 0 (wA B)) g d [(0, .int x0), (1, .int x1)] 0 [] := by
  unfold fX11_bitOf at hf
  refine b_iload_n C dX11_bitOf_0 0 rfl rfl ?_
  refine b_iload_n C dX11_bitOf_1 1 rfl rfl ?_
  refine b_iushr C dX11_bitOf_2 ?_
  refine b_iconst C (v := 1) dX11_bitOf_3 (by decide) ?_
  refine b_iand C dX11_bitOf_4 ?_
  exact b_iret C hr hlocks hf dX11_bitOf_5
theorem kX11_bitOf (l : Launch) (D : va_G) (cy : Nat → ClassId) (B : Bs) {N : Nat} {g : Gs} {x0 : Int32} {x1 : Int32} {vz : Int32} {dz : Ds} {d : Ds} (hf : fX11_bitOf N g x0 x1 d = some (vz, dz)) : Met l yX11_bitOf (.code yX11_bitOf cX11_bitOf 2 (some .int) :: wl) rmX11_bitOf (PC D cy B [.int x0, .int x1] g d) (QI D cy B vz g dz) 0 0 (wA B) :=
  met_of (by decide +kernel) (Nat.le_of_ble_eq_true rfl) (fun p e s m args below meth c C hr hlocks _ => b_sub [(0, .int x0), (1, .int x1)] [0, 1] rfl (tX11_bitOf_E C hr hlocks hf))
/-! KeyMatrix.floatBits(F)I -/
theorem ct_X11_313 : Cond.constantFloat RX11 313 1258291200 ∈ wl := mW (mT4 (List.mem_of_getElem? (i := 218) (by decide +kernel))) rfl
theorem dX11_floatBits_0 : decode cX11_floatBits 0 = .ok (.fload_n 0, 1) := by decide +kernel
theorem dX11_floatBits_1 : decode cX11_floatBits 1 = .ok (.fstore_n 1, 1) := by decide +kernel
theorem dX11_floatBits_2 : decode cX11_floatBits 2 = .ok (.bipush 127, 2) := by decide +kernel
theorem dX11_floatBits_4 : decode cX11_floatBits 4 = .ok (.istore_n 2, 1) := by decide +kernel
theorem dX11_floatBits_5 : decode cX11_floatBits 5 = .ok (.fload_n 1, 1) := by decide +kernel
theorem dX11_floatBits_6 : decode cX11_floatBits 6 = .ok (.fconst 1, 1) := by decide +kernel
theorem dX11_floatBits_7 : decode cX11_floatBits 7 = .ok (.fcmp .g, 1) := by decide +kernel
theorem dX11_floatBits_8 : decode cX11_floatBits 8 = .ok (.ifCond .ge 18, 3) := by decide +kernel
theorem dX11_floatBits_11 : decode cX11_floatBits 11 = .ok (.iload_n 2, 1) := by decide +kernel
theorem dX11_floatBits_12 : decode cX11_floatBits 12 = .ok (.iconst 1, 1) := by decide +kernel
theorem dX11_floatBits_13 : decode cX11_floatBits 13 = .ok (.if_icmp .le 13, 3) := by decide +kernel
theorem dX11_floatBits_16 : decode cX11_floatBits 16 = .ok (.fload_n 1, 1) := by decide +kernel
theorem dX11_floatBits_17 : decode cX11_floatBits 17 = .ok (.fconst 2, 1) := by decide +kernel
theorem dX11_floatBits_18 : decode cX11_floatBits 18 = .ok (.fmul, 1) := by decide +kernel
theorem dX11_floatBits_19 : decode cX11_floatBits 19 = .ok (.fstore_n 1, 1) := by decide +kernel
theorem dX11_floatBits_20 : decode cX11_floatBits 20 = .ok (.iinc 2 (-1), 3) := by decide +kernel
theorem dX11_floatBits_23 : decode cX11_floatBits 23 = .ok (.goto (-18), 3) := by decide +kernel
theorem dX11_floatBits_26 : decode cX11_floatBits 26 = .ok (.fload_n 1, 1) := by decide +kernel
theorem dX11_floatBits_27 : decode cX11_floatBits 27 = .ok (.fconst 1, 1) := by decide +kernel
theorem dX11_floatBits_28 : decode cX11_floatBits 28 = .ok (.fcmp .g, 1) := by decide +kernel
theorem dX11_floatBits_29 : decode cX11_floatBits 29 = .ok (.ifCond .ge 10, 3) := by decide +kernel
theorem dX11_floatBits_32 : decode cX11_floatBits 32 = .ok (.fload_n 1, 1) := by decide +kernel
theorem dX11_floatBits_33 : decode cX11_floatBits 33 = .ok (.ldc_w 313, 3) := by decide +kernel
theorem dX11_floatBits_36 : decode cX11_floatBits 36 = .ok (.fmul, 1) := by decide +kernel
theorem dX11_floatBits_37 : decode cX11_floatBits 37 = .ok (.f2i, 1) := by decide +kernel
theorem dX11_floatBits_38 : decode cX11_floatBits 38 = .ok (.ireturn, 1) := by decide +kernel
theorem dX11_floatBits_39 : decode cX11_floatBits 39 = .ok (.iload_n 2, 1) := by decide +kernel
theorem dX11_floatBits_40 : decode cX11_floatBits 40 = .ok (.bipush 23, 2) := by decide +kernel
theorem dX11_floatBits_42 : decode cX11_floatBits 42 = .ok (.ishl, 1) := by decide +kernel
theorem dX11_floatBits_43 : decode cX11_floatBits 43 = .ok (.fload_n 1, 1) := by decide +kernel
theorem dX11_floatBits_44 : decode cX11_floatBits 44 = .ok (.fconst 1, 1) := by decide +kernel
theorem dX11_floatBits_45 : decode cX11_floatBits 45 = .ok (.fsub, 1) := by decide +kernel
theorem dX11_floatBits_46 : decode cX11_floatBits 46 = .ok (.ldc_w 313, 3) := by decide +kernel
theorem dX11_floatBits_49 : decode cX11_floatBits 49 = .ok (.fmul, 1) := by decide +kernel
theorem dX11_floatBits_50 : decode cX11_floatBits 50 = .ok (.f2i, 1) := by decide +kernel
theorem dX11_floatBits_51 : decode cX11_floatBits 51 = .ok (.iadd, 1) := by decide +kernel
theorem dX11_floatBits_52 : decode cX11_floatBits 52 = .ok (.ireturn, 1) := by decide +kernel
def rmX11_floatBits : Room := { frames := 0, cells := 0, slots := 0, locals := 0 }
set_option maxRecDepth 100000 in
def fX11_floatBits_J26 (N : Nat) (g : Gs) (x0 : UInt32) (y1 : UInt32) (y2 : Int32) (d : Ds) : Option (Int32 × Ds) := if 0 ≤ (Op.cmpValue (FP.fcmp y1 FP.fconst1) .g) then (gd ((FP.fsub y1 FP.fconst1) &&& 0x7fffffff ≤ 0x7f800000) <| bd (FP.fsub y1 FP.fconst1) fun u4 => (gd ((FP.fmul u4 1258291200) &&& 0x7fffffff ≤ 0x7f800000) <| bd (FP.fmul u4 1258291200) fun u6 => (some (((y2 <<< (23 &&& 31)) + (FP.f2i u6)), d)))) else (gd ((FP.fmul y1 1258291200) &&& 0x7fffffff ≤ 0x7f800000) <| bd (FP.fmul y1 1258291200) fun u8 => (some ((FP.f2i u8), d)))
set_option maxHeartbeats 4000000 in
set_option maxRecDepth 100000 in
theorem tX11_floatBits_26 {p : Program} {l : Launch} {e : Env} {s : State} {m : MethodId} {args : Array Value} {below : List Frame} {meth : Method} {c : Code} {D : va_G} {cy : Nat → ClassId} {B : Bs} (C : Cx p s m args c cX11_floatBits 3 RX11 D cy B) (hr : meth.sig.returnType = (some .int)) (hlocks : meth.locks = false) {N : Nat} {g : Gs} {x0 : UInt32} {vz : Int32} {dz : Ds} {y1 : UInt32} {y2 : Int32} {d : Ds} (hf : fX11_floatBits_J26 N g x0 y1 y2 d = some (vz, dz)) : WB p l e rmX11_floatBits s m args below meth c 3 D cy B 0 0 (MQ below (QI D cy B vz g dz) args s 0 0 (wA B)) g d [(0, .float x0), (1, .float y1), (2, .int y2)] 26 [] := by
  unfold fX11_floatBits_J26 at hf
  refine b_fload_n C dX11_floatBits_26 1 rfl rfl ?_
  refine b_fconst1 C dX11_floatBits_27 ?_
  refine b_fcmp C dX11_floatBits_28 ?_
  refine b_if_ge C (tgt := 39) dX11_floatBits_29 (by decide) (fun c2 => ?_) (fun c2 => ?_)
  · have hf := it_s c2 hf
    refine b_iload_n C dX11_floatBits_39 2 rfl rfl ?_
    refine b_bipush C (v := 23) dX11_floatBits_40 (by decide) ?_
    refine b_ishl C dX11_floatBits_42 ?_
    refine b_fload_n C dX11_floatBits_43 1 rfl rfl ?_
    refine b_fconst1 C dX11_floatBits_44 ?_
    obtain ⟨h3, hf⟩ := gd_s hf
    refine b_fsub C dX11_floatBits_45 h3 ?_
    obtain ⟨u4, eu4, hf⟩ := bd_s hf
    refine b_topF eu4 ?_
    refine b_ldcfw C ct_X11_313 dX11_floatBits_46 ?_
    obtain ⟨h5, hf⟩ := gd_s hf
    refine b_fmul C dX11_floatBits_49 h5 ?_
    obtain ⟨u6, eu6, hf⟩ := bd_s hf
    refine b_topF eu6 ?_
    refine b_f2i C dX11_floatBits_50 ?_
    refine b_iadd C dX11_floatBits_51 ?_
    exact b_iret C hr hlocks hf dX11_floatBits_52
  · have hf := if_s c2 hf
    refine b_fload_n C dX11_floatBits_32 1 rfl rfl ?_
    refine b_ldcfw C ct_X11_313 dX11_floatBits_33 ?_
    obtain ⟨h7, hf⟩ := gd_s hf
    refine b_fmul C dX11_floatBits_36 h7 ?_
    obtain ⟨u8, eu8, hf⟩ := bd_s hf
    refine b_topF eu8 ?_
    refine b_f2i C dX11_floatBits_37 ?_
    exact b_iret C hr hlocks hf dX11_floatBits_38
set_option maxRecDepth 100000 in
def fX11_floatBits_B5 (N : Nat) (g : Gs) (x0 : UInt32) (K5 : UInt32 × Int32 × Ds → Option (Int32 × Ds)) (y1 : UInt32) (y2 : Int32) (d : Ds) : Option (Int32 × Ds) := if 0 ≤ (Op.cmpValue (FP.fcmp y1 FP.fconst1) .g) then (fX11_floatBits_J26 N g x0 y1 y2 d) else (if y2 ≤ (1 : Int32) then (fX11_floatBits_J26 N g x0 y1 y2 d) else (gd ((FP.fmul y1 FP.fconst2) &&& 0x7fffffff ≤ 0x7f800000) <| bd (FP.fmul y1 FP.fconst2) fun u11 => (bd (y2 + (-1)) fun u12 => (K5 (u11, u12, d)))))
set_option maxHeartbeats 4000000 in
set_option maxRecDepth 100000 in
theorem tX11_floatBits_5 {p : Program} {l : Launch} {e : Env} {s : State} {m : MethodId} {args : Array Value} {below : List Frame} {meth : Method} {c : Code} {D : va_G} {cy : Nat → ClassId} {B : Bs} (C : Cx p s m args c cX11_floatBits 3 RX11 D cy B) (hr : meth.sig.returnType = (some .int)) (hlocks : meth.locks = false) {N : Nat} {g : Gs} {x0 : UInt32} {vz : Int32} {dz : Ds} {K5 : UInt32 × Int32 × Ds → Option (Int32 × Ds)} (hK5 : ∀ a, K5 a = some (vz, dz) → WB p l e rmX11_floatBits s m args below meth c 3 D cy B 0 0 (MQ below (QI D cy B vz g dz) args s 0 0 (wA B)) g a.2.2 [(0, .float x0), (1, .float a.1), (2, .int a.2.1)] 5 []) {y1 : UInt32} {y2 : Int32} {d : Ds} (hf : fX11_floatBits_B5 N g x0 K5 y1 y2 d = some (vz, dz)) : WB p l e rmX11_floatBits s m args below meth c 3 D cy B 0 0 (MQ below (QI D cy B vz g dz) args s 0 0 (wA B)) g d [(0, .float x0), (1, .float y1), (2, .int y2)] 5 [] := by
  unfold fX11_floatBits_B5 at hf
  refine b_fload_n C dX11_floatBits_5 1 rfl rfl ?_
  refine b_fconst1 C dX11_floatBits_6 ?_
  refine b_fcmp C dX11_floatBits_7 ?_
  refine b_if_ge C (tgt := 26) dX11_floatBits_8 (by decide) (fun c1 => ?_) (fun c1 => ?_)
  · have hf := it_s c1 hf
    refine b_sub [(0, .float x0), (1, .float y1), (2, .int y2)] [0, 1, 2] rfl ?_
    exact tX11_floatBits_26 C hr hlocks hf
  · have hf := if_s c1 hf
    refine b_iload_n C dX11_floatBits_11 2 rfl rfl ?_
    refine b_iconst C (v := 1) dX11_floatBits_12 (by decide) ?_
    refine b_icmp_le C (tgt := 26) dX11_floatBits_13 (by decide) (fun c9 => ?_) (fun c9 => ?_)
    · have hf := it_s c9 hf
      refine b_sub [(0, .float x0), (1, .float y1), (2, .int y2)] [0, 1, 2] rfl ?_
      exact tX11_floatBits_26 C hr hlocks hf
    · have hf := if_s c9 hf
      refine b_fload_n C dX11_floatBits_16 1 rfl rfl ?_
      refine b_fconst2 C dX11_floatBits_17 ?_
      obtain ⟨h10, hf⟩ := gd_s hf
      refine b_fmul C dX11_floatBits_18 h10 ?_
      obtain ⟨u11, eu11, hf⟩ := bd_s hf
      refine b_topF eu11 ?_
      refine b_fstore_n C dX11_floatBits_19 rfl [(1, .float u11), (0, .float x0), (2, .int y2)] (by decide) rfl ?_
      obtain ⟨u12, eu12, hf⟩ := bd_s hf
      refine b_iinc C dX11_floatBits_20 2 rfl (by rw [eu12]; rfl) [(2, .int u12), (1, .float u11), (0, .float x0)] (by decide) rfl ?_
      refine b_goto C (tgt := 5) dX11_floatBits_23 (by decide) ?_
      refine b_sub [(0, .float x0), (1, .float u11), (2, .int u12)] [2, 1, 0] rfl ?_
      exact hK5 (u11, u12, d) hf
def fX11_floatBits_L5 (N : Nat) (g : Gs) (x0 : UInt32) : UInt32 × Int32 × Ds → Option (Int32 × Ds) := lp (fun K5 a => fX11_floatBits_B5 N g x0 K5 a.1 a.2.1 a.2.2) N
theorem tX11_floatBits_L5 {p : Program} {l : Launch} {e : Env} {s : State} {m : MethodId} {args : Array Value} {below : List Frame} {meth : Method} {c : Code} {D : va_G} {cy : Nat → ClassId} {B : Bs} (C : Cx p s m args c cX11_floatBits 3 RX11 D cy B) (hr : meth.sig.returnType = (some .int)) (hlocks : meth.locks = false) {N : Nat} {g : Gs} {x0 : UInt32} {vz : Int32} {dz : Ds} (a : UInt32 × Int32 × Ds) (hf : fX11_floatBits_L5 N g x0 a = some (vz, dz)) : WB p l e rmX11_floatBits s m args below meth c 3 D cy B 0 0 (MQ below (QI D cy B vz g dz) args s 0 0 (wA B)) g a.2.2 [(0, .float x0), (1, .float a.1), (2, .int a.2.1)] 5 [] :=
  lp_w (fun K5 hK5 a ha => tX11_floatBits_5 C hr hlocks hK5 ha) N a hf
set_option maxRecDepth 100000 in
def fX11_floatBits (N : Nat) (g : Gs) (x0 : UInt32) (d : Ds) : Option (Int32 × Ds) := fX11_floatBits_L5 N g x0 (x0, 127, d)
set_option maxHeartbeats 4000000 in
set_option maxRecDepth 100000 in
theorem tX11_floatBits_E {p : Program} {l : Launch} {e : Env} {s : State} {m : MethodId} {args : Array Value} {below : List Frame} {meth : Method} {c : Code} {D : va_G} {cy : Nat → ClassId} {B : Bs} (C : Cx p s m args c cX11_floatBits 3 RX11 D cy B) (hr : meth.sig.returnType = (some .int)) (hlocks : meth.locks = false) {N : Nat} {g : Gs} {x0 : UInt32} {vz : Int32} {dz : Ds} {d : Ds} (hf : fX11_floatBits N g x0 d = some (vz, dz)) : WB p l e rmX11_floatBits s m args below meth c 3 D cy B 0 0 (MQ below (QI D cy B vz g dz) args s 0 0 (wA B)) g d [(0, .float x0)] 0 [] := by
  unfold fX11_floatBits at hf
  refine b_fload_n C dX11_floatBits_0 0 rfl rfl ?_
  refine b_fstore_n C dX11_floatBits_1 rfl [(1, .float x0), (0, .float x0)] (by decide) rfl ?_
  refine b_bipush C (v := 127) dX11_floatBits_2 (by decide) ?_
  refine b_istore_n C dX11_floatBits_4 rfl [(2, .int 127), (1, .float x0), (0, .float x0)] (by decide) rfl ?_
  refine b_sub [(0, .float x0), (1, .float x0), (2, .int 127)] [2, 1, 0] rfl ?_
  exact tX11_floatBits_L5 C hr hlocks (x0, 127, d) hf
theorem kX11_floatBits (l : Launch) (D : va_G) (cy : Nat → ClassId) (B : Bs) {N : Nat} {g : Gs} {x0 : UInt32} {vz : Int32} {dz : Ds} {d : Ds} (hf : fX11_floatBits N g x0 d = some (vz, dz)) : Met l yX11_floatBits (.code yX11_floatBits cX11_floatBits 3 (some .int) :: wl) rmX11_floatBits (PC D cy B [.float x0] g d) (QI D cy B vz g dz) 0 0 (wA B) :=
  met_of (by decide +kernel) (Nat.le_of_ble_eq_true rfl) (fun p e s m args below meth c C hr hlocks _ => b_sub [(0, .float x0)] [0] rfl (tX11_floatBits_E C hr hlocks hf))
