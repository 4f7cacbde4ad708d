/-! KeyMatrixModel.startsAnew()V -/
theorem inl11 : ∀ w ∈ u_ws RX12 TX12 33, w ∈ wl := by
  have h0 : u_ws RX12 TX12 33 = [Cond.lays "KeyMatrixModel" "KeyMatrixModel" "thrown" "I", Cond.laysFinal "KeyMatrixModel" "KeyMatrixModel" "tape" "[B", Cond.lays "KeyMatrixModel" "KeyMatrixModel" "taped" "I", Cond.laysFinal "KeyMatrixModel" "KeyMatrixModel" "text" "[B", Cond.lays "KeyMatrixModel" "KeyMatrixModel" "size" "I", Cond.laysFinal "KeyMatrixModel" "KeyMatrixModel" "tKind" "[I", Cond.laysFinal "KeyMatrixModel" "KeyMatrixModel" "tPlace" "[I", Cond.laysFinal "KeyMatrixModel" "KeyMatrixModel" "tValue" "[I", Cond.laysFinal "KeyMatrixModel" "KeyMatrixModel" "tName" "[J", Cond.laysFinal "KeyMatrixModel" "KeyMatrixModel" "keys" "[J", Cond.lays "KeyMatrixModel" "KeyMatrixModel" "tokens" "I", Cond.lays "KeyMatrixModel" "KeyMatrixModel" "t" "I", Cond.lays "KeyMatrixModel" "KeyMatrixModel" "fault" "I", Cond.lays "KeyMatrixModel" "KeyMatrixModel" "faultPlace" "I", Cond.lays "KeyMatrixModel" "KeyMatrixModel" "worst" "I", Cond.lays "KeyMatrixModel" "KeyMatrixModel" "worstPlace" "I", Cond.lays "KeyMatrixModel" "KeyMatrixModel" "place" "I", Cond.laysFinal "KeyMatrixModel" "KeyMatrixModel" "now" "[I", Cond.laysFinal "KeyMatrixModel" "KeyMatrixModel" "draft" "[I", Cond.laysFinal "KeyMatrixModel" "KeyMatrixModel" "steady" "[F", Cond.lays "KeyMatrixModel" "KeyMatrixModel" "chordLines" "I", Cond.lays "KeyMatrixModel" "KeyMatrixModel" "macroLines" "I", Cond.lays "KeyMatrixModel" "KeyMatrixModel" "isBoard" "Z", Cond.laysFinal "KeyMatrixModel" "KeyMatrixModel" "deedTold" "[I", Cond.laysFinal "KeyMatrixModel" "KeyMatrixModel" "partOf" "[I", Cond.lays "KeyMatrixModel" "KeyMatrixModel" "sentMods" "I", Cond.lays "KeyMatrixModel" "KeyMatrixModel" "sentMany" "I", Cond.laysFinal "KeyMatrixModel" "KeyMatrixModel" "sentCodes" "[I", Cond.laysFinal "KeyMatrixModel" "KeyMatrixModel" "aside" "[I", Cond.laysFinal "KeyMatrixModel" "KeyMatrixModel" "asideSteady" "[F", Cond.laysFinal "KeyMatrixModel" "KeyMatrixModel" "held" "[I", Cond.laysFinal "KeyMatrixModel" "KeyMatrixModel" "heldSteady" "[F", Cond.laysFinal "KeyMatrixModel" "KeyMatrixModel" "isHeld" "[Z"] := by decide +kernel
  rw [h0]
  exact List.forall_mem_cons.mpr ⟨mW (mT5 (List.mem_of_getElem? (i := 124) (by decide +kernel))) rfl, List.forall_mem_cons.mpr ⟨mW (mT5 (List.mem_of_getElem? (i := 126) (by decide +kernel))) rfl, List.forall_mem_cons.mpr ⟨mW (mT5 (List.mem_of_getElem? (i := 128) (by decide +kernel))) rfl, List.forall_mem_cons.mpr ⟨mW (mT5 (List.mem_of_getElem? (i := 130) (by decide +kernel))) rfl, List.forall_mem_cons.mpr ⟨mW (mT5 (List.mem_of_getElem? (i := 132) (by decide +kernel))) rfl, List.forall_mem_cons.mpr ⟨mW (mT5 (List.mem_of_getElem? (i := 134) (by decide +kernel))) rfl, List.forall_mem_cons.mpr ⟨mW (mT5 (List.mem_of_getElem? (i := 136) (by decide +kernel))) rfl, List.forall_mem_cons.mpr ⟨mW (mT5 (List.mem_of_getElem? (i := 138) (by decide +kernel))) rfl, List.forall_mem_cons.mpr ⟨mW (mT5 (List.mem_of_getElem? (i := 140) (by decide +kernel))) rfl, List.forall_mem_cons.mpr ⟨mW (mT5 (List.mem_of_getElem? (i := 142) (by decide +kernel))) rfl, List.forall_mem_cons.mpr ⟨mW (mT5 (List.mem_of_getElem? (i := 144) (by decide +kernel))) rfl, List.forall_mem_cons.mpr ⟨mW (mT5 (List.mem_of_getElem? (i := 146) (by decide +kernel))) rfl, List.forall_mem_cons.mpr ⟨mW (mT5 (List.mem_of_getElem? (i := 148) (by decide +kernel))) rfl, List.forall_mem_cons.mpr ⟨mW (mT5 (List.mem_of_getElem? (i := 150) (by decide +kernel))) rfl, List.forall_mem_cons.mpr ⟨mW (mT5 (List.mem_of_getElem? (i := 152) (by decide +kernel))) rfl, List.forall_mem_cons.mpr ⟨mW (mT5 (List.mem_of_getElem? (i := 154) (by decide +kernel))) rfl, List.forall_mem_cons.mpr ⟨mW (mT5 (List.mem_of_getElem? (i := 156) (by decide +kernel))) rfl, List.forall_mem_cons.mpr ⟨mW (mT5 (List.mem_of_getElem? (i := 158) (by decide +kernel))) rfl, List.forall_mem_cons.mpr ⟨mW (mT5 (List.mem_of_getElem? (i := 160) (by decide +kernel))) rfl, List.forall_mem_cons.mpr ⟨mW (mT5 (List.mem_of_getElem? (i := 162) (by decide +kernel))) rfl, List.forall_mem_cons.mpr ⟨mW (mT5 (List.mem_of_getElem? (i := 164) (by decide +kernel))) rfl, List.forall_mem_cons.mpr ⟨mW (mT5 (List.mem_of_getElem? (i := 166) (by decide +kernel))) rfl, List.forall_mem_cons.mpr ⟨mW (mT5 (List.mem_of_getElem? (i := 168) (by decide +kernel))) rfl, List.forall_mem_cons.mpr ⟨mW (mT5 (List.mem_of_getElem? (i := 170) (by decide +kernel))) rfl, List.forall_mem_cons.mpr ⟨mW (mT5 (List.mem_of_getElem? (i := 172) (by decide +kernel))) rfl, List.forall_mem_cons.mpr ⟨mW (mT5 (List.mem_of_getElem? (i := 174) (by decide +kernel))) rfl, List.forall_mem_cons.mpr ⟨mW (mT5 (List.mem_of_getElem? (i := 176) (by decide +kernel))) rfl, List.forall_mem_cons.mpr ⟨mW (mT5 (List.mem_of_getElem? (i := 178) (by decide +kernel))) rfl, List.forall_mem_cons.mpr ⟨mW (mT5 (List.mem_of_getElem? (i := 180) (by decide +kernel))) rfl, List.forall_mem_cons.mpr ⟨mW (mT5 (List.mem_of_getElem? (i := 182) (by decide +kernel))) rfl, List.forall_mem_cons.mpr ⟨mW (mT5 (List.mem_of_getElem? (i := 184) (by decide +kernel))) rfl, List.forall_mem_cons.mpr ⟨mW (mT5 (List.mem_of_getElem? (i := 186) (by decide +kernel))) rfl, List.forall_mem_cons.mpr ⟨mW (mT5 (List.mem_of_getElem? (i := 188) (by decide +kernel))) rfl, fun _ h => absurd h List.not_mem_nil⟩⟩⟩⟩⟩⟩⟩⟩⟩⟩⟩⟩⟩⟩⟩⟩⟩⟩⟩⟩⟩⟩⟩⟩⟩⟩⟩⟩⟩⟩⟩⟩⟩
theorem fl_X12_40 : FLR RX12 40 11 17 := ⟨⟨RX12, TX12, 33, rfl, by decide, inl11, Or.inl (mW (mT5 (List.mem_of_getElem? (i := 108) (by decide +kernel))) rfl)⟩, by decide, by decide +kernel⟩
theorem fl_X12_46 : FLR RX12 46 11 19 := ⟨⟨RX12, TX12, 33, rfl, by decide, inl11, Or.inl (mW (mT5 (List.mem_of_getElem? (i := 110) (by decide +kernel))) rfl)⟩, by decide, by decide +kernel⟩
theorem dX12_startsAnew_0 : decode cX12_startsAnew 0 = .ok (.sipush 352, 3) := by decide +kernel
theorem dX12_startsAnew_3 : decode cX12_startsAnew 3 = .ok (.istore_n 1, 1) := by decide +kernel
theorem dX12_startsAnew_4 : decode cX12_startsAnew 4 = .ok (.iload_n 1, 1) := by decide +kernel
theorem dX12_startsAnew_5 : decode cX12_startsAnew 5 = .ok (.sipush 9178, 3) := by decide +kernel
theorem dX12_startsAnew_8 : decode cX12_startsAnew 8 = .ok (.if_icmp .ge 16, 3) := by decide +kernel
theorem dX12_startsAnew_11 : decode cX12_startsAnew 11 = .ok (.aload_n 0, 1) := by decide +kernel
theorem dX12_startsAnew_12 : decode cX12_startsAnew 12 = .ok (.getfield 40, 3) := by decide +kernel
theorem dX12_startsAnew_15 : decode cX12_startsAnew 15 = .ok (.iload_n 1, 1) := by decide +kernel
theorem dX12_startsAnew_16 : decode cX12_startsAnew 16 = .ok (.iconst 0, 1) := by decide +kernel
theorem dX12_startsAnew_17 : decode cX12_startsAnew 17 = .ok (.iastore, 1) := by decide +kernel
theorem dX12_startsAnew_18 : decode cX12_startsAnew 18 = .ok (.iinc 1 1, 3) := by decide +kernel
theorem dX12_startsAnew_21 : decode cX12_startsAnew 21 = .ok (.goto (-17), 3) := by decide +kernel
theorem dX12_startsAnew_24 : decode cX12_startsAnew 24 = .ok (.iconst 0, 1) := by decide +kernel
theorem dX12_startsAnew_25 : decode cX12_startsAnew 25 = .ok (.istore_n 1, 1) := by decide +kernel
theorem dX12_startsAnew_26 : decode cX12_startsAnew 26 = .ok (.iload_n 1, 1) := by decide +kernel
theorem dX12_startsAnew_27 : decode cX12_startsAnew 27 = .ok (.bipush 24, 2) := by decide +kernel
theorem dX12_startsAnew_29 : decode cX12_startsAnew 29 = .ok (.if_icmp .ge 55, 3) := by decide +kernel
theorem dX12_startsAnew_32 : decode cX12_startsAnew 32 = .ok (.aload_n 0, 1) := by decide +kernel
theorem dX12_startsAnew_33 : decode cX12_startsAnew 33 = .ok (.getfield 46, 3) := by decide +kernel
theorem dX12_startsAnew_36 : decode cX12_startsAnew 36 = .ok (.iload_n 1, 1) := by decide +kernel
theorem dX12_startsAnew_37 : decode cX12_startsAnew 37 = .ok (.fconst 0, 1) := by decide +kernel
theorem dX12_startsAnew_38 : decode cX12_startsAnew 38 = .ok (.fastore, 1) := by decide +kernel
theorem dX12_startsAnew_39 : decode cX12_startsAnew 39 = .ok (.aload_n 0, 1) := by decide +kernel
theorem dX12_startsAnew_40 : decode cX12_startsAnew 40 = .ok (.getfield 40, 3) := by decide +kernel
theorem dX12_startsAnew_43 : decode cX12_startsAnew 43 = .ok (.sipush 379, 3) := by decide +kernel
theorem dX12_startsAnew_46 : decode cX12_startsAnew 46 = .ok (.iconst 3, 1) := by decide +kernel
theorem dX12_startsAnew_47 : decode cX12_startsAnew 47 = .ok (.iload_n 1, 1) := by decide +kernel
theorem dX12_startsAnew_48 : decode cX12_startsAnew 48 = .ok (.imul, 1) := by decide +kernel
theorem dX12_startsAnew_49 : decode cX12_startsAnew 49 = .ok (.iadd, 1) := by decide +kernel
theorem dX12_startsAnew_50 : decode cX12_startsAnew 50 = .ok (.iconst (-1), 1) := by decide +kernel
theorem dX12_startsAnew_51 : decode cX12_startsAnew 51 = .ok (.iastore, 1) := by decide +kernel
theorem dX12_startsAnew_52 : decode cX12_startsAnew 52 = .ok (.aload_n 0, 1) := by decide +kernel
theorem dX12_startsAnew_53 : decode cX12_startsAnew 53 = .ok (.getfield 40, 3) := by decide +kernel
theorem dX12_startsAnew_56 : decode cX12_startsAnew 56 = .ok (.sipush 379, 3) := by decide +kernel
theorem dX12_startsAnew_59 : decode cX12_startsAnew 59 = .ok (.iconst 3, 1) := by decide +kernel
theorem dX12_startsAnew_60 : decode cX12_startsAnew 60 = .ok (.iload_n 1, 1) := by decide +kernel
theorem dX12_startsAnew_61 : decode cX12_startsAnew 61 = .ok (.imul, 1) := by decide +kernel
theorem dX12_startsAnew_62 : decode cX12_startsAnew 62 = .ok (.iadd, 1) := by decide +kernel
theorem dX12_startsAnew_63 : decode cX12_startsAnew 63 = .ok (.iconst 1, 1) := by decide +kernel
theorem dX12_startsAnew_64 : decode cX12_startsAnew 64 = .ok (.iadd, 1) := by decide +kernel
theorem dX12_startsAnew_65 : decode cX12_startsAnew 65 = .ok (.iconst (-1), 1) := by decide +kernel
theorem dX12_startsAnew_66 : decode cX12_startsAnew 66 = .ok (.iastore, 1) := by decide +kernel
theorem dX12_startsAnew_67 : decode cX12_startsAnew 67 = .ok (.aload_n 0, 1) := by decide +kernel
theorem dX12_startsAnew_68 : decode cX12_startsAnew 68 = .ok (.getfield 40, 3) := by decide +kernel
theorem dX12_startsAnew_71 : decode cX12_startsAnew 71 = .ok (.sipush 507, 3) := by decide +kernel
theorem dX12_startsAnew_74 : decode cX12_startsAnew 74 = .ok (.iload_n 1, 1) := by decide +kernel
theorem dX12_startsAnew_75 : decode cX12_startsAnew 75 = .ok (.iadd, 1) := by decide +kernel
theorem dX12_startsAnew_76 : decode cX12_startsAnew 76 = .ok (.iconst (-1), 1) := by decide +kernel
theorem dX12_startsAnew_77 : decode cX12_startsAnew 77 = .ok (.iastore, 1) := by decide +kernel
theorem dX12_startsAnew_78 : decode cX12_startsAnew 78 = .ok (.iinc 1 1, 3) := by decide +kernel
theorem dX12_startsAnew_81 : decode cX12_startsAnew 81 = .ok (.goto (-55), 3) := by decide +kernel
theorem dX12_startsAnew_84 : decode cX12_startsAnew 84 = .ok (.aload_n 0, 1) := by decide +kernel
theorem dX12_startsAnew_85 : decode cX12_startsAnew 85 = .ok (.getfield 40, 3) := by decide +kernel
theorem dX12_startsAnew_88 : decode cX12_startsAnew 88 = .ok (.sipush 454, 3) := by decide +kernel
theorem dX12_startsAnew_91 : decode cX12_startsAnew 91 = .ok (.iconst (-1), 1) := by decide +kernel
theorem dX12_startsAnew_92 : decode cX12_startsAnew 92 = .ok (.iastore, 1) := by decide +kernel
theorem dX12_startsAnew_93 : decode cX12_startsAnew 93 = .ok (.aload_n 0, 1) := by decide +kernel
theorem dX12_startsAnew_94 : decode cX12_startsAnew 94 = .ok (.getfield 40, 3) := by decide +kernel
theorem dX12_startsAnew_97 : decode cX12_startsAnew 97 = .ok (.sipush 455, 3) := by decide +kernel
theorem dX12_startsAnew_100 : decode cX12_startsAnew 100 = .ok (.iconst (-1), 1) := by decide +kernel
theorem dX12_startsAnew_101 : decode cX12_startsAnew 101 = .ok (.iastore, 1) := by decide +kernel
theorem dX12_startsAnew_102 : decode cX12_startsAnew 102 = .ok (.aload_n 0, 1) := by decide +kernel
theorem dX12_startsAnew_103 : decode cX12_startsAnew 103 = .ok (.getfield 40, 3) := by decide +kernel
theorem dX12_startsAnew_106 : decode cX12_startsAnew 106 = .ok (.sipush 456, 3) := by decide +kernel
theorem dX12_startsAnew_109 : decode cX12_startsAnew 109 = .ok (.iconst (-1), 1) := by decide +kernel
theorem dX12_startsAnew_110 : decode cX12_startsAnew 110 = .ok (.iastore, 1) := by decide +kernel
theorem dX12_startsAnew_111 : decode cX12_startsAnew 111 = .ok (.aload_n 0, 1) := by decide +kernel
theorem dX12_startsAnew_112 : decode cX12_startsAnew 112 = .ok (.getfield 40, 3) := by decide +kernel
theorem dX12_startsAnew_115 : decode cX12_startsAnew 115 = .ok (.sipush 458, 3) := by decide +kernel
theorem dX12_startsAnew_118 : decode cX12_startsAnew 118 = .ok (.iconst (-1), 1) := by decide +kernel
theorem dX12_startsAnew_119 : decode cX12_startsAnew 119 = .ok (.iastore, 1) := by decide +kernel
theorem dX12_startsAnew_120 : decode cX12_startsAnew 120 = .ok (.return_, 1) := by decide +kernel
def rmX12_startsAnew : Room := { frames := 0, cells := 0, slots := 0, locals := 0 }
set_option maxRecDepth 100000 in
def fX12_startsAnew_B26 (N : Nat) (g : Gs) (x0 : Nat) (K26 : Int32 × Ds → Option (Unit × Ds)) (y1 : Int32) (d : Ds) : Option (Unit × Ds) := if (24 : Int32) ≤ y1 then (gd (chk g x0 11) <| ob (gR g x0 17) fun r4 => (gd (chk g r4 102) <| gd (¬ ((454 : Int32) < 0 ∨ gL g r4 ≤ (454 : Int32).toNatClampNeg)) <| bd (sI d r4 (454 : Int32).toNatClampNeg (-1)) fun d7 => (gd (¬ ((455 : Int32) < 0 ∨ gL g r4 ≤ (455 : Int32).toNatClampNeg)) <| bd (sI d7 r4 (455 : Int32).toNatClampNeg (-1)) fun d9 => (gd (¬ ((456 : Int32) < 0 ∨ gL g r4 ≤ (456 : Int32).toNatClampNeg)) <| bd (sI d9 r4 (456 : Int32).toNatClampNeg (-1)) fun d11 => (gd (¬ ((458 : Int32) < 0 ∨ gL g r4 ≤ (458 : Int32).toNatClampNeg)) <| bd (sI d11 r4 (458 : Int32).toNatClampNeg (-1)) fun d13 => (some ((), d13))))))) else (gd (chk g x0 11) <| ob (gR g x0 19) fun r15 => (gd (chk g r15 101) <| gd (¬ (y1 < 0 ∨ gL g r15 ≤ y1.toNatClampNeg)) <| bd (sF d r15 y1.toNatClampNeg FP.fconst0) fun d18 => (ob (gR g x0 17) fun r19 => (gd (chk g r19 102) <| gd (¬ (((379 : Int32) + ((3 : Int32) * y1)) < 0 ∨ gL g r19 ≤ ((379 : Int32) + ((3 : Int32) * y1)).toNatClampNeg)) <| bd (sI d18 r19 ((379 : Int32) + ((3 : Int32) * y1)).toNatClampNeg (-1)) fun d22 => (gd (¬ ((((379 : Int32) + ((3 : Int32) * y1)) + 1) < 0 ∨ gL g r19 ≤ (((379 : Int32) + ((3 : Int32) * y1)) + 1).toNatClampNeg)) <| bd (sI d22 r19 (((379 : Int32) + ((3 : Int32) * y1)) + 1).toNatClampNeg (-1)) fun d24 => (gd (¬ (((507 : Int32) + y1) < 0 ∨ gL g r19 ≤ ((507 : Int32) + y1).toNatClampNeg)) <| bd (sI d24 r19 ((507 : Int32) + y1).toNatClampNeg (-1)) fun d26 => (bd (y1 + 1) fun u27 => (K26 (u27, d26)))))))))
set_option maxHeartbeats 4000000 in
set_option maxRecDepth 100000 in
theorem tX12_startsAnew_26 {p : Program} {l : Launch} {e : Env} {s : State} {m : MethodId} {args : Array Value} {below : List Frame} {meth : Method} {c : Code} {D : va_G} {cy : Nat → ClassId} {B : Bs} (C : Cx p s m args c cX12_startsAnew 2 RX12 D cy B) (hr : meth.sig.returnType = none) (hlocks : meth.locks = false) {N : Nat} {g : Gs} {x0 : Nat}  {dz : Ds} {K26 : Int32 × Ds → Option (Unit × Ds)} (hK26 : ∀ a, K26 a = some ((), dz) → WB p l e rmX12_startsAnew s m args below meth c 2 D cy B 0 0 (MQ below (QV D cy B g dz) args s 0 0 (wA B)) g a.2 [(0, .ref (ad B x0)), (1, .int a.1)] 26 []) {y1 : Int32} {d : Ds} (hf : fX12_startsAnew_B26 N g x0 K26 y1 d = some ((), dz)) : WB p l e rmX12_startsAnew s m args below meth c 2 D cy B 0 0 (MQ below (QV D cy B g dz) args s 0 0 (wA B)) g d [(0, .ref (ad B x0)), (1, .int y1)] 26 [] := by
  unfold fX12_startsAnew_B26 at hf
  refine b_iload_n C dX12_startsAnew_26 1 rfl rfl ?_
  refine b_bipush C (v := 24) dX12_startsAnew_27 (by decide) ?_
  refine b_icmp_ge C (tgt := 84) dX12_startsAnew_29 (by decide) (fun c2 => ?_) (fun c2 => ?_)
  · have hf := it_s c2 hf
    refine b_aload_n C dX12_startsAnew_84 0 rfl rfl ?_
    obtain ⟨h3, hf⟩ := gd_s hf
    obtain ⟨r4, er4, hf⟩ := ob_s hf
    refine b_gR C dX12_startsAnew_85 fl_X12_40 h3 er4 ?_
    refine b_sipush C (v := 454) dX12_startsAnew_88 (by decide) ?_
    refine b_iconst C (v := (-1)) dX12_startsAnew_91 (by decide) ?_
    obtain ⟨h5, hf⟩ := gd_s hf
    obtain ⟨h6, hf⟩ := gd_s hf
    obtain ⟨d7, ed7, hf⟩ := bd_s hf
    refine b_iast C h5 h6 ed7 dX12_startsAnew_92 ?_
    refine b_aload_n C dX12_startsAnew_93 0 rfl rfl ?_
    refine b_gR C dX12_startsAnew_94 fl_X12_40 h3 er4 ?_
    refine b_sipush C (v := 455) dX12_startsAnew_97 (by decide) ?_
    refine b_iconst C (v := (-1)) dX12_startsAnew_100 (by decide) ?_
    obtain ⟨h8, hf⟩ := gd_s hf
    obtain ⟨d9, ed9, hf⟩ := bd_s hf
    refine b_iast C h5 h8 ed9 dX12_startsAnew_101 ?_
    refine b_aload_n C dX12_startsAnew_102 0 rfl rfl ?_
    refine b_gR C dX12_startsAnew_103 fl_X12_40 h3 er4 ?_
    refine b_sipush C (v := 456) dX12_startsAnew_106 (by decide) ?_
    refine b_iconst C (v := (-1)) dX12_startsAnew_109 (by decide) ?_
    obtain ⟨h10, hf⟩ := gd_s hf
    obtain ⟨d11, ed11, hf⟩ := bd_s hf
    refine b_iast C h5 h10 ed11 dX12_startsAnew_110 ?_
    refine b_aload_n C dX12_startsAnew_111 0 rfl rfl ?_
    refine b_gR C dX12_startsAnew_112 fl_X12_40 h3 er4 ?_
    refine b_sipush C (v := 458) dX12_startsAnew_115 (by decide) ?_
    refine b_iconst C (v := (-1)) dX12_startsAnew_118 (by decide) ?_
    obtain ⟨h12, hf⟩ := gd_s hf
    obtain ⟨d13, ed13, hf⟩ := bd_s hf
    refine b_iast C h5 h12 ed13 dX12_startsAnew_119 ?_
    exact b_vret C hr hlocks hf dX12_startsAnew_120
  · have hf := if_s c2 hf
    refine b_aload_n C dX12_startsAnew_32 0 rfl rfl ?_
    obtain ⟨h14, hf⟩ := gd_s hf
    obtain ⟨r15, er15, hf⟩ := ob_s hf
    refine b_gR C dX12_startsAnew_33 fl_X12_46 h14 er15 ?_
    refine b_iload_n C dX12_startsAnew_36 1 rfl rfl ?_
    refine b_fconst0 C dX12_startsAnew_37 ?_
    obtain ⟨h16, hf⟩ := gd_s hf
    obtain ⟨h17, hf⟩ := gd_s hf
    obtain ⟨d18, ed18, hf⟩ := bd_s hf
    refine b_fast C h16 h17 ed18 dX12_startsAnew_38 ?_
    refine b_aload_n C dX12_startsAnew_39 0 rfl rfl ?_
    obtain ⟨r19, er19, hf⟩ := ob_s hf
    refine b_gR C dX12_startsAnew_40 fl_X12_40 h14 er19 ?_
    refine b_sipush C (v := 379) dX12_startsAnew_43 (by decide) ?_
    refine b_iconst C (v := 3) dX12_startsAnew_46 (by decide) ?_
    refine b_iload_n C dX12_startsAnew_47 1 rfl rfl ?_
    refine b_imul C dX12_startsAnew_48 ?_
    refine b_iadd C dX12_startsAnew_49 ?_
    refine b_iconst C (v := (-1)) dX12_startsAnew_50 (by decide) ?_
    obtain ⟨h20, hf⟩ := gd_s hf
    obtain ⟨h21, hf⟩ := gd_s hf
    obtain ⟨d22, ed22, hf⟩ := bd_s hf
    refine b_iast C h20 h21 ed22 dX12_startsAnew_51 ?_
    refine b_aload_n C dX12_startsAnew_52 0 rfl rfl ?_
    refine b_gR C dX12_startsAnew_53 fl_X12_40 h14 er19 ?_
    refine b_sipush C (v := 379) dX12_startsAnew_56 (by decide) ?_
    refine b_iconst C (v := 3) dX12_startsAnew_59 (by decide) ?_
    refine b_iload_n C dX12_startsAnew_60 1 rfl rfl ?_
    refine b_imul C dX12_startsAnew_61 ?_
    refine b_iadd C dX12_startsAnew_62 ?_
    refine b_iconst C (v := 1) dX12_startsAnew_63 (by decide) ?_
    refine b_iadd C dX12_startsAnew_64 ?_
    refine b_iconst C (v := (-1)) dX12_startsAnew_65 (by decide) ?_
    obtain ⟨h23, hf⟩ := gd_s hf
    obtain ⟨d24, ed24, hf⟩ := bd_s hf
    refine b_iast C h20 h23 ed24 dX12_startsAnew_66 ?_
    refine b_aload_n C dX12_startsAnew_67 0 rfl rfl ?_
    refine b_gR C dX12_startsAnew_68 fl_X12_40 h14 er19 ?_
    refine b_sipush C (v := 507) dX12_startsAnew_71 (by decide) ?_
    refine b_iload_n C dX12_startsAnew_74 1 rfl rfl ?_
    refine b_iadd C dX12_startsAnew_75 ?_
    refine b_iconst C (v := (-1)) dX12_startsAnew_76 (by decide) ?_
    obtain ⟨h25, hf⟩ := gd_s hf
    obtain ⟨d26, ed26, hf⟩ := bd_s hf
    refine b_iast C h20 h25 ed26 dX12_startsAnew_77 ?_
    obtain ⟨u27, eu27, hf⟩ := bd_s hf
    refine b_iinc C dX12_startsAnew_78 1 rfl (by rw [eu27]; rfl) [(1, .int u27), (0, .ref (ad B x0))] (by decide) rfl ?_
    refine b_goto C (tgt := 26) dX12_startsAnew_81 (by decide) ?_
    refine b_sub [(0, .ref (ad B x0)), (1, .int u27)] [1, 0] rfl ?_
    exact hK26 (u27, d26) hf
def fX12_startsAnew_L26 (N : Nat) (g : Gs) (x0 : Nat) : Int32 × Ds → Option (Unit × Ds) := lp (fun K26 a => fX12_startsAnew_B26 N g x0 K26 a.1 a.2) N
theorem tX12_startsAnew_L26 {p : Program} {l : Launch} {e : Env} {s : State} {m : MethodId} {args : Array Value} {below : List Frame} {meth : Method} {c : Code} {D : va_G} {cy : Nat → ClassId} {B : Bs} (C : Cx p s m args c cX12_startsAnew 2 RX12 D cy B) (hr : meth.sig.returnType = none) (hlocks : meth.locks = false) {N : Nat} {g : Gs} {x0 : Nat}  {dz : Ds} (a : Int32 × Ds) (hf : fX12_startsAnew_L26 N g x0 a = some ((), dz)) : WB p l e rmX12_startsAnew s m args below meth c 2 D cy B 0 0 (MQ below (QV D cy B g dz) args s 0 0 (wA B)) g a.2 [(0, .ref (ad B x0)), (1, .int a.1)] 26 [] :=
  lp_w (fun K26 hK26 a ha => tX12_startsAnew_26 C hr hlocks hK26 ha) N a hf
set_option maxRecDepth 100000 in
def fX12_startsAnew_B4 (N : Nat) (g : Gs) (x0 : Nat) (K4 : Int32 × Ds → Option (Unit × Ds)) (y1 : Int32) (d : Ds) : Option (Unit × Ds) := if (9178 : Int32) ≤ y1 then (fX12_startsAnew_L26 N g x0 (0, d)) else (gd (chk g x0 11) <| ob (gR g x0 17) fun r29 => (gd (chk g r29 102) <| gd (¬ (y1 < 0 ∨ gL g r29 ≤ y1.toNatClampNeg)) <| bd (sI d r29 y1.toNatClampNeg 0) fun d32 => (bd (y1 + 1) fun u33 => (K4 (u33, d32)))))
set_option maxHeartbeats 4000000 in
set_option maxRecDepth 100000 in
theorem tX12_startsAnew_4 {p : Program} {l : Launch} {e : Env} {s : State} {m : MethodId} {args : Array Value} {below : List Frame} {meth : Method} {c : Code} {D : va_G} {cy : Nat → ClassId} {B : Bs} (C : Cx p s m args c cX12_startsAnew 2 RX12 D cy B) (hr : meth.sig.returnType = none) (hlocks : meth.locks = false) {N : Nat} {g : Gs} {x0 : Nat}  {dz : Ds} {K4 : Int32 × Ds → Option (Unit × Ds)} (hK4 : ∀ a, K4 a = some ((), dz) → WB p l e rmX12_startsAnew s m args below meth c 2 D cy B 0 0 (MQ below (QV D cy B g dz) args s 0 0 (wA B)) g a.2 [(0, .ref (ad B x0)), (1, .int a.1)] 4 []) {y1 : Int32} {d : Ds} (hf : fX12_startsAnew_B4 N g x0 K4 y1 d = some ((), dz)) : WB p l e rmX12_startsAnew s m args below meth c 2 D cy B 0 0 (MQ below (QV D cy B g dz) args s 0 0 (wA B)) g d [(0, .ref (ad B x0)), (1, .int y1)] 4 [] := by
  unfold fX12_startsAnew_B4 at hf
  refine b_iload_n C dX12_startsAnew_4 1 rfl rfl ?_
  refine b_sipush C (v := 9178) dX12_startsAnew_5 (by decide) ?_
  refine b_icmp_ge C (tgt := 24) dX12_startsAnew_8 (by decide) (fun c1 => ?_) (fun c1 => ?_)
  · have hf := it_s c1 hf
    refine b_iconst C (v := 0) dX12_startsAnew_24 (by decide) ?_
    refine b_istore_n C dX12_startsAnew_25 rfl [(1, .int 0), (0, .ref (ad B x0))] (by decide) rfl ?_
    refine b_sub [(0, .ref (ad B x0)), (1, .int 0)] [1, 0] rfl ?_
    exact tX12_startsAnew_L26 C hr hlocks (0, d) hf
  · have hf := if_s c1 hf
    refine b_aload_n C dX12_startsAnew_11 0 rfl rfl ?_
    obtain ⟨h28, hf⟩ := gd_s hf
    obtain ⟨r29, er29, hf⟩ := ob_s hf
    refine b_gR C dX12_startsAnew_12 fl_X12_40 h28 er29 ?_
    refine b_iload_n C dX12_startsAnew_15 1 rfl rfl ?_
    refine b_iconst C (v := 0) dX12_startsAnew_16 (by decide) ?_
    obtain ⟨h30, hf⟩ := gd_s hf
    obtain ⟨h31, hf⟩ := gd_s hf
    obtain ⟨d32, ed32, hf⟩ := bd_s hf
    refine b_iast C h30 h31 ed32 dX12_startsAnew_17 ?_
    obtain ⟨u33, eu33, hf⟩ := bd_s hf
    refine b_iinc C dX12_startsAnew_18 1 rfl (by rw [eu33]; rfl) [(1, .int u33), (0, .ref (ad B x0))] (by decide) rfl ?_
    refine b_goto C (tgt := 4) dX12_startsAnew_21 (by decide) ?_
    refine b_sub [(0, .ref (ad B x0)), (1, .int u33)] [1, 0] rfl ?_
    exact hK4 (u33, d32) hf
def fX12_startsAnew_L4 (N : Nat) (g : Gs) (x0 : Nat) : Int32 × Ds → Option (Unit × Ds) := lp (fun K4 a => fX12_startsAnew_B4 N g x0 K4 a.1 a.2) N
theorem tX12_startsAnew_L4 {p : Program} {l : Launch} {e : Env} {s : State} {m : MethodId} {args : Array Value} {below : List Frame} {meth : Method} {c : Code} {D : va_G} {cy : Nat → ClassId} {B : Bs} (C : Cx p s m args c cX12_startsAnew 2 RX12 D cy B) (hr : meth.sig.returnType = none) (hlocks : meth.locks = false) {N : Nat} {g : Gs} {x0 : Nat}  {dz : Ds} (a : Int32 × Ds) (hf : fX12_startsAnew_L4 N g x0 a = some ((), dz)) : WB p l e rmX12_startsAnew s m args below meth c 2 D cy B 0 0 (MQ below (QV D cy B g dz) args s 0 0 (wA B)) g a.2 [(0, .ref (ad B x0)), (1, .int a.1)] 4 [] :=
  lp_w (fun K4 hK4 a ha => tX12_startsAnew_4 C hr hlocks hK4 ha) N a hf
set_option maxRecDepth 100000 in
def fX12_startsAnew (N : Nat) (g : Gs) (x0 : Nat) (d : Ds) : Option (Unit × Ds) := fX12_startsAnew_L4 N g x0 (352, d)
set_option maxHeartbeats 4000000 in
set_option maxRecDepth 100000 in
theorem tX12_startsAnew_E {p : Program} {l : Launch} {e : Env} {s : State} {m : MethodId} {args : Array Value} {below : List Frame} {meth : Method} {c : Code} {D : va_G} {cy : Nat → ClassId} {B : Bs} (C : Cx p s m args c cX12_startsAnew 2 RX12 D cy B) (hr : meth.sig.returnType = none) (hlocks : meth.locks = false) {N : Nat} {g : Gs} {x0 : Nat}  {dz : Ds} {d : Ds} (hf : fX12_startsAnew N g x0 d = some ((), dz)) : WB p l e rmX12_startsAnew s m args below meth c 2 D cy B 0 0 (MQ below (QV D cy B g dz) args s 0 0 (wA B)) g d [(0, .ref (ad B x0))] 0 [] := by
  unfold fX12_startsAnew at hf
  refine b_sipush C (v := 352) dX12_startsAnew_0 (by decide) ?_
  refine b_istore_n C dX12_startsAnew_3 rfl [(1, .int 352), (0, .ref (ad B x0))] (by decide) rfl ?_
  refine b_sub [(0, .ref (ad B x0)), (1, .int 352)] [1, 0] rfl ?_
  exact tX12_startsAnew_L4 C hr hlocks (352, d) hf
theorem kX12_startsAnew (l : Launch) (D : va_G) (cy : Nat → ClassId) (B : Bs) {N : Nat} {g : Gs} {x0 : Nat}  {dz : Ds} {d : Ds} (hf : fX12_startsAnew N g x0 d = some ((), dz)) : Met l yX12_startsAnew (.code yX12_startsAnew cX12_startsAnew 2 none :: wl) rmX12_startsAnew (PC D cy B [.ref (ad B x0)] g d) (QV D cy B g dz) 0 0 (wA B) :=
  met_of (by decide +kernel) (Nat.le_of_ble_eq_true rfl) (fun p e s m args below meth c C hr hlocks _ => b_sub [(0, .ref (ad B x0))] [0] rfl (tX12_startsAnew_E C hr hlocks hf))
/-! KeyMatrixModel.<init>()V -/
theorem oi_X12_7 : Cond.methodLink RX12 7 objectInit ∈ wl := mW (mT5 (List.mem_of_getElem? (i := 77) (by decide +kernel))) rfl
theorem fq_X12_13 : FLP RX12 13 11 1 := ⟨⟨RX12, TX12, 33, rfl, by decide, inl11, mW (mT5 (List.mem_of_getElem? (i := 92) (by decide +kernel))) rfl⟩, by decide, by decide +kernel⟩
theorem ft11 : FT 11 := ⟨RX12, TX12, 33, tyX12, rfl, tyX12_ok, nmX12⟩
theorem fr11_1 : FPR 11 1 RX12 := ⟨ft11, (RX12, TX12, 33), rfl, by decide +kernel, rfl, fun ty h a => by rw [tyX12_ok 1 (by decide)] at h; cases h; exact ⟨rfl, rfl⟩⟩
theorem fq_X12_17 : FLP RX12 17 11 3 := ⟨⟨RX12, TX12, 33, rfl, by decide, inl11, mW (mT5 (List.mem_of_getElem? (i := 94) (by decide +kernel))) rfl⟩, by decide, by decide +kernel⟩
theorem fr11_3 : FPR 11 3 RX12 := ⟨ft11, (RX12, TX12, 33), rfl, by decide +kernel, rfl, fun ty h a => by rw [tyX12_ok 3 (by decide)] at h; cases h; exact ⟨rfl, rfl⟩⟩
theorem fq_X12_20 : FLP RX12 20 11 5 := ⟨⟨RX12, TX12, 33, rfl, by decide, inl11, mW (mT5 (List.mem_of_getElem? (i := 96) (by decide +kernel))) rfl⟩, by decide, by decide +kernel⟩
theorem fr11_5 : FPR 11 5 RX12 := ⟨ft11, (RX12, TX12, 33), rfl, by decide +kernel, rfl, fun ty h a => by rw [tyX12_ok 5 (by decide)] at h; cases h; exact ⟨rfl, rfl⟩⟩
theorem fq_X12_24 : FLP RX12 24 11 6 := ⟨⟨RX12, TX12, 33, rfl, by decide, inl11, mW (mT5 (List.mem_of_getElem? (i := 97) (by decide +kernel))) rfl⟩, by decide, by decide +kernel⟩
theorem fr11_6 : FPR 11 6 RX12 := ⟨ft11, (RX12, TX12, 33), rfl, by decide +kernel, rfl, fun ty h a => by rw [tyX12_ok 6 (by decide)] at h; cases h; exact ⟨rfl, rfl⟩⟩
theorem fq_X12_27 : FLP RX12 27 11 7 := ⟨⟨RX12, TX12, 33, rfl, by decide, inl11, mW (mT5 (List.mem_of_getElem? (i := 98) (by decide +kernel))) rfl⟩, by decide, by decide +kernel⟩
theorem fr11_7 : FPR 11 7 RX12 := ⟨ft11, (RX12, TX12, 33), rfl, by decide +kernel, rfl, fun ty h a => by rw [tyX12_ok 7 (by decide)] at h; cases h; exact ⟨rfl, rfl⟩⟩
theorem ar_long : Cond.arrayClass (newarray.typeOf .long) ∈ wl := mW (mT5 (List.mem_of_getElem? (i := 191) (by decide +kernel))) rfl
theorem fq_X12_30 : FLP RX12 30 11 8 := ⟨⟨RX12, TX12, 33, rfl, by decide, inl11, mW (mT5 (List.mem_of_getElem? (i := 99) (by decide +kernel))) rfl⟩, by decide, by decide +kernel⟩
theorem fr11_8 : FPR 11 8 RX12 := ⟨ft11, (RX12, TX12, 33), rfl, by decide +kernel, rfl, fun ty h a => by rw [tyX12_ok 8 (by decide)] at h; cases h; exact ⟨rfl, rfl⟩⟩
theorem fq_X12_34 : FLP RX12 34 11 9 := ⟨⟨RX12, TX12, 33, rfl, by decide, inl11, mW (mT5 (List.mem_of_getElem? (i := 100) (by decide +kernel))) rfl⟩, by decide, by decide +kernel⟩
theorem fr11_9 : FPR 11 9 RX12 := ⟨ft11, (RX12, TX12, 33), rfl, by decide +kernel, rfl, fun ty h a => by rw [tyX12_ok 9 (by decide)] at h; cases h; exact ⟨rfl, rfl⟩⟩
theorem fl_X12_37 : FLI RX12 37 11 16 := ⟨⟨RX12, TX12, 33, rfl, by decide, inl11, Or.inl (mW (mT5 (List.mem_of_getElem? (i := 107) (by decide +kernel))) rfl)⟩, by decide, by decide +kernel⟩
theorem fp11_16 : FPI 11 16 := ⟨ft11, (RX12, TX12, 33), rfl, by decide +kernel, by decide +kernel⟩
theorem fq_X12_40 : FLP RX12 40 11 17 := ⟨⟨RX12, TX12, 33, rfl, by decide, inl11, mW (mT5 (List.mem_of_getElem? (i := 108) (by decide +kernel))) rfl⟩, by decide, by decide +kernel⟩
theorem fr11_17 : FPR 11 17 RX12 := ⟨ft11, (RX12, TX12, 33), rfl, by decide +kernel, rfl, fun ty h a => by rw [tyX12_ok 17 (by decide)] at h; cases h; exact ⟨rfl, rfl⟩⟩
theorem fq_X12_43 : FLP RX12 43 11 18 := ⟨⟨RX12, TX12, 33, rfl, by decide, inl11, mW (mT5 (List.mem_of_getElem? (i := 109) (by decide +kernel))) rfl⟩, by decide, by decide +kernel⟩
theorem fr11_18 : FPR 11 18 RX12 := ⟨ft11, (RX12, TX12, 33), rfl, by decide +kernel, rfl, fun ty h a => by rw [tyX12_ok 18 (by decide)] at h; cases h; exact ⟨rfl, rfl⟩⟩
theorem fq_X12_46 : FLP RX12 46 11 19 := ⟨⟨RX12, TX12, 33, rfl, by decide, inl11, mW (mT5 (List.mem_of_getElem? (i := 110) (by decide +kernel))) rfl⟩, by decide, by decide +kernel⟩
theorem fr11_19 : FPR 11 19 RX12 := ⟨ft11, (RX12, TX12, 33), rfl, by decide +kernel, rfl, fun ty h a => by rw [tyX12_ok 19 (by decide)] at h; cases h; exact ⟨rfl, rfl⟩⟩
theorem fq_X12_50 : FLP RX12 50 11 23 := ⟨⟨RX12, TX12, 33, rfl, by decide, inl11, mW (mT5 (List.mem_of_getElem? (i := 114) (by decide +kernel))) rfl⟩, by decide, by decide +kernel⟩
theorem fr11_23 : FPR 11 23 RX12 := ⟨ft11, (RX12, TX12, 33), rfl, by decide +kernel, rfl, fun ty h a => by rw [tyX12_ok 23 (by decide)] at h; cases h; exact ⟨rfl, rfl⟩⟩
theorem fq_X12_53 : FLP RX12 53 11 24 := ⟨⟨RX12, TX12, 33, rfl, by decide, inl11, mW (mT5 (List.mem_of_getElem? (i := 115) (by decide +kernel))) rfl⟩, by decide, by decide +kernel⟩
theorem fr11_24 : FPR 11 24 RX12 := ⟨ft11, (RX12, TX12, 33), rfl, by decide +kernel, rfl, fun ty h a => by rw [tyX12_ok 24 (by decide)] at h; cases h; exact ⟨rfl, rfl⟩⟩
theorem fq_X12_56 : FLP RX12 56 11 27 := ⟨⟨RX12, TX12, 33, rfl, by decide, inl11, mW (mT5 (List.mem_of_getElem? (i := 118) (by decide +kernel))) rfl⟩, by decide, by decide +kernel⟩
theorem fr11_27 : FPR 11 27 RX12 := ⟨ft11, (RX12, TX12, 33), rfl, by decide +kernel, rfl, fun ty h a => by rw [tyX12_ok 27 (by decide)] at h; cases h; exact ⟨rfl, rfl⟩⟩
theorem fq_X12_59 : FLP RX12 59 11 28 := ⟨⟨RX12, TX12, 33, rfl, by decide, inl11, mW (mT5 (List.mem_of_getElem? (i := 119) (by decide +kernel))) rfl⟩, by decide, by decide +kernel⟩
theorem fr11_28 : FPR 11 28 RX12 := ⟨ft11, (RX12, TX12, 33), rfl, by decide +kernel, rfl, fun ty h a => by rw [tyX12_ok 28 (by decide)] at h; cases h; exact ⟨rfl, rfl⟩⟩
theorem fq_X12_62 : FLP RX12 62 11 29 := ⟨⟨RX12, TX12, 33, rfl, by decide, inl11, mW (mT5 (List.mem_of_getElem? (i := 120) (by decide +kernel))) rfl⟩, by decide, by decide +kernel⟩
theorem fr11_29 : FPR 11 29 RX12 := ⟨ft11, (RX12, TX12, 33), rfl, by decide +kernel, rfl, fun ty h a => by rw [tyX12_ok 29 (by decide)] at h; cases h; exact ⟨rfl, rfl⟩⟩
theorem fq_X12_65 : FLP RX12 65 11 30 := ⟨⟨RX12, TX12, 33, rfl, by decide, inl11, mW (mT5 (List.mem_of_getElem? (i := 121) (by decide +kernel))) rfl⟩, by decide, by decide +kernel⟩
theorem fr11_30 : FPR 11 30 RX12 := ⟨ft11, (RX12, TX12, 33), rfl, by decide +kernel, rfl, fun ty h a => by rw [tyX12_ok 30 (by decide)] at h; cases h; exact ⟨rfl, rfl⟩⟩
theorem fq_X12_68 : FLP RX12 68 11 31 := ⟨⟨RX12, TX12, 33, rfl, by decide, inl11, mW (mT5 (List.mem_of_getElem? (i := 122) (by decide +kernel))) rfl⟩, by decide, by decide +kernel⟩
theorem fr11_31 : FPR 11 31 RX12 := ⟨ft11, (RX12, TX12, 33), rfl, by decide +kernel, rfl, fun ty h a => by rw [tyX12_ok 31 (by decide)] at h; cases h; exact ⟨rfl, rfl⟩⟩
theorem ar_boolean : Cond.arrayClass (newarray.typeOf .boolean) ∈ wl := mW (mT5 (List.mem_of_getElem? (i := 192) (by decide +kernel))) rfl
theorem fq_X12_71 : FLP RX12 71 11 32 := ⟨⟨RX12, TX12, 33, rfl, by decide, inl11, mW (mT5 (List.mem_of_getElem? (i := 123) (by decide +kernel))) rfl⟩, by decide, by decide +kernel⟩
theorem fr11_32 : FPR 11 32 RX12 := ⟨ft11, (RX12, TX12, 33), rfl, by decide +kernel, rfl, fun ty h a => by rw [tyX12_ok 32 (by decide)] at h; cases h; exact ⟨rfl, rfl⟩⟩
theorem fl_X12_34 : FLR RX12 34 11 9 := ⟨⟨RX12, TX12, 33, rfl, by decide, inl11, Or.inl (mW (mT5 (List.mem_of_getElem? (i := 100) (by decide +kernel))) rfl)⟩, by decide, by decide +kernel⟩
theorem yo_X12_letters : yX12_letters.cls ≠ "java/lang/invoke/MethodHandle" ∧ yX12_letters.cls ≠ "java/lang/invoke/VarHandle" ∧ (parseMethodDescriptor yX12_letters.desc).map (fun d => d.parameters.length) = some 7 := by decide +kernel
theorem co_X12_letters : Cond.code yX12_letters cX12_letters 7 (some .long) ∈ wl := mW (mT5 (List.mem_of_getElem? (i := 80) (by decide +kernel))) rfl
theorem in_X12_letters : Cond.initialized yX12_letters.cls ∈ wl := mW (mT1 (List.mem_of_getElem? (i := 12) (by decide +kernel))) rfl
theorem st_X12_letters : Cond.static yX12_letters ∈ wl := mW (mT5 (List.mem_of_getElem? (i := 79) (by decide +kernel))) rfl
theorem lv_X12_75 : LSt RX12 75 yX12_letters cX12_letters 7 (some .long) 7 := ⟨yo_X12_letters, Or.inl (mW (mT5 (List.mem_of_getElem? (i := 78) (by decide +kernel))) rfl), st_X12_letters, in_X12_letters, co_X12_letters⟩
theorem yo_X12_begins : yX12_begins.cls ≠ "java/lang/invoke/MethodHandle" ∧ yX12_begins.cls ≠ "java/lang/invoke/VarHandle" ∧ (parseMethodDescriptor yX12_begins.desc).map (fun d => d.parameters.length) = some 1 := by decide +kernel
theorem co_X12_begins : Cond.code yX12_begins cX12_begins 2 none ∈ wl := mW (mT5 (List.mem_of_getElem? (i := 87) (by decide +kernel))) rfl
theorem in_X12_begins : Cond.initialized yX12_begins.cls ∈ wl := mW (mT1 (List.mem_of_getElem? (i := 12) (by decide +kernel))) rfl
theorem st_X12_begins : Cond.static yX12_begins ∈ wl := mW (mT5 (List.mem_of_getElem? (i := 86) (by decide +kernel))) rfl
theorem lv_X12_83 : LSt RX12 83 yX12_begins cX12_begins 2 none 1 := ⟨yo_X12_begins, Or.inl (mW (mT5 (List.mem_of_getElem? (i := 85) (by decide +kernel))) rfl), st_X12_begins, in_X12_begins, co_X12_begins⟩
theorem yo_X12_startsAnew : yX12_startsAnew.cls ≠ "java/lang/invoke/MethodHandle" ∧ yX12_startsAnew.cls ≠ "java/lang/invoke/VarHandle" ∧ (parseMethodDescriptor yX12_startsAnew.desc).map (fun d => d.parameters.length) = some 0 := by decide +kernel
theorem co_X12_startsAnew : Cond.code yX12_startsAnew cX12_startsAnew 2 none ∈ wl := mW (mT5 (List.mem_of_getElem? (i := 91) (by decide +kernel))) rfl
theorem in_X12_startsAnew : Cond.initialized yX12_startsAnew.cls ∈ wl := mW (mT1 (List.mem_of_getElem? (i := 12) (by decide +kernel))) rfl
theorem im_X12_startsAnew : Cond.instanceMethod yX12_startsAnew ∈ wl := mW (mT5 (List.mem_of_getElem? (i := 90) (by decide +kernel))) rfl
theorem se_X12_startsAnew : Cond.selects yX12_startsAnew.cls yX12_startsAnew yX12_startsAnew ∈ wl := mW (mT0 (List.mem_of_getElem? (i := 31) (by decide +kernel))) rfl
theorem lv_X12_87 : LV RX12 87 yX12_startsAnew cX12_startsAnew 2 none 0 11 := ⟨⟨(RX12, TX12, 33), rfl, rfl⟩, yo_X12_startsAnew, mW (mT5 (List.mem_of_getElem? (i := 88) (by decide +kernel))) rfl, im_X12_startsAnew, se_X12_startsAnew, in_X12_startsAnew, co_X12_startsAnew⟩
theorem dX12_init_0 : decode cX12_init 0 = .ok (.aload_n 0, 1) := by decide +kernel
theorem dX12_init_1 : decode cX12_init 1 = .ok (.invokespecial 7, 3) := by decide +kernel
theorem dX12_init_4 : decode cX12_init 4 = .ok (.aload_n 0, 1) := by decide +kernel
theorem dX12_init_5 : decode cX12_init 5 = .ok (.sipush 2000, 3) := by decide +kernel
theorem dX12_init_8 : decode cX12_init 8 = .ok (.newarray .byte, 2) := by decide +kernel
theorem dX12_init_10 : decode cX12_init 10 = .ok (.putfield 13, 3) := by decide +kernel
theorem dX12_init_13 : decode cX12_init 13 = .ok (.aload_n 0, 1) := by decide +kernel
theorem dX12_init_14 : decode cX12_init 14 = .ok (.sipush 2000, 3) := by decide +kernel
theorem dX12_init_17 : decode cX12_init 17 = .ok (.newarray .byte, 2) := by decide +kernel
theorem dX12_init_19 : decode cX12_init 19 = .ok (.putfield 17, 3) := by decide +kernel
theorem dX12_init_22 : decode cX12_init 22 = .ok (.aload_n 0, 1) := by decide +kernel
theorem dX12_init_23 : decode cX12_init 23 = .ok (.sipush 403, 3) := by decide +kernel
theorem dX12_init_26 : decode cX12_init 26 = .ok (.newarray .int, 2) := by decide +kernel
theorem dX12_init_28 : decode cX12_init 28 = .ok (.putfield 20, 3) := by decide +kernel
theorem dX12_init_31 : decode cX12_init 31 = .ok (.aload_n 0, 1) := by decide +kernel
theorem dX12_init_32 : decode cX12_init 32 = .ok (.sipush 403, 3) := by decide +kernel
theorem dX12_init_35 : decode cX12_init 35 = .ok (.newarray .int, 2) := by decide +kernel
theorem dX12_init_37 : decode cX12_init 37 = .ok (.putfield 24, 3) := by decide +kernel
theorem dX12_init_40 : decode cX12_init 40 = .ok (.aload_n 0, 1) := by decide +kernel
theorem dX12_init_41 : decode cX12_init 41 = .ok (.sipush 403, 3) := by decide +kernel
theorem dX12_init_44 : decode cX12_init 44 = .ok (.newarray .int, 2) := by decide +kernel
theorem dX12_init_46 : decode cX12_init 46 = .ok (.putfield 27, 3) := by decide +kernel
theorem dX12_init_49 : decode cX12_init 49 = .ok (.aload_n 0, 1) := by decide +kernel
theorem dX12_init_50 : decode cX12_init 50 = .ok (.sipush 403, 3) := by decide +kernel
theorem dX12_init_53 : decode cX12_init 53 = .ok (.newarray .long, 2) := by decide +kernel
theorem dX12_init_55 : decode cX12_init 55 = .ok (.putfield 30, 3) := by decide +kernel
theorem dX12_init_58 : decode cX12_init 58 = .ok (.aload_n 0, 1) := by decide +kernel
theorem dX12_init_59 : decode cX12_init 59 = .ok (.bipush 20, 2) := by decide +kernel
theorem dX12_init_61 : decode cX12_init 61 = .ok (.newarray .long, 2) := by decide +kernel
theorem dX12_init_63 : decode cX12_init 63 = .ok (.putfield 34, 3) := by decide +kernel
theorem dX12_init_66 : decode cX12_init 66 = .ok (.aload_n 0, 1) := by decide +kernel
theorem dX12_init_67 : decode cX12_init 67 = .ok (.iconst (-1), 1) := by decide +kernel
theorem dX12_init_68 : decode cX12_init 68 = .ok (.putfield 37, 3) := by decide +kernel
theorem dX12_init_71 : decode cX12_init 71 = .ok (.aload_n 0, 1) := by decide +kernel
theorem dX12_init_72 : decode cX12_init 72 = .ok (.sipush 9178, 3) := by decide +kernel
theorem dX12_init_75 : decode cX12_init 75 = .ok (.newarray .int, 2) := by decide +kernel
theorem dX12_init_77 : decode cX12_init 77 = .ok (.putfield 40, 3) := by decide +kernel
theorem dX12_init_80 : decode cX12_init 80 = .ok (.aload_n 0, 1) := by decide +kernel
theorem dX12_init_81 : decode cX12_init 81 = .ok (.sipush 352, 3) := by decide +kernel
theorem dX12_init_84 : decode cX12_init 84 = .ok (.newarray .int, 2) := by decide +kernel
theorem dX12_init_86 : decode cX12_init 86 = .ok (.putfield 43, 3) := by decide +kernel
theorem dX12_init_89 : decode cX12_init 89 = .ok (.aload_n 0, 1) := by decide +kernel
theorem dX12_init_90 : decode cX12_init 90 = .ok (.bipush 24, 2) := by decide +kernel
theorem dX12_init_92 : decode cX12_init 92 = .ok (.newarray .float, 2) := by decide +kernel
theorem dX12_init_94 : decode cX12_init 94 = .ok (.putfield 46, 3) := by decide +kernel
theorem dX12_init_97 : decode cX12_init 97 = .ok (.aload_n 0, 1) := by decide +kernel
theorem dX12_init_98 : decode cX12_init 98 = .ok (.iconst 3, 1) := by decide +kernel
theorem dX12_init_99 : decode cX12_init 99 = .ok (.newarray .int, 2) := by decide +kernel
theorem dX12_init_101 : decode cX12_init 101 = .ok (.putfield 50, 3) := by decide +kernel
theorem dX12_init_104 : decode cX12_init 104 = .ok (.aload_n 0, 1) := by decide +kernel
theorem dX12_init_105 : decode cX12_init 105 = .ok (.bipush 10, 2) := by decide +kernel
theorem dX12_init_107 : decode cX12_init 107 = .ok (.newarray .int, 2) := by decide +kernel
theorem dX12_init_109 : decode cX12_init 109 = .ok (.putfield 53, 3) := by decide +kernel
theorem dX12_init_112 : decode cX12_init 112 = .ok (.aload_n 0, 1) := by decide +kernel
theorem dX12_init_113 : decode cX12_init 113 = .ok (.bipush 25, 2) := by decide +kernel
theorem dX12_init_115 : decode cX12_init 115 = .ok (.newarray .int, 2) := by decide +kernel
theorem dX12_init_117 : decode cX12_init 117 = .ok (.putfield 56, 3) := by decide +kernel
theorem dX12_init_120 : decode cX12_init 120 = .ok (.aload_n 0, 1) := by decide +kernel
theorem dX12_init_121 : decode cX12_init 121 = .ok (.sipush 9178, 3) := by decide +kernel
theorem dX12_init_124 : decode cX12_init 124 = .ok (.newarray .int, 2) := by decide +kernel
theorem dX12_init_126 : decode cX12_init 126 = .ok (.putfield 59, 3) := by decide +kernel
theorem dX12_init_129 : decode cX12_init 129 = .ok (.aload_n 0, 1) := by decide +kernel
theorem dX12_init_130 : decode cX12_init 130 = .ok (.bipush 24, 2) := by decide +kernel
theorem dX12_init_132 : decode cX12_init 132 = .ok (.newarray .float, 2) := by decide +kernel
theorem dX12_init_134 : decode cX12_init 134 = .ok (.putfield 62, 3) := by decide +kernel
theorem dX12_init_137 : decode cX12_init 137 = .ok (.aload_n 0, 1) := by decide +kernel
theorem dX12_init_138 : decode cX12_init 138 = .ok (.sipush 27534, 3) := by decide +kernel
theorem dX12_init_141 : decode cX12_init 141 = .ok (.newarray .int, 2) := by decide +kernel
theorem dX12_init_143 : decode cX12_init 143 = .ok (.putfield 65, 3) := by decide +kernel
theorem dX12_init_146 : decode cX12_init 146 = .ok (.aload_n 0, 1) := by decide +kernel
theorem dX12_init_147 : decode cX12_init 147 = .ok (.bipush 72, 2) := by decide +kernel
theorem dX12_init_149 : decode cX12_init 149 = .ok (.newarray .float, 2) := by decide +kernel
theorem dX12_init_151 : decode cX12_init 151 = .ok (.putfield 68, 3) := by decide +kernel
theorem dX12_init_154 : decode cX12_init 154 = .ok (.aload_n 0, 1) := by decide +kernel
theorem dX12_init_155 : decode cX12_init 155 = .ok (.iconst 3, 1) := by decide +kernel
theorem dX12_init_156 : decode cX12_init 156 = .ok (.newarray .boolean, 2) := by decide +kernel
theorem dX12_init_158 : decode cX12_init 158 = .ok (.putfield 71, 3) := by decide +kernel
theorem dX12_init_161 : decode cX12_init 161 = .ok (.aload_n 0, 1) := by decide +kernel
theorem dX12_init_162 : decode cX12_init 162 = .ok (.getfield 34, 3) := by decide +kernel
theorem dX12_init_165 : decode cX12_init 165 = .ok (.iconst 0, 1) := by decide +kernel
theorem dX12_init_166 : decode cX12_init 166 = .ok (.bipush 98, 2) := by decide +kernel
theorem dX12_init_168 : decode cX12_init 168 = .ok (.bipush 111, 2) := by decide +kernel
theorem dX12_init_170 : decode cX12_init 170 = .ok (.bipush 97, 2) := by decide +kernel
theorem dX12_init_172 : decode cX12_init 172 = .ok (.bipush 114, 2) := by decide +kernel
theorem dX12_init_174 : decode cX12_init 174 = .ok (.bipush 100, 2) := by decide +kernel
theorem dX12_init_176 : decode cX12_init 176 = .ok (.iconst 0, 1) := by decide +kernel
theorem dX12_init_177 : decode cX12_init 177 = .ok (.iconst 0, 1) := by decide +kernel
theorem dX12_init_178 : decode cX12_init 178 = .ok (.invokestatic 75, 3) := by decide +kernel
theorem dX12_init_181 : decode cX12_init 181 = .ok (.lastore, 1) := by decide +kernel
theorem dX12_init_182 : decode cX12_init 182 = .ok (.aload_n 0, 1) := by decide +kernel
theorem dX12_init_183 : decode cX12_init 183 = .ok (.getfield 34, 3) := by decide +kernel
theorem dX12_init_186 : decode cX12_init 186 = .ok (.iconst 1, 1) := by decide +kernel
theorem dX12_init_187 : decode cX12_init 187 = .ok (.bipush 100, 2) := by decide +kernel
theorem dX12_init_189 : decode cX12_init 189 = .ok (.bipush 105, 2) := by decide +kernel
theorem dX12_init_191 : decode cX12_init 191 = .ok (.bipush 111, 2) := by decide +kernel
theorem dX12_init_193 : decode cX12_init 193 = .ok (.bipush 100, 2) := by decide +kernel
theorem dX12_init_195 : decode cX12_init 195 = .ok (.bipush 101, 2) := by decide +kernel
theorem dX12_init_197 : decode cX12_init 197 = .ok (.bipush 115, 2) := by decide +kernel
theorem dX12_init_199 : decode cX12_init 199 = .ok (.iconst 0, 1) := by decide +kernel
theorem dX12_init_200 : decode cX12_init 200 = .ok (.invokestatic 75, 3) := by decide +kernel
theorem dX12_init_203 : decode cX12_init 203 = .ok (.lastore, 1) := by decide +kernel
theorem dX12_init_204 : decode cX12_init 204 = .ok (.aload_n 0, 1) := by decide +kernel
theorem dX12_init_205 : decode cX12_init 205 = .ok (.getfield 34, 3) := by decide +kernel
theorem dX12_init_208 : decode cX12_init 208 = .ok (.iconst 2, 1) := by decide +kernel
theorem dX12_init_209 : decode cX12_init 209 = .ok (.bipush 115, 2) := by decide +kernel
theorem dX12_init_211 : decode cX12_init 211 = .ok (.bipush 105, 2) := by decide +kernel
theorem dX12_init_213 : decode cX12_init 213 = .ok (.bipush 120, 2) := by decide +kernel
theorem dX12_init_215 : decode cX12_init 215 = .ok (.iconst 0, 1) := by decide +kernel
theorem dX12_init_216 : decode cX12_init 216 = .ok (.iconst 0, 1) := by decide +kernel
theorem dX12_init_217 : decode cX12_init 217 = .ok (.iconst 0, 1) := by decide +kernel
theorem dX12_init_218 : decode cX12_init 218 = .ok (.iconst 0, 1) := by decide +kernel
theorem dX12_init_219 : decode cX12_init 219 = .ok (.invokestatic 75, 3) := by decide +kernel
theorem dX12_init_222 : decode cX12_init 222 = .ok (.lastore, 1) := by decide +kernel
theorem dX12_init_223 : decode cX12_init 223 = .ok (.aload_n 0, 1) := by decide +kernel
theorem dX12_init_224 : decode cX12_init 224 = .ok (.getfield 34, 3) := by decide +kernel
theorem dX12_init_227 : decode cX12_init 227 = .ok (.iconst 3, 1) := by decide +kernel
theorem dX12_init_228 : decode cX12_init 228 = .ok (.bipush 98, 2) := by decide +kernel
theorem dX12_init_230 : decode cX12_init 230 = .ok (.bipush 111, 2) := by decide +kernel
theorem dX12_init_232 : decode cX12_init 232 = .ok (.bipush 117, 2) := by decide +kernel
theorem dX12_init_234 : decode cX12_init 234 = .ok (.bipush 110, 2) := by decide +kernel
theorem dX12_init_236 : decode cX12_init 236 = .ok (.bipush 99, 2) := by decide +kernel
theorem dX12_init_238 : decode cX12_init 238 = .ok (.bipush 101, 2) := by decide +kernel
theorem dX12_init_240 : decode cX12_init 240 = .ok (.iconst 0, 1) := by decide +kernel
theorem dX12_init_241 : decode cX12_init 241 = .ok (.invokestatic 75, 3) := by decide +kernel
theorem dX12_init_244 : decode cX12_init 244 = .ok (.lastore, 1) := by decide +kernel
theorem dX12_init_245 : decode cX12_init 245 = .ok (.aload_n 0, 1) := by decide +kernel
theorem dX12_init_246 : decode cX12_init 246 = .ok (.getfield 34, 3) := by decide +kernel
theorem dX12_init_249 : decode cX12_init 249 = .ok (.iconst 4, 1) := by decide +kernel
theorem dX12_init_250 : decode cX12_init 250 = .ok (.bipush 116, 2) := by decide +kernel
theorem dX12_init_252 : decode cX12_init 252 = .ok (.bipush 101, 2) := by decide +kernel
theorem dX12_init_254 : decode cX12_init 254 = .ok (.bipush 114, 2) := by decide +kernel
theorem dX12_init_256 : decode cX12_init 256 = .ok (.bipush 109, 2) := by decide +kernel
theorem dX12_init_258 : decode cX12_init 258 = .ok (.iconst 0, 1) := by decide +kernel
theorem dX12_init_259 : decode cX12_init 259 = .ok (.iconst 0, 1) := by decide +kernel
theorem dX12_init_260 : decode cX12_init 260 = .ok (.iconst 0, 1) := by decide +kernel
theorem dX12_init_261 : decode cX12_init 261 = .ok (.invokestatic 75, 3) := by decide +kernel
theorem dX12_init_264 : decode cX12_init 264 = .ok (.lastore, 1) := by decide +kernel
theorem dX12_init_265 : decode cX12_init 265 = .ok (.aload_n 0, 1) := by decide +kernel
theorem dX12_init_266 : decode cX12_init 266 = .ok (.getfield 34, 3) := by decide +kernel
theorem dX12_init_269 : decode cX12_init 269 = .ok (.iconst 5, 1) := by decide +kernel
theorem dX12_init_270 : decode cX12_init 270 = .ok (.bipush 99, 2) := by decide +kernel
theorem dX12_init_272 : decode cX12_init 272 = .ok (.bipush 104, 2) := by decide +kernel
theorem dX12_init_274 : decode cX12_init 274 = .ok (.bipush 111, 2) := by decide +kernel
theorem dX12_init_276 : decode cX12_init 276 = .ok (.bipush 114, 2) := by decide +kernel
theorem dX12_init_278 : decode cX12_init 278 = .ok (.bipush 100, 2) := by decide +kernel
theorem dX12_init_280 : decode cX12_init 280 = .ok (.bipush 105, 2) := by decide +kernel
theorem dX12_init_282 : decode cX12_init 282 = .ok (.bipush 110, 2) := by decide +kernel
theorem dX12_init_284 : decode cX12_init 284 = .ok (.invokestatic 75, 3) := by decide +kernel
theorem dX12_init_287 : decode cX12_init 287 = .ok (.bipush 103, 2) := by decide +kernel
theorem dX12_init_289 : decode cX12_init 289 = .ok (.invokestatic 79, 3) := by decide +kernel
theorem dX12_init_292 : decode cX12_init 292 = .ok (.lastore, 1) := by decide +kernel
theorem dX12_init_293 : decode cX12_init 293 = .ok (.aload_n 0, 1) := by decide +kernel
theorem dX12_init_294 : decode cX12_init 294 = .ok (.getfield 34, 3) := by decide +kernel
theorem dX12_init_297 : decode cX12_init 297 = .ok (.bipush 6, 2) := by decide +kernel
theorem dX12_init_299 : decode cX12_init 299 = .ok (.bipush 116, 2) := by decide +kernel
theorem dX12_init_301 : decode cX12_init 301 = .ok (.bipush 119, 2) := by decide +kernel
theorem dX12_init_303 : decode cX12_init 303 = .ok (.bipush 105, 2) := by decide +kernel
theorem dX12_init_305 : decode cX12_init 305 = .ok (.bipush 99, 2) := by decide +kernel
theorem dX12_init_307 : decode cX12_init 307 = .ok (.bipush 101, 2) := by decide +kernel
theorem dX12_init_309 : decode cX12_init 309 = .ok (.iconst 0, 1) := by decide +kernel
theorem dX12_init_310 : decode cX12_init 310 = .ok (.iconst 0, 1) := by decide +kernel
theorem dX12_init_311 : decode cX12_init 311 = .ok (.invokestatic 75, 3) := by decide +kernel
theorem dX12_init_314 : decode cX12_init 314 = .ok (.lastore, 1) := by decide +kernel
theorem dX12_init_315 : decode cX12_init 315 = .ok (.aload_n 0, 1) := by decide +kernel
theorem dX12_init_316 : decode cX12_init 316 = .ok (.getfield 34, 3) := by decide +kernel
theorem dX12_init_319 : decode cX12_init 319 = .ok (.bipush 7, 2) := by decide +kernel
theorem dX12_init_321 : decode cX12_init 321 = .ok (.bipush 114, 2) := by decide +kernel
theorem dX12_init_323 : decode cX12_init 323 = .ok (.bipush 101, 2) := by decide +kernel
theorem dX12_init_325 : decode cX12_init 325 = .ok (.bipush 112, 2) := by decide +kernel
theorem dX12_init_327 : decode cX12_init 327 = .ok (.bipush 101, 2) := by decide +kernel
theorem dX12_init_329 : decode cX12_init 329 = .ok (.bipush 97, 2) := by decide +kernel
theorem dX12_init_331 : decode cX12_init 331 = .ok (.bipush 116, 2) := by decide +kernel
theorem dX12_init_333 : decode cX12_init 333 = .ok (.iconst 0, 1) := by decide +kernel
theorem dX12_init_334 : decode cX12_init 334 = .ok (.invokestatic 75, 3) := by decide +kernel
theorem dX12_init_337 : decode cX12_init 337 = .ok (.lastore, 1) := by decide +kernel
theorem dX12_init_338 : decode cX12_init 338 = .ok (.aload_n 0, 1) := by decide +kernel
theorem dX12_init_339 : decode cX12_init 339 = .ok (.getfield 34, 3) := by decide +kernel
theorem dX12_init_342 : decode cX12_init 342 = .ok (.bipush 8, 2) := by decide +kernel
theorem dX12_init_344 : decode cX12_init 344 = .ok (.bipush 107, 2) := by decide +kernel
theorem dX12_init_346 : decode cX12_init 346 = .ok (.bipush 101, 2) := by decide +kernel
theorem dX12_init_348 : decode cX12_init 348 = .ok (.bipush 121, 2) := by decide +kernel
theorem dX12_init_350 : decode cX12_init 350 = .ok (.iconst 0, 1) := by decide +kernel
theorem dX12_init_351 : decode cX12_init 351 = .ok (.iconst 0, 1) := by decide +kernel
theorem dX12_init_352 : decode cX12_init 352 = .ok (.iconst 0, 1) := by decide +kernel
theorem dX12_init_353 : decode cX12_init 353 = .ok (.iconst 0, 1) := by decide +kernel
theorem dX12_init_354 : decode cX12_init 354 = .ok (.invokestatic 75, 3) := by decide +kernel
theorem dX12_init_357 : decode cX12_init 357 = .ok (.lastore, 1) := by decide +kernel
theorem dX12_init_358 : decode cX12_init 358 = .ok (.aload_n 0, 1) := by decide +kernel
theorem dX12_init_359 : decode cX12_init 359 = .ok (.getfield 34, 3) := by decide +kernel
theorem dX12_init_362 : decode cX12_init 362 = .ok (.bipush 9, 2) := by decide +kernel
theorem dX12_init_364 : decode cX12_init 364 = .ok (.bipush 99, 2) := by decide +kernel
theorem dX12_init_366 : decode cX12_init 366 = .ok (.bipush 104, 2) := by decide +kernel
theorem dX12_init_368 : decode cX12_init 368 = .ok (.bipush 111, 2) := by decide +kernel
theorem dX12_init_370 : decode cX12_init 370 = .ok (.bipush 114, 2) := by decide +kernel
theorem dX12_init_372 : decode cX12_init 372 = .ok (.bipush 100, 2) := by decide +kernel
theorem dX12_init_374 : decode cX12_init 374 = .ok (.iconst 0, 1) := by decide +kernel
theorem dX12_init_375 : decode cX12_init 375 = .ok (.iconst 0, 1) := by decide +kernel
theorem dX12_init_376 : decode cX12_init 376 = .ok (.invokestatic 75, 3) := by decide +kernel
theorem dX12_init_379 : decode cX12_init 379 = .ok (.lastore, 1) := by decide +kernel
theorem dX12_init_380 : decode cX12_init 380 = .ok (.aload_n 0, 1) := by decide +kernel
theorem dX12_init_381 : decode cX12_init 381 = .ok (.getfield 34, 3) := by decide +kernel
theorem dX12_init_384 : decode cX12_init 384 = .ok (.bipush 10, 2) := by decide +kernel
theorem dX12_init_386 : decode cX12_init 386 = .ok (.bipush 109, 2) := by decide +kernel
theorem dX12_init_388 : decode cX12_init 388 = .ok (.bipush 97, 2) := by decide +kernel
theorem dX12_init_390 : decode cX12_init 390 = .ok (.bipush 99, 2) := by decide +kernel
theorem dX12_init_392 : decode cX12_init 392 = .ok (.bipush 114, 2) := by decide +kernel
theorem dX12_init_394 : decode cX12_init 394 = .ok (.bipush 111, 2) := by decide +kernel
theorem dX12_init_396 : decode cX12_init 396 = .ok (.iconst 0, 1) := by decide +kernel
theorem dX12_init_397 : decode cX12_init 397 = .ok (.iconst 0, 1) := by decide +kernel
theorem dX12_init_398 : decode cX12_init 398 = .ok (.invokestatic 75, 3) := by decide +kernel
theorem dX12_init_401 : decode cX12_init 401 = .ok (.lastore, 1) := by decide +kernel
theorem dX12_init_402 : decode cX12_init 402 = .ok (.aload_n 0, 1) := by decide +kernel
theorem dX12_init_403 : decode cX12_init 403 = .ok (.getfield 34, 3) := by decide +kernel
theorem dX12_init_406 : decode cX12_init 406 = .ok (.bipush 11, 2) := by decide +kernel
theorem dX12_init_408 : decode cX12_init 408 = .ok (.bipush 99, 2) := by decide +kernel
theorem dX12_init_410 : decode cX12_init 410 = .ok (.bipush 111, 2) := by decide +kernel
theorem dX12_init_412 : decode cX12_init 412 = .ok (.bipush 100, 2) := by decide +kernel
theorem dX12_init_414 : decode cX12_init 414 = .ok (.bipush 101, 2) := by decide +kernel
theorem dX12_init_416 : decode cX12_init 416 = .ok (.iconst 0, 1) := by decide +kernel
theorem dX12_init_417 : decode cX12_init 417 = .ok (.iconst 0, 1) := by decide +kernel
theorem dX12_init_418 : decode cX12_init 418 = .ok (.iconst 0, 1) := by decide +kernel
theorem dX12_init_419 : decode cX12_init 419 = .ok (.invokestatic 75, 3) := by decide +kernel
theorem dX12_init_422 : decode cX12_init 422 = .ok (.lastore, 1) := by decide +kernel
theorem dX12_init_423 : decode cX12_init 423 = .ok (.aload_n 0, 1) := by decide +kernel
theorem dX12_init_424 : decode cX12_init 424 = .ok (.getfield 34, 3) := by decide +kernel
theorem dX12_init_427 : decode cX12_init 427 = .ok (.bipush 12, 2) := by decide +kernel
theorem dX12_init_429 : decode cX12_init 429 = .ok (.bipush 109, 2) := by decide +kernel
theorem dX12_init_431 : decode cX12_init 431 = .ok (.bipush 111, 2) := by decide +kernel
theorem dX12_init_433 : decode cX12_init 433 = .ok (.bipush 100, 2) := by decide +kernel
theorem dX12_init_435 : decode cX12_init 435 = .ok (.iconst 0, 1) := by decide +kernel
theorem dX12_init_436 : decode cX12_init 436 = .ok (.iconst 0, 1) := by decide +kernel
theorem dX12_init_437 : decode cX12_init 437 = .ok (.iconst 0, 1) := by decide +kernel
theorem dX12_init_438 : decode cX12_init 438 = .ok (.iconst 0, 1) := by decide +kernel
theorem dX12_init_439 : decode cX12_init 439 = .ok (.invokestatic 75, 3) := by decide +kernel
theorem dX12_init_442 : decode cX12_init 442 = .ok (.lastore, 1) := by decide +kernel
theorem dX12_init_443 : decode cX12_init 443 = .ok (.aload_n 0, 1) := by decide +kernel
theorem dX12_init_444 : decode cX12_init 444 = .ok (.getfield 34, 3) := by decide +kernel
theorem dX12_init_447 : decode cX12_init 447 = .ok (.bipush 13, 2) := by decide +kernel
theorem dX12_init_449 : decode cX12_init 449 = .ok (.bipush 108, 2) := by decide +kernel
theorem dX12_init_451 : decode cX12_init 451 = .ok (.bipush 97, 2) := by decide +kernel
theorem dX12_init_453 : decode cX12_init 453 = .ok (.bipush 121, 2) := by decide +kernel
theorem dX12_init_455 : decode cX12_init 455 = .ok (.bipush 101, 2) := by decide +kernel
theorem dX12_init_457 : decode cX12_init 457 = .ok (.bipush 114, 2) := by decide +kernel
theorem dX12_init_459 : decode cX12_init 459 = .ok (.iconst 0, 1) := by decide +kernel
theorem dX12_init_460 : decode cX12_init 460 = .ok (.iconst 0, 1) := by decide +kernel
theorem dX12_init_461 : decode cX12_init 461 = .ok (.invokestatic 75, 3) := by decide +kernel
theorem dX12_init_464 : decode cX12_init 464 = .ok (.lastore, 1) := by decide +kernel
theorem dX12_init_465 : decode cX12_init 465 = .ok (.aload_n 0, 1) := by decide +kernel
theorem dX12_init_466 : decode cX12_init 466 = .ok (.getfield 34, 3) := by decide +kernel
theorem dX12_init_469 : decode cX12_init 469 = .ok (.bipush 14, 2) := by decide +kernel
theorem dX12_init_471 : decode cX12_init 471 = .ok (.bipush 116, 2) := by decide +kernel
theorem dX12_init_473 : decode cX12_init 473 = .ok (.bipush 111, 2) := by decide +kernel
theorem dX12_init_475 : decode cX12_init 475 = .ok (.bipush 103, 2) := by decide +kernel
theorem dX12_init_477 : decode cX12_init 477 = .ok (.bipush 103, 2) := by decide +kernel
theorem dX12_init_479 : decode cX12_init 479 = .ok (.bipush 108, 2) := by decide +kernel
theorem dX12_init_481 : decode cX12_init 481 = .ok (.bipush 101, 2) := by decide +kernel
theorem dX12_init_483 : decode cX12_init 483 = .ok (.iconst 0, 1) := by decide +kernel
theorem dX12_init_484 : decode cX12_init 484 = .ok (.invokestatic 75, 3) := by decide +kernel
theorem dX12_init_487 : decode cX12_init 487 = .ok (.lastore, 1) := by decide +kernel
theorem dX12_init_488 : decode cX12_init 488 = .ok (.aload_n 0, 1) := by decide +kernel
theorem dX12_init_489 : decode cX12_init 489 = .ok (.getfield 34, 3) := by decide +kernel
theorem dX12_init_492 : decode cX12_init 492 = .ok (.bipush 15, 2) := by decide +kernel
theorem dX12_init_494 : decode cX12_init 494 = .ok (.bipush 110, 2) := by decide +kernel
theorem dX12_init_496 : decode cX12_init 496 = .ok (.bipush 111, 2) := by decide +kernel
theorem dX12_init_498 : decode cX12_init 498 = .ok (.bipush 116, 2) := by decide +kernel
theorem dX12_init_500 : decode cX12_init 500 = .ok (.bipush 104, 2) := by decide +kernel
theorem dX12_init_502 : decode cX12_init 502 = .ok (.bipush 105, 2) := by decide +kernel
theorem dX12_init_504 : decode cX12_init 504 = .ok (.bipush 110, 2) := by decide +kernel
theorem dX12_init_506 : decode cX12_init 506 = .ok (.bipush 103, 2) := by decide +kernel
theorem dX12_init_508 : decode cX12_init 508 = .ok (.invokestatic 75, 3) := by decide +kernel
theorem dX12_init_511 : decode cX12_init 511 = .ok (.lastore, 1) := by decide +kernel
theorem dX12_init_512 : decode cX12_init 512 = .ok (.aload_n 0, 1) := by decide +kernel
theorem dX12_init_513 : decode cX12_init 513 = .ok (.getfield 34, 3) := by decide +kernel
theorem dX12_init_516 : decode cX12_init 516 = .ok (.bipush 16, 2) := by decide +kernel
theorem dX12_init_518 : decode cX12_init 518 = .ok (.bipush 98, 2) := by decide +kernel
theorem dX12_init_520 : decode cX12_init 520 = .ok (.bipush 101, 2) := by decide +kernel
theorem dX12_init_522 : decode cX12_init 522 = .ok (.bipush 108, 2) := by decide +kernel
theorem dX12_init_524 : decode cX12_init 524 = .ok (.bipush 111, 2) := by decide +kernel
theorem dX12_init_526 : decode cX12_init 526 = .ok (.bipush 119, 2) := by decide +kernel
theorem dX12_init_528 : decode cX12_init 528 = .ok (.iconst 0, 1) := by decide +kernel
theorem dX12_init_529 : decode cX12_init 529 = .ok (.iconst 0, 1) := by decide +kernel
theorem dX12_init_530 : decode cX12_init 530 = .ok (.invokestatic 75, 3) := by decide +kernel
theorem dX12_init_533 : decode cX12_init 533 = .ok (.lastore, 1) := by decide +kernel
theorem dX12_init_534 : decode cX12_init 534 = .ok (.aload_n 0, 1) := by decide +kernel
theorem dX12_init_535 : decode cX12_init 535 = .ok (.getfield 34, 3) := by decide +kernel
theorem dX12_init_538 : decode cX12_init 538 = .ok (.bipush 17, 2) := by decide +kernel
theorem dX12_init_540 : decode cX12_init 540 = .ok (.bipush 104, 2) := by decide +kernel
theorem dX12_init_542 : decode cX12_init 542 = .ok (.bipush 111, 2) := by decide +kernel
theorem dX12_init_544 : decode cX12_init 544 = .ok (.bipush 108, 2) := by decide +kernel
theorem dX12_init_546 : decode cX12_init 546 = .ok (.bipush 100, 2) := by decide +kernel
theorem dX12_init_548 : decode cX12_init 548 = .ok (.iconst 0, 1) := by decide +kernel
theorem dX12_init_549 : decode cX12_init 549 = .ok (.iconst 0, 1) := by decide +kernel
theorem dX12_init_550 : decode cX12_init 550 = .ok (.iconst 0, 1) := by decide +kernel
theorem dX12_init_551 : decode cX12_init 551 = .ok (.invokestatic 75, 3) := by decide +kernel
theorem dX12_init_554 : decode cX12_init 554 = .ok (.lastore, 1) := by decide +kernel
theorem dX12_init_555 : decode cX12_init 555 = .ok (.aload_n 0, 1) := by decide +kernel
theorem dX12_init_556 : decode cX12_init 556 = .ok (.getfield 34, 3) := by decide +kernel
theorem dX12_init_559 : decode cX12_init 559 = .ok (.bipush 18, 2) := by decide +kernel
theorem dX12_init_561 : decode cX12_init 561 = .ok (.bipush 100, 2) := by decide +kernel
theorem dX12_init_563 : decode cX12_init 563 = .ok (.bipush 111, 2) := by decide +kernel
theorem dX12_init_565 : decode cX12_init 565 = .ok (.bipush 117, 2) := by decide +kernel
theorem dX12_init_567 : decode cX12_init 567 = .ok (.bipush 98, 2) := by decide +kernel
theorem dX12_init_569 : decode cX12_init 569 = .ok (.bipush 108, 2) := by decide +kernel
theorem dX12_init_571 : decode cX12_init 571 = .ok (.bipush 101, 2) := by decide +kernel
theorem dX12_init_573 : decode cX12_init 573 = .ok (.iconst 0, 1) := by decide +kernel
theorem dX12_init_574 : decode cX12_init 574 = .ok (.invokestatic 75, 3) := by decide +kernel
theorem dX12_init_577 : decode cX12_init 577 = .ok (.lastore, 1) := by decide +kernel
theorem dX12_init_578 : decode cX12_init 578 = .ok (.aload_n 0, 1) := by decide +kernel
theorem dX12_init_579 : decode cX12_init 579 = .ok (.getfield 34, 3) := by decide +kernel
theorem dX12_init_582 : decode cX12_init 582 = .ok (.bipush 19, 2) := by decide +kernel
theorem dX12_init_584 : decode cX12_init 584 = .ok (.bipush 112, 2) := by decide +kernel
theorem dX12_init_586 : decode cX12_init 586 = .ok (.bipush 108, 2) := by decide +kernel
theorem dX12_init_588 : decode cX12_init 588 = .ok (.bipush 97, 2) := by decide +kernel
theorem dX12_init_590 : decode cX12_init 590 = .ok (.bipush 121, 2) := by decide +kernel
theorem dX12_init_592 : decode cX12_init 592 = .ok (.iconst 0, 1) := by decide +kernel
theorem dX12_init_593 : decode cX12_init 593 = .ok (.iconst 0, 1) := by decide +kernel
theorem dX12_init_594 : decode cX12_init 594 = .ok (.iconst 0, 1) := by decide +kernel
theorem dX12_init_595 : decode cX12_init 595 = .ok (.invokestatic 75, 3) := by decide +kernel
theorem dX12_init_598 : decode cX12_init 598 = .ok (.lastore, 1) := by decide +kernel
theorem dX12_init_599 : decode cX12_init 599 = .ok (.aload_n 0, 1) := by decide +kernel
theorem dX12_init_600 : decode cX12_init 600 = .ok (.getfield 40, 3) := by decide +kernel
theorem dX12_init_603 : decode cX12_init 603 = .ok (.invokestatic 83, 3) := by decide +kernel
theorem dX12_init_606 : decode cX12_init 606 = .ok (.aload_n 0, 1) := by decide +kernel
theorem dX12_init_607 : decode cX12_init 607 = .ok (.invokevirtual 87, 3) := by decide +kernel
theorem dX12_init_610 : decode cX12_init 610 = .ok (.return_, 1) := by decide +kernel
def rmX12_init : Room := { frames := 2, cells := 18, slots := 52035, locals := 48 }
set_option maxRecDepth 100000 in
def fX12_init_J555 (N : Nat)  (x0 : Nat) (n0 s0 : Nat) (g : Gs) (d : Ds) : Option (Gs × Ds) := gd (chk g x0 11) <| ob (gR g x0 9) fun r295 => (gd (gN g - n0 ≤ 18 ∧ gS g - s0 ≤ 52035) <| cb (fX12_letters N g 100 111 117 98 108 101 0 d) fun u299 d297 => (gd (chk g r295 103) <| gd (¬ ((18 : Int32) < 0 ∨ gL g r295 ≤ (18 : Int32).toNatClampNeg)) <| bd (sL d297 r295 (18 : Int32).toNatClampNeg u299) fun d302 => (cb (fX12_letters N g 112 108 97 121 0 0 0 d302) fun u305 d303 => (gd (¬ ((19 : Int32) < 0 ∨ gL g r295 ≤ (19 : Int32).toNatClampNeg)) <| bd (sL d303 r295 (19 : Int32).toNatClampNeg u305) fun d307 => (ob (gR g x0 17) fun r308 => (cv (fX12_begins N g r308 d307) fun d309 => (cv (fX12_startsAnew N g x0 d309) fun d311 => (gd (gN g = n0 + 18 ∧ gS g = s0 + 52035) <| some (g, d311)))))))))
set_option maxHeartbeats 4000000 in
set_option maxRecDepth 100000 in
theorem tX12_init_555 {p : Program} {l : Launch} {e : Env} {s : State} {m : MethodId} {args : Array Value} {below : List Frame} {meth : Method} {c : Code} {D : va_G} {cy : Nat → ClassId} {B : Bs} (C : Cx p s m args c cX12_init 1 RX12 D cy B) (hr : meth.sig.returnType = none) (hlocks : meth.locks = false) (hin : meth.name = "<init>") {n0 s0 : Nat} (hz : s.heap.size = B.1 + n0) {N : Nat} {x0 : Nat} {gz : Gs} {dz : Ds} {g : Gs} {d : Ds} (hn : n0 ≤ gN g) (hs : s0 ≤ gS g) (hf : fX12_init_J555 N x0 n0 s0 g d = some (gz, dz)) : WB p l e rmX12_init s m args below meth c 1 D cy B (gN g - n0) (gS g - s0) (MQ below (QV D cy B gz dz) args s 18 52035 (wA B)) g d [(0, .ref (ad B x0))] 555 [] := by
  unfold fX12_init_J555 at hf
  refine b_aload_n C dX12_init_555 0 rfl rfl ?_
  obtain ⟨h294, hf⟩ := gd_s hf
  obtain ⟨r295, er295, hf⟩ := ob_s hf
  refine b_gR C dX12_init_556 fl_X12_34 h294 er295 ?_
  refine b_bipush C (v := 18) dX12_init_559 (by decide) ?_
  refine b_bipush C (v := 100) dX12_init_561 (by decide) ?_
  refine b_bipush C (v := 111) dX12_init_563 (by decide) ?_
  refine b_bipush C (v := 117) dX12_init_565 (by decide) ?_
  refine b_bipush C (v := 98) dX12_init_567 (by decide) ?_
  refine b_bipush C (v := 108) dX12_init_569 (by decide) ?_
  refine b_bipush C (v := 101) dX12_init_571 (by decide) ?_
  refine b_iconst C (v := 0) dX12_init_573 (by decide) ?_
  obtain ⟨h296, hf⟩ := gd_s hf
  obtain ⟨u299, d297, k298, hf⟩ := cb_s hf
  refine b_cSJ C [.int 18, .ref (ad B r295)] dX12_init_574 (kX12_letters l D cy B k298) lv_X12_75 ⟨rfl, rfl, Nat.le_of_ble_eq_true rfl, Nat.le_of_ble_eq_true rfl⟩ rfl (Nat.le_of_ble_eq_true rfl) h296 rfl ?_
  obtain ⟨h300, hf⟩ := gd_s hf
  obtain ⟨h301, hf⟩ := gd_s hf
  obtain ⟨d302, ed302, hf⟩ := bd_s hf
  refine b_last C h300 h301 ed302 dX12_init_577 ?_
  refine b_aload_n C dX12_init_578 0 rfl rfl ?_
  refine b_gR C dX12_init_579 fl_X12_34 h294 er295 ?_
  refine b_bipush C (v := 19) dX12_init_582 (by decide) ?_
  refine b_bipush C (v := 112) dX12_init_584 (by decide) ?_
  refine b_bipush C (v := 108) dX12_init_586 (by decide) ?_
  refine b_bipush C (v := 97) dX12_init_588 (by decide) ?_
  refine b_bipush C (v := 121) dX12_init_590 (by decide) ?_
  refine b_iconst C (v := 0) dX12_init_592 (by decide) ?_
  refine b_iconst C (v := 0) dX12_init_593 (by decide) ?_
  refine b_iconst C (v := 0) dX12_init_594 (by decide) ?_
  obtain ⟨u305, d303, k304, hf⟩ := cb_s hf
  refine b_cSJ C [.int 19, .ref (ad B r295)] dX12_init_595 (kX12_letters l D cy B k304) lv_X12_75 ⟨rfl, rfl, Nat.le_of_ble_eq_true rfl, Nat.le_of_ble_eq_true rfl⟩ rfl (Nat.le_of_ble_eq_true rfl) h296 rfl ?_
  obtain ⟨h306, hf⟩ := gd_s hf
  obtain ⟨d307, ed307, hf⟩ := bd_s hf
  refine b_last C h300 h306 ed307 dX12_init_598 ?_
  refine b_aload_n C dX12_init_599 0 rfl rfl ?_
  obtain ⟨r308, er308, hf⟩ := ob_s hf
  refine b_gR C dX12_init_600 fl_X12_40 h294 er308 ?_
  obtain ⟨d309, k310, hf⟩ := cv_s hf
  refine b_cSN C [] dX12_init_603 (kX12_begins l D cy B k310) lv_X12_83 ⟨rfl, rfl, Nat.le_of_ble_eq_true rfl, Nat.le_of_ble_eq_true rfl⟩ rfl (Nat.le_of_ble_eq_true rfl) h296 rfl ?_
  refine b_aload_n C dX12_init_606 0 rfl rfl ?_
  obtain ⟨d311, k312, hf⟩ := cv_s hf
  refine b_cVN C [] dX12_init_607 (kX12_startsAnew l D cy B k312) lv_X12_87 ⟨rfl, rfl, Nat.le_of_ble_eq_true rfl, Nat.le_of_ble_eq_true rfl⟩ h294 (by decide) rfl (Nat.le_of_ble_eq_true rfl) h296 rfl ?_
  obtain ⟨h313, hf⟩ := gd_s hf
  exact b_vretC C hr hlocks h313 hf dX12_init_610
set_option maxRecDepth 100000 in
def fX12_init_J423 (N : Nat)  (x0 : Nat) (n0 s0 : Nat) (g : Gs) (d : Ds) : Option (Gs × Ds) := gd (chk g x0 11) <| ob (gR g x0 9) fun r261 => (gd (gN g - n0 ≤ 18 ∧ gS g - s0 ≤ 52035) <| cb (fX12_letters N g 109 111 100 0 0 0 0 d) fun u265 d263 => (gd (chk g r261 103) <| gd (¬ ((12 : Int32) < 0 ∨ gL g r261 ≤ (12 : Int32).toNatClampNeg)) <| bd (sL d263 r261 (12 : Int32).toNatClampNeg u265) fun d268 => (cb (fX12_letters N g 108 97 121 101 114 0 0 d268) fun u271 d269 => (gd (¬ ((13 : Int32) < 0 ∨ gL g r261 ≤ (13 : Int32).toNatClampNeg)) <| bd (sL d269 r261 (13 : Int32).toNatClampNeg u271) fun d273 => (cb (fX12_letters N g 116 111 103 103 108 101 0 d273) fun u276 d274 => (gd (¬ ((14 : Int32) < 0 ∨ gL g r261 ≤ (14 : Int32).toNatClampNeg)) <| bd (sL d274 r261 (14 : Int32).toNatClampNeg u276) fun d278 => (cb (fX12_letters N g 110 111 116 104 105 110 103 d278) fun u281 d279 => (gd (¬ ((15 : Int32) < 0 ∨ gL g r261 ≤ (15 : Int32).toNatClampNeg)) <| bd (sL d279 r261 (15 : Int32).toNatClampNeg u281) fun d283 => (cb (fX12_letters N g 98 101 108 111 119 0 0 d283) fun u286 d284 => (gd (¬ ((16 : Int32) < 0 ∨ gL g r261 ≤ (16 : Int32).toNatClampNeg)) <| bd (sL d284 r261 (16 : Int32).toNatClampNeg u286) fun d288 => (cb (fX12_letters N g 104 111 108 100 0 0 0 d288) fun u291 d289 => (gd (¬ ((17 : Int32) < 0 ∨ gL g r261 ≤ (17 : Int32).toNatClampNeg)) <| bd (sL d289 r261 (17 : Int32).toNatClampNeg u291) fun d293 => (fX12_init_J555 N x0 n0 s0 g d293)))))))))))))
set_option maxHeartbeats 4000000 in
set_option maxRecDepth 100000 in
theorem tX12_init_423 {p : Program} {l : Launch} {e : Env} {s : State} {m : MethodId} {args : Array Value} {below : List Frame} {meth : Method} {c : Code} {D : va_G} {cy : Nat → ClassId} {B : Bs} (C : Cx p s m args c cX12_init 1 RX12 D cy B) (hr : meth.sig.returnType = none) (hlocks : meth.locks = false) (hin : meth.name = "<init>") {n0 s0 : Nat} (hz : s.heap.size = B.1 + n0) {N : Nat} {x0 : Nat} {gz : Gs} {dz : Ds} {g : Gs} {d : Ds} (hn : n0 ≤ gN g) (hs : s0 ≤ gS g) (hf : fX12_init_J423 N x0 n0 s0 g d = some (gz, dz)) : WB p l e rmX12_init s m args below meth c 1 D cy B (gN g - n0) (gS g - s0) (MQ below (QV D cy B gz dz) args s 18 52035 (wA B)) g d [(0, .ref (ad B x0))] 423 [] := by
  unfold fX12_init_J423 at hf
  refine b_aload_n C dX12_init_423 0 rfl rfl ?_
  obtain ⟨h260, hf⟩ := gd_s hf
  obtain ⟨r261, er261, hf⟩ := ob_s hf
  refine b_gR C dX12_init_424 fl_X12_34 h260 er261 ?_
  refine b_bipush C (v := 12) dX12_init_427 (by decide) ?_
  refine b_bipush C (v := 109) dX12_init_429 (by decide) ?_
  refine b_bipush C (v := 111) dX12_init_431 (by decide) ?_
  refine b_bipush C (v := 100) dX12_init_433 (by decide) ?_
  refine b_iconst C (v := 0) dX12_init_435 (by decide) ?_
  refine b_iconst C (v := 0) dX12_init_436 (by decide) ?_
  refine b_iconst C (v := 0) dX12_init_437 (by decide) ?_
  refine b_iconst C (v := 0) dX12_init_438 (by decide) ?_
  obtain ⟨h262, hf⟩ := gd_s hf
  obtain ⟨u265, d263, k264, hf⟩ := cb_s hf
  refine b_cSJ C [.int 12, .ref (ad B r261)] dX12_init_439 (kX12_letters l D cy B k264) lv_X12_75 ⟨rfl, rfl, Nat.le_of_ble_eq_true rfl, Nat.le_of_ble_eq_true rfl⟩ rfl (Nat.le_of_ble_eq_true rfl) h262 rfl ?_
  obtain ⟨h266, hf⟩ := gd_s hf
  obtain ⟨h267, hf⟩ := gd_s hf
  obtain ⟨d268, ed268, hf⟩ := bd_s hf
  refine b_last C h266 h267 ed268 dX12_init_442 ?_
  refine b_aload_n C dX12_init_443 0 rfl rfl ?_
  refine b_gR C dX12_init_444 fl_X12_34 h260 er261 ?_
  refine b_bipush C (v := 13) dX12_init_447 (by decide) ?_
  refine b_bipush C (v := 108) dX12_init_449 (by decide) ?_
  refine b_bipush C (v := 97) dX12_init_451 (by decide) ?_
  refine b_bipush C (v := 121) dX12_init_453 (by decide) ?_
  refine b_bipush C (v := 101) dX12_init_455 (by decide) ?_
  refine b_bipush C (v := 114) dX12_init_457 (by decide) ?_
  refine b_iconst C (v := 0) dX12_init_459 (by decide) ?_
  refine b_iconst C (v := 0) dX12_init_460 (by decide) ?_
  obtain ⟨u271, d269, k270, hf⟩ := cb_s hf
  refine b_cSJ C [.int 13, .ref (ad B r261)] dX12_init_461 (kX12_letters l D cy B k270) lv_X12_75 ⟨rfl, rfl, Nat.le_of_ble_eq_true rfl, Nat.le_of_ble_eq_true rfl⟩ rfl (Nat.le_of_ble_eq_true rfl) h262 rfl ?_
  obtain ⟨h272, hf⟩ := gd_s hf
  obtain ⟨d273, ed273, hf⟩ := bd_s hf
  refine b_last C h266 h272 ed273 dX12_init_464 ?_
  refine b_aload_n C dX12_init_465 0 rfl rfl ?_
  refine b_gR C dX12_init_466 fl_X12_34 h260 er261 ?_
  refine b_bipush C (v := 14) dX12_init_469 (by decide) ?_
  refine b_bipush C (v := 116) dX12_init_471 (by decide) ?_
  refine b_bipush C (v := 111) dX12_init_473 (by decide) ?_
  refine b_bipush C (v := 103) dX12_init_475 (by decide) ?_
  refine b_bipush C (v := 103) dX12_init_477 (by decide) ?_
  refine b_bipush C (v := 108) dX12_init_479 (by decide) ?_
  refine b_bipush C (v := 101) dX12_init_481 (by decide) ?_
  refine b_iconst C (v := 0) dX12_init_483 (by decide) ?_
  obtain ⟨u276, d274, k275, hf⟩ := cb_s hf
  refine b_cSJ C [.int 14, .ref (ad B r261)] dX12_init_484 (kX12_letters l D cy B k275) lv_X12_75 ⟨rfl, rfl, Nat.le_of_ble_eq_true rfl, Nat.le_of_ble_eq_true rfl⟩ rfl (Nat.le_of_ble_eq_true rfl) h262 rfl ?_
  obtain ⟨h277, hf⟩ := gd_s hf
  obtain ⟨d278, ed278, hf⟩ := bd_s hf
  refine b_last C h266 h277 ed278 dX12_init_487 ?_
  refine b_aload_n C dX12_init_488 0 rfl rfl ?_
  refine b_gR C dX12_init_489 fl_X12_34 h260 er261 ?_
  refine b_bipush C (v := 15) dX12_init_492 (by decide) ?_
  refine b_bipush C (v := 110) dX12_init_494 (by decide) ?_
  refine b_bipush C (v := 111) dX12_init_496 (by decide) ?_
  refine b_bipush C (v := 116) dX12_init_498 (by decide) ?_
  refine b_bipush C (v := 104) dX12_init_500 (by decide) ?_
  refine b_bipush C (v := 105) dX12_init_502 (by decide) ?_
  refine b_bipush C (v := 110) dX12_init_504 (by decide) ?_
  refine b_bipush C (v := 103) dX12_init_506 (by decide) ?_
  obtain ⟨u281, d279, k280, hf⟩ := cb_s hf
  refine b_cSJ C [.int 15, .ref (ad B r261)] dX12_init_508 (kX12_letters l D cy B k280) lv_X12_75 ⟨rfl, rfl, Nat.le_of_ble_eq_true rfl, Nat.le_of_ble_eq_true rfl⟩ rfl (Nat.le_of_ble_eq_true rfl) h262 rfl ?_
  obtain ⟨h282, hf⟩ := gd_s hf
  obtain ⟨d283, ed283, hf⟩ := bd_s hf
  refine b_last C h266 h282 ed283 dX12_init_511 ?_
  refine b_aload_n C dX12_init_512 0 rfl rfl ?_
  refine b_gR C dX12_init_513 fl_X12_34 h260 er261 ?_
  refine b_bipush C (v := 16) dX12_init_516 (by decide) ?_
  refine b_bipush C (v := 98) dX12_init_518 (by decide) ?_
  refine b_bipush C (v := 101) dX12_init_520 (by decide) ?_
  refine b_bipush C (v := 108) dX12_init_522 (by decide) ?_
  refine b_bipush C (v := 111) dX12_init_524 (by decide) ?_
  refine b_bipush C (v := 119) dX12_init_526 (by decide) ?_
  refine b_iconst C (v := 0) dX12_init_528 (by decide) ?_
  refine b_iconst C (v := 0) dX12_init_529 (by decide) ?_
  obtain ⟨u286, d284, k285, hf⟩ := cb_s hf
  refine b_cSJ C [.int 16, .ref (ad B r261)] dX12_init_530 (kX12_letters l D cy B k285) lv_X12_75 ⟨rfl, rfl, Nat.le_of_ble_eq_true rfl, Nat.le_of_ble_eq_true rfl⟩ rfl (Nat.le_of_ble_eq_true rfl) h262 rfl ?_
  obtain ⟨h287, hf⟩ := gd_s hf
  obtain ⟨d288, ed288, hf⟩ := bd_s hf
  refine b_last C h266 h287 ed288 dX12_init_533 ?_
  refine b_aload_n C dX12_init_534 0 rfl rfl ?_
  refine b_gR C dX12_init_535 fl_X12_34 h260 er261 ?_
  refine b_bipush C (v := 17) dX12_init_538 (by decide) ?_
  refine b_bipush C (v := 104) dX12_init_540 (by decide) ?_
  refine b_bipush C (v := 111) dX12_init_542 (by decide) ?_
  refine b_bipush C (v := 108) dX12_init_544 (by decide) ?_
  refine b_bipush C (v := 100) dX12_init_546 (by decide) ?_
  refine b_iconst C (v := 0) dX12_init_548 (by decide) ?_
  refine b_iconst C (v := 0) dX12_init_549 (by decide) ?_
  refine b_iconst C (v := 0) dX12_init_550 (by decide) ?_
  obtain ⟨u291, d289, k290, hf⟩ := cb_s hf
  refine b_cSJ C [.int 17, .ref (ad B r261)] dX12_init_551 (kX12_letters l D cy B k290) lv_X12_75 ⟨rfl, rfl, Nat.le_of_ble_eq_true rfl, Nat.le_of_ble_eq_true rfl⟩ rfl (Nat.le_of_ble_eq_true rfl) h262 rfl ?_
  obtain ⟨h292, hf⟩ := gd_s hf
  obtain ⟨d293, ed293, hf⟩ := bd_s hf
  refine b_last C h266 h292 ed293 dX12_init_554 ?_
  refine b_sub [(0, .ref (ad B x0))] [0] rfl ?_
  exact tX12_init_555 C hr hlocks hin hz hn hs hf
set_option maxRecDepth 100000 in
def fX12_init_J293 (N : Nat)  (x0 : Nat) (n0 s0 : Nat) (g : Gs) (d : Ds) : Option (Gs × Ds) := gd (chk g x0 11) <| ob (gR g x0 9) fun r227 => (gd (gN g - n0 ≤ 18 ∧ gS g - s0 ≤ 52035) <| cb (fX12_letters N g 116 119 105 99 101 0 0 d) fun u231 d229 => (gd (chk g r227 103) <| gd (¬ ((6 : Int32) < 0 ∨ gL g r227 ≤ (6 : Int32).toNatClampNeg)) <| bd (sL d229 r227 (6 : Int32).toNatClampNeg u231) fun d234 => (cb (fX12_letters N g 114 101 112 101 97 116 0 d234) fun u237 d235 => (gd (¬ ((7 : Int32) < 0 ∨ gL g r227 ≤ (7 : Int32).toNatClampNeg)) <| bd (sL d235 r227 (7 : Int32).toNatClampNeg u237) fun d239 => (cb (fX12_letters N g 107 101 121 0 0 0 0 d239) fun u242 d240 => (gd (¬ ((8 : Int32) < 0 ∨ gL g r227 ≤ (8 : Int32).toNatClampNeg)) <| bd (sL d240 r227 (8 : Int32).toNatClampNeg u242) fun d244 => (cb (fX12_letters N g 99 104 111 114 100 0 0 d244) fun u247 d245 => (gd (¬ ((9 : Int32) < 0 ∨ gL g r227 ≤ (9 : Int32).toNatClampNeg)) <| bd (sL d245 r227 (9 : Int32).toNatClampNeg u247) fun d249 => (cb (fX12_letters N g 109 97 99 114 111 0 0 d249) fun u252 d250 => (gd (¬ ((10 : Int32) < 0 ∨ gL g r227 ≤ (10 : Int32).toNatClampNeg)) <| bd (sL d250 r227 (10 : Int32).toNatClampNeg u252) fun d254 => (cb (fX12_letters N g 99 111 100 101 0 0 0 d254) fun u257 d255 => (gd (¬ ((11 : Int32) < 0 ∨ gL g r227 ≤ (11 : Int32).toNatClampNeg)) <| bd (sL d255 r227 (11 : Int32).toNatClampNeg u257) fun d259 => (fX12_init_J423 N x0 n0 s0 g d259)))))))))))))
set_option maxHeartbeats 4000000 in
set_option maxRecDepth 100000 in
theorem tX12_init_293 {p : Program} {l : Launch} {e : Env} {s : State} {m : MethodId} {args : Array Value} {below : List Frame} {meth : Method} {c : Code} {D : va_G} {cy : Nat → ClassId} {B : Bs} (C : Cx p s m args c cX12_init 1 RX12 D cy B) (hr : meth.sig.returnType = none) (hlocks : meth.locks = false) (hin : meth.name = "<init>") {n0 s0 : Nat} (hz : s.heap.size = B.1 + n0) {N : Nat} {x0 : Nat} {gz : Gs} {dz : Ds} {g : Gs} {d : Ds} (hn : n0 ≤ gN g) (hs : s0 ≤ gS g) (hf : fX12_init_J293 N x0 n0 s0 g d = some (gz, dz)) : WB p l e rmX12_init s m args below meth c 1 D cy B (gN g - n0) (gS g - s0) (MQ below (QV D cy B gz dz) args s 18 52035 (wA B)) g d [(0, .ref (ad B x0))] 293 [] := by
  unfold fX12_init_J293 at hf
  refine b_aload_n C dX12_init_293 0 rfl rfl ?_
  obtain ⟨h226, hf⟩ := gd_s hf
  obtain ⟨r227, er227, hf⟩ := ob_s hf
  refine b_gR C dX12_init_294 fl_X12_34 h226 er227 ?_
  refine b_bipush C (v := 6) dX12_init_297 (by decide) ?_
  refine b_bipush C (v := 116) dX12_init_299 (by decide) ?_
  refine b_bipush C (v := 119) dX12_init_301 (by decide) ?_
  refine b_bipush C (v := 105) dX12_init_303 (by decide) ?_
  refine b_bipush C (v := 99) dX12_init_305 (by decide) ?_
  refine b_bipush C (v := 101) dX12_init_307 (by decide) ?_
  refine b_iconst C (v := 0) dX12_init_309 (by decide) ?_
  refine b_iconst C (v := 0) dX12_init_310 (by decide) ?_
  obtain ⟨h228, hf⟩ := gd_s hf
  obtain ⟨u231, d229, k230, hf⟩ := cb_s hf
  refine b_cSJ C [.int 6, .ref (ad B r227)] dX12_init_311 (kX12_letters l D cy B k230) lv_X12_75 ⟨rfl, rfl, Nat.le_of_ble_eq_true rfl, Nat.le_of_ble_eq_true rfl⟩ rfl (Nat.le_of_ble_eq_true rfl) h228 rfl ?_
  obtain ⟨h232, hf⟩ := gd_s hf
  obtain ⟨h233, hf⟩ := gd_s hf
  obtain ⟨d234, ed234, hf⟩ := bd_s hf
  refine b_last C h232 h233 ed234 dX12_init_314 ?_
  refine b_aload_n C dX12_init_315 0 rfl rfl ?_
  refine b_gR C dX12_init_316 fl_X12_34 h226 er227 ?_
  refine b_bipush C (v := 7) dX12_init_319 (by decide) ?_
  refine b_bipush C (v := 114) dX12_init_321 (by decide) ?_
  refine b_bipush C (v := 101) dX12_init_323 (by decide) ?_
  refine b_bipush C (v := 112) dX12_init_325 (by decide) ?_
  refine b_bipush C (v := 101) dX12_init_327 (by decide) ?_
  refine b_bipush C (v := 97) dX12_init_329 (by decide) ?_
  refine b_bipush C (v := 116) dX12_init_331 (by decide) ?_
  refine b_iconst C (v := 0) dX12_init_333 (by decide) ?_
  obtain ⟨u237, d235, k236, hf⟩ := cb_s hf
  refine b_cSJ C [.int 7, .ref (ad B r227)] dX12_init_334 (kX12_letters l D cy B k236) lv_X12_75 ⟨rfl, rfl, Nat.le_of_ble_eq_true rfl, Nat.le_of_ble_eq_true rfl⟩ rfl (Nat.le_of_ble_eq_true rfl) h228 rfl ?_
  obtain ⟨h238, hf⟩ := gd_s hf
  obtain ⟨d239, ed239, hf⟩ := bd_s hf
  refine b_last C h232 h238 ed239 dX12_init_337 ?_
  refine b_aload_n C dX12_init_338 0 rfl rfl ?_
  refine b_gR C dX12_init_339 fl_X12_34 h226 er227 ?_
  refine b_bipush C (v := 8) dX12_init_342 (by decide) ?_
  refine b_bipush C (v := 107) dX12_init_344 (by decide) ?_
  refine b_bipush C (v := 101) dX12_init_346 (by decide) ?_
  refine b_bipush C (v := 121) dX12_init_348 (by decide) ?_
  refine b_iconst C (v := 0) dX12_init_350 (by decide) ?_
  refine b_iconst C (v := 0) dX12_init_351 (by decide) ?_
  refine b_iconst C (v := 0) dX12_init_352 (by decide) ?_
  refine b_iconst C (v := 0) dX12_init_353 (by decide) ?_
  obtain ⟨u242, d240, k241, hf⟩ := cb_s hf
  refine b_cSJ C [.int 8, .ref (ad B r227)] dX12_init_354 (kX12_letters l D cy B k241) lv_X12_75 ⟨rfl, rfl, Nat.le_of_ble_eq_true rfl, Nat.le_of_ble_eq_true rfl⟩ rfl (Nat.le_of_ble_eq_true rfl) h228 rfl ?_
  obtain ⟨h243, hf⟩ := gd_s hf
  obtain ⟨d244, ed244, hf⟩ := bd_s hf
  refine b_last C h232 h243 ed244 dX12_init_357 ?_
  refine b_aload_n C dX12_init_358 0 rfl rfl ?_
  refine b_gR C dX12_init_359 fl_X12_34 h226 er227 ?_
  refine b_bipush C (v := 9) dX12_init_362 (by decide) ?_
  refine b_bipush C (v := 99) dX12_init_364 (by decide) ?_
  refine b_bipush C (v := 104) dX12_init_366 (by decide) ?_
  refine b_bipush C (v := 111) dX12_init_368 (by decide) ?_
  refine b_bipush C (v := 114) dX12_init_370 (by decide) ?_
  refine b_bipush C (v := 100) dX12_init_372 (by decide) ?_
  refine b_iconst C (v := 0) dX12_init_374 (by decide) ?_
  refine b_iconst C (v := 0) dX12_init_375 (by decide) ?_
  obtain ⟨u247, d245, k246, hf⟩ := cb_s hf
  refine b_cSJ C [.int 9, .ref (ad B r227)] dX12_init_376 (kX12_letters l D cy B k246) lv_X12_75 ⟨rfl, rfl, Nat.le_of_ble_eq_true rfl, Nat.le_of_ble_eq_true rfl⟩ rfl (Nat.le_of_ble_eq_true rfl) h228 rfl ?_
  obtain ⟨h248, hf⟩ := gd_s hf
  obtain ⟨d249, ed249, hf⟩ := bd_s hf
  refine b_last C h232 h248 ed249 dX12_init_379 ?_
  refine b_aload_n C dX12_init_380 0 rfl rfl ?_
  refine b_gR C dX12_init_381 fl_X12_34 h226 er227 ?_
  refine b_bipush C (v := 10) dX12_init_384 (by decide) ?_
  refine b_bipush C (v := 109) dX12_init_386 (by decide) ?_
  refine b_bipush C (v := 97) dX12_init_388 (by decide) ?_
  refine b_bipush C (v := 99) dX12_init_390 (by decide) ?_
  refine b_bipush C (v := 114) dX12_init_392 (by decide) ?_
  refine b_bipush C (v := 111) dX12_init_394 (by decide) ?_
  refine b_iconst C (v := 0) dX12_init_396 (by decide) ?_
  refine b_iconst C (v := 0) dX12_init_397 (by decide) ?_
  obtain ⟨u252, d250, k251, hf⟩ := cb_s hf
  refine b_cSJ C [.int 10, .ref (ad B r227)] dX12_init_398 (kX12_letters l D cy B k251) lv_X12_75 ⟨rfl, rfl, Nat.le_of_ble_eq_true rfl, Nat.le_of_ble_eq_true rfl⟩ rfl (Nat.le_of_ble_eq_true rfl) h228 rfl ?_
  obtain ⟨h253, hf⟩ := gd_s hf
  obtain ⟨d254, ed254, hf⟩ := bd_s hf
  refine b_last C h232 h253 ed254 dX12_init_401 ?_
  refine b_aload_n C dX12_init_402 0 rfl rfl ?_
  refine b_gR C dX12_init_403 fl_X12_34 h226 er227 ?_
  refine b_bipush C (v := 11) dX12_init_406 (by decide) ?_
  refine b_bipush C (v := 99) dX12_init_408 (by decide) ?_
  refine b_bipush C (v := 111) dX12_init_410 (by decide) ?_
  refine b_bipush C (v := 100) dX12_init_412 (by decide) ?_
  refine b_bipush C (v := 101) dX12_init_414 (by decide) ?_
  refine b_iconst C (v := 0) dX12_init_416 (by decide) ?_
  refine b_iconst C (v := 0) dX12_init_417 (by decide) ?_
  refine b_iconst C (v := 0) dX12_init_418 (by decide) ?_
  obtain ⟨u257, d255, k256, hf⟩ := cb_s hf
  refine b_cSJ C [.int 11, .ref (ad B r227)] dX12_init_419 (kX12_letters l D cy B k256) lv_X12_75 ⟨rfl, rfl, Nat.le_of_ble_eq_true rfl, Nat.le_of_ble_eq_true rfl⟩ rfl (Nat.le_of_ble_eq_true rfl) h228 rfl ?_
  obtain ⟨h258, hf⟩ := gd_s hf
  obtain ⟨d259, ed259, hf⟩ := bd_s hf
  refine b_last C h232 h258 ed259 dX12_init_422 ?_
  refine b_sub [(0, .ref (ad B x0))] [0] rfl ?_
  exact tX12_init_423 C hr hlocks hin hz hn hs hf
set_option maxRecDepth 100000 in
def fX12_init_J154 (N : Nat)  (x0 : Nat) (n0 s0 : Nat) (g : Gs) (d : Ds) : Option (Gs × Ds) := gd (¬ (3 : Int32) < 0) <| gd ((3 : Int32).toNatClampNeg ≤ 60000000) <| gd (gN g < 100000) <| gd (gN g + 1 - n0 ≤ 18 ∧ gS g + (3 : Int32).toNatClampNeg - s0 ≤ 52035) <| bd (nG g 104 (3 : Int32).toNatClampNeg (3 : Int32).toNatClampNeg) fun g182 => (bd (nD g d) fun d183 => (bd (gN g) fun r184 => (gd (chk g182 x0 11) <| bd (sR g182 x0 32 r184) fun g187 => (gd (chk g187 x0 11) <| ob (gR g187 x0 9) fun r190 => (gd (gN g187 - n0 ≤ 18 ∧ gS g187 - s0 ≤ 52035) <| cb (fX12_letters N g187 98 111 97 114 100 0 0 d183) fun u194 d192 => (gd (chk g187 r190 103) <| gd (¬ ((0 : Int32) < 0 ∨ gL g187 r190 ≤ (0 : Int32).toNatClampNeg)) <| bd (sL d192 r190 (0 : Int32).toNatClampNeg u194) fun d197 => (cb (fX12_letters N g187 100 105 111 100 101 115 0 d197) fun u200 d198 => (gd (¬ ((1 : Int32) < 0 ∨ gL g187 r190 ≤ (1 : Int32).toNatClampNeg)) <| bd (sL d198 r190 (1 : Int32).toNatClampNeg u200) fun d202 => (cb (fX12_letters N g187 115 105 120 0 0 0 0 d202) fun u205 d203 => (gd (¬ ((2 : Int32) < 0 ∨ gL g187 r190 ≤ (2 : Int32).toNatClampNeg)) <| bd (sL d203 r190 (2 : Int32).toNatClampNeg u205) fun d207 => (cb (fX12_letters N g187 98 111 117 110 99 101 0 d207) fun u210 d208 => (gd (¬ ((3 : Int32) < 0 ∨ gL g187 r190 ≤ (3 : Int32).toNatClampNeg)) <| bd (sL d208 r190 (3 : Int32).toNatClampNeg u210) fun d212 => (cb (fX12_letters N g187 116 101 114 109 0 0 0 d212) fun u215 d213 => (gd (¬ ((4 : Int32) < 0 ∨ gL g187 r190 ≤ (4 : Int32).toNatClampNeg)) <| bd (sL d213 r190 (4 : Int32).toNatClampNeg u215) fun d217 => (cb (fX12_letters N g187 99 104 111 114 100 105 110 d217) fun u220 d218 => (cb (fX12_appends N g187 u220 103 d218) fun u223 d221 => (gd (¬ ((5 : Int32) < 0 ∨ gL g187 r190 ≤ (5 : Int32).toNatClampNeg)) <| bd (sL d221 r190 (5 : Int32).toNatClampNeg u223) fun d225 => (fX12_init_J293 N x0 n0 s0 g187 d225))))))))))))))))))
set_option maxHeartbeats 4000000 in
set_option maxRecDepth 100000 in
theorem tX12_init_154 {p : Program} {l : Launch} {e : Env} {s : State} {m : MethodId} {args : Array Value} {below : List Frame} {meth : Method} {c : Code} {D : va_G} {cy : Nat → ClassId} {B : Bs} (C : Cx p s m args c cX12_init 1 RX12 D cy B) (hr : meth.sig.returnType = none) (hlocks : meth.locks = false) (hin : meth.name = "<init>") {n0 s0 : Nat} (hz : s.heap.size = B.1 + n0) {N : Nat} {x0 : Nat} {gz : Gs} {dz : Ds} {g : Gs} {d : Ds} (hn : n0 ≤ gN g) (hs : s0 ≤ gS g) (hf : fX12_init_J154 N x0 n0 s0 g d = some (gz, dz)) : WB p l e rmX12_init s m args below meth c 1 D cy B (gN g - n0) (gS g - s0) (MQ below (QV D cy B gz dz) args s 18 52035 (wA B)) g d [(0, .ref (ad B x0))] 154 [] := by
  unfold fX12_init_J154 at hf
  refine b_aload_n C dX12_init_154 0 rfl rfl ?_
  refine b_iconst C (v := 3) dX12_init_155 (by decide) ?_
  obtain ⟨h178, hf⟩ := gd_s hf
  obtain ⟨h179, hf⟩ := gd_s hf
  obtain ⟨h180, hf⟩ := gd_s hf
  obtain ⟨h181, hf⟩ := gd_s hf
  obtain ⟨g182, eg182, hf⟩ := bd_s hf
  obtain ⟨d183, ed183, hf⟩ := bd_s hf
  obtain ⟨r184, er184, hf⟩ := bd_s hf
  refine b_newaZ C dX12_init_156 ar_boolean hz hn hs h180 h178 h179 h181 eg182 ed183 (fun hn185 hn185s => ?_)
  refine b_topR er184 ?_
  obtain ⟨h186, hf⟩ := gd_s hf
  obtain ⟨g187, eg187, hf⟩ := bd_s hf
  refine b_pRC C dX12_init_158 fq_X12_71 fr11_32 hin h186 eg187 ?_
  have hn188 : n0 ≤ gN g187 := by rw [eg187]; exact hn185
  have hn188s : s0 ≤ gS g187 := by rw [eg187]; exact hn185s
  refine b_aload_n C dX12_init_161 0 rfl rfl ?_
  obtain ⟨h189, hf⟩ := gd_s hf
  obtain ⟨r190, er190, hf⟩ := ob_s hf
  refine b_gR C dX12_init_162 fl_X12_34 h189 er190 ?_
  refine b_iconst C (v := 0) dX12_init_165 (by decide) ?_
  refine b_bipush C (v := 98) dX12_init_166 (by decide) ?_
  refine b_bipush C (v := 111) dX12_init_168 (by decide) ?_
  refine b_bipush C (v := 97) dX12_init_170 (by decide) ?_
  refine b_bipush C (v := 114) dX12_init_172 (by decide) ?_
  refine b_bipush C (v := 100) dX12_init_174 (by decide) ?_
  refine b_iconst C (v := 0) dX12_init_176 (by decide) ?_
  refine b_iconst C (v := 0) dX12_init_177 (by decide) ?_
  obtain ⟨h191, hf⟩ := gd_s hf
  obtain ⟨u194, d192, k193, hf⟩ := cb_s hf
  refine b_cSJ C [.int 0, .ref (ad B r190)] dX12_init_178 (kX12_letters l D cy B k193) lv_X12_75 ⟨rfl, rfl, Nat.le_of_ble_eq_true rfl, Nat.le_of_ble_eq_true rfl⟩ rfl (Nat.le_of_ble_eq_true rfl) h191 rfl ?_
  obtain ⟨h195, hf⟩ := gd_s hf
  obtain ⟨h196, hf⟩ := gd_s hf
  obtain ⟨d197, ed197, hf⟩ := bd_s hf
  refine b_last C h195 h196 ed197 dX12_init_181 ?_
  refine b_aload_n C dX12_init_182 0 rfl rfl ?_
  refine b_gR C dX12_init_183 fl_X12_34 h189 er190 ?_
  refine b_iconst C (v := 1) dX12_init_186 (by decide) ?_
  refine b_bipush C (v := 100) dX12_init_187 (by decide) ?_
  refine b_bipush C (v := 105) dX12_init_189 (by decide) ?_
  refine b_bipush C (v := 111) dX12_init_191 (by decide) ?_
  refine b_bipush C (v := 100) dX12_init_193 (by decide) ?_
  refine b_bipush C (v := 101) dX12_init_195 (by decide) ?_
  refine b_bipush C (v := 115) dX12_init_197 (by decide) ?_
  refine b_iconst C (v := 0) dX12_init_199 (by decide) ?_
  obtain ⟨u200, d198, k199, hf⟩ := cb_s hf
  refine b_cSJ C [.int 1, .ref (ad B r190)] dX12_init_200 (kX12_letters l D cy B k199) lv_X12_75 ⟨rfl, rfl, Nat.le_of_ble_eq_true rfl, Nat.le_of_ble_eq_true rfl⟩ rfl (Nat.le_of_ble_eq_true rfl) h191 rfl ?_
  obtain ⟨h201, hf⟩ := gd_s hf
  obtain ⟨d202, ed202, hf⟩ := bd_s hf
  refine b_last C h195 h201 ed202 dX12_init_203 ?_
  refine b_aload_n C dX12_init_204 0 rfl rfl ?_
  refine b_gR C dX12_init_205 fl_X12_34 h189 er190 ?_
  refine b_iconst C (v := 2) dX12_init_208 (by decide) ?_
  refine b_bipush C (v := 115) dX12_init_209 (by decide) ?_
  refine b_bipush C (v := 105) dX12_init_211 (by decide) ?_
  refine b_bipush C (v := 120) dX12_init_213 (by decide) ?_
  refine b_iconst C (v := 0) dX12_init_215 (by decide) ?_
  refine b_iconst C (v := 0) dX12_init_216 (by decide) ?_
  refine b_iconst C (v := 0) dX12_init_217 (by decide) ?_
  refine b_iconst C (v := 0) dX12_init_218 (by decide) ?_
  obtain ⟨u205, d203, k204, hf⟩ := cb_s hf
  refine b_cSJ C [.int 2, .ref (ad B r190)] dX12_init_219 (kX12_letters l D cy B k204) lv_X12_75 ⟨rfl, rfl, Nat.le_of_ble_eq_true rfl, Nat.le_of_ble_eq_true rfl⟩ rfl (Nat.le_of_ble_eq_true rfl) h191 rfl ?_
  obtain ⟨h206, hf⟩ := gd_s hf
  obtain ⟨d207, ed207, hf⟩ := bd_s hf
  refine b_last C h195 h206 ed207 dX12_init_222 ?_
  refine b_aload_n C dX12_init_223 0 rfl rfl ?_
  refine b_gR C dX12_init_224 fl_X12_34 h189 er190 ?_
  refine b_iconst C (v := 3) dX12_init_227 (by decide) ?_
  refine b_bipush C (v := 98) dX12_init_228 (by decide) ?_
  refine b_bipush C (v := 111) dX12_init_230 (by decide) ?_
  refine b_bipush C (v := 117) dX12_init_232 (by decide) ?_
  refine b_bipush C (v := 110) dX12_init_234 (by decide) ?_
  refine b_bipush C (v := 99) dX12_init_236 (by decide) ?_
  refine b_bipush C (v := 101) dX12_init_238 (by decide) ?_
  refine b_iconst C (v := 0) dX12_init_240 (by decide) ?_
  obtain ⟨u210, d208, k209, hf⟩ := cb_s hf
  refine b_cSJ C [.int 3, .ref (ad B r190)] dX12_init_241 (kX12_letters l D cy B k209) lv_X12_75 ⟨rfl, rfl, Nat.le_of_ble_eq_true rfl, Nat.le_of_ble_eq_true rfl⟩ rfl (Nat.le_of_ble_eq_true rfl) h191 rfl ?_
  obtain ⟨h211, hf⟩ := gd_s hf
  obtain ⟨d212, ed212, hf⟩ := bd_s hf
  refine b_last C h195 h211 ed212 dX12_init_244 ?_
  refine b_aload_n C dX12_init_245 0 rfl rfl ?_
  refine b_gR C dX12_init_246 fl_X12_34 h189 er190 ?_
  refine b_iconst C (v := 4) dX12_init_249 (by decide) ?_
  refine b_bipush C (v := 116) dX12_init_250 (by decide) ?_
  refine b_bipush C (v := 101) dX12_init_252 (by decide) ?_
  refine b_bipush C (v := 114) dX12_init_254 (by decide) ?_
  refine b_bipush C (v := 109) dX12_init_256 (by decide) ?_
  refine b_iconst C (v := 0) dX12_init_258 (by decide) ?_
  refine b_iconst C (v := 0) dX12_init_259 (by decide) ?_
  refine b_iconst C (v := 0) dX12_init_260 (by decide) ?_
  obtain ⟨u215, d213, k214, hf⟩ := cb_s hf
  refine b_cSJ C [.int 4, .ref (ad B r190)] dX12_init_261 (kX12_letters l D cy B k214) lv_X12_75 ⟨rfl, rfl, Nat.le_of_ble_eq_true rfl, Nat.le_of_ble_eq_true rfl⟩ rfl (Nat.le_of_ble_eq_true rfl) h191 rfl ?_
  obtain ⟨h216, hf⟩ := gd_s hf
  obtain ⟨d217, ed217, hf⟩ := bd_s hf
  refine b_last C h195 h216 ed217 dX12_init_264 ?_
  refine b_aload_n C dX12_init_265 0 rfl rfl ?_
  refine b_gR C dX12_init_266 fl_X12_34 h189 er190 ?_
  refine b_iconst C (v := 5) dX12_init_269 (by decide) ?_
  refine b_bipush C (v := 99) dX12_init_270 (by decide) ?_
  refine b_bipush C (v := 104) dX12_init_272 (by decide) ?_
  refine b_bipush C (v := 111) dX12_init_274 (by decide) ?_
  refine b_bipush C (v := 114) dX12_init_276 (by decide) ?_
  refine b_bipush C (v := 100) dX12_init_278 (by decide) ?_
  refine b_bipush C (v := 105) dX12_init_280 (by decide) ?_
  refine b_bipush C (v := 110) dX12_init_282 (by decide) ?_
  obtain ⟨u220, d218, k219, hf⟩ := cb_s hf
  refine b_cSJ C [.int 5, .ref (ad B r190)] dX12_init_284 (kX12_letters l D cy B k219) lv_X12_75 ⟨rfl, rfl, Nat.le_of_ble_eq_true rfl, Nat.le_of_ble_eq_true rfl⟩ rfl (Nat.le_of_ble_eq_true rfl) h191 rfl ?_
  refine b_bipush C (v := 103) dX12_init_287 (by decide) ?_
  obtain ⟨u223, d221, k222, hf⟩ := cb_s hf
  refine b_cSJ C [.int 5, .ref (ad B r190)] dX12_init_289 (kX12_appends l D cy B k222) lv_X12_79 ⟨rfl, rfl, Nat.le_of_ble_eq_true rfl, Nat.le_of_ble_eq_true rfl⟩ rfl (Nat.le_of_ble_eq_true rfl) h191 rfl ?_
  obtain ⟨h224, hf⟩ := gd_s hf
  obtain ⟨d225, ed225, hf⟩ := bd_s hf
  refine b_last C h195 h224 ed225 dX12_init_292 ?_
  refine b_sub [(0, .ref (ad B x0))] [0] rfl ?_
  exact tX12_init_293 C hr hlocks hin hz hn188 hn188s hf
set_option maxRecDepth 100000 in
def fX12_init_E (N : Nat) (x0 : Nat) (n0 s0 : Nat) (g : Gs) (d : Ds) : Option (Gs × Ds) := gd (¬ (2000 : Int32) < 0) <| gd ((2000 : Int32).toNatClampNeg ≤ 60000000) <| gd (gN g < 100000) <| gd (gN g + 1 - n0 ≤ 18 ∧ gS g + (2000 : Int32).toNatClampNeg - s0 ≤ 52035) <| bd (nG g 100 (2000 : Int32).toNatClampNeg (2000 : Int32).toNatClampNeg) fun g5 => (bd (nD g d) fun d6 => (bd (gN g) fun r7 => (gd (chk g5 x0 11) <| bd (sR g5 x0 1 r7) fun g10 => (gd (gN g10 < 100000) <| gd (gN g10 + 1 - n0 ≤ 18 ∧ gS g10 + (2000 : Int32).toNatClampNeg - s0 ≤ 52035) <| bd (nG g10 100 (2000 : Int32).toNatClampNeg (2000 : Int32).toNatClampNeg) fun g14 => (bd (nD g10 d6) fun d15 => (bd (gN g10) fun r16 => (gd (chk g14 x0 11) <| bd (sR g14 x0 3 r16) fun g19 => (gd (¬ (403 : Int32) < 0) <| gd ((403 : Int32).toNatClampNeg ≤ 60000000) <| gd (gN g19 < 100000) <| gd (gN g19 + 1 - n0 ≤ 18 ∧ gS g19 + (403 : Int32).toNatClampNeg - s0 ≤ 52035) <| bd (nG g19 102 (403 : Int32).toNatClampNeg (403 : Int32).toNatClampNeg) fun g25 => (bd (nD g19 d15) fun d26 => (bd (gN g19) fun r27 => (gd (chk g25 x0 11) <| bd (sR g25 x0 5 r27) fun g30 => (gd (gN g30 < 100000) <| gd (gN g30 + 1 - n0 ≤ 18 ∧ gS g30 + (403 : Int32).toNatClampNeg - s0 ≤ 52035) <| bd (nG g30 102 (403 : Int32).toNatClampNeg (403 : Int32).toNatClampNeg) fun g34 => (bd (nD g30 d26) fun d35 => (bd (gN g30) fun r36 => (gd (chk g34 x0 11) <| bd (sR g34 x0 6 r36) fun g39 => (gd (gN g39 < 100000) <| gd (gN g39 + 1 - n0 ≤ 18 ∧ gS g39 + (403 : Int32).toNatClampNeg - s0 ≤ 52035) <| bd (nG g39 102 (403 : Int32).toNatClampNeg (403 : Int32).toNatClampNeg) fun g43 => (bd (nD g39 d35) fun d44 => (bd (gN g39) fun r45 => (gd (chk g43 x0 11) <| bd (sR g43 x0 7 r45) fun g48 => (gd (gN g48 < 100000) <| gd (gN g48 + 1 - n0 ≤ 18 ∧ gS g48 + (403 : Int32).toNatClampNeg - s0 ≤ 52035) <| bd (nG g48 103 (403 : Int32).toNatClampNeg (403 : Int32).toNatClampNeg) fun g52 => (bd (nD g48 d44) fun d53 => (bd (gN g48) fun r54 => (gd (chk g52 x0 11) <| bd (sR g52 x0 8 r54) fun g57 => (gd (¬ (20 : Int32) < 0) <| gd ((20 : Int32).toNatClampNeg ≤ 60000000) <| gd (gN g57 < 100000) <| gd (gN g57 + 1 - n0 ≤ 18 ∧ gS g57 + (20 : Int32).toNatClampNeg - s0 ≤ 52035) <| bd (nG g57 103 (20 : Int32).toNatClampNeg (20 : Int32).toNatClampNeg) fun g63 => (bd (nD g57 d53) fun d64 => (bd (gN g57) fun r65 => (gd (chk g63 x0 11) <| bd (sR g63 x0 9 r65) fun g68 => (gd (chk g68 x0 11) <| bd (sI d64 x0 16 (-1)) fun d71 => (gd (¬ (9178 : Int32) < 0) <| gd ((9178 : Int32).toNatClampNeg ≤ 60000000) <| gd (gN g68 < 100000) <| gd (gN g68 + 1 - n0 ≤ 18 ∧ gS g68 + (9178 : Int32).toNatClampNeg - s0 ≤ 52035) <| bd (nG g68 102 (9178 : Int32).toNatClampNeg (9178 : Int32).toNatClampNeg) fun g76 => (bd (nD g68 d71) fun d77 => (bd (gN g68) fun r78 => (gd (chk g76 x0 11) <| bd (sR g76 x0 17 r78) fun g81 => (gd (¬ (352 : Int32) < 0) <| gd ((352 : Int32).toNatClampNeg ≤ 60000000) <| gd (gN g81 < 100000) <| gd (gN g81 + 1 - n0 ≤ 18 ∧ gS g81 + (352 : Int32).toNatClampNeg - s0 ≤ 52035) <| bd (nG g81 102 (352 : Int32).toNatClampNeg (352 : Int32).toNatClampNeg) fun g87 => (bd (nD g81 d77) fun d88 => (bd (gN g81) fun r89 => (gd (chk g87 x0 11) <| bd (sR g87 x0 18 r89) fun g92 => (gd (¬ (24 : Int32) < 0) <| gd ((24 : Int32).toNatClampNeg ≤ 60000000) <| gd (gN g92 < 100000) <| gd (gN g92 + 1 - n0 ≤ 18 ∧ gS g92 + (24 : Int32).toNatClampNeg - s0 ≤ 52035) <| bd (nG g92 101 (24 : Int32).toNatClampNeg (24 : Int32).toNatClampNeg) fun g98 => (bd (nD g92 d88) fun d99 => (bd (gN g92) fun r100 => (gd (chk g98 x0 11) <| bd (sR g98 x0 19 r100) fun g103 => (gd (¬ (3 : Int32) < 0) <| gd ((3 : Int32).toNatClampNeg ≤ 60000000) <| gd (gN g103 < 100000) <| gd (gN g103 + 1 - n0 ≤ 18 ∧ gS g103 + (3 : Int32).toNatClampNeg - s0 ≤ 52035) <| bd (nG g103 102 (3 : Int32).toNatClampNeg (3 : Int32).toNatClampNeg) fun g109 => (bd (nD g103 d99) fun d110 => (bd (gN g103) fun r111 => (gd (chk g109 x0 11) <| bd (sR g109 x0 23 r111) fun g114 => (gd (¬ (10 : Int32) < 0) <| gd ((10 : Int32).toNatClampNeg ≤ 60000000) <| gd (gN g114 < 100000) <| gd (gN g114 + 1 - n0 ≤ 18 ∧ gS g114 + (10 : Int32).toNatClampNeg - s0 ≤ 52035) <| bd (nG g114 102 (10 : Int32).toNatClampNeg (10 : Int32).toNatClampNeg) fun g120 => (bd (nD g114 d110) fun d121 => (bd (gN g114) fun r122 => (gd (chk g120 x0 11) <| bd (sR g120 x0 24 r122) fun g125 => (gd (¬ (25 : Int32) < 0) <| gd ((25 : Int32).toNatClampNeg ≤ 60000000) <| gd (gN g125 < 100000) <| gd (gN g125 + 1 - n0 ≤ 18 ∧ gS g125 + (25 : Int32).toNatClampNeg - s0 ≤ 52035) <| bd (nG g125 102 (25 : Int32).toNatClampNeg (25 : Int32).toNatClampNeg) fun g131 => (bd (nD g125 d121) fun d132 => (bd (gN g125) fun r133 => (gd (chk g131 x0 11) <| bd (sR g131 x0 27 r133) fun g136 => (gd (gN g136 < 100000) <| gd (gN g136 + 1 - n0 ≤ 18 ∧ gS g136 + (9178 : Int32).toNatClampNeg - s0 ≤ 52035) <| bd (nG g136 102 (9178 : Int32).toNatClampNeg (9178 : Int32).toNatClampNeg) fun g140 => (bd (nD g136 d132) fun d141 => (bd (gN g136) fun r142 => (gd (chk g140 x0 11) <| bd (sR g140 x0 28 r142) fun g145 => (gd (gN g145 < 100000) <| gd (gN g145 + 1 - n0 ≤ 18 ∧ gS g145 + (24 : Int32).toNatClampNeg - s0 ≤ 52035) <| bd (nG g145 101 (24 : Int32).toNatClampNeg (24 : Int32).toNatClampNeg) fun g149 => (bd (nD g145 d141) fun d150 => (bd (gN g145) fun r151 => (gd (chk g149 x0 11) <| bd (sR g149 x0 29 r151) fun g154 => (gd (¬ (27534 : Int32) < 0) <| gd ((27534 : Int32).toNatClampNeg ≤ 60000000) <| gd (gN g154 < 100000) <| gd (gN g154 + 1 - n0 ≤ 18 ∧ gS g154 + (27534 : Int32).toNatClampNeg - s0 ≤ 52035) <| bd (nG g154 102 (27534 : Int32).toNatClampNeg (27534 : Int32).toNatClampNeg) fun g160 => (bd (nD g154 d150) fun d161 => (bd (gN g154) fun r162 => (gd (chk g160 x0 11) <| bd (sR g160 x0 30 r162) fun g165 => (gd (¬ (72 : Int32) < 0) <| gd ((72 : Int32).toNatClampNeg ≤ 60000000) <| gd (gN g165 < 100000) <| gd (gN g165 + 1 - n0 ≤ 18 ∧ gS g165 + (72 : Int32).toNatClampNeg - s0 ≤ 52035) <| bd (nG g165 101 (72 : Int32).toNatClampNeg (72 : Int32).toNatClampNeg) fun g171 => (bd (nD g165 d161) fun d172 => (bd (gN g165) fun r173 => (gd (chk g171 x0 11) <| bd (sR g171 x0 31 r173) fun g176 => (fX12_init_J154 N x0 n0 s0 g176 d172)))))))))))))))))))))))))))))))))))))))))))))))))))))))))))))))))))))
def fX12_init (N : Nat) (x0 : Nat) (g : Gs) (d : Ds) : Option (Gs × Ds) := fX12_init_E N x0 (gN g) (gS g) g d
set_option maxHeartbeats 4000000 in
set_option maxRecDepth 100000 in
theorem tX12_init_E {p : Program} {l : Launch} {e : Env} {s : State} {m : MethodId} {args : Array Value} {below : List Frame} {meth : Method} {c : Code} {D : va_G} {cy : Nat → ClassId} {B : Bs} (C : Cx p s m args c cX12_init 1 RX12 D cy B) (hr : meth.sig.returnType = none) (hlocks : meth.locks = false) (hin : meth.name = "<init>") {n0 s0 : Nat} (hz : s.heap.size = B.1 + n0) {N : Nat} {x0 : Nat} {gz : Gs} {dz : Ds} {g : Gs} {d : Ds} (hn : n0 ≤ gN g) (hs : s0 ≤ gS g) (hf : fX12_init_E N x0 n0 s0 g d = some (gz, dz)) : WB p l e rmX12_init s m args below meth c 1 D cy B (gN g - n0) (gS g - s0) (MQ below (QV D cy B gz dz) args s 18 52035 (wA B)) g d [(0, .ref (ad B x0))] 0 [] := by
  unfold fX12_init_E at hf
  refine b_aload_n C dX12_init_0 0 rfl rfl ?_
  refine b_objInit C oi_X12_7 oi_i oi_c (by decide) (by decide) dX12_init_1 ?_
  refine b_aload_n C dX12_init_4 0 rfl rfl ?_
  refine b_sipush C (v := 2000) dX12_init_5 (by decide) ?_
  obtain ⟨h1, hf⟩ := gd_s hf
  obtain ⟨h2, hf⟩ := gd_s hf
  obtain ⟨h3, hf⟩ := gd_s hf
  obtain ⟨h4, hf⟩ := gd_s hf
  obtain ⟨g5, eg5, hf⟩ := bd_s hf
  obtain ⟨d6, ed6, hf⟩ := bd_s hf
  obtain ⟨r7, er7, hf⟩ := bd_s hf
  refine b_newaB C dX12_init_8 ar_byte hz hn hs h3 h1 h2 h4 eg5 ed6 (fun hn8 hn8s => ?_)
  refine b_topR er7 ?_
  obtain ⟨h9, hf⟩ := gd_s hf
  obtain ⟨g10, eg10, hf⟩ := bd_s hf
  refine b_pRC C dX12_init_10 fq_X12_13 fr11_1 hin h9 eg10 ?_
  have hn11 : n0 ≤ gN g10 := by rw [eg10]; exact hn8
  have hn11s : s0 ≤ gS g10 := by rw [eg10]; exact hn8s
  refine b_aload_n C dX12_init_13 0 rfl rfl ?_
  refine b_sipush C (v := 2000) dX12_init_14 (by decide) ?_
  obtain ⟨h12, hf⟩ := gd_s hf
  obtain ⟨h13, hf⟩ := gd_s hf
  obtain ⟨g14, eg14, hf⟩ := bd_s hf
  obtain ⟨d15, ed15, hf⟩ := bd_s hf
  obtain ⟨r16, er16, hf⟩ := bd_s hf
  refine b_newaB C dX12_init_17 ar_byte hz hn11 hn11s h12 h1 h2 h13 eg14 ed15 (fun hn17 hn17s => ?_)
  refine b_topR er16 ?_
  obtain ⟨h18, hf⟩ := gd_s hf
  obtain ⟨g19, eg19, hf⟩ := bd_s hf
  refine b_pRC C dX12_init_19 fq_X12_17 fr11_3 hin h18 eg19 ?_
  have hn20 : n0 ≤ gN g19 := by rw [eg19]; exact hn17
  have hn20s : s0 ≤ gS g19 := by rw [eg19]; exact hn17s
  refine b_aload_n C dX12_init_22 0 rfl rfl ?_
  refine b_sipush C (v := 403) dX12_init_23 (by decide) ?_
  obtain ⟨h21, hf⟩ := gd_s hf
  obtain ⟨h22, hf⟩ := gd_s hf
  obtain ⟨h23, hf⟩ := gd_s hf
  obtain ⟨h24, hf⟩ := gd_s hf
  obtain ⟨g25, eg25, hf⟩ := bd_s hf
  obtain ⟨d26, ed26, hf⟩ := bd_s hf
  obtain ⟨r27, er27, hf⟩ := bd_s hf
  refine b_newaI C dX12_init_26 ar_int hz hn20 hn20s h23 h21 h22 h24 eg25 ed26 (fun hn28 hn28s => ?_)
  refine b_topR er27 ?_
  obtain ⟨h29, hf⟩ := gd_s hf
  obtain ⟨g30, eg30, hf⟩ := bd_s hf
  refine b_pRC C dX12_init_28 fq_X12_20 fr11_5 hin h29 eg30 ?_
  have hn31 : n0 ≤ gN g30 := by rw [eg30]; exact hn28
  have hn31s : s0 ≤ gS g30 := by rw [eg30]; exact hn28s
  refine b_aload_n C dX12_init_31 0 rfl rfl ?_
  refine b_sipush C (v := 403) dX12_init_32 (by decide) ?_
  obtain ⟨h32, hf⟩ := gd_s hf
  obtain ⟨h33, hf⟩ := gd_s hf
  obtain ⟨g34, eg34, hf⟩ := bd_s hf
  obtain ⟨d35, ed35, hf⟩ := bd_s hf
  obtain ⟨r36, er36, hf⟩ := bd_s hf
  refine b_newaI C dX12_init_35 ar_int hz hn31 hn31s h32 h21 h22 h33 eg34 ed35 (fun hn37 hn37s => ?_)
  refine b_topR er36 ?_
  obtain ⟨h38, hf⟩ := gd_s hf
  obtain ⟨g39, eg39, hf⟩ := bd_s hf
  refine b_pRC C dX12_init_37 fq_X12_24 fr11_6 hin h38 eg39 ?_
  have hn40 : n0 ≤ gN g39 := by rw [eg39]; exact hn37
  have hn40s : s0 ≤ gS g39 := by rw [eg39]; exact hn37s
  refine b_aload_n C dX12_init_40 0 rfl rfl ?_
  refine b_sipush C (v := 403) dX12_init_41 (by decide) ?_
  obtain ⟨h41, hf⟩ := gd_s hf
  obtain ⟨h42, hf⟩ := gd_s hf
  obtain ⟨g43, eg43, hf⟩ := bd_s hf
  obtain ⟨d44, ed44, hf⟩ := bd_s hf
  obtain ⟨r45, er45, hf⟩ := bd_s hf
  refine b_newaI C dX12_init_44 ar_int hz hn40 hn40s h41 h21 h22 h42 eg43 ed44 (fun hn46 hn46s => ?_)
  refine b_topR er45 ?_
  obtain ⟨h47, hf⟩ := gd_s hf
  obtain ⟨g48, eg48, hf⟩ := bd_s hf
  refine b_pRC C dX12_init_46 fq_X12_27 fr11_7 hin h47 eg48 ?_
  have hn49 : n0 ≤ gN g48 := by rw [eg48]; exact hn46
  have hn49s : s0 ≤ gS g48 := by rw [eg48]; exact hn46s
  refine b_aload_n C dX12_init_49 0 rfl rfl ?_
  refine b_sipush C (v := 403) dX12_init_50 (by decide) ?_
  obtain ⟨h50, hf⟩ := gd_s hf
  obtain ⟨h51, hf⟩ := gd_s hf
  obtain ⟨g52, eg52, hf⟩ := bd_s hf
  obtain ⟨d53, ed53, hf⟩ := bd_s hf
  obtain ⟨r54, er54, hf⟩ := bd_s hf
  refine b_newaJ C dX12_init_53 ar_long hz hn49 hn49s h50 h21 h22 h51 eg52 ed53 (fun hn55 hn55s => ?_)
  refine b_topR er54 ?_
  obtain ⟨h56, hf⟩ := gd_s hf
  obtain ⟨g57, eg57, hf⟩ := bd_s hf
  refine b_pRC C dX12_init_55 fq_X12_30 fr11_8 hin h56 eg57 ?_
  have hn58 : n0 ≤ gN g57 := by rw [eg57]; exact hn55
  have hn58s : s0 ≤ gS g57 := by rw [eg57]; exact hn55s
  refine b_aload_n C dX12_init_58 0 rfl rfl ?_
  refine b_bipush C (v := 20) dX12_init_59 (by decide) ?_
  obtain ⟨h59, hf⟩ := gd_s hf
  obtain ⟨h60, hf⟩ := gd_s hf
  obtain ⟨h61, hf⟩ := gd_s hf
  obtain ⟨h62, hf⟩ := gd_s hf
  obtain ⟨g63, eg63, hf⟩ := bd_s hf
  obtain ⟨d64, ed64, hf⟩ := bd_s hf
  obtain ⟨r65, er65, hf⟩ := bd_s hf
  refine b_newaJ C dX12_init_61 ar_long hz hn58 hn58s h61 h59 h60 h62 eg63 ed64 (fun hn66 hn66s => ?_)
  refine b_topR er65 ?_
  obtain ⟨h67, hf⟩ := gd_s hf
  obtain ⟨g68, eg68, hf⟩ := bd_s hf
  refine b_pRC C dX12_init_63 fq_X12_34 fr11_9 hin h67 eg68 ?_
  have hn69 : n0 ≤ gN g68 := by rw [eg68]; exact hn66
  have hn69s : s0 ≤ gS g68 := by rw [eg68]; exact hn66s
  refine b_aload_n C dX12_init_66 0 rfl rfl ?_
  refine b_iconst C (v := (-1)) dX12_init_67 (by decide) ?_
  obtain ⟨h70, hf⟩ := gd_s hf
  obtain ⟨d71, ed71, hf⟩ := bd_s hf
  refine b_pI C dX12_init_68 fl_X12_37 fp11_16 h70 ed71 ?_
  refine b_aload_n C dX12_init_71 0 rfl rfl ?_
  refine b_sipush C (v := 9178) dX12_init_72 (by decide) ?_
  obtain ⟨h72, hf⟩ := gd_s hf
  obtain ⟨h73, hf⟩ := gd_s hf
  obtain ⟨h74, hf⟩ := gd_s hf
  obtain ⟨h75, hf⟩ := gd_s hf
  obtain ⟨g76, eg76, hf⟩ := bd_s hf
  obtain ⟨d77, ed77, hf⟩ := bd_s hf
  obtain ⟨r78, er78, hf⟩ := bd_s hf
  refine b_newaI C dX12_init_75 ar_int hz hn69 hn69s h74 h72 h73 h75 eg76 ed77 (fun hn79 hn79s => ?_)
  refine b_topR er78 ?_
  obtain ⟨h80, hf⟩ := gd_s hf
  obtain ⟨g81, eg81, hf⟩ := bd_s hf
  refine b_pRC C dX12_init_77 fq_X12_40 fr11_17 hin h80 eg81 ?_
  have hn82 : n0 ≤ gN g81 := by rw [eg81]; exact hn79
  have hn82s : s0 ≤ gS g81 := by rw [eg81]; exact hn79s
  refine b_aload_n C dX12_init_80 0 rfl rfl ?_
  refine b_sipush C (v := 352) dX12_init_81 (by decide) ?_
  obtain ⟨h83, hf⟩ := gd_s hf
  obtain ⟨h84, hf⟩ := gd_s hf
  obtain ⟨h85, hf⟩ := gd_s hf
  obtain ⟨h86, hf⟩ := gd_s hf
  obtain ⟨g87, eg87, hf⟩ := bd_s hf
  obtain ⟨d88, ed88, hf⟩ := bd_s hf
  obtain ⟨r89, er89, hf⟩ := bd_s hf
  refine b_newaI C dX12_init_84 ar_int hz hn82 hn82s h85 h83 h84 h86 eg87 ed88 (fun hn90 hn90s => ?_)
  refine b_topR er89 ?_
  obtain ⟨h91, hf⟩ := gd_s hf
  obtain ⟨g92, eg92, hf⟩ := bd_s hf
  refine b_pRC C dX12_init_86 fq_X12_43 fr11_18 hin h91 eg92 ?_
  have hn93 : n0 ≤ gN g92 := by rw [eg92]; exact hn90
  have hn93s : s0 ≤ gS g92 := by rw [eg92]; exact hn90s
  refine b_aload_n C dX12_init_89 0 rfl rfl ?_
  refine b_bipush C (v := 24) dX12_init_90 (by decide) ?_
  obtain ⟨h94, hf⟩ := gd_s hf
  obtain ⟨h95, hf⟩ := gd_s hf
  obtain ⟨h96, hf⟩ := gd_s hf
  obtain ⟨h97, hf⟩ := gd_s hf
  obtain ⟨g98, eg98, hf⟩ := bd_s hf
  obtain ⟨d99, ed99, hf⟩ := bd_s hf
  obtain ⟨r100, er100, hf⟩ := bd_s hf
  refine b_newaF C dX12_init_92 ar_float hz hn93 hn93s h96 h94 h95 h97 eg98 ed99 (fun hn101 hn101s => ?_)
  refine b_topR er100 ?_
  obtain ⟨h102, hf⟩ := gd_s hf
  obtain ⟨g103, eg103, hf⟩ := bd_s hf
  refine b_pRC C dX12_init_94 fq_X12_46 fr11_19 hin h102 eg103 ?_
  have hn104 : n0 ≤ gN g103 := by rw [eg103]; exact hn101
  have hn104s : s0 ≤ gS g103 := by rw [eg103]; exact hn101s
  refine b_aload_n C dX12_init_97 0 rfl rfl ?_
  refine b_iconst C (v := 3) dX12_init_98 (by decide) ?_
  obtain ⟨h105, hf⟩ := gd_s hf
  obtain ⟨h106, hf⟩ := gd_s hf
  obtain ⟨h107, hf⟩ := gd_s hf
  obtain ⟨h108, hf⟩ := gd_s hf
  obtain ⟨g109, eg109, hf⟩ := bd_s hf
  obtain ⟨d110, ed110, hf⟩ := bd_s hf
  obtain ⟨r111, er111, hf⟩ := bd_s hf
  refine b_newaI C dX12_init_99 ar_int hz hn104 hn104s h107 h105 h106 h108 eg109 ed110 (fun hn112 hn112s => ?_)
  refine b_topR er111 ?_
  obtain ⟨h113, hf⟩ := gd_s hf
  obtain ⟨g114, eg114, hf⟩ := bd_s hf
  refine b_pRC C dX12_init_101 fq_X12_50 fr11_23 hin h113 eg114 ?_
  have hn115 : n0 ≤ gN g114 := by rw [eg114]; exact hn112
  have hn115s : s0 ≤ gS g114 := by rw [eg114]; exact hn112s
  refine b_aload_n C dX12_init_104 0 rfl rfl ?_
  refine b_bipush C (v := 10) dX12_init_105 (by decide) ?_
  obtain ⟨h116, hf⟩ := gd_s hf
  obtain ⟨h117, hf⟩ := gd_s hf
  obtain ⟨h118, hf⟩ := gd_s hf
  obtain ⟨h119, hf⟩ := gd_s hf
  obtain ⟨g120, eg120, hf⟩ := bd_s hf
  obtain ⟨d121, ed121, hf⟩ := bd_s hf
  obtain ⟨r122, er122, hf⟩ := bd_s hf
  refine b_newaI C dX12_init_107 ar_int hz hn115 hn115s h118 h116 h117 h119 eg120 ed121 (fun hn123 hn123s => ?_)
  refine b_topR er122 ?_
  obtain ⟨h124, hf⟩ := gd_s hf
  obtain ⟨g125, eg125, hf⟩ := bd_s hf
  refine b_pRC C dX12_init_109 fq_X12_53 fr11_24 hin h124 eg125 ?_
  have hn126 : n0 ≤ gN g125 := by rw [eg125]; exact hn123
  have hn126s : s0 ≤ gS g125 := by rw [eg125]; exact hn123s
  refine b_aload_n C dX12_init_112 0 rfl rfl ?_
  refine b_bipush C (v := 25) dX12_init_113 (by decide) ?_
  obtain ⟨h127, hf⟩ := gd_s hf
  obtain ⟨h128, hf⟩ := gd_s hf
  obtain ⟨h129, hf⟩ := gd_s hf
  obtain ⟨h130, hf⟩ := gd_s hf
  obtain ⟨g131, eg131, hf⟩ := bd_s hf
  obtain ⟨d132, ed132, hf⟩ := bd_s hf
  obtain ⟨r133, er133, hf⟩ := bd_s hf
  refine b_newaI C dX12_init_115 ar_int hz hn126 hn126s h129 h127 h128 h130 eg131 ed132 (fun hn134 hn134s => ?_)
  refine b_topR er133 ?_
  obtain ⟨h135, hf⟩ := gd_s hf
  obtain ⟨g136, eg136, hf⟩ := bd_s hf
  refine b_pRC C dX12_init_117 fq_X12_56 fr11_27 hin h135 eg136 ?_
  have hn137 : n0 ≤ gN g136 := by rw [eg136]; exact hn134
  have hn137s : s0 ≤ gS g136 := by rw [eg136]; exact hn134s
  refine b_aload_n C dX12_init_120 0 rfl rfl ?_
  refine b_sipush C (v := 9178) dX12_init_121 (by decide) ?_
  obtain ⟨h138, hf⟩ := gd_s hf
  obtain ⟨h139, hf⟩ := gd_s hf
  obtain ⟨g140, eg140, hf⟩ := bd_s hf
  obtain ⟨d141, ed141, hf⟩ := bd_s hf
  obtain ⟨r142, er142, hf⟩ := bd_s hf
  refine b_newaI C dX12_init_124 ar_int hz hn137 hn137s h138 h72 h73 h139 eg140 ed141 (fun hn143 hn143s => ?_)
  refine b_topR er142 ?_
  obtain ⟨h144, hf⟩ := gd_s hf
  obtain ⟨g145, eg145, hf⟩ := bd_s hf
  refine b_pRC C dX12_init_126 fq_X12_59 fr11_28 hin h144 eg145 ?_
  have hn146 : n0 ≤ gN g145 := by rw [eg145]; exact hn143
  have hn146s : s0 ≤ gS g145 := by rw [eg145]; exact hn143s
  refine b_aload_n C dX12_init_129 0 rfl rfl ?_
  refine b_bipush C (v := 24) dX12_init_130 (by decide) ?_
  obtain ⟨h147, hf⟩ := gd_s hf
  obtain ⟨h148, hf⟩ := gd_s hf
  obtain ⟨g149, eg149, hf⟩ := bd_s hf
  obtain ⟨d150, ed150, hf⟩ := bd_s hf
  obtain ⟨r151, er151, hf⟩ := bd_s hf
  refine b_newaF C dX12_init_132 ar_float hz hn146 hn146s h147 h94 h95 h148 eg149 ed150 (fun hn152 hn152s => ?_)
  refine b_topR er151 ?_
  obtain ⟨h153, hf⟩ := gd_s hf
  obtain ⟨g154, eg154, hf⟩ := bd_s hf
  refine b_pRC C dX12_init_134 fq_X12_62 fr11_29 hin h153 eg154 ?_
  have hn155 : n0 ≤ gN g154 := by rw [eg154]; exact hn152
  have hn155s : s0 ≤ gS g154 := by rw [eg154]; exact hn152s
  refine b_aload_n C dX12_init_137 0 rfl rfl ?_
  refine b_sipush C (v := 27534) dX12_init_138 (by decide) ?_
  obtain ⟨h156, hf⟩ := gd_s hf
  obtain ⟨h157, hf⟩ := gd_s hf
  obtain ⟨h158, hf⟩ := gd_s hf
  obtain ⟨h159, hf⟩ := gd_s hf
  obtain ⟨g160, eg160, hf⟩ := bd_s hf
  obtain ⟨d161, ed161, hf⟩ := bd_s hf
  obtain ⟨r162, er162, hf⟩ := bd_s hf
  refine b_newaI C dX12_init_141 ar_int hz hn155 hn155s h158 h156 h157 h159 eg160 ed161 (fun hn163 hn163s => ?_)
  refine b_topR er162 ?_
  obtain ⟨h164, hf⟩ := gd_s hf
  obtain ⟨g165, eg165, hf⟩ := bd_s hf
  refine b_pRC C dX12_init_143 fq_X12_65 fr11_30 hin h164 eg165 ?_
  have hn166 : n0 ≤ gN g165 := by rw [eg165]; exact hn163
  have hn166s : s0 ≤ gS g165 := by rw [eg165]; exact hn163s
  refine b_aload_n C dX12_init_146 0 rfl rfl ?_
  refine b_bipush C (v := 72) dX12_init_147 (by decide) ?_
  obtain ⟨h167, hf⟩ := gd_s hf
  obtain ⟨h168, hf⟩ := gd_s hf
  obtain ⟨h169, hf⟩ := gd_s hf
  obtain ⟨h170, hf⟩ := gd_s hf
  obtain ⟨g171, eg171, hf⟩ := bd_s hf
  obtain ⟨d172, ed172, hf⟩ := bd_s hf
  obtain ⟨r173, er173, hf⟩ := bd_s hf
  refine b_newaF C dX12_init_149 ar_float hz hn166 hn166s h169 h167 h168 h170 eg171 ed172 (fun hn174 hn174s => ?_)
  refine b_topR er173 ?_
  obtain ⟨h175, hf⟩ := gd_s hf
  obtain ⟨g176, eg176, hf⟩ := bd_s hf
  refine b_pRC C dX12_init_151 fq_X12_68 fr11_31 hin h175 eg176 ?_
  have hn177 : n0 ≤ gN g176 := by rw [eg176]; exact hn174
  have hn177s : s0 ≤ gS g176 := by rw [eg176]; exact hn174s
  refine b_sub [(0, .ref (ad B x0))] [0] rfl ?_
  exact tX12_init_154 C hr hlocks hin hz hn177 hn177s hf
theorem kX12_init (l : Launch) (D : va_G) (cy : Nat → ClassId) (B : Bs) {N : Nat} {g : Gs} {x0 : Nat} {gz : Gs} {dz : Ds} {d : Ds} (hf : fX12_init N x0 g d = some (gz, dz)) : Met l yX12_init (.code yX12_init cX12_init 1 none :: wl) rmX12_init (PCC D cy B [.ref (ad B x0)] g d) (QV D cy B gz dz) 18 52035 (wA B) :=
  met_ofC (by decide +kernel) (Nat.le_of_ble_eq_true rfl) (fun p e s m args below meth c C hr hlocks hin hz => b_sub [(0, .ref (ad B x0))] [0] rfl (tX12_init_E C hr hlocks hin hz (Nat.le_refl _) (Nat.le_refl _) hf))
/-! KeyMatrixModel.lays(I)V -/
theorem fl_X12_13 : FLR RX12 13 11 1 := ⟨⟨RX12, TX12, 33, rfl, by decide, inl11, Or.inl (mW (mT5 (List.mem_of_getElem? (i := 92) (by decide +kernel))) rfl)⟩, by decide, by decide +kernel⟩
theorem fl_X12_90 : FLI RX12 90 11 2 := ⟨⟨RX12, TX12, 33, rfl, by decide, inl11, Or.inl (mW (mT5 (List.mem_of_getElem? (i := 93) (by decide +kernel))) rfl)⟩, by decide, by decide +kernel⟩
theorem fp11_2 : FPI 11 2 := ⟨ft11, (RX12, TX12, 33), rfl, by decide +kernel, by decide +kernel⟩
theorem dX12_lays_0 : decode cX12_lays 0 = .ok (.bipush 24, 2) := by decide +kernel
theorem dX12_lays_2 : decode cX12_lays 2 = .ok (.istore_n 2, 1) := by decide +kernel
theorem dX12_lays_3 : decode cX12_lays 3 = .ok (.iload_n 2, 1) := by decide +kernel
theorem dX12_lays_4 : decode cX12_lays 4 = .ok (.ifCond .lt 32, 3) := by decide +kernel
theorem dX12_lays_7 : decode cX12_lays 7 = .ok (.aload_n 0, 1) := by decide +kernel
theorem dX12_lays_8 : decode cX12_lays 8 = .ok (.getfield 13, 3) := by decide +kernel
theorem dX12_lays_11 : decode cX12_lays 11 = .ok (.aload_n 0, 1) := by decide +kernel
theorem dX12_lays_12 : decode cX12_lays 12 = .ok (.getfield 90, 3) := by decide +kernel
theorem dX12_lays_15 : decode cX12_lays 15 = .ok (.iload_n 1, 1) := by decide +kernel
theorem dX12_lays_16 : decode cX12_lays 16 = .ok (.iload_n 2, 1) := by decide +kernel
theorem dX12_lays_17 : decode cX12_lays 17 = .ok (.ishr, 1) := by decide +kernel
theorem dX12_lays_18 : decode cX12_lays 18 = .ok (.i2b, 1) := by decide +kernel
theorem dX12_lays_19 : decode cX12_lays 19 = .ok (.bastore, 1) := by decide +kernel
theorem dX12_lays_20 : decode cX12_lays 20 = .ok (.aload_n 0, 1) := by decide +kernel
theorem dX12_lays_21 : decode cX12_lays 21 = .ok (.dup, 1) := by decide +kernel
theorem dX12_lays_22 : decode cX12_lays 22 = .ok (.getfield 90, 3) := by decide +kernel
theorem dX12_lays_25 : decode cX12_lays 25 = .ok (.iconst 1, 1) := by decide +kernel
theorem dX12_lays_26 : decode cX12_lays 26 = .ok (.iadd, 1) := by decide +kernel
theorem dX12_lays_27 : decode cX12_lays 27 = .ok (.putfield 90, 3) := by decide +kernel
theorem dX12_lays_30 : decode cX12_lays 30 = .ok (.iinc 2 (-8), 3) := by decide +kernel
theorem dX12_lays_33 : decode cX12_lays 33 = .ok (.goto (-30), 3) := by decide +kernel
theorem dX12_lays_36 : decode cX12_lays 36 = .ok (.return_, 1) := by decide +kernel
def rmX12_lays : Room := { frames := 0, cells := 0, slots := 0, locals := 0 }
set_option maxRecDepth 100000 in
def fX12_lays_B3 (N : Nat) (g : Gs) (x0 : Nat) (x1 : Int32) (K3 : Int32 × Ds → Option (Unit × Ds)) (y2 : Int32) (d : Ds) : Option (Unit × Ds) := if y2 < 0 then (some ((), d)) else (gd (chk g x0 11) <| ob (gR g x0 1) fun r3 => (gd (chk g r3 100) <| gd (¬ ((dI d x0 2) < 0 ∨ gL g r3 ≤ (dI d x0 2).toNatClampNeg)) <| bd (sI d r3 (dI d x0 2).toNatClampNeg (vp_nar .byte ((x1 >>> (y2 &&& 31)).toInt8.toInt32))) fun d6 => (bd (sI d6 x0 2 ((dI d6 x0 2) + 1)) fun d7 => (bd (y2 + (-8)) fun u8 => (K3 (u8, d7))))))
set_option maxHeartbeats 4000000 in
set_option maxRecDepth 100000 in
theorem tX12_lays_3 {p : Program} {l : Launch} {e : Env} {s : State} {m : MethodId} {args : Array Value} {below : List Frame} {meth : Method} {c : Code} {D : va_G} {cy : Nat → ClassId} {B : Bs} (C : Cx p s m args c cX12_lays 3 RX12 D cy B) (hr : meth.sig.returnType = none) (hlocks : meth.locks = false) {N : Nat} {g : Gs} {x0 : Nat} {x1 : Int32}  {dz : Ds} {K3 : Int32 × Ds → Option (Unit × Ds)} (hK3 : ∀ a, K3 a = some ((), dz) → WB p l e rmX12_lays s m args below meth c 3 D cy B 0 0 (MQ below (QV D cy B g dz) args s 0 0 (wA B)) g a.2 [(0, .ref (ad B x0)), (1, .int x1), (2, .int a.1)] 3 []) {y2 : Int32} {d : Ds} (hf : fX12_lays_B3 N g x0 x1 K3 y2 d = some ((), dz)) : WB p l e rmX12_lays s m args below meth c 3 D cy B 0 0 (MQ below (QV D cy B g dz) args s 0 0 (wA B)) g d [(0, .ref (ad B x0)), (1, .int x1), (2, .int y2)] 3 [] := by
  unfold fX12_lays_B3 at hf
  refine b_iload_n C dX12_lays_3 2 rfl rfl ?_
  refine b_if_lt C (tgt := 36) dX12_lays_4 (by decide) (fun c1 => ?_) (fun c1 => ?_)
  · have hf := it_s c1 hf
    exact b_vret C hr hlocks hf dX12_lays_36
  · have hf := if_s c1 hf
    refine b_aload_n C dX12_lays_7 0 rfl rfl ?_
    obtain ⟨h2, hf⟩ := gd_s hf
    obtain ⟨r3, er3, hf⟩ := ob_s hf
    refine b_gR C dX12_lays_8 fl_X12_13 h2 er3 ?_
    refine b_aload_n C dX12_lays_11 0 rfl rfl ?_
    refine b_gI C dX12_lays_12 fl_X12_90 h2 ?_
    refine b_iload_n C dX12_lays_15 1 rfl rfl ?_
    refine b_iload_n C dX12_lays_16 2 rfl rfl ?_
    refine b_ishr C dX12_lays_17 ?_
    refine b_i2b C dX12_lays_18 ?_
    obtain ⟨h4, hf⟩ := gd_s hf
    obtain ⟨h5, hf⟩ := gd_s hf
    obtain ⟨d6, ed6, hf⟩ := bd_s hf
    refine b_bast C h4 h5 ed6 dX12_lays_19 ?_
    refine b_aload_n C dX12_lays_20 0 rfl rfl ?_
    refine b_dup C dX12_lays_21 rfl ?_
    refine b_gI C dX12_lays_22 fl_X12_90 h2 ?_
    refine b_iconst C (v := 1) dX12_lays_25 (by decide) ?_
    refine b_iadd C dX12_lays_26 ?_
    obtain ⟨d7, ed7, hf⟩ := bd_s hf
    refine b_pI C dX12_lays_27 fl_X12_90 fp11_2 h2 ed7 ?_
    obtain ⟨u8, eu8, hf⟩ := bd_s hf
    refine b_iinc C dX12_lays_30 2 rfl (by rw [eu8]; rfl) [(2, .int u8), (0, .ref (ad B x0)), (1, .int x1)] (by decide) rfl ?_
    refine b_goto C (tgt := 3) dX12_lays_33 (by decide) ?_
    refine b_sub [(0, .ref (ad B x0)), (1, .int x1), (2, .int u8)] [1, 2, 0] rfl ?_
    exact hK3 (u8, d7) hf
def fX12_lays_L3 (N : Nat) (g : Gs) (x0 : Nat) (x1 : Int32) : Int32 × Ds → Option (Unit × Ds) := lp (fun K3 a => fX12_lays_B3 N g x0 x1 K3 a.1 a.2) N
theorem tX12_lays_L3 {p : Program} {l : Launch} {e : Env} {s : State} {m : MethodId} {args : Array Value} {below : List Frame} {meth : Method} {c : Code} {D : va_G} {cy : Nat → ClassId} {B : Bs} (C : Cx p s m args c cX12_lays 3 RX12 D cy B) (hr : meth.sig.returnType = none) (hlocks : meth.locks = false) {N : Nat} {g : Gs} {x0 : Nat} {x1 : Int32}  {dz : Ds} (a : Int32 × Ds) (hf : fX12_lays_L3 N g x0 x1 a = some ((), dz)) : WB p l e rmX12_lays s m args below meth c 3 D cy B 0 0 (MQ below (QV D cy B g dz) args s 0 0 (wA B)) g a.2 [(0, .ref (ad B x0)), (1, .int x1), (2, .int a.1)] 3 [] :=
  lp_w (fun K3 hK3 a ha => tX12_lays_3 C hr hlocks hK3 ha) N a hf
set_option maxRecDepth 100000 in
def fX12_lays (N : Nat) (g : Gs) (x0 : Nat) (x1 : Int32) (d : Ds) : Option (Unit × Ds) := fX12_lays_L3 N g x0 x1 (24, d)
set_option maxHeartbeats 4000000 in
set_option maxRecDepth 100000 in
theorem tX12_lays_E {p : Program} {l : Launch} {e : Env} {s : State} {m : MethodId} {args : Array Value} {below : List Frame} {meth : Method} {c : Code} {D : va_G} {cy : Nat → ClassId} {B : Bs} (C : Cx p s m args c cX12_lays 3 RX12 D cy B) (hr : meth.sig.returnType = none) (hlocks : meth.locks = false) {N : Nat} {g : Gs} {x0 : Nat} {x1 : Int32}  {dz : Ds} {d : Ds} (hf : fX12_lays N g x0 x1 d = some ((), dz)) : WB p l e rmX12_lays s m args below meth c 3 D cy B 0 0 (MQ below (QV D cy B g dz) args s 0 0 (wA B)) g d [(0, .ref (ad B x0)), (1, .int x1)] 0 [] := by
  unfold fX12_lays at hf
  refine b_bipush C (v := 24) dX12_lays_0 (by decide) ?_
  refine b_istore_n C dX12_lays_2 rfl [(2, .int 24), (0, .ref (ad B x0)), (1, .int x1)] (by decide) rfl ?_
  refine b_sub [(0, .ref (ad B x0)), (1, .int x1), (2, .int 24)] [1, 2, 0] rfl ?_
  exact tX12_lays_L3 C hr hlocks (24, d) hf
theorem kX12_lays (l : Launch) (D : va_G) (cy : Nat → ClassId) (B : Bs) {N : Nat} {g : Gs} {x0 : Nat} {x1 : Int32}  {dz : Ds} {d : Ds} (hf : fX12_lays N g x0 x1 d = some ((), dz)) : Met l yX12_lays (.code yX12_lays cX12_lays 3 none :: wl) rmX12_lays (PC D cy B [.ref (ad B x0), .int x1] g d) (QV D cy B g dz) 0 0 (wA B) :=
  met_of (by decide +kernel) (Nat.le_of_ble_eq_true rfl) (fun p e s m args below meth c C hr hlocks _ => b_sub [(0, .ref (ad B x0)), (1, .int x1)] [0, 1] rfl (tX12_lays_E C hr hlocks hf))
/-! KeyMatrixModel.feed(IIIII)I -/
theorem yo_X12_lays : yX12_lays.cls ≠ "java/lang/invoke/MethodHandle" ∧ yX12_lays.cls ≠ "java/lang/invoke/VarHandle" ∧ (parseMethodDescriptor yX12_lays.desc).map (fun d => d.parameters.length) = some 1 := by decide +kernel
theorem co_X12_lays : Cond.code yX12_lays cX12_lays 3 none ∈ wl := mW (mT5 (List.mem_of_getElem? (i := 200) (by decide +kernel))) rfl
theorem in_X12_lays : Cond.initialized yX12_lays.cls ∈ wl := mW (mT1 (List.mem_of_getElem? (i := 12) (by decide +kernel))) rfl
theorem im_X12_lays : Cond.instanceMethod yX12_lays ∈ wl := mW (mT5 (List.mem_of_getElem? (i := 199) (by decide +kernel))) rfl
theorem se_X12_lays : Cond.selects yX12_lays.cls yX12_lays yX12_lays ∈ wl := mW (mT0 (List.mem_of_getElem? (i := 32) (by decide +kernel))) rfl
theorem lv_X12_93 : LV RX12 93 yX12_lays cX12_lays 3 none 1 11 := ⟨⟨(RX12, TX12, 33), rfl, rfl⟩, yo_X12_lays, mW (mT5 (List.mem_of_getElem? (i := 197) (by decide +kernel))) rfl, im_X12_lays, se_X12_lays, in_X12_lays, co_X12_lays⟩
theorem dX12_feed_0 : decode cX12_feed 0 = .ok (.aload_n 0, 1) := by decide +kernel
theorem dX12_feed_1 : decode cX12_feed 1 = .ok (.getfield 90, 3) := by decide +kernel
theorem dX12_feed_4 : decode cX12_feed 4 = .ok (.bipush 20, 2) := by decide +kernel
theorem dX12_feed_6 : decode cX12_feed 6 = .ok (.iadd, 1) := by decide +kernel
theorem dX12_feed_7 : decode cX12_feed 7 = .ok (.sipush 2000, 3) := by decide +kernel
theorem dX12_feed_10 : decode cX12_feed 10 = .ok (.if_icmp .le 5, 3) := by decide +kernel
theorem dX12_feed_13 : decode cX12_feed 13 = .ok (.iconst (-1), 1) := by decide +kernel
theorem dX12_feed_14 : decode cX12_feed 14 = .ok (.ireturn, 1) := by decide +kernel
theorem dX12_feed_15 : decode cX12_feed 15 = .ok (.aload_n 0, 1) := by decide +kernel
theorem dX12_feed_16 : decode cX12_feed 16 = .ok (.iload_n 1, 1) := by decide +kernel
theorem dX12_feed_17 : decode cX12_feed 17 = .ok (.invokevirtual 93, 3) := by decide +kernel
theorem dX12_feed_20 : decode cX12_feed 20 = .ok (.aload_n 0, 1) := by decide +kernel
theorem dX12_feed_21 : decode cX12_feed 21 = .ok (.iload_n 2, 1) := by decide +kernel
theorem dX12_feed_22 : decode cX12_feed 22 = .ok (.invokevirtual 93, 3) := by decide +kernel
theorem dX12_feed_25 : decode cX12_feed 25 = .ok (.aload_n 0, 1) := by decide +kernel
theorem dX12_feed_26 : decode cX12_feed 26 = .ok (.iload_n 3, 1) := by decide +kernel
theorem dX12_feed_27 : decode cX12_feed 27 = .ok (.invokevirtual 93, 3) := by decide +kernel
theorem dX12_feed_30 : decode cX12_feed 30 = .ok (.aload_n 0, 1) := by decide +kernel
theorem dX12_feed_31 : decode cX12_feed 31 = .ok (.iload 4, 2) := by decide +kernel
theorem dX12_feed_33 : decode cX12_feed 33 = .ok (.invokevirtual 93, 3) := by decide +kernel
theorem dX12_feed_36 : decode cX12_feed 36 = .ok (.aload_n 0, 1) := by decide +kernel
theorem dX12_feed_37 : decode cX12_feed 37 = .ok (.iload 5, 2) := by decide +kernel
theorem dX12_feed_39 : decode cX12_feed 39 = .ok (.invokevirtual 93, 3) := by decide +kernel
theorem dX12_feed_42 : decode cX12_feed 42 = .ok (.aload_n 0, 1) := by decide +kernel
theorem dX12_feed_43 : decode cX12_feed 43 = .ok (.getfield 90, 3) := by decide +kernel
theorem dX12_feed_46 : decode cX12_feed 46 = .ok (.ireturn, 1) := by decide +kernel
def rmX12_feed : Room := { frames := 1, cells := 0, slots := 0, locals := 22 }
set_option maxRecDepth 100000 in
def fX12_feed (N : Nat) (g : Gs) (x0 : Nat) (x1 : Int32) (x2 : Int32) (x3 : Int32) (x4 : Int32) (x5 : Int32) (d : Ds) : Option (Int32 × Ds) := gd (chk g x0 11) <| if ((dI d x0 2) + 20) ≤ (2000 : Int32) then (cv (fX12_lays N g x0 x1 d) fun d3 => (cv (fX12_lays N g x0 x2 d3) fun d5 => (cv (fX12_lays N g x0 x3 d5) fun d7 => (cv (fX12_lays N g x0 x4 d7) fun d9 => (cv (fX12_lays N g x0 x5 d9) fun d11 => (some ((dI d11 x0 2), d11))))))) else (some ((-1), d))
set_option maxHeartbeats 4000000 in
set_option maxRecDepth 100000 in
theorem tX12_feed_E {p : Program} {l : Launch} {e : Env} {s : State} {m : MethodId} {args : Array Value} {below : List Frame} {meth : Method} {c : Code} {D : va_G} {cy : Nat → ClassId} {B : Bs} (C : Cx p s m args c cX12_feed 6 RX12 D cy B) (hr : meth.sig.returnType = (some .int)) (hlocks : meth.locks = false) {N : Nat} {g : Gs} {x0 : Nat} {x1 : Int32} {x2 : Int32} {x3 : Int32} {x4 : Int32} {x5 : Int32} {vz : Int32} {dz : Ds} {d : Ds} (hf : fX12_feed N g x0 x1 x2 x3 x4 x5 d = some (vz, dz)) : WB p l e rmX12_feed s m args below meth c 6 D cy B 0 0 (MQ below (QI D cy B vz g dz) args s 0 0 (wA B)) g d [(0, .ref (ad B x0)), (1, .int x1), (2, .int x2), (3, .int x3), (4, .int x4), (5, .int x5)] 0 [] := by
  unfold fX12_feed at hf
  refine b_aload_n C dX12_feed_0 0 rfl rfl ?_
  obtain ⟨h1, hf⟩ := gd_s hf
  refine b_gI C dX12_feed_1 fl_X12_90 h1 ?_
  refine b_bipush C (v := 20) dX12_feed_4 (by decide) ?_
  refine b_iadd C dX12_feed_6 ?_
  refine b_sipush C (v := 2000) dX12_feed_7 (by decide) ?_
  refine b_icmp_le C (tgt := 15) dX12_feed_10 (by decide) (fun c2 => ?_) (fun c2 => ?_)
  · have hf := it_s c2 hf
    refine b_aload_n C dX12_feed_15 0 rfl rfl ?_
    refine b_iload_n C dX12_feed_16 1 rfl rfl ?_
    obtain ⟨d3, k4, hf⟩ := cv_s hf
    refine b_cVN C [] dX12_feed_17 (kX12_lays l D cy B k4) lv_X12_93 ⟨rfl, rfl, Nat.le_of_ble_eq_true rfl, Nat.le_of_ble_eq_true rfl⟩ h1 (by decide) rfl (Nat.le_of_ble_eq_true rfl) ⟨Nat.zero_le _, Nat.zero_le _⟩ rfl ?_
    refine b_aload_n C dX12_feed_20 0 rfl rfl ?_
    refine b_iload_n C dX12_feed_21 2 rfl rfl ?_
    obtain ⟨d5, k6, hf⟩ := cv_s hf
    refine b_cVN C [] dX12_feed_22 (kX12_lays l D cy B k6) lv_X12_93 ⟨rfl, rfl, Nat.le_of_ble_eq_true rfl, Nat.le_of_ble_eq_true rfl⟩ h1 (by decide) rfl (Nat.le_of_ble_eq_true rfl) ⟨Nat.zero_le _, Nat.zero_le _⟩ rfl ?_
    refine b_aload_n C dX12_feed_25 0 rfl rfl ?_
    refine b_iload_n C dX12_feed_26 3 rfl rfl ?_
    obtain ⟨d7, k8, hf⟩ := cv_s hf
    refine b_cVN C [] dX12_feed_27 (kX12_lays l D cy B k8) lv_X12_93 ⟨rfl, rfl, Nat.le_of_ble_eq_true rfl, Nat.le_of_ble_eq_true rfl⟩ h1 (by decide) rfl (Nat.le_of_ble_eq_true rfl) ⟨Nat.zero_le _, Nat.zero_le _⟩ rfl ?_
    refine b_aload_n C dX12_feed_30 0 rfl rfl ?_
    refine b_iload C dX12_feed_31 4 rfl ?_
    obtain ⟨d9, k10, hf⟩ := cv_s hf
    refine b_cVN C [] dX12_feed_33 (kX12_lays l D cy B k10) lv_X12_93 ⟨rfl, rfl, Nat.le_of_ble_eq_true rfl, Nat.le_of_ble_eq_true rfl⟩ h1 (by decide) rfl (Nat.le_of_ble_eq_true rfl) ⟨Nat.zero_le _, Nat.zero_le _⟩ rfl ?_
    refine b_aload_n C dX12_feed_36 0 rfl rfl ?_
    refine b_iload C dX12_feed_37 5 rfl ?_
    obtain ⟨d11, k12, hf⟩ := cv_s hf
    refine b_cVN C [] dX12_feed_39 (kX12_lays l D cy B k12) lv_X12_93 ⟨rfl, rfl, Nat.le_of_ble_eq_true rfl, Nat.le_of_ble_eq_true rfl⟩ h1 (by decide) rfl (Nat.le_of_ble_eq_true rfl) ⟨Nat.zero_le _, Nat.zero_le _⟩ rfl ?_
    refine b_aload_n C dX12_feed_42 0 rfl rfl ?_
    refine b_gI C dX12_feed_43 fl_X12_90 h1 ?_
    exact b_iret C hr hlocks hf dX12_feed_46
  · have hf := if_s c2 hf
    refine b_iconst C (v := (-1)) dX12_feed_13 (by decide) ?_
    exact b_iret C hr hlocks hf dX12_feed_14
theorem kX12_feed (l : Launch) (D : va_G) (cy : Nat → ClassId) (B : Bs) {N : Nat} {g : Gs} {x0 : Nat} {x1 : Int32} {x2 : Int32} {x3 : Int32} {x4 : Int32} {x5 : Int32} {vz : Int32} {dz : Ds} {d : Ds} (hf : fX12_feed N g x0 x1 x2 x3 x4 x5 d = some (vz, dz)) : Met l yX12_feed (.code yX12_feed cX12_feed 6 (some .int) :: wl) rmX12_feed (PC D cy B [.ref (ad B x0), .int x1, .int x2, .int x3, .int x4, .int x5] g d) (QI D cy B vz g dz) 0 0 (wA B) :=
  met_of (by decide +kernel) (Nat.le_of_ble_eq_true rfl) (fun p e s m args below meth c C hr hlocks _ => b_sub [(0, .ref (ad B x0)), (1, .int x1), (2, .int x2), (3, .int x3), (4, .int x4), (5, .int x5)] [0, 1, 2, 3, 4, 5] rfl (tX12_feed_E C hr hlocks hf))
/-! KeyMatrixModel.back(I)I -/
theorem dX12_back_0 : decode cX12_back 0 = .ok (.iload_n 1, 1) := by decide +kernel
theorem dX12_back_1 : decode cX12_back 1 = .ok (.ifCond .lt 11, 3) := by decide +kernel
theorem dX12_back_4 : decode cX12_back 4 = .ok (.iload_n 1, 1) := by decide +kernel
theorem dX12_back_5 : decode cX12_back 5 = .ok (.aload_n 0, 1) := by decide +kernel
theorem dX12_back_6 : decode cX12_back 6 = .ok (.getfield 90, 3) := by decide +kernel
theorem dX12_back_9 : decode cX12_back 9 = .ok (.if_icmp .le 5, 3) := by decide +kernel
theorem dX12_back_12 : decode cX12_back 12 = .ok (.iconst (-1), 1) := by decide +kernel
theorem dX12_back_13 : decode cX12_back 13 = .ok (.ireturn, 1) := by decide +kernel
theorem dX12_back_14 : decode cX12_back 14 = .ok (.aload_n 0, 1) := by decide +kernel
theorem dX12_back_15 : decode cX12_back 15 = .ok (.dup, 1) := by decide +kernel
theorem dX12_back_16 : decode cX12_back 16 = .ok (.getfield 90, 3) := by decide +kernel
theorem dX12_back_19 : decode cX12_back 19 = .ok (.iload_n 1, 1) := by decide +kernel
theorem dX12_back_20 : decode cX12_back 20 = .ok (.isub, 1) := by decide +kernel
theorem dX12_back_21 : decode cX12_back 21 = .ok (.putfield 90, 3) := by decide +kernel
theorem dX12_back_24 : decode cX12_back 24 = .ok (.aload_n 0, 1) := by decide +kernel
theorem dX12_back_25 : decode cX12_back 25 = .ok (.getfield 90, 3) := by decide +kernel
theorem dX12_back_28 : decode cX12_back 28 = .ok (.ireturn, 1) := by decide +kernel
def rmX12_back : Room := { frames := 0, cells := 0, slots := 0, locals := 0 }
set_option maxRecDepth 100000 in
def fX12_back_J12 (N : Nat) (g : Gs) (x0 : Nat) (x1 : Int32) (d : Ds) : Option (Int32 × Ds) := some ((-1), d)
set_option maxHeartbeats 4000000 in
set_option maxRecDepth 100000 in
theorem tX12_back_12 {p : Program} {l : Launch} {e : Env} {s : State} {m : MethodId} {args : Array Value} {below : List Frame} {meth : Method} {c : Code} {D : va_G} {cy : Nat → ClassId} {B : Bs} (C : Cx p s m args c cX12_back 2 RX12 D cy B) (hr : meth.sig.returnType = (some .int)) (hlocks : meth.locks = false) {N : Nat} {g : Gs} {x0 : Nat} {x1 : Int32} {vz : Int32} {dz : Ds} {d : Ds} (hf : fX12_back_J12 N g x0 x1 d = some (vz, dz)) : WB p l e rmX12_back s m args below meth c 2 D cy B 0 0 (MQ below (QI D cy B vz g dz) args s 0 0 (wA B)) g d [(0, .ref (ad B x0)), (1, .int x1)] 12 [] := by
  unfold fX12_back_J12 at hf
  refine b_iconst C (v := (-1)) dX12_back_12 (by decide) ?_
  exact b_iret C hr hlocks hf dX12_back_13
set_option maxRecDepth 100000 in
def fX12_back (N : Nat) (g : Gs) (x0 : Nat) (x1 : Int32) (d : Ds) : Option (Int32 × Ds) := if x1 < 0 then (fX12_back_J12 N g x0 x1 d) else (gd (chk g x0 11) <| if x1 ≤ (dI d x0 2) then (bd (sI d x0 2 ((dI d x0 2) - x1)) fun d4 => (some ((dI d4 x0 2), d4))) else (fX12_back_J12 N g x0 x1 d))
set_option maxHeartbeats 4000000 in
set_option maxRecDepth 100000 in
theorem tX12_back_E {p : Program} {l : Launch} {e : Env} {s : State} {m : MethodId} {args : Array Value} {below : List Frame} {meth : Method} {c : Code} {D : va_G} {cy : Nat → ClassId} {B : Bs} (C : Cx p s m args c cX12_back 2 RX12 D cy B) (hr : meth.sig.returnType = (some .int)) (hlocks : meth.locks = false) {N : Nat} {g : Gs} {x0 : Nat} {x1 : Int32} {vz : Int32} {dz : Ds} {d : Ds} (hf : fX12_back N g x0 x1 d = some (vz, dz)) : WB p l e rmX12_back s m args below meth c 2 D cy B 0 0 (MQ below (QI D cy B vz g dz) args s 0 0 (wA B)) g d [(0, .ref (ad B x0)), (1, .int x1)] 0 [] := by
  unfold fX12_back at hf
  refine b_iload_n C dX12_back_0 1 rfl rfl ?_
  refine b_if_lt C (tgt := 12) dX12_back_1 (by decide) (fun c1 => ?_) (fun c1 => ?_)
  · have hf := it_s c1 hf
    refine b_sub [(0, .ref (ad B x0)), (1, .int x1)] [0, 1] rfl ?_
    exact tX12_back_12 C hr hlocks hf
  · have hf := if_s c1 hf
    refine b_iload_n C dX12_back_4 1 rfl rfl ?_
    refine b_aload_n C dX12_back_5 0 rfl rfl ?_
    obtain ⟨h2, hf⟩ := gd_s hf
    refine b_gI C dX12_back_6 fl_X12_90 h2 ?_
    refine b_icmp_le C (tgt := 14) dX12_back_9 (by decide) (fun c3 => ?_) (fun c3 => ?_)
    · have hf := it_s c3 hf
      refine b_aload_n C dX12_back_14 0 rfl rfl ?_
      refine b_dup C dX12_back_15 rfl ?_
      refine b_gI C dX12_back_16 fl_X12_90 h2 ?_
      refine b_iload_n C dX12_back_19 1 rfl rfl ?_
      refine b_isub C dX12_back_20 ?_
      obtain ⟨d4, ed4, hf⟩ := bd_s hf
      refine b_pI C dX12_back_21 fl_X12_90 fp11_2 h2 ed4 ?_
      refine b_aload_n C dX12_back_24 0 rfl rfl ?_
      refine b_gI C dX12_back_25 fl_X12_90 h2 ?_
      exact b_iret C hr hlocks hf dX12_back_28
    · have hf := if_s c3 hf
      refine b_sub [(0, .ref (ad B x0)), (1, .int x1)] [0, 1] rfl ?_
      exact tX12_back_12 C hr hlocks hf
theorem kX12_back (l : Launch) (D : va_G) (cy : Nat → ClassId) (B : Bs) {N : Nat} {g : Gs} {x0 : Nat} {x1 : Int32} {vz : Int32} {dz : Ds} {d : Ds} (hf : fX12_back N g x0 x1 d = some (vz, dz)) : Met l yX12_back (.code yX12_back cX12_back 2 (some .int) :: wl) rmX12_back (PC D cy B [.ref (ad B x0), .int x1] g d) (QI D cy B vz g dz) 0 0 (wA B) :=
  met_of (by decide +kernel) (Nat.le_of_ble_eq_true rfl) (fun p e s m args below meth c C hr hlocks _ => b_sub [(0, .ref (ad B x0)), (1, .int x1)] [0, 1] rfl (tX12_back_E C hr hlocks hf))
/-! KeyMatrixModel.byteAt(I)I -/
theorem fl_X12_97 : FLI RX12 97 11 4 := ⟨⟨RX12, TX12, 33, rfl, by decide, inl11, Or.inl (mW (mT5 (List.mem_of_getElem? (i := 95) (by decide +kernel))) rfl)⟩, by decide, by decide +kernel⟩
theorem fl_X12_17 : FLR RX12 17 11 3 := ⟨⟨RX12, TX12, 33, rfl, by decide, inl11, Or.inl (mW (mT5 (List.mem_of_getElem? (i := 94) (by decide +kernel))) rfl)⟩, by decide, by decide +kernel⟩
theorem dX12_byteAt_0 : decode cX12_byteAt 0 = .ok (.iload_n 1, 1) := by decide +kernel
theorem dX12_byteAt_1 : decode cX12_byteAt 1 = .ok (.aload_n 0, 1) := by decide +kernel
theorem dX12_byteAt_2 : decode cX12_byteAt 2 = .ok (.getfield 97, 3) := by decide +kernel
theorem dX12_byteAt_5 : decode cX12_byteAt 5 = .ok (.if_icmp .ge 16, 3) := by decide +kernel
theorem dX12_byteAt_8 : decode cX12_byteAt 8 = .ok (.aload_n 0, 1) := by decide +kernel
theorem dX12_byteAt_9 : decode cX12_byteAt 9 = .ok (.getfield 17, 3) := by decide +kernel
theorem dX12_byteAt_12 : decode cX12_byteAt 12 = .ok (.iload_n 1, 1) := by decide +kernel
theorem dX12_byteAt_13 : decode cX12_byteAt 13 = .ok (.baload, 1) := by decide +kernel
theorem dX12_byteAt_14 : decode cX12_byteAt 14 = .ok (.sipush 255, 3) := by decide +kernel
theorem dX12_byteAt_17 : decode cX12_byteAt 17 = .ok (.iand, 1) := by decide +kernel
theorem dX12_byteAt_18 : decode cX12_byteAt 18 = .ok (.goto 4, 3) := by decide +kernel
theorem dX12_byteAt_21 : decode cX12_byteAt 21 = .ok (.iconst 0, 1) := by decide +kernel
theorem dX12_byteAt_22 : decode cX12_byteAt 22 = .ok (.ireturn, 1) := by decide +kernel
def rmX12_byteAt : Room := { frames := 0, cells := 0, slots := 0, locals := 0 }
set_option maxRecDepth 100000 in
def fX12_byteAt_J22 (N : Nat) (g : Gs) (x0 : Nat) (x1 : Int32) (z0 : Int32) (d : Ds) : Option (Int32 × Ds) := some (z0, d)
set_option maxHeartbeats 4000000 in
set_option maxRecDepth 100000 in
theorem tX12_byteAt_22 {p : Program} {l : Launch} {e : Env} {s : State} {m : MethodId} {args : Array Value} {below : List Frame} {meth : Method} {c : Code} {D : va_G} {cy : Nat → ClassId} {B : Bs} (C : Cx p s m args c cX12_byteAt 2 RX12 D cy B) (hr : meth.sig.returnType = (some .int)) (hlocks : meth.locks = false) {N : Nat} {g : Gs} {x0 : Nat} {x1 : Int32} {vz : Int32} {dz : Ds} {z0 : Int32} {d : Ds} (hf : fX12_byteAt_J22 N g x0 x1 z0 d = some (vz, dz)) : WB p l e rmX12_byteAt s m args below meth c 2 D cy B 0 0 (MQ below (QI D cy B vz g dz) args s 0 0 (wA B)) g d [(0, .ref (ad B x0)), (1, .int x1)] 22 [.int z0] := by
  unfold fX12_byteAt_J22 at hf
  exact b_iret C hr hlocks hf dX12_byteAt_22
set_option maxRecDepth 100000 in
def fX12_byteAt (N : Nat) (g : Gs) (x0 : Nat) (x1 : Int32) (d : Ds) : Option (Int32 × Ds) := gd (chk g x0 11) <| if (dI d x0 4) ≤ x1 then (fX12_byteAt_J22 N g x0 x1 0 d) else (ob (gR g x0 3) fun r3 => (gd (chk g r3 100) <| gd (¬ (x1 < 0 ∨ gL g r3 ≤ x1.toNatClampNeg)) <| fX12_byteAt_J22 N g x0 x1 ((dI d r3 x1.toNatClampNeg) &&& 255) d))
set_option maxHeartbeats 4000000 in
set_option maxRecDepth 100000 in
theorem tX12_byteAt_E {p : Program} {l : Launch} {e : Env} {s : State} {m : MethodId} {args : Array Value} {below : List Frame} {meth : Method} {c : Code} {D : va_G} {cy : Nat → ClassId} {B : Bs} (C : Cx p s m args c cX12_byteAt 2 RX12 D cy B) (hr : meth.sig.returnType = (some .int)) (hlocks : meth.locks = false) {N : Nat} {g : Gs} {x0 : Nat} {x1 : Int32} {vz : Int32} {dz : Ds} {d : Ds} (hf : fX12_byteAt N g x0 x1 d = some (vz, dz)) : WB p l e rmX12_byteAt s m args below meth c 2 D cy B 0 0 (MQ below (QI D cy B vz g dz) args s 0 0 (wA B)) g d [(0, .ref (ad B x0)), (1, .int x1)] 0 [] := by
  unfold fX12_byteAt at hf
  refine b_iload_n C dX12_byteAt_0 1 rfl rfl ?_
  refine b_aload_n C dX12_byteAt_1 0 rfl rfl ?_
  obtain ⟨h1, hf⟩ := gd_s hf
  refine b_gI C dX12_byteAt_2 fl_X12_97 h1 ?_
  refine b_icmp_ge C (tgt := 21) dX12_byteAt_5 (by decide) (fun c2 => ?_) (fun c2 => ?_)
  · have hf := it_s c2 hf
    refine b_iconst C (v := 0) dX12_byteAt_21 (by decide) ?_
    refine b_sub [(0, .ref (ad B x0)), (1, .int x1)] [0, 1] rfl ?_
    exact tX12_byteAt_22 C hr hlocks hf
  · have hf := if_s c2 hf
    refine b_aload_n C dX12_byteAt_8 0 rfl rfl ?_
    obtain ⟨r3, er3, hf⟩ := ob_s hf
    refine b_gR C dX12_byteAt_9 fl_X12_17 h1 er3 ?_
    refine b_iload_n C dX12_byteAt_12 1 rfl rfl ?_
    obtain ⟨h4, hf⟩ := gd_s hf
    obtain ⟨h5, hf⟩ := gd_s hf
    refine b_bald C h4 h5 dX12_byteAt_13 ?_
    refine b_sipush C (v := 255) dX12_byteAt_14 (by decide) ?_
    refine b_iand C dX12_byteAt_17 ?_
    refine b_goto C (tgt := 22) dX12_byteAt_18 (by decide) ?_
    refine b_sub [(0, .ref (ad B x0)), (1, .int x1)] [0, 1] rfl ?_
    exact tX12_byteAt_22 C hr hlocks hf
theorem kX12_byteAt (l : Launch) (D : va_G) (cy : Nat → ClassId) (B : Bs) {N : Nat} {g : Gs} {x0 : Nat} {x1 : Int32} {vz : Int32} {dz : Ds} {d : Ds} (hf : fX12_byteAt N g x0 x1 d = some (vz, dz)) : Met l yX12_byteAt (.code yX12_byteAt cX12_byteAt 2 (some .int) :: wl) rmX12_byteAt (PC D cy B [.ref (ad B x0), .int x1] g d) (QI D cy B vz g dz) 0 0 (wA B) :=
  met_of (by decide +kernel) (Nat.le_of_ble_eq_true rfl) (fun p e s m args below meth c C hr hlocks _ => b_sub [(0, .ref (ad B x0)), (1, .int x1)] [0, 1] rfl (tX12_byteAt_E C hr hlocks hf))
/-! KeyMatrixModel.isDigit(I)Z -/
theorem dX12_isDigit_0 : decode cX12_isDigit 0 = .ok (.iload_n 0, 1) := by decide +kernel
theorem dX12_isDigit_1 : decode cX12_isDigit 1 = .ok (.bipush 48, 2) := by decide +kernel
theorem dX12_isDigit_3 : decode cX12_isDigit 3 = .ok (.if_icmp .lt 13, 3) := by decide +kernel
theorem dX12_isDigit_6 : decode cX12_isDigit 6 = .ok (.iload_n 0, 1) := by decide +kernel
theorem dX12_isDigit_7 : decode cX12_isDigit 7 = .ok (.bipush 57, 2) := by decide +kernel
theorem dX12_isDigit_9 : decode cX12_isDigit 9 = .ok (.if_icmp .gt 7, 3) := by decide +kernel
theorem dX12_isDigit_12 : decode cX12_isDigit 12 = .ok (.iconst 1, 1) := by decide +kernel
theorem dX12_isDigit_13 : decode cX12_isDigit 13 = .ok (.goto 4, 3) := by decide +kernel
theorem dX12_isDigit_16 : decode cX12_isDigit 16 = .ok (.iconst 0, 1) := by decide +kernel
theorem dX12_isDigit_17 : decode cX12_isDigit 17 = .ok (.ireturn, 1) := by decide +kernel
def rmX12_isDigit : Room := { frames := 0, cells := 0, slots := 0, locals := 0 }
set_option maxRecDepth 100000 in
def fX12_isDigit_J17 (N : Nat) (g : Gs) (x0 : Int32) (z0 : Int32) (d : Ds) : Option (Int32 × Ds) := gd (z0 = 0 ∨ z0 = 1) <| some (z0, d)
set_option maxHeartbeats 4000000 in
set_option maxRecDepth 100000 in
theorem tX12_isDigit_17 {p : Program} {l : Launch} {e : Env} {s : State} {m : MethodId} {args : Array Value} {below : List Frame} {meth : Method} {c : Code} {D : va_G} {cy : Nat → ClassId} {B : Bs} (C : Cx p s m args c cX12_isDigit 1 RX12 D cy B) (hr : meth.sig.returnType = (some .boolean)) (hlocks : meth.locks = false) {N : Nat} {g : Gs} {x0 : Int32} {vz : Int32} {dz : Ds} {z0 : Int32} {d : Ds} (hf : fX12_isDigit_J17 N g x0 z0 d = some (vz, dz)) : WB p l e rmX12_isDigit s m args below meth c 1 D cy B 0 0 (MQ below (QI D cy B vz g dz) args s 0 0 (wA B)) g d [(0, .int x0)] 17 [.int z0] := by
  unfold fX12_isDigit_J17 at hf
  obtain ⟨h2, hf⟩ := gd_s hf
  exact b_zret C hr hlocks h2 hf dX12_isDigit_17
set_option maxRecDepth 100000 in
def fX12_isDigit_J16 (N : Nat) (g : Gs) (x0 : Int32) (d : Ds) : Option (Int32 × Ds) := fX12_isDigit_J17 N g x0 0 d
set_option maxHeartbeats 4000000 in
set_option maxRecDepth 100000 in
theorem tX12_isDigit_16 {p : Program} {l : Launch} {e : Env} {s : State} {m : MethodId} {args : Array Value} {below : List Frame} {meth : Method} {c : Code} {D : va_G} {cy : Nat → ClassId} {B : Bs} (C : Cx p s m args c cX12_isDigit 1 RX12 D cy B) (hr : meth.sig.returnType = (some .boolean)) (hlocks : meth.locks = false) {N : Nat} {g : Gs} {x0 : Int32} {vz : Int32} {dz : Ds} {d : Ds} (hf : fX12_isDigit_J16 N g x0 d = some (vz, dz)) : WB p l e rmX12_isDigit s m args below meth c 1 D cy B 0 0 (MQ below (QI D cy B vz g dz) args s 0 0 (wA B)) g d [(0, .int x0)] 16 [] := by
  unfold fX12_isDigit_J16 at hf
  refine b_iconst C (v := 0) dX12_isDigit_16 (by decide) ?_
  refine b_sub [(0, .int x0)] [0] rfl ?_
  exact tX12_isDigit_17 C hr hlocks hf
set_option maxRecDepth 100000 in
def fX12_isDigit (N : Nat) (g : Gs) (x0 : Int32) (d : Ds) : Option (Int32 × Ds) := if x0 < (48 : Int32) then (fX12_isDigit_J16 N g x0 d) else (if (57 : Int32) < x0 then (fX12_isDigit_J16 N g x0 d) else (fX12_isDigit_J17 N g x0 1 d))
set_option maxHeartbeats 4000000 in
set_option maxRecDepth 100000 in
theorem tX12_isDigit_E {p : Program} {l : Launch} {e : Env} {s : State} {m : MethodId} {args : Array Value} {below : List Frame} {meth : Method} {c : Code} {D : va_G} {cy : Nat → ClassId} {B : Bs} (C : Cx p s m args c cX12_isDigit 1 RX12 D cy B) (hr : meth.sig.returnType = (some .boolean)) (hlocks : meth.locks = false) {N : Nat} {g : Gs} {x0 : Int32} {vz : Int32} {dz : Ds} {d : Ds} (hf : fX12_isDigit N g x0 d = some (vz, dz)) : WB p l e rmX12_isDigit s m args below meth c 1 D cy B 0 0 (MQ below (QI D cy B vz g dz) args s 0 0 (wA B)) g d [(0, .int x0)] 0 [] := by
  unfold fX12_isDigit at hf
  refine b_iload_n C dX12_isDigit_0 0 rfl rfl ?_
  refine b_bipush C (v := 48) dX12_isDigit_1 (by decide) ?_
  refine b_icmp_lt C (tgt := 16) dX12_isDigit_3 (by decide) (fun c1 => ?_) (fun c1 => ?_)
  · have hf := it_s c1 hf
    refine b_sub [(0, .int x0)] [0] rfl ?_
    exact tX12_isDigit_16 C hr hlocks hf
  · have hf := if_s c1 hf
    refine b_iload_n C dX12_isDigit_6 0 rfl rfl ?_
    refine b_bipush C (v := 57) dX12_isDigit_7 (by decide) ?_
    refine b_icmp_gt C (tgt := 16) dX12_isDigit_9 (by decide) (fun c3 => ?_) (fun c3 => ?_)
    · have hf := it_s c3 hf
      refine b_sub [(0, .int x0)] [0] rfl ?_
      exact tX12_isDigit_16 C hr hlocks hf
    · have hf := if_s c3 hf
      refine b_iconst C (v := 1) dX12_isDigit_12 (by decide) ?_
      refine b_goto C (tgt := 17) dX12_isDigit_13 (by decide) ?_
      refine b_sub [(0, .int x0)] [0] rfl ?_
      exact tX12_isDigit_17 C hr hlocks hf
theorem kX12_isDigit (l : Launch) (D : va_G) (cy : Nat → ClassId) (B : Bs) {N : Nat} {g : Gs} {x0 : Int32} {vz : Int32} {dz : Ds} {d : Ds} (hf : fX12_isDigit N g x0 d = some (vz, dz)) : Met l yX12_isDigit (.code yX12_isDigit cX12_isDigit 1 (some .boolean) :: wl) rmX12_isDigit (PC D cy B [.int x0] g d) (QI D cy B vz g dz) 0 0 (wA B) :=
  met_of (by decide +kernel) (Nat.le_of_ble_eq_true rfl) (fun p e s m args below meth c C hr hlocks _ => b_sub [(0, .int x0)] [0] rfl (tX12_isDigit_E C hr hlocks hf))
/-! KeyMatrixModel.isLetter(I)Z -/
theorem dX12_isLetter_0 : decode cX12_isLetter 0 = .ok (.iload_n 0, 1) := by decide +kernel
theorem dX12_isLetter_1 : decode cX12_isLetter 1 = .ok (.bipush 97, 2) := by decide +kernel
theorem dX12_isLetter_3 : decode cX12_isLetter 3 = .ok (.if_icmp .lt 13, 3) := by decide +kernel
theorem dX12_isLetter_6 : decode cX12_isLetter 6 = .ok (.iload_n 0, 1) := by decide +kernel
theorem dX12_isLetter_7 : decode cX12_isLetter 7 = .ok (.bipush 122, 2) := by decide +kernel
theorem dX12_isLetter_9 : decode cX12_isLetter 9 = .ok (.if_icmp .gt 7, 3) := by decide +kernel
theorem dX12_isLetter_12 : decode cX12_isLetter 12 = .ok (.iconst 1, 1) := by decide +kernel
theorem dX12_isLetter_13 : decode cX12_isLetter 13 = .ok (.goto 4, 3) := by decide +kernel
theorem dX12_isLetter_16 : decode cX12_isLetter 16 = .ok (.iconst 0, 1) := by decide +kernel
theorem dX12_isLetter_17 : decode cX12_isLetter 17 = .ok (.ireturn, 1) := by decide +kernel
def rmX12_isLetter : Room := { frames := 0, cells := 0, slots := 0, locals := 0 }
set_option maxRecDepth 100000 in
def fX12_isLetter_J17 (N : Nat) (g : Gs) (x0 : Int32) (z0 : Int32) (d : Ds) : Option (Int32 × Ds) := gd (z0 = 0 ∨ z0 = 1) <| some (z0, d)
set_option maxHeartbeats 4000000 in
set_option maxRecDepth 100000 in
theorem tX12_isLetter_17 {p : Program} {l : Launch} {e : Env} {s : State} {m : MethodId} {args : Array Value} {below : List Frame} {meth : Method} {c : Code} {D : va_G} {cy : Nat → ClassId} {B : Bs} (C : Cx p s m args c cX12_isLetter 1 RX12 D cy B) (hr : meth.sig.returnType = (some .boolean)) (hlocks : meth.locks = false) {N : Nat} {g : Gs} {x0 : Int32} {vz : Int32} {dz : Ds} {z0 : Int32} {d : Ds} (hf : fX12_isLetter_J17 N g x0 z0 d = some (vz, dz)) : WB p l e rmX12_isLetter s m args below meth c 1 D cy B 0 0 (MQ below (QI D cy B vz g dz) args s 0 0 (wA B)) g d [(0, .int x0)] 17 [.int z0] := by
  unfold fX12_isLetter_J17 at hf
  obtain ⟨h2, hf⟩ := gd_s hf
  exact b_zret C hr hlocks h2 hf dX12_isLetter_17
set_option maxRecDepth 100000 in
def fX12_isLetter_J16 (N : Nat) (g : Gs) (x0 : Int32) (d : Ds) : Option (Int32 × Ds) := fX12_isLetter_J17 N g x0 0 d
set_option maxHeartbeats 4000000 in
set_option maxRecDepth 100000 in
theorem tX12_isLetter_16 {p : Program} {l : Launch} {e : Env} {s : State} {m : MethodId} {args : Array Value} {below : List Frame} {meth : Method} {c : Code} {D : va_G} {cy : Nat → ClassId} {B : Bs} (C : Cx p s m args c cX12_isLetter 1 RX12 D cy B) (hr : meth.sig.returnType = (some .boolean)) (hlocks : meth.locks = false) {N : Nat} {g : Gs} {x0 : Int32} {vz : Int32} {dz : Ds} {d : Ds} (hf : fX12_isLetter_J16 N g x0 d = some (vz, dz)) : WB p l e rmX12_isLetter s m args below meth c 1 D cy B 0 0 (MQ below (QI D cy B vz g dz) args s 0 0 (wA B)) g d [(0, .int x0)] 16 [] := by
  unfold fX12_isLetter_J16 at hf
  refine b_iconst C (v := 0) dX12_isLetter_16 (by decide) ?_
  refine b_sub [(0, .int x0)] [0] rfl ?_
  exact tX12_isLetter_17 C hr hlocks hf
set_option maxRecDepth 100000 in
def fX12_isLetter (N : Nat) (g : Gs) (x0 : Int32) (d : Ds) : Option (Int32 × Ds) := if x0 < (97 : Int32) then (fX12_isLetter_J16 N g x0 d) else (if (122 : Int32) < x0 then (fX12_isLetter_J16 N g x0 d) else (fX12_isLetter_J17 N g x0 1 d))
set_option maxHeartbeats 4000000 in
set_option maxRecDepth 100000 in
theorem tX12_isLetter_E {p : Program} {l : Launch} {e : Env} {s : State} {m : MethodId} {args : Array Value} {below : List Frame} {meth : Method} {c : Code} {D : va_G} {cy : Nat → ClassId} {B : Bs} (C : Cx p s m args c cX12_isLetter 1 RX12 D cy B) (hr : meth.sig.returnType = (some .boolean)) (hlocks : meth.locks = false) {N : Nat} {g : Gs} {x0 : Int32} {vz : Int32} {dz : Ds} {d : Ds} (hf : fX12_isLetter N g x0 d = some (vz, dz)) : WB p l e rmX12_isLetter s m args below meth c 1 D cy B 0 0 (MQ below (QI D cy B vz g dz) args s 0 0 (wA B)) g d [(0, .int x0)] 0 [] := by
  unfold fX12_isLetter at hf
  refine b_iload_n C dX12_isLetter_0 0 rfl rfl ?_
  refine b_bipush C (v := 97) dX12_isLetter_1 (by decide) ?_
  refine b_icmp_lt C (tgt := 16) dX12_isLetter_3 (by decide) (fun c1 => ?_) (fun c1 => ?_)
  · have hf := it_s c1 hf
    refine b_sub [(0, .int x0)] [0] rfl ?_
    exact tX12_isLetter_16 C hr hlocks hf
  · have hf := if_s c1 hf
    refine b_iload_n C dX12_isLetter_6 0 rfl rfl ?_
    refine b_bipush C (v := 122) dX12_isLetter_7 (by decide) ?_
    refine b_icmp_gt C (tgt := 16) dX12_isLetter_9 (by decide) (fun c3 => ?_) (fun c3 => ?_)
    · have hf := it_s c3 hf
      refine b_sub [(0, .int x0)] [0] rfl ?_
      exact tX12_isLetter_16 C hr hlocks hf
    · have hf := if_s c3 hf
      refine b_iconst C (v := 1) dX12_isLetter_12 (by decide) ?_
      refine b_goto C (tgt := 17) dX12_isLetter_13 (by decide) ?_
      refine b_sub [(0, .int x0)] [0] rfl ?_
      exact tX12_isLetter_17 C hr hlocks hf
theorem kX12_isLetter (l : Launch) (D : va_G) (cy : Nat → ClassId) (B : Bs) {N : Nat} {g : Gs} {x0 : Int32} {vz : Int32} {dz : Ds} {d : Ds} (hf : fX12_isLetter N g x0 d = some (vz, dz)) : Met l yX12_isLetter (.code yX12_isLetter cX12_isLetter 1 (some .boolean) :: wl) rmX12_isLetter (PC D cy B [.int x0] g d) (QI D cy B vz g dz) 0 0 (wA B) :=
  met_of (by decide +kernel) (Nat.le_of_ble_eq_true rfl) (fun p e s m args below meth c C hr hlocks _ => b_sub [(0, .int x0)] [0] rfl (tX12_isLetter_E C hr hlocks hf))
/-! KeyMatrixModel.token(IIIJ)V -/
theorem fl_X12_20 : FLR RX12 20 11 5 := ⟨⟨RX12, TX12, 33, rfl, by decide, inl11, Or.inl (mW (mT5 (List.mem_of_getElem? (i := 96) (by decide +kernel))) rfl)⟩, by decide, by decide +kernel⟩
theorem fl_X12_102 : FLI RX12 102 11 10 := ⟨⟨RX12, TX12, 33, rfl, by decide, inl11, Or.inl (mW (mT5 (List.mem_of_getElem? (i := 101) (by decide +kernel))) rfl)⟩, by decide, by decide +kernel⟩
theorem fl_X12_24 : FLR RX12 24 11 6 := ⟨⟨RX12, TX12, 33, rfl, by decide, inl11, Or.inl (mW (mT5 (List.mem_of_getElem? (i := 97) (by decide +kernel))) rfl)⟩, by decide, by decide +kernel⟩
theorem fl_X12_27 : FLR RX12 27 11 7 := ⟨⟨RX12, TX12, 33, rfl, by decide, inl11, Or.inl (mW (mT5 (List.mem_of_getElem? (i := 98) (by decide +kernel))) rfl)⟩, by decide, by decide +kernel⟩
theorem fl_X12_30 : FLR RX12 30 11 8 := ⟨⟨RX12, TX12, 33, rfl, by decide, inl11, Or.inl (mW (mT5 (List.mem_of_getElem? (i := 99) (by decide +kernel))) rfl)⟩, by decide, by decide +kernel⟩
theorem fp11_10 : FPI 11 10 := ⟨ft11, (RX12, TX12, 33), rfl, by decide +kernel, by decide +kernel⟩
theorem dX12_token_0 : decode cX12_token 0 = .ok (.aload_n 0, 1) := by decide +kernel
theorem dX12_token_1 : decode cX12_token 1 = .ok (.getfield 20, 3) := by decide +kernel
theorem dX12_token_4 : decode cX12_token 4 = .ok (.aload_n 0, 1) := by decide +kernel
theorem dX12_token_5 : decode cX12_token 5 = .ok (.getfield 102, 3) := by decide +kernel
theorem dX12_token_8 : decode cX12_token 8 = .ok (.iload_n 1, 1) := by decide +kernel
theorem dX12_token_9 : decode cX12_token 9 = .ok (.iastore, 1) := by decide +kernel
theorem dX12_token_10 : decode cX12_token 10 = .ok (.aload_n 0, 1) := by decide +kernel
theorem dX12_token_11 : decode cX12_token 11 = .ok (.getfield 24, 3) := by decide +kernel
theorem dX12_token_14 : decode cX12_token 14 = .ok (.aload_n 0, 1) := by decide +kernel
theorem dX12_token_15 : decode cX12_token 15 = .ok (.getfield 102, 3) := by decide +kernel
theorem dX12_token_18 : decode cX12_token 18 = .ok (.iload_n 2, 1) := by decide +kernel
theorem dX12_token_19 : decode cX12_token 19 = .ok (.iastore, 1) := by decide +kernel
theorem dX12_token_20 : decode cX12_token 20 = .ok (.aload_n 0, 1) := by decide +kernel
theorem dX12_token_21 : decode cX12_token 21 = .ok (.getfield 27, 3) := by decide +kernel
theorem dX12_token_24 : decode cX12_token 24 = .ok (.aload_n 0, 1) := by decide +kernel
theorem dX12_token_25 : decode cX12_token 25 = .ok (.getfield 102, 3) := by decide +kernel
theorem dX12_token_28 : decode cX12_token 28 = .ok (.iload_n 3, 1) := by decide +kernel
theorem dX12_token_29 : decode cX12_token 29 = .ok (.iastore, 1) := by decide +kernel
theorem dX12_token_30 : decode cX12_token 30 = .ok (.aload_n 0, 1) := by decide +kernel
theorem dX12_token_31 : decode cX12_token 31 = .ok (.getfield 30, 3) := by decide +kernel
theorem dX12_token_34 : decode cX12_token 34 = .ok (.aload_n 0, 1) := by decide +kernel
theorem dX12_token_35 : decode cX12_token 35 = .ok (.getfield 102, 3) := by decide +kernel
theorem dX12_token_38 : decode cX12_token 38 = .ok (.lload 4, 2) := by decide +kernel
theorem dX12_token_40 : decode cX12_token 40 = .ok (.lastore, 1) := by decide +kernel
theorem dX12_token_41 : decode cX12_token 41 = .ok (.aload_n 0, 1) := by decide +kernel
theorem dX12_token_42 : decode cX12_token 42 = .ok (.dup, 1) := by decide +kernel
theorem dX12_token_43 : decode cX12_token 43 = .ok (.getfield 102, 3) := by decide +kernel
theorem dX12_token_46 : decode cX12_token 46 = .ok (.iconst 1, 1) := by decide +kernel
theorem dX12_token_47 : decode cX12_token 47 = .ok (.iadd, 1) := by decide +kernel
theorem dX12_token_48 : decode cX12_token 48 = .ok (.putfield 102, 3) := by decide +kernel
theorem dX12_token_51 : decode cX12_token 51 = .ok (.return_, 1) := by decide +kernel
def rmX12_token : Room := { frames := 0, cells := 0, slots := 0, locals := 0 }
set_option maxRecDepth 100000 in
def fX12_token (N : Nat) (g : Gs) (x0 : Nat) (x1 : Int32) (x2 : Int32) (x3 : Int32) (x4 : Int64) (d : Ds) : Option (Unit × Ds) := gd (chk g x0 11) <| ob (gR g x0 5) fun r2 => (gd (chk g r2 102) <| gd (¬ ((dI d x0 10) < 0 ∨ gL g r2 ≤ (dI d x0 10).toNatClampNeg)) <| bd (sI d r2 (dI d x0 10).toNatClampNeg x1) fun d5 => (ob (gR g x0 6) fun r6 => (gd (chk g r6 102) <| gd (¬ ((dI d5 x0 10) < 0 ∨ gL g r6 ≤ (dI d5 x0 10).toNatClampNeg)) <| bd (sI d5 r6 (dI d5 x0 10).toNatClampNeg x2) fun d9 => (ob (gR g x0 7) fun r10 => (gd (chk g r10 102) <| gd (¬ ((dI d9 x0 10) < 0 ∨ gL g r10 ≤ (dI d9 x0 10).toNatClampNeg)) <| bd (sI d9 r10 (dI d9 x0 10).toNatClampNeg x3) fun d13 => (ob (gR g x0 8) fun r14 => (gd (chk g r14 103) <| gd (¬ ((dI d13 x0 10) < 0 ∨ gL g r14 ≤ (dI d13 x0 10).toNatClampNeg)) <| bd (sL d13 r14 (dI d13 x0 10).toNatClampNeg x4) fun d17 => (bd (sI d17 x0 10 ((dI d17 x0 10) + 1)) fun d18 => (some ((), d18))))))))))
set_option maxHeartbeats 4000000 in
set_option maxRecDepth 100000 in
theorem tX12_token_E {p : Program} {l : Launch} {e : Env} {s : State} {m : MethodId} {args : Array Value} {below : List Frame} {meth : Method} {c : Code} {D : va_G} {cy : Nat → ClassId} {B : Bs} (C : Cx p s m args c cX12_token 6 RX12 D cy B) (hr : meth.sig.returnType = none) (hlocks : meth.locks = false) {N : Nat} {g : Gs} {x0 : Nat} {x1 : Int32} {x2 : Int32} {x3 : Int32} {x4 : Int64}  {dz : Ds} {d : Ds} (hf : fX12_token N g x0 x1 x2 x3 x4 d = some ((), dz)) : WB p l e rmX12_token s m args below meth c 6 D cy B 0 0 (MQ below (QV D cy B g dz) args s 0 0 (wA B)) g d [(0, .ref (ad B x0)), (1, .int x1), (2, .int x2), (3, .int x3), (4, .long x4)] 0 [] := by
  unfold fX12_token at hf
  refine b_aload_n C dX12_token_0 0 rfl rfl ?_
  obtain ⟨h1, hf⟩ := gd_s hf
  obtain ⟨r2, er2, hf⟩ := ob_s hf
  refine b_gR C dX12_token_1 fl_X12_20 h1 er2 ?_
  refine b_aload_n C dX12_token_4 0 rfl rfl ?_
  refine b_gI C dX12_token_5 fl_X12_102 h1 ?_
  refine b_iload_n C dX12_token_8 1 rfl rfl ?_
  obtain ⟨h3, hf⟩ := gd_s hf
  obtain ⟨h4, hf⟩ := gd_s hf
  obtain ⟨d5, ed5, hf⟩ := bd_s hf
  refine b_iast C h3 h4 ed5 dX12_token_9 ?_
  refine b_aload_n C dX12_token_10 0 rfl rfl ?_
  obtain ⟨r6, er6, hf⟩ := ob_s hf
  refine b_gR C dX12_token_11 fl_X12_24 h1 er6 ?_
  refine b_aload_n C dX12_token_14 0 rfl rfl ?_
  refine b_gI C dX12_token_15 fl_X12_102 h1 ?_
  refine b_iload_n C dX12_token_18 2 rfl rfl ?_
  obtain ⟨h7, hf⟩ := gd_s hf
  obtain ⟨h8, hf⟩ := gd_s hf
  obtain ⟨d9, ed9, hf⟩ := bd_s hf
  refine b_iast C h7 h8 ed9 dX12_token_19 ?_
  refine b_aload_n C dX12_token_20 0 rfl rfl ?_
  obtain ⟨r10, er10, hf⟩ := ob_s hf
  refine b_gR C dX12_token_21 fl_X12_27 h1 er10 ?_
  refine b_aload_n C dX12_token_24 0 rfl rfl ?_
  refine b_gI C dX12_token_25 fl_X12_102 h1 ?_
  refine b_iload_n C dX12_token_28 3 rfl rfl ?_
  obtain ⟨h11, hf⟩ := gd_s hf
  obtain ⟨h12, hf⟩ := gd_s hf
  obtain ⟨d13, ed13, hf⟩ := bd_s hf
  refine b_iast C h11 h12 ed13 dX12_token_29 ?_
  refine b_aload_n C dX12_token_30 0 rfl rfl ?_
  obtain ⟨r14, er14, hf⟩ := ob_s hf
  refine b_gR C dX12_token_31 fl_X12_30 h1 er14 ?_
  refine b_aload_n C dX12_token_34 0 rfl rfl ?_
  refine b_gI C dX12_token_35 fl_X12_102 h1 ?_
  refine b_lload C dX12_token_38 4 rfl ?_
  obtain ⟨h15, hf⟩ := gd_s hf
  obtain ⟨h16, hf⟩ := gd_s hf
  obtain ⟨d17, ed17, hf⟩ := bd_s hf
  refine b_last C h15 h16 ed17 dX12_token_40 ?_
  refine b_aload_n C dX12_token_41 0 rfl rfl ?_
  refine b_dup C dX12_token_42 rfl ?_
  refine b_gI C dX12_token_43 fl_X12_102 h1 ?_
  refine b_iconst C (v := 1) dX12_token_46 (by decide) ?_
  refine b_iadd C dX12_token_47 ?_
  obtain ⟨d18, ed18, hf⟩ := bd_s hf
  refine b_pI C dX12_token_48 fl_X12_102 fp11_10 h1 ed18 ?_
  exact b_vret C hr hlocks hf dX12_token_51
theorem kX12_token (l : Launch) (D : va_G) (cy : Nat → ClassId) (B : Bs) {N : Nat} {g : Gs} {x0 : Nat} {x1 : Int32} {x2 : Int32} {x3 : Int32} {x4 : Int64}  {dz : Ds} {d : Ds} (hf : fX12_token N g x0 x1 x2 x3 x4 d = some ((), dz)) : Met l yX12_token (.code yX12_token cX12_token 6 none :: wl) rmX12_token (PC D cy B [.ref (ad B x0), .int x1, .int x2, .int x3, .long x4] g d) (QV D cy B g dz) 0 0 (wA B) :=
  met_of (by decide +kernel) (Nat.le_of_ble_eq_true rfl) (fun p e s m args below meth c C hr hlocks _ => b_sub [(0, .ref (ad B x0)), (1, .int x1), (2, .int x2), (3, .int x3), (4, .long x4)] [0, 1, 2, 3, 4] rfl (tX12_token_E C hr hlocks hf))
/-! KeyMatrixModel.sign(II)I -/
theorem yo_X12_token : yX12_token.cls ≠ "java/lang/invoke/MethodHandle" ∧ yX12_token.cls ≠ "java/lang/invoke/VarHandle" ∧ (parseMethodDescriptor yX12_token.desc).map (fun d => d.parameters.length) = some 4 := by decide +kernel
theorem co_X12_token : Cond.code yX12_token cX12_token 6 none ∈ wl := mW (mT5 (List.mem_of_getElem? (i := 220) (by decide +kernel))) rfl
theorem in_X12_token : Cond.initialized yX12_token.cls ∈ wl := mW (mT1 (List.mem_of_getElem? (i := 12) (by decide +kernel))) rfl
theorem im_X12_token : Cond.instanceMethod yX12_token ∈ wl := mW (mT5 (List.mem_of_getElem? (i := 219) (by decide +kernel))) rfl
theorem se_X12_token : Cond.selects yX12_token.cls yX12_token yX12_token ∈ wl := mW (mT0 (List.mem_of_getElem? (i := 35) (by decide +kernel))) rfl
theorem lv_X12_109 : LV RX12 109 yX12_token cX12_token 6 none 4 11 := ⟨⟨(RX12, TX12, 33), rfl, rfl⟩, yo_X12_token, mW (mT5 (List.mem_of_getElem? (i := 217) (by decide +kernel))) rfl, im_X12_token, se_X12_token, in_X12_token, co_X12_token⟩
theorem dX12_sign_0 : decode cX12_sign 0 = .ok (.aload_n 0, 1) := by decide +kernel
theorem dX12_sign_1 : decode cX12_sign 1 = .ok (.iload_n 2, 1) := by decide +kernel
theorem dX12_sign_2 : decode cX12_sign 2 = .ok (.bipush 59, 2) := by decide +kernel
theorem dX12_sign_4 : decode cX12_sign 4 = .ok (.if_icmp .ne 7, 3) := by decide +kernel
theorem dX12_sign_7 : decode cX12_sign 7 = .ok (.iconst 4, 1) := by decide +kernel
theorem dX12_sign_8 : decode cX12_sign 8 = .ok (.goto 4, 3) := by decide +kernel
theorem dX12_sign_11 : decode cX12_sign 11 = .ok (.iconst 3, 1) := by decide +kernel
theorem dX12_sign_12 : decode cX12_sign 12 = .ok (.iload_n 1, 1) := by decide +kernel
theorem dX12_sign_13 : decode cX12_sign 13 = .ok (.iconst 0, 1) := by decide +kernel
theorem dX12_sign_14 : decode cX12_sign 14 = .ok (.lconst 0, 1) := by decide +kernel
theorem dX12_sign_15 : decode cX12_sign 15 = .ok (.invokevirtual 109, 3) := by decide +kernel
theorem dX12_sign_18 : decode cX12_sign 18 = .ok (.iconst 1, 1) := by decide +kernel
theorem dX12_sign_19 : decode cX12_sign 19 = .ok (.ireturn, 1) := by decide +kernel
def rmX12_sign : Room := { frames := 1, cells := 0, slots := 0, locals := 25 }
set_option maxRecDepth 100000 in
def fX12_sign_J12 (N : Nat) (g : Gs) (x0 : Nat) (x1 : Int32) (x2 : Int32) (z0 : Int32) (z1 : Nat) (d : Ds) : Option (Int32 × Ds) := gd (chk g z1 11) <| cv (fX12_token N g z1 z0 x1 0 0 d) fun d3 => (some (1, d3))
set_option maxHeartbeats 4000000 in
set_option maxRecDepth 100000 in
theorem tX12_sign_12 {p : Program} {l : Launch} {e : Env} {s : State} {m : MethodId} {args : Array Value} {below : List Frame} {meth : Method} {c : Code} {D : va_G} {cy : Nat → ClassId} {B : Bs} (C : Cx p s m args c cX12_sign 3 RX12 D cy B) (hr : meth.sig.returnType = (some .int)) (hlocks : meth.locks = false) {N : Nat} {g : Gs} {x0 : Nat} {x1 : Int32} {x2 : Int32} {vz : Int32} {dz : Ds} {z0 : Int32} {z1 : Nat} {d : Ds} (hf : fX12_sign_J12 N g x0 x1 x2 z0 z1 d = some (vz, dz)) : WB p l e rmX12_sign s m args below meth c 3 D cy B 0 0 (MQ below (QI D cy B vz g dz) args s 0 0 (wA B)) g d [(0, .ref (ad B x0)), (1, .int x1), (2, .int x2)] 12 [.int z0, .ref (ad B z1)] := by
  unfold fX12_sign_J12 at hf
  refine b_iload_n C dX12_sign_12 1 rfl rfl ?_
  refine b_iconst C (v := 0) dX12_sign_13 (by decide) ?_
  refine b_lconst C (v := 0) dX12_sign_14 (by decide) ?_
  obtain ⟨h2, hf⟩ := gd_s hf
  obtain ⟨d3, k4, hf⟩ := cv_s hf
  refine b_cVN C [] dX12_sign_15 (kX12_token l D cy B k4) lv_X12_109 ⟨rfl, rfl, Nat.le_of_ble_eq_true rfl, Nat.le_of_ble_eq_true rfl⟩ h2 (by decide) rfl (Nat.le_of_ble_eq_true rfl) ⟨Nat.zero_le _, Nat.zero_le _⟩ rfl ?_
  refine b_iconst C (v := 1) dX12_sign_18 (by decide) ?_
  exact b_iret C hr hlocks hf dX12_sign_19
set_option maxRecDepth 100000 in
def fX12_sign (N : Nat) (g : Gs) (x0 : Nat) (x1 : Int32) (x2 : Int32) (d : Ds) : Option (Int32 × Ds) := if x2 = (59 : Int32) then (fX12_sign_J12 N g x0 x1 x2 4 x0 d) else (fX12_sign_J12 N g x0 x1 x2 3 x0 d)
set_option maxHeartbeats 4000000 in
set_option maxRecDepth 100000 in
theorem tX12_sign_E {p : Program} {l : Launch} {e : Env} {s : State} {m : MethodId} {args : Array Value} {below : List Frame} {meth : Method} {c : Code} {D : va_G} {cy : Nat → ClassId} {B : Bs} (C : Cx p s m args c cX12_sign 3 RX12 D cy B) (hr : meth.sig.returnType = (some .int)) (hlocks : meth.locks = false) {N : Nat} {g : Gs} {x0 : Nat} {x1 : Int32} {x2 : Int32} {vz : Int32} {dz : Ds} {d : Ds} (hf : fX12_sign N g x0 x1 x2 d = some (vz, dz)) : WB p l e rmX12_sign s m args below meth c 3 D cy B 0 0 (MQ below (QI D cy B vz g dz) args s 0 0 (wA B)) g d [(0, .ref (ad B x0)), (1, .int x1), (2, .int x2)] 0 [] := by
  unfold fX12_sign at hf
  refine b_aload_n C dX12_sign_0 0 rfl rfl ?_
  refine b_iload_n C dX12_sign_1 2 rfl rfl ?_
  refine b_bipush C (v := 59) dX12_sign_2 (by decide) ?_
  refine b_icmp_ne C (tgt := 11) dX12_sign_4 (by decide) (fun c1 => ?_) (fun c1 => ?_)
  · have hf := if_s c1 hf
    refine b_iconst C (v := 3) dX12_sign_11 (by decide) ?_
    refine b_sub [(0, .ref (ad B x0)), (1, .int x1), (2, .int x2)] [0, 1, 2] rfl ?_
    exact tX12_sign_12 C hr hlocks hf
  · have hf := it_s c1 hf
    refine b_iconst C (v := 4) dX12_sign_7 (by decide) ?_
    refine b_goto C (tgt := 12) dX12_sign_8 (by decide) ?_
    refine b_sub [(0, .ref (ad B x0)), (1, .int x1), (2, .int x2)] [0, 1, 2] rfl ?_
    exact tX12_sign_12 C hr hlocks hf
theorem kX12_sign (l : Launch) (D : va_G) (cy : Nat → ClassId) (B : Bs) {N : Nat} {g : Gs} {x0 : Nat} {x1 : Int32} {x2 : Int32} {vz : Int32} {dz : Ds} {d : Ds} (hf : fX12_sign N g x0 x1 x2 d = some (vz, dz)) : Met l yX12_sign (.code yX12_sign cX12_sign 3 (some .int) :: wl) rmX12_sign (PC D cy B [.ref (ad B x0), .int x1, .int x2] g d) (QI D cy B vz g dz) 0 0 (wA B) :=
  met_of (by decide +kernel) (Nat.le_of_ble_eq_true rfl) (fun p e s m args below meth c C hr hlocks _ => b_sub [(0, .ref (ad B x0)), (1, .int x1), (2, .int x2)] [0, 1, 2] rfl (tX12_sign_E C hr hlocks hf))
/-! KeyMatrixModel.cutsText()V -/
theorem yo_X12_byteAt : yX12_byteAt.cls ≠ "java/lang/invoke/MethodHandle" ∧ yX12_byteAt.cls ≠ "java/lang/invoke/VarHandle" ∧ (parseMethodDescriptor yX12_byteAt.desc).map (fun d => d.parameters.length) = some 1 := by decide +kernel
theorem co_X12_byteAt : Cond.code yX12_byteAt cX12_byteAt 2 (some .int) ∈ wl := mW (mT5 (List.mem_of_getElem? (i := 216) (by decide +kernel))) rfl
theorem in_X12_byteAt : Cond.initialized yX12_byteAt.cls ∈ wl := mW (mT1 (List.mem_of_getElem? (i := 12) (by decide +kernel))) rfl
theorem im_X12_byteAt : Cond.instanceMethod yX12_byteAt ∈ wl := mW (mT5 (List.mem_of_getElem? (i := 215) (by decide +kernel))) rfl
theorem se_X12_byteAt : Cond.selects yX12_byteAt.cls yX12_byteAt yX12_byteAt ∈ wl := mW (mT0 (List.mem_of_getElem? (i := 34) (by decide +kernel))) rfl
theorem lv_X12_105 : LV RX12 105 yX12_byteAt cX12_byteAt 2 (some .int) 1 11 := ⟨⟨(RX12, TX12, 33), rfl, rfl⟩, yo_X12_byteAt, mW (mT5 (List.mem_of_getElem? (i := 213) (by decide +kernel))) rfl, im_X12_byteAt, se_X12_byteAt, in_X12_byteAt, co_X12_byteAt⟩
theorem yo_X12_isLetter : yX12_isLetter.cls ≠ "java/lang/invoke/MethodHandle" ∧ yX12_isLetter.cls ≠ "java/lang/invoke/VarHandle" ∧ (parseMethodDescriptor yX12_isLetter.desc).map (fun d => d.parameters.length) = some 1 := by decide +kernel
theorem co_X12_isLetter : Cond.code yX12_isLetter cX12_isLetter 1 (some .boolean) ∈ wl := mW (mT5 (List.mem_of_getElem? (i := 223) (by decide +kernel))) rfl
theorem in_X12_isLetter : Cond.initialized yX12_isLetter.cls ∈ wl := mW (mT1 (List.mem_of_getElem? (i := 12) (by decide +kernel))) rfl
theorem st_X12_isLetter : Cond.static yX12_isLetter ∈ wl := mW (mT5 (List.mem_of_getElem? (i := 222) (by decide +kernel))) rfl
theorem lv_X12_113 : LSt RX12 113 yX12_isLetter cX12_isLetter 1 (some .boolean) 1 := ⟨yo_X12_isLetter, Or.inl (mW (mT5 (List.mem_of_getElem? (i := 221) (by decide +kernel))) rfl), st_X12_isLetter, in_X12_isLetter, co_X12_isLetter⟩
theorem yo_X12_isDigit : yX12_isDigit.cls ≠ "java/lang/invoke/MethodHandle" ∧ yX12_isDigit.cls ≠ "java/lang/invoke/VarHandle" ∧ (parseMethodDescriptor yX12_isDigit.desc).map (fun d => d.parameters.length) = some 1 := by decide +kernel
theorem co_X12_isDigit : Cond.code yX12_isDigit cX12_isDigit 1 (some .boolean) ∈ wl := mW (mT5 (List.mem_of_getElem? (i := 226) (by decide +kernel))) rfl
theorem in_X12_isDigit : Cond.initialized yX12_isDigit.cls ∈ wl := mW (mT1 (List.mem_of_getElem? (i := 12) (by decide +kernel))) rfl
theorem st_X12_isDigit : Cond.static yX12_isDigit ∈ wl := mW (mT5 (List.mem_of_getElem? (i := 225) (by decide +kernel))) rfl
theorem lv_X12_117 : LSt RX12 117 yX12_isDigit cX12_isDigit 1 (some .boolean) 1 := ⟨yo_X12_isDigit, Or.inl (mW (mT5 (List.mem_of_getElem? (i := 224) (by decide +kernel))) rfl), st_X12_isDigit, in_X12_isDigit, co_X12_isDigit⟩
theorem yo_X12_sign : yX12_sign.cls ≠ "java/lang/invoke/MethodHandle" ∧ yX12_sign.cls ≠ "java/lang/invoke/VarHandle" ∧ (parseMethodDescriptor yX12_sign.desc).map (fun d => d.parameters.length) = some 2 := by decide +kernel
theorem co_X12_sign : Cond.code yX12_sign cX12_sign 3 (some .int) ∈ wl := mW (mT5 (List.mem_of_getElem? (i := 230) (by decide +kernel))) rfl
theorem in_X12_sign : Cond.initialized yX12_sign.cls ∈ wl := mW (mT1 (List.mem_of_getElem? (i := 12) (by decide +kernel))) rfl
theorem im_X12_sign : Cond.instanceMethod yX12_sign ∈ wl := mW (mT5 (List.mem_of_getElem? (i := 229) (by decide +kernel))) rfl
theorem se_X12_sign : Cond.selects yX12_sign.cls yX12_sign yX12_sign ∈ wl := mW (mT0 (List.mem_of_getElem? (i := 36) (by decide +kernel))) rfl
theorem lv_X12_120 : LV RX12 120 yX12_sign cX12_sign 3 (some .int) 2 11 := ⟨⟨(RX12, TX12, 33), rfl, rfl⟩, yo_X12_sign, mW (mT5 (List.mem_of_getElem? (i := 227) (by decide +kernel))) rfl, im_X12_sign, se_X12_sign, in_X12_sign, co_X12_sign⟩
theorem dX12_cutsText_0 : decode cX12_cutsText 0 = .ok (.aload_n 0, 1) := by decide +kernel
theorem dX12_cutsText_1 : decode cX12_cutsText 1 = .ok (.iconst 0, 1) := by decide +kernel
theorem dX12_cutsText_2 : decode cX12_cutsText 2 = .ok (.putfield 102, 3) := by decide +kernel
theorem dX12_cutsText_5 : decode cX12_cutsText 5 = .ok (.iconst 0, 1) := by decide +kernel
theorem dX12_cutsText_6 : decode cX12_cutsText 6 = .ok (.istore_n 1, 1) := by decide +kernel
theorem dX12_cutsText_7 : decode cX12_cutsText 7 = .ok (.aload_n 0, 1) := by decide +kernel
theorem dX12_cutsText_8 : decode cX12_cutsText 8 = .ok (.getfield 102, 3) := by decide +kernel
theorem dX12_cutsText_11 : decode cX12_cutsText 11 = .ok (.sipush 400, 3) := by decide +kernel
theorem dX12_cutsText_14 : decode cX12_cutsText 14 = .ok (.if_icmp .gt 273, 3) := by decide +kernel
theorem dX12_cutsText_17 : decode cX12_cutsText 17 = .ok (.aload_n 0, 1) := by decide +kernel
theorem dX12_cutsText_18 : decode cX12_cutsText 18 = .ok (.iload_n 1, 1) := by decide +kernel
theorem dX12_cutsText_19 : decode cX12_cutsText 19 = .ok (.invokevirtual 105, 3) := by decide +kernel
theorem dX12_cutsText_22 : decode cX12_cutsText 22 = .ok (.istore_n 2, 1) := by decide +kernel
theorem dX12_cutsText_23 : decode cX12_cutsText 23 = .ok (.iload_n 1, 1) := by decide +kernel
theorem dX12_cutsText_24 : decode cX12_cutsText 24 = .ok (.aload_n 0, 1) := by decide +kernel
theorem dX12_cutsText_25 : decode cX12_cutsText 25 = .ok (.getfield 97, 3) := by decide +kernel
theorem dX12_cutsText_28 : decode cX12_cutsText 28 = .ok (.if_icmp .lt 15, 3) := by decide +kernel
theorem dX12_cutsText_31 : decode cX12_cutsText 31 = .ok (.aload_n 0, 1) := by decide +kernel
theorem dX12_cutsText_32 : decode cX12_cutsText 32 = .ok (.iconst 0, 1) := by decide +kernel
theorem dX12_cutsText_33 : decode cX12_cutsText 33 = .ok (.aload_n 0, 1) := by decide +kernel
theorem dX12_cutsText_34 : decode cX12_cutsText 34 = .ok (.getfield 97, 3) := by decide +kernel
theorem dX12_cutsText_37 : decode cX12_cutsText 37 = .ok (.iconst 0, 1) := by decide +kernel
theorem dX12_cutsText_38 : decode cX12_cutsText 38 = .ok (.lconst 0, 1) := by decide +kernel
theorem dX12_cutsText_39 : decode cX12_cutsText 39 = .ok (.invokevirtual 109, 3) := by decide +kernel
theorem dX12_cutsText_42 : decode cX12_cutsText 42 = .ok (.return_, 1) := by decide +kernel
theorem dX12_cutsText_43 : decode cX12_cutsText 43 = .ok (.iload_n 2, 1) := by decide +kernel
theorem dX12_cutsText_44 : decode cX12_cutsText 44 = .ok (.bipush 9, 2) := by decide +kernel
theorem dX12_cutsText_46 : decode cX12_cutsText 46 = .ok (.if_icmp .eq 21, 3) := by decide +kernel
theorem dX12_cutsText_49 : decode cX12_cutsText 49 = .ok (.iload_n 2, 1) := by decide +kernel
theorem dX12_cutsText_50 : decode cX12_cutsText 50 = .ok (.bipush 10, 2) := by decide +kernel
theorem dX12_cutsText_52 : decode cX12_cutsText 52 = .ok (.if_icmp .eq 15, 3) := by decide +kernel
theorem dX12_cutsText_55 : decode cX12_cutsText 55 = .ok (.iload_n 2, 1) := by decide +kernel
theorem dX12_cutsText_56 : decode cX12_cutsText 56 = .ok (.bipush 13, 2) := by decide +kernel
theorem dX12_cutsText_58 : decode cX12_cutsText 58 = .ok (.if_icmp .eq 9, 3) := by decide +kernel
theorem dX12_cutsText_61 : decode cX12_cutsText 61 = .ok (.iload_n 2, 1) := by decide +kernel
theorem dX12_cutsText_62 : decode cX12_cutsText 62 = .ok (.bipush 32, 2) := by decide +kernel
theorem dX12_cutsText_64 : decode cX12_cutsText 64 = .ok (.if_icmp .ne 9, 3) := by decide +kernel
theorem dX12_cutsText_67 : decode cX12_cutsText 67 = .ok (.iinc 1 1, 3) := by decide +kernel
theorem dX12_cutsText_70 : decode cX12_cutsText 70 = .ok (.goto 214, 3) := by decide +kernel
theorem dX12_cutsText_73 : decode cX12_cutsText 73 = .ok (.iload_n 2, 1) := by decide +kernel
theorem dX12_cutsText_74 : decode cX12_cutsText 74 = .ok (.invokestatic 113, 3) := by decide +kernel
theorem dX12_cutsText_77 : decode cX12_cutsText 77 = .ok (.ifCond .eq 119, 3) := by decide +kernel
theorem dX12_cutsText_80 : decode cX12_cutsText 80 = .ok (.iconst 0, 1) := by decide +kernel
theorem dX12_cutsText_81 : decode cX12_cutsText 81 = .ok (.istore_n 3, 1) := by decide +kernel
theorem dX12_cutsText_82 : decode cX12_cutsText 82 = .ok (.lconst 0, 1) := by decide +kernel
theorem dX12_cutsText_83 : decode cX12_cutsText 83 = .ok (.lstore 4, 2) := by decide +kernel
theorem dX12_cutsText_85 : decode cX12_cutsText 85 = .ok (.aload_n 0, 1) := by decide +kernel
theorem dX12_cutsText_86 : decode cX12_cutsText 86 = .ok (.iload_n 1, 1) := by decide +kernel
theorem dX12_cutsText_87 : decode cX12_cutsText 87 = .ok (.iload_n 3, 1) := by decide +kernel
theorem dX12_cutsText_88 : decode cX12_cutsText 88 = .ok (.iadd, 1) := by decide +kernel
theorem dX12_cutsText_89 : decode cX12_cutsText 89 = .ok (.invokevirtual 105, 3) := by decide +kernel
theorem dX12_cutsText_92 : decode cX12_cutsText 92 = .ok (.invokestatic 113, 3) := by decide +kernel
theorem dX12_cutsText_95 : decode cX12_cutsText 95 = .ok (.ifCond .eq 29, 3) := by decide +kernel
theorem dX12_cutsText_98 : decode cX12_cutsText 98 = .ok (.iload_n 3, 1) := by decide +kernel
theorem dX12_cutsText_99 : decode cX12_cutsText 99 = .ok (.bipush 8, 2) := by decide +kernel
theorem dX12_cutsText_101 : decode cX12_cutsText 101 = .ok (.if_icmp .ge 17, 3) := by decide +kernel
theorem dX12_cutsText_104 : decode cX12_cutsText 104 = .ok (.lload 4, 2) := by decide +kernel
theorem dX12_cutsText_106 : decode cX12_cutsText 106 = .ok (.aload_n 0, 1) := by decide +kernel
theorem dX12_cutsText_107 : decode cX12_cutsText 107 = .ok (.iload_n 1, 1) := by decide +kernel
theorem dX12_cutsText_108 : decode cX12_cutsText 108 = .ok (.iload_n 3, 1) := by decide +kernel
theorem dX12_cutsText_109 : decode cX12_cutsText 109 = .ok (.iadd, 1) := by decide +kernel
theorem dX12_cutsText_110 : decode cX12_cutsText 110 = .ok (.invokevirtual 105, 3) := by decide +kernel
theorem dX12_cutsText_113 : decode cX12_cutsText 113 = .ok (.invokestatic 79, 3) := by decide +kernel
theorem dX12_cutsText_116 : decode cX12_cutsText 116 = .ok (.lstore 4, 2) := by decide +kernel
theorem dX12_cutsText_118 : decode cX12_cutsText 118 = .ok (.iinc 3 1, 3) := by decide +kernel
theorem dX12_cutsText_121 : decode cX12_cutsText 121 = .ok (.goto (-36), 3) := by decide +kernel
theorem dX12_cutsText_124 : decode cX12_cutsText 124 = .ok (.iload_n 3, 1) := by decide +kernel
theorem dX12_cutsText_125 : decode cX12_cutsText 125 = .ok (.bipush 8, 2) := by decide +kernel
theorem dX12_cutsText_127 : decode cX12_cutsText 127 = .ok (.if_icmp .le 7, 3) := by decide +kernel
theorem dX12_cutsText_130 : decode cX12_cutsText 130 = .ok (.iconst 3, 1) := by decide +kernel
theorem dX12_cutsText_131 : decode cX12_cutsText 131 = .ok (.goto 4, 3) := by decide +kernel
theorem dX12_cutsText_134 : decode cX12_cutsText 134 = .ok (.iconst 1, 1) := by decide +kernel
theorem dX12_cutsText_135 : decode cX12_cutsText 135 = .ok (.istore 6, 2) := by decide +kernel
theorem dX12_cutsText_137 : decode cX12_cutsText 137 = .ok (.iload_n 3, 1) := by decide +kernel
theorem dX12_cutsText_138 : decode cX12_cutsText 138 = .ok (.bipush 8, 2) := by decide +kernel
theorem dX12_cutsText_140 : decode cX12_cutsText 140 = .ok (.if_icmp .gt 39, 3) := by decide +kernel
theorem dX12_cutsText_143 : decode cX12_cutsText 143 = .ok (.iconst 0, 1) := by decide +kernel
theorem dX12_cutsText_144 : decode cX12_cutsText 144 = .ok (.istore 7, 2) := by decide +kernel
theorem dX12_cutsText_146 : decode cX12_cutsText 146 = .ok (.iload 7, 2) := by decide +kernel
theorem dX12_cutsText_148 : decode cX12_cutsText 148 = .ok (.bipush 20, 2) := by decide +kernel
theorem dX12_cutsText_150 : decode cX12_cutsText 150 = .ok (.if_icmp .ge 29, 3) := by decide +kernel
theorem dX12_cutsText_153 : decode cX12_cutsText 153 = .ok (.aload_n 0, 1) := by decide +kernel
theorem dX12_cutsText_154 : decode cX12_cutsText 154 = .ok (.getfield 34, 3) := by decide +kernel
theorem dX12_cutsText_157 : decode cX12_cutsText 157 = .ok (.iload 7, 2) := by decide +kernel
theorem dX12_cutsText_159 : decode cX12_cutsText 159 = .ok (.laload, 1) := by decide +kernel
theorem dX12_cutsText_160 : decode cX12_cutsText 160 = .ok (.lload 4, 2) := by decide +kernel
theorem dX12_cutsText_162 : decode cX12_cutsText 162 = .ok (.lcmp, 1) := by decide +kernel
theorem dX12_cutsText_163 : decode cX12_cutsText 163 = .ok (.ifCond .ne 10, 3) := by decide +kernel
theorem dX12_cutsText_166 : decode cX12_cutsText 166 = .ok (.bipush 20, 2) := by decide +kernel
theorem dX12_cutsText_168 : decode cX12_cutsText 168 = .ok (.iload 7, 2) := by decide +kernel
theorem dX12_cutsText_170 : decode cX12_cutsText 170 = .ok (.iadd, 1) := by decide +kernel
theorem dX12_cutsText_171 : decode cX12_cutsText 171 = .ok (.istore 6, 2) := by decide +kernel
theorem dX12_cutsText_173 : decode cX12_cutsText 173 = .ok (.iinc 7 1, 3) := by decide +kernel
theorem dX12_cutsText_176 : decode cX12_cutsText 176 = .ok (.goto (-30), 3) := by decide +kernel
theorem dX12_cutsText_179 : decode cX12_cutsText 179 = .ok (.aload_n 0, 1) := by decide +kernel
theorem dX12_cutsText_180 : decode cX12_cutsText 180 = .ok (.iload 6, 2) := by decide +kernel
theorem dX12_cutsText_182 : decode cX12_cutsText 182 = .ok (.iload_n 1, 1) := by decide +kernel
theorem dX12_cutsText_183 : decode cX12_cutsText 183 = .ok (.iconst 0, 1) := by decide +kernel
theorem dX12_cutsText_184 : decode cX12_cutsText 184 = .ok (.lload 4, 2) := by decide +kernel
theorem dX12_cutsText_186 : decode cX12_cutsText 186 = .ok (.invokevirtual 109, 3) := by decide +kernel
theorem dX12_cutsText_189 : decode cX12_cutsText 189 = .ok (.iload_n 1, 1) := by decide +kernel
theorem dX12_cutsText_190 : decode cX12_cutsText 190 = .ok (.iload_n 3, 1) := by decide +kernel
theorem dX12_cutsText_191 : decode cX12_cutsText 191 = .ok (.iadd, 1) := by decide +kernel
theorem dX12_cutsText_192 : decode cX12_cutsText 192 = .ok (.istore_n 1, 1) := by decide +kernel
theorem dX12_cutsText_193 : decode cX12_cutsText 193 = .ok (.goto 91, 3) := by decide +kernel
theorem dX12_cutsText_196 : decode cX12_cutsText 196 = .ok (.iload_n 2, 1) := by decide +kernel
theorem dX12_cutsText_197 : decode cX12_cutsText 197 = .ok (.invokestatic 117, 3) := by decide +kernel
theorem dX12_cutsText_200 : decode cX12_cutsText 200 = .ok (.ifCond .eq 75, 3) := by decide +kernel
theorem dX12_cutsText_203 : decode cX12_cutsText 203 = .ok (.iconst 0, 1) := by decide +kernel
theorem dX12_cutsText_204 : decode cX12_cutsText 204 = .ok (.istore_n 3, 1) := by decide +kernel
theorem dX12_cutsText_205 : decode cX12_cutsText 205 = .ok (.iconst 0, 1) := by decide +kernel
theorem dX12_cutsText_206 : decode cX12_cutsText 206 = .ok (.istore 4, 2) := by decide +kernel
theorem dX12_cutsText_208 : decode cX12_cutsText 208 = .ok (.aload_n 0, 1) := by decide +kernel
theorem dX12_cutsText_209 : decode cX12_cutsText 209 = .ok (.iload_n 1, 1) := by decide +kernel
theorem dX12_cutsText_210 : decode cX12_cutsText 210 = .ok (.iload_n 3, 1) := by decide +kernel
theorem dX12_cutsText_211 : decode cX12_cutsText 211 = .ok (.iadd, 1) := by decide +kernel
theorem dX12_cutsText_212 : decode cX12_cutsText 212 = .ok (.invokevirtual 105, 3) := by decide +kernel
theorem dX12_cutsText_215 : decode cX12_cutsText 215 = .ok (.invokestatic 117, 3) := by decide +kernel
theorem dX12_cutsText_218 : decode cX12_cutsText 218 = .ok (.ifCond .eq 32, 3) := by decide +kernel
theorem dX12_cutsText_221 : decode cX12_cutsText 221 = .ok (.iload_n 3, 1) := by decide +kernel
theorem dX12_cutsText_222 : decode cX12_cutsText 222 = .ok (.iconst 4, 1) := by decide +kernel
theorem dX12_cutsText_223 : decode cX12_cutsText 223 = .ok (.if_icmp .ge 21, 3) := by decide +kernel
theorem dX12_cutsText_226 : decode cX12_cutsText 226 = .ok (.bipush 10, 2) := by decide +kernel
theorem dX12_cutsText_228 : decode cX12_cutsText 228 = .ok (.iload 4, 2) := by decide +kernel
theorem dX12_cutsText_230 : decode cX12_cutsText 230 = .ok (.imul, 1) := by decide +kernel
theorem dX12_cutsText_231 : decode cX12_cutsText 231 = .ok (.aload_n 0, 1) := by decide +kernel
theorem dX12_cutsText_232 : decode cX12_cutsText 232 = .ok (.iload_n 1, 1) := by decide +kernel
theorem dX12_cutsText_233 : decode cX12_cutsText 233 = .ok (.iload_n 3, 1) := by decide +kernel
theorem dX12_cutsText_234 : decode cX12_cutsText 234 = .ok (.iadd, 1) := by decide +kernel
theorem dX12_cutsText_235 : decode cX12_cutsText 235 = .ok (.invokevirtual 105, 3) := by decide +kernel
theorem dX12_cutsText_238 : decode cX12_cutsText 238 = .ok (.iadd, 1) := by decide +kernel
theorem dX12_cutsText_239 : decode cX12_cutsText 239 = .ok (.bipush 48, 2) := by decide +kernel
theorem dX12_cutsText_241 : decode cX12_cutsText 241 = .ok (.isub, 1) := by decide +kernel
theorem dX12_cutsText_242 : decode cX12_cutsText 242 = .ok (.istore 4, 2) := by decide +kernel
theorem dX12_cutsText_244 : decode cX12_cutsText 244 = .ok (.iinc 3 1, 3) := by decide +kernel
theorem dX12_cutsText_247 : decode cX12_cutsText 247 = .ok (.goto (-39), 3) := by decide +kernel
theorem dX12_cutsText_250 : decode cX12_cutsText 250 = .ok (.aload_n 0, 1) := by decide +kernel
theorem dX12_cutsText_251 : decode cX12_cutsText 251 = .ok (.iload_n 3, 1) := by decide +kernel
theorem dX12_cutsText_252 : decode cX12_cutsText 252 = .ok (.iconst 4, 1) := by decide +kernel
theorem dX12_cutsText_253 : decode cX12_cutsText 253 = .ok (.if_icmp .le 7, 3) := by decide +kernel
theorem dX12_cutsText_256 : decode cX12_cutsText 256 = .ok (.iconst 3, 1) := by decide +kernel
theorem dX12_cutsText_257 : decode cX12_cutsText 257 = .ok (.goto 4, 3) := by decide +kernel
theorem dX12_cutsText_260 : decode cX12_cutsText 260 = .ok (.iconst 2, 1) := by decide +kernel
theorem dX12_cutsText_261 : decode cX12_cutsText 261 = .ok (.iload_n 1, 1) := by decide +kernel
theorem dX12_cutsText_262 : decode cX12_cutsText 262 = .ok (.iload 4, 2) := by decide +kernel
theorem dX12_cutsText_264 : decode cX12_cutsText 264 = .ok (.lconst 0, 1) := by decide +kernel
theorem dX12_cutsText_265 : decode cX12_cutsText 265 = .ok (.invokevirtual 109, 3) := by decide +kernel
theorem dX12_cutsText_268 : decode cX12_cutsText 268 = .ok (.iload_n 1, 1) := by decide +kernel
theorem dX12_cutsText_269 : decode cX12_cutsText 269 = .ok (.iload_n 3, 1) := by decide +kernel
theorem dX12_cutsText_270 : decode cX12_cutsText 270 = .ok (.iadd, 1) := by decide +kernel
theorem dX12_cutsText_271 : decode cX12_cutsText 271 = .ok (.istore_n 1, 1) := by decide +kernel
theorem dX12_cutsText_272 : decode cX12_cutsText 272 = .ok (.goto 12, 3) := by decide +kernel
theorem dX12_cutsText_275 : decode cX12_cutsText 275 = .ok (.iload_n 1, 1) := by decide +kernel
theorem dX12_cutsText_276 : decode cX12_cutsText 276 = .ok (.aload_n 0, 1) := by decide +kernel
theorem dX12_cutsText_277 : decode cX12_cutsText 277 = .ok (.iload_n 1, 1) := by decide +kernel
theorem dX12_cutsText_278 : decode cX12_cutsText 278 = .ok (.iload_n 2, 1) := by decide +kernel
theorem dX12_cutsText_279 : decode cX12_cutsText 279 = .ok (.invokevirtual 120, 3) := by decide +kernel
theorem dX12_cutsText_282 : decode cX12_cutsText 282 = .ok (.iadd, 1) := by decide +kernel
theorem dX12_cutsText_283 : decode cX12_cutsText 283 = .ok (.istore_n 1, 1) := by decide +kernel
theorem dX12_cutsText_284 : decode cX12_cutsText 284 = .ok (.goto (-277), 3) := by decide +kernel
theorem dX12_cutsText_287 : decode cX12_cutsText 287 = .ok (.return_, 1) := by decide +kernel
def rmX12_cutsText : Room := { frames := 2, cells := 0, slots := 0, locals := 47 }
set_option maxRecDepth 100000 in
def fX12_cutsText_J284 (N : Nat) (g : Gs) (x0 : Nat) (K7 : Int32 × Ds → Option (Unit × Ds)) (y1 : Int32) (d : Ds) : Option (Unit × Ds) := K7 (y1, d)
set_option maxHeartbeats 4000000 in
set_option maxRecDepth 100000 in
theorem tX12_cutsText_284 {p : Program} {l : Launch} {e : Env} {s : State} {m : MethodId} {args : Array Value} {below : List Frame} {meth : Method} {c : Code} {D : va_G} {cy : Nat → ClassId} {B : Bs} (C : Cx p s m args c cX12_cutsText 8 RX12 D cy B) (hr : meth.sig.returnType = none) (hlocks : meth.locks = false) {N : Nat} {g : Gs} {x0 : Nat}  {dz : Ds} {K7 : Int32 × Ds → Option (Unit × Ds)} (hK7 : ∀ a, K7 a = some ((), dz) → WB p l e rmX12_cutsText s m args below meth c 8 D cy B 0 0 (MQ below (QV D cy B g dz) args s 0 0 (wA B)) g a.2 [(0, .ref (ad B x0)), (1, .int a.1)] 7 []) {y1 : Int32} {d : Ds} (hf : fX12_cutsText_J284 N g x0 K7 y1 d = some ((), dz)) : WB p l e rmX12_cutsText s m args below meth c 8 D cy B 0 0 (MQ below (QV D cy B g dz) args s 0 0 (wA B)) g d [(0, .ref (ad B x0)), (1, .int y1)] 284 [] := by
  unfold fX12_cutsText_J284 at hf
  refine b_goto C (tgt := 7) dX12_cutsText_284 (by decide) ?_
  refine b_sub [(0, .ref (ad B x0)), (1, .int y1)] [0, 1] rfl ?_
  exact hK7 (y1, d) hf
set_option maxRecDepth 100000 in
def fX12_cutsText_J67 (N : Nat) (g : Gs) (x0 : Nat) (K7 : Int32 × Ds → Option (Unit × Ds)) (y1 : Int32) (d : Ds) : Option (Unit × Ds) := bd (y1 + 1) fun u10 => (fX12_cutsText_J284 N g x0 K7 u10 d)
set_option maxHeartbeats 4000000 in
set_option maxRecDepth 100000 in
theorem tX12_cutsText_67 {p : Program} {l : Launch} {e : Env} {s : State} {m : MethodId} {args : Array Value} {below : List Frame} {meth : Method} {c : Code} {D : va_G} {cy : Nat → ClassId} {B : Bs} (C : Cx p s m args c cX12_cutsText 8 RX12 D cy B) (hr : meth.sig.returnType = none) (hlocks : meth.locks = false) {N : Nat} {g : Gs} {x0 : Nat}  {dz : Ds} {K7 : Int32 × Ds → Option (Unit × Ds)} (hK7 : ∀ a, K7 a = some ((), dz) → WB p l e rmX12_cutsText s m args below meth c 8 D cy B 0 0 (MQ below (QV D cy B g dz) args s 0 0 (wA B)) g a.2 [(0, .ref (ad B x0)), (1, .int a.1)] 7 []) {y1 : Int32} {d : Ds} (hf : fX12_cutsText_J67 N g x0 K7 y1 d = some ((), dz)) : WB p l e rmX12_cutsText s m args below meth c 8 D cy B 0 0 (MQ below (QV D cy B g dz) args s 0 0 (wA B)) g d [(0, .ref (ad B x0)), (1, .int y1)] 67 [] := by
  unfold fX12_cutsText_J67 at hf
  obtain ⟨u10, eu10, hf⟩ := bd_s hf
  refine b_iinc C dX12_cutsText_67 1 rfl (by rw [eu10]; rfl) [(1, .int u10), (0, .ref (ad B x0))] (by decide) rfl ?_
  refine b_goto C (tgt := 284) dX12_cutsText_70 (by decide) ?_
  refine b_sub [(0, .ref (ad B x0)), (1, .int u10)] [1, 0] rfl ?_
  exact tX12_cutsText_284 C hr hlocks hK7 hf
set_option maxRecDepth 100000 in
def fX12_cutsText_J261 (N : Nat) (g : Gs) (x0 : Nat) (K7 : Int32 × Ds → Option (Unit × Ds)) (y1 : Int32) (y3 : Int32) (y4 : Int32) (z0 : Int32) (z1 : Nat) (d : Ds) : Option (Unit × Ds) := gd (chk g z1 11) <| cv (fX12_token N g z1 z0 y1 y4 0 d) fun d36 => (bd ((y1 + y3)) fun u38 => (fX12_cutsText_J284 N g x0 K7 u38 d36))
set_option maxHeartbeats 4000000 in
set_option maxRecDepth 100000 in
theorem tX12_cutsText_261 {p : Program} {l : Launch} {e : Env} {s : State} {m : MethodId} {args : Array Value} {below : List Frame} {meth : Method} {c : Code} {D : va_G} {cy : Nat → ClassId} {B : Bs} (C : Cx p s m args c cX12_cutsText 8 RX12 D cy B) (hr : meth.sig.returnType = none) (hlocks : meth.locks = false) {N : Nat} {g : Gs} {x0 : Nat}  {dz : Ds} {K7 : Int32 × Ds → Option (Unit × Ds)} (hK7 : ∀ a, K7 a = some ((), dz) → WB p l e rmX12_cutsText s m args below meth c 8 D cy B 0 0 (MQ below (QV D cy B g dz) args s 0 0 (wA B)) g a.2 [(0, .ref (ad B x0)), (1, .int a.1)] 7 []) {y1 : Int32} {y3 : Int32} {y4 : Int32} {z0 : Int32} {z1 : Nat} {d : Ds} (hf : fX12_cutsText_J261 N g x0 K7 y1 y3 y4 z0 z1 d = some ((), dz)) : WB p l e rmX12_cutsText s m args below meth c 8 D cy B 0 0 (MQ below (QV D cy B g dz) args s 0 0 (wA B)) g d [(0, .ref (ad B x0)), (1, .int y1), (3, .int y3), (4, .int y4)] 261 [.int z0, .ref (ad B z1)] := by
  unfold fX12_cutsText_J261 at hf
  refine b_iload_n C dX12_cutsText_261 1 rfl rfl ?_
  refine b_iload C dX12_cutsText_262 3 rfl ?_
  refine b_lconst C (v := 0) dX12_cutsText_264 (by decide) ?_
  obtain ⟨h35, hf⟩ := gd_s hf
  obtain ⟨d36, k37, hf⟩ := cv_s hf
  refine b_cVN C [] dX12_cutsText_265 (kX12_token l D cy B k37) lv_X12_109 ⟨rfl, rfl, Nat.le_of_ble_eq_true rfl, Nat.le_of_ble_eq_true rfl⟩ h35 (by decide) rfl (Nat.le_of_ble_eq_true rfl) ⟨Nat.zero_le _, Nat.zero_le _⟩ rfl ?_
  refine b_iload_n C dX12_cutsText_268 1 rfl rfl ?_
  refine b_iload_n C dX12_cutsText_269 2 rfl rfl ?_
  refine b_iadd C dX12_cutsText_270 ?_
  obtain ⟨u38, eu38, hf⟩ := bd_s hf
  refine b_topI eu38 ?_
  refine b_istore_n C dX12_cutsText_271 rfl [(1, .int u38), (0, .ref (ad B x0)), (3, .int y3), (4, .int y4)] (by decide) rfl ?_
  refine b_goto C (tgt := 284) dX12_cutsText_272 (by decide) ?_
  refine b_sub [(0, .ref (ad B x0)), (1, .int u38)] [1, 0] rfl ?_
  exact tX12_cutsText_284 C hr hlocks hK7 hf
set_option maxRecDepth 100000 in
def fX12_cutsText_J244 (N : Nat) (g : Gs) (x0 : Nat) (K7 : Int32 × Ds → Option (Unit × Ds)) (K208 : Int32 × Int32 × Int32 × Ds → Option (Unit × Ds)) (y1 : Int32) (y3 : Int32) (y4 : Int32) (d : Ds) : Option (Unit × Ds) := bd (y3 + 1) fun u40 => (K208 (y1, u40, y4, d))
set_option maxHeartbeats 4000000 in
set_option maxRecDepth 100000 in
theorem tX12_cutsText_244 {p : Program} {l : Launch} {e : Env} {s : State} {m : MethodId} {args : Array Value} {below : List Frame} {meth : Method} {c : Code} {D : va_G} {cy : Nat → ClassId} {B : Bs} (C : Cx p s m args c cX12_cutsText 8 RX12 D cy B) (hr : meth.sig.returnType = none) (hlocks : meth.locks = false) {N : Nat} {g : Gs} {x0 : Nat}  {dz : Ds} {K7 : Int32 × Ds → Option (Unit × Ds)} {K208 : Int32 × Int32 × Int32 × Ds → Option (Unit × Ds)} (hK7 : ∀ a, K7 a = some ((), dz) → WB p l e rmX12_cutsText s m args below meth c 8 D cy B 0 0 (MQ below (QV D cy B g dz) args s 0 0 (wA B)) g a.2 [(0, .ref (ad B x0)), (1, .int a.1)] 7 []) (hK208 : ∀ a, K208 a = some ((), dz) → WB p l e rmX12_cutsText s m args below meth c 8 D cy B 0 0 (MQ below (QV D cy B g dz) args s 0 0 (wA B)) g a.2.2.2 [(0, .ref (ad B x0)), (1, .int a.1), (3, .int a.2.1), (4, .int a.2.2.1)] 208 []) {y1 : Int32} {y3 : Int32} {y4 : Int32} {d : Ds} (hf : fX12_cutsText_J244 N g x0 K7 K208 y1 y3 y4 d = some ((), dz)) : WB p l e rmX12_cutsText s m args below meth c 8 D cy B 0 0 (MQ below (QV D cy B g dz) args s 0 0 (wA B)) g d [(0, .ref (ad B x0)), (1, .int y1), (3, .int y3), (4, .int y4)] 244 [] := by
  unfold fX12_cutsText_J244 at hf
  obtain ⟨u40, eu40, hf⟩ := bd_s hf
  refine b_iinc C dX12_cutsText_244 2 rfl (by rw [eu40]; rfl) [(3, .int u40), (0, .ref (ad B x0)), (1, .int y1), (4, .int y4)] (by decide) rfl ?_
  refine b_goto C (tgt := 208) dX12_cutsText_247 (by decide) ?_
  refine b_sub [(0, .ref (ad B x0)), (1, .int y1), (3, .int u40), (4, .int y4)] [1, 2, 0, 3] rfl ?_
  exact hK208 (y1, u40, y4, d) hf
set_option maxRecDepth 100000 in
def fX12_cutsText_B208 (N : Nat) (g : Gs) (x0 : Nat) (K7 : Int32 × Ds → Option (Unit × Ds)) (K208 : Int32 × Int32 × Int32 × Ds → Option (Unit × Ds)) (y1 : Int32) (y3 : Int32) (y4 : Int32) (d : Ds) : Option (Unit × Ds) := gd (chk g x0 11) <| cb (fX12_byteAt N g x0 (y1 + y3) d) fun u29 d27 => (cb (fX12_isDigit N g u29 d27) fun u32 d30 => (if u32 = 0 then (if y3 ≤ (4 : Int32) then (fX12_cutsText_J261 N g x0 K7 y1 y3 y4 2 x0 d30) else (fX12_cutsText_J261 N g x0 K7 y1 y3 y4 3 x0 d30)) else (if (4 : Int32) ≤ y3 then (fX12_cutsText_J244 N g x0 K7 K208 y1 y3 y4 d30) else (cb (fX12_byteAt N g x0 (y1 + y3) d30) fun u43 d41 => (bd (((((10 : Int32) * y4) + u43) - 48)) fun u44 => (fX12_cutsText_J244 N g x0 K7 K208 y1 y3 u44 d41))))))
set_option maxHeartbeats 4000000 in
set_option maxRecDepth 100000 in
theorem tX12_cutsText_208 {p : Program} {l : Launch} {e : Env} {s : State} {m : MethodId} {args : Array Value} {below : List Frame} {meth : Method} {c : Code} {D : va_G} {cy : Nat → ClassId} {B : Bs} (C : Cx p s m args c cX12_cutsText 8 RX12 D cy B) (hr : meth.sig.returnType = none) (hlocks : meth.locks = false) {N : Nat} {g : Gs} {x0 : Nat}  {dz : Ds} {K7 : Int32 × Ds → Option (Unit × Ds)} {K208 : Int32 × Int32 × Int32 × Ds → Option (Unit × Ds)} (hK7 : ∀ a, K7 a = some ((), dz) → WB p l e rmX12_cutsText s m args below meth c 8 D cy B 0 0 (MQ below (QV D cy B g dz) args s 0 0 (wA B)) g a.2 [(0, .ref (ad B x0)), (1, .int a.1)] 7 []) (hK208 : ∀ a, K208 a = some ((), dz) → WB p l e rmX12_cutsText s m args below meth c 8 D cy B 0 0 (MQ below (QV D cy B g dz) args s 0 0 (wA B)) g a.2.2.2 [(0, .ref (ad B x0)), (1, .int a.1), (3, .int a.2.1), (4, .int a.2.2.1)] 208 []) {y1 : Int32} {y3 : Int32} {y4 : Int32} {d : Ds} (hf : fX12_cutsText_B208 N g x0 K7 K208 y1 y3 y4 d = some ((), dz)) : WB p l e rmX12_cutsText s m args below meth c 8 D cy B 0 0 (MQ below (QV D cy B g dz) args s 0 0 (wA B)) g d [(0, .ref (ad B x0)), (1, .int y1), (3, .int y3), (4, .int y4)] 208 [] := by
  unfold fX12_cutsText_B208 at hf
  refine b_aload_n C dX12_cutsText_208 0 rfl rfl ?_
  refine b_iload_n C dX12_cutsText_209 1 rfl rfl ?_
  refine b_iload_n C dX12_cutsText_210 2 rfl rfl ?_
  refine b_iadd C dX12_cutsText_211 ?_
  obtain ⟨h26, hf⟩ := gd_s hf
  obtain ⟨u29, d27, k28, hf⟩ := cb_s hf
  refine b_cVI C [] dX12_cutsText_212 (kX12_byteAt l D cy B k28) lv_X12_105 ⟨rfl, rfl, Nat.le_of_ble_eq_true rfl, Nat.le_of_ble_eq_true rfl⟩ h26 (by decide) rfl (Nat.le_of_ble_eq_true rfl) ⟨Nat.zero_le _, Nat.zero_le _⟩ rfl ?_
  obtain ⟨u32, d30, k31, hf⟩ := cb_s hf
  refine b_cSI C [] dX12_cutsText_215 (kX12_isDigit l D cy B k31) lv_X12_117 ⟨rfl, rfl, Nat.le_of_ble_eq_true rfl, Nat.le_of_ble_eq_true rfl⟩ rfl (Nat.le_of_ble_eq_true rfl) ⟨Nat.zero_le _, Nat.zero_le _⟩ rfl ?_
  refine b_if_eq C (tgt := 250) dX12_cutsText_218 (by decide) (fun c33 => ?_) (fun c33 => ?_)
  · have hf := it_s c33 hf
    refine b_aload_n C dX12_cutsText_250 0 rfl rfl ?_
    refine b_iload_n C dX12_cutsText_251 2 rfl rfl ?_
    refine b_iconst C (v := 4) dX12_cutsText_252 (by decide) ?_
    refine b_icmp_le C (tgt := 260) dX12_cutsText_253 (by decide) (fun c34 => ?_) (fun c34 => ?_)
    · have hf := it_s c34 hf
      refine b_iconst C (v := 2) dX12_cutsText_260 (by decide) ?_
      refine b_sub [(0, .ref (ad B x0)), (1, .int y1), (3, .int y3), (4, .int y4)] [0, 1, 2, 3] rfl ?_
      exact tX12_cutsText_261 C hr hlocks hK7 hf
    · have hf := if_s c34 hf
      refine b_iconst C (v := 3) dX12_cutsText_256 (by decide) ?_
      refine b_goto C (tgt := 261) dX12_cutsText_257 (by decide) ?_
      refine b_sub [(0, .ref (ad B x0)), (1, .int y1), (3, .int y3), (4, .int y4)] [0, 1, 2, 3] rfl ?_
      exact tX12_cutsText_261 C hr hlocks hK7 hf
  · have hf := if_s c33 hf
    refine b_iload_n C dX12_cutsText_221 2 rfl rfl ?_
    refine b_iconst C (v := 4) dX12_cutsText_222 (by decide) ?_
    refine b_icmp_ge C (tgt := 244) dX12_cutsText_223 (by decide) (fun c39 => ?_) (fun c39 => ?_)
    · have hf := it_s c39 hf
      refine b_sub [(0, .ref (ad B x0)), (1, .int y1), (3, .int y3), (4, .int y4)] [0, 1, 2, 3] rfl ?_
      exact tX12_cutsText_244 C hr hlocks hK7 hK208 hf
    · have hf := if_s c39 hf
      refine b_bipush C (v := 10) dX12_cutsText_226 (by decide) ?_
      refine b_iload C dX12_cutsText_228 3 rfl ?_
      refine b_imul C dX12_cutsText_230 ?_
      refine b_aload_n C dX12_cutsText_231 0 rfl rfl ?_
      refine b_iload_n C dX12_cutsText_232 1 rfl rfl ?_
      refine b_iload_n C dX12_cutsText_233 2 rfl rfl ?_
      refine b_iadd C dX12_cutsText_234 ?_
      obtain ⟨u43, d41, k42, hf⟩ := cb_s hf
      refine b_cVI C [.int ((10 : Int32) * y4)] dX12_cutsText_235 (kX12_byteAt l D cy B k42) lv_X12_105 ⟨rfl, rfl, Nat.le_of_ble_eq_true rfl, Nat.le_of_ble_eq_true rfl⟩ h26 (by decide) rfl (Nat.le_of_ble_eq_true rfl) ⟨Nat.zero_le _, Nat.zero_le _⟩ rfl ?_
      refine b_iadd C dX12_cutsText_238 ?_
      refine b_bipush C (v := 48) dX12_cutsText_239 (by decide) ?_
      refine b_isub C dX12_cutsText_241 ?_
      obtain ⟨u44, eu44, hf⟩ := bd_s hf
      refine b_topI eu44 ?_
      refine b_istore C dX12_cutsText_242 [(4, .int u44), (0, .ref (ad B x0)), (1, .int y1), (3, .int y3)] (by decide) rfl ?_
      refine b_sub [(0, .ref (ad B x0)), (1, .int y1), (3, .int y3), (4, .int u44)] [1, 2, 3, 0] rfl ?_
      exact tX12_cutsText_244 C hr hlocks hK7 hK208 hf
def fX12_cutsText_L208 (N : Nat) (g : Gs) (x0 : Nat) (K7 : Int32 × Ds → Option (Unit × Ds)) : Int32 × Int32 × Int32 × Ds → Option (Unit × Ds) := lp (fun K208 a => fX12_cutsText_B208 N g x0 K7 K208 a.1 a.2.1 a.2.2.1 a.2.2.2) N
theorem tX12_cutsText_L208 {p : Program} {l : Launch} {e : Env} {s : State} {m : MethodId} {args : Array Value} {below : List Frame} {meth : Method} {c : Code} {D : va_G} {cy : Nat → ClassId} {B : Bs} (C : Cx p s m args c cX12_cutsText 8 RX12 D cy B) (hr : meth.sig.returnType = none) (hlocks : meth.locks = false) {N : Nat} {g : Gs} {x0 : Nat}  {dz : Ds} {K7 : Int32 × Ds → Option (Unit × Ds)} (hK7 : ∀ a, K7 a = some ((), dz) → WB p l e rmX12_cutsText s m args below meth c 8 D cy B 0 0 (MQ below (QV D cy B g dz) args s 0 0 (wA B)) g a.2 [(0, .ref (ad B x0)), (1, .int a.1)] 7 []) (a : Int32 × Int32 × Int32 × Ds) (hf : fX12_cutsText_L208 N g x0 K7 a = some ((), dz)) : WB p l e rmX12_cutsText s m args below meth c 8 D cy B 0 0 (MQ below (QV D cy B g dz) args s 0 0 (wA B)) g a.2.2.2 [(0, .ref (ad B x0)), (1, .int a.1), (3, .int a.2.1), (4, .int a.2.2.1)] 208 [] :=
  lp_w (fun K208 hK208 a ha => tX12_cutsText_208 C hr hlocks hK7 hK208 ha) N a hf
set_option maxRecDepth 100000 in
def fX12_cutsText_J179 (N : Nat) (g : Gs) (x0 : Nat) (K7 : Int32 × Ds → Option (Unit × Ds)) (y1 : Int32) (y3 : Int32) (y4 : Int64) (y6 : Int32) (d : Ds) : Option (Unit × Ds) := gd (chk g x0 11) <| cv (fX12_token N g x0 y6 y1 0 y4 d) fun d56 => (bd ((y1 + y3)) fun u58 => (fX12_cutsText_J284 N g x0 K7 u58 d56))
set_option maxHeartbeats 4000000 in
set_option maxRecDepth 100000 in
theorem tX12_cutsText_179 {p : Program} {l : Launch} {e : Env} {s : State} {m : MethodId} {args : Array Value} {below : List Frame} {meth : Method} {c : Code} {D : va_G} {cy : Nat → ClassId} {B : Bs} (C : Cx p s m args c cX12_cutsText 8 RX12 D cy B) (hr : meth.sig.returnType = none) (hlocks : meth.locks = false) {N : Nat} {g : Gs} {x0 : Nat}  {dz : Ds} {K7 : Int32 × Ds → Option (Unit × Ds)} (hK7 : ∀ a, K7 a = some ((), dz) → WB p l e rmX12_cutsText s m args below meth c 8 D cy B 0 0 (MQ below (QV D cy B g dz) args s 0 0 (wA B)) g a.2 [(0, .ref (ad B x0)), (1, .int a.1)] 7 []) {y1 : Int32} {y3 : Int32} {y4 : Int64} {y6 : Int32} {d : Ds} (hf : fX12_cutsText_J179 N g x0 K7 y1 y3 y4 y6 d = some ((), dz)) : WB p l e rmX12_cutsText s m args below meth c 8 D cy B 0 0 (MQ below (QV D cy B g dz) args s 0 0 (wA B)) g d [(0, .ref (ad B x0)), (1, .int y1), (3, .int y3), (4, .long y4), (6, .int y6)] 179 [] := by
  unfold fX12_cutsText_J179 at hf
  refine b_aload_n C dX12_cutsText_179 0 rfl rfl ?_
  refine b_iload C dX12_cutsText_180 4 rfl ?_
  refine b_iload_n C dX12_cutsText_182 1 rfl rfl ?_
  refine b_iconst C (v := 0) dX12_cutsText_183 (by decide) ?_
  refine b_lload C dX12_cutsText_184 3 rfl ?_
  obtain ⟨h55, hf⟩ := gd_s hf
  obtain ⟨d56, k57, hf⟩ := cv_s hf
  refine b_cVN C [] dX12_cutsText_186 (kX12_token l D cy B k57) lv_X12_109 ⟨rfl, rfl, Nat.le_of_ble_eq_true rfl, Nat.le_of_ble_eq_true rfl⟩ h55 (by decide) rfl (Nat.le_of_ble_eq_true rfl) ⟨Nat.zero_le _, Nat.zero_le _⟩ rfl ?_
  refine b_iload_n C dX12_cutsText_189 1 rfl rfl ?_
  refine b_iload_n C dX12_cutsText_190 2 rfl rfl ?_
  refine b_iadd C dX12_cutsText_191 ?_
  obtain ⟨u58, eu58, hf⟩ := bd_s hf
  refine b_topI eu58 ?_
  refine b_istore_n C dX12_cutsText_192 rfl [(1, .int u58), (0, .ref (ad B x0)), (3, .int y3), (4, .long y4), (6, .int y6)] (by decide) rfl ?_
  refine b_goto C (tgt := 284) dX12_cutsText_193 (by decide) ?_
  refine b_sub [(0, .ref (ad B x0)), (1, .int u58)] [1, 0] rfl ?_
  exact tX12_cutsText_284 C hr hlocks hK7 hf
set_option maxRecDepth 100000 in
def fX12_cutsText_J173 (N : Nat) (g : Gs) (x0 : Nat) (K7 : Int32 × Ds → Option (Unit × Ds)) (K146 : Int32 × Int32 × Int64 × Int32 × Int32 × Ds → Option (Unit × Ds)) (y1 : Int32) (y3 : Int32) (y4 : Int64) (y6 : Int32) (y7 : Int32) (d : Ds) : Option (Unit × Ds) := bd (y7 + 1) fun u65 => (K146 (y1, y3, y4, y6, u65, d))
set_option maxHeartbeats 4000000 in
set_option maxRecDepth 100000 in
theorem tX12_cutsText_173 {p : Program} {l : Launch} {e : Env} {s : State} {m : MethodId} {args : Array Value} {below : List Frame} {meth : Method} {c : Code} {D : va_G} {cy : Nat → ClassId} {B : Bs} (C : Cx p s m args c cX12_cutsText 8 RX12 D cy B) (hr : meth.sig.returnType = none) (hlocks : meth.locks = false) {N : Nat} {g : Gs} {x0 : Nat}  {dz : Ds} {K7 : Int32 × Ds → Option (Unit × Ds)} {K146 : Int32 × Int32 × Int64 × Int32 × Int32 × Ds → Option (Unit × Ds)} (hK7 : ∀ a, K7 a = some ((), dz) → WB p l e rmX12_cutsText s m args below meth c 8 D cy B 0 0 (MQ below (QV D cy B g dz) args s 0 0 (wA B)) g a.2 [(0, .ref (ad B x0)), (1, .int a.1)] 7 []) (hK146 : ∀ a, K146 a = some ((), dz) → WB p l e rmX12_cutsText s m args below meth c 8 D cy B 0 0 (MQ below (QV D cy B g dz) args s 0 0 (wA B)) g a.2.2.2.2.2 [(0, .ref (ad B x0)), (1, .int a.1), (3, .int a.2.1), (4, .long a.2.2.1), (6, .int a.2.2.2.1), (7, .int a.2.2.2.2.1)] 146 []) {y1 : Int32} {y3 : Int32} {y4 : Int64} {y6 : Int32} {y7 : Int32} {d : Ds} (hf : fX12_cutsText_J173 N g x0 K7 K146 y1 y3 y4 y6 y7 d = some ((), dz)) : WB p l e rmX12_cutsText s m args below meth c 8 D cy B 0 0 (MQ below (QV D cy B g dz) args s 0 0 (wA B)) g d [(0, .ref (ad B x0)), (1, .int y1), (3, .int y3), (4, .long y4), (6, .int y6), (7, .int y7)] 173 [] := by
  unfold fX12_cutsText_J173 at hf
  obtain ⟨u65, eu65, hf⟩ := bd_s hf
  refine b_iinc C dX12_cutsText_173 5 rfl (by rw [eu65]; rfl) [(7, .int u65), (0, .ref (ad B x0)), (1, .int y1), (3, .int y3), (4, .long y4), (6, .int y6)] (by decide) rfl ?_
  refine b_goto C (tgt := 146) dX12_cutsText_176 (by decide) ?_
  refine b_sub [(0, .ref (ad B x0)), (1, .int y1), (3, .int y3), (4, .long y4), (6, .int y6), (7, .int u65)] [1, 2, 3, 4, 5, 0] rfl ?_
  exact hK146 (y1, y3, y4, y6, u65, d) hf
set_option maxRecDepth 100000 in
def fX12_cutsText_B146 (N : Nat) (g : Gs) (x0 : Nat) (K7 : Int32 × Ds → Option (Unit × Ds)) (K146 : Int32 × Int32 × Int64 × Int32 × Int32 × Ds → Option (Unit × Ds)) (y1 : Int32) (y3 : Int32) (y4 : Int64) (y6 : Int32) (y7 : Int32) (d : Ds) : Option (Unit × Ds) := if (20 : Int32) ≤ y7 then (fX12_cutsText_J179 N g x0 K7 y1 y3 y4 y6 d) else (gd (chk g x0 11) <| ob (gR g x0 9) fun r61 => (gd (chk g r61 103) <| gd (¬ (y7 < 0 ∨ gL g r61 ≤ y7.toNatClampNeg)) <| if (lg_cmp (dL d r61 y7.toNatClampNeg) y4) = 0 then (bd (((20 : Int32) + y7)) fun u66 => (fX12_cutsText_J173 N g x0 K7 K146 y1 y3 y4 u66 y7 d)) else (fX12_cutsText_J173 N g x0 K7 K146 y1 y3 y4 y6 y7 d)))
set_option maxHeartbeats 4000000 in
set_option maxRecDepth 100000 in
theorem tX12_cutsText_146 {p : Program} {l : Launch} {e : Env} {s : State} {m : MethodId} {args : Array Value} {below : List Frame} {meth : Method} {c : Code} {D : va_G} {cy : Nat → ClassId} {B : Bs} (C : Cx p s m args c cX12_cutsText 8 RX12 D cy B) (hr : meth.sig.returnType = none) (hlocks : meth.locks = false) {N : Nat} {g : Gs} {x0 : Nat}  {dz : Ds} {K7 : Int32 × Ds → Option (Unit × Ds)} {K146 : Int32 × Int32 × Int64 × Int32 × Int32 × Ds → Option (Unit × Ds)} (hK7 : ∀ a, K7 a = some ((), dz) → WB p l e rmX12_cutsText s m args below meth c 8 D cy B 0 0 (MQ below (QV D cy B g dz) args s 0 0 (wA B)) g a.2 [(0, .ref (ad B x0)), (1, .int a.1)] 7 []) (hK146 : ∀ a, K146 a = some ((), dz) → WB p l e rmX12_cutsText s m args below meth c 8 D cy B 0 0 (MQ below (QV D cy B g dz) args s 0 0 (wA B)) g a.2.2.2.2.2 [(0, .ref (ad B x0)), (1, .int a.1), (3, .int a.2.1), (4, .long a.2.2.1), (6, .int a.2.2.2.1), (7, .int a.2.2.2.2.1)] 146 []) {y1 : Int32} {y3 : Int32} {y4 : Int64} {y6 : Int32} {y7 : Int32} {d : Ds} (hf : fX12_cutsText_B146 N g x0 K7 K146 y1 y3 y4 y6 y7 d = some ((), dz)) : WB p l e rmX12_cutsText s m args below meth c 8 D cy B 0 0 (MQ below (QV D cy B g dz) args s 0 0 (wA B)) g d [(0, .ref (ad B x0)), (1, .int y1), (3, .int y3), (4, .long y4), (6, .int y6), (7, .int y7)] 146 [] := by
  unfold fX12_cutsText_B146 at hf
  refine b_iload C dX12_cutsText_146 5 rfl ?_
  refine b_bipush C (v := 20) dX12_cutsText_148 (by decide) ?_
  refine b_icmp_ge C (tgt := 179) dX12_cutsText_150 (by decide) (fun c59 => ?_) (fun c59 => ?_)
  · have hf := it_s c59 hf
    refine b_sub [(0, .ref (ad B x0)), (1, .int y1), (3, .int y3), (4, .long y4), (6, .int y6)] [0, 1, 2, 3, 4] rfl ?_
    exact tX12_cutsText_179 C hr hlocks hK7 hf
  · have hf := if_s c59 hf
    refine b_aload_n C dX12_cutsText_153 0 rfl rfl ?_
    obtain ⟨h60, hf⟩ := gd_s hf
    obtain ⟨r61, er61, hf⟩ := ob_s hf
    refine b_gR C dX12_cutsText_154 fl_X12_34 h60 er61 ?_
    refine b_iload C dX12_cutsText_157 5 rfl ?_
    obtain ⟨h62, hf⟩ := gd_s hf
    obtain ⟨h63, hf⟩ := gd_s hf
    refine b_lald C h62 h63 dX12_cutsText_159 ?_
    refine b_lload C dX12_cutsText_160 3 rfl ?_
    refine b_lcmp C dX12_cutsText_162 ?_
    refine b_if_ne C (tgt := 173) dX12_cutsText_163 (by decide) (fun c64 => ?_) (fun c64 => ?_)
    · have hf := if_s c64 hf
      refine b_sub [(0, .ref (ad B x0)), (1, .int y1), (3, .int y3), (4, .long y4), (6, .int y6), (7, .int y7)] [0, 1, 2, 3, 4, 5] rfl ?_
      exact tX12_cutsText_173 C hr hlocks hK7 hK146 hf
    · have hf := it_s c64 hf
      refine b_bipush C (v := 20) dX12_cutsText_166 (by decide) ?_
      refine b_iload C dX12_cutsText_168 5 rfl ?_
      refine b_iadd C dX12_cutsText_170 ?_
      obtain ⟨u66, eu66, hf⟩ := bd_s hf
      refine b_topI eu66 ?_
      refine b_istore C dX12_cutsText_171 [(6, .int u66), (0, .ref (ad B x0)), (1, .int y1), (3, .int y3), (4, .long y4), (7, .int y7)] (by decide) rfl ?_
      refine b_sub [(0, .ref (ad B x0)), (1, .int y1), (3, .int y3), (4, .long y4), (6, .int u66), (7, .int y7)] [1, 2, 3, 4, 0, 5] rfl ?_
      exact tX12_cutsText_173 C hr hlocks hK7 hK146 hf
def fX12_cutsText_L146 (N : Nat) (g : Gs) (x0 : Nat) (K7 : Int32 × Ds → Option (Unit × Ds)) : Int32 × Int32 × Int64 × Int32 × Int32 × Ds → Option (Unit × Ds) := lp (fun K146 a => fX12_cutsText_B146 N g x0 K7 K146 a.1 a.2.1 a.2.2.1 a.2.2.2.1 a.2.2.2.2.1 a.2.2.2.2.2) N
theorem tX12_cutsText_L146 {p : Program} {l : Launch} {e : Env} {s : State} {m : MethodId} {args : Array Value} {below : List Frame} {meth : Method} {c : Code} {D : va_G} {cy : Nat → ClassId} {B : Bs} (C : Cx p s m args c cX12_cutsText 8 RX12 D cy B) (hr : meth.sig.returnType = none) (hlocks : meth.locks = false) {N : Nat} {g : Gs} {x0 : Nat}  {dz : Ds} {K7 : Int32 × Ds → Option (Unit × Ds)} (hK7 : ∀ a, K7 a = some ((), dz) → WB p l e rmX12_cutsText s m args below meth c 8 D cy B 0 0 (MQ below (QV D cy B g dz) args s 0 0 (wA B)) g a.2 [(0, .ref (ad B x0)), (1, .int a.1)] 7 []) (a : Int32 × Int32 × Int64 × Int32 × Int32 × Ds) (hf : fX12_cutsText_L146 N g x0 K7 a = some ((), dz)) : WB p l e rmX12_cutsText s m args below meth c 8 D cy B 0 0 (MQ below (QV D cy B g dz) args s 0 0 (wA B)) g a.2.2.2.2.2 [(0, .ref (ad B x0)), (1, .int a.1), (3, .int a.2.1), (4, .long a.2.2.1), (6, .int a.2.2.2.1), (7, .int a.2.2.2.2.1)] 146 [] :=
  lp_w (fun K146 hK146 a ha => tX12_cutsText_146 C hr hlocks hK7 hK146 ha) N a hf
set_option maxRecDepth 100000 in
def fX12_cutsText_J135 (N : Nat) (g : Gs) (x0 : Nat) (K7 : Int32 × Ds → Option (Unit × Ds)) (y1 : Int32) (y3 : Int32) (y4 : Int64) (z0 : Int32) (d : Ds) : Option (Unit × Ds) := if (8 : Int32) < y3 then (fX12_cutsText_J179 N g x0 K7 y1 y3 y4 z0 d) else (fX12_cutsText_L146 N g x0 K7 (y1, y3, y4, z0, 0, d))
set_option maxHeartbeats 4000000 in
set_option maxRecDepth 100000 in
theorem tX12_cutsText_135 {p : Program} {l : Launch} {e : Env} {s : State} {m : MethodId} {args : Array Value} {below : List Frame} {meth : Method} {c : Code} {D : va_G} {cy : Nat → ClassId} {B : Bs} (C : Cx p s m args c cX12_cutsText 8 RX12 D cy B) (hr : meth.sig.returnType = none) (hlocks : meth.locks = false) {N : Nat} {g : Gs} {x0 : Nat}  {dz : Ds} {K7 : Int32 × Ds → Option (Unit × Ds)} (hK7 : ∀ a, K7 a = some ((), dz) → WB p l e rmX12_cutsText s m args below meth c 8 D cy B 0 0 (MQ below (QV D cy B g dz) args s 0 0 (wA B)) g a.2 [(0, .ref (ad B x0)), (1, .int a.1)] 7 []) {y1 : Int32} {y3 : Int32} {y4 : Int64} {z0 : Int32} {d : Ds} (hf : fX12_cutsText_J135 N g x0 K7 y1 y3 y4 z0 d = some ((), dz)) : WB p l e rmX12_cutsText s m args below meth c 8 D cy B 0 0 (MQ below (QV D cy B g dz) args s 0 0 (wA B)) g d [(0, .ref (ad B x0)), (1, .int y1), (3, .int y3), (4, .long y4)] 135 [.int z0] := by
  unfold fX12_cutsText_J135 at hf
  refine b_istore C dX12_cutsText_135 [(6, .int z0), (0, .ref (ad B x0)), (1, .int y1), (3, .int y3), (4, .long y4)] (by decide) rfl ?_
  refine b_iload_n C dX12_cutsText_137 3 rfl rfl ?_
  refine b_bipush C (v := 8) dX12_cutsText_138 (by decide) ?_
  refine b_icmp_gt C (tgt := 179) dX12_cutsText_140 (by decide) (fun c54 => ?_) (fun c54 => ?_)
  · have hf := it_s c54 hf
    refine b_sub [(0, .ref (ad B x0)), (1, .int y1), (3, .int y3), (4, .long y4), (6, .int z0)] [1, 2, 3, 4, 0] rfl ?_
    exact tX12_cutsText_179 C hr hlocks hK7 hf
  · have hf := if_s c54 hf
    refine b_iconst C (v := 0) dX12_cutsText_143 (by decide) ?_
    refine b_istore C dX12_cutsText_144 [(7, .int 0), (6, .int z0), (0, .ref (ad B x0)), (1, .int y1), (3, .int y3), (4, .long y4)] (by decide) rfl ?_
    refine b_sub [(0, .ref (ad B x0)), (1, .int y1), (3, .int y3), (4, .long y4), (6, .int z0), (7, .int 0)] [2, 3, 4, 5, 1, 0] rfl ?_
    exact tX12_cutsText_L146 C hr hlocks hK7 (y1, y3, y4, z0, 0, d) hf
set_option maxRecDepth 100000 in
def fX12_cutsText_J118 (N : Nat) (g : Gs) (x0 : Nat) (K7 : Int32 × Ds → Option (Unit × Ds)) (K85 : Int32 × Int32 × Int64 × Ds → Option (Unit × Ds)) (y1 : Int32) (y3 : Int32) (y4 : Int64) (d : Ds) : Option (Unit × Ds) := bd (y3 + 1) fun u68 => (K85 (y1, u68, y4, d))
set_option maxHeartbeats 4000000 in
set_option maxRecDepth 100000 in
theorem tX12_cutsText_118 {p : Program} {l : Launch} {e : Env} {s : State} {m : MethodId} {args : Array Value} {below : List Frame} {meth : Method} {c : Code} {D : va_G} {cy : Nat → ClassId} {B : Bs} (C : Cx p s m args c cX12_cutsText 8 RX12 D cy B) (hr : meth.sig.returnType = none) (hlocks : meth.locks = false) {N : Nat} {g : Gs} {x0 : Nat}  {dz : Ds} {K7 : Int32 × Ds → Option (Unit × Ds)} {K85 : Int32 × Int32 × Int64 × Ds → Option (Unit × Ds)} (hK7 : ∀ a, K7 a = some ((), dz) → WB p l e rmX12_cutsText s m args below meth c 8 D cy B 0 0 (MQ below (QV D cy B g dz) args s 0 0 (wA B)) g a.2 [(0, .ref (ad B x0)), (1, .int a.1)] 7 []) (hK85 : ∀ a, K85 a = some ((), dz) → WB p l e rmX12_cutsText s m args below meth c 8 D cy B 0 0 (MQ below (QV D cy B g dz) args s 0 0 (wA B)) g a.2.2.2 [(0, .ref (ad B x0)), (1, .int a.1), (3, .int a.2.1), (4, .long a.2.2.1)] 85 []) {y1 : Int32} {y3 : Int32} {y4 : Int64} {d : Ds} (hf : fX12_cutsText_J118 N g x0 K7 K85 y1 y3 y4 d = some ((), dz)) : WB p l e rmX12_cutsText s m args below meth c 8 D cy B 0 0 (MQ below (QV D cy B g dz) args s 0 0 (wA B)) g d [(0, .ref (ad B x0)), (1, .int y1), (3, .int y3), (4, .long y4)] 118 [] := by
  unfold fX12_cutsText_J118 at hf
  obtain ⟨u68, eu68, hf⟩ := bd_s hf
  refine b_iinc C dX12_cutsText_118 2 rfl (by rw [eu68]; rfl) [(3, .int u68), (0, .ref (ad B x0)), (1, .int y1), (4, .long y4)] (by decide) rfl ?_
  refine b_goto C (tgt := 85) dX12_cutsText_121 (by decide) ?_
  refine b_sub [(0, .ref (ad B x0)), (1, .int y1), (3, .int u68), (4, .long y4)] [1, 2, 0, 3] rfl ?_
  exact hK85 (y1, u68, y4, d) hf
set_option maxRecDepth 100000 in
def fX12_cutsText_B85 (N : Nat) (g : Gs) (x0 : Nat) (K7 : Int32 × Ds → Option (Unit × Ds)) (K85 : Int32 × Int32 × Int64 × Ds → Option (Unit × Ds)) (y1 : Int32) (y3 : Int32) (y4 : Int64) (d : Ds) : Option (Unit × Ds) := gd (chk g x0 11) <| cb (fX12_byteAt N g x0 (y1 + y3) d) fun u48 d46 => (cb (fX12_isLetter N g u48 d46) fun u51 d49 => (if u51 = 0 then (if y3 ≤ (8 : Int32) then (fX12_cutsText_J135 N g x0 K7 y1 y3 y4 1 d49) else (fX12_cutsText_J135 N g x0 K7 y1 y3 y4 3 d49)) else (if (8 : Int32) ≤ y3 then (fX12_cutsText_J118 N g x0 K7 K85 y1 y3 y4 d49) else (cb (fX12_byteAt N g x0 (y1 + y3) d49) fun u71 d69 => (cb (fX12_appends N g y4 u71 d69) fun u74 d72 => (fX12_cutsText_J118 N g x0 K7 K85 y1 y3 u74 d72))))))
set_option maxHeartbeats 4000000 in
set_option maxRecDepth 100000 in
theorem tX12_cutsText_85 {p : Program} {l : Launch} {e : Env} {s : State} {m : MethodId} {args : Array Value} {below : List Frame} {meth : Method} {c : Code} {D : va_G} {cy : Nat → ClassId} {B : Bs} (C : Cx p s m args c cX12_cutsText 8 RX12 D cy B) (hr : meth.sig.returnType = none) (hlocks : meth.locks = false) {N : Nat} {g : Gs} {x0 : Nat}  {dz : Ds} {K7 : Int32 × Ds → Option (Unit × Ds)} {K85 : Int32 × Int32 × Int64 × Ds → Option (Unit × Ds)} (hK7 : ∀ a, K7 a = some ((), dz) → WB p l e rmX12_cutsText s m args below meth c 8 D cy B 0 0 (MQ below (QV D cy B g dz) args s 0 0 (wA B)) g a.2 [(0, .ref (ad B x0)), (1, .int a.1)] 7 []) (hK85 : ∀ a, K85 a = some ((), dz) → WB p l e rmX12_cutsText s m args below meth c 8 D cy B 0 0 (MQ below (QV D cy B g dz) args s 0 0 (wA B)) g a.2.2.2 [(0, .ref (ad B x0)), (1, .int a.1), (3, .int a.2.1), (4, .long a.2.2.1)] 85 []) {y1 : Int32} {y3 : Int32} {y4 : Int64} {d : Ds} (hf : fX12_cutsText_B85 N g x0 K7 K85 y1 y3 y4 d = some ((), dz)) : WB p l e rmX12_cutsText s m args below meth c 8 D cy B 0 0 (MQ below (QV D cy B g dz) args s 0 0 (wA B)) g d [(0, .ref (ad B x0)), (1, .int y1), (3, .int y3), (4, .long y4)] 85 [] := by
  unfold fX12_cutsText_B85 at hf
  refine b_aload_n C dX12_cutsText_85 0 rfl rfl ?_
  refine b_iload_n C dX12_cutsText_86 1 rfl rfl ?_
  refine b_iload_n C dX12_cutsText_87 2 rfl rfl ?_
  refine b_iadd C dX12_cutsText_88 ?_
  obtain ⟨h45, hf⟩ := gd_s hf
  obtain ⟨u48, d46, k47, hf⟩ := cb_s hf
  refine b_cVI C [] dX12_cutsText_89 (kX12_byteAt l D cy B k47) lv_X12_105 ⟨rfl, rfl, Nat.le_of_ble_eq_true rfl, Nat.le_of_ble_eq_true rfl⟩ h45 (by decide) rfl (Nat.le_of_ble_eq_true rfl) ⟨Nat.zero_le _, Nat.zero_le _⟩ rfl ?_
  obtain ⟨u51, d49, k50, hf⟩ := cb_s hf
  refine b_cSI C [] dX12_cutsText_92 (kX12_isLetter l D cy B k50) lv_X12_113 ⟨rfl, rfl, Nat.le_of_ble_eq_true rfl, Nat.le_of_ble_eq_true rfl⟩ rfl (Nat.le_of_ble_eq_true rfl) ⟨Nat.zero_le _, Nat.zero_le _⟩ rfl ?_
  refine b_if_eq C (tgt := 124) dX12_cutsText_95 (by decide) (fun c52 => ?_) (fun c52 => ?_)
  · have hf := it_s c52 hf
    refine b_iload_n C dX12_cutsText_124 2 rfl rfl ?_
    refine b_bipush C (v := 8) dX12_cutsText_125 (by decide) ?_
    refine b_icmp_le C (tgt := 134) dX12_cutsText_127 (by decide) (fun c53 => ?_) (fun c53 => ?_)
    · have hf := it_s c53 hf
      refine b_iconst C (v := 1) dX12_cutsText_134 (by decide) ?_
      refine b_sub [(0, .ref (ad B x0)), (1, .int y1), (3, .int y3), (4, .long y4)] [0, 1, 2, 3] rfl ?_
      exact tX12_cutsText_135 C hr hlocks hK7 hf
    · have hf := if_s c53 hf
      refine b_iconst C (v := 3) dX12_cutsText_130 (by decide) ?_
      refine b_goto C (tgt := 135) dX12_cutsText_131 (by decide) ?_
      refine b_sub [(0, .ref (ad B x0)), (1, .int y1), (3, .int y3), (4, .long y4)] [0, 1, 2, 3] rfl ?_
      exact tX12_cutsText_135 C hr hlocks hK7 hf
  · have hf := if_s c52 hf
    refine b_iload_n C dX12_cutsText_98 2 rfl rfl ?_
    refine b_bipush C (v := 8) dX12_cutsText_99 (by decide) ?_
    refine b_icmp_ge C (tgt := 118) dX12_cutsText_101 (by decide) (fun c67 => ?_) (fun c67 => ?_)
    · have hf := it_s c67 hf
      refine b_sub [(0, .ref (ad B x0)), (1, .int y1), (3, .int y3), (4, .long y4)] [0, 1, 2, 3] rfl ?_
      exact tX12_cutsText_118 C hr hlocks hK7 hK85 hf
    · have hf := if_s c67 hf
      refine b_lload C dX12_cutsText_104 3 rfl ?_
      refine b_aload_n C dX12_cutsText_106 0 rfl rfl ?_
      refine b_iload_n C dX12_cutsText_107 1 rfl rfl ?_
      refine b_iload_n C dX12_cutsText_108 2 rfl rfl ?_
      refine b_iadd C dX12_cutsText_109 ?_
      obtain ⟨u71, d69, k70, hf⟩ := cb_s hf
      refine b_cVI C [.long y4] dX12_cutsText_110 (kX12_byteAt l D cy B k70) lv_X12_105 ⟨rfl, rfl, Nat.le_of_ble_eq_true rfl, Nat.le_of_ble_eq_true rfl⟩ h45 (by decide) rfl (Nat.le_of_ble_eq_true rfl) ⟨Nat.zero_le _, Nat.zero_le _⟩ rfl ?_
      obtain ⟨u74, d72, k73, hf⟩ := cb_s hf
      refine b_cSJ C [] dX12_cutsText_113 (kX12_appends l D cy B k73) lv_X12_79 ⟨rfl, rfl, Nat.le_of_ble_eq_true rfl, Nat.le_of_ble_eq_true rfl⟩ rfl (Nat.le_of_ble_eq_true rfl) ⟨Nat.zero_le _, Nat.zero_le _⟩ rfl ?_
      refine b_lstore C dX12_cutsText_116 [(4, .long u74), (0, .ref (ad B x0)), (1, .int y1), (3, .int y3)] (by decide) rfl ?_
      refine b_sub [(0, .ref (ad B x0)), (1, .int y1), (3, .int y3), (4, .long u74)] [1, 2, 3, 0] rfl ?_
      exact tX12_cutsText_118 C hr hlocks hK7 hK85 hf
def fX12_cutsText_L85 (N : Nat) (g : Gs) (x0 : Nat) (K7 : Int32 × Ds → Option (Unit × Ds)) : Int32 × Int32 × Int64 × Ds → Option (Unit × Ds) := lp (fun K85 a => fX12_cutsText_B85 N g x0 K7 K85 a.1 a.2.1 a.2.2.1 a.2.2.2) N
theorem tX12_cutsText_L85 {p : Program} {l : Launch} {e : Env} {s : State} {m : MethodId} {args : Array Value} {below : List Frame} {meth : Method} {c : Code} {D : va_G} {cy : Nat → ClassId} {B : Bs} (C : Cx p s m args c cX12_cutsText 8 RX12 D cy B) (hr : meth.sig.returnType = none) (hlocks : meth.locks = false) {N : Nat} {g : Gs} {x0 : Nat}  {dz : Ds} {K7 : Int32 × Ds → Option (Unit × Ds)} (hK7 : ∀ a, K7 a = some ((), dz) → WB p l e rmX12_cutsText s m args below meth c 8 D cy B 0 0 (MQ below (QV D cy B g dz) args s 0 0 (wA B)) g a.2 [(0, .ref (ad B x0)), (1, .int a.1)] 7 []) (a : Int32 × Int32 × Int64 × Ds) (hf : fX12_cutsText_L85 N g x0 K7 a = some ((), dz)) : WB p l e rmX12_cutsText s m args below meth c 8 D cy B 0 0 (MQ below (QV D cy B g dz) args s 0 0 (wA B)) g a.2.2.2 [(0, .ref (ad B x0)), (1, .int a.1), (3, .int a.2.1), (4, .long a.2.2.1)] 85 [] :=
  lp_w (fun K85 hK85 a ha => tX12_cutsText_85 C hr hlocks hK7 hK85 ha) N a hf
set_option maxRecDepth 100000 in
def fX12_cutsText_B7 (N : Nat) (g : Gs) (x0 : Nat) (K7 : Int32 × Ds → Option (Unit × Ds)) (y1 : Int32) (d : Ds) : Option (Unit × Ds) := gd (chk g x0 11) <| if (400 : Int32) < (dI d x0 10) then (some ((), d)) else (cb (fX12_byteAt N g x0 y1 d) fun u7 d5 => (if y1 < (dI d5 x0 4) then (if u7 = (9 : Int32) then (fX12_cutsText_J67 N g x0 K7 y1 d5) else (if u7 = (10 : Int32) then (fX12_cutsText_J67 N g x0 K7 y1 d5) else (if u7 = (13 : Int32) then (fX12_cutsText_J67 N g x0 K7 y1 d5) else (if u7 = (32 : Int32) then (fX12_cutsText_J67 N g x0 K7 y1 d5) else (cb (fX12_isLetter N g u7 d5) fun u16 d14 => (if u16 = 0 then (cb (fX12_isDigit N g u7 d14) fun u20 d18 => (if u20 = 0 then (cb (fX12_sign N g x0 y1 u7 d18) fun u24 d22 => (bd ((y1 + u24)) fun u25 => (fX12_cutsText_J284 N g x0 K7 u25 d22))) else (fX12_cutsText_L208 N g x0 K7 (y1, 0, 0, d18)))) else (fX12_cutsText_L85 N g x0 K7 (y1, 0, 0, d14)))))))) else (cv (fX12_token N g x0 0 (dI d5 x0 4) 0 0 d5) fun d75 => (some ((), d75)))))
set_option maxHeartbeats 4000000 in
set_option maxRecDepth 100000 in
theorem tX12_cutsText_7 {p : Program} {l : Launch} {e : Env} {s : State} {m : MethodId} {args : Array Value} {below : List Frame} {meth : Method} {c : Code} {D : va_G} {cy : Nat → ClassId} {B : Bs} (C : Cx p s m args c cX12_cutsText 8 RX12 D cy B) (hr : meth.sig.returnType = none) (hlocks : meth.locks = false) {N : Nat} {g : Gs} {x0 : Nat}  {dz : Ds} {K7 : Int32 × Ds → Option (Unit × Ds)} (hK7 : ∀ a, K7 a = some ((), dz) → WB p l e rmX12_cutsText s m args below meth c 8 D cy B 0 0 (MQ below (QV D cy B g dz) args s 0 0 (wA B)) g a.2 [(0, .ref (ad B x0)), (1, .int a.1)] 7 []) {y1 : Int32} {d : Ds} (hf : fX12_cutsText_B7 N g x0 K7 y1 d = some ((), dz)) : WB p l e rmX12_cutsText s m args below meth c 8 D cy B 0 0 (MQ below (QV D cy B g dz) args s 0 0 (wA B)) g d [(0, .ref (ad B x0)), (1, .int y1)] 7 [] := by
  unfold fX12_cutsText_B7 at hf
  refine b_aload_n C dX12_cutsText_7 0 rfl rfl ?_
  obtain ⟨h3, hf⟩ := gd_s hf
  refine b_gI C dX12_cutsText_8 fl_X12_102 h3 ?_
  refine b_sipush C (v := 400) dX12_cutsText_11 (by decide) ?_
  refine b_icmp_gt C (tgt := 287) dX12_cutsText_14 (by decide) (fun c4 => ?_) (fun c4 => ?_)
  · have hf := it_s c4 hf
    exact b_vret C hr hlocks hf dX12_cutsText_287
  · have hf := if_s c4 hf
    refine b_aload_n C dX12_cutsText_17 0 rfl rfl ?_
    refine b_iload_n C dX12_cutsText_18 1 rfl rfl ?_
    obtain ⟨u7, d5, k6, hf⟩ := cb_s hf
    refine b_cVI C [] dX12_cutsText_19 (kX12_byteAt l D cy B k6) lv_X12_105 ⟨rfl, rfl, Nat.le_of_ble_eq_true rfl, Nat.le_of_ble_eq_true rfl⟩ h3 (by decide) rfl (Nat.le_of_ble_eq_true rfl) ⟨Nat.zero_le _, Nat.zero_le _⟩ rfl ?_
    refine b_istore_n C dX12_cutsText_22 rfl [(2, .int u7), (0, .ref (ad B x0)), (1, .int y1)] (by decide) rfl ?_
    refine b_iload_n C dX12_cutsText_23 2 rfl rfl ?_
    refine b_aload_n C dX12_cutsText_24 1 rfl rfl ?_
    refine b_gI C dX12_cutsText_25 fl_X12_97 h3 ?_
    refine b_icmp_lt C (tgt := 43) dX12_cutsText_28 (by decide) (fun c8 => ?_) (fun c8 => ?_)
    · have hf := it_s c8 hf
      refine b_iload_n C dX12_cutsText_43 0 rfl rfl ?_
      refine b_bipush C (v := 9) dX12_cutsText_44 (by decide) ?_
      refine b_icmp_eq C (tgt := 67) dX12_cutsText_46 (by decide) (fun c9 => ?_) (fun c9 => ?_)
      · have hf := it_s c9 hf
        refine b_sub [(0, .ref (ad B x0)), (1, .int y1)] [1, 2] rfl ?_
        exact tX12_cutsText_67 C hr hlocks hK7 hf
      · have hf := if_s c9 hf
        refine b_iload_n C dX12_cutsText_49 0 rfl rfl ?_
        refine b_bipush C (v := 10) dX12_cutsText_50 (by decide) ?_
        refine b_icmp_eq C (tgt := 67) dX12_cutsText_52 (by decide) (fun c11 => ?_) (fun c11 => ?_)
        · have hf := it_s c11 hf
          refine b_sub [(0, .ref (ad B x0)), (1, .int y1)] [1, 2] rfl ?_
          exact tX12_cutsText_67 C hr hlocks hK7 hf
        · have hf := if_s c11 hf
          refine b_iload_n C dX12_cutsText_55 0 rfl rfl ?_
          refine b_bipush C (v := 13) dX12_cutsText_56 (by decide) ?_
          refine b_icmp_eq C (tgt := 67) dX12_cutsText_58 (by decide) (fun c12 => ?_) (fun c12 => ?_)
          · have hf := it_s c12 hf
            refine b_sub [(0, .ref (ad B x0)), (1, .int y1)] [1, 2] rfl ?_
            exact tX12_cutsText_67 C hr hlocks hK7 hf
          · have hf := if_s c12 hf
            refine b_iload_n C dX12_cutsText_61 0 rfl rfl ?_
            refine b_bipush C (v := 32) dX12_cutsText_62 (by decide) ?_
            refine b_icmp_ne C (tgt := 73) dX12_cutsText_64 (by decide) (fun c13 => ?_) (fun c13 => ?_)
            · have hf := if_s c13 hf
              refine b_iload_n C dX12_cutsText_73 0 rfl rfl ?_
              obtain ⟨u16, d14, k15, hf⟩ := cb_s hf
              refine b_cSI C [] dX12_cutsText_74 (kX12_isLetter l D cy B k15) lv_X12_113 ⟨rfl, rfl, Nat.le_of_ble_eq_true rfl, Nat.le_of_ble_eq_true rfl⟩ rfl (Nat.le_of_ble_eq_true rfl) ⟨Nat.zero_le _, Nat.zero_le _⟩ rfl ?_
              refine b_if_eq C (tgt := 196) dX12_cutsText_77 (by decide) (fun c17 => ?_) (fun c17 => ?_)
              · have hf := it_s c17 hf
                refine b_iload_n C dX12_cutsText_196 0 rfl rfl ?_
                obtain ⟨u20, d18, k19, hf⟩ := cb_s hf
                refine b_cSI C [] dX12_cutsText_197 (kX12_isDigit l D cy B k19) lv_X12_117 ⟨rfl, rfl, Nat.le_of_ble_eq_true rfl, Nat.le_of_ble_eq_true rfl⟩ rfl (Nat.le_of_ble_eq_true rfl) ⟨Nat.zero_le _, Nat.zero_le _⟩ rfl ?_
                refine b_if_eq C (tgt := 275) dX12_cutsText_200 (by decide) (fun c21 => ?_) (fun c21 => ?_)
                · have hf := it_s c21 hf
                  refine b_iload_n C dX12_cutsText_275 2 rfl rfl ?_
                  refine b_aload_n C dX12_cutsText_276 1 rfl rfl ?_
                  refine b_iload_n C dX12_cutsText_277 2 rfl rfl ?_
                  refine b_iload_n C dX12_cutsText_278 0 rfl rfl ?_
                  obtain ⟨u24, d22, k23, hf⟩ := cb_s hf
                  refine b_cVI C [.int y1] dX12_cutsText_279 (kX12_sign l D cy B k23) lv_X12_120 ⟨rfl, rfl, Nat.le_of_ble_eq_true rfl, Nat.le_of_ble_eq_true rfl⟩ h3 (by decide) rfl (Nat.le_of_ble_eq_true rfl) ⟨Nat.zero_le _, Nat.zero_le _⟩ rfl ?_
                  refine b_iadd C dX12_cutsText_282 ?_
                  obtain ⟨u25, eu25, hf⟩ := bd_s hf
                  refine b_topI eu25 ?_
                  refine b_istore_n C dX12_cutsText_283 rfl [(1, .int u25), (2, .int u7), (0, .ref (ad B x0))] (by decide) rfl ?_
                  refine b_sub [(0, .ref (ad B x0)), (1, .int u25)] [2, 0] rfl ?_
                  exact tX12_cutsText_284 C hr hlocks hK7 hf
                · have hf := if_s c21 hf
                  refine b_iconst C (v := 0) dX12_cutsText_203 (by decide) ?_
                  refine b_istore_n C dX12_cutsText_204 rfl [(3, .int 0), (2, .int u7), (0, .ref (ad B x0)), (1, .int y1)] (by decide) rfl ?_
                  refine b_iconst C (v := 0) dX12_cutsText_205 (by decide) ?_
                  refine b_istore C dX12_cutsText_206 [(4, .int 0), (3, .int 0), (2, .int u7), (0, .ref (ad B x0)), (1, .int y1)] (by decide) rfl ?_
                  refine b_sub [(0, .ref (ad B x0)), (1, .int y1), (3, .int 0), (4, .int 0)] [3, 4, 1, 0] rfl ?_
                  exact tX12_cutsText_L208 C hr hlocks hK7 (y1, 0, 0, d18) hf
              · have hf := if_s c17 hf
                refine b_iconst C (v := 0) dX12_cutsText_80 (by decide) ?_
                refine b_istore_n C dX12_cutsText_81 rfl [(3, .int 0), (2, .int u7), (0, .ref (ad B x0)), (1, .int y1)] (by decide) rfl ?_
                refine b_lconst C (v := 0) dX12_cutsText_82 (by decide) ?_
                refine b_lstore C dX12_cutsText_83 [(4, .long 0), (3, .int 0), (2, .int u7), (0, .ref (ad B x0)), (1, .int y1)] (by decide) rfl ?_
                refine b_sub [(0, .ref (ad B x0)), (1, .int y1), (3, .int 0), (4, .long 0)] [3, 4, 1, 0] rfl ?_
                exact tX12_cutsText_L85 C hr hlocks hK7 (y1, 0, 0, d14) hf
            · have hf := it_s c13 hf
              refine b_sub [(0, .ref (ad B x0)), (1, .int y1)] [1, 2] rfl ?_
              exact tX12_cutsText_67 C hr hlocks hK7 hf
    · have hf := if_s c8 hf
      refine b_aload_n C dX12_cutsText_31 1 rfl rfl ?_
      refine b_iconst C (v := 0) dX12_cutsText_32 (by decide) ?_
      refine b_aload_n C dX12_cutsText_33 1 rfl rfl ?_
      refine b_gI C dX12_cutsText_34 fl_X12_97 h3 ?_
      refine b_iconst C (v := 0) dX12_cutsText_37 (by decide) ?_
      refine b_lconst C (v := 0) dX12_cutsText_38 (by decide) ?_
      obtain ⟨d75, k76, hf⟩ := cv_s hf
      refine b_cVN C [] dX12_cutsText_39 (kX12_token l D cy B k76) lv_X12_109 ⟨rfl, rfl, Nat.le_of_ble_eq_true rfl, Nat.le_of_ble_eq_true rfl⟩ h3 (by decide) rfl (Nat.le_of_ble_eq_true rfl) ⟨Nat.zero_le _, Nat.zero_le _⟩ rfl ?_
      exact b_vret C hr hlocks hf dX12_cutsText_42
def fX12_cutsText_L7 (N : Nat) (g : Gs) (x0 : Nat) : Int32 × Ds → Option (Unit × Ds) := lp (fun K7 a => fX12_cutsText_B7 N g x0 K7 a.1 a.2) N
theorem tX12_cutsText_L7 {p : Program} {l : Launch} {e : Env} {s : State} {m : MethodId} {args : Array Value} {below : List Frame} {meth : Method} {c : Code} {D : va_G} {cy : Nat → ClassId} {B : Bs} (C : Cx p s m args c cX12_cutsText 8 RX12 D cy B) (hr : meth.sig.returnType = none) (hlocks : meth.locks = false) {N : Nat} {g : Gs} {x0 : Nat}  {dz : Ds} (a : Int32 × Ds) (hf : fX12_cutsText_L7 N g x0 a = some ((), dz)) : WB p l e rmX12_cutsText s m args below meth c 8 D cy B 0 0 (MQ below (QV D cy B g dz) args s 0 0 (wA B)) g a.2 [(0, .ref (ad B x0)), (1, .int a.1)] 7 [] :=
  lp_w (fun K7 hK7 a ha => tX12_cutsText_7 C hr hlocks hK7 ha) N a hf
set_option maxRecDepth 100000 in
def fX12_cutsText (N : Nat) (g : Gs) (x0 : Nat) (d : Ds) : Option (Unit × Ds) := gd (chk g x0 11) <| bd (sI d x0 10 0) fun d2 => (fX12_cutsText_L7 N g x0 (0, d2))
set_option maxHeartbeats 4000000 in
set_option maxRecDepth 100000 in
theorem tX12_cutsText_E {p : Program} {l : Launch} {e : Env} {s : State} {m : MethodId} {args : Array Value} {below : List Frame} {meth : Method} {c : Code} {D : va_G} {cy : Nat → ClassId} {B : Bs} (C : Cx p s m args c cX12_cutsText 8 RX12 D cy B) (hr : meth.sig.returnType = none) (hlocks : meth.locks = false) {N : Nat} {g : Gs} {x0 : Nat}  {dz : Ds} {d : Ds} (hf : fX12_cutsText N g x0 d = some ((), dz)) : WB p l e rmX12_cutsText s m args below meth c 8 D cy B 0 0 (MQ below (QV D cy B g dz) args s 0 0 (wA B)) g d [(0, .ref (ad B x0))] 0 [] := by
  unfold fX12_cutsText at hf
  refine b_aload_n C dX12_cutsText_0 0 rfl rfl ?_
  refine b_iconst C (v := 0) dX12_cutsText_1 (by decide) ?_
  obtain ⟨h1, hf⟩ := gd_s hf
  obtain ⟨d2, ed2, hf⟩ := bd_s hf
  refine b_pI C dX12_cutsText_2 fl_X12_102 fp11_10 h1 ed2 ?_
  refine b_iconst C (v := 0) dX12_cutsText_5 (by decide) ?_
  refine b_istore_n C dX12_cutsText_6 rfl [(1, .int 0), (0, .ref (ad B x0))] (by decide) rfl ?_
  refine b_sub [(0, .ref (ad B x0)), (1, .int 0)] [1, 0] rfl ?_
  exact tX12_cutsText_L7 C hr hlocks (0, d2) hf
theorem kX12_cutsText (l : Launch) (D : va_G) (cy : Nat → ClassId) (B : Bs) {N : Nat} {g : Gs} {x0 : Nat}  {dz : Ds} {d : Ds} (hf : fX12_cutsText N g x0 d = some ((), dz)) : Met l yX12_cutsText (.code yX12_cutsText cX12_cutsText 8 none :: wl) rmX12_cutsText (PC D cy B [.ref (ad B x0)] g d) (QV D cy B g dz) 0 0 (wA B) :=
  met_of (by decide +kernel) (Nat.le_of_ble_eq_true rfl) (fun p e s m args below meth c C hr hlocks _ => b_sub [(0, .ref (ad B x0))] [0] rfl (tX12_cutsText_E C hr hlocks hf))
