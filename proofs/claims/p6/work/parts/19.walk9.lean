/-! KeyMatrixModel.meansMacro(I)V -/
theorem dX12_meansMacro_0 : decode cX12_meansMacro 0 = .ok (.sipush 316, 3) := by decide +kernel
theorem dX12_meansMacro_3 : decode cX12_meansMacro 3 = .ok (.bipush 9, 2) := by decide +kernel
theorem dX12_meansMacro_5 : decode cX12_meansMacro 5 = .ok (.aload_n 0, 1) := by decide +kernel
theorem dX12_meansMacro_6 : decode cX12_meansMacro 6 = .ok (.getfield 43, 3) := by decide +kernel
theorem dX12_meansMacro_9 : decode cX12_meansMacro 9 = .ok (.bipush 11, 2) := by decide +kernel
theorem dX12_meansMacro_11 : decode cX12_meansMacro 11 = .ok (.iaload, 1) := by decide +kernel
theorem dX12_meansMacro_12 : decode cX12_meansMacro 12 = .ok (.imul, 1) := by decide +kernel
theorem dX12_meansMacro_13 : decode cX12_meansMacro 13 = .ok (.iadd, 1) := by decide +kernel
theorem dX12_meansMacro_14 : decode cX12_meansMacro 14 = .ok (.istore_n 2, 1) := by decide +kernel
theorem dX12_meansMacro_15 : decode cX12_meansMacro 15 = .ok (.iload_n 1, 1) := by decide +kernel
theorem dX12_meansMacro_16 : decode cX12_meansMacro 16 = .ok (.iconst 1, 1) := by decide +kernel
theorem dX12_meansMacro_17 : decode cX12_meansMacro 17 = .ok (.iadd, 1) := by decide +kernel
theorem dX12_meansMacro_18 : decode cX12_meansMacro 18 = .ok (.istore_n 3, 1) := by decide +kernel
theorem dX12_meansMacro_19 : decode cX12_meansMacro 19 = .ok (.aload_n 0, 1) := by decide +kernel
theorem dX12_meansMacro_20 : decode cX12_meansMacro 20 = .ok (.getfield 20, 3) := by decide +kernel
theorem dX12_meansMacro_23 : decode cX12_meansMacro 23 = .ok (.iload_n 3, 1) := by decide +kernel
theorem dX12_meansMacro_24 : decode cX12_meansMacro 24 = .ok (.iaload, 1) := by decide +kernel
theorem dX12_meansMacro_25 : decode cX12_meansMacro 25 = .ok (.iconst 2, 1) := by decide +kernel
theorem dX12_meansMacro_26 : decode cX12_meansMacro 26 = .ok (.if_icmp .ne 41, 3) := by decide +kernel
theorem dX12_meansMacro_29 : decode cX12_meansMacro 29 = .ok (.aload_n 0, 1) := by decide +kernel
theorem dX12_meansMacro_30 : decode cX12_meansMacro 30 = .ok (.getfield 43, 3) := by decide +kernel
theorem dX12_meansMacro_33 : decode cX12_meansMacro 33 = .ok (.iload_n 2, 1) := by decide +kernel
theorem dX12_meansMacro_34 : decode cX12_meansMacro 34 = .ok (.dup2, 1) := by decide +kernel
theorem dX12_meansMacro_35 : decode cX12_meansMacro 35 = .ok (.iaload, 1) := by decide +kernel
theorem dX12_meansMacro_36 : decode cX12_meansMacro 36 = .ok (.iconst 1, 1) := by decide +kernel
theorem dX12_meansMacro_37 : decode cX12_meansMacro 37 = .ok (.iadd, 1) := by decide +kernel
theorem dX12_meansMacro_38 : decode cX12_meansMacro 38 = .ok (.iastore, 1) := by decide +kernel
theorem dX12_meansMacro_39 : decode cX12_meansMacro 39 = .ok (.aload_n 0, 1) := by decide +kernel
theorem dX12_meansMacro_40 : decode cX12_meansMacro 40 = .ok (.getfield 43, 3) := by decide +kernel
theorem dX12_meansMacro_43 : decode cX12_meansMacro 43 = .ok (.iload_n 2, 1) := by decide +kernel
theorem dX12_meansMacro_44 : decode cX12_meansMacro 44 = .ok (.aload_n 0, 1) := by decide +kernel
theorem dX12_meansMacro_45 : decode cX12_meansMacro 45 = .ok (.getfield 43, 3) := by decide +kernel
theorem dX12_meansMacro_48 : decode cX12_meansMacro 48 = .ok (.iload_n 2, 1) := by decide +kernel
theorem dX12_meansMacro_49 : decode cX12_meansMacro 49 = .ok (.iaload, 1) := by decide +kernel
theorem dX12_meansMacro_50 : decode cX12_meansMacro 50 = .ok (.iadd, 1) := by decide +kernel
theorem dX12_meansMacro_51 : decode cX12_meansMacro 51 = .ok (.aload_n 0, 1) := by decide +kernel
theorem dX12_meansMacro_52 : decode cX12_meansMacro 52 = .ok (.iload_n 3, 1) := by decide +kernel
theorem dX12_meansMacro_53 : decode cX12_meansMacro 53 = .ok (.iconst 1, 1) := by decide +kernel
theorem dX12_meansMacro_54 : decode cX12_meansMacro 54 = .ok (.sipush 200, 3) := by decide +kernel
theorem dX12_meansMacro_57 : decode cX12_meansMacro 57 = .ok (.invokevirtual 177, 3) := by decide +kernel
theorem dX12_meansMacro_60 : decode cX12_meansMacro 60 = .ok (.iastore, 1) := by decide +kernel
theorem dX12_meansMacro_61 : decode cX12_meansMacro 61 = .ok (.iinc 3 1, 3) := by decide +kernel
theorem dX12_meansMacro_64 : decode cX12_meansMacro 64 = .ok (.goto (-45), 3) := by decide +kernel
theorem dX12_meansMacro_67 : decode cX12_meansMacro 67 = .ok (.aload_n 0, 1) := by decide +kernel
theorem dX12_meansMacro_68 : decode cX12_meansMacro 68 = .ok (.getfield 43, 3) := by decide +kernel
theorem dX12_meansMacro_71 : decode cX12_meansMacro 71 = .ok (.bipush 11, 2) := by decide +kernel
theorem dX12_meansMacro_73 : decode cX12_meansMacro 73 = .ok (.dup2, 1) := by decide +kernel
theorem dX12_meansMacro_74 : decode cX12_meansMacro 74 = .ok (.iaload, 1) := by decide +kernel
theorem dX12_meansMacro_75 : decode cX12_meansMacro 75 = .ok (.iconst 1, 1) := by decide +kernel
theorem dX12_meansMacro_76 : decode cX12_meansMacro 76 = .ok (.iadd, 1) := by decide +kernel
theorem dX12_meansMacro_77 : decode cX12_meansMacro 77 = .ok (.iastore, 1) := by decide +kernel
theorem dX12_meansMacro_78 : decode cX12_meansMacro 78 = .ok (.return_, 1) := by decide +kernel
def rmX12_meansMacro : Room := { frames := 2, cells := 0, slots := 0, locals := 46 }
set_option maxRecDepth 100000 in
def fX12_meansMacro_B19 (N : Nat) (g : Gs) (x0 : Nat) (x1 : Int32) (K19 : Int32 × Int32 × Ds → Option (Unit × Ds)) (y2 : Int32) (y3 : Int32) (d : Ds) : Option (Unit × Ds) := gd (chk g x0 11) <| ob (gR g x0 5) fun r8 => (gd (chk g r8 102) <| gd (¬ (y3 < 0 ∨ gL g r8 ≤ y3.toNatClampNeg)) <| if (dI d r8 y3.toNatClampNeg) = (2 : Int32) then (ob (gR g x0 18) fun r16 => (gd (chk g r16 102) <| gd (¬ (y2 < 0 ∨ gL g r16 ≤ y2.toNatClampNeg)) <| bd (sI d r16 y2.toNatClampNeg ((dI d r16 y2.toNatClampNeg) + 1)) fun d19 => (cb (fX12_within N g x0 y3 1 200 d19) fun u22 d20 => (gd (¬ ((y2 + (dI d19 r16 y2.toNatClampNeg)) < 0 ∨ gL g r16 ≤ (y2 + (dI d19 r16 y2.toNatClampNeg)).toNatClampNeg)) <| bd (sI d20 r16 (y2 + (dI d19 r16 y2.toNatClampNeg)).toNatClampNeg u22) fun d24 => (bd (y3 + 1) fun u25 => (K19 (y2, u25, d24))))))) else (ob (gR g x0 18) fun r12 => (gd (chk g r12 102) <| gd (¬ ((11 : Int32) < 0 ∨ gL g r12 ≤ (11 : Int32).toNatClampNeg)) <| bd (sI d r12 (11 : Int32).toNatClampNeg ((dI d r12 (11 : Int32).toNatClampNeg) + 1)) fun d15 => (some ((), d15)))))
set_option maxHeartbeats 4000000 in
set_option maxRecDepth 100000 in
theorem tX12_meansMacro_19 {p : Program} {l : Launch} {e : Env} {s : State} {m : MethodId} {args : Array Value} {below : List Frame} {meth : Method} {c : Code} {D : va_G} {cy : Nat → ClassId} {B : Bs} (C : Cx p s m args c cX12_meansMacro 4 RX12 D cy B) (hr : meth.sig.returnType = none) (hlocks : meth.locks = false) {N : Nat} {g : Gs} {x0 : Nat} {x1 : Int32}  {dz : Ds} {K19 : Int32 × Int32 × Ds → Option (Unit × Ds)} (hK19 : ∀ a, K19 a = some ((), dz) → WB p l e rmX12_meansMacro s m args below meth c 4 D cy B 0 0 (MQ below (QV D cy B g dz) args s 0 0 (wA B)) g a.2.2 [(0, .ref (ad B x0)), (1, .int x1), (2, .int a.1), (3, .int a.2.1)] 19 []) {y2 : Int32} {y3 : Int32} {d : Ds} (hf : fX12_meansMacro_B19 N g x0 x1 K19 y2 y3 d = some ((), dz)) : WB p l e rmX12_meansMacro s m args below meth c 4 D cy B 0 0 (MQ below (QV D cy B g dz) args s 0 0 (wA B)) g d [(0, .ref (ad B x0)), (1, .int x1), (2, .int y2), (3, .int y3)] 19 [] := by
  unfold fX12_meansMacro_B19 at hf
  refine b_aload_n C dX12_meansMacro_19 0 rfl rfl ?_
  obtain ⟨h7, hf⟩ := gd_s hf
  obtain ⟨r8, er8, hf⟩ := ob_s hf
  refine b_gR C dX12_meansMacro_20 fl_X12_20 h7 er8 ?_
  refine b_iload_n C dX12_meansMacro_23 3 rfl rfl ?_
  obtain ⟨h9, hf⟩ := gd_s hf
  obtain ⟨h10, hf⟩ := gd_s hf
  refine b_iald C h9 h10 dX12_meansMacro_24 ?_
  refine b_iconst C (v := 2) dX12_meansMacro_25 (by decide) ?_
  refine b_icmp_ne C (tgt := 67) dX12_meansMacro_26 (by decide) (fun c11 => ?_) (fun c11 => ?_)
  · have hf := if_s c11 hf
    refine b_aload_n C dX12_meansMacro_67 0 rfl rfl ?_
    obtain ⟨r12, er12, hf⟩ := ob_s hf
    refine b_gR C dX12_meansMacro_68 fl_X12_43 h7 er12 ?_
    refine b_bipush C (v := 11) dX12_meansMacro_71 (by decide) ?_
    refine b_dup2 C dX12_meansMacro_73 rfl rfl ?_
    obtain ⟨h13, hf⟩ := gd_s hf
    obtain ⟨h14, hf⟩ := gd_s hf
    refine b_iald C h13 h14 dX12_meansMacro_74 ?_
    refine b_iconst C (v := 1) dX12_meansMacro_75 (by decide) ?_
    refine b_iadd C dX12_meansMacro_76 ?_
    obtain ⟨d15, ed15, hf⟩ := bd_s hf
    refine b_iast C h13 h14 ed15 dX12_meansMacro_77 ?_
    exact b_vret C hr hlocks hf dX12_meansMacro_78
  · have hf := it_s c11 hf
    refine b_aload_n C dX12_meansMacro_29 0 rfl rfl ?_
    obtain ⟨r16, er16, hf⟩ := ob_s hf
    refine b_gR C dX12_meansMacro_30 fl_X12_43 h7 er16 ?_
    refine b_iload_n C dX12_meansMacro_33 2 rfl rfl ?_
    refine b_dup2 C dX12_meansMacro_34 rfl rfl ?_
    obtain ⟨h17, hf⟩ := gd_s hf
    obtain ⟨h18, hf⟩ := gd_s hf
    refine b_iald C h17 h18 dX12_meansMacro_35 ?_
    refine b_iconst C (v := 1) dX12_meansMacro_36 (by decide) ?_
    refine b_iadd C dX12_meansMacro_37 ?_
    obtain ⟨d19, ed19, hf⟩ := bd_s hf
    refine b_iast C h17 h18 ed19 dX12_meansMacro_38 ?_
    refine b_aload_n C dX12_meansMacro_39 0 rfl rfl ?_
    refine b_gR C dX12_meansMacro_40 fl_X12_43 h7 er16 ?_
    refine b_iload_n C dX12_meansMacro_43 2 rfl rfl ?_
    refine b_aload_n C dX12_meansMacro_44 0 rfl rfl ?_
    refine b_gR C dX12_meansMacro_45 fl_X12_43 h7 er16 ?_
    refine b_iload_n C dX12_meansMacro_48 2 rfl rfl ?_
    refine b_iald C h17 h18 dX12_meansMacro_49 ?_
    refine b_iadd C dX12_meansMacro_50 ?_
    refine b_aload_n C dX12_meansMacro_51 0 rfl rfl ?_
    refine b_iload_n C dX12_meansMacro_52 3 rfl rfl ?_
    refine b_iconst C (v := 1) dX12_meansMacro_53 (by decide) ?_
    refine b_sipush C (v := 200) dX12_meansMacro_54 (by decide) ?_
    obtain ⟨u22, d20, k21, hf⟩ := cb_s hf
    refine b_cVI C [.int (y2 + (dI d19 r16 y2.toNatClampNeg)), .ref (ad B r16)] dX12_meansMacro_57 (kX12_within l D cy B k21) lv_X12_177 ⟨rfl, rfl, Nat.le_of_ble_eq_true rfl, Nat.le_of_ble_eq_true rfl⟩ h7 (by decide) rfl (Nat.le_of_ble_eq_true rfl) ⟨Nat.zero_le _, Nat.zero_le _⟩ rfl ?_
    obtain ⟨h23, hf⟩ := gd_s hf
    obtain ⟨d24, ed24, hf⟩ := bd_s hf
    refine b_iast C h17 h23 ed24 dX12_meansMacro_60 ?_
    obtain ⟨u25, eu25, hf⟩ := bd_s hf
    refine b_iinc C dX12_meansMacro_61 3 rfl (by rw [eu25]; rfl) [(3, .int u25), (0, .ref (ad B x0)), (1, .int x1), (2, .int y2)] (by decide) rfl ?_
    refine b_goto C (tgt := 19) dX12_meansMacro_64 (by decide) ?_
    refine b_sub [(0, .ref (ad B x0)), (1, .int x1), (2, .int y2), (3, .int u25)] [1, 2, 3, 0] rfl ?_
    exact hK19 (y2, u25, d24) hf
def fX12_meansMacro_L19 (N : Nat) (g : Gs) (x0 : Nat) (x1 : Int32) : Int32 × Int32 × Ds → Option (Unit × Ds) := lp (fun K19 a => fX12_meansMacro_B19 N g x0 x1 K19 a.1 a.2.1 a.2.2) N
theorem tX12_meansMacro_L19 {p : Program} {l : Launch} {e : Env} {s : State} {m : MethodId} {args : Array Value} {below : List Frame} {meth : Method} {c : Code} {D : va_G} {cy : Nat → ClassId} {B : Bs} (C : Cx p s m args c cX12_meansMacro 4 RX12 D cy B) (hr : meth.sig.returnType = none) (hlocks : meth.locks = false) {N : Nat} {g : Gs} {x0 : Nat} {x1 : Int32}  {dz : Ds} (a : Int32 × Int32 × Ds) (hf : fX12_meansMacro_L19 N g x0 x1 a = some ((), dz)) : WB p l e rmX12_meansMacro s m args below meth c 4 D cy B 0 0 (MQ below (QV D cy B g dz) args s 0 0 (wA B)) g a.2.2 [(0, .ref (ad B x0)), (1, .int x1), (2, .int a.1), (3, .int a.2.1)] 19 [] :=
  lp_w (fun K19 hK19 a ha => tX12_meansMacro_19 C hr hlocks hK19 ha) N a hf
set_option maxRecDepth 100000 in
def fX12_meansMacro (N : Nat) (g : Gs) (x0 : Nat) (x1 : Int32) (d : Ds) : Option (Unit × Ds) := gd (chk g x0 11) <| ob (gR g x0 18) fun r2 => (gd (chk g r2 102) <| gd (¬ ((11 : Int32) < 0 ∨ gL g r2 ≤ (11 : Int32).toNatClampNeg)) <| bd (((316 : Int32) + ((9 : Int32) * (dI d r2 (11 : Int32).toNatClampNeg)))) fun u5 => (bd ((x1 + 1)) fun u6 => (fX12_meansMacro_L19 N g x0 x1 (u5, u6, d))))
set_option maxHeartbeats 4000000 in
set_option maxRecDepth 100000 in
theorem tX12_meansMacro_E {p : Program} {l : Launch} {e : Env} {s : State} {m : MethodId} {args : Array Value} {below : List Frame} {meth : Method} {c : Code} {D : va_G} {cy : Nat → ClassId} {B : Bs} (C : Cx p s m args c cX12_meansMacro 4 RX12 D cy B) (hr : meth.sig.returnType = none) (hlocks : meth.locks = false) {N : Nat} {g : Gs} {x0 : Nat} {x1 : Int32}  {dz : Ds} {d : Ds} (hf : fX12_meansMacro N g x0 x1 d = some ((), dz)) : WB p l e rmX12_meansMacro s m args below meth c 4 D cy B 0 0 (MQ below (QV D cy B g dz) args s 0 0 (wA B)) g d [(0, .ref (ad B x0)), (1, .int x1)] 0 [] := by
  unfold fX12_meansMacro at hf
  refine b_sipush C (v := 316) dX12_meansMacro_0 (by decide) ?_
  refine b_bipush C (v := 9) dX12_meansMacro_3 (by decide) ?_
  refine b_aload_n C dX12_meansMacro_5 0 rfl rfl ?_
  obtain ⟨h1, hf⟩ := gd_s hf
  obtain ⟨r2, er2, hf⟩ := ob_s hf
  refine b_gR C dX12_meansMacro_6 fl_X12_43 h1 er2 ?_
  refine b_bipush C (v := 11) dX12_meansMacro_9 (by decide) ?_
  obtain ⟨h3, hf⟩ := gd_s hf
  obtain ⟨h4, hf⟩ := gd_s hf
  refine b_iald C h3 h4 dX12_meansMacro_11 ?_
  refine b_imul C dX12_meansMacro_12 ?_
  refine b_iadd C dX12_meansMacro_13 ?_
  obtain ⟨u5, eu5, hf⟩ := bd_s hf
  refine b_topI eu5 ?_
  refine b_istore_n C dX12_meansMacro_14 rfl [(2, .int u5), (0, .ref (ad B x0)), (1, .int x1)] (by decide) rfl ?_
  refine b_iload_n C dX12_meansMacro_15 2 rfl rfl ?_
  refine b_iconst C (v := 1) dX12_meansMacro_16 (by decide) ?_
  refine b_iadd C dX12_meansMacro_17 ?_
  obtain ⟨u6, eu6, hf⟩ := bd_s hf
  refine b_topI eu6 ?_
  refine b_istore_n C dX12_meansMacro_18 rfl [(3, .int u6), (2, .int u5), (0, .ref (ad B x0)), (1, .int x1)] (by decide) rfl ?_
  refine b_sub [(0, .ref (ad B x0)), (1, .int x1), (2, .int u5), (3, .int u6)] [2, 3, 1, 0] rfl ?_
  exact tX12_meansMacro_L19 C hr hlocks (u5, u6, d) hf
theorem kX12_meansMacro (l : Launch) (D : va_G) (cy : Nat → ClassId) (B : Bs) {N : Nat} {g : Gs} {x0 : Nat} {x1 : Int32}  {dz : Ds} {d : Ds} (hf : fX12_meansMacro N g x0 x1 d = some ((), dz)) : Met l yX12_meansMacro (.code yX12_meansMacro cX12_meansMacro 4 none :: wl) rmX12_meansMacro (PC D cy B [.ref (ad B x0), .int x1] g d) (QV D cy B g dz) 0 0 (wA B) :=
  met_of (by decide +kernel) (Nat.le_of_ble_eq_true rfl) (fun p e s m args below meth c C hr hlocks _ => b_sub [(0, .ref (ad B x0)), (1, .int x1)] [0, 1] rfl (tX12_meansMacro_E C hr hlocks hf))
/-! KeyMatrixModel.meansLine(I)V -/
theorem yo_X12_meansKey : yX12_meansKey.cls ≠ "java/lang/invoke/MethodHandle" ∧ yX12_meansKey.cls ≠ "java/lang/invoke/VarHandle" ∧ (parseMethodDescriptor yX12_meansKey.desc).map (fun d => d.parameters.length) = some 1 := by decide +kernel
theorem co_X12_meansKey : Cond.code yX12_meansKey cX12_meansKey 5 none ∈ wl := mW (mT6 (List.mem_of_getElem? (i := 37) (by decide +kernel))) rfl
theorem in_X12_meansKey : Cond.initialized yX12_meansKey.cls ∈ wl := mW (mT1 (List.mem_of_getElem? (i := 12) (by decide +kernel))) rfl
theorem im_X12_meansKey : Cond.instanceMethod yX12_meansKey ∈ wl := mW (mT6 (List.mem_of_getElem? (i := 36) (by decide +kernel))) rfl
theorem se_X12_meansKey : Cond.selects yX12_meansKey.cls yX12_meansKey yX12_meansKey ∈ wl := mW (mT0 (List.mem_of_getElem? (i := 47) (by decide +kernel))) rfl
theorem lv_X12_188 : LV RX12 188 yX12_meansKey cX12_meansKey 5 none 1 11 := ⟨⟨(RX12, TX12, 33), rfl, rfl⟩, yo_X12_meansKey, mW (mT6 (List.mem_of_getElem? (i := 34) (by decide +kernel))) rfl, im_X12_meansKey, se_X12_meansKey, in_X12_meansKey, co_X12_meansKey⟩
theorem yo_X12_meansChord : yX12_meansChord.cls ≠ "java/lang/invoke/MethodHandle" ∧ yX12_meansChord.cls ≠ "java/lang/invoke/VarHandle" ∧ (parseMethodDescriptor yX12_meansChord.desc).map (fun d => d.parameters.length) = some 1 := by decide +kernel
theorem co_X12_meansChord : Cond.code yX12_meansChord cX12_meansChord 6 none ∈ wl := mW (mT6 (List.mem_of_getElem? (i := 49) (by decide +kernel))) rfl
theorem in_X12_meansChord : Cond.initialized yX12_meansChord.cls ∈ wl := mW (mT1 (List.mem_of_getElem? (i := 12) (by decide +kernel))) rfl
theorem im_X12_meansChord : Cond.instanceMethod yX12_meansChord ∈ wl := mW (mT6 (List.mem_of_getElem? (i := 48) (by decide +kernel))) rfl
theorem se_X12_meansChord : Cond.selects yX12_meansChord.cls yX12_meansChord yX12_meansChord ∈ wl := mW (mT0 (List.mem_of_getElem? (i := 50) (by decide +kernel))) rfl
theorem lv_X12_191 : LV RX12 191 yX12_meansChord cX12_meansChord 6 none 1 11 := ⟨⟨(RX12, TX12, 33), rfl, rfl⟩, yo_X12_meansChord, mW (mT6 (List.mem_of_getElem? (i := 46) (by decide +kernel))) rfl, im_X12_meansChord, se_X12_meansChord, in_X12_meansChord, co_X12_meansChord⟩
theorem yo_X12_meansMacro : yX12_meansMacro.cls ≠ "java/lang/invoke/MethodHandle" ∧ yX12_meansMacro.cls ≠ "java/lang/invoke/VarHandle" ∧ (parseMethodDescriptor yX12_meansMacro.desc).map (fun d => d.parameters.length) = some 1 := by decide +kernel
theorem co_X12_meansMacro : Cond.code yX12_meansMacro cX12_meansMacro 4 none ∈ wl := mW (mT6 (List.mem_of_getElem? (i := 57) (by decide +kernel))) rfl
theorem in_X12_meansMacro : Cond.initialized yX12_meansMacro.cls ∈ wl := mW (mT1 (List.mem_of_getElem? (i := 12) (by decide +kernel))) rfl
theorem im_X12_meansMacro : Cond.instanceMethod yX12_meansMacro ∈ wl := mW (mT6 (List.mem_of_getElem? (i := 56) (by decide +kernel))) rfl
theorem se_X12_meansMacro : Cond.selects yX12_meansMacro.cls yX12_meansMacro yX12_meansMacro ∈ wl := mW (mT0 (List.mem_of_getElem? (i := 52) (by decide +kernel))) rfl
theorem lv_X12_194 : LV RX12 194 yX12_meansMacro cX12_meansMacro 4 none 1 11 := ⟨⟨(RX12, TX12, 33), rfl, rfl⟩, yo_X12_meansMacro, mW (mT6 (List.mem_of_getElem? (i := 54) (by decide +kernel))) rfl, im_X12_meansMacro, se_X12_meansMacro, in_X12_meansMacro, co_X12_meansMacro⟩
theorem dX12_meansLine_0 : decode cX12_meansLine 0 = .ok (.aload_n 0, 1) := by decide +kernel
theorem dX12_meansLine_1 : decode cX12_meansLine 1 = .ok (.getfield 20, 3) := by decide +kernel
theorem dX12_meansLine_4 : decode cX12_meansLine 4 = .ok (.iload_n 1, 1) := by decide +kernel
theorem dX12_meansLine_5 : decode cX12_meansLine 5 = .ok (.iaload, 1) := by decide +kernel
theorem dX12_meansLine_6 : decode cX12_meansLine 6 = .ok (.tableswitch 213 21 30 #[54, 64, 74, 93, 112, 132, 152, 189, 197, 205], 54) := by decide +kernel
theorem dX12_meansLine_60 : decode cX12_meansLine 60 = .ok (.aload_n 0, 1) := by decide +kernel
theorem dX12_meansLine_61 : decode cX12_meansLine 61 = .ok (.getfield 43, 3) := by decide +kernel
theorem dX12_meansLine_64 : decode cX12_meansLine 64 = .ok (.iconst 2, 1) := by decide +kernel
theorem dX12_meansLine_65 : decode cX12_meansLine 65 = .ok (.iconst 1, 1) := by decide +kernel
theorem dX12_meansLine_66 : decode cX12_meansLine 66 = .ok (.iastore, 1) := by decide +kernel
theorem dX12_meansLine_67 : decode cX12_meansLine 67 = .ok (.goto 152, 3) := by decide +kernel
theorem dX12_meansLine_70 : decode cX12_meansLine 70 = .ok (.aload_n 0, 1) := by decide +kernel
theorem dX12_meansLine_71 : decode cX12_meansLine 71 = .ok (.getfield 43, 3) := by decide +kernel
theorem dX12_meansLine_74 : decode cX12_meansLine 74 = .ok (.iconst 3, 1) := by decide +kernel
theorem dX12_meansLine_75 : decode cX12_meansLine 75 = .ok (.iconst 1, 1) := by decide +kernel
theorem dX12_meansLine_76 : decode cX12_meansLine 76 = .ok (.iastore, 1) := by decide +kernel
theorem dX12_meansLine_77 : decode cX12_meansLine 77 = .ok (.goto 142, 3) := by decide +kernel
theorem dX12_meansLine_80 : decode cX12_meansLine 80 = .ok (.aload_n 0, 1) := by decide +kernel
theorem dX12_meansLine_81 : decode cX12_meansLine 81 = .ok (.getfield 43, 3) := by decide +kernel
theorem dX12_meansLine_84 : decode cX12_meansLine 84 = .ok (.iconst 4, 1) := by decide +kernel
theorem dX12_meansLine_85 : decode cX12_meansLine 85 = .ok (.aload_n 0, 1) := by decide +kernel
theorem dX12_meansLine_86 : decode cX12_meansLine 86 = .ok (.iload_n 1, 1) := by decide +kernel
theorem dX12_meansLine_87 : decode cX12_meansLine 87 = .ok (.iconst 1, 1) := by decide +kernel
theorem dX12_meansLine_88 : decode cX12_meansLine 88 = .ok (.iadd, 1) := by decide +kernel
theorem dX12_meansLine_89 : decode cX12_meansLine 89 = .ok (.iconst 1, 1) := by decide +kernel
theorem dX12_meansLine_90 : decode cX12_meansLine 90 = .ok (.bipush 9, 2) := by decide +kernel
theorem dX12_meansLine_92 : decode cX12_meansLine 92 = .ok (.invokevirtual 177, 3) := by decide +kernel
theorem dX12_meansLine_95 : decode cX12_meansLine 95 = .ok (.iastore, 1) := by decide +kernel
theorem dX12_meansLine_96 : decode cX12_meansLine 96 = .ok (.goto 123, 3) := by decide +kernel
theorem dX12_meansLine_99 : decode cX12_meansLine 99 = .ok (.aload_n 0, 1) := by decide +kernel
theorem dX12_meansLine_100 : decode cX12_meansLine 100 = .ok (.getfield 43, 3) := by decide +kernel
theorem dX12_meansLine_103 : decode cX12_meansLine 103 = .ok (.iconst 5, 1) := by decide +kernel
theorem dX12_meansLine_104 : decode cX12_meansLine 104 = .ok (.aload_n 0, 1) := by decide +kernel
theorem dX12_meansLine_105 : decode cX12_meansLine 105 = .ok (.iload_n 1, 1) := by decide +kernel
theorem dX12_meansLine_106 : decode cX12_meansLine 106 = .ok (.iconst 1, 1) := by decide +kernel
theorem dX12_meansLine_107 : decode cX12_meansLine 107 = .ok (.iadd, 1) := by decide +kernel
theorem dX12_meansLine_108 : decode cX12_meansLine 108 = .ok (.iconst 1, 1) := by decide +kernel
theorem dX12_meansLine_109 : decode cX12_meansLine 109 = .ok (.bipush 99, 2) := by decide +kernel
theorem dX12_meansLine_111 : decode cX12_meansLine 111 = .ok (.invokevirtual 177, 3) := by decide +kernel
theorem dX12_meansLine_114 : decode cX12_meansLine 114 = .ok (.iastore, 1) := by decide +kernel
theorem dX12_meansLine_115 : decode cX12_meansLine 115 = .ok (.goto 104, 3) := by decide +kernel
theorem dX12_meansLine_118 : decode cX12_meansLine 118 = .ok (.aload_n 0, 1) := by decide +kernel
theorem dX12_meansLine_119 : decode cX12_meansLine 119 = .ok (.getfield 43, 3) := by decide +kernel
theorem dX12_meansLine_122 : decode cX12_meansLine 122 = .ok (.bipush 6, 2) := by decide +kernel
theorem dX12_meansLine_124 : decode cX12_meansLine 124 = .ok (.aload_n 0, 1) := by decide +kernel
theorem dX12_meansLine_125 : decode cX12_meansLine 125 = .ok (.iload_n 1, 1) := by decide +kernel
theorem dX12_meansLine_126 : decode cX12_meansLine 126 = .ok (.iconst 1, 1) := by decide +kernel
theorem dX12_meansLine_127 : decode cX12_meansLine 127 = .ok (.iadd, 1) := by decide +kernel
theorem dX12_meansLine_128 : decode cX12_meansLine 128 = .ok (.iconst 1, 1) := by decide +kernel
theorem dX12_meansLine_129 : decode cX12_meansLine 129 = .ok (.bipush 20, 2) := by decide +kernel
theorem dX12_meansLine_131 : decode cX12_meansLine 131 = .ok (.invokevirtual 177, 3) := by decide +kernel
theorem dX12_meansLine_134 : decode cX12_meansLine 134 = .ok (.iastore, 1) := by decide +kernel
theorem dX12_meansLine_135 : decode cX12_meansLine 135 = .ok (.goto 84, 3) := by decide +kernel
theorem dX12_meansLine_138 : decode cX12_meansLine 138 = .ok (.aload_n 0, 1) := by decide +kernel
theorem dX12_meansLine_139 : decode cX12_meansLine 139 = .ok (.getfield 43, 3) := by decide +kernel
theorem dX12_meansLine_142 : decode cX12_meansLine 142 = .ok (.bipush 7, 2) := by decide +kernel
theorem dX12_meansLine_144 : decode cX12_meansLine 144 = .ok (.aload_n 0, 1) := by decide +kernel
theorem dX12_meansLine_145 : decode cX12_meansLine 145 = .ok (.iload_n 1, 1) := by decide +kernel
theorem dX12_meansLine_146 : decode cX12_meansLine 146 = .ok (.iconst 1, 1) := by decide +kernel
theorem dX12_meansLine_147 : decode cX12_meansLine 147 = .ok (.iadd, 1) := by decide +kernel
theorem dX12_meansLine_148 : decode cX12_meansLine 148 = .ok (.iconst 1, 1) := by decide +kernel
theorem dX12_meansLine_149 : decode cX12_meansLine 149 = .ok (.bipush 40, 2) := by decide +kernel
theorem dX12_meansLine_151 : decode cX12_meansLine 151 = .ok (.invokevirtual 177, 3) := by decide +kernel
theorem dX12_meansLine_154 : decode cX12_meansLine 154 = .ok (.iastore, 1) := by decide +kernel
theorem dX12_meansLine_155 : decode cX12_meansLine 155 = .ok (.goto 64, 3) := by decide +kernel
theorem dX12_meansLine_158 : decode cX12_meansLine 158 = .ok (.aload_n 0, 1) := by decide +kernel
theorem dX12_meansLine_159 : decode cX12_meansLine 159 = .ok (.getfield 43, 3) := by decide +kernel
theorem dX12_meansLine_162 : decode cX12_meansLine 162 = .ok (.bipush 8, 2) := by decide +kernel
theorem dX12_meansLine_164 : decode cX12_meansLine 164 = .ok (.aload_n 0, 1) := by decide +kernel
theorem dX12_meansLine_165 : decode cX12_meansLine 165 = .ok (.iload_n 1, 1) := by decide +kernel
theorem dX12_meansLine_166 : decode cX12_meansLine 166 = .ok (.iconst 1, 1) := by decide +kernel
theorem dX12_meansLine_167 : decode cX12_meansLine 167 = .ok (.iadd, 1) := by decide +kernel
theorem dX12_meansLine_168 : decode cX12_meansLine 168 = .ok (.iconst 1, 1) := by decide +kernel
theorem dX12_meansLine_169 : decode cX12_meansLine 169 = .ok (.bipush 99, 2) := by decide +kernel
theorem dX12_meansLine_171 : decode cX12_meansLine 171 = .ok (.invokevirtual 177, 3) := by decide +kernel
theorem dX12_meansLine_174 : decode cX12_meansLine 174 = .ok (.iastore, 1) := by decide +kernel
theorem dX12_meansLine_175 : decode cX12_meansLine 175 = .ok (.aload_n 0, 1) := by decide +kernel
theorem dX12_meansLine_176 : decode cX12_meansLine 176 = .ok (.getfield 43, 3) := by decide +kernel
theorem dX12_meansLine_179 : decode cX12_meansLine 179 = .ok (.bipush 9, 2) := by decide +kernel
theorem dX12_meansLine_181 : decode cX12_meansLine 181 = .ok (.aload_n 0, 1) := by decide +kernel
theorem dX12_meansLine_182 : decode cX12_meansLine 182 = .ok (.iload_n 1, 1) := by decide +kernel
theorem dX12_meansLine_183 : decode cX12_meansLine 183 = .ok (.iconst 2, 1) := by decide +kernel
theorem dX12_meansLine_184 : decode cX12_meansLine 184 = .ok (.iadd, 1) := by decide +kernel
theorem dX12_meansLine_185 : decode cX12_meansLine 185 = .ok (.iconst 1, 1) := by decide +kernel
theorem dX12_meansLine_186 : decode cX12_meansLine 186 = .ok (.bipush 20, 2) := by decide +kernel
theorem dX12_meansLine_188 : decode cX12_meansLine 188 = .ok (.invokevirtual 177, 3) := by decide +kernel
theorem dX12_meansLine_191 : decode cX12_meansLine 191 = .ok (.iastore, 1) := by decide +kernel
theorem dX12_meansLine_192 : decode cX12_meansLine 192 = .ok (.goto 27, 3) := by decide +kernel
theorem dX12_meansLine_195 : decode cX12_meansLine 195 = .ok (.aload_n 0, 1) := by decide +kernel
theorem dX12_meansLine_196 : decode cX12_meansLine 196 = .ok (.iload_n 1, 1) := by decide +kernel
theorem dX12_meansLine_197 : decode cX12_meansLine 197 = .ok (.invokevirtual 188, 3) := by decide +kernel
theorem dX12_meansLine_200 : decode cX12_meansLine 200 = .ok (.goto 19, 3) := by decide +kernel
theorem dX12_meansLine_203 : decode cX12_meansLine 203 = .ok (.aload_n 0, 1) := by decide +kernel
theorem dX12_meansLine_204 : decode cX12_meansLine 204 = .ok (.iload_n 1, 1) := by decide +kernel
theorem dX12_meansLine_205 : decode cX12_meansLine 205 = .ok (.invokevirtual 191, 3) := by decide +kernel
theorem dX12_meansLine_208 : decode cX12_meansLine 208 = .ok (.goto 11, 3) := by decide +kernel
theorem dX12_meansLine_211 : decode cX12_meansLine 211 = .ok (.aload_n 0, 1) := by decide +kernel
theorem dX12_meansLine_212 : decode cX12_meansLine 212 = .ok (.iload_n 1, 1) := by decide +kernel
theorem dX12_meansLine_213 : decode cX12_meansLine 213 = .ok (.invokevirtual 194, 3) := by decide +kernel
theorem dX12_meansLine_216 : decode cX12_meansLine 216 = .ok (.goto 3, 3) := by decide +kernel
theorem dX12_meansLine_219 : decode cX12_meansLine 219 = .ok (.return_, 1) := by decide +kernel
def rmX12_meansLine : Room := { frames := 4, cells := 0, slots := 0, locals := 93 }
set_option maxRecDepth 100000 in
def fX12_meansLine_J219 (N : Nat) (g : Gs) (x0 : Nat) (x1 : Int32) (d : Ds) : Option (Unit × Ds) := some ((), d)
set_option maxHeartbeats 4000000 in
set_option maxRecDepth 100000 in
theorem tX12_meansLine_219 {p : Program} {l : Launch} {e : Env} {s : State} {m : MethodId} {args : Array Value} {below : List Frame} {meth : Method} {c : Code} {D : va_G} {cy : Nat → ClassId} {B : Bs} (C : Cx p s m args c cX12_meansLine 2 RX12 D cy B) (hr : meth.sig.returnType = none) (hlocks : meth.locks = false) {N : Nat} {g : Gs} {x0 : Nat} {x1 : Int32}  {dz : Ds} {d : Ds} (hf : fX12_meansLine_J219 N g x0 x1 d = some ((), dz)) : WB p l e rmX12_meansLine s m args below meth c 2 D cy B 0 0 (MQ below (QV D cy B g dz) args s 0 0 (wA B)) g d [(0, .ref (ad B x0)), (1, .int x1)] 219 [] := by
  unfold fX12_meansLine_J219 at hf
  exact b_vret C hr hlocks hf dX12_meansLine_219
set_option maxRecDepth 100000 in
def fX12_meansLine_J175 (N : Nat) (g : Gs) (x0 : Nat) (x1 : Int32) (d : Ds) : Option (Unit × Ds) := gd (chk g x0 11) <| ob (gR g x0 18) fun r57 => (cb (fX12_within N g x0 (x1 + 2) 1 20 d) fun u60 d58 => (gd (chk g r57 102) <| gd (¬ ((9 : Int32) < 0 ∨ gL g r57 ≤ (9 : Int32).toNatClampNeg)) <| bd (sI d58 r57 (9 : Int32).toNatClampNeg u60) fun d63 => (fX12_meansLine_J219 N g x0 x1 d63)))
set_option maxHeartbeats 4000000 in
set_option maxRecDepth 100000 in
theorem tX12_meansLine_175 {p : Program} {l : Launch} {e : Env} {s : State} {m : MethodId} {args : Array Value} {below : List Frame} {meth : Method} {c : Code} {D : va_G} {cy : Nat → ClassId} {B : Bs} (C : Cx p s m args c cX12_meansLine 2 RX12 D cy B) (hr : meth.sig.returnType = none) (hlocks : meth.locks = false) {N : Nat} {g : Gs} {x0 : Nat} {x1 : Int32}  {dz : Ds} {d : Ds} (hf : fX12_meansLine_J175 N g x0 x1 d = some ((), dz)) : WB p l e rmX12_meansLine s m args below meth c 2 D cy B 0 0 (MQ below (QV D cy B g dz) args s 0 0 (wA B)) g d [(0, .ref (ad B x0)), (1, .int x1)] 175 [] := by
  unfold fX12_meansLine_J175 at hf
  refine b_aload_n C dX12_meansLine_175 0 rfl rfl ?_
  obtain ⟨h56, hf⟩ := gd_s hf
  obtain ⟨r57, er57, hf⟩ := ob_s hf
  refine b_gR C dX12_meansLine_176 fl_X12_43 h56 er57 ?_
  refine b_bipush C (v := 9) dX12_meansLine_179 (by decide) ?_
  refine b_aload_n C dX12_meansLine_181 0 rfl rfl ?_
  refine b_iload_n C dX12_meansLine_182 1 rfl rfl ?_
  refine b_iconst C (v := 2) dX12_meansLine_183 (by decide) ?_
  refine b_iadd C dX12_meansLine_184 ?_
  refine b_iconst C (v := 1) dX12_meansLine_185 (by decide) ?_
  refine b_bipush C (v := 20) dX12_meansLine_186 (by decide) ?_
  obtain ⟨u60, d58, k59, hf⟩ := cb_s hf
  refine b_cVI C [.int 9, .ref (ad B r57)] dX12_meansLine_188 (kX12_within l D cy B k59) lv_X12_177 ⟨rfl, rfl, Nat.le_of_ble_eq_true rfl, Nat.le_of_ble_eq_true rfl⟩ h56 (by decide) rfl (Nat.le_of_ble_eq_true rfl) ⟨Nat.zero_le _, Nat.zero_le _⟩ rfl ?_
  obtain ⟨h61, hf⟩ := gd_s hf
  obtain ⟨h62, hf⟩ := gd_s hf
  obtain ⟨d63, ed63, hf⟩ := bd_s hf
  refine b_iast C h61 h62 ed63 dX12_meansLine_191 ?_
  refine b_goto C (tgt := 219) dX12_meansLine_192 (by decide) ?_
  refine b_sub [(0, .ref (ad B x0)), (1, .int x1)] [0, 1] rfl ?_
  exact tX12_meansLine_219 C hr hlocks hf
set_option maxRecDepth 100000 in
def fX12_meansLine (N : Nat) (g : Gs) (x0 : Nat) (x1 : Int32) (d : Ds) : Option (Unit × Ds) := gd (chk g x0 11) <| ob (gR g x0 5) fun r2 => (gd (chk g r2 102) <| gd (¬ (x1 < 0 ∨ gL g r2 ≤ x1.toNatClampNeg)) <| if (dI d r2 x1.toNatClampNeg).toInt < 21 ∨ 30 < (dI d r2 x1.toNatClampNeg).toInt then (fX12_meansLine_J219 N g x0 x1 d) else if (dI d r2 x1.toNatClampNeg) = 21 then (ob (gR g x0 18) fun r7 => (gd (chk g r7 102) <| gd (¬ ((2 : Int32) < 0 ∨ gL g r7 ≤ (2 : Int32).toNatClampNeg)) <| bd (sI d r7 (2 : Int32).toNatClampNeg 1) fun d10 => (fX12_meansLine_J219 N g x0 x1 d10))) else if (dI d r2 x1.toNatClampNeg) = 22 then (ob (gR g x0 18) fun r12 => (gd (chk g r12 102) <| gd (¬ ((3 : Int32) < 0 ∨ gL g r12 ≤ (3 : Int32).toNatClampNeg)) <| bd (sI d r12 (3 : Int32).toNatClampNeg 1) fun d15 => (fX12_meansLine_J219 N g x0 x1 d15))) else if (dI d r2 x1.toNatClampNeg) = 23 then (ob (gR g x0 18) fun r17 => (cb (fX12_within N g x0 (x1 + 1) 1 9 d) fun u20 d18 => (gd (chk g r17 102) <| gd (¬ ((4 : Int32) < 0 ∨ gL g r17 ≤ (4 : Int32).toNatClampNeg)) <| bd (sI d18 r17 (4 : Int32).toNatClampNeg u20) fun d23 => (fX12_meansLine_J219 N g x0 x1 d23)))) else if (dI d r2 x1.toNatClampNeg) = 24 then (ob (gR g x0 18) fun r25 => (cb (fX12_within N g x0 (x1 + 1) 1 99 d) fun u28 d26 => (gd (chk g r25 102) <| gd (¬ ((5 : Int32) < 0 ∨ gL g r25 ≤ (5 : Int32).toNatClampNeg)) <| bd (sI d26 r25 (5 : Int32).toNatClampNeg u28) fun d31 => (fX12_meansLine_J219 N g x0 x1 d31)))) else if (dI d r2 x1.toNatClampNeg) = 25 then (ob (gR g x0 18) fun r33 => (cb (fX12_within N g x0 (x1 + 1) 1 20 d) fun u36 d34 => (gd (chk g r33 102) <| gd (¬ ((6 : Int32) < 0 ∨ gL g r33 ≤ (6 : Int32).toNatClampNeg)) <| bd (sI d34 r33 (6 : Int32).toNatClampNeg u36) fun d39 => (fX12_meansLine_J219 N g x0 x1 d39)))) else if (dI d r2 x1.toNatClampNeg) = 26 then (ob (gR g x0 18) fun r41 => (cb (fX12_within N g x0 (x1 + 1) 1 40 d) fun u44 d42 => (gd (chk g r41 102) <| gd (¬ ((7 : Int32) < 0 ∨ gL g r41 ≤ (7 : Int32).toNatClampNeg)) <| bd (sI d42 r41 (7 : Int32).toNatClampNeg u44) fun d47 => (fX12_meansLine_J219 N g x0 x1 d47)))) else if (dI d r2 x1.toNatClampNeg) = 27 then (ob (gR g x0 18) fun r49 => (cb (fX12_within N g x0 (x1 + 1) 1 99 d) fun u52 d50 => (gd (chk g r49 102) <| gd (¬ ((8 : Int32) < 0 ∨ gL g r49 ≤ (8 : Int32).toNatClampNeg)) <| bd (sI d50 r49 (8 : Int32).toNatClampNeg u52) fun d55 => (fX12_meansLine_J175 N g x0 x1 d55)))) else if (dI d r2 x1.toNatClampNeg) = 28 then (cv (fX12_meansKey N g x0 x1 d) fun d65 => (fX12_meansLine_J219 N g x0 x1 d65)) else if (dI d r2 x1.toNatClampNeg) = 29 then (cv (fX12_meansChord N g x0 x1 d) fun d68 => (fX12_meansLine_J219 N g x0 x1 d68)) else if (dI d r2 x1.toNatClampNeg) = 30 then (cv (fX12_meansMacro N g x0 x1 d) fun d71 => (fX12_meansLine_J219 N g x0 x1 d71)) else none)
set_option maxHeartbeats 4000000 in
set_option maxRecDepth 100000 in
theorem tX12_meansLine_E {p : Program} {l : Launch} {e : Env} {s : State} {m : MethodId} {args : Array Value} {below : List Frame} {meth : Method} {c : Code} {D : va_G} {cy : Nat → ClassId} {B : Bs} (C : Cx p s m args c cX12_meansLine 2 RX12 D cy B) (hr : meth.sig.returnType = none) (hlocks : meth.locks = false) {N : Nat} {g : Gs} {x0 : Nat} {x1 : Int32}  {dz : Ds} {d : Ds} (hf : fX12_meansLine N g x0 x1 d = some ((), dz)) : WB p l e rmX12_meansLine s m args below meth c 2 D cy B 0 0 (MQ below (QV D cy B g dz) args s 0 0 (wA B)) g d [(0, .ref (ad B x0)), (1, .int x1)] 0 [] := by
  unfold fX12_meansLine at hf
  refine b_aload_n C dX12_meansLine_0 0 rfl rfl ?_
  obtain ⟨h1, hf⟩ := gd_s hf
  obtain ⟨r2, er2, hf⟩ := ob_s hf
  refine b_gR C dX12_meansLine_1 fl_X12_20 h1 er2 ?_
  refine b_iload_n C dX12_meansLine_4 1 rfl rfl ?_
  obtain ⟨h3, hf⟩ := gd_s hf
  obtain ⟨h4, hf⟩ := gd_s hf
  refine b_iald C h3 h4 dX12_meansLine_5 ?_
  by_cases c5 : (dI d r2 x1.toNatClampNeg).toInt < 21 ∨ 30 < (dI d r2 x1.toNatClampNeg).toInt
  · have hf := it_s c5 hf
    refine b_tabOut C (tgt := 219) dX12_meansLine_6 c5 (by decide) ?_
    refine b_sub [(0, .ref (ad B x0)), (1, .int x1)] [0, 1] rfl ?_
    exact tX12_meansLine_219 C hr hlocks hf
  · have hf := if_s c5 hf
    by_cases c6 : (dI d r2 x1.toNatClampNeg) = 21
    · have hf := it_s c6 hf
      refine b_tabIn C (tgt := 60) (off := 54) dX12_meansLine_6 c6 (by decide) (by decide) (by decide) (by decide) ?_
      refine b_aload_n C dX12_meansLine_60 0 rfl rfl ?_
      obtain ⟨r7, er7, hf⟩ := ob_s hf
      refine b_gR C dX12_meansLine_61 fl_X12_43 h1 er7 ?_
      refine b_iconst C (v := 2) dX12_meansLine_64 (by decide) ?_
      refine b_iconst C (v := 1) dX12_meansLine_65 (by decide) ?_
      obtain ⟨h8, hf⟩ := gd_s hf
      obtain ⟨h9, hf⟩ := gd_s hf
      obtain ⟨d10, ed10, hf⟩ := bd_s hf
      refine b_iast C h8 h9 ed10 dX12_meansLine_66 ?_
      refine b_goto C (tgt := 219) dX12_meansLine_67 (by decide) ?_
      refine b_sub [(0, .ref (ad B x0)), (1, .int x1)] [0, 1] rfl ?_
      exact tX12_meansLine_219 C hr hlocks hf
    have hf := if_s c6 hf
    by_cases c11 : (dI d r2 x1.toNatClampNeg) = 22
    · have hf := it_s c11 hf
      refine b_tabIn C (tgt := 70) (off := 64) dX12_meansLine_6 c11 (by decide) (by decide) (by decide) (by decide) ?_
      refine b_aload_n C dX12_meansLine_70 0 rfl rfl ?_
      obtain ⟨r12, er12, hf⟩ := ob_s hf
      refine b_gR C dX12_meansLine_71 fl_X12_43 h1 er12 ?_
      refine b_iconst C (v := 3) dX12_meansLine_74 (by decide) ?_
      refine b_iconst C (v := 1) dX12_meansLine_75 (by decide) ?_
      obtain ⟨h13, hf⟩ := gd_s hf
      obtain ⟨h14, hf⟩ := gd_s hf
      obtain ⟨d15, ed15, hf⟩ := bd_s hf
      refine b_iast C h13 h14 ed15 dX12_meansLine_76 ?_
      refine b_goto C (tgt := 219) dX12_meansLine_77 (by decide) ?_
      refine b_sub [(0, .ref (ad B x0)), (1, .int x1)] [0, 1] rfl ?_
      exact tX12_meansLine_219 C hr hlocks hf
    have hf := if_s c11 hf
    by_cases c16 : (dI d r2 x1.toNatClampNeg) = 23
    · have hf := it_s c16 hf
      refine b_tabIn C (tgt := 80) (off := 74) dX12_meansLine_6 c16 (by decide) (by decide) (by decide) (by decide) ?_
      refine b_aload_n C dX12_meansLine_80 0 rfl rfl ?_
      obtain ⟨r17, er17, hf⟩ := ob_s hf
      refine b_gR C dX12_meansLine_81 fl_X12_43 h1 er17 ?_
      refine b_iconst C (v := 4) dX12_meansLine_84 (by decide) ?_
      refine b_aload_n C dX12_meansLine_85 0 rfl rfl ?_
      refine b_iload_n C dX12_meansLine_86 1 rfl rfl ?_
      refine b_iconst C (v := 1) dX12_meansLine_87 (by decide) ?_
      refine b_iadd C dX12_meansLine_88 ?_
      refine b_iconst C (v := 1) dX12_meansLine_89 (by decide) ?_
      refine b_bipush C (v := 9) dX12_meansLine_90 (by decide) ?_
      obtain ⟨u20, d18, k19, hf⟩ := cb_s hf
      refine b_cVI C [.int 4, .ref (ad B r17)] dX12_meansLine_92 (kX12_within l D cy B k19) lv_X12_177 ⟨rfl, rfl, Nat.le_of_ble_eq_true rfl, Nat.le_of_ble_eq_true rfl⟩ h1 (by decide) rfl (Nat.le_of_ble_eq_true rfl) ⟨Nat.zero_le _, Nat.zero_le _⟩ rfl ?_
      obtain ⟨h21, hf⟩ := gd_s hf
      obtain ⟨h22, hf⟩ := gd_s hf
      obtain ⟨d23, ed23, hf⟩ := bd_s hf
      refine b_iast C h21 h22 ed23 dX12_meansLine_95 ?_
      refine b_goto C (tgt := 219) dX12_meansLine_96 (by decide) ?_
      refine b_sub [(0, .ref (ad B x0)), (1, .int x1)] [0, 1] rfl ?_
      exact tX12_meansLine_219 C hr hlocks hf
    have hf := if_s c16 hf
    by_cases c24 : (dI d r2 x1.toNatClampNeg) = 24
    · have hf := it_s c24 hf
      refine b_tabIn C (tgt := 99) (off := 93) dX12_meansLine_6 c24 (by decide) (by decide) (by decide) (by decide) ?_
      refine b_aload_n C dX12_meansLine_99 0 rfl rfl ?_
      obtain ⟨r25, er25, hf⟩ := ob_s hf
      refine b_gR C dX12_meansLine_100 fl_X12_43 h1 er25 ?_
      refine b_iconst C (v := 5) dX12_meansLine_103 (by decide) ?_
      refine b_aload_n C dX12_meansLine_104 0 rfl rfl ?_
      refine b_iload_n C dX12_meansLine_105 1 rfl rfl ?_
      refine b_iconst C (v := 1) dX12_meansLine_106 (by decide) ?_
      refine b_iadd C dX12_meansLine_107 ?_
      refine b_iconst C (v := 1) dX12_meansLine_108 (by decide) ?_
      refine b_bipush C (v := 99) dX12_meansLine_109 (by decide) ?_
      obtain ⟨u28, d26, k27, hf⟩ := cb_s hf
      refine b_cVI C [.int 5, .ref (ad B r25)] dX12_meansLine_111 (kX12_within l D cy B k27) lv_X12_177 ⟨rfl, rfl, Nat.le_of_ble_eq_true rfl, Nat.le_of_ble_eq_true rfl⟩ h1 (by decide) rfl (Nat.le_of_ble_eq_true rfl) ⟨Nat.zero_le _, Nat.zero_le _⟩ rfl ?_
      obtain ⟨h29, hf⟩ := gd_s hf
      obtain ⟨h30, hf⟩ := gd_s hf
      obtain ⟨d31, ed31, hf⟩ := bd_s hf
      refine b_iast C h29 h30 ed31 dX12_meansLine_114 ?_
      refine b_goto C (tgt := 219) dX12_meansLine_115 (by decide) ?_
      refine b_sub [(0, .ref (ad B x0)), (1, .int x1)] [0, 1] rfl ?_
      exact tX12_meansLine_219 C hr hlocks hf
    have hf := if_s c24 hf
    by_cases c32 : (dI d r2 x1.toNatClampNeg) = 25
    · have hf := it_s c32 hf
      refine b_tabIn C (tgt := 118) (off := 112) dX12_meansLine_6 c32 (by decide) (by decide) (by decide) (by decide) ?_
      refine b_aload_n C dX12_meansLine_118 0 rfl rfl ?_
      obtain ⟨r33, er33, hf⟩ := ob_s hf
      refine b_gR C dX12_meansLine_119 fl_X12_43 h1 er33 ?_
      refine b_bipush C (v := 6) dX12_meansLine_122 (by decide) ?_
      refine b_aload_n C dX12_meansLine_124 0 rfl rfl ?_
      refine b_iload_n C dX12_meansLine_125 1 rfl rfl ?_
      refine b_iconst C (v := 1) dX12_meansLine_126 (by decide) ?_
      refine b_iadd C dX12_meansLine_127 ?_
      refine b_iconst C (v := 1) dX12_meansLine_128 (by decide) ?_
      refine b_bipush C (v := 20) dX12_meansLine_129 (by decide) ?_
      obtain ⟨u36, d34, k35, hf⟩ := cb_s hf
      refine b_cVI C [.int 6, .ref (ad B r33)] dX12_meansLine_131 (kX12_within l D cy B k35) lv_X12_177 ⟨rfl, rfl, Nat.le_of_ble_eq_true rfl, Nat.le_of_ble_eq_true rfl⟩ h1 (by decide) rfl (Nat.le_of_ble_eq_true rfl) ⟨Nat.zero_le _, Nat.zero_le _⟩ rfl ?_
      obtain ⟨h37, hf⟩ := gd_s hf
      obtain ⟨h38, hf⟩ := gd_s hf
      obtain ⟨d39, ed39, hf⟩ := bd_s hf
      refine b_iast C h37 h38 ed39 dX12_meansLine_134 ?_
      refine b_goto C (tgt := 219) dX12_meansLine_135 (by decide) ?_
      refine b_sub [(0, .ref (ad B x0)), (1, .int x1)] [0, 1] rfl ?_
      exact tX12_meansLine_219 C hr hlocks hf
    have hf := if_s c32 hf
    by_cases c40 : (dI d r2 x1.toNatClampNeg) = 26
    · have hf := it_s c40 hf
      refine b_tabIn C (tgt := 138) (off := 132) dX12_meansLine_6 c40 (by decide) (by decide) (by decide) (by decide) ?_
      refine b_aload_n C dX12_meansLine_138 0 rfl rfl ?_
      obtain ⟨r41, er41, hf⟩ := ob_s hf
      refine b_gR C dX12_meansLine_139 fl_X12_43 h1 er41 ?_
      refine b_bipush C (v := 7) dX12_meansLine_142 (by decide) ?_
      refine b_aload_n C dX12_meansLine_144 0 rfl rfl ?_
      refine b_iload_n C dX12_meansLine_145 1 rfl rfl ?_
      refine b_iconst C (v := 1) dX12_meansLine_146 (by decide) ?_
      refine b_iadd C dX12_meansLine_147 ?_
      refine b_iconst C (v := 1) dX12_meansLine_148 (by decide) ?_
      refine b_bipush C (v := 40) dX12_meansLine_149 (by decide) ?_
      obtain ⟨u44, d42, k43, hf⟩ := cb_s hf
      refine b_cVI C [.int 7, .ref (ad B r41)] dX12_meansLine_151 (kX12_within l D cy B k43) lv_X12_177 ⟨rfl, rfl, Nat.le_of_ble_eq_true rfl, Nat.le_of_ble_eq_true rfl⟩ h1 (by decide) rfl (Nat.le_of_ble_eq_true rfl) ⟨Nat.zero_le _, Nat.zero_le _⟩ rfl ?_
      obtain ⟨h45, hf⟩ := gd_s hf
      obtain ⟨h46, hf⟩ := gd_s hf
      obtain ⟨d47, ed47, hf⟩ := bd_s hf
      refine b_iast C h45 h46 ed47 dX12_meansLine_154 ?_
      refine b_goto C (tgt := 219) dX12_meansLine_155 (by decide) ?_
      refine b_sub [(0, .ref (ad B x0)), (1, .int x1)] [0, 1] rfl ?_
      exact tX12_meansLine_219 C hr hlocks hf
    have hf := if_s c40 hf
    by_cases c48 : (dI d r2 x1.toNatClampNeg) = 27
    · have hf := it_s c48 hf
      refine b_tabIn C (tgt := 158) (off := 152) dX12_meansLine_6 c48 (by decide) (by decide) (by decide) (by decide) ?_
      refine b_aload_n C dX12_meansLine_158 0 rfl rfl ?_
      obtain ⟨r49, er49, hf⟩ := ob_s hf
      refine b_gR C dX12_meansLine_159 fl_X12_43 h1 er49 ?_
      refine b_bipush C (v := 8) dX12_meansLine_162 (by decide) ?_
      refine b_aload_n C dX12_meansLine_164 0 rfl rfl ?_
      refine b_iload_n C dX12_meansLine_165 1 rfl rfl ?_
      refine b_iconst C (v := 1) dX12_meansLine_166 (by decide) ?_
      refine b_iadd C dX12_meansLine_167 ?_
      refine b_iconst C (v := 1) dX12_meansLine_168 (by decide) ?_
      refine b_bipush C (v := 99) dX12_meansLine_169 (by decide) ?_
      obtain ⟨u52, d50, k51, hf⟩ := cb_s hf
      refine b_cVI C [.int 8, .ref (ad B r49)] dX12_meansLine_171 (kX12_within l D cy B k51) lv_X12_177 ⟨rfl, rfl, Nat.le_of_ble_eq_true rfl, Nat.le_of_ble_eq_true rfl⟩ h1 (by decide) rfl (Nat.le_of_ble_eq_true rfl) ⟨Nat.zero_le _, Nat.zero_le _⟩ rfl ?_
      obtain ⟨h53, hf⟩ := gd_s hf
      obtain ⟨h54, hf⟩ := gd_s hf
      obtain ⟨d55, ed55, hf⟩ := bd_s hf
      refine b_iast C h53 h54 ed55 dX12_meansLine_174 ?_
      refine b_sub [(0, .ref (ad B x0)), (1, .int x1)] [0, 1] rfl ?_
      exact tX12_meansLine_175 C hr hlocks hf
    have hf := if_s c48 hf
    by_cases c64 : (dI d r2 x1.toNatClampNeg) = 28
    · have hf := it_s c64 hf
      refine b_tabIn C (tgt := 195) (off := 189) dX12_meansLine_6 c64 (by decide) (by decide) (by decide) (by decide) ?_
      refine b_aload_n C dX12_meansLine_195 0 rfl rfl ?_
      refine b_iload_n C dX12_meansLine_196 1 rfl rfl ?_
      obtain ⟨d65, k66, hf⟩ := cv_s hf
      refine b_cVN C [] dX12_meansLine_197 (kX12_meansKey l D cy B k66) lv_X12_188 ⟨rfl, rfl, Nat.le_of_ble_eq_true rfl, Nat.le_of_ble_eq_true rfl⟩ h1 (by decide) rfl (Nat.le_of_ble_eq_true rfl) ⟨Nat.zero_le _, Nat.zero_le _⟩ rfl ?_
      refine b_goto C (tgt := 219) dX12_meansLine_200 (by decide) ?_
      refine b_sub [(0, .ref (ad B x0)), (1, .int x1)] [0, 1] rfl ?_
      exact tX12_meansLine_219 C hr hlocks hf
    have hf := if_s c64 hf
    by_cases c67 : (dI d r2 x1.toNatClampNeg) = 29
    · have hf := it_s c67 hf
      refine b_tabIn C (tgt := 203) (off := 197) dX12_meansLine_6 c67 (by decide) (by decide) (by decide) (by decide) ?_
      refine b_aload_n C dX12_meansLine_203 0 rfl rfl ?_
      refine b_iload_n C dX12_meansLine_204 1 rfl rfl ?_
      obtain ⟨d68, k69, hf⟩ := cv_s hf
      refine b_cVN C [] dX12_meansLine_205 (kX12_meansChord l D cy B k69) lv_X12_191 ⟨rfl, rfl, Nat.le_of_ble_eq_true rfl, Nat.le_of_ble_eq_true rfl⟩ h1 (by decide) rfl (Nat.le_of_ble_eq_true rfl) ⟨Nat.zero_le _, Nat.zero_le _⟩ rfl ?_
      refine b_goto C (tgt := 219) dX12_meansLine_208 (by decide) ?_
      refine b_sub [(0, .ref (ad B x0)), (1, .int x1)] [0, 1] rfl ?_
      exact tX12_meansLine_219 C hr hlocks hf
    have hf := if_s c67 hf
    by_cases c70 : (dI d r2 x1.toNatClampNeg) = 30
    · have hf := it_s c70 hf
      refine b_tabIn C (tgt := 211) (off := 205) dX12_meansLine_6 c70 (by decide) (by decide) (by decide) (by decide) ?_
      refine b_aload_n C dX12_meansLine_211 0 rfl rfl ?_
      refine b_iload_n C dX12_meansLine_212 1 rfl rfl ?_
      obtain ⟨d71, k72, hf⟩ := cv_s hf
      refine b_cVN C [] dX12_meansLine_213 (kX12_meansMacro l D cy B k72) lv_X12_194 ⟨rfl, rfl, Nat.le_of_ble_eq_true rfl, Nat.le_of_ble_eq_true rfl⟩ h1 (by decide) rfl (Nat.le_of_ble_eq_true rfl) ⟨Nat.zero_le _, Nat.zero_le _⟩ rfl ?_
      refine b_goto C (tgt := 219) dX12_meansLine_216 (by decide) ?_
      refine b_sub [(0, .ref (ad B x0)), (1, .int x1)] [0, 1] rfl ?_
      exact tX12_meansLine_219 C hr hlocks hf
    have hf := if_s c70 hf
    cases hf
theorem kX12_meansLine (l : Launch) (D : va_G) (cy : Nat → ClassId) (B : Bs) {N : Nat} {g : Gs} {x0 : Nat} {x1 : Int32}  {dz : Ds} {d : Ds} (hf : fX12_meansLine N g x0 x1 d = some ((), dz)) : Met l yX12_meansLine (.code yX12_meansLine cX12_meansLine 2 none :: wl) rmX12_meansLine (PC D cy B [.ref (ad B x0), .int x1] g d) (QV D cy B g dz) 0 0 (wA B) :=
  met_of (by decide +kernel) (Nat.le_of_ble_eq_true rfl) (fun p e s m args below meth c C hr hlocks _ => b_sub [(0, .ref (ad B x0)), (1, .int x1)] [0, 1] rfl (tX12_meansLine_E C hr hlocks hf))
/-! KeyMatrixModel.means()V -/
theorem fp11_22 : FPZ 11 22 := ⟨ft11, (RX12, TX12, 33), rfl, by decide +kernel, by decide +kernel⟩
theorem yo_X12_meansLine : yX12_meansLine.cls ≠ "java/lang/invoke/MethodHandle" ∧ yX12_meansLine.cls ≠ "java/lang/invoke/VarHandle" ∧ (parseMethodDescriptor yX12_meansLine.desc).map (fun d => d.parameters.length) = some 1 := by decide +kernel
theorem co_X12_meansLine : Cond.code yX12_meansLine cX12_meansLine 2 none ∈ wl := mW (mT6 (List.mem_of_getElem? (i := 33) (by decide +kernel))) rfl
theorem in_X12_meansLine : Cond.initialized yX12_meansLine.cls ∈ wl := mW (mT1 (List.mem_of_getElem? (i := 12) (by decide +kernel))) rfl
theorem im_X12_meansLine : Cond.instanceMethod yX12_meansLine ∈ wl := mW (mT6 (List.mem_of_getElem? (i := 32) (by decide +kernel))) rfl
theorem se_X12_meansLine : Cond.selects yX12_meansLine.cls yX12_meansLine yX12_meansLine ∈ wl := mW (mT0 (List.mem_of_getElem? (i := 46) (by decide +kernel))) rfl
theorem lv_X12_185 : LV RX12 185 yX12_meansLine cX12_meansLine 2 none 1 11 := ⟨⟨(RX12, TX12, 33), rfl, rfl⟩, yo_X12_meansLine, mW (mT6 (List.mem_of_getElem? (i := 30) (by decide +kernel))) rfl, im_X12_meansLine, se_X12_meansLine, in_X12_meansLine, co_X12_meansLine⟩
theorem dX12_means_0 : decode cX12_means 0 = .ok (.aload_n 0, 1) := by decide +kernel
theorem dX12_means_1 : decode cX12_means 1 = .ok (.getfield 43, 3) := by decide +kernel
theorem dX12_means_4 : decode cX12_means 4 = .ok (.invokestatic 83, 3) := by decide +kernel
theorem dX12_means_7 : decode cX12_means 7 = .ok (.aload_n 0, 1) := by decide +kernel
theorem dX12_means_8 : decode cX12_means 8 = .ok (.getfield 43, 3) := by decide +kernel
theorem dX12_means_11 : decode cX12_means 11 = .ok (.iconst 0, 1) := by decide +kernel
theorem dX12_means_12 : decode cX12_means 12 = .ok (.aload_n 0, 1) := by decide +kernel
theorem dX12_means_13 : decode cX12_means 13 = .ok (.iconst 1, 1) := by decide +kernel
theorem dX12_means_14 : decode cX12_means 14 = .ok (.iconst 1, 1) := by decide +kernel
theorem dX12_means_15 : decode cX12_means 15 = .ok (.iconst 4, 1) := by decide +kernel
theorem dX12_means_16 : decode cX12_means 16 = .ok (.invokevirtual 177, 3) := by decide +kernel
theorem dX12_means_19 : decode cX12_means 19 = .ok (.iastore, 1) := by decide +kernel
theorem dX12_means_20 : decode cX12_means 20 = .ok (.aload_n 0, 1) := by decide +kernel
theorem dX12_means_21 : decode cX12_means 21 = .ok (.getfield 43, 3) := by decide +kernel
theorem dX12_means_24 : decode cX12_means 24 = .ok (.iconst 1, 1) := by decide +kernel
theorem dX12_means_25 : decode cX12_means 25 = .ok (.aload_n 0, 1) := by decide +kernel
theorem dX12_means_26 : decode cX12_means 26 = .ok (.iconst 2, 1) := by decide +kernel
theorem dX12_means_27 : decode cX12_means 27 = .ok (.iconst 1, 1) := by decide +kernel
theorem dX12_means_28 : decode cX12_means 28 = .ok (.bipush 6, 2) := by decide +kernel
theorem dX12_means_30 : decode cX12_means 30 = .ok (.invokevirtual 177, 3) := by decide +kernel
theorem dX12_means_33 : decode cX12_means 33 = .ok (.iastore, 1) := by decide +kernel
theorem dX12_means_34 : decode cX12_means 34 = .ok (.aload_n 0, 1) := by decide +kernel
theorem dX12_means_35 : decode cX12_means 35 = .ok (.aload_n 0, 1) := by decide +kernel
theorem dX12_means_36 : decode cX12_means 36 = .ok (.getfield 133, 3) := by decide +kernel
theorem dX12_means_39 : decode cX12_means 39 = .ok (.ifCond .ne 7, 3) := by decide +kernel
theorem dX12_means_42 : decode cX12_means 42 = .ok (.iconst 1, 1) := by decide +kernel
theorem dX12_means_43 : decode cX12_means 43 = .ok (.goto 4, 3) := by decide +kernel
theorem dX12_means_46 : decode cX12_means 46 = .ok (.iconst 0, 1) := by decide +kernel
theorem dX12_means_47 : decode cX12_means 47 = .ok (.putfield 181, 3) := by decide +kernel
theorem dX12_means_50 : decode cX12_means 50 = .ok (.iconst 4, 1) := by decide +kernel
theorem dX12_means_51 : decode cX12_means 51 = .ok (.istore_n 1, 1) := by decide +kernel
theorem dX12_means_52 : decode cX12_means 52 = .ok (.iload_n 1, 1) := by decide +kernel
theorem dX12_means_53 : decode cX12_means 53 = .ok (.aload_n 0, 1) := by decide +kernel
theorem dX12_means_54 : decode cX12_means 54 = .ok (.getfield 102, 3) := by decide +kernel
theorem dX12_means_57 : decode cX12_means 57 = .ok (.if_icmp .ge 26, 3) := by decide +kernel
theorem dX12_means_60 : decode cX12_means 60 = .ok (.aload_n 0, 1) := by decide +kernel
theorem dX12_means_61 : decode cX12_means 61 = .ok (.getfield 20, 3) := by decide +kernel
theorem dX12_means_64 : decode cX12_means 64 = .ok (.iload_n 1, 1) := by decide +kernel
theorem dX12_means_65 : decode cX12_means 65 = .ok (.iconst 1, 1) := by decide +kernel
theorem dX12_means_66 : decode cX12_means 66 = .ok (.isub, 1) := by decide +kernel
theorem dX12_means_67 : decode cX12_means 67 = .ok (.iaload, 1) := by decide +kernel
theorem dX12_means_68 : decode cX12_means 68 = .ok (.iconst 4, 1) := by decide +kernel
theorem dX12_means_69 : decode cX12_means 69 = .ok (.if_icmp .ne 8, 3) := by decide +kernel
theorem dX12_means_72 : decode cX12_means 72 = .ok (.aload_n 0, 1) := by decide +kernel
theorem dX12_means_73 : decode cX12_means 73 = .ok (.iload_n 1, 1) := by decide +kernel
theorem dX12_means_74 : decode cX12_means 74 = .ok (.invokevirtual 185, 3) := by decide +kernel
theorem dX12_means_77 : decode cX12_means 77 = .ok (.iinc 1 1, 3) := by decide +kernel
theorem dX12_means_80 : decode cX12_means 80 = .ok (.goto (-28), 3) := by decide +kernel
theorem dX12_means_83 : decode cX12_means 83 = .ok (.return_, 1) := by decide +kernel
def rmX12_means : Room := { frames := 5, cells := 0, slots := 0, locals := 114 }
set_option maxRecDepth 100000 in
def fX12_means_J77 (N : Nat) (g : Gs) (x0 : Nat) (K52 : Int32 × Ds → Option (Unit × Ds)) (y1 : Int32) (d : Ds) : Option (Unit × Ds) := bd (y1 + 1) fun u26 => (K52 (u26, d))
set_option maxHeartbeats 4000000 in
set_option maxRecDepth 100000 in
theorem tX12_means_77 {p : Program} {l : Launch} {e : Env} {s : State} {m : MethodId} {args : Array Value} {below : List Frame} {meth : Method} {c : Code} {D : va_G} {cy : Nat → ClassId} {B : Bs} (C : Cx p s m args c cX12_means 2 RX12 D cy B) (hr : meth.sig.returnType = none) (hlocks : meth.locks = false) {N : Nat} {g : Gs} {x0 : Nat}  {dz : Ds} {K52 : Int32 × Ds → Option (Unit × Ds)} (hK52 : ∀ a, K52 a = some ((), dz) → WB p l e rmX12_means s m args below meth c 2 D cy B 0 0 (MQ below (QV D cy B g dz) args s 0 0 (wA B)) g a.2 [(0, .ref (ad B x0)), (1, .int a.1)] 52 []) {y1 : Int32} {d : Ds} (hf : fX12_means_J77 N g x0 K52 y1 d = some ((), dz)) : WB p l e rmX12_means s m args below meth c 2 D cy B 0 0 (MQ below (QV D cy B g dz) args s 0 0 (wA B)) g d [(0, .ref (ad B x0)), (1, .int y1)] 77 [] := by
  unfold fX12_means_J77 at hf
  obtain ⟨u26, eu26, hf⟩ := bd_s hf
  refine b_iinc C dX12_means_77 1 rfl (by rw [eu26]; rfl) [(1, .int u26), (0, .ref (ad B x0))] (by decide) rfl ?_
  refine b_goto C (tgt := 52) dX12_means_80 (by decide) ?_
  refine b_sub [(0, .ref (ad B x0)), (1, .int u26)] [1, 0] rfl ?_
  exact hK52 (u26, d) hf
set_option maxRecDepth 100000 in
def fX12_means_B52 (N : Nat) (g : Gs) (x0 : Nat) (K52 : Int32 × Ds → Option (Unit × Ds)) (y1 : Int32) (d : Ds) : Option (Unit × Ds) := gd (chk g x0 11) <| if (dI d x0 10) ≤ y1 then (some ((), d)) else (ob (gR g x0 5) fun r22 => (gd (chk g r22 102) <| gd (¬ ((y1 - 1) < 0 ∨ gL g r22 ≤ (y1 - 1).toNatClampNeg)) <| if (dI d r22 (y1 - 1).toNatClampNeg) = (4 : Int32) then (cv (fX12_meansLine N g x0 y1 d) fun d27 => (fX12_means_J77 N g x0 K52 y1 d27)) else (fX12_means_J77 N g x0 K52 y1 d)))
set_option maxHeartbeats 4000000 in
set_option maxRecDepth 100000 in
theorem tX12_means_52 {p : Program} {l : Launch} {e : Env} {s : State} {m : MethodId} {args : Array Value} {below : List Frame} {meth : Method} {c : Code} {D : va_G} {cy : Nat → ClassId} {B : Bs} (C : Cx p s m args c cX12_means 2 RX12 D cy B) (hr : meth.sig.returnType = none) (hlocks : meth.locks = false) {N : Nat} {g : Gs} {x0 : Nat}  {dz : Ds} {K52 : Int32 × Ds → Option (Unit × Ds)} (hK52 : ∀ a, K52 a = some ((), dz) → WB p l e rmX12_means s m args below meth c 2 D cy B 0 0 (MQ below (QV D cy B g dz) args s 0 0 (wA B)) g a.2 [(0, .ref (ad B x0)), (1, .int a.1)] 52 []) {y1 : Int32} {d : Ds} (hf : fX12_means_B52 N g x0 K52 y1 d = some ((), dz)) : WB p l e rmX12_means s m args below meth c 2 D cy B 0 0 (MQ below (QV D cy B g dz) args s 0 0 (wA B)) g d [(0, .ref (ad B x0)), (1, .int y1)] 52 [] := by
  unfold fX12_means_B52 at hf
  refine b_iload_n C dX12_means_52 1 rfl rfl ?_
  refine b_aload_n C dX12_means_53 0 rfl rfl ?_
  obtain ⟨h20, hf⟩ := gd_s hf
  refine b_gI C dX12_means_54 fl_X12_102 h20 ?_
  refine b_icmp_ge C (tgt := 83) dX12_means_57 (by decide) (fun c21 => ?_) (fun c21 => ?_)
  · have hf := it_s c21 hf
    exact b_vret C hr hlocks hf dX12_means_83
  · have hf := if_s c21 hf
    refine b_aload_n C dX12_means_60 0 rfl rfl ?_
    obtain ⟨r22, er22, hf⟩ := ob_s hf
    refine b_gR C dX12_means_61 fl_X12_20 h20 er22 ?_
    refine b_iload_n C dX12_means_64 1 rfl rfl ?_
    refine b_iconst C (v := 1) dX12_means_65 (by decide) ?_
    refine b_isub C dX12_means_66 ?_
    obtain ⟨h23, hf⟩ := gd_s hf
    obtain ⟨h24, hf⟩ := gd_s hf
    refine b_iald C h23 h24 dX12_means_67 ?_
    refine b_iconst C (v := 4) dX12_means_68 (by decide) ?_
    refine b_icmp_ne C (tgt := 77) dX12_means_69 (by decide) (fun c25 => ?_) (fun c25 => ?_)
    · have hf := if_s c25 hf
      refine b_sub [(0, .ref (ad B x0)), (1, .int y1)] [0, 1] rfl ?_
      exact tX12_means_77 C hr hlocks hK52 hf
    · have hf := it_s c25 hf
      refine b_aload_n C dX12_means_72 0 rfl rfl ?_
      refine b_iload_n C dX12_means_73 1 rfl rfl ?_
      obtain ⟨d27, k28, hf⟩ := cv_s hf
      refine b_cVN C [] dX12_means_74 (kX12_meansLine l D cy B k28) lv_X12_185 ⟨rfl, rfl, Nat.le_of_ble_eq_true rfl, Nat.le_of_ble_eq_true rfl⟩ h20 (by decide) rfl (Nat.le_of_ble_eq_true rfl) ⟨Nat.zero_le _, Nat.zero_le _⟩ rfl ?_
      refine b_sub [(0, .ref (ad B x0)), (1, .int y1)] [0, 1] rfl ?_
      exact tX12_means_77 C hr hlocks hK52 hf
def fX12_means_L52 (N : Nat) (g : Gs) (x0 : Nat) : Int32 × Ds → Option (Unit × Ds) := lp (fun K52 a => fX12_means_B52 N g x0 K52 a.1 a.2) N
theorem tX12_means_L52 {p : Program} {l : Launch} {e : Env} {s : State} {m : MethodId} {args : Array Value} {below : List Frame} {meth : Method} {c : Code} {D : va_G} {cy : Nat → ClassId} {B : Bs} (C : Cx p s m args c cX12_means 2 RX12 D cy B) (hr : meth.sig.returnType = none) (hlocks : meth.locks = false) {N : Nat} {g : Gs} {x0 : Nat}  {dz : Ds} (a : Int32 × Ds) (hf : fX12_means_L52 N g x0 a = some ((), dz)) : WB p l e rmX12_means s m args below meth c 2 D cy B 0 0 (MQ below (QV D cy B g dz) args s 0 0 (wA B)) g a.2 [(0, .ref (ad B x0)), (1, .int a.1)] 52 [] :=
  lp_w (fun K52 hK52 a ha => tX12_means_52 C hr hlocks hK52 ha) N a hf
set_option maxRecDepth 100000 in
def fX12_means_J47 (N : Nat) (g : Gs) (x0 : Nat) (z0 : Int32) (z1 : Nat) (d : Ds) : Option (Unit × Ds) := gd (chk g z1 11) <| gd (z0 = 0 ∨ z0 = 1) <| bd (sI d z1 22 z0) fun d19 => (fX12_means_L52 N g x0 (4, d19))
set_option maxHeartbeats 4000000 in
set_option maxRecDepth 100000 in
theorem tX12_means_47 {p : Program} {l : Launch} {e : Env} {s : State} {m : MethodId} {args : Array Value} {below : List Frame} {meth : Method} {c : Code} {D : va_G} {cy : Nat → ClassId} {B : Bs} (C : Cx p s m args c cX12_means 2 RX12 D cy B) (hr : meth.sig.returnType = none) (hlocks : meth.locks = false) {N : Nat} {g : Gs} {x0 : Nat}  {dz : Ds} {z0 : Int32} {z1 : Nat} {d : Ds} (hf : fX12_means_J47 N g x0 z0 z1 d = some ((), dz)) : WB p l e rmX12_means s m args below meth c 2 D cy B 0 0 (MQ below (QV D cy B g dz) args s 0 0 (wA B)) g d [(0, .ref (ad B x0))] 47 [.int z0, .ref (ad B z1)] := by
  unfold fX12_means_J47 at hf
  obtain ⟨h17, hf⟩ := gd_s hf
  obtain ⟨h18, hf⟩ := gd_s hf
  obtain ⟨d19, ed19, hf⟩ := bd_s hf
  refine b_pZ C dX12_means_47 fl_X12_181 fp11_22 h18 h17 ed19 ?_
  refine b_iconst C (v := 4) dX12_means_50 (by decide) ?_
  refine b_istore_n C dX12_means_51 rfl [(1, .int 4), (0, .ref (ad B x0))] (by decide) rfl ?_
  refine b_sub [(0, .ref (ad B x0)), (1, .int 4)] [1, 0] rfl ?_
  exact tX12_means_L52 C hr hlocks (4, d19) hf
set_option maxRecDepth 100000 in
def fX12_means (N : Nat) (g : Gs) (x0 : Nat) (d : Ds) : Option (Unit × Ds) := gd (chk g x0 11) <| ob (gR g x0 18) fun r2 => (cv (fX12_begins N g r2 d) fun d3 => (cb (fX12_within N g x0 1 1 4 d3) fun u7 d5 => (gd (chk g r2 102) <| gd (¬ ((0 : Int32) < 0 ∨ gL g r2 ≤ (0 : Int32).toNatClampNeg)) <| bd (sI d5 r2 (0 : Int32).toNatClampNeg u7) fun d10 => (cb (fX12_within N g x0 2 1 6 d10) fun u13 d11 => (gd (¬ ((1 : Int32) < 0 ∨ gL g r2 ≤ (1 : Int32).toNatClampNeg)) <| bd (sI d11 r2 (1 : Int32).toNatClampNeg u13) fun d15 => (if (dI d15 x0 14) = 0 then (fX12_means_J47 N g x0 1 x0 d15) else (fX12_means_J47 N g x0 0 x0 d15)))))))
set_option maxHeartbeats 4000000 in
set_option maxRecDepth 100000 in
theorem tX12_means_E {p : Program} {l : Launch} {e : Env} {s : State} {m : MethodId} {args : Array Value} {below : List Frame} {meth : Method} {c : Code} {D : va_G} {cy : Nat → ClassId} {B : Bs} (C : Cx p s m args c cX12_means 2 RX12 D cy B) (hr : meth.sig.returnType = none) (hlocks : meth.locks = false) {N : Nat} {g : Gs} {x0 : Nat}  {dz : Ds} {d : Ds} (hf : fX12_means N g x0 d = some ((), dz)) : WB p l e rmX12_means s m args below meth c 2 D cy B 0 0 (MQ below (QV D cy B g dz) args s 0 0 (wA B)) g d [(0, .ref (ad B x0))] 0 [] := by
  unfold fX12_means at hf
  refine b_aload_n C dX12_means_0 0 rfl rfl ?_
  obtain ⟨h1, hf⟩ := gd_s hf
  obtain ⟨r2, er2, hf⟩ := ob_s hf
  refine b_gR C dX12_means_1 fl_X12_43 h1 er2 ?_
  obtain ⟨d3, k4, hf⟩ := cv_s hf
  refine b_cSN C [] dX12_means_4 (kX12_begins l D cy B k4) lv_X12_83 ⟨rfl, rfl, Nat.le_of_ble_eq_true rfl, Nat.le_of_ble_eq_true rfl⟩ rfl (Nat.le_of_ble_eq_true rfl) ⟨Nat.zero_le _, Nat.zero_le _⟩ rfl ?_
  refine b_aload_n C dX12_means_7 0 rfl rfl ?_
  refine b_gR C dX12_means_8 fl_X12_43 h1 er2 ?_
  refine b_iconst C (v := 0) dX12_means_11 (by decide) ?_
  refine b_aload_n C dX12_means_12 0 rfl rfl ?_
  refine b_iconst C (v := 1) dX12_means_13 (by decide) ?_
  refine b_iconst C (v := 1) dX12_means_14 (by decide) ?_
  refine b_iconst C (v := 4) dX12_means_15 (by decide) ?_
  obtain ⟨u7, d5, k6, hf⟩ := cb_s hf
  refine b_cVI C [.int 0, .ref (ad B r2)] dX12_means_16 (kX12_within l D cy B k6) lv_X12_177 ⟨rfl, rfl, Nat.le_of_ble_eq_true rfl, Nat.le_of_ble_eq_true rfl⟩ h1 (by decide) rfl (Nat.le_of_ble_eq_true rfl) ⟨Nat.zero_le _, Nat.zero_le _⟩ rfl ?_
  obtain ⟨h8, hf⟩ := gd_s hf
  obtain ⟨h9, hf⟩ := gd_s hf
  obtain ⟨d10, ed10, hf⟩ := bd_s hf
  refine b_iast C h8 h9 ed10 dX12_means_19 ?_
  refine b_aload_n C dX12_means_20 0 rfl rfl ?_
  refine b_gR C dX12_means_21 fl_X12_43 h1 er2 ?_
  refine b_iconst C (v := 1) dX12_means_24 (by decide) ?_
  refine b_aload_n C dX12_means_25 0 rfl rfl ?_
  refine b_iconst C (v := 2) dX12_means_26 (by decide) ?_
  refine b_iconst C (v := 1) dX12_means_27 (by decide) ?_
  refine b_bipush C (v := 6) dX12_means_28 (by decide) ?_
  obtain ⟨u13, d11, k12, hf⟩ := cb_s hf
  refine b_cVI C [.int 1, .ref (ad B r2)] dX12_means_30 (kX12_within l D cy B k12) lv_X12_177 ⟨rfl, rfl, Nat.le_of_ble_eq_true rfl, Nat.le_of_ble_eq_true rfl⟩ h1 (by decide) rfl (Nat.le_of_ble_eq_true rfl) ⟨Nat.zero_le _, Nat.zero_le _⟩ rfl ?_
  obtain ⟨h14, hf⟩ := gd_s hf
  obtain ⟨d15, ed15, hf⟩ := bd_s hf
  refine b_iast C h8 h14 ed15 dX12_means_33 ?_
  refine b_aload_n C dX12_means_34 0 rfl rfl ?_
  refine b_aload_n C dX12_means_35 0 rfl rfl ?_
  refine b_gI C dX12_means_36 fl_X12_133 h1 ?_
  refine b_if_ne C (tgt := 46) dX12_means_39 (by decide) (fun c16 => ?_) (fun c16 => ?_)
  · have hf := if_s c16 hf
    refine b_iconst C (v := 0) dX12_means_46 (by decide) ?_
    refine b_sub [(0, .ref (ad B x0))] [0] rfl ?_
    exact tX12_means_47 C hr hlocks hf
  · have hf := it_s c16 hf
    refine b_iconst C (v := 1) dX12_means_42 (by decide) ?_
    refine b_goto C (tgt := 47) dX12_means_43 (by decide) ?_
    refine b_sub [(0, .ref (ad B x0))] [0] rfl ?_
    exact tX12_means_47 C hr hlocks hf
theorem kX12_means (l : Launch) (D : va_G) (cy : Nat → ClassId) (B : Bs) {N : Nat} {g : Gs} {x0 : Nat}  {dz : Ds} {d : Ds} (hf : fX12_means N g x0 d = some ((), dz)) : Met l yX12_means (.code yX12_means cX12_means 2 none :: wl) rmX12_means (PC D cy B [.ref (ad B x0)] g d) (QV D cy B g dz) 0 0 (wA B) :=
  met_of (by decide +kernel) (Nat.le_of_ble_eq_true rfl) (fun p e s m args below meth c C hr hlocks _ => b_sub [(0, .ref (ad B x0))] [0] rfl (tX12_means_E C hr hlocks hf))
/-! KeyMatrixModel.read()I -/
theorem fp11_4 : FPI 11 4 := ⟨ft11, (RX12, TX12, 33), rfl, by decide +kernel, by decide +kernel⟩
theorem yo_X12_cutsText : yX12_cutsText.cls ≠ "java/lang/invoke/MethodHandle" ∧ yX12_cutsText.cls ≠ "java/lang/invoke/VarHandle" ∧ (parseMethodDescriptor yX12_cutsText.desc).map (fun d => d.parameters.length) = some 0 := by decide +kernel
theorem co_X12_cutsText : Cond.code yX12_cutsText cX12_cutsText 8 none ∈ wl := mW (mT5 (List.mem_of_getElem? (i := 212) (by decide +kernel))) rfl
theorem in_X12_cutsText : Cond.initialized yX12_cutsText.cls ∈ wl := mW (mT1 (List.mem_of_getElem? (i := 12) (by decide +kernel))) rfl
theorem im_X12_cutsText : Cond.instanceMethod yX12_cutsText ∈ wl := mW (mT5 (List.mem_of_getElem? (i := 211) (by decide +kernel))) rfl
theorem se_X12_cutsText : Cond.selects yX12_cutsText.cls yX12_cutsText yX12_cutsText ∈ wl := mW (mT0 (List.mem_of_getElem? (i := 33) (by decide +kernel))) rfl
theorem lv_X12_148 : LV RX12 148 yX12_cutsText cX12_cutsText 8 none 0 11 := ⟨⟨(RX12, TX12, 33), rfl, rfl⟩, yo_X12_cutsText, mW (mT5 (List.mem_of_getElem? (i := 209) (by decide +kernel))) rfl, im_X12_cutsText, se_X12_cutsText, in_X12_cutsText, co_X12_cutsText⟩
theorem fl_X12_71 : FLR RX12 71 11 32 := ⟨⟨RX12, TX12, 33, rfl, by decide, inl11, Or.inl (mW (mT5 (List.mem_of_getElem? (i := 123) (by decide +kernel))) rfl)⟩, by decide, by decide +kernel⟩
theorem yo_X12_means : yX12_means.cls ≠ "java/lang/invoke/MethodHandle" ∧ yX12_means.cls ≠ "java/lang/invoke/VarHandle" ∧ (parseMethodDescriptor yX12_means.desc).map (fun d => d.parameters.length) = some 0 := by decide +kernel
theorem co_X12_means : Cond.code yX12_means cX12_means 2 none ∈ wl := mW (mT6 (List.mem_of_getElem? (i := 18) (by decide +kernel))) rfl
theorem in_X12_means : Cond.initialized yX12_means.cls ∈ wl := mW (mT1 (List.mem_of_getElem? (i := 12) (by decide +kernel))) rfl
theorem im_X12_means : Cond.instanceMethod yX12_means ∈ wl := mW (mT6 (List.mem_of_getElem? (i := 17) (by decide +kernel))) rfl
theorem se_X12_means : Cond.selects yX12_means.cls yX12_means yX12_means ∈ wl := mW (mT0 (List.mem_of_getElem? (i := 43) (by decide +kernel))) rfl
theorem lv_X12_163 : LV RX12 163 yX12_means cX12_means 2 none 0 11 := ⟨⟨(RX12, TX12, 33), rfl, rfl⟩, yo_X12_means, mW (mT6 (List.mem_of_getElem? (i := 15) (by decide +kernel))) rfl, im_X12_means, se_X12_means, in_X12_means, co_X12_means⟩
theorem yo_X12_tell : yX12_tell.cls ≠ "java/lang/invoke/MethodHandle" ∧ yX12_tell.cls ≠ "java/lang/invoke/VarHandle" ∧ (parseMethodDescriptor yX12_tell.desc).map (fun d => d.parameters.length) = some 0 := by decide +kernel
theorem co_X12_tell : Cond.code yX12_tell cX12_tell 3 none ∈ wl := mW (mT6 (List.mem_of_getElem? (i := 10) (by decide +kernel))) rfl
theorem in_X12_tell : Cond.initialized yX12_tell.cls ∈ wl := mW (mT1 (List.mem_of_getElem? (i := 12) (by decide +kernel))) rfl
theorem im_X12_tell : Cond.instanceMethod yX12_tell ∈ wl := mW (mT6 (List.mem_of_getElem? (i := 9) (by decide +kernel))) rfl
theorem se_X12_tell : Cond.selects yX12_tell.cls yX12_tell yX12_tell ∈ wl := mW (mT0 (List.mem_of_getElem? (i := 41) (by decide +kernel))) rfl
theorem lv_X12_160 : LV RX12 160 yX12_tell cX12_tell 3 none 0 11 := ⟨⟨(RX12, TX12, 33), rfl, rfl⟩, yo_X12_tell, mW (mT6 (List.mem_of_getElem? (i := 7) (by decide +kernel))) rfl, im_X12_tell, se_X12_tell, in_X12_tell, co_X12_tell⟩
theorem dX12_read_0 : decode cX12_read 0 = .ok (.aload_n 0, 1) := by decide +kernel
theorem dX12_read_1 : decode cX12_read 1 = .ok (.aload_n 0, 1) := by decide +kernel
theorem dX12_read_2 : decode cX12_read 2 = .ok (.getfield 90, 3) := by decide +kernel
theorem dX12_read_5 : decode cX12_read 5 = .ok (.putfield 97, 3) := by decide +kernel
theorem dX12_read_8 : decode cX12_read 8 = .ok (.iconst 0, 1) := by decide +kernel
theorem dX12_read_9 : decode cX12_read 9 = .ok (.istore_n 1, 1) := by decide +kernel
theorem dX12_read_10 : decode cX12_read 10 = .ok (.iload_n 1, 1) := by decide +kernel
theorem dX12_read_11 : decode cX12_read 11 = .ok (.aload_n 0, 1) := by decide +kernel
theorem dX12_read_12 : decode cX12_read 12 = .ok (.getfield 97, 3) := by decide +kernel
theorem dX12_read_15 : decode cX12_read 15 = .ok (.if_icmp .ge 21, 3) := by decide +kernel
theorem dX12_read_18 : decode cX12_read 18 = .ok (.aload_n 0, 1) := by decide +kernel
theorem dX12_read_19 : decode cX12_read 19 = .ok (.getfield 17, 3) := by decide +kernel
theorem dX12_read_22 : decode cX12_read 22 = .ok (.iload_n 1, 1) := by decide +kernel
theorem dX12_read_23 : decode cX12_read 23 = .ok (.aload_n 0, 1) := by decide +kernel
theorem dX12_read_24 : decode cX12_read 24 = .ok (.getfield 13, 3) := by decide +kernel
theorem dX12_read_27 : decode cX12_read 27 = .ok (.iload_n 1, 1) := by decide +kernel
theorem dX12_read_28 : decode cX12_read 28 = .ok (.baload, 1) := by decide +kernel
theorem dX12_read_29 : decode cX12_read 29 = .ok (.bastore, 1) := by decide +kernel
theorem dX12_read_30 : decode cX12_read 30 = .ok (.iinc 1 1, 3) := by decide +kernel
theorem dX12_read_33 : decode cX12_read 33 = .ok (.goto (-23), 3) := by decide +kernel
theorem dX12_read_36 : decode cX12_read 36 = .ok (.aload_n 0, 1) := by decide +kernel
theorem dX12_read_37 : decode cX12_read 37 = .ok (.iconst 0, 1) := by decide +kernel
theorem dX12_read_38 : decode cX12_read 38 = .ok (.putfield 90, 3) := by decide +kernel
theorem dX12_read_41 : decode cX12_read 41 = .ok (.aload_n 0, 1) := by decide +kernel
theorem dX12_read_42 : decode cX12_read 42 = .ok (.invokevirtual 148, 3) := by decide +kernel
theorem dX12_read_45 : decode cX12_read 45 = .ok (.aload_n 0, 1) := by decide +kernel
theorem dX12_read_46 : decode cX12_read 46 = .ok (.iconst 0, 1) := by decide +kernel
theorem dX12_read_47 : decode cX12_read 47 = .ok (.putfield 127, 3) := by decide +kernel
theorem dX12_read_50 : decode cX12_read 50 = .ok (.aload_n 0, 1) := by decide +kernel
theorem dX12_read_51 : decode cX12_read 51 = .ok (.iconst 0, 1) := by decide +kernel
theorem dX12_read_52 : decode cX12_read 52 = .ok (.putfield 124, 3) := by decide +kernel
theorem dX12_read_55 : decode cX12_read 55 = .ok (.aload_n 0, 1) := by decide +kernel
theorem dX12_read_56 : decode cX12_read 56 = .ok (.iconst 0, 1) := by decide +kernel
theorem dX12_read_57 : decode cX12_read 57 = .ok (.putfield 133, 3) := by decide +kernel
theorem dX12_read_60 : decode cX12_read 60 = .ok (.aload_n 0, 1) := by decide +kernel
theorem dX12_read_61 : decode cX12_read 61 = .ok (.iconst 0, 1) := by decide +kernel
theorem dX12_read_62 : decode cX12_read 62 = .ok (.putfield 151, 3) := by decide +kernel
theorem dX12_read_65 : decode cX12_read 65 = .ok (.aload_n 0, 1) := by decide +kernel
theorem dX12_read_66 : decode cX12_read 66 = .ok (.iconst 0, 1) := by decide +kernel
theorem dX12_read_67 : decode cX12_read 67 = .ok (.putfield 154, 3) := by decide +kernel
theorem dX12_read_70 : decode cX12_read 70 = .ok (.aload_n 0, 1) := by decide +kernel
theorem dX12_read_71 : decode cX12_read 71 = .ok (.bipush 20, 2) := by decide +kernel
theorem dX12_read_73 : decode cX12_read 73 = .ok (.invokevirtual 157, 3) := by decide +kernel
theorem dX12_read_76 : decode cX12_read 76 = .ok (.aload_n 0, 1) := by decide +kernel
theorem dX12_read_77 : decode cX12_read 77 = .ok (.iconst 2, 1) := by decide +kernel
theorem dX12_read_78 : decode cX12_read 78 = .ok (.invokevirtual 157, 3) := by decide +kernel
theorem dX12_read_81 : decode cX12_read 81 = .ok (.aload_n 0, 1) := by decide +kernel
theorem dX12_read_82 : decode cX12_read 82 = .ok (.iconst 2, 1) := by decide +kernel
theorem dX12_read_83 : decode cX12_read 83 = .ok (.invokevirtual 157, 3) := by decide +kernel
theorem dX12_read_86 : decode cX12_read 86 = .ok (.aload_n 0, 1) := by decide +kernel
theorem dX12_read_87 : decode cX12_read 87 = .ok (.iconst 4, 1) := by decide +kernel
theorem dX12_read_88 : decode cX12_read 88 = .ok (.invokevirtual 157, 3) := by decide +kernel
theorem dX12_read_91 : decode cX12_read 91 = .ok (.aload_n 0, 1) := by decide +kernel
theorem dX12_read_92 : decode cX12_read 92 = .ok (.getfield 124, 3) := by decide +kernel
theorem dX12_read_95 : decode cX12_read 95 = .ok (.ifCond .ne 18, 3) := by decide +kernel
theorem dX12_read_98 : decode cX12_read 98 = .ok (.aload_n 0, 1) := by decide +kernel
theorem dX12_read_99 : decode cX12_read 99 = .ok (.iconst 0, 1) := by decide +kernel
theorem dX12_read_100 : decode cX12_read 100 = .ok (.invokevirtual 142, 3) := by decide +kernel
theorem dX12_read_103 : decode cX12_read 103 = .ok (.ifCond .ne 10, 3) := by decide +kernel
theorem dX12_read_106 : decode cX12_read 106 = .ok (.aload_n 0, 1) := by decide +kernel
theorem dX12_read_107 : decode cX12_read 107 = .ok (.invokevirtual 160, 3) := by decide +kernel
theorem dX12_read_110 : decode cX12_read 110 = .ok (.goto (-19), 3) := by decide +kernel
theorem dX12_read_113 : decode cX12_read 113 = .ok (.aload_n 0, 1) := by decide +kernel
theorem dX12_read_114 : decode cX12_read 114 = .ok (.getfield 124, 3) := by decide +kernel
theorem dX12_read_117 : decode cX12_read 117 = .ok (.ifCond .ne 7, 3) := by decide +kernel
theorem dX12_read_120 : decode cX12_read 120 = .ok (.aload_n 0, 1) := by decide +kernel
theorem dX12_read_121 : decode cX12_read 121 = .ok (.invokevirtual 163, 3) := by decide +kernel
theorem dX12_read_124 : decode cX12_read 124 = .ok (.aload_n 0, 1) := by decide +kernel
theorem dX12_read_125 : decode cX12_read 125 = .ok (.aload_n 0, 1) := by decide +kernel
theorem dX12_read_126 : decode cX12_read 126 = .ok (.getfield 124, 3) := by decide +kernel
theorem dX12_read_129 : decode cX12_read 129 = .ok (.ifCond .le 10, 3) := by decide +kernel
theorem dX12_read_132 : decode cX12_read 132 = .ok (.aload_n 0, 1) := by decide +kernel
theorem dX12_read_133 : decode cX12_read 133 = .ok (.getfield 130, 3) := by decide +kernel
theorem dX12_read_136 : decode cX12_read 136 = .ok (.goto 18, 3) := by decide +kernel
theorem dX12_read_139 : decode cX12_read 139 = .ok (.aload_n 0, 1) := by decide +kernel
theorem dX12_read_140 : decode cX12_read 140 = .ok (.getfield 133, 3) := by decide +kernel
theorem dX12_read_143 : decode cX12_read 143 = .ok (.ifCond .le 10, 3) := by decide +kernel
theorem dX12_read_146 : decode cX12_read 146 = .ok (.aload_n 0, 1) := by decide +kernel
theorem dX12_read_147 : decode cX12_read 147 = .ok (.getfield 136, 3) := by decide +kernel
theorem dX12_read_150 : decode cX12_read 150 = .ok (.goto 4, 3) := by decide +kernel
theorem dX12_read_153 : decode cX12_read 153 = .ok (.iconst (-1), 1) := by decide +kernel
theorem dX12_read_154 : decode cX12_read 154 = .ok (.putfield 37, 3) := by decide +kernel
theorem dX12_read_157 : decode cX12_read 157 = .ok (.aload_n 0, 1) := by decide +kernel
theorem dX12_read_158 : decode cX12_read 158 = .ok (.getfield 124, 3) := by decide +kernel
theorem dX12_read_161 : decode cX12_read 161 = .ok (.ifCond .le 8, 3) := by decide +kernel
theorem dX12_read_164 : decode cX12_read 164 = .ok (.aload_n 0, 1) := by decide +kernel
theorem dX12_read_165 : decode cX12_read 165 = .ok (.getfield 124, 3) := by decide +kernel
theorem dX12_read_168 : decode cX12_read 168 = .ok (.ireturn, 1) := by decide +kernel
theorem dX12_read_169 : decode cX12_read 169 = .ok (.aload_n 0, 1) := by decide +kernel
theorem dX12_read_170 : decode cX12_read 170 = .ok (.getfield 133, 3) := by decide +kernel
theorem dX12_read_173 : decode cX12_read 173 = .ok (.ifCond .le 8, 3) := by decide +kernel
theorem dX12_read_176 : decode cX12_read 176 = .ok (.aload_n 0, 1) := by decide +kernel
theorem dX12_read_177 : decode cX12_read 177 = .ok (.getfield 133, 3) := by decide +kernel
theorem dX12_read_180 : decode cX12_read 180 = .ok (.ireturn, 1) := by decide +kernel
theorem dX12_read_181 : decode cX12_read 181 = .ok (.iconst 0, 1) := by decide +kernel
theorem dX12_read_182 : decode cX12_read 182 = .ok (.istore_n 1, 1) := by decide +kernel
theorem dX12_read_183 : decode cX12_read 183 = .ok (.iload_n 1, 1) := by decide +kernel
theorem dX12_read_184 : decode cX12_read 184 = .ok (.sipush 352, 3) := by decide +kernel
theorem dX12_read_187 : decode cX12_read 187 = .ok (.if_icmp .ge 21, 3) := by decide +kernel
theorem dX12_read_190 : decode cX12_read 190 = .ok (.aload_n 0, 1) := by decide +kernel
theorem dX12_read_191 : decode cX12_read 191 = .ok (.getfield 40, 3) := by decide +kernel
theorem dX12_read_194 : decode cX12_read 194 = .ok (.iload_n 1, 1) := by decide +kernel
theorem dX12_read_195 : decode cX12_read 195 = .ok (.aload_n 0, 1) := by decide +kernel
theorem dX12_read_196 : decode cX12_read 196 = .ok (.getfield 43, 3) := by decide +kernel
theorem dX12_read_199 : decode cX12_read 199 = .ok (.iload_n 1, 1) := by decide +kernel
theorem dX12_read_200 : decode cX12_read 200 = .ok (.iaload, 1) := by decide +kernel
theorem dX12_read_201 : decode cX12_read 201 = .ok (.iastore, 1) := by decide +kernel
theorem dX12_read_202 : decode cX12_read 202 = .ok (.iinc 1 1, 3) := by decide +kernel
theorem dX12_read_205 : decode cX12_read 205 = .ok (.goto (-22), 3) := by decide +kernel
theorem dX12_read_208 : decode cX12_read 208 = .ok (.aload_n 0, 1) := by decide +kernel
theorem dX12_read_209 : decode cX12_read 209 = .ok (.invokevirtual 87, 3) := by decide +kernel
theorem dX12_read_212 : decode cX12_read 212 = .ok (.iconst 0, 1) := by decide +kernel
theorem dX12_read_213 : decode cX12_read 213 = .ok (.istore_n 1, 1) := by decide +kernel
theorem dX12_read_214 : decode cX12_read 214 = .ok (.iload_n 1, 1) := by decide +kernel
theorem dX12_read_215 : decode cX12_read 215 = .ok (.iconst 3, 1) := by decide +kernel
theorem dX12_read_216 : decode cX12_read 216 = .ok (.if_icmp .ge 16, 3) := by decide +kernel
theorem dX12_read_219 : decode cX12_read 219 = .ok (.aload_n 0, 1) := by decide +kernel
theorem dX12_read_220 : decode cX12_read 220 = .ok (.getfield 71, 3) := by decide +kernel
theorem dX12_read_223 : decode cX12_read 223 = .ok (.iload_n 1, 1) := by decide +kernel
theorem dX12_read_224 : decode cX12_read 224 = .ok (.iconst 0, 1) := by decide +kernel
theorem dX12_read_225 : decode cX12_read 225 = .ok (.bastore, 1) := by decide +kernel
theorem dX12_read_226 : decode cX12_read 226 = .ok (.iinc 1 1, 3) := by decide +kernel
theorem dX12_read_229 : decode cX12_read 229 = .ok (.goto (-15), 3) := by decide +kernel
theorem dX12_read_232 : decode cX12_read 232 = .ok (.iconst 0, 1) := by decide +kernel
theorem dX12_read_233 : decode cX12_read 233 = .ok (.ireturn, 1) := by decide +kernel
def rmX12_read : Room := { frames := 6, cells := 0, slots := 0, locals := 135 }
set_option maxRecDepth 100000 in
def fX12_read_B214 (N : Nat) (g : Gs) (x0 : Nat) (K214 : Int32 × Ds → Option (Int32 × Ds)) (y1 : Int32) (d : Ds) : Option (Int32 × Ds) := if (3 : Int32) ≤ y1 then (some (0, d)) else (gd (chk g x0 11) <| ob (gR g x0 32) fun r39 => (gd (chk g r39 104) <| gd (¬ (y1 < 0 ∨ gL g r39 ≤ y1.toNatClampNeg)) <| bd (sI d r39 y1.toNatClampNeg (vp_nar .boolean 0)) fun d42 => (bd (y1 + 1) fun u43 => (K214 (u43, d42)))))
set_option maxHeartbeats 4000000 in
set_option maxRecDepth 100000 in
theorem tX12_read_214 {p : Program} {l : Launch} {e : Env} {s : State} {m : MethodId} {args : Array Value} {below : List Frame} {meth : Method} {c : Code} {D : va_G} {cy : Nat → ClassId} {B : Bs} (C : Cx p s m args c cX12_read 2 RX12 D cy B) (hr : meth.sig.returnType = (some .int)) (hlocks : meth.locks = false) {N : Nat} {g : Gs} {x0 : Nat} {vz : Int32} {dz : Ds} {K214 : Int32 × Ds → Option (Int32 × Ds)} (hK214 : ∀ a, K214 a = some (vz, dz) → WB p l e rmX12_read s m args below meth c 2 D cy B 0 0 (MQ below (QI D cy B vz g dz) args s 0 0 (wA B)) g a.2 [(0, .ref (ad B x0)), (1, .int a.1)] 214 []) {y1 : Int32} {d : Ds} (hf : fX12_read_B214 N g x0 K214 y1 d = some (vz, dz)) : WB p l e rmX12_read s m args below meth c 2 D cy B 0 0 (MQ below (QI D cy B vz g dz) args s 0 0 (wA B)) g d [(0, .ref (ad B x0)), (1, .int y1)] 214 [] := by
  unfold fX12_read_B214 at hf
  refine b_iload_n C dX12_read_214 1 rfl rfl ?_
  refine b_iconst C (v := 3) dX12_read_215 (by decide) ?_
  refine b_icmp_ge C (tgt := 232) dX12_read_216 (by decide) (fun c37 => ?_) (fun c37 => ?_)
  · have hf := it_s c37 hf
    refine b_iconst C (v := 0) dX12_read_232 (by decide) ?_
    exact b_iret C hr hlocks hf dX12_read_233
  · have hf := if_s c37 hf
    refine b_aload_n C dX12_read_219 0 rfl rfl ?_
    obtain ⟨h38, hf⟩ := gd_s hf
    obtain ⟨r39, er39, hf⟩ := ob_s hf
    refine b_gR C dX12_read_220 fl_X12_71 h38 er39 ?_
    refine b_iload_n C dX12_read_223 1 rfl rfl ?_
    refine b_iconst C (v := 0) dX12_read_224 (by decide) ?_
    obtain ⟨h40, hf⟩ := gd_s hf
    obtain ⟨h41, hf⟩ := gd_s hf
    obtain ⟨d42, ed42, hf⟩ := bd_s hf
    refine b_zast C h40 h41 ed42 dX12_read_225 ?_
    obtain ⟨u43, eu43, hf⟩ := bd_s hf
    refine b_iinc C dX12_read_226 1 rfl (by rw [eu43]; rfl) [(1, .int u43), (0, .ref (ad B x0))] (by decide) rfl ?_
    refine b_goto C (tgt := 214) dX12_read_229 (by decide) ?_
    refine b_sub [(0, .ref (ad B x0)), (1, .int u43)] [1, 0] rfl ?_
    exact hK214 (u43, d42) hf
def fX12_read_L214 (N : Nat) (g : Gs) (x0 : Nat) : Int32 × Ds → Option (Int32 × Ds) := lp (fun K214 a => fX12_read_B214 N g x0 K214 a.1 a.2) N
theorem tX12_read_L214 {p : Program} {l : Launch} {e : Env} {s : State} {m : MethodId} {args : Array Value} {below : List Frame} {meth : Method} {c : Code} {D : va_G} {cy : Nat → ClassId} {B : Bs} (C : Cx p s m args c cX12_read 2 RX12 D cy B) (hr : meth.sig.returnType = (some .int)) (hlocks : meth.locks = false) {N : Nat} {g : Gs} {x0 : Nat} {vz : Int32} {dz : Ds} (a : Int32 × Ds) (hf : fX12_read_L214 N g x0 a = some (vz, dz)) : WB p l e rmX12_read s m args below meth c 2 D cy B 0 0 (MQ below (QI D cy B vz g dz) args s 0 0 (wA B)) g a.2 [(0, .ref (ad B x0)), (1, .int a.1)] 214 [] :=
  lp_w (fun K214 hK214 a ha => tX12_read_214 C hr hlocks hK214 ha) N a hf
set_option maxRecDepth 100000 in
def fX12_read_B183 (N : Nat) (g : Gs) (x0 : Nat) (K183 : Int32 × Ds → Option (Int32 × Ds)) (y1 : Int32) (d : Ds) : Option (Int32 × Ds) := if (352 : Int32) ≤ y1 then (gd (chk g x0 11) <| cv (fX12_startsAnew N g x0 d) fun d35 => (fX12_read_L214 N g x0 (0, d35))) else (gd (chk g x0 11) <| ob (gR g x0 17) fun r45 => (ob (gR g x0 18) fun r46 => (gd (chk g r46 102) <| gd (¬ (y1 < 0 ∨ gL g r46 ≤ y1.toNatClampNeg)) <| gd (chk g r45 102) <| gd (¬ (y1 < 0 ∨ gL g r45 ≤ y1.toNatClampNeg)) <| bd (sI d r45 y1.toNatClampNeg (dI d r46 y1.toNatClampNeg)) fun d51 => (bd (y1 + 1) fun u52 => (K183 (u52, d51))))))
set_option maxHeartbeats 4000000 in
set_option maxRecDepth 100000 in
theorem tX12_read_183 {p : Program} {l : Launch} {e : Env} {s : State} {m : MethodId} {args : Array Value} {below : List Frame} {meth : Method} {c : Code} {D : va_G} {cy : Nat → ClassId} {B : Bs} (C : Cx p s m args c cX12_read 2 RX12 D cy B) (hr : meth.sig.returnType = (some .int)) (hlocks : meth.locks = false) {N : Nat} {g : Gs} {x0 : Nat} {vz : Int32} {dz : Ds} {K183 : Int32 × Ds → Option (Int32 × Ds)} (hK183 : ∀ a, K183 a = some (vz, dz) → WB p l e rmX12_read s m args below meth c 2 D cy B 0 0 (MQ below (QI D cy B vz g dz) args s 0 0 (wA B)) g a.2 [(0, .ref (ad B x0)), (1, .int a.1)] 183 []) {y1 : Int32} {d : Ds} (hf : fX12_read_B183 N g x0 K183 y1 d = some (vz, dz)) : WB p l e rmX12_read s m args below meth c 2 D cy B 0 0 (MQ below (QI D cy B vz g dz) args s 0 0 (wA B)) g d [(0, .ref (ad B x0)), (1, .int y1)] 183 [] := by
  unfold fX12_read_B183 at hf
  refine b_iload_n C dX12_read_183 1 rfl rfl ?_
  refine b_sipush C (v := 352) dX12_read_184 (by decide) ?_
  refine b_icmp_ge C (tgt := 208) dX12_read_187 (by decide) (fun c33 => ?_) (fun c33 => ?_)
  · have hf := it_s c33 hf
    refine b_aload_n C dX12_read_208 0 rfl rfl ?_
    obtain ⟨h34, hf⟩ := gd_s hf
    obtain ⟨d35, k36, hf⟩ := cv_s hf
    refine b_cVN C [] dX12_read_209 (kX12_startsAnew l D cy B k36) lv_X12_87 ⟨rfl, rfl, Nat.le_of_ble_eq_true rfl, Nat.le_of_ble_eq_true rfl⟩ h34 (by decide) rfl (Nat.le_of_ble_eq_true rfl) ⟨Nat.zero_le _, Nat.zero_le _⟩ rfl ?_
    refine b_iconst C (v := 0) dX12_read_212 (by decide) ?_
    refine b_istore_n C dX12_read_213 rfl [(1, .int 0), (0, .ref (ad B x0))] (by decide) rfl ?_
    refine b_sub [(0, .ref (ad B x0)), (1, .int 0)] [1, 0] rfl ?_
    exact tX12_read_L214 C hr hlocks (0, d35) hf
  · have hf := if_s c33 hf
    refine b_aload_n C dX12_read_190 0 rfl rfl ?_
    obtain ⟨h44, hf⟩ := gd_s hf
    obtain ⟨r45, er45, hf⟩ := ob_s hf
    refine b_gR C dX12_read_191 fl_X12_40 h44 er45 ?_
    refine b_iload_n C dX12_read_194 1 rfl rfl ?_
    refine b_aload_n C dX12_read_195 0 rfl rfl ?_
    obtain ⟨r46, er46, hf⟩ := ob_s hf
    refine b_gR C dX12_read_196 fl_X12_43 h44 er46 ?_
    refine b_iload_n C dX12_read_199 1 rfl rfl ?_
    obtain ⟨h47, hf⟩ := gd_s hf
    obtain ⟨h48, hf⟩ := gd_s hf
    refine b_iald C h47 h48 dX12_read_200 ?_
    obtain ⟨h49, hf⟩ := gd_s hf
    obtain ⟨h50, hf⟩ := gd_s hf
    obtain ⟨d51, ed51, hf⟩ := bd_s hf
    refine b_iast C h49 h50 ed51 dX12_read_201 ?_
    obtain ⟨u52, eu52, hf⟩ := bd_s hf
    refine b_iinc C dX12_read_202 1 rfl (by rw [eu52]; rfl) [(1, .int u52), (0, .ref (ad B x0))] (by decide) rfl ?_
    refine b_goto C (tgt := 183) dX12_read_205 (by decide) ?_
    refine b_sub [(0, .ref (ad B x0)), (1, .int u52)] [1, 0] rfl ?_
    exact hK183 (u52, d51) hf
def fX12_read_L183 (N : Nat) (g : Gs) (x0 : Nat) : Int32 × Ds → Option (Int32 × Ds) := lp (fun K183 a => fX12_read_B183 N g x0 K183 a.1 a.2) N
theorem tX12_read_L183 {p : Program} {l : Launch} {e : Env} {s : State} {m : MethodId} {args : Array Value} {below : List Frame} {meth : Method} {c : Code} {D : va_G} {cy : Nat → ClassId} {B : Bs} (C : Cx p s m args c cX12_read 2 RX12 D cy B) (hr : meth.sig.returnType = (some .int)) (hlocks : meth.locks = false) {N : Nat} {g : Gs} {x0 : Nat} {vz : Int32} {dz : Ds} (a : Int32 × Ds) (hf : fX12_read_L183 N g x0 a = some (vz, dz)) : WB p l e rmX12_read s m args below meth c 2 D cy B 0 0 (MQ below (QI D cy B vz g dz) args s 0 0 (wA B)) g a.2 [(0, .ref (ad B x0)), (1, .int a.1)] 183 [] :=
  lp_w (fun K183 hK183 a ha => tX12_read_183 C hr hlocks hK183 ha) N a hf
set_option maxRecDepth 100000 in
def fX12_read_J154 (N : Nat) (g : Gs) (x0 : Nat) (z0 : Int32) (z1 : Nat) (d : Ds) : Option (Int32 × Ds) := gd (chk g z1 11) <| bd (sI d z1 16 z0) fun d29 => (gd (chk g x0 11) <| if (dI d29 x0 12) ≤ 0 then (if (dI d29 x0 14) ≤ 0 then (fX12_read_L183 N g x0 (0, d29)) else (some ((dI d29 x0 14), d29))) else (some ((dI d29 x0 12), d29)))
set_option maxHeartbeats 4000000 in
set_option maxRecDepth 100000 in
theorem tX12_read_154 {p : Program} {l : Launch} {e : Env} {s : State} {m : MethodId} {args : Array Value} {below : List Frame} {meth : Method} {c : Code} {D : va_G} {cy : Nat → ClassId} {B : Bs} (C : Cx p s m args c cX12_read 2 RX12 D cy B) (hr : meth.sig.returnType = (some .int)) (hlocks : meth.locks = false) {N : Nat} {g : Gs} {x0 : Nat} {vz : Int32} {dz : Ds} {z0 : Int32} {z1 : Nat} {d : Ds} (hf : fX12_read_J154 N g x0 z0 z1 d = some (vz, dz)) : WB p l e rmX12_read s m args below meth c 2 D cy B 0 0 (MQ below (QI D cy B vz g dz) args s 0 0 (wA B)) g d [(0, .ref (ad B x0))] 154 [.int z0, .ref (ad B z1)] := by
  unfold fX12_read_J154 at hf
  obtain ⟨h28, hf⟩ := gd_s hf
  obtain ⟨d29, ed29, hf⟩ := bd_s hf
  refine b_pI C dX12_read_154 fl_X12_37 fp11_16 h28 ed29 ?_
  refine b_aload_n C dX12_read_157 0 rfl rfl ?_
  obtain ⟨h30, hf⟩ := gd_s hf
  refine b_gI C dX12_read_158 fl_X12_124 h30 ?_
  refine b_if_le C (tgt := 169) dX12_read_161 (by decide) (fun c31 => ?_) (fun c31 => ?_)
  · have hf := it_s c31 hf
    refine b_aload_n C dX12_read_169 0 rfl rfl ?_
    refine b_gI C dX12_read_170 fl_X12_133 h30 ?_
    refine b_if_le C (tgt := 181) dX12_read_173 (by decide) (fun c32 => ?_) (fun c32 => ?_)
    · have hf := it_s c32 hf
      refine b_iconst C (v := 0) dX12_read_181 (by decide) ?_
      refine b_istore_n C dX12_read_182 rfl [(1, .int 0), (0, .ref (ad B x0))] (by decide) rfl ?_
      refine b_sub [(0, .ref (ad B x0)), (1, .int 0)] [1, 0] rfl ?_
      exact tX12_read_L183 C hr hlocks (0, d29) hf
    · have hf := if_s c32 hf
      refine b_aload_n C dX12_read_176 0 rfl rfl ?_
      refine b_gI C dX12_read_177 fl_X12_133 h30 ?_
      exact b_iret C hr hlocks hf dX12_read_180
  · have hf := if_s c31 hf
    refine b_aload_n C dX12_read_164 0 rfl rfl ?_
    refine b_gI C dX12_read_165 fl_X12_124 h30 ?_
    exact b_iret C hr hlocks hf dX12_read_168
set_option maxRecDepth 100000 in
def fX12_read_J124 (N : Nat) (g : Gs) (x0 : Nat) (d : Ds) : Option (Int32 × Ds) := gd (chk g x0 11) <| if (dI d x0 12) ≤ 0 then (if (dI d x0 14) ≤ 0 then (fX12_read_J154 N g x0 (-1) x0 d) else (fX12_read_J154 N g x0 (dI d x0 15) x0 d)) else (fX12_read_J154 N g x0 (dI d x0 13) x0 d)
set_option maxHeartbeats 4000000 in
set_option maxRecDepth 100000 in
theorem tX12_read_124 {p : Program} {l : Launch} {e : Env} {s : State} {m : MethodId} {args : Array Value} {below : List Frame} {meth : Method} {c : Code} {D : va_G} {cy : Nat → ClassId} {B : Bs} (C : Cx p s m args c cX12_read 2 RX12 D cy B) (hr : meth.sig.returnType = (some .int)) (hlocks : meth.locks = false) {N : Nat} {g : Gs} {x0 : Nat} {vz : Int32} {dz : Ds} {d : Ds} (hf : fX12_read_J124 N g x0 d = some (vz, dz)) : WB p l e rmX12_read s m args below meth c 2 D cy B 0 0 (MQ below (QI D cy B vz g dz) args s 0 0 (wA B)) g d [(0, .ref (ad B x0))] 124 [] := by
  unfold fX12_read_J124 at hf
  refine b_aload_n C dX12_read_124 0 rfl rfl ?_
  refine b_aload_n C dX12_read_125 0 rfl rfl ?_
  obtain ⟨h25, hf⟩ := gd_s hf
  refine b_gI C dX12_read_126 fl_X12_124 h25 ?_
  refine b_if_le C (tgt := 139) dX12_read_129 (by decide) (fun c26 => ?_) (fun c26 => ?_)
  · have hf := it_s c26 hf
    refine b_aload_n C dX12_read_139 0 rfl rfl ?_
    refine b_gI C dX12_read_140 fl_X12_133 h25 ?_
    refine b_if_le C (tgt := 153) dX12_read_143 (by decide) (fun c27 => ?_) (fun c27 => ?_)
    · have hf := it_s c27 hf
      refine b_iconst C (v := (-1)) dX12_read_153 (by decide) ?_
      refine b_sub [(0, .ref (ad B x0))] [0] rfl ?_
      exact tX12_read_154 C hr hlocks hf
    · have hf := if_s c27 hf
      refine b_aload_n C dX12_read_146 0 rfl rfl ?_
      refine b_gI C dX12_read_147 fl_X12_136 h25 ?_
      refine b_goto C (tgt := 154) dX12_read_150 (by decide) ?_
      refine b_sub [(0, .ref (ad B x0))] [0] rfl ?_
      exact tX12_read_154 C hr hlocks hf
  · have hf := if_s c26 hf
    refine b_aload_n C dX12_read_132 0 rfl rfl ?_
    refine b_gI C dX12_read_133 fl_X12_130 h25 ?_
    refine b_goto C (tgt := 154) dX12_read_136 (by decide) ?_
    refine b_sub [(0, .ref (ad B x0))] [0] rfl ?_
    exact tX12_read_154 C hr hlocks hf
set_option maxRecDepth 100000 in
def fX12_read_J113 (N : Nat) (g : Gs) (x0 : Nat) (d : Ds) : Option (Int32 × Ds) := gd (chk g x0 11) <| if (dI d x0 12) = 0 then (cv (fX12_means N g x0 d) fun d53 => (fX12_read_J124 N g x0 d53)) else (fX12_read_J124 N g x0 d)
set_option maxHeartbeats 4000000 in
set_option maxRecDepth 100000 in
theorem tX12_read_113 {p : Program} {l : Launch} {e : Env} {s : State} {m : MethodId} {args : Array Value} {below : List Frame} {meth : Method} {c : Code} {D : va_G} {cy : Nat → ClassId} {B : Bs} (C : Cx p s m args c cX12_read 2 RX12 D cy B) (hr : meth.sig.returnType = (some .int)) (hlocks : meth.locks = false) {N : Nat} {g : Gs} {x0 : Nat} {vz : Int32} {dz : Ds} {d : Ds} (hf : fX12_read_J113 N g x0 d = some (vz, dz)) : WB p l e rmX12_read s m args below meth c 2 D cy B 0 0 (MQ below (QI D cy B vz g dz) args s 0 0 (wA B)) g d [(0, .ref (ad B x0))] 113 [] := by
  unfold fX12_read_J113 at hf
  refine b_aload_n C dX12_read_113 0 rfl rfl ?_
  obtain ⟨h23, hf⟩ := gd_s hf
  refine b_gI C dX12_read_114 fl_X12_124 h23 ?_
  refine b_if_ne C (tgt := 124) dX12_read_117 (by decide) (fun c24 => ?_) (fun c24 => ?_)
  · have hf := if_s c24 hf
    refine b_sub [(0, .ref (ad B x0))] [0] rfl ?_
    exact tX12_read_124 C hr hlocks hf
  · have hf := it_s c24 hf
    refine b_aload_n C dX12_read_120 0 rfl rfl ?_
    obtain ⟨d53, k54, hf⟩ := cv_s hf
    refine b_cVN C [] dX12_read_121 (kX12_means l D cy B k54) lv_X12_163 ⟨rfl, rfl, Nat.le_of_ble_eq_true rfl, Nat.le_of_ble_eq_true rfl⟩ h23 (by decide) rfl (Nat.le_of_ble_eq_true rfl) ⟨Nat.zero_le _, Nat.zero_le _⟩ rfl ?_
    refine b_sub [(0, .ref (ad B x0))] [0] rfl ?_
    exact tX12_read_124 C hr hlocks hf
set_option maxRecDepth 100000 in
def fX12_read_B91 (N : Nat) (g : Gs) (x0 : Nat) (K91 : Ds → Option (Int32 × Ds)) (d : Ds) : Option (Int32 × Ds) := gd (chk g x0 11) <| if (dI d x0 12) = 0 then (cb (fX12_is N g x0 0 d) fun u57 d55 => (if u57 = 0 then (cv (fX12_tell N g x0 d55) fun d59 => (K91 d59)) else (fX12_read_J113 N g x0 d55))) else (fX12_read_J113 N g x0 d)
set_option maxHeartbeats 4000000 in
set_option maxRecDepth 100000 in
theorem tX12_read_91 {p : Program} {l : Launch} {e : Env} {s : State} {m : MethodId} {args : Array Value} {below : List Frame} {meth : Method} {c : Code} {D : va_G} {cy : Nat → ClassId} {B : Bs} (C : Cx p s m args c cX12_read 2 RX12 D cy B) (hr : meth.sig.returnType = (some .int)) (hlocks : meth.locks = false) {N : Nat} {g : Gs} {x0 : Nat} {vz : Int32} {dz : Ds} {K91 : Ds → Option (Int32 × Ds)} (hK91 : ∀ a, K91 a = some (vz, dz) → WB p l e rmX12_read s m args below meth c 2 D cy B 0 0 (MQ below (QI D cy B vz g dz) args s 0 0 (wA B)) g a [(0, .ref (ad B x0))] 91 []) {d : Ds} (hf : fX12_read_B91 N g x0 K91 d = some (vz, dz)) : WB p l e rmX12_read s m args below meth c 2 D cy B 0 0 (MQ below (QI D cy B vz g dz) args s 0 0 (wA B)) g d [(0, .ref (ad B x0))] 91 [] := by
  unfold fX12_read_B91 at hf
  refine b_aload_n C dX12_read_91 0 rfl rfl ?_
  obtain ⟨h21, hf⟩ := gd_s hf
  refine b_gI C dX12_read_92 fl_X12_124 h21 ?_
  refine b_if_ne C (tgt := 113) dX12_read_95 (by decide) (fun c22 => ?_) (fun c22 => ?_)
  · have hf := if_s c22 hf
    refine b_sub [(0, .ref (ad B x0))] [0] rfl ?_
    exact tX12_read_113 C hr hlocks hf
  · have hf := it_s c22 hf
    refine b_aload_n C dX12_read_98 0 rfl rfl ?_
    refine b_iconst C (v := 0) dX12_read_99 (by decide) ?_
    obtain ⟨u57, d55, k56, hf⟩ := cb_s hf
    refine b_cVI C [] dX12_read_100 (kX12_is l D cy B k56) lv_X12_142 ⟨rfl, rfl, Nat.le_of_ble_eq_true rfl, Nat.le_of_ble_eq_true rfl⟩ h21 (by decide) rfl (Nat.le_of_ble_eq_true rfl) ⟨Nat.zero_le _, Nat.zero_le _⟩ rfl ?_
    refine b_if_ne C (tgt := 113) dX12_read_103 (by decide) (fun c58 => ?_) (fun c58 => ?_)
    · have hf := if_s c58 hf
      refine b_sub [(0, .ref (ad B x0))] [0] rfl ?_
      exact tX12_read_113 C hr hlocks hf
    · have hf := it_s c58 hf
      refine b_aload_n C dX12_read_106 0 rfl rfl ?_
      obtain ⟨d59, k60, hf⟩ := cv_s hf
      refine b_cVN C [] dX12_read_107 (kX12_tell l D cy B k60) lv_X12_160 ⟨rfl, rfl, Nat.le_of_ble_eq_true rfl, Nat.le_of_ble_eq_true rfl⟩ h21 (by decide) rfl (Nat.le_of_ble_eq_true rfl) ⟨Nat.zero_le _, Nat.zero_le _⟩ rfl ?_
      refine b_goto C (tgt := 91) dX12_read_110 (by decide) ?_
      refine b_sub [(0, .ref (ad B x0))] [0] rfl ?_
      exact hK91 d59 hf
def fX12_read_L91 (N : Nat) (g : Gs) (x0 : Nat) : Ds → Option (Int32 × Ds) := lp (fun K91 a => fX12_read_B91 N g x0 K91 a) N
theorem tX12_read_L91 {p : Program} {l : Launch} {e : Env} {s : State} {m : MethodId} {args : Array Value} {below : List Frame} {meth : Method} {c : Code} {D : va_G} {cy : Nat → ClassId} {B : Bs} (C : Cx p s m args c cX12_read 2 RX12 D cy B) (hr : meth.sig.returnType = (some .int)) (hlocks : meth.locks = false) {N : Nat} {g : Gs} {x0 : Nat} {vz : Int32} {dz : Ds} (a : Ds) (hf : fX12_read_L91 N g x0 a = some (vz, dz)) : WB p l e rmX12_read s m args below meth c 2 D cy B 0 0 (MQ below (QI D cy B vz g dz) args s 0 0 (wA B)) g a [(0, .ref (ad B x0))] 91 [] :=
  lp_w (fun K91 hK91 a ha => tX12_read_91 C hr hlocks hK91 ha) N a hf
set_option maxRecDepth 100000 in
def fX12_read_B10 (N : Nat) (g : Gs) (x0 : Nat) (K10 : Int32 × Ds → Option (Int32 × Ds)) (y1 : Int32) (d : Ds) : Option (Int32 × Ds) := gd (chk g x0 11) <| if (dI d x0 4) ≤ y1 then (bd (sI d x0 2 0) fun d5 => (cv (fX12_cutsText N g x0 d5) fun d6 => (bd (sI d6 x0 11 0) fun d8 => (bd (sI d8 x0 12 0) fun d9 => (bd (sI d9 x0 14 0) fun d10 => (bd (sI d10 x0 20 0) fun d11 => (bd (sI d11 x0 21 0) fun d12 => (cv (fX12_must N g x0 20 d12) fun d13 => (cv (fX12_must N g x0 2 d13) fun d15 => (cv (fX12_must N g x0 2 d15) fun d17 => (cv (fX12_must N g x0 4 d17) fun d19 => (fX12_read_L91 N g x0 d19)))))))))))) else (ob (gR g x0 3) fun r61 => (ob (gR g x0 1) fun r62 => (gd (chk g r62 100) <| gd (¬ (y1 < 0 ∨ gL g r62 ≤ y1.toNatClampNeg)) <| gd (chk g r61 100) <| gd (¬ (y1 < 0 ∨ gL g r61 ≤ y1.toNatClampNeg)) <| bd (sI d r61 y1.toNatClampNeg (vp_nar .byte (dI d r62 y1.toNatClampNeg))) fun d67 => (bd (y1 + 1) fun u68 => (K10 (u68, d67))))))
set_option maxHeartbeats 4000000 in
set_option maxRecDepth 100000 in
theorem tX12_read_10 {p : Program} {l : Launch} {e : Env} {s : State} {m : MethodId} {args : Array Value} {below : List Frame} {meth : Method} {c : Code} {D : va_G} {cy : Nat → ClassId} {B : Bs} (C : Cx p s m args c cX12_read 2 RX12 D cy B) (hr : meth.sig.returnType = (some .int)) (hlocks : meth.locks = false) {N : Nat} {g : Gs} {x0 : Nat} {vz : Int32} {dz : Ds} {K10 : Int32 × Ds → Option (Int32 × Ds)} (hK10 : ∀ a, K10 a = some (vz, dz) → WB p l e rmX12_read s m args below meth c 2 D cy B 0 0 (MQ below (QI D cy B vz g dz) args s 0 0 (wA B)) g a.2 [(0, .ref (ad B x0)), (1, .int a.1)] 10 []) {y1 : Int32} {d : Ds} (hf : fX12_read_B10 N g x0 K10 y1 d = some (vz, dz)) : WB p l e rmX12_read s m args below meth c 2 D cy B 0 0 (MQ below (QI D cy B vz g dz) args s 0 0 (wA B)) g d [(0, .ref (ad B x0)), (1, .int y1)] 10 [] := by
  unfold fX12_read_B10 at hf
  refine b_iload_n C dX12_read_10 1 rfl rfl ?_
  refine b_aload_n C dX12_read_11 0 rfl rfl ?_
  obtain ⟨h3, hf⟩ := gd_s hf
  refine b_gI C dX12_read_12 fl_X12_97 h3 ?_
  refine b_icmp_ge C (tgt := 36) dX12_read_15 (by decide) (fun c4 => ?_) (fun c4 => ?_)
  · have hf := it_s c4 hf
    refine b_aload_n C dX12_read_36 0 rfl rfl ?_
    refine b_iconst C (v := 0) dX12_read_37 (by decide) ?_
    obtain ⟨d5, ed5, hf⟩ := bd_s hf
    refine b_pI C dX12_read_38 fl_X12_90 fp11_2 h3 ed5 ?_
    refine b_aload_n C dX12_read_41 0 rfl rfl ?_
    obtain ⟨d6, k7, hf⟩ := cv_s hf
    refine b_cVN C [] dX12_read_42 (kX12_cutsText l D cy B k7) lv_X12_148 ⟨rfl, rfl, Nat.le_of_ble_eq_true rfl, Nat.le_of_ble_eq_true rfl⟩ h3 (by decide) rfl (Nat.le_of_ble_eq_true rfl) ⟨Nat.zero_le _, Nat.zero_le _⟩ rfl ?_
    refine b_aload_n C dX12_read_45 0 rfl rfl ?_
    refine b_iconst C (v := 0) dX12_read_46 (by decide) ?_
    obtain ⟨d8, ed8, hf⟩ := bd_s hf
    refine b_pI C dX12_read_47 fl_X12_127 fp11_11 h3 ed8 ?_
    refine b_aload_n C dX12_read_50 0 rfl rfl ?_
    refine b_iconst C (v := 0) dX12_read_51 (by decide) ?_
    obtain ⟨d9, ed9, hf⟩ := bd_s hf
    refine b_pI C dX12_read_52 fl_X12_124 fp11_12 h3 ed9 ?_
    refine b_aload_n C dX12_read_55 0 rfl rfl ?_
    refine b_iconst C (v := 0) dX12_read_56 (by decide) ?_
    obtain ⟨d10, ed10, hf⟩ := bd_s hf
    refine b_pI C dX12_read_57 fl_X12_133 fp11_14 h3 ed10 ?_
    refine b_aload_n C dX12_read_60 0 rfl rfl ?_
    refine b_iconst C (v := 0) dX12_read_61 (by decide) ?_
    obtain ⟨d11, ed11, hf⟩ := bd_s hf
    refine b_pI C dX12_read_62 fl_X12_151 fp11_20 h3 ed11 ?_
    refine b_aload_n C dX12_read_65 0 rfl rfl ?_
    refine b_iconst C (v := 0) dX12_read_66 (by decide) ?_
    obtain ⟨d12, ed12, hf⟩ := bd_s hf
    refine b_pI C dX12_read_67 fl_X12_154 fp11_21 h3 ed12 ?_
    refine b_aload_n C dX12_read_70 0 rfl rfl ?_
    refine b_bipush C (v := 20) dX12_read_71 (by decide) ?_
    obtain ⟨d13, k14, hf⟩ := cv_s hf
    refine b_cVN C [] dX12_read_73 (kX12_must l D cy B k14) lv_X12_157 ⟨rfl, rfl, Nat.le_of_ble_eq_true rfl, Nat.le_of_ble_eq_true rfl⟩ h3 (by decide) rfl (Nat.le_of_ble_eq_true rfl) ⟨Nat.zero_le _, Nat.zero_le _⟩ rfl ?_
    refine b_aload_n C dX12_read_76 0 rfl rfl ?_
    refine b_iconst C (v := 2) dX12_read_77 (by decide) ?_
    obtain ⟨d15, k16, hf⟩ := cv_s hf
    refine b_cVN C [] dX12_read_78 (kX12_must l D cy B k16) lv_X12_157 ⟨rfl, rfl, Nat.le_of_ble_eq_true rfl, Nat.le_of_ble_eq_true rfl⟩ h3 (by decide) rfl (Nat.le_of_ble_eq_true rfl) ⟨Nat.zero_le _, Nat.zero_le _⟩ rfl ?_
    refine b_aload_n C dX12_read_81 0 rfl rfl ?_
    refine b_iconst C (v := 2) dX12_read_82 (by decide) ?_
    obtain ⟨d17, k18, hf⟩ := cv_s hf
    refine b_cVN C [] dX12_read_83 (kX12_must l D cy B k18) lv_X12_157 ⟨rfl, rfl, Nat.le_of_ble_eq_true rfl, Nat.le_of_ble_eq_true rfl⟩ h3 (by decide) rfl (Nat.le_of_ble_eq_true rfl) ⟨Nat.zero_le _, Nat.zero_le _⟩ rfl ?_
    refine b_aload_n C dX12_read_86 0 rfl rfl ?_
    refine b_iconst C (v := 4) dX12_read_87 (by decide) ?_
    obtain ⟨d19, k20, hf⟩ := cv_s hf
    refine b_cVN C [] dX12_read_88 (kX12_must l D cy B k20) lv_X12_157 ⟨rfl, rfl, Nat.le_of_ble_eq_true rfl, Nat.le_of_ble_eq_true rfl⟩ h3 (by decide) rfl (Nat.le_of_ble_eq_true rfl) ⟨Nat.zero_le _, Nat.zero_le _⟩ rfl ?_
    refine b_sub [(0, .ref (ad B x0))] [0] rfl ?_
    exact tX12_read_L91 C hr hlocks d19 hf
  · have hf := if_s c4 hf
    refine b_aload_n C dX12_read_18 0 rfl rfl ?_
    obtain ⟨r61, er61, hf⟩ := ob_s hf
    refine b_gR C dX12_read_19 fl_X12_17 h3 er61 ?_
    refine b_iload_n C dX12_read_22 1 rfl rfl ?_
    refine b_aload_n C dX12_read_23 0 rfl rfl ?_
    obtain ⟨r62, er62, hf⟩ := ob_s hf
    refine b_gR C dX12_read_24 fl_X12_13 h3 er62 ?_
    refine b_iload_n C dX12_read_27 1 rfl rfl ?_
    obtain ⟨h63, hf⟩ := gd_s hf
    obtain ⟨h64, hf⟩ := gd_s hf
    refine b_bald C h63 h64 dX12_read_28 ?_
    obtain ⟨h65, hf⟩ := gd_s hf
    obtain ⟨h66, hf⟩ := gd_s hf
    obtain ⟨d67, ed67, hf⟩ := bd_s hf
    refine b_bast C h65 h66 ed67 dX12_read_29 ?_
    obtain ⟨u68, eu68, hf⟩ := bd_s hf
    refine b_iinc C dX12_read_30 1 rfl (by rw [eu68]; rfl) [(1, .int u68), (0, .ref (ad B x0))] (by decide) rfl ?_
    refine b_goto C (tgt := 10) dX12_read_33 (by decide) ?_
    refine b_sub [(0, .ref (ad B x0)), (1, .int u68)] [1, 0] rfl ?_
    exact hK10 (u68, d67) hf
def fX12_read_L10 (N : Nat) (g : Gs) (x0 : Nat) : Int32 × Ds → Option (Int32 × Ds) := lp (fun K10 a => fX12_read_B10 N g x0 K10 a.1 a.2) N
theorem tX12_read_L10 {p : Program} {l : Launch} {e : Env} {s : State} {m : MethodId} {args : Array Value} {below : List Frame} {meth : Method} {c : Code} {D : va_G} {cy : Nat → ClassId} {B : Bs} (C : Cx p s m args c cX12_read 2 RX12 D cy B) (hr : meth.sig.returnType = (some .int)) (hlocks : meth.locks = false) {N : Nat} {g : Gs} {x0 : Nat} {vz : Int32} {dz : Ds} (a : Int32 × Ds) (hf : fX12_read_L10 N g x0 a = some (vz, dz)) : WB p l e rmX12_read s m args below meth c 2 D cy B 0 0 (MQ below (QI D cy B vz g dz) args s 0 0 (wA B)) g a.2 [(0, .ref (ad B x0)), (1, .int a.1)] 10 [] :=
  lp_w (fun K10 hK10 a ha => tX12_read_10 C hr hlocks hK10 ha) N a hf
set_option maxRecDepth 100000 in
def fX12_read (N : Nat) (g : Gs) (x0 : Nat) (d : Ds) : Option (Int32 × Ds) := gd (chk g x0 11) <| bd (sI d x0 4 (dI d x0 2)) fun d2 => (fX12_read_L10 N g x0 (0, d2))
set_option maxHeartbeats 4000000 in
set_option maxRecDepth 100000 in
theorem tX12_read_E {p : Program} {l : Launch} {e : Env} {s : State} {m : MethodId} {args : Array Value} {below : List Frame} {meth : Method} {c : Code} {D : va_G} {cy : Nat → ClassId} {B : Bs} (C : Cx p s m args c cX12_read 2 RX12 D cy B) (hr : meth.sig.returnType = (some .int)) (hlocks : meth.locks = false) {N : Nat} {g : Gs} {x0 : Nat} {vz : Int32} {dz : Ds} {d : Ds} (hf : fX12_read N g x0 d = some (vz, dz)) : WB p l e rmX12_read s m args below meth c 2 D cy B 0 0 (MQ below (QI D cy B vz g dz) args s 0 0 (wA B)) g d [(0, .ref (ad B x0))] 0 [] := by
  unfold fX12_read at hf
  refine b_aload_n C dX12_read_0 0 rfl rfl ?_
  refine b_aload_n C dX12_read_1 0 rfl rfl ?_
  obtain ⟨h1, hf⟩ := gd_s hf
  refine b_gI C dX12_read_2 fl_X12_90 h1 ?_
  obtain ⟨d2, ed2, hf⟩ := bd_s hf
  refine b_pI C dX12_read_5 fl_X12_97 fp11_4 h1 ed2 ?_
  refine b_iconst C (v := 0) dX12_read_8 (by decide) ?_
  refine b_istore_n C dX12_read_9 rfl [(1, .int 0), (0, .ref (ad B x0))] (by decide) rfl ?_
  refine b_sub [(0, .ref (ad B x0)), (1, .int 0)] [1, 0] rfl ?_
  exact tX12_read_L10 C hr hlocks (0, d2) hf
theorem kX12_read (l : Launch) (D : va_G) (cy : Nat → ClassId) (B : Bs) {N : Nat} {g : Gs} {x0 : Nat} {vz : Int32} {dz : Ds} {d : Ds} (hf : fX12_read N g x0 d = some (vz, dz)) : Met l yX12_read (.code yX12_read cX12_read 2 (some .int) :: wl) rmX12_read (PC D cy B [.ref (ad B x0)] g d) (QI D cy B vz g dz) 0 0 (wA B) :=
  met_of (by decide +kernel) (Nat.le_of_ble_eq_true rfl) (fun p e s m args below meth c C hr hlocks _ => b_sub [(0, .ref (ad B x0))] [0] rfl (tX12_read_E C hr hlocks hf))
/-! KeyMatrixModel.place()I -/
theorem dX12_place_0 : decode cX12_place 0 = .ok (.aload_n 0, 1) := by decide +kernel
theorem dX12_place_1 : decode cX12_place 1 = .ok (.getfield 37, 3) := by decide +kernel
theorem dX12_place_4 : decode cX12_place 4 = .ok (.ireturn, 1) := by decide +kernel
def rmX12_place : Room := { frames := 0, cells := 0, slots := 0, locals := 0 }
set_option maxRecDepth 100000 in
def fX12_place (N : Nat) (g : Gs) (x0 : Nat) (d : Ds) : Option (Int32 × Ds) := gd (chk g x0 11) <| some ((dI d x0 16), d)
set_option maxHeartbeats 4000000 in
set_option maxRecDepth 100000 in
theorem tX12_place_E {p : Program} {l : Launch} {e : Env} {s : State} {m : MethodId} {args : Array Value} {below : List Frame} {meth : Method} {c : Code} {D : va_G} {cy : Nat → ClassId} {B : Bs} (C : Cx p s m args c cX12_place 1 RX12 D cy B) (hr : meth.sig.returnType = (some .int)) (hlocks : meth.locks = false) {N : Nat} {g : Gs} {x0 : Nat} {vz : Int32} {dz : Ds} {d : Ds} (hf : fX12_place N g x0 d = some (vz, dz)) : WB p l e rmX12_place s m args below meth c 1 D cy B 0 0 (MQ below (QI D cy B vz g dz) args s 0 0 (wA B)) g d [(0, .ref (ad B x0))] 0 [] := by
  unfold fX12_place at hf
  refine b_aload_n C dX12_place_0 0 rfl rfl ?_
  obtain ⟨h1, hf⟩ := gd_s hf
  refine b_gI C dX12_place_1 fl_X12_37 h1 ?_
  exact b_iret C hr hlocks hf dX12_place_4
theorem kX12_place (l : Launch) (D : va_G) (cy : Nat → ClassId) (B : Bs) {N : Nat} {g : Gs} {x0 : Nat} {vz : Int32} {dz : Ds} {d : Ds} (hf : fX12_place N g x0 d = some (vz, dz)) : Met l yX12_place (.code yX12_place cX12_place 1 (some .int) :: wl) rmX12_place (PC D cy B [.ref (ad B x0)] g d) (QI D cy B vz g dz) 0 0 (wA B) :=
  met_of (by decide +kernel) (Nat.le_of_ble_eq_true rfl) (fun p e s m args below meth c C hr hlocks _ => b_sub [(0, .ref (ad B x0))] [0] rfl (tX12_place_E C hr hlocks hf))
/-! KeyMatrixModel.has(II)Z -/
theorem dX12_has_0 : decode cX12_has 0 = .ok (.iload_n 0, 1) := by decide +kernel
theorem dX12_has_1 : decode cX12_has 1 = .ok (.iload_n 1, 1) := by decide +kernel
theorem dX12_has_2 : decode cX12_has 2 = .ok (.ishr, 1) := by decide +kernel
theorem dX12_has_3 : decode cX12_has 3 = .ok (.iconst 1, 1) := by decide +kernel
theorem dX12_has_4 : decode cX12_has 4 = .ok (.iand, 1) := by decide +kernel
theorem dX12_has_5 : decode cX12_has 5 = .ok (.iconst 1, 1) := by decide +kernel
theorem dX12_has_6 : decode cX12_has 6 = .ok (.if_icmp .ne 7, 3) := by decide +kernel
theorem dX12_has_9 : decode cX12_has 9 = .ok (.iconst 1, 1) := by decide +kernel
theorem dX12_has_10 : decode cX12_has 10 = .ok (.goto 4, 3) := by decide +kernel
theorem dX12_has_13 : decode cX12_has 13 = .ok (.iconst 0, 1) := by decide +kernel
theorem dX12_has_14 : decode cX12_has 14 = .ok (.ireturn, 1) := by decide +kernel
def rmX12_has : Room := { frames := 0, cells := 0, slots := 0, locals := 0 }
set_option maxRecDepth 100000 in
def fX12_has_J14 (N : Nat) (g : Gs) (x0 : Int32) (x1 : Int32) (z0 : Int32) (d : Ds) : Option (Int32 × Ds) := gd (z0 = 0 ∨ z0 = 1) <| some (z0, d)
set_option maxHeartbeats 4000000 in
set_option maxRecDepth 100000 in
theorem tX12_has_14 {p : Program} {l : Launch} {e : Env} {s : State} {m : MethodId} {args : Array Value} {below : List Frame} {meth : Method} {c : Code} {D : va_G} {cy : Nat → ClassId} {B : Bs} (C : Cx p s m args c cX12_has 2 RX12 D cy B) (hr : meth.sig.returnType = (some .boolean)) (hlocks : meth.locks = false) {N : Nat} {g : Gs} {x0 : Int32} {x1 : Int32} {vz : Int32} {dz : Ds} {z0 : Int32} {d : Ds} (hf : fX12_has_J14 N g x0 x1 z0 d = some (vz, dz)) : WB p l e rmX12_has s m args below meth c 2 D cy B 0 0 (MQ below (QI D cy B vz g dz) args s 0 0 (wA B)) g d [(0, .int x0), (1, .int x1)] 14 [.int z0] := by
  unfold fX12_has_J14 at hf
  obtain ⟨h2, hf⟩ := gd_s hf
  exact b_zret C hr hlocks h2 hf dX12_has_14
set_option maxRecDepth 100000 in
def fX12_has (N : Nat) (g : Gs) (x0 : Int32) (x1 : Int32) (d : Ds) : Option (Int32 × Ds) := if ((x0 >>> (x1 &&& 31)) &&& 1) = (1 : Int32) then (fX12_has_J14 N g x0 x1 1 d) else (fX12_has_J14 N g x0 x1 0 d)
set_option maxHeartbeats 4000000 in
set_option maxRecDepth 100000 in
theorem tX12_has_E {p : Program} {l : Launch} {e : Env} {s : State} {m : MethodId} {args : Array Value} {below : List Frame} {meth : Method} {c : Code} {D : va_G} {cy : Nat → ClassId} {B : Bs} (C : Cx p s m args c cX12_has 2 RX12 D cy B) (hr : meth.sig.returnType = (some .boolean)) (hlocks : meth.locks = false) {N : Nat} {g : Gs} {x0 : Int32} {x1 : Int32} {vz : Int32} {dz : Ds} {d : Ds} (hf : fX12_has N g x0 x1 d = some (vz, dz)) : WB p l e rmX12_has s m args below meth c 2 D cy B 0 0 (MQ below (QI D cy B vz g dz) args s 0 0 (wA B)) g d [(0, .int x0), (1, .int x1)] 0 [] := by
  unfold fX12_has at hf
  refine b_iload_n C dX12_has_0 0 rfl rfl ?_
  refine b_iload_n C dX12_has_1 1 rfl rfl ?_
  refine b_ishr C dX12_has_2 ?_
  refine b_iconst C (v := 1) dX12_has_3 (by decide) ?_
  refine b_iand C dX12_has_4 ?_
  refine b_iconst C (v := 1) dX12_has_5 (by decide) ?_
  refine b_icmp_ne C (tgt := 13) dX12_has_6 (by decide) (fun c1 => ?_) (fun c1 => ?_)
  · have hf := if_s c1 hf
    refine b_iconst C (v := 0) dX12_has_13 (by decide) ?_
    refine b_sub [(0, .int x0), (1, .int x1)] [0, 1] rfl ?_
    exact tX12_has_14 C hr hlocks hf
  · have hf := it_s c1 hf
    refine b_iconst C (v := 1) dX12_has_9 (by decide) ?_
    refine b_goto C (tgt := 14) dX12_has_10 (by decide) ?_
    refine b_sub [(0, .int x0), (1, .int x1)] [0, 1] rfl ?_
    exact tX12_has_14 C hr hlocks hf
theorem kX12_has (l : Launch) (D : va_G) (cy : Nat → ClassId) (B : Bs) {N : Nat} {g : Gs} {x0 : Int32} {x1 : Int32} {vz : Int32} {dz : Ds} {d : Ds} (hf : fX12_has N g x0 x1 d = some (vz, dz)) : Met l yX12_has (.code yX12_has cX12_has 2 (some .boolean) :: wl) rmX12_has (PC D cy B [.int x0, .int x1] g d) (QI D cy B vz g dz) 0 0 (wA B) :=
  met_of (by decide +kernel) (Nat.le_of_ble_eq_true rfl) (fun p e s m args below meth c C hr hlocks _ => b_sub [(0, .int x0), (1, .int x1)] [0, 1] rfl (tX12_has_E C hr hlocks hf))
/-! KeyMatrixModel.bitsOf(I)I -/
theorem dX12_bitsOf_0 : decode cX12_bitsOf 0 = .ok (.iconst 0, 1) := by decide +kernel
theorem dX12_bitsOf_1 : decode cX12_bitsOf 1 = .ok (.istore_n 1, 1) := by decide +kernel
theorem dX12_bitsOf_2 : decode cX12_bitsOf 2 = .ok (.iload_n 0, 1) := by decide +kernel
theorem dX12_bitsOf_3 : decode cX12_bitsOf 3 = .ok (.istore_n 2, 1) := by decide +kernel
theorem dX12_bitsOf_4 : decode cX12_bitsOf 4 = .ok (.iload_n 2, 1) := by decide +kernel
theorem dX12_bitsOf_5 : decode cX12_bitsOf 5 = .ok (.ifCond .le 16, 3) := by decide +kernel
theorem dX12_bitsOf_8 : decode cX12_bitsOf 8 = .ok (.iload_n 1, 1) := by decide +kernel
theorem dX12_bitsOf_9 : decode cX12_bitsOf 9 = .ok (.iload_n 2, 1) := by decide +kernel
theorem dX12_bitsOf_10 : decode cX12_bitsOf 10 = .ok (.iconst 1, 1) := by decide +kernel
theorem dX12_bitsOf_11 : decode cX12_bitsOf 11 = .ok (.iand, 1) := by decide +kernel
theorem dX12_bitsOf_12 : decode cX12_bitsOf 12 = .ok (.iadd, 1) := by decide +kernel
theorem dX12_bitsOf_13 : decode cX12_bitsOf 13 = .ok (.istore_n 1, 1) := by decide +kernel
theorem dX12_bitsOf_14 : decode cX12_bitsOf 14 = .ok (.iload_n 2, 1) := by decide +kernel
theorem dX12_bitsOf_15 : decode cX12_bitsOf 15 = .ok (.iconst 1, 1) := by decide +kernel
theorem dX12_bitsOf_16 : decode cX12_bitsOf 16 = .ok (.ishr, 1) := by decide +kernel
theorem dX12_bitsOf_17 : decode cX12_bitsOf 17 = .ok (.istore_n 2, 1) := by decide +kernel
theorem dX12_bitsOf_18 : decode cX12_bitsOf 18 = .ok (.goto (-14), 3) := by decide +kernel
theorem dX12_bitsOf_21 : decode cX12_bitsOf 21 = .ok (.iload_n 1, 1) := by decide +kernel
theorem dX12_bitsOf_22 : decode cX12_bitsOf 22 = .ok (.ireturn, 1) := by decide +kernel
def rmX12_bitsOf : Room := { frames := 0, cells := 0, slots := 0, locals := 0 }
set_option maxRecDepth 100000 in
def fX12_bitsOf_B4 (N : Nat) (g : Gs) (x0 : Int32) (K4 : Int32 × Int32 × Ds → Option (Int32 × Ds)) (y1 : Int32) (y2 : Int32) (d : Ds) : Option (Int32 × Ds) := if y2 ≤ 0 then (some (y1, d)) else (bd ((y1 + (y2 &&& 1))) fun u2 => (bd ((y2 >>> (1 &&& 31))) fun u3 => (K4 (u2, u3, d))))
set_option maxHeartbeats 4000000 in
set_option maxRecDepth 100000 in
theorem tX12_bitsOf_4 {p : Program} {l : Launch} {e : Env} {s : State} {m : MethodId} {args : Array Value} {below : List Frame} {meth : Method} {c : Code} {D : va_G} {cy : Nat → ClassId} {B : Bs} (C : Cx p s m args c cX12_bitsOf 3 RX12 D cy B) (hr : meth.sig.returnType = (some .int)) (hlocks : meth.locks = false) {N : Nat} {g : Gs} {x0 : Int32} {vz : Int32} {dz : Ds} {K4 : Int32 × Int32 × Ds → Option (Int32 × Ds)} (hK4 : ∀ a, K4 a = some (vz, dz) → WB p l e rmX12_bitsOf s m args below meth c 3 D cy B 0 0 (MQ below (QI D cy B vz g dz) args s 0 0 (wA B)) g a.2.2 [(0, .int x0), (1, .int a.1), (2, .int a.2.1)] 4 []) {y1 : Int32} {y2 : Int32} {d : Ds} (hf : fX12_bitsOf_B4 N g x0 K4 y1 y2 d = some (vz, dz)) : WB p l e rmX12_bitsOf s m args below meth c 3 D cy B 0 0 (MQ below (QI D cy B vz g dz) args s 0 0 (wA B)) g d [(0, .int x0), (1, .int y1), (2, .int y2)] 4 [] := by
  unfold fX12_bitsOf_B4 at hf
  refine b_iload_n C dX12_bitsOf_4 2 rfl rfl ?_
  refine b_if_le C (tgt := 21) dX12_bitsOf_5 (by decide) (fun c1 => ?_) (fun c1 => ?_)
  · have hf := it_s c1 hf
    refine b_iload_n C dX12_bitsOf_21 1 rfl rfl ?_
    exact b_iret C hr hlocks hf dX12_bitsOf_22
  · have hf := if_s c1 hf
    refine b_iload_n C dX12_bitsOf_8 1 rfl rfl ?_
    refine b_iload_n C dX12_bitsOf_9 2 rfl rfl ?_
    refine b_iconst C (v := 1) dX12_bitsOf_10 (by decide) ?_
    refine b_iand C dX12_bitsOf_11 ?_
    refine b_iadd C dX12_bitsOf_12 ?_
    obtain ⟨u2, eu2, hf⟩ := bd_s hf
    refine b_topI eu2 ?_
    refine b_istore_n C dX12_bitsOf_13 rfl [(1, .int u2), (0, .int x0), (2, .int y2)] (by decide) rfl ?_
    refine b_iload_n C dX12_bitsOf_14 2 rfl rfl ?_
    refine b_iconst C (v := 1) dX12_bitsOf_15 (by decide) ?_
    refine b_ishr C dX12_bitsOf_16 ?_
    obtain ⟨u3, eu3, hf⟩ := bd_s hf
    refine b_topI eu3 ?_
    refine b_istore_n C dX12_bitsOf_17 rfl [(2, .int u3), (1, .int u2), (0, .int x0)] (by decide) rfl ?_
    refine b_goto C (tgt := 4) dX12_bitsOf_18 (by decide) ?_
    refine b_sub [(0, .int x0), (1, .int u2), (2, .int u3)] [2, 1, 0] rfl ?_
    exact hK4 (u2, u3, d) hf
def fX12_bitsOf_L4 (N : Nat) (g : Gs) (x0 : Int32) : Int32 × Int32 × Ds → Option (Int32 × Ds) := lp (fun K4 a => fX12_bitsOf_B4 N g x0 K4 a.1 a.2.1 a.2.2) N
theorem tX12_bitsOf_L4 {p : Program} {l : Launch} {e : Env} {s : State} {m : MethodId} {args : Array Value} {below : List Frame} {meth : Method} {c : Code} {D : va_G} {cy : Nat → ClassId} {B : Bs} (C : Cx p s m args c cX12_bitsOf 3 RX12 D cy B) (hr : meth.sig.returnType = (some .int)) (hlocks : meth.locks = false) {N : Nat} {g : Gs} {x0 : Int32} {vz : Int32} {dz : Ds} (a : Int32 × Int32 × Ds) (hf : fX12_bitsOf_L4 N g x0 a = some (vz, dz)) : WB p l e rmX12_bitsOf s m args below meth c 3 D cy B 0 0 (MQ below (QI D cy B vz g dz) args s 0 0 (wA B)) g a.2.2 [(0, .int x0), (1, .int a.1), (2, .int a.2.1)] 4 [] :=
  lp_w (fun K4 hK4 a ha => tX12_bitsOf_4 C hr hlocks hK4 ha) N a hf
set_option maxRecDepth 100000 in
def fX12_bitsOf (N : Nat) (g : Gs) (x0 : Int32) (d : Ds) : Option (Int32 × Ds) := fX12_bitsOf_L4 N g x0 (0, x0, d)
set_option maxHeartbeats 4000000 in
set_option maxRecDepth 100000 in
theorem tX12_bitsOf_E {p : Program} {l : Launch} {e : Env} {s : State} {m : MethodId} {args : Array Value} {below : List Frame} {meth : Method} {c : Code} {D : va_G} {cy : Nat → ClassId} {B : Bs} (C : Cx p s m args c cX12_bitsOf 3 RX12 D cy B) (hr : meth.sig.returnType = (some .int)) (hlocks : meth.locks = false) {N : Nat} {g : Gs} {x0 : Int32} {vz : Int32} {dz : Ds} {d : Ds} (hf : fX12_bitsOf N g x0 d = some (vz, dz)) : WB p l e rmX12_bitsOf s m args below meth c 3 D cy B 0 0 (MQ below (QI D cy B vz g dz) args s 0 0 (wA B)) g d [(0, .int x0)] 0 [] := by
  unfold fX12_bitsOf at hf
  refine b_iconst C (v := 0) dX12_bitsOf_0 (by decide) ?_
  refine b_istore_n C dX12_bitsOf_1 rfl [(1, .int 0), (0, .int x0)] (by decide) rfl ?_
  refine b_iload_n C dX12_bitsOf_2 1 rfl rfl ?_
  refine b_istore_n C dX12_bitsOf_3 rfl [(2, .int x0), (1, .int 0), (0, .int x0)] (by decide) rfl ?_
  refine b_sub [(0, .int x0), (1, .int 0), (2, .int x0)] [2, 1, 0] rfl ?_
  exact tX12_bitsOf_L4 C hr hlocks (0, x0, d) hf
theorem kX12_bitsOf (l : Launch) (D : va_G) (cy : Nat → ClassId) (B : Bs) {N : Nat} {g : Gs} {x0 : Int32} {vz : Int32} {dz : Ds} {d : Ds} (hf : fX12_bitsOf N g x0 d = some (vz, dz)) : Met l yX12_bitsOf (.code yX12_bitsOf cX12_bitsOf 3 (some .int) :: wl) rmX12_bitsOf (PC D cy B [.int x0] g d) (QI D cy B vz g dz) 0 0 (wA B) :=
  met_of (by decide +kernel) (Nat.le_of_ble_eq_true rfl) (fun p e s m args below meth c C hr hlocks _ => b_sub [(0, .int x0)] [0] rfl (tX12_bitsOf_E C hr hlocks hf))
/-! KeyMatrixModel.keysMany()I -/
theorem dX12_keysMany_0 : decode cX12_keysMany 0 = .ok (.aload_n 0, 1) := by decide +kernel
theorem dX12_keysMany_1 : decode cX12_keysMany 1 = .ok (.getfield 40, 3) := by decide +kernel
theorem dX12_keysMany_4 : decode cX12_keysMany 4 = .ok (.iconst 0, 1) := by decide +kernel
theorem dX12_keysMany_5 : decode cX12_keysMany 5 = .ok (.iaload, 1) := by decide +kernel
theorem dX12_keysMany_6 : decode cX12_keysMany 6 = .ok (.aload_n 0, 1) := by decide +kernel
theorem dX12_keysMany_7 : decode cX12_keysMany 7 = .ok (.getfield 40, 3) := by decide +kernel
theorem dX12_keysMany_10 : decode cX12_keysMany 10 = .ok (.iconst 1, 1) := by decide +kernel
theorem dX12_keysMany_11 : decode cX12_keysMany 11 = .ok (.iaload, 1) := by decide +kernel
theorem dX12_keysMany_12 : decode cX12_keysMany 12 = .ok (.imul, 1) := by decide +kernel
theorem dX12_keysMany_13 : decode cX12_keysMany 13 = .ok (.ireturn, 1) := by decide +kernel
def rmX12_keysMany : Room := { frames := 0, cells := 0, slots := 0, locals := 0 }
set_option maxRecDepth 100000 in
def fX12_keysMany (N : Nat) (g : Gs) (x0 : Nat) (d : Ds) : Option (Int32 × Ds) := gd (chk g x0 11) <| ob (gR g x0 17) fun r2 => (gd (chk g r2 102) <| gd (¬ ((0 : Int32) < 0 ∨ gL g r2 ≤ (0 : Int32).toNatClampNeg)) <| gd (¬ ((1 : Int32) < 0 ∨ gL g r2 ≤ (1 : Int32).toNatClampNeg)) <| some (((dI d r2 (0 : Int32).toNatClampNeg) * (dI d r2 (1 : Int32).toNatClampNeg)), d))
set_option maxHeartbeats 4000000 in
set_option maxRecDepth 100000 in
theorem tX12_keysMany_E {p : Program} {l : Launch} {e : Env} {s : State} {m : MethodId} {args : Array Value} {below : List Frame} {meth : Method} {c : Code} {D : va_G} {cy : Nat → ClassId} {B : Bs} (C : Cx p s m args c cX12_keysMany 1 RX12 D cy B) (hr : meth.sig.returnType = (some .int)) (hlocks : meth.locks = false) {N : Nat} {g : Gs} {x0 : Nat} {vz : Int32} {dz : Ds} {d : Ds} (hf : fX12_keysMany N g x0 d = some (vz, dz)) : WB p l e rmX12_keysMany s m args below meth c 1 D cy B 0 0 (MQ below (QI D cy B vz g dz) args s 0 0 (wA B)) g d [(0, .ref (ad B x0))] 0 [] := by
  unfold fX12_keysMany at hf
  refine b_aload_n C dX12_keysMany_0 0 rfl rfl ?_
  obtain ⟨h1, hf⟩ := gd_s hf
  obtain ⟨r2, er2, hf⟩ := ob_s hf
  refine b_gR C dX12_keysMany_1 fl_X12_40 h1 er2 ?_
  refine b_iconst C (v := 0) dX12_keysMany_4 (by decide) ?_
  obtain ⟨h3, hf⟩ := gd_s hf
  obtain ⟨h4, hf⟩ := gd_s hf
  refine b_iald C h3 h4 dX12_keysMany_5 ?_
  refine b_aload_n C dX12_keysMany_6 0 rfl rfl ?_
  refine b_gR C dX12_keysMany_7 fl_X12_40 h1 er2 ?_
  refine b_iconst C (v := 1) dX12_keysMany_10 (by decide) ?_
  obtain ⟨h5, hf⟩ := gd_s hf
  refine b_iald C h3 h5 dX12_keysMany_11 ?_
  refine b_imul C dX12_keysMany_12 ?_
  exact b_iret C hr hlocks hf dX12_keysMany_13
theorem kX12_keysMany (l : Launch) (D : va_G) (cy : Nat → ClassId) (B : Bs) {N : Nat} {g : Gs} {x0 : Nat} {vz : Int32} {dz : Ds} {d : Ds} (hf : fX12_keysMany N g x0 d = some (vz, dz)) : Met l yX12_keysMany (.code yX12_keysMany cX12_keysMany 1 (some .int) :: wl) rmX12_keysMany (PC D cy B [.ref (ad B x0)] g d) (QI D cy B vz g dz) 0 0 (wA B) :=
  met_of (by decide +kernel) (Nat.le_of_ble_eq_true rfl) (fun p e s m args below meth c C hr hlocks _ => b_sub [(0, .ref (ad B x0))] [0] rfl (tX12_keysMany_E C hr hlocks hf))
/-! KeyMatrixModel.isKey(I)Z -/
theorem yo_X12_keysMany : yX12_keysMany.cls ≠ "java/lang/invoke/MethodHandle" ∧ yX12_keysMany.cls ≠ "java/lang/invoke/VarHandle" ∧ (parseMethodDescriptor yX12_keysMany.desc).map (fun d => d.parameters.length) = some 0 := by decide +kernel
theorem co_X12_keysMany : Cond.code yX12_keysMany cX12_keysMany 1 (some .int) ∈ wl := mW (mT6 (List.mem_of_getElem? (i := 73) (by decide +kernel))) rfl
theorem in_X12_keysMany : Cond.initialized yX12_keysMany.cls ∈ wl := mW (mT1 (List.mem_of_getElem? (i := 12) (by decide +kernel))) rfl
theorem im_X12_keysMany : Cond.instanceMethod yX12_keysMany ∈ wl := mW (mT6 (List.mem_of_getElem? (i := 72) (by decide +kernel))) rfl
theorem se_X12_keysMany : Cond.selects yX12_keysMany.cls yX12_keysMany yX12_keysMany ∈ wl := mW (mT0 (List.mem_of_getElem? (i := 54) (by decide +kernel))) rfl
theorem lv_X12_206 : LV RX12 206 yX12_keysMany cX12_keysMany 1 (some .int) 0 11 := ⟨⟨(RX12, TX12, 33), rfl, rfl⟩, yo_X12_keysMany, mW (mT6 (List.mem_of_getElem? (i := 70) (by decide +kernel))) rfl, im_X12_keysMany, se_X12_keysMany, in_X12_keysMany, co_X12_keysMany⟩
theorem dX12_isKey_0 : decode cX12_isKey 0 = .ok (.iload_n 1, 1) := by decide +kernel
theorem dX12_isKey_1 : decode cX12_isKey 1 = .ok (.iconst 0, 1) := by decide +kernel
theorem dX12_isKey_2 : decode cX12_isKey 2 = .ok (.aload_n 0, 1) := by decide +kernel
theorem dX12_isKey_3 : decode cX12_isKey 3 = .ok (.invokevirtual 206, 3) := by decide +kernel
theorem dX12_isKey_6 : decode cX12_isKey 6 = .ok (.iconst 1, 1) := by decide +kernel
theorem dX12_isKey_7 : decode cX12_isKey 7 = .ok (.isub, 1) := by decide +kernel
theorem dX12_isKey_8 : decode cX12_isKey 8 = .ok (.invokestatic 169, 3) := by decide +kernel
theorem dX12_isKey_11 : decode cX12_isKey 11 = .ok (.ireturn, 1) := by decide +kernel
def rmX12_isKey : Room := { frames := 1, cells := 0, slots := 0, locals := 22 }
set_option maxRecDepth 100000 in
def fX12_isKey (N : Nat) (g : Gs) (x0 : Nat) (x1 : Int32) (d : Ds) : Option (Int32 × Ds) := gd (chk g x0 11) <| cb (fX12_keysMany N g x0 d) fun u4 d2 => (cb (fX12_in N g x1 0 (u4 - 1) d2) fun u7 d5 => (gd (u7 = 0 ∨ u7 = 1) <| some (u7, d5)))
set_option maxHeartbeats 4000000 in
set_option maxRecDepth 100000 in
theorem tX12_isKey_E {p : Program} {l : Launch} {e : Env} {s : State} {m : MethodId} {args : Array Value} {below : List Frame} {meth : Method} {c : Code} {D : va_G} {cy : Nat → ClassId} {B : Bs} (C : Cx p s m args c cX12_isKey 2 RX12 D cy B) (hr : meth.sig.returnType = (some .boolean)) (hlocks : meth.locks = false) {N : Nat} {g : Gs} {x0 : Nat} {x1 : Int32} {vz : Int32} {dz : Ds} {d : Ds} (hf : fX12_isKey N g x0 x1 d = some (vz, dz)) : WB p l e rmX12_isKey s m args below meth c 2 D cy B 0 0 (MQ below (QI D cy B vz g dz) args s 0 0 (wA B)) g d [(0, .ref (ad B x0)), (1, .int x1)] 0 [] := by
  unfold fX12_isKey at hf
  refine b_iload_n C dX12_isKey_0 1 rfl rfl ?_
  refine b_iconst C (v := 0) dX12_isKey_1 (by decide) ?_
  refine b_aload_n C dX12_isKey_2 0 rfl rfl ?_
  obtain ⟨h1, hf⟩ := gd_s hf
  obtain ⟨u4, d2, k3, hf⟩ := cb_s hf
  refine b_cVI C [.int 0, .int x1] dX12_isKey_3 (kX12_keysMany l D cy B k3) lv_X12_206 ⟨rfl, rfl, Nat.le_of_ble_eq_true rfl, Nat.le_of_ble_eq_true rfl⟩ h1 (by decide) rfl (Nat.le_of_ble_eq_true rfl) ⟨Nat.zero_le _, Nat.zero_le _⟩ rfl ?_
  refine b_iconst C (v := 1) dX12_isKey_6 (by decide) ?_
  refine b_isub C dX12_isKey_7 ?_
  obtain ⟨u7, d5, k6, hf⟩ := cb_s hf
  refine b_cSI C [] dX12_isKey_8 (kX12_in l D cy B k6) lv_X12_169 ⟨rfl, rfl, Nat.le_of_ble_eq_true rfl, Nat.le_of_ble_eq_true rfl⟩ rfl (Nat.le_of_ble_eq_true rfl) ⟨Nat.zero_le _, Nat.zero_le _⟩ rfl ?_
  obtain ⟨h8, hf⟩ := gd_s hf
  exact b_zret C hr hlocks h8 hf dX12_isKey_11
theorem kX12_isKey (l : Launch) (D : va_G) (cy : Nat → ClassId) (B : Bs) {N : Nat} {g : Gs} {x0 : Nat} {x1 : Int32} {vz : Int32} {dz : Ds} {d : Ds} (hf : fX12_isKey N g x0 x1 d = some (vz, dz)) : Met l yX12_isKey (.code yX12_isKey cX12_isKey 2 (some .boolean) :: wl) rmX12_isKey (PC D cy B [.ref (ad B x0), .int x1] g d) (QI D cy B vz g dz) 0 0 (wA B) :=
  met_of (by decide +kernel) (Nat.le_of_ble_eq_true rfl) (fun p e s m args below meth c C hr hlocks _ => b_sub [(0, .ref (ad B x0)), (1, .int x1)] [0, 1] rfl (tX12_isKey_E C hr hlocks hf))
/-! KeyMatrixModel.laysParts(I)I -/
theorem yo_X12_has : yX12_has.cls ≠ "java/lang/invoke/MethodHandle" ∧ yX12_has.cls ≠ "java/lang/invoke/VarHandle" ∧ (parseMethodDescriptor yX12_has.desc).map (fun d => d.parameters.length) = some 2 := by decide +kernel
theorem co_X12_has : Cond.code yX12_has cX12_has 2 (some .boolean) ∈ wl := mW (mT6 (List.mem_of_getElem? (i := 76) (by decide +kernel))) rfl
theorem in_X12_has : Cond.initialized yX12_has.cls ∈ wl := mW (mT1 (List.mem_of_getElem? (i := 12) (by decide +kernel))) rfl
theorem st_X12_has : Cond.static yX12_has ∈ wl := mW (mT6 (List.mem_of_getElem? (i := 75) (by decide +kernel))) rfl
theorem lv_X12_210 : LSt RX12 210 yX12_has cX12_has 2 (some .boolean) 2 := ⟨yo_X12_has, Or.inl (mW (mT6 (List.mem_of_getElem? (i := 74) (by decide +kernel))) rfl), st_X12_has, in_X12_has, co_X12_has⟩
theorem fl_X12_53 : FLR RX12 53 11 24 := ⟨⟨RX12, TX12, 33, rfl, by decide, inl11, Or.inl (mW (mT5 (List.mem_of_getElem? (i := 115) (by decide +kernel))) rfl)⟩, by decide, by decide +kernel⟩
theorem dX12_laysParts_0 : decode cX12_laysParts 0 = .ok (.aload_n 0, 1) := by decide +kernel
theorem dX12_laysParts_1 : decode cX12_laysParts 1 = .ok (.getfield 40, 3) := by decide +kernel
theorem dX12_laysParts_4 : decode cX12_laysParts 4 = .ok (.iconst 0, 1) := by decide +kernel
theorem dX12_laysParts_5 : decode cX12_laysParts 5 = .ok (.iaload, 1) := by decide +kernel
theorem dX12_laysParts_6 : decode cX12_laysParts 6 = .ok (.aload_n 0, 1) := by decide +kernel
theorem dX12_laysParts_7 : decode cX12_laysParts 7 = .ok (.getfield 40, 3) := by decide +kernel
theorem dX12_laysParts_10 : decode cX12_laysParts 10 = .ok (.iconst 1, 1) := by decide +kernel
theorem dX12_laysParts_11 : decode cX12_laysParts 11 = .ok (.iaload, 1) := by decide +kernel
theorem dX12_laysParts_12 : decode cX12_laysParts 12 = .ok (.iadd, 1) := by decide +kernel
theorem dX12_laysParts_13 : decode cX12_laysParts 13 = .ok (.istore_n 2, 1) := by decide +kernel
theorem dX12_laysParts_14 : decode cX12_laysParts 14 = .ok (.iconst 0, 1) := by decide +kernel
theorem dX12_laysParts_15 : decode cX12_laysParts 15 = .ok (.istore_n 3, 1) := by decide +kernel
theorem dX12_laysParts_16 : decode cX12_laysParts 16 = .ok (.iload_n 3, 1) := by decide +kernel
theorem dX12_laysParts_17 : decode cX12_laysParts 17 = .ok (.iload_n 2, 1) := by decide +kernel
theorem dX12_laysParts_18 : decode cX12_laysParts 18 = .ok (.if_icmp .ge 16, 3) := by decide +kernel
theorem dX12_laysParts_21 : decode cX12_laysParts 21 = .ok (.aload_n 0, 1) := by decide +kernel
theorem dX12_laysParts_22 : decode cX12_laysParts 22 = .ok (.getfield 53, 3) := by decide +kernel
theorem dX12_laysParts_25 : decode cX12_laysParts 25 = .ok (.iload_n 3, 1) := by decide +kernel
theorem dX12_laysParts_26 : decode cX12_laysParts 26 = .ok (.iload_n 3, 1) := by decide +kernel
theorem dX12_laysParts_27 : decode cX12_laysParts 27 = .ok (.iastore, 1) := by decide +kernel
theorem dX12_laysParts_28 : decode cX12_laysParts 28 = .ok (.iinc 3 1, 3) := by decide +kernel
theorem dX12_laysParts_31 : decode cX12_laysParts 31 = .ok (.goto (-15), 3) := by decide +kernel
theorem dX12_laysParts_34 : decode cX12_laysParts 34 = .ok (.iload_n 2, 1) := by decide +kernel
theorem dX12_laysParts_35 : decode cX12_laysParts 35 = .ok (.istore_n 3, 1) := by decide +kernel
theorem dX12_laysParts_36 : decode cX12_laysParts 36 = .ok (.iconst 0, 1) := by decide +kernel
theorem dX12_laysParts_37 : decode cX12_laysParts 37 = .ok (.istore 4, 2) := by decide +kernel
theorem dX12_laysParts_39 : decode cX12_laysParts 39 = .ok (.iload 4, 2) := by decide +kernel
theorem dX12_laysParts_41 : decode cX12_laysParts 41 = .ok (.aload_n 0, 1) := by decide +kernel
theorem dX12_laysParts_42 : decode cX12_laysParts 42 = .ok (.invokevirtual 206, 3) := by decide +kernel
theorem dX12_laysParts_45 : decode cX12_laysParts 45 = .ok (.if_icmp .ge 109, 3) := by decide +kernel
theorem dX12_laysParts_48 : decode cX12_laysParts 48 = .ok (.iload_n 1, 1) := by decide +kernel
theorem dX12_laysParts_49 : decode cX12_laysParts 49 = .ok (.iload 4, 2) := by decide +kernel
theorem dX12_laysParts_51 : decode cX12_laysParts 51 = .ok (.invokestatic 210, 3) := by decide +kernel
theorem dX12_laysParts_54 : decode cX12_laysParts 54 = .ok (.ifCond .ne 6, 3) := by decide +kernel
theorem dX12_laysParts_57 : decode cX12_laysParts 57 = .ok (.goto 91, 3) := by decide +kernel
theorem dX12_laysParts_60 : decode cX12_laysParts 60 = .ok (.aload_n 0, 1) := by decide +kernel
theorem dX12_laysParts_61 : decode cX12_laysParts 61 = .ok (.getfield 53, 3) := by decide +kernel
theorem dX12_laysParts_64 : decode cX12_laysParts 64 = .ok (.iload 4, 2) := by decide +kernel
theorem dX12_laysParts_66 : decode cX12_laysParts 66 = .ok (.aload_n 0, 1) := by decide +kernel
theorem dX12_laysParts_67 : decode cX12_laysParts 67 = .ok (.getfield 40, 3) := by decide +kernel
theorem dX12_laysParts_70 : decode cX12_laysParts 70 = .ok (.iconst 1, 1) := by decide +kernel
theorem dX12_laysParts_71 : decode cX12_laysParts 71 = .ok (.iaload, 1) := by decide +kernel
theorem dX12_laysParts_72 : decode cX12_laysParts 72 = .ok (.idiv, 1) := by decide +kernel
theorem dX12_laysParts_73 : decode cX12_laysParts 73 = .ok (.iaload, 1) := by decide +kernel
theorem dX12_laysParts_74 : decode cX12_laysParts 74 = .ok (.istore 5, 2) := by decide +kernel
theorem dX12_laysParts_76 : decode cX12_laysParts 76 = .ok (.aload_n 0, 1) := by decide +kernel
theorem dX12_laysParts_77 : decode cX12_laysParts 77 = .ok (.getfield 53, 3) := by decide +kernel
theorem dX12_laysParts_80 : decode cX12_laysParts 80 = .ok (.aload_n 0, 1) := by decide +kernel
theorem dX12_laysParts_81 : decode cX12_laysParts 81 = .ok (.getfield 40, 3) := by decide +kernel
theorem dX12_laysParts_84 : decode cX12_laysParts 84 = .ok (.iconst 0, 1) := by decide +kernel
theorem dX12_laysParts_85 : decode cX12_laysParts 85 = .ok (.iaload, 1) := by decide +kernel
theorem dX12_laysParts_86 : decode cX12_laysParts 86 = .ok (.iload 4, 2) := by decide +kernel
theorem dX12_laysParts_88 : decode cX12_laysParts 88 = .ok (.aload_n 0, 1) := by decide +kernel
theorem dX12_laysParts_89 : decode cX12_laysParts 89 = .ok (.getfield 40, 3) := by decide +kernel
theorem dX12_laysParts_92 : decode cX12_laysParts 92 = .ok (.iconst 1, 1) := by decide +kernel
theorem dX12_laysParts_93 : decode cX12_laysParts 93 = .ok (.iaload, 1) := by decide +kernel
theorem dX12_laysParts_94 : decode cX12_laysParts 94 = .ok (.irem, 1) := by decide +kernel
theorem dX12_laysParts_95 : decode cX12_laysParts 95 = .ok (.iadd, 1) := by decide +kernel
theorem dX12_laysParts_96 : decode cX12_laysParts 96 = .ok (.iaload, 1) := by decide +kernel
theorem dX12_laysParts_97 : decode cX12_laysParts 97 = .ok (.istore 6, 2) := by decide +kernel
theorem dX12_laysParts_99 : decode cX12_laysParts 99 = .ok (.iload 5, 2) := by decide +kernel
theorem dX12_laysParts_101 : decode cX12_laysParts 101 = .ok (.iload 6, 2) := by decide +kernel
theorem dX12_laysParts_103 : decode cX12_laysParts 103 = .ok (.if_icmp .ne 6, 3) := by decide +kernel
theorem dX12_laysParts_106 : decode cX12_laysParts 106 = .ok (.goto 42, 3) := by decide +kernel
theorem dX12_laysParts_109 : decode cX12_laysParts 109 = .ok (.iinc 3 (-1), 3) := by decide +kernel
theorem dX12_laysParts_112 : decode cX12_laysParts 112 = .ok (.iconst 0, 1) := by decide +kernel
theorem dX12_laysParts_113 : decode cX12_laysParts 113 = .ok (.istore 7, 2) := by decide +kernel
theorem dX12_laysParts_115 : decode cX12_laysParts 115 = .ok (.iload 7, 2) := by decide +kernel
theorem dX12_laysParts_117 : decode cX12_laysParts 117 = .ok (.iload_n 2, 1) := by decide +kernel
theorem dX12_laysParts_118 : decode cX12_laysParts 118 = .ok (.if_icmp .ge 30, 3) := by decide +kernel
theorem dX12_laysParts_121 : decode cX12_laysParts 121 = .ok (.aload_n 0, 1) := by decide +kernel
theorem dX12_laysParts_122 : decode cX12_laysParts 122 = .ok (.getfield 53, 3) := by decide +kernel
theorem dX12_laysParts_125 : decode cX12_laysParts 125 = .ok (.iload 7, 2) := by decide +kernel
theorem dX12_laysParts_127 : decode cX12_laysParts 127 = .ok (.iaload, 1) := by decide +kernel
theorem dX12_laysParts_128 : decode cX12_laysParts 128 = .ok (.iload 5, 2) := by decide +kernel
theorem dX12_laysParts_130 : decode cX12_laysParts 130 = .ok (.if_icmp .ne 12, 3) := by decide +kernel
theorem dX12_laysParts_133 : decode cX12_laysParts 133 = .ok (.aload_n 0, 1) := by decide +kernel
theorem dX12_laysParts_134 : decode cX12_laysParts 134 = .ok (.getfield 53, 3) := by decide +kernel
theorem dX12_laysParts_137 : decode cX12_laysParts 137 = .ok (.iload 7, 2) := by decide +kernel
theorem dX12_laysParts_139 : decode cX12_laysParts 139 = .ok (.iload 6, 2) := by decide +kernel
theorem dX12_laysParts_141 : decode cX12_laysParts 141 = .ok (.iastore, 1) := by decide +kernel
theorem dX12_laysParts_142 : decode cX12_laysParts 142 = .ok (.iinc 7 1, 3) := by decide +kernel
theorem dX12_laysParts_145 : decode cX12_laysParts 145 = .ok (.goto (-30), 3) := by decide +kernel
theorem dX12_laysParts_148 : decode cX12_laysParts 148 = .ok (.iinc 4 1, 3) := by decide +kernel
theorem dX12_laysParts_151 : decode cX12_laysParts 151 = .ok (.goto (-112), 3) := by decide +kernel
theorem dX12_laysParts_154 : decode cX12_laysParts 154 = .ok (.iload_n 3, 1) := by decide +kernel
theorem dX12_laysParts_155 : decode cX12_laysParts 155 = .ok (.ireturn, 1) := by decide +kernel
def rmX12_laysParts : Room := { frames := 1, cells := 0, slots := 0, locals := 21 }
set_option maxRecDepth 100000 in
def fX12_laysParts_J148 (N : Nat) (g : Gs) (x0 : Nat) (x1 : Int32) (K39 : Int32 × Int32 × Int32 × Ds → Option (Int32 × Ds)) (y2 : Int32) (y3 : Int32) (y4 : Int32) (d : Ds) : Option (Int32 × Ds) := bd (y4 + 1) fun u32 => (K39 (y2, y3, u32, d))
set_option maxHeartbeats 4000000 in
set_option maxRecDepth 100000 in
theorem tX12_laysParts_148 {p : Program} {l : Launch} {e : Env} {s : State} {m : MethodId} {args : Array Value} {below : List Frame} {meth : Method} {c : Code} {D : va_G} {cy : Nat → ClassId} {B : Bs} (C : Cx p s m args c cX12_laysParts 8 RX12 D cy B) (hr : meth.sig.returnType = (some .int)) (hlocks : meth.locks = false) {N : Nat} {g : Gs} {x0 : Nat} {x1 : Int32} {vz : Int32} {dz : Ds} {K39 : Int32 × Int32 × Int32 × Ds → Option (Int32 × Ds)} (hK39 : ∀ a, K39 a = some (vz, dz) → WB p l e rmX12_laysParts s m args below meth c 8 D cy B 0 0 (MQ below (QI D cy B vz g dz) args s 0 0 (wA B)) g a.2.2.2 [(0, .ref (ad B x0)), (1, .int x1), (2, .int a.1), (3, .int a.2.1), (4, .int a.2.2.1)] 39 []) {y2 : Int32} {y3 : Int32} {y4 : Int32} {d : Ds} (hf : fX12_laysParts_J148 N g x0 x1 K39 y2 y3 y4 d = some (vz, dz)) : WB p l e rmX12_laysParts s m args below meth c 8 D cy B 0 0 (MQ below (QI D cy B vz g dz) args s 0 0 (wA B)) g d [(0, .ref (ad B x0)), (1, .int x1), (2, .int y2), (3, .int y3), (4, .int y4)] 148 [] := by
  unfold fX12_laysParts_J148 at hf
  obtain ⟨u32, eu32, hf⟩ := bd_s hf
  refine b_iinc C dX12_laysParts_148 4 rfl (by rw [eu32]; rfl) [(4, .int u32), (0, .ref (ad B x0)), (1, .int x1), (2, .int y2), (3, .int y3)] (by decide) rfl ?_
  refine b_goto C (tgt := 39) dX12_laysParts_151 (by decide) ?_
  refine b_sub [(0, .ref (ad B x0)), (1, .int x1), (2, .int y2), (3, .int y3), (4, .int u32)] [1, 2, 3, 4, 0] rfl ?_
  exact hK39 (y2, y3, u32, d) hf
set_option maxRecDepth 100000 in
def fX12_laysParts_J142 (N : Nat) (g : Gs) (x0 : Nat) (x1 : Int32) (K39 : Int32 × Int32 × Int32 × Ds → Option (Int32 × Ds)) (K115 : Int32 × Int32 × Int32 × Int32 × Int32 × Int32 × Ds → Option (Int32 × Ds)) (y2 : Int32) (y3 : Int32) (y4 : Int32) (y5 : Int32) (y6 : Int32) (y7 : Int32) (d : Ds) : Option (Int32 × Ds) := bd (y7 + 1) fun u38 => (K115 (y2, y3, y4, y5, y6, u38, d))
set_option maxHeartbeats 4000000 in
set_option maxRecDepth 100000 in
theorem tX12_laysParts_142 {p : Program} {l : Launch} {e : Env} {s : State} {m : MethodId} {args : Array Value} {below : List Frame} {meth : Method} {c : Code} {D : va_G} {cy : Nat → ClassId} {B : Bs} (C : Cx p s m args c cX12_laysParts 8 RX12 D cy B) (hr : meth.sig.returnType = (some .int)) (hlocks : meth.locks = false) {N : Nat} {g : Gs} {x0 : Nat} {x1 : Int32} {vz : Int32} {dz : Ds} {K39 : Int32 × Int32 × Int32 × Ds → Option (Int32 × Ds)} {K115 : Int32 × Int32 × Int32 × Int32 × Int32 × Int32 × Ds → Option (Int32 × Ds)} (hK39 : ∀ a, K39 a = some (vz, dz) → WB p l e rmX12_laysParts s m args below meth c 8 D cy B 0 0 (MQ below (QI D cy B vz g dz) args s 0 0 (wA B)) g a.2.2.2 [(0, .ref (ad B x0)), (1, .int x1), (2, .int a.1), (3, .int a.2.1), (4, .int a.2.2.1)] 39 []) (hK115 : ∀ a, K115 a = some (vz, dz) → WB p l e rmX12_laysParts s m args below meth c 8 D cy B 0 0 (MQ below (QI D cy B vz g dz) args s 0 0 (wA B)) g a.2.2.2.2.2.2 [(0, .ref (ad B x0)), (1, .int x1), (2, .int a.1), (3, .int a.2.1), (4, .int a.2.2.1), (5, .int a.2.2.2.1), (6, .int a.2.2.2.2.1), (7, .int a.2.2.2.2.2.1)] 115 []) {y2 : Int32} {y3 : Int32} {y4 : Int32} {y5 : Int32} {y6 : Int32} {y7 : Int32} {d : Ds} (hf : fX12_laysParts_J142 N g x0 x1 K39 K115 y2 y3 y4 y5 y6 y7 d = some (vz, dz)) : WB p l e rmX12_laysParts s m args below meth c 8 D cy B 0 0 (MQ below (QI D cy B vz g dz) args s 0 0 (wA B)) g d [(0, .ref (ad B x0)), (1, .int x1), (2, .int y2), (3, .int y3), (4, .int y4), (5, .int y5), (6, .int y6), (7, .int y7)] 142 [] := by
  unfold fX12_laysParts_J142 at hf
  obtain ⟨u38, eu38, hf⟩ := bd_s hf
  refine b_iinc C dX12_laysParts_142 7 rfl (by rw [eu38]; rfl) [(7, .int u38), (0, .ref (ad B x0)), (1, .int x1), (2, .int y2), (3, .int y3), (4, .int y4), (5, .int y5), (6, .int y6)] (by decide) rfl ?_
  refine b_goto C (tgt := 115) dX12_laysParts_145 (by decide) ?_
  refine b_sub [(0, .ref (ad B x0)), (1, .int x1), (2, .int y2), (3, .int y3), (4, .int y4), (5, .int y5), (6, .int y6), (7, .int u38)] [1, 2, 3, 4, 5, 6, 7, 0] rfl ?_
  exact hK115 (y2, y3, y4, y5, y6, u38, d) hf
set_option maxRecDepth 100000 in
def fX12_laysParts_B115 (N : Nat) (g : Gs) (x0 : Nat) (x1 : Int32) (K39 : Int32 × Int32 × Int32 × Ds → Option (Int32 × Ds)) (K115 : Int32 × Int32 × Int32 × Int32 × Int32 × Int32 × Ds → Option (Int32 × Ds)) (y2 : Int32) (y3 : Int32) (y4 : Int32) (y5 : Int32) (y6 : Int32) (y7 : Int32) (d : Ds) : Option (Int32 × Ds) := if y2 ≤ y7 then (fX12_laysParts_J148 N g x0 x1 K39 y2 y3 y4 d) else (gd (chk g x0 11) <| ob (gR g x0 24) fun r34 => (gd (chk g r34 102) <| gd (¬ (y7 < 0 ∨ gL g r34 ≤ y7.toNatClampNeg)) <| if (dI d r34 y7.toNatClampNeg) = y5 then (bd (sI d r34 y7.toNatClampNeg y6) fun d39 => (fX12_laysParts_J142 N g x0 x1 K39 K115 y2 y3 y4 y5 y6 y7 d39)) else (fX12_laysParts_J142 N g x0 x1 K39 K115 y2 y3 y4 y5 y6 y7 d)))
set_option maxHeartbeats 4000000 in
set_option maxRecDepth 100000 in
theorem tX12_laysParts_115 {p : Program} {l : Launch} {e : Env} {s : State} {m : MethodId} {args : Array Value} {below : List Frame} {meth : Method} {c : Code} {D : va_G} {cy : Nat → ClassId} {B : Bs} (C : Cx p s m args c cX12_laysParts 8 RX12 D cy B) (hr : meth.sig.returnType = (some .int)) (hlocks : meth.locks = false) {N : Nat} {g : Gs} {x0 : Nat} {x1 : Int32} {vz : Int32} {dz : Ds} {K39 : Int32 × Int32 × Int32 × Ds → Option (Int32 × Ds)} {K115 : Int32 × Int32 × Int32 × Int32 × Int32 × Int32 × Ds → Option (Int32 × Ds)} (hK39 : ∀ a, K39 a = some (vz, dz) → WB p l e rmX12_laysParts s m args below meth c 8 D cy B 0 0 (MQ below (QI D cy B vz g dz) args s 0 0 (wA B)) g a.2.2.2 [(0, .ref (ad B x0)), (1, .int x1), (2, .int a.1), (3, .int a.2.1), (4, .int a.2.2.1)] 39 []) (hK115 : ∀ a, K115 a = some (vz, dz) → WB p l e rmX12_laysParts s m args below meth c 8 D cy B 0 0 (MQ below (QI D cy B vz g dz) args s 0 0 (wA B)) g a.2.2.2.2.2.2 [(0, .ref (ad B x0)), (1, .int x1), (2, .int a.1), (3, .int a.2.1), (4, .int a.2.2.1), (5, .int a.2.2.2.1), (6, .int a.2.2.2.2.1), (7, .int a.2.2.2.2.2.1)] 115 []) {y2 : Int32} {y3 : Int32} {y4 : Int32} {y5 : Int32} {y6 : Int32} {y7 : Int32} {d : Ds} (hf : fX12_laysParts_B115 N g x0 x1 K39 K115 y2 y3 y4 y5 y6 y7 d = some (vz, dz)) : WB p l e rmX12_laysParts s m args below meth c 8 D cy B 0 0 (MQ below (QI D cy B vz g dz) args s 0 0 (wA B)) g d [(0, .ref (ad B x0)), (1, .int x1), (2, .int y2), (3, .int y3), (4, .int y4), (5, .int y5), (6, .int y6), (7, .int y7)] 115 [] := by
  unfold fX12_laysParts_B115 at hf
  refine b_iload C dX12_laysParts_115 7 rfl ?_
  refine b_iload_n C dX12_laysParts_117 2 rfl rfl ?_
  refine b_icmp_ge C (tgt := 148) dX12_laysParts_118 (by decide) (fun c31 => ?_) (fun c31 => ?_)
  · have hf := it_s c31 hf
    refine b_sub [(0, .ref (ad B x0)), (1, .int x1), (2, .int y2), (3, .int y3), (4, .int y4)] [0, 1, 2, 3, 4] rfl ?_
    exact tX12_laysParts_148 C hr hlocks hK39 hf
  · have hf := if_s c31 hf
    refine b_aload_n C dX12_laysParts_121 0 rfl rfl ?_
    obtain ⟨h33, hf⟩ := gd_s hf
    obtain ⟨r34, er34, hf⟩ := ob_s hf
    refine b_gR C dX12_laysParts_122 fl_X12_53 h33 er34 ?_
    refine b_iload C dX12_laysParts_125 7 rfl ?_
    obtain ⟨h35, hf⟩ := gd_s hf
    obtain ⟨h36, hf⟩ := gd_s hf
    refine b_iald C h35 h36 dX12_laysParts_127 ?_
    refine b_iload C dX12_laysParts_128 5 rfl ?_
    refine b_icmp_ne C (tgt := 142) dX12_laysParts_130 (by decide) (fun c37 => ?_) (fun c37 => ?_)
    · have hf := if_s c37 hf
      refine b_sub [(0, .ref (ad B x0)), (1, .int x1), (2, .int y2), (3, .int y3), (4, .int y4), (5, .int y5), (6, .int y6), (7, .int y7)] [0, 1, 2, 3, 4, 5, 6, 7] rfl ?_
      exact tX12_laysParts_142 C hr hlocks hK39 hK115 hf
    · have hf := it_s c37 hf
      refine b_aload_n C dX12_laysParts_133 0 rfl rfl ?_
      refine b_gR C dX12_laysParts_134 fl_X12_53 h33 er34 ?_
      refine b_iload C dX12_laysParts_137 7 rfl ?_
      refine b_iload C dX12_laysParts_139 6 rfl ?_
      obtain ⟨d39, ed39, hf⟩ := bd_s hf
      refine b_iast C h35 h36 ed39 dX12_laysParts_141 ?_
      refine b_sub [(0, .ref (ad B x0)), (1, .int x1), (2, .int y2), (3, .int y3), (4, .int y4), (5, .int y5), (6, .int y6), (7, .int y7)] [0, 1, 2, 3, 4, 5, 6, 7] rfl ?_
      exact tX12_laysParts_142 C hr hlocks hK39 hK115 hf
def fX12_laysParts_L115 (N : Nat) (g : Gs) (x0 : Nat) (x1 : Int32) (K39 : Int32 × Int32 × Int32 × Ds → Option (Int32 × Ds)) : Int32 × Int32 × Int32 × Int32 × Int32 × Int32 × Ds → Option (Int32 × Ds) := lp (fun K115 a => fX12_laysParts_B115 N g x0 x1 K39 K115 a.1 a.2.1 a.2.2.1 a.2.2.2.1 a.2.2.2.2.1 a.2.2.2.2.2.1 a.2.2.2.2.2.2) N
theorem tX12_laysParts_L115 {p : Program} {l : Launch} {e : Env} {s : State} {m : MethodId} {args : Array Value} {below : List Frame} {meth : Method} {c : Code} {D : va_G} {cy : Nat → ClassId} {B : Bs} (C : Cx p s m args c cX12_laysParts 8 RX12 D cy B) (hr : meth.sig.returnType = (some .int)) (hlocks : meth.locks = false) {N : Nat} {g : Gs} {x0 : Nat} {x1 : Int32} {vz : Int32} {dz : Ds} {K39 : Int32 × Int32 × Int32 × Ds → Option (Int32 × Ds)} (hK39 : ∀ a, K39 a = some (vz, dz) → WB p l e rmX12_laysParts s m args below meth c 8 D cy B 0 0 (MQ below (QI D cy B vz g dz) args s 0 0 (wA B)) g a.2.2.2 [(0, .ref (ad B x0)), (1, .int x1), (2, .int a.1), (3, .int a.2.1), (4, .int a.2.2.1)] 39 []) (a : Int32 × Int32 × Int32 × Int32 × Int32 × Int32 × Ds) (hf : fX12_laysParts_L115 N g x0 x1 K39 a = some (vz, dz)) : WB p l e rmX12_laysParts s m args below meth c 8 D cy B 0 0 (MQ below (QI D cy B vz g dz) args s 0 0 (wA B)) g a.2.2.2.2.2.2 [(0, .ref (ad B x0)), (1, .int x1), (2, .int a.1), (3, .int a.2.1), (4, .int a.2.2.1), (5, .int a.2.2.2.1), (6, .int a.2.2.2.2.1), (7, .int a.2.2.2.2.2.1)] 115 [] :=
  lp_w (fun K115 hK115 a ha => tX12_laysParts_115 C hr hlocks hK39 hK115 ha) N a hf
set_option maxRecDepth 100000 in
def fX12_laysParts_B39 (N : Nat) (g : Gs) (x0 : Nat) (x1 : Int32) (K39 : Int32 × Int32 × Int32 × Ds → Option (Int32 × Ds)) (y2 : Int32) (y3 : Int32) (y4 : Int32) (d : Ds) : Option (Int32 × Ds) := gd (chk g x0 11) <| cb (fX12_keysMany N g x0 d) fun u11 d9 => (if u11 ≤ y4 then (some (y3, d9)) else (cb (fX12_has N g x1 y4 d9) fun u15 d13 => (if u15 = 0 then (fX12_laysParts_J148 N g x0 x1 K39 y2 y3 y4 d13) else (ob (gR g x0 24) fun r17 => (ob (gR g x0 17) fun r18 => (gd (chk g r18 102) <| gd (¬ ((1 : Int32) < 0 ∨ gL g r18 ≤ (1 : Int32).toNatClampNeg)) <| gd (¬ (dI d13 r18 (1 : Int32).toNatClampNeg) = 0) <| gd (chk g r17 102) <| gd (¬ ((y4 / (dI d13 r18 (1 : Int32).toNatClampNeg)) < 0 ∨ gL g r17 ≤ (y4 / (dI d13 r18 (1 : Int32).toNatClampNeg)).toNatClampNeg)) <| bd ((dI d13 r17 (y4 / (dI d13 r18 (1 : Int32).toNatClampNeg)).toNatClampNeg)) fun u24 => (gd (¬ ((0 : Int32) < 0 ∨ gL g r18 ≤ (0 : Int32).toNatClampNeg)) <| bd ((dI d13 r18 (0 : Int32).toNatClampNeg) + (y4 - y4 / (dI d13 r18 (1 : Int32).toNatClampNeg) * (dI d13 r18 (1 : Int32).toNatClampNeg))) fun u26 => (gd (¬ (u26 < 0 ∨ gL g r17 ≤ u26.toNatClampNeg)) <| bd ((dI d13 r17 u26.toNatClampNeg)) fun u28 => (if u24 = u28 then (fX12_laysParts_J148 N g x0 x1 K39 y2 y3 y4 d13) else (bd (y3 + (-1)) fun u30 => (fX12_laysParts_L115 N g x0 x1 K39 (y2, u30, y4, u24, u28, 0, d13))))))))))))
set_option maxHeartbeats 4000000 in
set_option maxRecDepth 100000 in
theorem tX12_laysParts_39 {p : Program} {l : Launch} {e : Env} {s : State} {m : MethodId} {args : Array Value} {below : List Frame} {meth : Method} {c : Code} {D : va_G} {cy : Nat → ClassId} {B : Bs} (C : Cx p s m args c cX12_laysParts 8 RX12 D cy B) (hr : meth.sig.returnType = (some .int)) (hlocks : meth.locks = false) {N : Nat} {g : Gs} {x0 : Nat} {x1 : Int32} {vz : Int32} {dz : Ds} {K39 : Int32 × Int32 × Int32 × Ds → Option (Int32 × Ds)} (hK39 : ∀ a, K39 a = some (vz, dz) → WB p l e rmX12_laysParts s m args below meth c 8 D cy B 0 0 (MQ below (QI D cy B vz g dz) args s 0 0 (wA B)) g a.2.2.2 [(0, .ref (ad B x0)), (1, .int x1), (2, .int a.1), (3, .int a.2.1), (4, .int a.2.2.1)] 39 []) {y2 : Int32} {y3 : Int32} {y4 : Int32} {d : Ds} (hf : fX12_laysParts_B39 N g x0 x1 K39 y2 y3 y4 d = some (vz, dz)) : WB p l e rmX12_laysParts s m args below meth c 8 D cy B 0 0 (MQ below (QI D cy B vz g dz) args s 0 0 (wA B)) g d [(0, .ref (ad B x0)), (1, .int x1), (2, .int y2), (3, .int y3), (4, .int y4)] 39 [] := by
  unfold fX12_laysParts_B39 at hf
  refine b_iload C dX12_laysParts_39 4 rfl ?_
  refine b_aload_n C dX12_laysParts_41 0 rfl rfl ?_
  obtain ⟨h8, hf⟩ := gd_s hf
  obtain ⟨u11, d9, k10, hf⟩ := cb_s hf
  refine b_cVI C [.int y4] dX12_laysParts_42 (kX12_keysMany l D cy B k10) lv_X12_206 ⟨rfl, rfl, Nat.le_of_ble_eq_true rfl, Nat.le_of_ble_eq_true rfl⟩ h8 (by decide) rfl (Nat.le_of_ble_eq_true rfl) ⟨Nat.zero_le _, Nat.zero_le _⟩ rfl ?_
  refine b_icmp_ge C (tgt := 154) dX12_laysParts_45 (by decide) (fun c12 => ?_) (fun c12 => ?_)
  · have hf := it_s c12 hf
    refine b_iload_n C dX12_laysParts_154 3 rfl rfl ?_
    exact b_iret C hr hlocks hf dX12_laysParts_155
  · have hf := if_s c12 hf
    refine b_iload_n C dX12_laysParts_48 1 rfl rfl ?_
    refine b_iload C dX12_laysParts_49 4 rfl ?_
    obtain ⟨u15, d13, k14, hf⟩ := cb_s hf
    refine b_cSI C [] dX12_laysParts_51 (kX12_has l D cy B k14) lv_X12_210 ⟨rfl, rfl, Nat.le_of_ble_eq_true rfl, Nat.le_of_ble_eq_true rfl⟩ rfl (Nat.le_of_ble_eq_true rfl) ⟨Nat.zero_le _, Nat.zero_le _⟩ rfl ?_
    refine b_if_ne C (tgt := 60) dX12_laysParts_54 (by decide) (fun c16 => ?_) (fun c16 => ?_)
    · have hf := if_s c16 hf
      refine b_aload_n C dX12_laysParts_60 0 rfl rfl ?_
      obtain ⟨r17, er17, hf⟩ := ob_s hf
      refine b_gR C dX12_laysParts_61 fl_X12_53 h8 er17 ?_
      refine b_iload C dX12_laysParts_64 4 rfl ?_
      refine b_aload_n C dX12_laysParts_66 0 rfl rfl ?_
      obtain ⟨r18, er18, hf⟩ := ob_s hf
      refine b_gR C dX12_laysParts_67 fl_X12_40 h8 er18 ?_
      refine b_iconst C (v := 1) dX12_laysParts_70 (by decide) ?_
      obtain ⟨h19, hf⟩ := gd_s hf
      obtain ⟨h20, hf⟩ := gd_s hf
      refine b_iald C h19 h20 dX12_laysParts_71 ?_
      obtain ⟨h21, hf⟩ := gd_s hf
      refine b_idiv C dX12_laysParts_72 h21 ?_
      obtain ⟨h22, hf⟩ := gd_s hf
      obtain ⟨h23, hf⟩ := gd_s hf
      refine b_iald C h22 h23 dX12_laysParts_73 ?_
      obtain ⟨u24, eu24, hf⟩ := bd_s hf
      refine b_topI eu24 ?_
      refine b_istore C dX12_laysParts_74 [(5, .int u24), (0, .ref (ad B x0)), (1, .int x1), (2, .int y2), (3, .int y3), (4, .int y4)] (by decide) rfl ?_
      refine b_aload_n C dX12_laysParts_76 1 rfl rfl ?_
      refine b_gR C dX12_laysParts_77 fl_X12_53 h8 er17 ?_
      refine b_aload_n C dX12_laysParts_80 1 rfl rfl ?_
      refine b_gR C dX12_laysParts_81 fl_X12_40 h8 er18 ?_
      refine b_iconst C (v := 0) dX12_laysParts_84 (by decide) ?_
      obtain ⟨h25, hf⟩ := gd_s hf
      refine b_iald C h19 h25 dX12_laysParts_85 ?_
      refine b_iload C dX12_laysParts_86 5 rfl ?_
      refine b_aload_n C dX12_laysParts_88 1 rfl rfl ?_
      refine b_gR C dX12_laysParts_89 fl_X12_40 h8 er18 ?_
      refine b_iconst C (v := 1) dX12_laysParts_92 (by decide) ?_
      refine b_iald C h19 h20 dX12_laysParts_93 ?_
      refine b_irem C dX12_laysParts_94 h21 ?_
      refine b_iadd C dX12_laysParts_95 ?_
      obtain ⟨u26, eu26, hf⟩ := bd_s hf
      refine b_topI eu26 ?_
      obtain ⟨h27, hf⟩ := gd_s hf
      refine b_iald C h22 h27 dX12_laysParts_96 ?_
      obtain ⟨u28, eu28, hf⟩ := bd_s hf
      refine b_topI eu28 ?_
      refine b_istore C dX12_laysParts_97 [(6, .int u28), (5, .int u24), (0, .ref (ad B x0)), (1, .int x1), (2, .int y2), (3, .int y3), (4, .int y4)] (by decide) rfl ?_
      refine b_iload C dX12_laysParts_99 1 rfl ?_
      refine b_iload C dX12_laysParts_101 0 rfl ?_
      refine b_icmp_ne C (tgt := 109) dX12_laysParts_103 (by decide) (fun c29 => ?_) (fun c29 => ?_)
      · have hf := if_s c29 hf
        obtain ⟨u30, eu30, hf⟩ := bd_s hf
        refine b_iinc C dX12_laysParts_109 5 rfl (by rw [eu30]; rfl) [(3, .int u30), (6, .int u28), (5, .int u24), (0, .ref (ad B x0)), (1, .int x1), (2, .int y2), (4, .int y4)] (by decide) rfl ?_
        refine b_iconst C (v := 0) dX12_laysParts_112 (by decide) ?_
        refine b_istore C dX12_laysParts_113 [(7, .int 0), (3, .int u30), (6, .int u28), (5, .int u24), (0, .ref (ad B x0)), (1, .int x1), (2, .int y2), (4, .int y4)] (by decide) rfl ?_
        refine b_sub [(0, .ref (ad B x0)), (1, .int x1), (2, .int y2), (3, .int u30), (4, .int y4), (5, .int u24), (6, .int u28), (7, .int 0)] [4, 5, 6, 1, 7, 3, 2, 0] rfl ?_
        exact tX12_laysParts_L115 C hr hlocks hK39 (y2, u30, y4, u24, u28, 0, d13) hf
      · have hf := it_s c29 hf
        refine b_goto C (tgt := 148) dX12_laysParts_106 (by decide) ?_
        refine b_sub [(0, .ref (ad B x0)), (1, .int x1), (2, .int y2), (3, .int y3), (4, .int y4)] [2, 3, 4, 5, 6] rfl ?_
        exact tX12_laysParts_148 C hr hlocks hK39 hf
    · have hf := it_s c16 hf
      refine b_goto C (tgt := 148) dX12_laysParts_57 (by decide) ?_
      refine b_sub [(0, .ref (ad B x0)), (1, .int x1), (2, .int y2), (3, .int y3), (4, .int y4)] [0, 1, 2, 3, 4] rfl ?_
      exact tX12_laysParts_148 C hr hlocks hK39 hf
def fX12_laysParts_L39 (N : Nat) (g : Gs) (x0 : Nat) (x1 : Int32) : Int32 × Int32 × Int32 × Ds → Option (Int32 × Ds) := lp (fun K39 a => fX12_laysParts_B39 N g x0 x1 K39 a.1 a.2.1 a.2.2.1 a.2.2.2) N
theorem tX12_laysParts_L39 {p : Program} {l : Launch} {e : Env} {s : State} {m : MethodId} {args : Array Value} {below : List Frame} {meth : Method} {c : Code} {D : va_G} {cy : Nat → ClassId} {B : Bs} (C : Cx p s m args c cX12_laysParts 8 RX12 D cy B) (hr : meth.sig.returnType = (some .int)) (hlocks : meth.locks = false) {N : Nat} {g : Gs} {x0 : Nat} {x1 : Int32} {vz : Int32} {dz : Ds} (a : Int32 × Int32 × Int32 × Ds) (hf : fX12_laysParts_L39 N g x0 x1 a = some (vz, dz)) : WB p l e rmX12_laysParts s m args below meth c 8 D cy B 0 0 (MQ below (QI D cy B vz g dz) args s 0 0 (wA B)) g a.2.2.2 [(0, .ref (ad B x0)), (1, .int x1), (2, .int a.1), (3, .int a.2.1), (4, .int a.2.2.1)] 39 [] :=
  lp_w (fun K39 hK39 a ha => tX12_laysParts_39 C hr hlocks hK39 ha) N a hf
set_option maxRecDepth 100000 in
def fX12_laysParts_B16 (N : Nat) (g : Gs) (x0 : Nat) (x1 : Int32) (K16 : Int32 × Int32 × Ds → Option (Int32 × Ds)) (y2 : Int32) (y3 : Int32) (d : Ds) : Option (Int32 × Ds) := if y2 ≤ y3 then (fX12_laysParts_L39 N g x0 x1 (y2, y2, 0, d)) else (gd (chk g x0 11) <| ob (gR g x0 24) fun r41 => (gd (chk g r41 102) <| gd (¬ (y3 < 0 ∨ gL g r41 ≤ y3.toNatClampNeg)) <| bd (sI d r41 y3.toNatClampNeg y3) fun d44 => (bd (y3 + 1) fun u45 => (K16 (y2, u45, d44)))))
set_option maxHeartbeats 4000000 in
set_option maxRecDepth 100000 in
theorem tX12_laysParts_16 {p : Program} {l : Launch} {e : Env} {s : State} {m : MethodId} {args : Array Value} {below : List Frame} {meth : Method} {c : Code} {D : va_G} {cy : Nat → ClassId} {B : Bs} (C : Cx p s m args c cX12_laysParts 8 RX12 D cy B) (hr : meth.sig.returnType = (some .int)) (hlocks : meth.locks = false) {N : Nat} {g : Gs} {x0 : Nat} {x1 : Int32} {vz : Int32} {dz : Ds} {K16 : Int32 × Int32 × Ds → Option (Int32 × Ds)} (hK16 : ∀ a, K16 a = some (vz, dz) → WB p l e rmX12_laysParts s m args below meth c 8 D cy B 0 0 (MQ below (QI D cy B vz g dz) args s 0 0 (wA B)) g a.2.2 [(0, .ref (ad B x0)), (1, .int x1), (2, .int a.1), (3, .int a.2.1)] 16 []) {y2 : Int32} {y3 : Int32} {d : Ds} (hf : fX12_laysParts_B16 N g x0 x1 K16 y2 y3 d = some (vz, dz)) : WB p l e rmX12_laysParts s m args below meth c 8 D cy B 0 0 (MQ below (QI D cy B vz g dz) args s 0 0 (wA B)) g d [(0, .ref (ad B x0)), (1, .int x1), (2, .int y2), (3, .int y3)] 16 [] := by
  unfold fX12_laysParts_B16 at hf
  refine b_iload_n C dX12_laysParts_16 3 rfl rfl ?_
  refine b_iload_n C dX12_laysParts_17 2 rfl rfl ?_
  refine b_icmp_ge C (tgt := 34) dX12_laysParts_18 (by decide) (fun c7 => ?_) (fun c7 => ?_)
  · have hf := it_s c7 hf
    refine b_iload_n C dX12_laysParts_34 2 rfl rfl ?_
    refine b_istore_n C dX12_laysParts_35 rfl [(3, .int y2), (0, .ref (ad B x0)), (1, .int x1), (2, .int y2)] (by decide) rfl ?_
    refine b_iconst C (v := 0) dX12_laysParts_36 (by decide) ?_
    refine b_istore C dX12_laysParts_37 [(4, .int 0), (3, .int y2), (0, .ref (ad B x0)), (1, .int x1), (2, .int y2)] (by decide) rfl ?_
    refine b_sub [(0, .ref (ad B x0)), (1, .int x1), (2, .int y2), (3, .int y2), (4, .int 0)] [2, 3, 4, 1, 0] rfl ?_
    exact tX12_laysParts_L39 C hr hlocks (y2, y2, 0, d) hf
  · have hf := if_s c7 hf
    refine b_aload_n C dX12_laysParts_21 0 rfl rfl ?_
    obtain ⟨h40, hf⟩ := gd_s hf
    obtain ⟨r41, er41, hf⟩ := ob_s hf
    refine b_gR C dX12_laysParts_22 fl_X12_53 h40 er41 ?_
    refine b_iload_n C dX12_laysParts_25 3 rfl rfl ?_
    refine b_iload_n C dX12_laysParts_26 3 rfl rfl ?_
    obtain ⟨h42, hf⟩ := gd_s hf
    obtain ⟨h43, hf⟩ := gd_s hf
    obtain ⟨d44, ed44, hf⟩ := bd_s hf
    refine b_iast C h42 h43 ed44 dX12_laysParts_27 ?_
    obtain ⟨u45, eu45, hf⟩ := bd_s hf
    refine b_iinc C dX12_laysParts_28 3 rfl (by rw [eu45]; rfl) [(3, .int u45), (0, .ref (ad B x0)), (1, .int x1), (2, .int y2)] (by decide) rfl ?_
    refine b_goto C (tgt := 16) dX12_laysParts_31 (by decide) ?_
    refine b_sub [(0, .ref (ad B x0)), (1, .int x1), (2, .int y2), (3, .int u45)] [1, 2, 3, 0] rfl ?_
    exact hK16 (y2, u45, d44) hf
def fX12_laysParts_L16 (N : Nat) (g : Gs) (x0 : Nat) (x1 : Int32) : Int32 × Int32 × Ds → Option (Int32 × Ds) := lp (fun K16 a => fX12_laysParts_B16 N g x0 x1 K16 a.1 a.2.1 a.2.2) N
theorem tX12_laysParts_L16 {p : Program} {l : Launch} {e : Env} {s : State} {m : MethodId} {args : Array Value} {below : List Frame} {meth : Method} {c : Code} {D : va_G} {cy : Nat → ClassId} {B : Bs} (C : Cx p s m args c cX12_laysParts 8 RX12 D cy B) (hr : meth.sig.returnType = (some .int)) (hlocks : meth.locks = false) {N : Nat} {g : Gs} {x0 : Nat} {x1 : Int32} {vz : Int32} {dz : Ds} (a : Int32 × Int32 × Ds) (hf : fX12_laysParts_L16 N g x0 x1 a = some (vz, dz)) : WB p l e rmX12_laysParts s m args below meth c 8 D cy B 0 0 (MQ below (QI D cy B vz g dz) args s 0 0 (wA B)) g a.2.2 [(0, .ref (ad B x0)), (1, .int x1), (2, .int a.1), (3, .int a.2.1)] 16 [] :=
  lp_w (fun K16 hK16 a ha => tX12_laysParts_16 C hr hlocks hK16 ha) N a hf
set_option maxRecDepth 100000 in
def fX12_laysParts (N : Nat) (g : Gs) (x0 : Nat) (x1 : Int32) (d : Ds) : Option (Int32 × Ds) := gd (chk g x0 11) <| ob (gR g x0 17) fun r2 => (gd (chk g r2 102) <| gd (¬ ((0 : Int32) < 0 ∨ gL g r2 ≤ (0 : Int32).toNatClampNeg)) <| gd (¬ ((1 : Int32) < 0 ∨ gL g r2 ≤ (1 : Int32).toNatClampNeg)) <| bd (((dI d r2 (0 : Int32).toNatClampNeg) + (dI d r2 (1 : Int32).toNatClampNeg))) fun u6 => (fX12_laysParts_L16 N g x0 x1 (u6, 0, d)))
set_option maxHeartbeats 4000000 in
set_option maxRecDepth 100000 in
theorem tX12_laysParts_E {p : Program} {l : Launch} {e : Env} {s : State} {m : MethodId} {args : Array Value} {below : List Frame} {meth : Method} {c : Code} {D : va_G} {cy : Nat → ClassId} {B : Bs} (C : Cx p s m args c cX12_laysParts 8 RX12 D cy B) (hr : meth.sig.returnType = (some .int)) (hlocks : meth.locks = false) {N : Nat} {g : Gs} {x0 : Nat} {x1 : Int32} {vz : Int32} {dz : Ds} {d : Ds} (hf : fX12_laysParts N g x0 x1 d = some (vz, dz)) : WB p l e rmX12_laysParts s m args below meth c 8 D cy B 0 0 (MQ below (QI D cy B vz g dz) args s 0 0 (wA B)) g d [(0, .ref (ad B x0)), (1, .int x1)] 0 [] := by
  unfold fX12_laysParts at hf
  refine b_aload_n C dX12_laysParts_0 0 rfl rfl ?_
  obtain ⟨h1, hf⟩ := gd_s hf
  obtain ⟨r2, er2, hf⟩ := ob_s hf
  refine b_gR C dX12_laysParts_1 fl_X12_40 h1 er2 ?_
  refine b_iconst C (v := 0) dX12_laysParts_4 (by decide) ?_
  obtain ⟨h3, hf⟩ := gd_s hf
  obtain ⟨h4, hf⟩ := gd_s hf
  refine b_iald C h3 h4 dX12_laysParts_5 ?_
  refine b_aload_n C dX12_laysParts_6 0 rfl rfl ?_
  refine b_gR C dX12_laysParts_7 fl_X12_40 h1 er2 ?_
  refine b_iconst C (v := 1) dX12_laysParts_10 (by decide) ?_
  obtain ⟨h5, hf⟩ := gd_s hf
  refine b_iald C h3 h5 dX12_laysParts_11 ?_
  refine b_iadd C dX12_laysParts_12 ?_
  obtain ⟨u6, eu6, hf⟩ := bd_s hf
  refine b_topI eu6 ?_
  refine b_istore_n C dX12_laysParts_13 rfl [(2, .int u6), (0, .ref (ad B x0)), (1, .int x1)] (by decide) rfl ?_
  refine b_iconst C (v := 0) dX12_laysParts_14 (by decide) ?_
  refine b_istore_n C dX12_laysParts_15 rfl [(3, .int 0), (2, .int u6), (0, .ref (ad B x0)), (1, .int x1)] (by decide) rfl ?_
  refine b_sub [(0, .ref (ad B x0)), (1, .int x1), (2, .int u6), (3, .int 0)] [2, 3, 1, 0] rfl ?_
  exact tX12_laysParts_L16 C hr hlocks (u6, 0, d) hf
theorem kX12_laysParts (l : Launch) (D : va_G) (cy : Nat → ClassId) (B : Bs) {N : Nat} {g : Gs} {x0 : Nat} {x1 : Int32} {vz : Int32} {dz : Ds} {d : Ds} (hf : fX12_laysParts N g x0 x1 d = some (vz, dz)) : Met l yX12_laysParts (.code yX12_laysParts cX12_laysParts 8 (some .int) :: wl) rmX12_laysParts (PC D cy B [.ref (ad B x0), .int x1] g d) (QI D cy B vz g dz) 0 0 (wA B) :=
  met_of (by decide +kernel) (Nat.le_of_ble_eq_true rfl) (fun p e s m args below meth c C hr hlocks _ => b_sub [(0, .ref (ad B x0)), (1, .int x1)] [0, 1] rfl (tX12_laysParts_E C hr hlocks hf))
/-! KeyMatrixModel.seenBy(I)I -/
theorem yo_X12_laysParts : yX12_laysParts.cls ≠ "java/lang/invoke/MethodHandle" ∧ yX12_laysParts.cls ≠ "java/lang/invoke/VarHandle" ∧ (parseMethodDescriptor yX12_laysParts.desc).map (fun d => d.parameters.length) = some 1 := by decide +kernel
theorem co_X12_laysParts : Cond.code yX12_laysParts cX12_laysParts 8 (some .int) ∈ wl := mW (mT6 (List.mem_of_getElem? (i := 88) (by decide +kernel))) rfl
theorem in_X12_laysParts : Cond.initialized yX12_laysParts.cls ∈ wl := mW (mT1 (List.mem_of_getElem? (i := 12) (by decide +kernel))) rfl
theorem im_X12_laysParts : Cond.instanceMethod yX12_laysParts ∈ wl := mW (mT6 (List.mem_of_getElem? (i := 87) (by decide +kernel))) rfl
theorem se_X12_laysParts : Cond.selects yX12_laysParts.cls yX12_laysParts yX12_laysParts ∈ wl := mW (mT0 (List.mem_of_getElem? (i := 56) (by decide +kernel))) rfl
theorem lv_X12_214 : LV RX12 214 yX12_laysParts cX12_laysParts 8 (some .int) 1 11 := ⟨⟨(RX12, TX12, 33), rfl, rfl⟩, yo_X12_laysParts, mW (mT6 (List.mem_of_getElem? (i := 85) (by decide +kernel))) rfl, im_X12_laysParts, se_X12_laysParts, in_X12_laysParts, co_X12_laysParts⟩
theorem dX12_seenBy_0 : decode cX12_seenBy 0 = .ok (.aload_n 0, 1) := by decide +kernel
theorem dX12_seenBy_1 : decode cX12_seenBy 1 = .ok (.getfield 40, 3) := by decide +kernel
theorem dX12_seenBy_4 : decode cX12_seenBy 4 = .ok (.iconst 2, 1) := by decide +kernel
theorem dX12_seenBy_5 : decode cX12_seenBy 5 = .ok (.iaload, 1) := by decide +kernel
theorem dX12_seenBy_6 : decode cX12_seenBy 6 = .ok (.iconst 1, 1) := by decide +kernel
theorem dX12_seenBy_7 : decode cX12_seenBy 7 = .ok (.if_icmp .ne 5, 3) := by decide +kernel
theorem dX12_seenBy_10 : decode cX12_seenBy 10 = .ok (.iload_n 1, 1) := by decide +kernel
theorem dX12_seenBy_11 : decode cX12_seenBy 11 = .ok (.ireturn, 1) := by decide +kernel
theorem dX12_seenBy_12 : decode cX12_seenBy 12 = .ok (.aload_n 0, 1) := by decide +kernel
theorem dX12_seenBy_13 : decode cX12_seenBy 13 = .ok (.iload_n 1, 1) := by decide +kernel
theorem dX12_seenBy_14 : decode cX12_seenBy 14 = .ok (.invokevirtual 214, 3) := by decide +kernel
theorem dX12_seenBy_17 : decode cX12_seenBy 17 = .ok (.istore_n 2, 1) := by decide +kernel
theorem dX12_seenBy_18 : decode cX12_seenBy 18 = .ok (.iconst 0, 1) := by decide +kernel
theorem dX12_seenBy_19 : decode cX12_seenBy 19 = .ok (.istore_n 3, 1) := by decide +kernel
theorem dX12_seenBy_20 : decode cX12_seenBy 20 = .ok (.iconst 0, 1) := by decide +kernel
theorem dX12_seenBy_21 : decode cX12_seenBy 21 = .ok (.istore 4, 2) := by decide +kernel
theorem dX12_seenBy_23 : decode cX12_seenBy 23 = .ok (.iload 4, 2) := by decide +kernel
theorem dX12_seenBy_25 : decode cX12_seenBy 25 = .ok (.aload_n 0, 1) := by decide +kernel
theorem dX12_seenBy_26 : decode cX12_seenBy 26 = .ok (.invokevirtual 206, 3) := by decide +kernel
theorem dX12_seenBy_29 : decode cX12_seenBy 29 = .ok (.if_icmp .ge 54, 3) := by decide +kernel
theorem dX12_seenBy_32 : decode cX12_seenBy 32 = .ok (.aload_n 0, 1) := by decide +kernel
theorem dX12_seenBy_33 : decode cX12_seenBy 33 = .ok (.getfield 53, 3) := by decide +kernel
theorem dX12_seenBy_36 : decode cX12_seenBy 36 = .ok (.iload 4, 2) := by decide +kernel
theorem dX12_seenBy_38 : decode cX12_seenBy 38 = .ok (.aload_n 0, 1) := by decide +kernel
theorem dX12_seenBy_39 : decode cX12_seenBy 39 = .ok (.getfield 40, 3) := by decide +kernel
theorem dX12_seenBy_42 : decode cX12_seenBy 42 = .ok (.iconst 1, 1) := by decide +kernel
theorem dX12_seenBy_43 : decode cX12_seenBy 43 = .ok (.iaload, 1) := by decide +kernel
theorem dX12_seenBy_44 : decode cX12_seenBy 44 = .ok (.idiv, 1) := by decide +kernel
theorem dX12_seenBy_45 : decode cX12_seenBy 45 = .ok (.iaload, 1) := by decide +kernel
theorem dX12_seenBy_46 : decode cX12_seenBy 46 = .ok (.aload_n 0, 1) := by decide +kernel
theorem dX12_seenBy_47 : decode cX12_seenBy 47 = .ok (.getfield 53, 3) := by decide +kernel
theorem dX12_seenBy_50 : decode cX12_seenBy 50 = .ok (.aload_n 0, 1) := by decide +kernel
theorem dX12_seenBy_51 : decode cX12_seenBy 51 = .ok (.getfield 40, 3) := by decide +kernel
theorem dX12_seenBy_54 : decode cX12_seenBy 54 = .ok (.iconst 0, 1) := by decide +kernel
theorem dX12_seenBy_55 : decode cX12_seenBy 55 = .ok (.iaload, 1) := by decide +kernel
theorem dX12_seenBy_56 : decode cX12_seenBy 56 = .ok (.iload 4, 2) := by decide +kernel
theorem dX12_seenBy_58 : decode cX12_seenBy 58 = .ok (.aload_n 0, 1) := by decide +kernel
theorem dX12_seenBy_59 : decode cX12_seenBy 59 = .ok (.getfield 40, 3) := by decide +kernel
theorem dX12_seenBy_62 : decode cX12_seenBy 62 = .ok (.iconst 1, 1) := by decide +kernel
theorem dX12_seenBy_63 : decode cX12_seenBy 63 = .ok (.iaload, 1) := by decide +kernel
theorem dX12_seenBy_64 : decode cX12_seenBy 64 = .ok (.irem, 1) := by decide +kernel
theorem dX12_seenBy_65 : decode cX12_seenBy 65 = .ok (.iadd, 1) := by decide +kernel
theorem dX12_seenBy_66 : decode cX12_seenBy 66 = .ok (.iaload, 1) := by decide +kernel
theorem dX12_seenBy_67 : decode cX12_seenBy 67 = .ok (.if_icmp .ne 10, 3) := by decide +kernel
theorem dX12_seenBy_70 : decode cX12_seenBy 70 = .ok (.iload_n 3, 1) := by decide +kernel
theorem dX12_seenBy_71 : decode cX12_seenBy 71 = .ok (.iconst 1, 1) := by decide +kernel
theorem dX12_seenBy_72 : decode cX12_seenBy 72 = .ok (.iload 4, 2) := by decide +kernel
theorem dX12_seenBy_74 : decode cX12_seenBy 74 = .ok (.ishl, 1) := by decide +kernel
theorem dX12_seenBy_75 : decode cX12_seenBy 75 = .ok (.ior, 1) := by decide +kernel
theorem dX12_seenBy_76 : decode cX12_seenBy 76 = .ok (.istore_n 3, 1) := by decide +kernel
theorem dX12_seenBy_77 : decode cX12_seenBy 77 = .ok (.iinc 4 1, 3) := by decide +kernel
theorem dX12_seenBy_80 : decode cX12_seenBy 80 = .ok (.goto (-57), 3) := by decide +kernel
theorem dX12_seenBy_83 : decode cX12_seenBy 83 = .ok (.iload_n 3, 1) := by decide +kernel
theorem dX12_seenBy_84 : decode cX12_seenBy 84 = .ok (.ireturn, 1) := by decide +kernel
def rmX12_seenBy : Room := { frames := 2, cells := 0, slots := 0, locals := 48 }
set_option maxRecDepth 100000 in
def fX12_seenBy_J77 (N : Nat) (g : Gs) (x0 : Nat) (x1 : Int32) (K23 : Int32 × Int32 × Ds → Option (Int32 × Ds)) (y3 : Int32) (y4 : Int32) (d : Ds) : Option (Int32 × Ds) := bd (y4 + 1) fun u25 => (K23 (y3, u25, d))
set_option maxHeartbeats 4000000 in
set_option maxRecDepth 100000 in
theorem tX12_seenBy_77 {p : Program} {l : Launch} {e : Env} {s : State} {m : MethodId} {args : Array Value} {below : List Frame} {meth : Method} {c : Code} {D : va_G} {cy : Nat → ClassId} {B : Bs} (C : Cx p s m args c cX12_seenBy 5 RX12 D cy B) (hr : meth.sig.returnType = (some .int)) (hlocks : meth.locks = false) {N : Nat} {g : Gs} {x0 : Nat} {x1 : Int32} {vz : Int32} {dz : Ds} {K23 : Int32 × Int32 × Ds → Option (Int32 × Ds)} (hK23 : ∀ a, K23 a = some (vz, dz) → WB p l e rmX12_seenBy s m args below meth c 5 D cy B 0 0 (MQ below (QI D cy B vz g dz) args s 0 0 (wA B)) g a.2.2 [(0, .ref (ad B x0)), (1, .int x1), (3, .int a.1), (4, .int a.2.1)] 23 []) {y3 : Int32} {y4 : Int32} {d : Ds} (hf : fX12_seenBy_J77 N g x0 x1 K23 y3 y4 d = some (vz, dz)) : WB p l e rmX12_seenBy s m args below meth c 5 D cy B 0 0 (MQ below (QI D cy B vz g dz) args s 0 0 (wA B)) g d [(0, .ref (ad B x0)), (1, .int x1), (3, .int y3), (4, .int y4)] 77 [] := by
  unfold fX12_seenBy_J77 at hf
  obtain ⟨u25, eu25, hf⟩ := bd_s hf
  refine b_iinc C dX12_seenBy_77 3 rfl (by rw [eu25]; rfl) [(4, .int u25), (0, .ref (ad B x0)), (1, .int x1), (3, .int y3)] (by decide) rfl ?_
  refine b_goto C (tgt := 23) dX12_seenBy_80 (by decide) ?_
  refine b_sub [(0, .ref (ad B x0)), (1, .int x1), (3, .int y3), (4, .int u25)] [1, 2, 3, 0] rfl ?_
  exact hK23 (y3, u25, d) hf
set_option maxRecDepth 100000 in
def fX12_seenBy_B23 (N : Nat) (g : Gs) (x0 : Nat) (x1 : Int32) (K23 : Int32 × Int32 × Ds → Option (Int32 × Ds)) (y3 : Int32) (y4 : Int32) (d : Ds) : Option (Int32 × Ds) := gd (chk g x0 11) <| cb (fX12_keysMany N g x0 d) fun u12 d10 => (if u12 ≤ y4 then (some (y3, d10)) else (ob (gR g x0 24) fun r14 => (ob (gR g x0 17) fun r15 => (gd (chk g r15 102) <| gd (¬ ((1 : Int32) < 0 ∨ gL g r15 ≤ (1 : Int32).toNatClampNeg)) <| gd (¬ (dI d10 r15 (1 : Int32).toNatClampNeg) = 0) <| gd (chk g r14 102) <| gd (¬ ((y4 / (dI d10 r15 (1 : Int32).toNatClampNeg)) < 0 ∨ gL g r14 ≤ (y4 / (dI d10 r15 (1 : Int32).toNatClampNeg)).toNatClampNeg)) <| gd (¬ ((0 : Int32) < 0 ∨ gL g r15 ≤ (0 : Int32).toNatClampNeg)) <| bd ((dI d10 r15 (0 : Int32).toNatClampNeg) + (y4 - y4 / (dI d10 r15 (1 : Int32).toNatClampNeg) * (dI d10 r15 (1 : Int32).toNatClampNeg))) fun u22 => (gd (¬ (u22 < 0 ∨ gL g r14 ≤ u22.toNatClampNeg)) <| if (dI d10 r14 (y4 / (dI d10 r15 (1 : Int32).toNatClampNeg)).toNatClampNeg) = (dI d10 r14 u22.toNatClampNeg) then (bd ((y3 ||| ((1 : Int32) <<< (y4 &&& 31)))) fun u26 => (fX12_seenBy_J77 N g x0 x1 K23 u26 y4 d10)) else (fX12_seenBy_J77 N g x0 x1 K23 y3 y4 d10))))))
set_option maxHeartbeats 4000000 in
set_option maxRecDepth 100000 in
theorem tX12_seenBy_23 {p : Program} {l : Launch} {e : Env} {s : State} {m : MethodId} {args : Array Value} {below : List Frame} {meth : Method} {c : Code} {D : va_G} {cy : Nat → ClassId} {B : Bs} (C : Cx p s m args c cX12_seenBy 5 RX12 D cy B) (hr : meth.sig.returnType = (some .int)) (hlocks : meth.locks = false) {N : Nat} {g : Gs} {x0 : Nat} {x1 : Int32} {vz : Int32} {dz : Ds} {K23 : Int32 × Int32 × Ds → Option (Int32 × Ds)} (hK23 : ∀ a, K23 a = some (vz, dz) → WB p l e rmX12_seenBy s m args below meth c 5 D cy B 0 0 (MQ below (QI D cy B vz g dz) args s 0 0 (wA B)) g a.2.2 [(0, .ref (ad B x0)), (1, .int x1), (3, .int a.1), (4, .int a.2.1)] 23 []) {y3 : Int32} {y4 : Int32} {d : Ds} (hf : fX12_seenBy_B23 N g x0 x1 K23 y3 y4 d = some (vz, dz)) : WB p l e rmX12_seenBy s m args below meth c 5 D cy B 0 0 (MQ below (QI D cy B vz g dz) args s 0 0 (wA B)) g d [(0, .ref (ad B x0)), (1, .int x1), (3, .int y3), (4, .int y4)] 23 [] := by
  unfold fX12_seenBy_B23 at hf
  refine b_iload C dX12_seenBy_23 3 rfl ?_
  refine b_aload_n C dX12_seenBy_25 0 rfl rfl ?_
  obtain ⟨h9, hf⟩ := gd_s hf
  obtain ⟨u12, d10, k11, hf⟩ := cb_s hf
  refine b_cVI C [.int y4] dX12_seenBy_26 (kX12_keysMany l D cy B k11) lv_X12_206 ⟨rfl, rfl, Nat.le_of_ble_eq_true rfl, Nat.le_of_ble_eq_true rfl⟩ h9 (by decide) rfl (Nat.le_of_ble_eq_true rfl) ⟨Nat.zero_le _, Nat.zero_le _⟩ rfl ?_
  refine b_icmp_ge C (tgt := 83) dX12_seenBy_29 (by decide) (fun c13 => ?_) (fun c13 => ?_)
  · have hf := it_s c13 hf
    refine b_iload_n C dX12_seenBy_83 2 rfl rfl ?_
    exact b_iret C hr hlocks hf dX12_seenBy_84
  · have hf := if_s c13 hf
    refine b_aload_n C dX12_seenBy_32 0 rfl rfl ?_
    obtain ⟨r14, er14, hf⟩ := ob_s hf
    refine b_gR C dX12_seenBy_33 fl_X12_53 h9 er14 ?_
    refine b_iload C dX12_seenBy_36 3 rfl ?_
    refine b_aload_n C dX12_seenBy_38 0 rfl rfl ?_
    obtain ⟨r15, er15, hf⟩ := ob_s hf
    refine b_gR C dX12_seenBy_39 fl_X12_40 h9 er15 ?_
    refine b_iconst C (v := 1) dX12_seenBy_42 (by decide) ?_
    obtain ⟨h16, hf⟩ := gd_s hf
    obtain ⟨h17, hf⟩ := gd_s hf
    refine b_iald C h16 h17 dX12_seenBy_43 ?_
    obtain ⟨h18, hf⟩ := gd_s hf
    refine b_idiv C dX12_seenBy_44 h18 ?_
    obtain ⟨h19, hf⟩ := gd_s hf
    obtain ⟨h20, hf⟩ := gd_s hf
    refine b_iald C h19 h20 dX12_seenBy_45 ?_
    refine b_aload_n C dX12_seenBy_46 0 rfl rfl ?_
    refine b_gR C dX12_seenBy_47 fl_X12_53 h9 er14 ?_
    refine b_aload_n C dX12_seenBy_50 0 rfl rfl ?_
    refine b_gR C dX12_seenBy_51 fl_X12_40 h9 er15 ?_
    refine b_iconst C (v := 0) dX12_seenBy_54 (by decide) ?_
    obtain ⟨h21, hf⟩ := gd_s hf
    refine b_iald C h16 h21 dX12_seenBy_55 ?_
    refine b_iload C dX12_seenBy_56 3 rfl ?_
    refine b_aload_n C dX12_seenBy_58 0 rfl rfl ?_
    refine b_gR C dX12_seenBy_59 fl_X12_40 h9 er15 ?_
    refine b_iconst C (v := 1) dX12_seenBy_62 (by decide) ?_
    refine b_iald C h16 h17 dX12_seenBy_63 ?_
    refine b_irem C dX12_seenBy_64 h18 ?_
    refine b_iadd C dX12_seenBy_65 ?_
    obtain ⟨u22, eu22, hf⟩ := bd_s hf
    refine b_topI eu22 ?_
    obtain ⟨h23, hf⟩ := gd_s hf
    refine b_iald C h19 h23 dX12_seenBy_66 ?_
    refine b_icmp_ne C (tgt := 77) dX12_seenBy_67 (by decide) (fun c24 => ?_) (fun c24 => ?_)
    · have hf := if_s c24 hf
      refine b_sub [(0, .ref (ad B x0)), (1, .int x1), (3, .int y3), (4, .int y4)] [0, 1, 2, 3] rfl ?_
      exact tX12_seenBy_77 C hr hlocks hK23 hf
    · have hf := it_s c24 hf
      refine b_iload_n C dX12_seenBy_70 2 rfl rfl ?_
      refine b_iconst C (v := 1) dX12_seenBy_71 (by decide) ?_
      refine b_iload C dX12_seenBy_72 3 rfl ?_
      refine b_ishl C dX12_seenBy_74 ?_
      refine b_ior C dX12_seenBy_75 ?_
      obtain ⟨u26, eu26, hf⟩ := bd_s hf
      refine b_topI eu26 ?_
      refine b_istore_n C dX12_seenBy_76 rfl [(3, .int u26), (0, .ref (ad B x0)), (1, .int x1), (4, .int y4)] (by decide) rfl ?_
      refine b_sub [(0, .ref (ad B x0)), (1, .int x1), (3, .int u26), (4, .int y4)] [1, 2, 0, 3] rfl ?_
      exact tX12_seenBy_77 C hr hlocks hK23 hf
def fX12_seenBy_L23 (N : Nat) (g : Gs) (x0 : Nat) (x1 : Int32) : Int32 × Int32 × Ds → Option (Int32 × Ds) := lp (fun K23 a => fX12_seenBy_B23 N g x0 x1 K23 a.1 a.2.1 a.2.2) N
theorem tX12_seenBy_L23 {p : Program} {l : Launch} {e : Env} {s : State} {m : MethodId} {args : Array Value} {below : List Frame} {meth : Method} {c : Code} {D : va_G} {cy : Nat → ClassId} {B : Bs} (C : Cx p s m args c cX12_seenBy 5 RX12 D cy B) (hr : meth.sig.returnType = (some .int)) (hlocks : meth.locks = false) {N : Nat} {g : Gs} {x0 : Nat} {x1 : Int32} {vz : Int32} {dz : Ds} (a : Int32 × Int32 × Ds) (hf : fX12_seenBy_L23 N g x0 x1 a = some (vz, dz)) : WB p l e rmX12_seenBy s m args below meth c 5 D cy B 0 0 (MQ below (QI D cy B vz g dz) args s 0 0 (wA B)) g a.2.2 [(0, .ref (ad B x0)), (1, .int x1), (3, .int a.1), (4, .int a.2.1)] 23 [] :=
  lp_w (fun K23 hK23 a ha => tX12_seenBy_23 C hr hlocks hK23 ha) N a hf
set_option maxRecDepth 100000 in
def fX12_seenBy (N : Nat) (g : Gs) (x0 : Nat) (x1 : Int32) (d : Ds) : Option (Int32 × Ds) := gd (chk g x0 11) <| ob (gR g x0 17) fun r2 => (gd (chk g r2 102) <| gd (¬ ((2 : Int32) < 0 ∨ gL g r2 ≤ (2 : Int32).toNatClampNeg)) <| if (dI d r2 (2 : Int32).toNatClampNeg) = (1 : Int32) then (some (x1, d)) else (cb (fX12_laysParts N g x0 x1 d) fun u8 d6 => (fX12_seenBy_L23 N g x0 x1 (0, 0, d6))))
set_option maxHeartbeats 4000000 in
set_option maxRecDepth 100000 in
theorem tX12_seenBy_E {p : Program} {l : Launch} {e : Env} {s : State} {m : MethodId} {args : Array Value} {below : List Frame} {meth : Method} {c : Code} {D : va_G} {cy : Nat → ClassId} {B : Bs} (C : Cx p s m args c cX12_seenBy 5 RX12 D cy B) (hr : meth.sig.returnType = (some .int)) (hlocks : meth.locks = false) {N : Nat} {g : Gs} {x0 : Nat} {x1 : Int32} {vz : Int32} {dz : Ds} {d : Ds} (hf : fX12_seenBy N g x0 x1 d = some (vz, dz)) : WB p l e rmX12_seenBy s m args below meth c 5 D cy B 0 0 (MQ below (QI D cy B vz g dz) args s 0 0 (wA B)) g d [(0, .ref (ad B x0)), (1, .int x1)] 0 [] := by
  unfold fX12_seenBy at hf
  refine b_aload_n C dX12_seenBy_0 0 rfl rfl ?_
  obtain ⟨h1, hf⟩ := gd_s hf
  obtain ⟨r2, er2, hf⟩ := ob_s hf
  refine b_gR C dX12_seenBy_1 fl_X12_40 h1 er2 ?_
  refine b_iconst C (v := 2) dX12_seenBy_4 (by decide) ?_
  obtain ⟨h3, hf⟩ := gd_s hf
  obtain ⟨h4, hf⟩ := gd_s hf
  refine b_iald C h3 h4 dX12_seenBy_5 ?_
  refine b_iconst C (v := 1) dX12_seenBy_6 (by decide) ?_
  refine b_icmp_ne C (tgt := 12) dX12_seenBy_7 (by decide) (fun c5 => ?_) (fun c5 => ?_)
  · have hf := if_s c5 hf
    refine b_aload_n C dX12_seenBy_12 0 rfl rfl ?_
    refine b_iload_n C dX12_seenBy_13 1 rfl rfl ?_
    obtain ⟨u8, d6, k7, hf⟩ := cb_s hf
    refine b_cVI C [] dX12_seenBy_14 (kX12_laysParts l D cy B k7) lv_X12_214 ⟨rfl, rfl, Nat.le_of_ble_eq_true rfl, Nat.le_of_ble_eq_true rfl⟩ h1 (by decide) rfl (Nat.le_of_ble_eq_true rfl) ⟨Nat.zero_le _, Nat.zero_le _⟩ rfl ?_
    refine b_istore_n C dX12_seenBy_17 rfl [(2, .int u8), (0, .ref (ad B x0)), (1, .int x1)] (by decide) rfl ?_
    refine b_iconst C (v := 0) dX12_seenBy_18 (by decide) ?_
    refine b_istore_n C dX12_seenBy_19 rfl [(3, .int 0), (2, .int u8), (0, .ref (ad B x0)), (1, .int x1)] (by decide) rfl ?_
    refine b_iconst C (v := 0) dX12_seenBy_20 (by decide) ?_
    refine b_istore C dX12_seenBy_21 [(4, .int 0), (3, .int 0), (2, .int u8), (0, .ref (ad B x0)), (1, .int x1)] (by decide) rfl ?_
    refine b_sub [(0, .ref (ad B x0)), (1, .int x1), (3, .int 0), (4, .int 0)] [3, 4, 1, 0] rfl ?_
    exact tX12_seenBy_L23 C hr hlocks (0, 0, d6) hf
  · have hf := it_s c5 hf
    refine b_iload_n C dX12_seenBy_10 1 rfl rfl ?_
    exact b_iret C hr hlocks hf dX12_seenBy_11
theorem kX12_seenBy (l : Launch) (D : va_G) (cy : Nat → ClassId) (B : Bs) {N : Nat} {g : Gs} {x0 : Nat} {x1 : Int32} {vz : Int32} {dz : Ds} {d : Ds} (hf : fX12_seenBy N g x0 x1 d = some (vz, dz)) : Met l yX12_seenBy (.code yX12_seenBy cX12_seenBy 5 (some .int) :: wl) rmX12_seenBy (PC D cy B [.ref (ad B x0), .int x1] g d) (QI D cy B vz g dz) 0 0 (wA B) :=
  met_of (by decide +kernel) (Nat.le_of_ble_eq_true rfl) (fun p e s m args below meth c C hr hlocks _ => b_sub [(0, .ref (ad B x0)), (1, .int x1)] [0, 1] rfl (tX12_seenBy_E C hr hlocks hf))
/-! KeyMatrixModel.isCornered(III)Z -/
theorem dX12_isCornered_0 : decode cX12_isCornered 0 = .ok (.aload_n 0, 1) := by decide +kernel
theorem dX12_isCornered_1 : decode cX12_isCornered 1 = .ok (.getfield 40, 3) := by decide +kernel
theorem dX12_isCornered_4 : decode cX12_isCornered 4 = .ok (.iconst 1, 1) := by decide +kernel
theorem dX12_isCornered_5 : decode cX12_isCornered 5 = .ok (.iaload, 1) := by decide +kernel
theorem dX12_isCornered_6 : decode cX12_isCornered 6 = .ok (.istore 4, 2) := by decide +kernel
theorem dX12_isCornered_8 : decode cX12_isCornered 8 = .ok (.iconst 0, 1) := by decide +kernel
theorem dX12_isCornered_9 : decode cX12_isCornered 9 = .ok (.istore 5, 2) := by decide +kernel
theorem dX12_isCornered_11 : decode cX12_isCornered 11 = .ok (.iload 5, 2) := by decide +kernel
theorem dX12_isCornered_13 : decode cX12_isCornered 13 = .ok (.aload_n 0, 1) := by decide +kernel
theorem dX12_isCornered_14 : decode cX12_isCornered 14 = .ok (.getfield 40, 3) := by decide +kernel
theorem dX12_isCornered_17 : decode cX12_isCornered 17 = .ok (.iconst 0, 1) := by decide +kernel
theorem dX12_isCornered_18 : decode cX12_isCornered 18 = .ok (.iaload, 1) := by decide +kernel
theorem dX12_isCornered_19 : decode cX12_isCornered 19 = .ok (.if_icmp .ge 98, 3) := by decide +kernel
theorem dX12_isCornered_22 : decode cX12_isCornered 22 = .ok (.iconst 0, 1) := by decide +kernel
theorem dX12_isCornered_23 : decode cX12_isCornered 23 = .ok (.istore 6, 2) := by decide +kernel
theorem dX12_isCornered_25 : decode cX12_isCornered 25 = .ok (.iload 6, 2) := by decide +kernel
theorem dX12_isCornered_27 : decode cX12_isCornered 27 = .ok (.iload 4, 2) := by decide +kernel
theorem dX12_isCornered_29 : decode cX12_isCornered 29 = .ok (.if_icmp .ge 82, 3) := by decide +kernel
theorem dX12_isCornered_32 : decode cX12_isCornered 32 = .ok (.iload 5, 2) := by decide +kernel
theorem dX12_isCornered_34 : decode cX12_isCornered 34 = .ok (.iload_n 2, 1) := by decide +kernel
theorem dX12_isCornered_35 : decode cX12_isCornered 35 = .ok (.if_icmp .eq 70, 3) := by decide +kernel
theorem dX12_isCornered_38 : decode cX12_isCornered 38 = .ok (.iload 6, 2) := by decide +kernel
theorem dX12_isCornered_40 : decode cX12_isCornered 40 = .ok (.iload_n 3, 1) := by decide +kernel
theorem dX12_isCornered_41 : decode cX12_isCornered 41 = .ok (.if_icmp .ne 6, 3) := by decide +kernel
theorem dX12_isCornered_44 : decode cX12_isCornered 44 = .ok (.goto 61, 3) := by decide +kernel
theorem dX12_isCornered_47 : decode cX12_isCornered 47 = .ok (.iload_n 1, 1) := by decide +kernel
theorem dX12_isCornered_48 : decode cX12_isCornered 48 = .ok (.iload 4, 2) := by decide +kernel
theorem dX12_isCornered_50 : decode cX12_isCornered 50 = .ok (.iload_n 2, 1) := by decide +kernel
theorem dX12_isCornered_51 : decode cX12_isCornered 51 = .ok (.imul, 1) := by decide +kernel
theorem dX12_isCornered_52 : decode cX12_isCornered 52 = .ok (.iload_n 3, 1) := by decide +kernel
theorem dX12_isCornered_53 : decode cX12_isCornered 53 = .ok (.iadd, 1) := by decide +kernel
theorem dX12_isCornered_54 : decode cX12_isCornered 54 = .ok (.invokestatic 210, 3) := by decide +kernel
theorem dX12_isCornered_57 : decode cX12_isCornered 57 = .ok (.ifCond .eq 48, 3) := by decide +kernel
theorem dX12_isCornered_60 : decode cX12_isCornered 60 = .ok (.iload_n 1, 1) := by decide +kernel
theorem dX12_isCornered_61 : decode cX12_isCornered 61 = .ok (.iload 4, 2) := by decide +kernel
theorem dX12_isCornered_63 : decode cX12_isCornered 63 = .ok (.iload_n 2, 1) := by decide +kernel
theorem dX12_isCornered_64 : decode cX12_isCornered 64 = .ok (.imul, 1) := by decide +kernel
theorem dX12_isCornered_65 : decode cX12_isCornered 65 = .ok (.iload 6, 2) := by decide +kernel
theorem dX12_isCornered_67 : decode cX12_isCornered 67 = .ok (.iadd, 1) := by decide +kernel
theorem dX12_isCornered_68 : decode cX12_isCornered 68 = .ok (.invokestatic 210, 3) := by decide +kernel
theorem dX12_isCornered_71 : decode cX12_isCornered 71 = .ok (.ifCond .eq 34, 3) := by decide +kernel
theorem dX12_isCornered_74 : decode cX12_isCornered 74 = .ok (.iload_n 1, 1) := by decide +kernel
theorem dX12_isCornered_75 : decode cX12_isCornered 75 = .ok (.iload 4, 2) := by decide +kernel
theorem dX12_isCornered_77 : decode cX12_isCornered 77 = .ok (.iload 5, 2) := by decide +kernel
theorem dX12_isCornered_79 : decode cX12_isCornered 79 = .ok (.imul, 1) := by decide +kernel
theorem dX12_isCornered_80 : decode cX12_isCornered 80 = .ok (.iload_n 3, 1) := by decide +kernel
theorem dX12_isCornered_81 : decode cX12_isCornered 81 = .ok (.iadd, 1) := by decide +kernel
theorem dX12_isCornered_82 : decode cX12_isCornered 82 = .ok (.invokestatic 210, 3) := by decide +kernel
theorem dX12_isCornered_85 : decode cX12_isCornered 85 = .ok (.ifCond .eq 20, 3) := by decide +kernel
theorem dX12_isCornered_88 : decode cX12_isCornered 88 = .ok (.iload_n 1, 1) := by decide +kernel
theorem dX12_isCornered_89 : decode cX12_isCornered 89 = .ok (.iload 4, 2) := by decide +kernel
theorem dX12_isCornered_91 : decode cX12_isCornered 91 = .ok (.iload 5, 2) := by decide +kernel
theorem dX12_isCornered_93 : decode cX12_isCornered 93 = .ok (.imul, 1) := by decide +kernel
theorem dX12_isCornered_94 : decode cX12_isCornered 94 = .ok (.iload 6, 2) := by decide +kernel
theorem dX12_isCornered_96 : decode cX12_isCornered 96 = .ok (.iadd, 1) := by decide +kernel
theorem dX12_isCornered_97 : decode cX12_isCornered 97 = .ok (.invokestatic 210, 3) := by decide +kernel
theorem dX12_isCornered_100 : decode cX12_isCornered 100 = .ok (.ifCond .eq 5, 3) := by decide +kernel
theorem dX12_isCornered_103 : decode cX12_isCornered 103 = .ok (.iconst 1, 1) := by decide +kernel
theorem dX12_isCornered_104 : decode cX12_isCornered 104 = .ok (.ireturn, 1) := by decide +kernel
theorem dX12_isCornered_105 : decode cX12_isCornered 105 = .ok (.iinc 6 1, 3) := by decide +kernel
theorem dX12_isCornered_108 : decode cX12_isCornered 108 = .ok (.goto (-83), 3) := by decide +kernel
theorem dX12_isCornered_111 : decode cX12_isCornered 111 = .ok (.iinc 5 1, 3) := by decide +kernel
theorem dX12_isCornered_114 : decode cX12_isCornered 114 = .ok (.goto (-103), 3) := by decide +kernel
theorem dX12_isCornered_117 : decode cX12_isCornered 117 = .ok (.iconst 0, 1) := by decide +kernel
theorem dX12_isCornered_118 : decode cX12_isCornered 118 = .ok (.ireturn, 1) := by decide +kernel
def rmX12_isCornered : Room := { frames := 1, cells := 0, slots := 0, locals := 21 }
set_option maxRecDepth 100000 in
def fX12_isCornered_J105 (N : Nat) (g : Gs) (x0 : Nat) (x1 : Int32) (x2 : Int32) (x3 : Int32) (K11 : Int32 × Int32 × Ds → Option (Int32 × Ds)) (K25 : Int32 × Int32 × Int32 × Ds → Option (Int32 × Ds)) (y4 : Int32) (y5 : Int32) (y6 : Int32) (d : Ds) : Option (Int32 × Ds) := bd (y6 + 1) fun u14 => (K25 (y4, y5, u14, d))
set_option maxHeartbeats 4000000 in
set_option maxRecDepth 100000 in
theorem tX12_isCornered_105 {p : Program} {l : Launch} {e : Env} {s : State} {m : MethodId} {args : Array Value} {below : List Frame} {meth : Method} {c : Code} {D : va_G} {cy : Nat → ClassId} {B : Bs} (C : Cx p s m args c cX12_isCornered 7 RX12 D cy B) (hr : meth.sig.returnType = (some .boolean)) (hlocks : meth.locks = false) {N : Nat} {g : Gs} {x0 : Nat} {x1 : Int32} {x2 : Int32} {x3 : Int32} {vz : Int32} {dz : Ds} {K11 : Int32 × Int32 × Ds → Option (Int32 × Ds)} {K25 : Int32 × Int32 × Int32 × Ds → Option (Int32 × Ds)} (hK11 : ∀ a, K11 a = some (vz, dz) → WB p l e rmX12_isCornered s m args below meth c 7 D cy B 0 0 (MQ below (QI D cy B vz g dz) args s 0 0 (wA B)) g a.2.2 [(0, .ref (ad B x0)), (1, .int x1), (2, .int x2), (3, .int x3), (4, .int a.1), (5, .int a.2.1)] 11 []) (hK25 : ∀ a, K25 a = some (vz, dz) → WB p l e rmX12_isCornered s m args below meth c 7 D cy B 0 0 (MQ below (QI D cy B vz g dz) args s 0 0 (wA B)) g a.2.2.2 [(0, .ref (ad B x0)), (1, .int x1), (2, .int x2), (3, .int x3), (4, .int a.1), (5, .int a.2.1), (6, .int a.2.2.1)] 25 []) {y4 : Int32} {y5 : Int32} {y6 : Int32} {d : Ds} (hf : fX12_isCornered_J105 N g x0 x1 x2 x3 K11 K25 y4 y5 y6 d = some (vz, dz)) : WB p l e rmX12_isCornered s m args below meth c 7 D cy B 0 0 (MQ below (QI D cy B vz g dz) args s 0 0 (wA B)) g d [(0, .ref (ad B x0)), (1, .int x1), (2, .int x2), (3, .int x3), (4, .int y4), (5, .int y5), (6, .int y6)] 105 [] := by
  unfold fX12_isCornered_J105 at hf
  obtain ⟨u14, eu14, hf⟩ := bd_s hf
  refine b_iinc C dX12_isCornered_105 6 rfl (by rw [eu14]; rfl) [(6, .int u14), (0, .ref (ad B x0)), (1, .int x1), (2, .int x2), (3, .int x3), (4, .int y4), (5, .int y5)] (by decide) rfl ?_
  refine b_goto C (tgt := 25) dX12_isCornered_108 (by decide) ?_
  refine b_sub [(0, .ref (ad B x0)), (1, .int x1), (2, .int x2), (3, .int x3), (4, .int y4), (5, .int y5), (6, .int u14)] [1, 2, 3, 4, 5, 6, 0] rfl ?_
  exact hK25 (y4, y5, u14, d) hf
set_option maxRecDepth 100000 in
def fX12_isCornered_B25 (N : Nat) (g : Gs) (x0 : Nat) (x1 : Int32) (x2 : Int32) (x3 : Int32) (K11 : Int32 × Int32 × Ds → Option (Int32 × Ds)) (K25 : Int32 × Int32 × Int32 × Ds → Option (Int32 × Ds)) (y4 : Int32) (y5 : Int32) (y6 : Int32) (d : Ds) : Option (Int32 × Ds) := if y4 ≤ y6 then (bd (y5 + 1) fun u12 => (K11 (y4, u12, d))) else (if y5 = x2 then (fX12_isCornered_J105 N g x0 x1 x2 x3 K11 K25 y4 y5 y6 d) else (if y6 = x3 then (fX12_isCornered_J105 N g x0 x1 x2 x3 K11 K25 y4 y5 y6 d) else (cb (fX12_has N g x1 ((y4 * x2) + x3) d) fun u18 d16 => (if u18 = 0 then (fX12_isCornered_J105 N g x0 x1 x2 x3 K11 K25 y4 y5 y6 d16) else (cb (fX12_has N g x1 ((y4 * x2) + y6) d16) fun u22 d20 => (if u22 = 0 then (fX12_isCornered_J105 N g x0 x1 x2 x3 K11 K25 y4 y5 y6 d20) else (cb (fX12_has N g x1 ((y4 * y5) + x3) d20) fun u26 d24 => (if u26 = 0 then (fX12_isCornered_J105 N g x0 x1 x2 x3 K11 K25 y4 y5 y6 d24) else (cb (fX12_has N g x1 ((y4 * y5) + y6) d24) fun u30 d28 => (if u30 = 0 then (fX12_isCornered_J105 N g x0 x1 x2 x3 K11 K25 y4 y5 y6 d28) else (some (1, d28))))))))))))
set_option maxHeartbeats 4000000 in
set_option maxRecDepth 100000 in
theorem tX12_isCornered_25 {p : Program} {l : Launch} {e : Env} {s : State} {m : MethodId} {args : Array Value} {below : List Frame} {meth : Method} {c : Code} {D : va_G} {cy : Nat → ClassId} {B : Bs} (C : Cx p s m args c cX12_isCornered 7 RX12 D cy B) (hr : meth.sig.returnType = (some .boolean)) (hlocks : meth.locks = false) {N : Nat} {g : Gs} {x0 : Nat} {x1 : Int32} {x2 : Int32} {x3 : Int32} {vz : Int32} {dz : Ds} {K11 : Int32 × Int32 × Ds → Option (Int32 × Ds)} {K25 : Int32 × Int32 × Int32 × Ds → Option (Int32 × Ds)} (hK11 : ∀ a, K11 a = some (vz, dz) → WB p l e rmX12_isCornered s m args below meth c 7 D cy B 0 0 (MQ below (QI D cy B vz g dz) args s 0 0 (wA B)) g a.2.2 [(0, .ref (ad B x0)), (1, .int x1), (2, .int x2), (3, .int x3), (4, .int a.1), (5, .int a.2.1)] 11 []) (hK25 : ∀ a, K25 a = some (vz, dz) → WB p l e rmX12_isCornered s m args below meth c 7 D cy B 0 0 (MQ below (QI D cy B vz g dz) args s 0 0 (wA B)) g a.2.2.2 [(0, .ref (ad B x0)), (1, .int x1), (2, .int x2), (3, .int x3), (4, .int a.1), (5, .int a.2.1), (6, .int a.2.2.1)] 25 []) {y4 : Int32} {y5 : Int32} {y6 : Int32} {d : Ds} (hf : fX12_isCornered_B25 N g x0 x1 x2 x3 K11 K25 y4 y5 y6 d = some (vz, dz)) : WB p l e rmX12_isCornered s m args below meth c 7 D cy B 0 0 (MQ below (QI D cy B vz g dz) args s 0 0 (wA B)) g d [(0, .ref (ad B x0)), (1, .int x1), (2, .int x2), (3, .int x3), (4, .int y4), (5, .int y5), (6, .int y6)] 25 [] := by
  unfold fX12_isCornered_B25 at hf
  refine b_iload C dX12_isCornered_25 6 rfl ?_
  refine b_iload C dX12_isCornered_27 4 rfl ?_
  refine b_icmp_ge C (tgt := 111) dX12_isCornered_29 (by decide) (fun c11 => ?_) (fun c11 => ?_)
  · have hf := it_s c11 hf
    obtain ⟨u12, eu12, hf⟩ := bd_s hf
    refine b_iinc C dX12_isCornered_111 5 rfl (by rw [eu12]; rfl) [(5, .int u12), (0, .ref (ad B x0)), (1, .int x1), (2, .int x2), (3, .int x3), (4, .int y4), (6, .int y6)] (by decide) rfl ?_
    refine b_goto C (tgt := 11) dX12_isCornered_114 (by decide) ?_
    refine b_sub [(0, .ref (ad B x0)), (1, .int x1), (2, .int x2), (3, .int x3), (4, .int y4), (5, .int u12)] [1, 2, 3, 4, 5, 0] rfl ?_
    exact hK11 (y4, u12, d) hf
  · have hf := if_s c11 hf
    refine b_iload C dX12_isCornered_32 5 rfl ?_
    refine b_iload_n C dX12_isCornered_34 2 rfl rfl ?_
    refine b_icmp_eq C (tgt := 105) dX12_isCornered_35 (by decide) (fun c13 => ?_) (fun c13 => ?_)
    · have hf := it_s c13 hf
      refine b_sub [(0, .ref (ad B x0)), (1, .int x1), (2, .int x2), (3, .int x3), (4, .int y4), (5, .int y5), (6, .int y6)] [0, 1, 2, 3, 4, 5, 6] rfl ?_
      exact tX12_isCornered_105 C hr hlocks hK11 hK25 hf
    · have hf := if_s c13 hf
      refine b_iload C dX12_isCornered_38 6 rfl ?_
      refine b_iload_n C dX12_isCornered_40 3 rfl rfl ?_
      refine b_icmp_ne C (tgt := 47) dX12_isCornered_41 (by decide) (fun c15 => ?_) (fun c15 => ?_)
      · have hf := if_s c15 hf
        refine b_iload_n C dX12_isCornered_47 1 rfl rfl ?_
        refine b_iload C dX12_isCornered_48 4 rfl ?_
        refine b_iload_n C dX12_isCornered_50 2 rfl rfl ?_
        refine b_imul C dX12_isCornered_51 ?_
        refine b_iload_n C dX12_isCornered_52 3 rfl rfl ?_
        refine b_iadd C dX12_isCornered_53 ?_
        obtain ⟨u18, d16, k17, hf⟩ := cb_s hf
        refine b_cSI C [] dX12_isCornered_54 (kX12_has l D cy B k17) lv_X12_210 ⟨rfl, rfl, Nat.le_of_ble_eq_true rfl, Nat.le_of_ble_eq_true rfl⟩ rfl (Nat.le_of_ble_eq_true rfl) ⟨Nat.zero_le _, Nat.zero_le _⟩ rfl ?_
        refine b_if_eq C (tgt := 105) dX12_isCornered_57 (by decide) (fun c19 => ?_) (fun c19 => ?_)
        · have hf := it_s c19 hf
          refine b_sub [(0, .ref (ad B x0)), (1, .int x1), (2, .int x2), (3, .int x3), (4, .int y4), (5, .int y5), (6, .int y6)] [0, 1, 2, 3, 4, 5, 6] rfl ?_
          exact tX12_isCornered_105 C hr hlocks hK11 hK25 hf
        · have hf := if_s c19 hf
          refine b_iload_n C dX12_isCornered_60 1 rfl rfl ?_
          refine b_iload C dX12_isCornered_61 4 rfl ?_
          refine b_iload_n C dX12_isCornered_63 2 rfl rfl ?_
          refine b_imul C dX12_isCornered_64 ?_
          refine b_iload C dX12_isCornered_65 6 rfl ?_
          refine b_iadd C dX12_isCornered_67 ?_
          obtain ⟨u22, d20, k21, hf⟩ := cb_s hf
          refine b_cSI C [] dX12_isCornered_68 (kX12_has l D cy B k21) lv_X12_210 ⟨rfl, rfl, Nat.le_of_ble_eq_true rfl, Nat.le_of_ble_eq_true rfl⟩ rfl (Nat.le_of_ble_eq_true rfl) ⟨Nat.zero_le _, Nat.zero_le _⟩ rfl ?_
          refine b_if_eq C (tgt := 105) dX12_isCornered_71 (by decide) (fun c23 => ?_) (fun c23 => ?_)
          · have hf := it_s c23 hf
            refine b_sub [(0, .ref (ad B x0)), (1, .int x1), (2, .int x2), (3, .int x3), (4, .int y4), (5, .int y5), (6, .int y6)] [0, 1, 2, 3, 4, 5, 6] rfl ?_
            exact tX12_isCornered_105 C hr hlocks hK11 hK25 hf
          · have hf := if_s c23 hf
            refine b_iload_n C dX12_isCornered_74 1 rfl rfl ?_
            refine b_iload C dX12_isCornered_75 4 rfl ?_
            refine b_iload C dX12_isCornered_77 5 rfl ?_
            refine b_imul C dX12_isCornered_79 ?_
            refine b_iload_n C dX12_isCornered_80 3 rfl rfl ?_
            refine b_iadd C dX12_isCornered_81 ?_
            obtain ⟨u26, d24, k25, hf⟩ := cb_s hf
            refine b_cSI C [] dX12_isCornered_82 (kX12_has l D cy B k25) lv_X12_210 ⟨rfl, rfl, Nat.le_of_ble_eq_true rfl, Nat.le_of_ble_eq_true rfl⟩ rfl (Nat.le_of_ble_eq_true rfl) ⟨Nat.zero_le _, Nat.zero_le _⟩ rfl ?_
            refine b_if_eq C (tgt := 105) dX12_isCornered_85 (by decide) (fun c27 => ?_) (fun c27 => ?_)
            · have hf := it_s c27 hf
              refine b_sub [(0, .ref (ad B x0)), (1, .int x1), (2, .int x2), (3, .int x3), (4, .int y4), (5, .int y5), (6, .int y6)] [0, 1, 2, 3, 4, 5, 6] rfl ?_
              exact tX12_isCornered_105 C hr hlocks hK11 hK25 hf
            · have hf := if_s c27 hf
              refine b_iload_n C dX12_isCornered_88 1 rfl rfl ?_
              refine b_iload C dX12_isCornered_89 4 rfl ?_
              refine b_iload C dX12_isCornered_91 5 rfl ?_
              refine b_imul C dX12_isCornered_93 ?_
              refine b_iload C dX12_isCornered_94 6 rfl ?_
              refine b_iadd C dX12_isCornered_96 ?_
              obtain ⟨u30, d28, k29, hf⟩ := cb_s hf
              refine b_cSI C [] dX12_isCornered_97 (kX12_has l D cy B k29) lv_X12_210 ⟨rfl, rfl, Nat.le_of_ble_eq_true rfl, Nat.le_of_ble_eq_true rfl⟩ rfl (Nat.le_of_ble_eq_true rfl) ⟨Nat.zero_le _, Nat.zero_le _⟩ rfl ?_
              refine b_if_eq C (tgt := 105) dX12_isCornered_100 (by decide) (fun c31 => ?_) (fun c31 => ?_)
              · have hf := it_s c31 hf
                refine b_sub [(0, .ref (ad B x0)), (1, .int x1), (2, .int x2), (3, .int x3), (4, .int y4), (5, .int y5), (6, .int y6)] [0, 1, 2, 3, 4, 5, 6] rfl ?_
                exact tX12_isCornered_105 C hr hlocks hK11 hK25 hf
              · have hf := if_s c31 hf
                refine b_iconst C (v := 1) dX12_isCornered_103 (by decide) ?_
                exact b_zret C hr hlocks (by decide) hf dX12_isCornered_104
      · have hf := it_s c15 hf
        refine b_goto C (tgt := 105) dX12_isCornered_44 (by decide) ?_
        refine b_sub [(0, .ref (ad B x0)), (1, .int x1), (2, .int x2), (3, .int x3), (4, .int y4), (5, .int y5), (6, .int y6)] [0, 1, 2, 3, 4, 5, 6] rfl ?_
        exact tX12_isCornered_105 C hr hlocks hK11 hK25 hf
def fX12_isCornered_L25 (N : Nat) (g : Gs) (x0 : Nat) (x1 : Int32) (x2 : Int32) (x3 : Int32) (K11 : Int32 × Int32 × Ds → Option (Int32 × Ds)) : Int32 × Int32 × Int32 × Ds → Option (Int32 × Ds) := lp (fun K25 a => fX12_isCornered_B25 N g x0 x1 x2 x3 K11 K25 a.1 a.2.1 a.2.2.1 a.2.2.2) N
theorem tX12_isCornered_L25 {p : Program} {l : Launch} {e : Env} {s : State} {m : MethodId} {args : Array Value} {below : List Frame} {meth : Method} {c : Code} {D : va_G} {cy : Nat → ClassId} {B : Bs} (C : Cx p s m args c cX12_isCornered 7 RX12 D cy B) (hr : meth.sig.returnType = (some .boolean)) (hlocks : meth.locks = false) {N : Nat} {g : Gs} {x0 : Nat} {x1 : Int32} {x2 : Int32} {x3 : Int32} {vz : Int32} {dz : Ds} {K11 : Int32 × Int32 × Ds → Option (Int32 × Ds)} (hK11 : ∀ a, K11 a = some (vz, dz) → WB p l e rmX12_isCornered s m args below meth c 7 D cy B 0 0 (MQ below (QI D cy B vz g dz) args s 0 0 (wA B)) g a.2.2 [(0, .ref (ad B x0)), (1, .int x1), (2, .int x2), (3, .int x3), (4, .int a.1), (5, .int a.2.1)] 11 []) (a : Int32 × Int32 × Int32 × Ds) (hf : fX12_isCornered_L25 N g x0 x1 x2 x3 K11 a = some (vz, dz)) : WB p l e rmX12_isCornered s m args below meth c 7 D cy B 0 0 (MQ below (QI D cy B vz g dz) args s 0 0 (wA B)) g a.2.2.2 [(0, .ref (ad B x0)), (1, .int x1), (2, .int x2), (3, .int x3), (4, .int a.1), (5, .int a.2.1), (6, .int a.2.2.1)] 25 [] :=
  lp_w (fun K25 hK25 a ha => tX12_isCornered_25 C hr hlocks hK11 hK25 ha) N a hf
set_option maxRecDepth 100000 in
def fX12_isCornered_B11 (N : Nat) (g : Gs) (x0 : Nat) (x1 : Int32) (x2 : Int32) (x3 : Int32) (K11 : Int32 × Int32 × Ds → Option (Int32 × Ds)) (y4 : Int32) (y5 : Int32) (d : Ds) : Option (Int32 × Ds) := gd (chk g x0 11) <| ob (gR g x0 17) fun r7 => (gd (chk g r7 102) <| gd (¬ ((0 : Int32) < 0 ∨ gL g r7 ≤ (0 : Int32).toNatClampNeg)) <| if (dI d r7 (0 : Int32).toNatClampNeg) ≤ y5 then (some (0, d)) else (fX12_isCornered_L25 N g x0 x1 x2 x3 K11 (y4, y5, 0, d)))
set_option maxHeartbeats 4000000 in
set_option maxRecDepth 100000 in
theorem tX12_isCornered_11 {p : Program} {l : Launch} {e : Env} {s : State} {m : MethodId} {args : Array Value} {below : List Frame} {meth : Method} {c : Code} {D : va_G} {cy : Nat → ClassId} {B : Bs} (C : Cx p s m args c cX12_isCornered 7 RX12 D cy B) (hr : meth.sig.returnType = (some .boolean)) (hlocks : meth.locks = false) {N : Nat} {g : Gs} {x0 : Nat} {x1 : Int32} {x2 : Int32} {x3 : Int32} {vz : Int32} {dz : Ds} {K11 : Int32 × Int32 × Ds → Option (Int32 × Ds)} (hK11 : ∀ a, K11 a = some (vz, dz) → WB p l e rmX12_isCornered s m args below meth c 7 D cy B 0 0 (MQ below (QI D cy B vz g dz) args s 0 0 (wA B)) g a.2.2 [(0, .ref (ad B x0)), (1, .int x1), (2, .int x2), (3, .int x3), (4, .int a.1), (5, .int a.2.1)] 11 []) {y4 : Int32} {y5 : Int32} {d : Ds} (hf : fX12_isCornered_B11 N g x0 x1 x2 x3 K11 y4 y5 d = some (vz, dz)) : WB p l e rmX12_isCornered s m args below meth c 7 D cy B 0 0 (MQ below (QI D cy B vz g dz) args s 0 0 (wA B)) g d [(0, .ref (ad B x0)), (1, .int x1), (2, .int x2), (3, .int x3), (4, .int y4), (5, .int y5)] 11 [] := by
  unfold fX12_isCornered_B11 at hf
  refine b_iload C dX12_isCornered_11 5 rfl ?_
  refine b_aload_n C dX12_isCornered_13 0 rfl rfl ?_
  obtain ⟨h6, hf⟩ := gd_s hf
  obtain ⟨r7, er7, hf⟩ := ob_s hf
  refine b_gR C dX12_isCornered_14 fl_X12_40 h6 er7 ?_
  refine b_iconst C (v := 0) dX12_isCornered_17 (by decide) ?_
  obtain ⟨h8, hf⟩ := gd_s hf
  obtain ⟨h9, hf⟩ := gd_s hf
  refine b_iald C h8 h9 dX12_isCornered_18 ?_
  refine b_icmp_ge C (tgt := 117) dX12_isCornered_19 (by decide) (fun c10 => ?_) (fun c10 => ?_)
  · have hf := it_s c10 hf
    refine b_iconst C (v := 0) dX12_isCornered_117 (by decide) ?_
    exact b_zret C hr hlocks (by decide) hf dX12_isCornered_118
  · have hf := if_s c10 hf
    refine b_iconst C (v := 0) dX12_isCornered_22 (by decide) ?_
    refine b_istore C dX12_isCornered_23 [(6, .int 0), (0, .ref (ad B x0)), (1, .int x1), (2, .int x2), (3, .int x3), (4, .int y4), (5, .int y5)] (by decide) rfl ?_
    refine b_sub [(0, .ref (ad B x0)), (1, .int x1), (2, .int x2), (3, .int x3), (4, .int y4), (5, .int y5), (6, .int 0)] [1, 2, 3, 4, 5, 6, 0] rfl ?_
    exact tX12_isCornered_L25 C hr hlocks hK11 (y4, y5, 0, d) hf
def fX12_isCornered_L11 (N : Nat) (g : Gs) (x0 : Nat) (x1 : Int32) (x2 : Int32) (x3 : Int32) : Int32 × Int32 × Ds → Option (Int32 × Ds) := lp (fun K11 a => fX12_isCornered_B11 N g x0 x1 x2 x3 K11 a.1 a.2.1 a.2.2) N
theorem tX12_isCornered_L11 {p : Program} {l : Launch} {e : Env} {s : State} {m : MethodId} {args : Array Value} {below : List Frame} {meth : Method} {c : Code} {D : va_G} {cy : Nat → ClassId} {B : Bs} (C : Cx p s m args c cX12_isCornered 7 RX12 D cy B) (hr : meth.sig.returnType = (some .boolean)) (hlocks : meth.locks = false) {N : Nat} {g : Gs} {x0 : Nat} {x1 : Int32} {x2 : Int32} {x3 : Int32} {vz : Int32} {dz : Ds} (a : Int32 × Int32 × Ds) (hf : fX12_isCornered_L11 N g x0 x1 x2 x3 a = some (vz, dz)) : WB p l e rmX12_isCornered s m args below meth c 7 D cy B 0 0 (MQ below (QI D cy B vz g dz) args s 0 0 (wA B)) g a.2.2 [(0, .ref (ad B x0)), (1, .int x1), (2, .int x2), (3, .int x3), (4, .int a.1), (5, .int a.2.1)] 11 [] :=
  lp_w (fun K11 hK11 a ha => tX12_isCornered_11 C hr hlocks hK11 ha) N a hf
set_option maxRecDepth 100000 in
def fX12_isCornered (N : Nat) (g : Gs) (x0 : Nat) (x1 : Int32) (x2 : Int32) (x3 : Int32) (d : Ds) : Option (Int32 × Ds) := gd (chk g x0 11) <| ob (gR g x0 17) fun r2 => (gd (chk g r2 102) <| gd (¬ ((1 : Int32) < 0 ∨ gL g r2 ≤ (1 : Int32).toNatClampNeg)) <| bd ((dI d r2 (1 : Int32).toNatClampNeg)) fun u5 => (fX12_isCornered_L11 N g x0 x1 x2 x3 (u5, 0, d)))
set_option maxHeartbeats 4000000 in
set_option maxRecDepth 100000 in
theorem tX12_isCornered_E {p : Program} {l : Launch} {e : Env} {s : State} {m : MethodId} {args : Array Value} {below : List Frame} {meth : Method} {c : Code} {D : va_G} {cy : Nat → ClassId} {B : Bs} (C : Cx p s m args c cX12_isCornered 7 RX12 D cy B) (hr : meth.sig.returnType = (some .boolean)) (hlocks : meth.locks = false) {N : Nat} {g : Gs} {x0 : Nat} {x1 : Int32} {x2 : Int32} {x3 : Int32} {vz : Int32} {dz : Ds} {d : Ds} (hf : fX12_isCornered N g x0 x1 x2 x3 d = some (vz, dz)) : WB p l e rmX12_isCornered s m args below meth c 7 D cy B 0 0 (MQ below (QI D cy B vz g dz) args s 0 0 (wA B)) g d [(0, .ref (ad B x0)), (1, .int x1), (2, .int x2), (3, .int x3)] 0 [] := by
  unfold fX12_isCornered at hf
  refine b_aload_n C dX12_isCornered_0 0 rfl rfl ?_
  obtain ⟨h1, hf⟩ := gd_s hf
  obtain ⟨r2, er2, hf⟩ := ob_s hf
  refine b_gR C dX12_isCornered_1 fl_X12_40 h1 er2 ?_
  refine b_iconst C (v := 1) dX12_isCornered_4 (by decide) ?_
  obtain ⟨h3, hf⟩ := gd_s hf
  obtain ⟨h4, hf⟩ := gd_s hf
  refine b_iald C h3 h4 dX12_isCornered_5 ?_
  obtain ⟨u5, eu5, hf⟩ := bd_s hf
  refine b_topI eu5 ?_
  refine b_istore C dX12_isCornered_6 [(4, .int u5), (0, .ref (ad B x0)), (1, .int x1), (2, .int x2), (3, .int x3)] (by decide) rfl ?_
  refine b_iconst C (v := 0) dX12_isCornered_8 (by decide) ?_
  refine b_istore C dX12_isCornered_9 [(5, .int 0), (4, .int u5), (0, .ref (ad B x0)), (1, .int x1), (2, .int x2), (3, .int x3)] (by decide) rfl ?_
  refine b_sub [(0, .ref (ad B x0)), (1, .int x1), (2, .int x2), (3, .int x3), (4, .int u5), (5, .int 0)] [2, 3, 4, 5, 1, 0] rfl ?_
  exact tX12_isCornered_L11 C hr hlocks (u5, 0, d) hf
theorem kX12_isCornered (l : Launch) (D : va_G) (cy : Nat → ClassId) (B : Bs) {N : Nat} {g : Gs} {x0 : Nat} {x1 : Int32} {x2 : Int32} {x3 : Int32} {vz : Int32} {dz : Ds} {d : Ds} (hf : fX12_isCornered N g x0 x1 x2 x3 d = some (vz, dz)) : Met l yX12_isCornered (.code yX12_isCornered cX12_isCornered 7 (some .boolean) :: wl) rmX12_isCornered (PC D cy B [.ref (ad B x0), .int x1, .int x2, .int x3] g d) (QI D cy B vz g dz) 0 0 (wA B) :=
  met_of (by decide +kernel) (Nat.le_of_ble_eq_true rfl) (fun p e s m args below meth c C hr hlocks _ => b_sub [(0, .ref (ad B x0)), (1, .int x1), (2, .int x2), (3, .int x3)] [0, 1, 2, 3] rfl (tX12_isCornered_E C hr hlocks hf))
/-! KeyMatrixModel.barredBy(I)I -/
theorem yo_X12_isCornered : yX12_isCornered.cls ≠ "java/lang/invoke/MethodHandle" ∧ yX12_isCornered.cls ≠ "java/lang/invoke/VarHandle" ∧ (parseMethodDescriptor yX12_isCornered.desc).map (fun d => d.parameters.length) = some 3 := by decide +kernel
theorem co_X12_isCornered : Cond.code yX12_isCornered cX12_isCornered 7 (some .boolean) ∈ wl := mW (mT6 (List.mem_of_getElem? (i := 99) (by decide +kernel))) rfl
theorem in_X12_isCornered : Cond.initialized yX12_isCornered.cls ∈ wl := mW (mT1 (List.mem_of_getElem? (i := 12) (by decide +kernel))) rfl
theorem im_X12_isCornered : Cond.instanceMethod yX12_isCornered ∈ wl := mW (mT6 (List.mem_of_getElem? (i := 98) (by decide +kernel))) rfl
theorem se_X12_isCornered : Cond.selects yX12_isCornered.cls yX12_isCornered yX12_isCornered ∈ wl := mW (mT0 (List.mem_of_getElem? (i := 58) (by decide +kernel))) rfl
theorem lv_X12_217 : LV RX12 217 yX12_isCornered cX12_isCornered 7 (some .boolean) 3 11 := ⟨⟨(RX12, TX12, 33), rfl, rfl⟩, yo_X12_isCornered, mW (mT6 (List.mem_of_getElem? (i := 96) (by decide +kernel))) rfl, im_X12_isCornered, se_X12_isCornered, in_X12_isCornered, co_X12_isCornered⟩
theorem dX12_barredBy_0 : decode cX12_barredBy 0 = .ok (.aload_n 0, 1) := by decide +kernel
theorem dX12_barredBy_1 : decode cX12_barredBy 1 = .ok (.getfield 40, 3) := by decide +kernel
theorem dX12_barredBy_4 : decode cX12_barredBy 4 = .ok (.iconst 2, 1) := by decide +kernel
theorem dX12_barredBy_5 : decode cX12_barredBy 5 = .ok (.iaload, 1) := by decide +kernel
theorem dX12_barredBy_6 : decode cX12_barredBy 6 = .ok (.iconst 1, 1) := by decide +kernel
theorem dX12_barredBy_7 : decode cX12_barredBy 7 = .ok (.if_icmp .ne 5, 3) := by decide +kernel
theorem dX12_barredBy_10 : decode cX12_barredBy 10 = .ok (.iconst 0, 1) := by decide +kernel
theorem dX12_barredBy_11 : decode cX12_barredBy 11 = .ok (.ireturn, 1) := by decide +kernel
theorem dX12_barredBy_12 : decode cX12_barredBy 12 = .ok (.iconst 0, 1) := by decide +kernel
theorem dX12_barredBy_13 : decode cX12_barredBy 13 = .ok (.istore_n 2, 1) := by decide +kernel
theorem dX12_barredBy_14 : decode cX12_barredBy 14 = .ok (.iconst 0, 1) := by decide +kernel
theorem dX12_barredBy_15 : decode cX12_barredBy 15 = .ok (.istore_n 3, 1) := by decide +kernel
theorem dX12_barredBy_16 : decode cX12_barredBy 16 = .ok (.iload_n 3, 1) := by decide +kernel
theorem dX12_barredBy_17 : decode cX12_barredBy 17 = .ok (.aload_n 0, 1) := by decide +kernel
theorem dX12_barredBy_18 : decode cX12_barredBy 18 = .ok (.invokevirtual 206, 3) := by decide +kernel
theorem dX12_barredBy_21 : decode cX12_barredBy 21 = .ok (.if_icmp .ge 39, 3) := by decide +kernel
theorem dX12_barredBy_24 : decode cX12_barredBy 24 = .ok (.aload_n 0, 1) := by decide +kernel
theorem dX12_barredBy_25 : decode cX12_barredBy 25 = .ok (.iload_n 1, 1) := by decide +kernel
theorem dX12_barredBy_26 : decode cX12_barredBy 26 = .ok (.iload_n 3, 1) := by decide +kernel
theorem dX12_barredBy_27 : decode cX12_barredBy 27 = .ok (.aload_n 0, 1) := by decide +kernel
theorem dX12_barredBy_28 : decode cX12_barredBy 28 = .ok (.getfield 40, 3) := by decide +kernel
theorem dX12_barredBy_31 : decode cX12_barredBy 31 = .ok (.iconst 1, 1) := by decide +kernel
theorem dX12_barredBy_32 : decode cX12_barredBy 32 = .ok (.iaload, 1) := by decide +kernel
theorem dX12_barredBy_33 : decode cX12_barredBy 33 = .ok (.idiv, 1) := by decide +kernel
theorem dX12_barredBy_34 : decode cX12_barredBy 34 = .ok (.iload_n 3, 1) := by decide +kernel
theorem dX12_barredBy_35 : decode cX12_barredBy 35 = .ok (.aload_n 0, 1) := by decide +kernel
theorem dX12_barredBy_36 : decode cX12_barredBy 36 = .ok (.getfield 40, 3) := by decide +kernel
theorem dX12_barredBy_39 : decode cX12_barredBy 39 = .ok (.iconst 1, 1) := by decide +kernel
theorem dX12_barredBy_40 : decode cX12_barredBy 40 = .ok (.iaload, 1) := by decide +kernel
theorem dX12_barredBy_41 : decode cX12_barredBy 41 = .ok (.irem, 1) := by decide +kernel
theorem dX12_barredBy_42 : decode cX12_barredBy 42 = .ok (.invokevirtual 217, 3) := by decide +kernel
theorem dX12_barredBy_45 : decode cX12_barredBy 45 = .ok (.ifCond .eq 9, 3) := by decide +kernel
theorem dX12_barredBy_48 : decode cX12_barredBy 48 = .ok (.iload_n 2, 1) := by decide +kernel
theorem dX12_barredBy_49 : decode cX12_barredBy 49 = .ok (.iconst 1, 1) := by decide +kernel
theorem dX12_barredBy_50 : decode cX12_barredBy 50 = .ok (.iload_n 3, 1) := by decide +kernel
theorem dX12_barredBy_51 : decode cX12_barredBy 51 = .ok (.ishl, 1) := by decide +kernel
theorem dX12_barredBy_52 : decode cX12_barredBy 52 = .ok (.ior, 1) := by decide +kernel
theorem dX12_barredBy_53 : decode cX12_barredBy 53 = .ok (.istore_n 2, 1) := by decide +kernel
theorem dX12_barredBy_54 : decode cX12_barredBy 54 = .ok (.iinc 3 1, 3) := by decide +kernel
theorem dX12_barredBy_57 : decode cX12_barredBy 57 = .ok (.goto (-41), 3) := by decide +kernel
theorem dX12_barredBy_60 : decode cX12_barredBy 60 = .ok (.iload_n 2, 1) := by decide +kernel
theorem dX12_barredBy_61 : decode cX12_barredBy 61 = .ok (.ireturn, 1) := by decide +kernel
def rmX12_barredBy : Room := { frames := 2, cells := 0, slots := 0, locals := 47 }
set_option maxRecDepth 100000 in
def fX12_barredBy_J54 (N : Nat) (g : Gs) (x0 : Nat) (x1 : Int32) (K16 : Int32 × Int32 × Ds → Option (Int32 × Ds)) (y2 : Int32) (y3 : Int32) (d : Ds) : Option (Int32 × Ds) := bd (y3 + 1) fun u19 => (K16 (y2, u19, d))
set_option maxHeartbeats 4000000 in
set_option maxRecDepth 100000 in
theorem tX12_barredBy_54 {p : Program} {l : Launch} {e : Env} {s : State} {m : MethodId} {args : Array Value} {below : List Frame} {meth : Method} {c : Code} {D : va_G} {cy : Nat → ClassId} {B : Bs} (C : Cx p s m args c cX12_barredBy 4 RX12 D cy B) (hr : meth.sig.returnType = (some .int)) (hlocks : meth.locks = false) {N : Nat} {g : Gs} {x0 : Nat} {x1 : Int32} {vz : Int32} {dz : Ds} {K16 : Int32 × Int32 × Ds → Option (Int32 × Ds)} (hK16 : ∀ a, K16 a = some (vz, dz) → WB p l e rmX12_barredBy s m args below meth c 4 D cy B 0 0 (MQ below (QI D cy B vz g dz) args s 0 0 (wA B)) g a.2.2 [(0, .ref (ad B x0)), (1, .int x1), (2, .int a.1), (3, .int a.2.1)] 16 []) {y2 : Int32} {y3 : Int32} {d : Ds} (hf : fX12_barredBy_J54 N g x0 x1 K16 y2 y3 d = some (vz, dz)) : WB p l e rmX12_barredBy s m args below meth c 4 D cy B 0 0 (MQ below (QI D cy B vz g dz) args s 0 0 (wA B)) g d [(0, .ref (ad B x0)), (1, .int x1), (2, .int y2), (3, .int y3)] 54 [] := by
  unfold fX12_barredBy_J54 at hf
  obtain ⟨u19, eu19, hf⟩ := bd_s hf
  refine b_iinc C dX12_barredBy_54 3 rfl (by rw [eu19]; rfl) [(3, .int u19), (0, .ref (ad B x0)), (1, .int x1), (2, .int y2)] (by decide) rfl ?_
  refine b_goto C (tgt := 16) dX12_barredBy_57 (by decide) ?_
  refine b_sub [(0, .ref (ad B x0)), (1, .int x1), (2, .int y2), (3, .int u19)] [1, 2, 3, 0] rfl ?_
  exact hK16 (y2, u19, d) hf
set_option maxRecDepth 100000 in
def fX12_barredBy_B16 (N : Nat) (g : Gs) (x0 : Nat) (x1 : Int32) (K16 : Int32 × Int32 × Ds → Option (Int32 × Ds)) (y2 : Int32) (y3 : Int32) (d : Ds) : Option (Int32 × Ds) := gd (chk g x0 11) <| cb (fX12_keysMany N g x0 d) fun u9 d7 => (if u9 ≤ y3 then (some (y2, d7)) else (ob (gR g x0 17) fun r11 => (gd (chk g r11 102) <| gd (¬ ((1 : Int32) < 0 ∨ gL g r11 ≤ (1 : Int32).toNatClampNeg)) <| gd (¬ (dI d7 r11 (1 : Int32).toNatClampNeg) = 0) <| cb (fX12_isCornered N g x0 x1 (y3 / (dI d7 r11 (1 : Int32).toNatClampNeg)) (y3 - y3 / (dI d7 r11 (1 : Int32).toNatClampNeg) * (dI d7 r11 (1 : Int32).toNatClampNeg)) d7) fun u17 d15 => (if u17 = 0 then (fX12_barredBy_J54 N g x0 x1 K16 y2 y3 d15) else (bd ((y2 ||| ((1 : Int32) <<< (y3 &&& 31)))) fun u20 => (fX12_barredBy_J54 N g x0 x1 K16 u20 y3 d15))))))
set_option maxHeartbeats 4000000 in
set_option maxRecDepth 100000 in
theorem tX12_barredBy_16 {p : Program} {l : Launch} {e : Env} {s : State} {m : MethodId} {args : Array Value} {below : List Frame} {meth : Method} {c : Code} {D : va_G} {cy : Nat → ClassId} {B : Bs} (C : Cx p s m args c cX12_barredBy 4 RX12 D cy B) (hr : meth.sig.returnType = (some .int)) (hlocks : meth.locks = false) {N : Nat} {g : Gs} {x0 : Nat} {x1 : Int32} {vz : Int32} {dz : Ds} {K16 : Int32 × Int32 × Ds → Option (Int32 × Ds)} (hK16 : ∀ a, K16 a = some (vz, dz) → WB p l e rmX12_barredBy s m args below meth c 4 D cy B 0 0 (MQ below (QI D cy B vz g dz) args s 0 0 (wA B)) g a.2.2 [(0, .ref (ad B x0)), (1, .int x1), (2, .int a.1), (3, .int a.2.1)] 16 []) {y2 : Int32} {y3 : Int32} {d : Ds} (hf : fX12_barredBy_B16 N g x0 x1 K16 y2 y3 d = some (vz, dz)) : WB p l e rmX12_barredBy s m args below meth c 4 D cy B 0 0 (MQ below (QI D cy B vz g dz) args s 0 0 (wA B)) g d [(0, .ref (ad B x0)), (1, .int x1), (2, .int y2), (3, .int y3)] 16 [] := by
  unfold fX12_barredBy_B16 at hf
  refine b_iload_n C dX12_barredBy_16 3 rfl rfl ?_
  refine b_aload_n C dX12_barredBy_17 0 rfl rfl ?_
  obtain ⟨h6, hf⟩ := gd_s hf
  obtain ⟨u9, d7, k8, hf⟩ := cb_s hf
  refine b_cVI C [.int y3] dX12_barredBy_18 (kX12_keysMany l D cy B k8) lv_X12_206 ⟨rfl, rfl, Nat.le_of_ble_eq_true rfl, Nat.le_of_ble_eq_true rfl⟩ h6 (by decide) rfl (Nat.le_of_ble_eq_true rfl) ⟨Nat.zero_le _, Nat.zero_le _⟩ rfl ?_
  refine b_icmp_ge C (tgt := 60) dX12_barredBy_21 (by decide) (fun c10 => ?_) (fun c10 => ?_)
  · have hf := it_s c10 hf
    refine b_iload_n C dX12_barredBy_60 2 rfl rfl ?_
    exact b_iret C hr hlocks hf dX12_barredBy_61
  · have hf := if_s c10 hf
    refine b_aload_n C dX12_barredBy_24 0 rfl rfl ?_
    refine b_iload_n C dX12_barredBy_25 1 rfl rfl ?_
    refine b_iload_n C dX12_barredBy_26 3 rfl rfl ?_
    refine b_aload_n C dX12_barredBy_27 0 rfl rfl ?_
    obtain ⟨r11, er11, hf⟩ := ob_s hf
    refine b_gR C dX12_barredBy_28 fl_X12_40 h6 er11 ?_
    refine b_iconst C (v := 1) dX12_barredBy_31 (by decide) ?_
    obtain ⟨h12, hf⟩ := gd_s hf
    obtain ⟨h13, hf⟩ := gd_s hf
    refine b_iald C h12 h13 dX12_barredBy_32 ?_
    obtain ⟨h14, hf⟩ := gd_s hf
    refine b_idiv C dX12_barredBy_33 h14 ?_
    refine b_iload_n C dX12_barredBy_34 3 rfl rfl ?_
    refine b_aload_n C dX12_barredBy_35 0 rfl rfl ?_
    refine b_gR C dX12_barredBy_36 fl_X12_40 h6 er11 ?_
    refine b_iconst C (v := 1) dX12_barredBy_39 (by decide) ?_
    refine b_iald C h12 h13 dX12_barredBy_40 ?_
    refine b_irem C dX12_barredBy_41 h14 ?_
    obtain ⟨u17, d15, k16, hf⟩ := cb_s hf
    refine b_cVI C [] dX12_barredBy_42 (kX12_isCornered l D cy B k16) lv_X12_217 ⟨rfl, rfl, Nat.le_of_ble_eq_true rfl, Nat.le_of_ble_eq_true rfl⟩ h6 (by decide) rfl (Nat.le_of_ble_eq_true rfl) ⟨Nat.zero_le _, Nat.zero_le _⟩ rfl ?_
    refine b_if_eq C (tgt := 54) dX12_barredBy_45 (by decide) (fun c18 => ?_) (fun c18 => ?_)
    · have hf := it_s c18 hf
      refine b_sub [(0, .ref (ad B x0)), (1, .int x1), (2, .int y2), (3, .int y3)] [0, 1, 2, 3] rfl ?_
      exact tX12_barredBy_54 C hr hlocks hK16 hf
    · have hf := if_s c18 hf
      refine b_iload_n C dX12_barredBy_48 2 rfl rfl ?_
      refine b_iconst C (v := 1) dX12_barredBy_49 (by decide) ?_
      refine b_iload_n C dX12_barredBy_50 3 rfl rfl ?_
      refine b_ishl C dX12_barredBy_51 ?_
      refine b_ior C dX12_barredBy_52 ?_
      obtain ⟨u20, eu20, hf⟩ := bd_s hf
      refine b_topI eu20 ?_
      refine b_istore_n C dX12_barredBy_53 rfl [(2, .int u20), (0, .ref (ad B x0)), (1, .int x1), (3, .int y3)] (by decide) rfl ?_
      refine b_sub [(0, .ref (ad B x0)), (1, .int x1), (2, .int u20), (3, .int y3)] [1, 2, 0, 3] rfl ?_
      exact tX12_barredBy_54 C hr hlocks hK16 hf
def fX12_barredBy_L16 (N : Nat) (g : Gs) (x0 : Nat) (x1 : Int32) : Int32 × Int32 × Ds → Option (Int32 × Ds) := lp (fun K16 a => fX12_barredBy_B16 N g x0 x1 K16 a.1 a.2.1 a.2.2) N
theorem tX12_barredBy_L16 {p : Program} {l : Launch} {e : Env} {s : State} {m : MethodId} {args : Array Value} {below : List Frame} {meth : Method} {c : Code} {D : va_G} {cy : Nat → ClassId} {B : Bs} (C : Cx p s m args c cX12_barredBy 4 RX12 D cy B) (hr : meth.sig.returnType = (some .int)) (hlocks : meth.locks = false) {N : Nat} {g : Gs} {x0 : Nat} {x1 : Int32} {vz : Int32} {dz : Ds} (a : Int32 × Int32 × Ds) (hf : fX12_barredBy_L16 N g x0 x1 a = some (vz, dz)) : WB p l e rmX12_barredBy s m args below meth c 4 D cy B 0 0 (MQ below (QI D cy B vz g dz) args s 0 0 (wA B)) g a.2.2 [(0, .ref (ad B x0)), (1, .int x1), (2, .int a.1), (3, .int a.2.1)] 16 [] :=
  lp_w (fun K16 hK16 a ha => tX12_barredBy_16 C hr hlocks hK16 ha) N a hf
set_option maxRecDepth 100000 in
def fX12_barredBy (N : Nat) (g : Gs) (x0 : Nat) (x1 : Int32) (d : Ds) : Option (Int32 × Ds) := gd (chk g x0 11) <| ob (gR g x0 17) fun r2 => (gd (chk g r2 102) <| gd (¬ ((2 : Int32) < 0 ∨ gL g r2 ≤ (2 : Int32).toNatClampNeg)) <| if (dI d r2 (2 : Int32).toNatClampNeg) = (1 : Int32) then (some (0, d)) else (fX12_barredBy_L16 N g x0 x1 (0, 0, d)))
set_option maxHeartbeats 4000000 in
set_option maxRecDepth 100000 in
theorem tX12_barredBy_E {p : Program} {l : Launch} {e : Env} {s : State} {m : MethodId} {args : Array Value} {below : List Frame} {meth : Method} {c : Code} {D : va_G} {cy : Nat → ClassId} {B : Bs} (C : Cx p s m args c cX12_barredBy 4 RX12 D cy B) (hr : meth.sig.returnType = (some .int)) (hlocks : meth.locks = false) {N : Nat} {g : Gs} {x0 : Nat} {x1 : Int32} {vz : Int32} {dz : Ds} {d : Ds} (hf : fX12_barredBy N g x0 x1 d = some (vz, dz)) : WB p l e rmX12_barredBy s m args below meth c 4 D cy B 0 0 (MQ below (QI D cy B vz g dz) args s 0 0 (wA B)) g d [(0, .ref (ad B x0)), (1, .int x1)] 0 [] := by
  unfold fX12_barredBy at hf
  refine b_aload_n C dX12_barredBy_0 0 rfl rfl ?_
  obtain ⟨h1, hf⟩ := gd_s hf
  obtain ⟨r2, er2, hf⟩ := ob_s hf
  refine b_gR C dX12_barredBy_1 fl_X12_40 h1 er2 ?_
  refine b_iconst C (v := 2) dX12_barredBy_4 (by decide) ?_
  obtain ⟨h3, hf⟩ := gd_s hf
  obtain ⟨h4, hf⟩ := gd_s hf
  refine b_iald C h3 h4 dX12_barredBy_5 ?_
  refine b_iconst C (v := 1) dX12_barredBy_6 (by decide) ?_
  refine b_icmp_ne C (tgt := 12) dX12_barredBy_7 (by decide) (fun c5 => ?_) (fun c5 => ?_)
  · have hf := if_s c5 hf
    refine b_iconst C (v := 0) dX12_barredBy_12 (by decide) ?_
    refine b_istore_n C dX12_barredBy_13 rfl [(2, .int 0), (0, .ref (ad B x0)), (1, .int x1)] (by decide) rfl ?_
    refine b_iconst C (v := 0) dX12_barredBy_14 (by decide) ?_
    refine b_istore_n C dX12_barredBy_15 rfl [(3, .int 0), (2, .int 0), (0, .ref (ad B x0)), (1, .int x1)] (by decide) rfl ?_
    refine b_sub [(0, .ref (ad B x0)), (1, .int x1), (2, .int 0), (3, .int 0)] [2, 3, 1, 0] rfl ?_
    exact tX12_barredBy_L16 C hr hlocks (0, 0, d) hf
  · have hf := it_s c5 hf
    refine b_iconst C (v := 0) dX12_barredBy_10 (by decide) ?_
    exact b_iret C hr hlocks hf dX12_barredBy_11
theorem kX12_barredBy (l : Launch) (D : va_G) (cy : Nat → ClassId) (B : Bs) {N : Nat} {g : Gs} {x0 : Nat} {x1 : Int32} {vz : Int32} {dz : Ds} {d : Ds} (hf : fX12_barredBy N g x0 x1 d = some (vz, dz)) : Met l yX12_barredBy (.code yX12_barredBy cX12_barredBy 4 (some .int) :: wl) rmX12_barredBy (PC D cy B [.ref (ad B x0), .int x1] g d) (QI D cy B vz g dz) 0 0 (wA B) :=
  met_of (by decide +kernel) (Nat.le_of_ble_eq_true rfl) (fun p e s m args below meth c C hr hlocks _ => b_sub [(0, .ref (ad B x0)), (1, .int x1)] [0, 1] rfl (tX12_barredBy_E C hr hlocks hf))
/-! KeyMatrixModel.press(IZ)Z -/
theorem yo_X12_isKey : yX12_isKey.cls ≠ "java/lang/invoke/MethodHandle" ∧ yX12_isKey.cls ≠ "java/lang/invoke/VarHandle" ∧ (parseMethodDescriptor yX12_isKey.desc).map (fun d => d.parameters.length) = some 1 := by decide +kernel
theorem co_X12_isKey : Cond.code yX12_isKey cX12_isKey 2 (some .boolean) ∈ wl := mW (mT6 (List.mem_of_getElem? (i := 69) (by decide +kernel))) rfl
theorem in_X12_isKey : Cond.initialized yX12_isKey.cls ∈ wl := mW (mT1 (List.mem_of_getElem? (i := 12) (by decide +kernel))) rfl
theorem im_X12_isKey : Cond.instanceMethod yX12_isKey ∈ wl := mW (mT6 (List.mem_of_getElem? (i := 68) (by decide +kernel))) rfl
theorem se_X12_isKey : Cond.selects yX12_isKey.cls yX12_isKey yX12_isKey ∈ wl := mW (mT0 (List.mem_of_getElem? (i := 53) (by decide +kernel))) rfl
theorem lv_X12_220 : LV RX12 220 yX12_isKey cX12_isKey 2 (some .boolean) 1 11 := ⟨⟨(RX12, TX12, 33), rfl, rfl⟩, yo_X12_isKey, mW (mT6 (List.mem_of_getElem? (i := 66) (by decide +kernel))) rfl, im_X12_isKey, se_X12_isKey, in_X12_isKey, co_X12_isKey⟩
theorem dX12_press_0 : decode cX12_press 0 = .ok (.aload_n 0, 1) := by decide +kernel
theorem dX12_press_1 : decode cX12_press 1 = .ok (.iload_n 1, 1) := by decide +kernel
theorem dX12_press_2 : decode cX12_press 2 = .ok (.invokevirtual 220, 3) := by decide +kernel
theorem dX12_press_5 : decode cX12_press 5 = .ok (.ifCond .eq 19, 3) := by decide +kernel
theorem dX12_press_8 : decode cX12_press 8 = .ok (.aload_n 0, 1) := by decide +kernel
theorem dX12_press_9 : decode cX12_press 9 = .ok (.getfield 40, 3) := by decide +kernel
theorem dX12_press_12 : decode cX12_press 12 = .ok (.sipush 352, 3) := by decide +kernel
theorem dX12_press_15 : decode cX12_press 15 = .ok (.iaload, 1) := by decide +kernel
theorem dX12_press_16 : decode cX12_press 16 = .ok (.iload_n 1, 1) := by decide +kernel
theorem dX12_press_17 : decode cX12_press 17 = .ok (.invokestatic 210, 3) := by decide +kernel
theorem dX12_press_20 : decode cX12_press 20 = .ok (.iload_n 2, 1) := by decide +kernel
theorem dX12_press_21 : decode cX12_press 21 = .ok (.if_icmp .ne 5, 3) := by decide +kernel
theorem dX12_press_24 : decode cX12_press 24 = .ok (.iconst 0, 1) := by decide +kernel
theorem dX12_press_25 : decode cX12_press 25 = .ok (.ireturn, 1) := by decide +kernel
theorem dX12_press_26 : decode cX12_press 26 = .ok (.aload_n 0, 1) := by decide +kernel
theorem dX12_press_27 : decode cX12_press 27 = .ok (.getfield 40, 3) := by decide +kernel
theorem dX12_press_30 : decode cX12_press 30 = .ok (.sipush 352, 3) := by decide +kernel
theorem dX12_press_33 : decode cX12_press 33 = .ok (.dup2, 1) := by decide +kernel
theorem dX12_press_34 : decode cX12_press 34 = .ok (.iaload, 1) := by decide +kernel
theorem dX12_press_35 : decode cX12_press 35 = .ok (.iconst 1, 1) := by decide +kernel
theorem dX12_press_36 : decode cX12_press 36 = .ok (.iload_n 1, 1) := by decide +kernel
theorem dX12_press_37 : decode cX12_press 37 = .ok (.ishl, 1) := by decide +kernel
theorem dX12_press_38 : decode cX12_press 38 = .ok (.ixor, 1) := by decide +kernel
theorem dX12_press_39 : decode cX12_press 39 = .ok (.iastore, 1) := by decide +kernel
theorem dX12_press_40 : decode cX12_press 40 = .ok (.iconst 1, 1) := by decide +kernel
theorem dX12_press_41 : decode cX12_press 41 = .ok (.ireturn, 1) := by decide +kernel
def rmX12_press : Room := { frames := 2, cells := 0, slots := 0, locals := 43 }
set_option maxRecDepth 100000 in
def fX12_press_J24 (N : Nat) (g : Gs) (x0 : Nat) (x1 : Int32) (x2 : Int32) (d : Ds) : Option (Int32 × Ds) := some (0, d)
set_option maxHeartbeats 4000000 in
set_option maxRecDepth 100000 in
theorem tX12_press_24 {p : Program} {l : Launch} {e : Env} {s : State} {m : MethodId} {args : Array Value} {below : List Frame} {meth : Method} {c : Code} {D : va_G} {cy : Nat → ClassId} {B : Bs} (C : Cx p s m args c cX12_press 3 RX12 D cy B) (hr : meth.sig.returnType = (some .boolean)) (hlocks : meth.locks = false) {N : Nat} {g : Gs} {x0 : Nat} {x1 : Int32} {x2 : Int32} {vz : Int32} {dz : Ds} {d : Ds} (hf : fX12_press_J24 N g x0 x1 x2 d = some (vz, dz)) : WB p l e rmX12_press s m args below meth c 3 D cy B 0 0 (MQ below (QI D cy B vz g dz) args s 0 0 (wA B)) g d [(0, .ref (ad B x0)), (1, .int x1), (2, .int x2)] 24 [] := by
  unfold fX12_press_J24 at hf
  refine b_iconst C (v := 0) dX12_press_24 (by decide) ?_
  exact b_zret C hr hlocks (by decide) hf dX12_press_25
set_option maxRecDepth 100000 in
def fX12_press (N : Nat) (g : Gs) (x0 : Nat) (x1 : Int32) (x2 : Int32) (d : Ds) : Option (Int32 × Ds) := gd (chk g x0 11) <| cb (fX12_isKey N g x0 x1 d) fun u4 d2 => (if u4 = 0 then (fX12_press_J24 N g x0 x1 x2 d2) else (ob (gR g x0 17) fun r6 => (gd (chk g r6 102) <| gd (¬ ((352 : Int32) < 0 ∨ gL g r6 ≤ (352 : Int32).toNatClampNeg)) <| cb (fX12_has N g (dI d2 r6 (352 : Int32).toNatClampNeg) x1 d2) fun u11 d9 => (if u11 = x2 then (fX12_press_J24 N g x0 x1 x2 d9) else (bd (sI d9 r6 (352 : Int32).toNatClampNeg ((dI d9 r6 (352 : Int32).toNatClampNeg) ^^^ ((1 : Int32) <<< (x1 &&& 31)))) fun d13 => (some (1, d13)))))))
set_option maxHeartbeats 4000000 in
set_option maxRecDepth 100000 in
theorem tX12_press_E {p : Program} {l : Launch} {e : Env} {s : State} {m : MethodId} {args : Array Value} {below : List Frame} {meth : Method} {c : Code} {D : va_G} {cy : Nat → ClassId} {B : Bs} (C : Cx p s m args c cX12_press 3 RX12 D cy B) (hr : meth.sig.returnType = (some .boolean)) (hlocks : meth.locks = false) {N : Nat} {g : Gs} {x0 : Nat} {x1 : Int32} {x2 : Int32} {vz : Int32} {dz : Ds} {d : Ds} (hf : fX12_press N g x0 x1 x2 d = some (vz, dz)) : WB p l e rmX12_press s m args below meth c 3 D cy B 0 0 (MQ below (QI D cy B vz g dz) args s 0 0 (wA B)) g d [(0, .ref (ad B x0)), (1, .int x1), (2, .int x2)] 0 [] := by
  unfold fX12_press at hf
  refine b_aload_n C dX12_press_0 0 rfl rfl ?_
  refine b_iload_n C dX12_press_1 1 rfl rfl ?_
  obtain ⟨h1, hf⟩ := gd_s hf
  obtain ⟨u4, d2, k3, hf⟩ := cb_s hf
  refine b_cVI C [] dX12_press_2 (kX12_isKey l D cy B k3) lv_X12_220 ⟨rfl, rfl, Nat.le_of_ble_eq_true rfl, Nat.le_of_ble_eq_true rfl⟩ h1 (by decide) rfl (Nat.le_of_ble_eq_true rfl) ⟨Nat.zero_le _, Nat.zero_le _⟩ rfl ?_
  refine b_if_eq C (tgt := 24) dX12_press_5 (by decide) (fun c5 => ?_) (fun c5 => ?_)
  · have hf := it_s c5 hf
    refine b_sub [(0, .ref (ad B x0)), (1, .int x1), (2, .int x2)] [0, 1, 2] rfl ?_
    exact tX12_press_24 C hr hlocks hf
  · have hf := if_s c5 hf
    refine b_aload_n C dX12_press_8 0 rfl rfl ?_
    obtain ⟨r6, er6, hf⟩ := ob_s hf
    refine b_gR C dX12_press_9 fl_X12_40 h1 er6 ?_
    refine b_sipush C (v := 352) dX12_press_12 (by decide) ?_
    obtain ⟨h7, hf⟩ := gd_s hf
    obtain ⟨h8, hf⟩ := gd_s hf
    refine b_iald C h7 h8 dX12_press_15 ?_
    refine b_iload_n C dX12_press_16 1 rfl rfl ?_
    obtain ⟨u11, d9, k10, hf⟩ := cb_s hf
    refine b_cSI C [] dX12_press_17 (kX12_has l D cy B k10) lv_X12_210 ⟨rfl, rfl, Nat.le_of_ble_eq_true rfl, Nat.le_of_ble_eq_true rfl⟩ rfl (Nat.le_of_ble_eq_true rfl) ⟨Nat.zero_le _, Nat.zero_le _⟩ rfl ?_
    refine b_iload_n C dX12_press_20 2 rfl rfl ?_
    refine b_icmp_ne C (tgt := 26) dX12_press_21 (by decide) (fun c12 => ?_) (fun c12 => ?_)
    · have hf := if_s c12 hf
      refine b_aload_n C dX12_press_26 0 rfl rfl ?_
      refine b_gR C dX12_press_27 fl_X12_40 h1 er6 ?_
      refine b_sipush C (v := 352) dX12_press_30 (by decide) ?_
      refine b_dup2 C dX12_press_33 rfl rfl ?_
      refine b_iald C h7 h8 dX12_press_34 ?_
      refine b_iconst C (v := 1) dX12_press_35 (by decide) ?_
      refine b_iload_n C dX12_press_36 1 rfl rfl ?_
      refine b_ishl C dX12_press_37 ?_
      refine b_ixor C dX12_press_38 ?_
      obtain ⟨d13, ed13, hf⟩ := bd_s hf
      refine b_iast C h7 h8 ed13 dX12_press_39 ?_
      refine b_iconst C (v := 1) dX12_press_40 (by decide) ?_
      exact b_zret C hr hlocks (by decide) hf dX12_press_41
    · have hf := it_s c12 hf
      refine b_sub [(0, .ref (ad B x0)), (1, .int x1), (2, .int x2)] [0, 1, 2] rfl ?_
      exact tX12_press_24 C hr hlocks hf
theorem kX12_press (l : Launch) (D : va_G) (cy : Nat → ClassId) (B : Bs) {N : Nat} {g : Gs} {x0 : Nat} {x1 : Int32} {x2 : Int32} {vz : Int32} {dz : Ds} {d : Ds} (hf : fX12_press N g x0 x1 x2 d = some (vz, dz)) : Met l yX12_press (.code yX12_press cX12_press 3 (some .boolean) :: wl) rmX12_press (PC D cy B [.ref (ad B x0), .int x1, .int x2] g d) (QI D cy B vz g dz) 0 0 (wA B) :=
  met_of (by decide +kernel) (Nat.le_of_ble_eq_true rfl) (fun p e s m args below meth c C hr hlocks _ => b_sub [(0, .ref (ad B x0)), (1, .int x1), (2, .int x2)] [0, 1, 2] rfl (tX12_press_E C hr hlocks hf))
