/-! KeyMatrixModel.adds(I)V -/
theorem fl_X12_299 : FLI RX12 299 11 26 := ⟨⟨RX12, TX12, 33, rfl, by decide, inl11, Or.inl (mW (mT5 (List.mem_of_getElem? (i := 117) (by decide +kernel))) rfl)⟩, by decide, by decide +kernel⟩
theorem fl_X12_56 : FLR RX12 56 11 27 := ⟨⟨RX12, TX12, 33, rfl, by decide, inl11, Or.inl (mW (mT5 (List.mem_of_getElem? (i := 118) (by decide +kernel))) rfl)⟩, by decide, by decide +kernel⟩
theorem fp11_26 : FPI 11 26 := ⟨ft11, (RX12, TX12, 33), rfl, by decide +kernel, by decide +kernel⟩
theorem dX12_adds_0 : decode cX12_adds 0 = .ok (.iconst 0, 1) := by decide +kernel
theorem dX12_adds_1 : decode cX12_adds 1 = .ok (.istore_n 2, 1) := by decide +kernel
theorem dX12_adds_2 : decode cX12_adds 2 = .ok (.iload_n 2, 1) := by decide +kernel
theorem dX12_adds_3 : decode cX12_adds 3 = .ok (.aload_n 0, 1) := by decide +kernel
theorem dX12_adds_4 : decode cX12_adds 4 = .ok (.getfield 299, 3) := by decide +kernel
theorem dX12_adds_7 : decode cX12_adds 7 = .ok (.if_icmp .ge 20, 3) := by decide +kernel
theorem dX12_adds_10 : decode cX12_adds 10 = .ok (.aload_n 0, 1) := by decide +kernel
theorem dX12_adds_11 : decode cX12_adds 11 = .ok (.getfield 56, 3) := by decide +kernel
theorem dX12_adds_14 : decode cX12_adds 14 = .ok (.iload_n 2, 1) := by decide +kernel
theorem dX12_adds_15 : decode cX12_adds 15 = .ok (.iaload, 1) := by decide +kernel
theorem dX12_adds_16 : decode cX12_adds 16 = .ok (.iload_n 1, 1) := by decide +kernel
theorem dX12_adds_17 : decode cX12_adds 17 = .ok (.if_icmp .ne 4, 3) := by decide +kernel
theorem dX12_adds_20 : decode cX12_adds 20 = .ok (.return_, 1) := by decide +kernel
theorem dX12_adds_21 : decode cX12_adds 21 = .ok (.iinc 2 1, 3) := by decide +kernel
theorem dX12_adds_24 : decode cX12_adds 24 = .ok (.goto (-22), 3) := by decide +kernel
theorem dX12_adds_27 : decode cX12_adds 27 = .ok (.aload_n 0, 1) := by decide +kernel
theorem dX12_adds_28 : decode cX12_adds 28 = .ok (.getfield 56, 3) := by decide +kernel
theorem dX12_adds_31 : decode cX12_adds 31 = .ok (.aload_n 0, 1) := by decide +kernel
theorem dX12_adds_32 : decode cX12_adds 32 = .ok (.getfield 299, 3) := by decide +kernel
theorem dX12_adds_35 : decode cX12_adds 35 = .ok (.iload_n 1, 1) := by decide +kernel
theorem dX12_adds_36 : decode cX12_adds 36 = .ok (.iastore, 1) := by decide +kernel
theorem dX12_adds_37 : decode cX12_adds 37 = .ok (.aload_n 0, 1) := by decide +kernel
theorem dX12_adds_38 : decode cX12_adds 38 = .ok (.dup, 1) := by decide +kernel
theorem dX12_adds_39 : decode cX12_adds 39 = .ok (.getfield 299, 3) := by decide +kernel
theorem dX12_adds_42 : decode cX12_adds 42 = .ok (.iconst 1, 1) := by decide +kernel
theorem dX12_adds_43 : decode cX12_adds 43 = .ok (.iadd, 1) := by decide +kernel
theorem dX12_adds_44 : decode cX12_adds 44 = .ok (.putfield 299, 3) := by decide +kernel
theorem dX12_adds_47 : decode cX12_adds 47 = .ok (.return_, 1) := by decide +kernel
def rmX12_adds : Room := { frames := 0, cells := 0, slots := 0, locals := 0 }
set_option maxRecDepth 100000 in
def fX12_adds_B2 (N : Nat) (g : Gs) (x0 : Nat) (x1 : Int32) (K2 : Int32 × Ds → Option (Unit × Ds)) (y2 : Int32) (d : Ds) : Option (Unit × Ds) := gd (chk g x0 11) <| if (dI d x0 26) ≤ y2 then (ob (gR g x0 27) fun r3 => (gd (chk g r3 102) <| gd (¬ ((dI d x0 26) < 0 ∨ gL g r3 ≤ (dI d x0 26).toNatClampNeg)) <| bd (sI d r3 (dI d x0 26).toNatClampNeg x1) fun d6 => (bd (sI d6 x0 26 ((dI d6 x0 26) + 1)) fun d7 => (some ((), d7))))) else (ob (gR g x0 27) fun r8 => (gd (chk g r8 102) <| gd (¬ (y2 < 0 ∨ gL g r8 ≤ y2.toNatClampNeg)) <| if (dI d r8 y2.toNatClampNeg) = x1 then (some ((), d)) else (bd (y2 + 1) fun u12 => (K2 (u12, d)))))
set_option maxHeartbeats 4000000 in
set_option maxRecDepth 100000 in
theorem tX12_adds_2 {p : Program} {l : Launch} {e : Env} {s : State} {m : MethodId} {args : Array Value} {below : List Frame} {meth : Method} {c : Code} {D : va_G} {cy : Nat → ClassId} {B : Bs} (C : Cx p s m args c cX12_adds 3 RX12 D cy B) (hr : meth.sig.returnType = none) (hlocks : meth.locks = false) {N : Nat} {g : Gs} {x0 : Nat} {x1 : Int32}  {dz : Ds} {K2 : Int32 × Ds → Option (Unit × Ds)} (hK2 : ∀ a, K2 a = some ((), dz) → WB p l e rmX12_adds s m args below meth c 3 D cy B 0 0 (MQ below (QV D cy B g dz) args s 0 0 (wA B)) g a.2 [(0, .ref (ad B x0)), (1, .int x1), (2, .int a.1)] 2 []) {y2 : Int32} {d : Ds} (hf : fX12_adds_B2 N g x0 x1 K2 y2 d = some ((), dz)) : WB p l e rmX12_adds s m args below meth c 3 D cy B 0 0 (MQ below (QV D cy B g dz) args s 0 0 (wA B)) g d [(0, .ref (ad B x0)), (1, .int x1), (2, .int y2)] 2 [] := by
  unfold fX12_adds_B2 at hf
  refine b_iload_n C dX12_adds_2 2 rfl rfl ?_
  refine b_aload_n C dX12_adds_3 0 rfl rfl ?_
  obtain ⟨h1, hf⟩ := gd_s hf
  refine b_gI C dX12_adds_4 fl_X12_299 h1 ?_
  refine b_icmp_ge C (tgt := 27) dX12_adds_7 (by decide) (fun c2 => ?_) (fun c2 => ?_)
  · have hf := it_s c2 hf
    refine b_aload_n C dX12_adds_27 0 rfl rfl ?_
    obtain ⟨r3, er3, hf⟩ := ob_s hf
    refine b_gR C dX12_adds_28 fl_X12_56 h1 er3 ?_
    refine b_aload_n C dX12_adds_31 0 rfl rfl ?_
    refine b_gI C dX12_adds_32 fl_X12_299 h1 ?_
    refine b_iload_n C dX12_adds_35 1 rfl rfl ?_
    obtain ⟨h4, hf⟩ := gd_s hf
    obtain ⟨h5, hf⟩ := gd_s hf
    obtain ⟨d6, ed6, hf⟩ := bd_s hf
    refine b_iast C h4 h5 ed6 dX12_adds_36 ?_
    refine b_aload_n C dX12_adds_37 0 rfl rfl ?_
    refine b_dup C dX12_adds_38 rfl ?_
    refine b_gI C dX12_adds_39 fl_X12_299 h1 ?_
    refine b_iconst C (v := 1) dX12_adds_42 (by decide) ?_
    refine b_iadd C dX12_adds_43 ?_
    obtain ⟨d7, ed7, hf⟩ := bd_s hf
    refine b_pI C dX12_adds_44 fl_X12_299 fp11_26 h1 ed7 ?_
    exact b_vret C hr hlocks hf dX12_adds_47
  · have hf := if_s c2 hf
    refine b_aload_n C dX12_adds_10 0 rfl rfl ?_
    obtain ⟨r8, er8, hf⟩ := ob_s hf
    refine b_gR C dX12_adds_11 fl_X12_56 h1 er8 ?_
    refine b_iload_n C dX12_adds_14 2 rfl rfl ?_
    obtain ⟨h9, hf⟩ := gd_s hf
    obtain ⟨h10, hf⟩ := gd_s hf
    refine b_iald C h9 h10 dX12_adds_15 ?_
    refine b_iload_n C dX12_adds_16 1 rfl rfl ?_
    refine b_icmp_ne C (tgt := 21) dX12_adds_17 (by decide) (fun c11 => ?_) (fun c11 => ?_)
    · have hf := if_s c11 hf
      obtain ⟨u12, eu12, hf⟩ := bd_s hf
      refine b_iinc C dX12_adds_21 2 rfl (by rw [eu12]; rfl) [(2, .int u12), (0, .ref (ad B x0)), (1, .int x1)] (by decide) rfl ?_
      refine b_goto C (tgt := 2) dX12_adds_24 (by decide) ?_
      refine b_sub [(0, .ref (ad B x0)), (1, .int x1), (2, .int u12)] [1, 2, 0] rfl ?_
      exact hK2 (u12, d) hf
    · have hf := it_s c11 hf
      exact b_vret C hr hlocks hf dX12_adds_20
def fX12_adds_L2 (N : Nat) (g : Gs) (x0 : Nat) (x1 : Int32) : Int32 × Ds → Option (Unit × Ds) := lp (fun K2 a => fX12_adds_B2 N g x0 x1 K2 a.1 a.2) N
theorem tX12_adds_L2 {p : Program} {l : Launch} {e : Env} {s : State} {m : MethodId} {args : Array Value} {below : List Frame} {meth : Method} {c : Code} {D : va_G} {cy : Nat → ClassId} {B : Bs} (C : Cx p s m args c cX12_adds 3 RX12 D cy B) (hr : meth.sig.returnType = none) (hlocks : meth.locks = false) {N : Nat} {g : Gs} {x0 : Nat} {x1 : Int32}  {dz : Ds} (a : Int32 × Ds) (hf : fX12_adds_L2 N g x0 x1 a = some ((), dz)) : WB p l e rmX12_adds s m args below meth c 3 D cy B 0 0 (MQ below (QV D cy B g dz) args s 0 0 (wA B)) g a.2 [(0, .ref (ad B x0)), (1, .int x1), (2, .int a.1)] 2 [] :=
  lp_w (fun K2 hK2 a ha => tX12_adds_2 C hr hlocks hK2 ha) N a hf
set_option maxRecDepth 100000 in
def fX12_adds (N : Nat) (g : Gs) (x0 : Nat) (x1 : Int32) (d : Ds) : Option (Unit × Ds) := fX12_adds_L2 N g x0 x1 (0, d)
set_option maxHeartbeats 4000000 in
set_option maxRecDepth 100000 in
theorem tX12_adds_E {p : Program} {l : Launch} {e : Env} {s : State} {m : MethodId} {args : Array Value} {below : List Frame} {meth : Method} {c : Code} {D : va_G} {cy : Nat → ClassId} {B : Bs} (C : Cx p s m args c cX12_adds 3 RX12 D cy B) (hr : meth.sig.returnType = none) (hlocks : meth.locks = false) {N : Nat} {g : Gs} {x0 : Nat} {x1 : Int32}  {dz : Ds} {d : Ds} (hf : fX12_adds N g x0 x1 d = some ((), dz)) : WB p l e rmX12_adds s m args below meth c 3 D cy B 0 0 (MQ below (QV D cy B g dz) args s 0 0 (wA B)) g d [(0, .ref (ad B x0)), (1, .int x1)] 0 [] := by
  unfold fX12_adds at hf
  refine b_iconst C (v := 0) dX12_adds_0 (by decide) ?_
  refine b_istore_n C dX12_adds_1 rfl [(2, .int 0), (0, .ref (ad B x0)), (1, .int x1)] (by decide) rfl ?_
  refine b_sub [(0, .ref (ad B x0)), (1, .int x1), (2, .int 0)] [1, 2, 0] rfl ?_
  exact tX12_adds_L2 C hr hlocks (0, d) hf
theorem kX12_adds (l : Launch) (D : va_G) (cy : Nat → ClassId) (B : Bs) {N : Nat} {g : Gs} {x0 : Nat} {x1 : Int32}  {dz : Ds} {d : Ds} (hf : fX12_adds N g x0 x1 d = some ((), dz)) : Met l yX12_adds (.code yX12_adds cX12_adds 3 none :: wl) rmX12_adds (PC D cy B [.ref (ad B x0), .int x1] g d) (QV D cy B g dz) 0 0 (wA B) :=
  met_of (by decide +kernel) (Nat.le_of_ble_eq_true rfl) (fun p e s m args below meth c C hr hlocks _ => b_sub [(0, .ref (ad B x0)), (1, .int x1)] [0, 1] rfl (tX12_adds_E C hr hlocks hf))
/-! KeyMatrixModel.laysSent()V -/
theorem fl_X12_302 : FLI RX12 302 11 25 := ⟨⟨RX12, TX12, 33, rfl, by decide, inl11, Or.inl (mW (mT5 (List.mem_of_getElem? (i := 116) (by decide +kernel))) rfl)⟩, by decide, by decide +kernel⟩
theorem fp11_25 : FPI 11 25 := ⟨ft11, (RX12, TX12, 33), rfl, by decide +kernel, by decide +kernel⟩
theorem yo_X12_nextBegun : yX12_nextBegun.cls ≠ "java/lang/invoke/MethodHandle" ∧ yX12_nextBegun.cls ≠ "java/lang/invoke/VarHandle" ∧ (parseMethodDescriptor yX12_nextBegun.desc).map (fun d => d.parameters.length) = some 1 := by decide +kernel
theorem co_X12_nextBegun : Cond.code yX12_nextBegun cX12_nextBegun 4 (some .int) ∈ wl := mW (mT6 (List.mem_of_getElem? (i := 163) (by decide +kernel))) rfl
theorem in_X12_nextBegun : Cond.initialized yX12_nextBegun.cls ∈ wl := mW (mT1 (List.mem_of_getElem? (i := 12) (by decide +kernel))) rfl
theorem im_X12_nextBegun : Cond.instanceMethod yX12_nextBegun ∈ wl := mW (mT6 (List.mem_of_getElem? (i := 162) (by decide +kernel))) rfl
theorem se_X12_nextBegun : Cond.selects yX12_nextBegun.cls yX12_nextBegun yX12_nextBegun ∈ wl := mW (mT0 (List.mem_of_getElem? (i := 72) (by decide +kernel))) rfl
theorem lv_X12_305 : LV RX12 305 yX12_nextBegun cX12_nextBegun 4 (some .int) 1 11 := ⟨⟨(RX12, TX12, 33), rfl, rfl⟩, yo_X12_nextBegun, mW (mT6 (List.mem_of_getElem? (i := 160) (by decide +kernel))) rfl, im_X12_nextBegun, se_X12_nextBegun, in_X12_nextBegun, co_X12_nextBegun⟩
theorem yo_X12_adds : yX12_adds.cls ≠ "java/lang/invoke/MethodHandle" ∧ yX12_adds.cls ≠ "java/lang/invoke/VarHandle" ∧ (parseMethodDescriptor yX12_adds.desc).map (fun d => d.parameters.length) = some 1 := by decide +kernel
theorem co_X12_adds : Cond.code yX12_adds cX12_adds 3 none ∈ wl := mW (mT6 (List.mem_of_getElem? (i := 167) (by decide +kernel))) rfl
theorem in_X12_adds : Cond.initialized yX12_adds.cls ∈ wl := mW (mT1 (List.mem_of_getElem? (i := 12) (by decide +kernel))) rfl
theorem im_X12_adds : Cond.instanceMethod yX12_adds ∈ wl := mW (mT6 (List.mem_of_getElem? (i := 166) (by decide +kernel))) rfl
theorem se_X12_adds : Cond.selects yX12_adds.cls yX12_adds yX12_adds ∈ wl := mW (mT0 (List.mem_of_getElem? (i := 73) (by decide +kernel))) rfl
theorem lv_X12_308 : LV RX12 308 yX12_adds cX12_adds 3 none 1 11 := ⟨⟨(RX12, TX12, 33), rfl, rfl⟩, yo_X12_adds, mW (mT6 (List.mem_of_getElem? (i := 164) (by decide +kernel))) rfl, im_X12_adds, se_X12_adds, in_X12_adds, co_X12_adds⟩
theorem dX12_laysSent_0 : decode cX12_laysSent 0 = .ok (.aload_n 0, 1) := by decide +kernel
theorem dX12_laysSent_1 : decode cX12_laysSent 1 = .ok (.iconst 0, 1) := by decide +kernel
theorem dX12_laysSent_2 : decode cX12_laysSent 2 = .ok (.putfield 302, 3) := by decide +kernel
theorem dX12_laysSent_5 : decode cX12_laysSent 5 = .ok (.aload_n 0, 1) := by decide +kernel
theorem dX12_laysSent_6 : decode cX12_laysSent 6 = .ok (.iconst 0, 1) := by decide +kernel
theorem dX12_laysSent_7 : decode cX12_laysSent 7 = .ok (.putfield 299, 3) := by decide +kernel
theorem dX12_laysSent_10 : decode cX12_laysSent 10 = .ok (.iconst (-1), 1) := by decide +kernel
theorem dX12_laysSent_11 : decode cX12_laysSent 11 = .ok (.istore_n 1, 1) := by decide +kernel
theorem dX12_laysSent_12 : decode cX12_laysSent 12 = .ok (.aload_n 0, 1) := by decide +kernel
theorem dX12_laysSent_13 : decode cX12_laysSent 13 = .ok (.iload_n 1, 1) := by decide +kernel
theorem dX12_laysSent_14 : decode cX12_laysSent 14 = .ok (.invokevirtual 305, 3) := by decide +kernel
theorem dX12_laysSent_17 : decode cX12_laysSent 17 = .ok (.istore_n 2, 1) := by decide +kernel
theorem dX12_laysSent_18 : decode cX12_laysSent 18 = .ok (.iload_n 2, 1) := by decide +kernel
theorem dX12_laysSent_19 : decode cX12_laysSent 19 = .ok (.ifCond .lt 79, 3) := by decide +kernel
theorem dX12_laysSent_22 : decode cX12_laysSent 22 = .ok (.sipush 379, 3) := by decide +kernel
theorem dX12_laysSent_25 : decode cX12_laysSent 25 = .ok (.iconst 3, 1) := by decide +kernel
theorem dX12_laysSent_26 : decode cX12_laysSent 26 = .ok (.iload_n 2, 1) := by decide +kernel
theorem dX12_laysSent_27 : decode cX12_laysSent 27 = .ok (.imul, 1) := by decide +kernel
theorem dX12_laysSent_28 : decode cX12_laysSent 28 = .ok (.iadd, 1) := by decide +kernel
theorem dX12_laysSent_29 : decode cX12_laysSent 29 = .ok (.istore_n 3, 1) := by decide +kernel
theorem dX12_laysSent_30 : decode cX12_laysSent 30 = .ok (.aload_n 0, 1) := by decide +kernel
theorem dX12_laysSent_31 : decode cX12_laysSent 31 = .ok (.getfield 40, 3) := by decide +kernel
theorem dX12_laysSent_34 : decode cX12_laysSent 34 = .ok (.iload_n 3, 1) := by decide +kernel
theorem dX12_laysSent_35 : decode cX12_laysSent 35 = .ok (.iaload, 1) := by decide +kernel
theorem dX12_laysSent_36 : decode cX12_laysSent 36 = .ok (.iconst 1, 1) := by decide +kernel
theorem dX12_laysSent_37 : decode cX12_laysSent 37 = .ok (.if_icmp .ne 22, 3) := by decide +kernel
theorem dX12_laysSent_40 : decode cX12_laysSent 40 = .ok (.aload_n 0, 1) := by decide +kernel
theorem dX12_laysSent_41 : decode cX12_laysSent 41 = .ok (.dup, 1) := by decide +kernel
theorem dX12_laysSent_42 : decode cX12_laysSent 42 = .ok (.getfield 302, 3) := by decide +kernel
theorem dX12_laysSent_45 : decode cX12_laysSent 45 = .ok (.iconst 1, 1) := by decide +kernel
theorem dX12_laysSent_46 : decode cX12_laysSent 46 = .ok (.aload_n 0, 1) := by decide +kernel
theorem dX12_laysSent_47 : decode cX12_laysSent 47 = .ok (.getfield 40, 3) := by decide +kernel
theorem dX12_laysSent_50 : decode cX12_laysSent 50 = .ok (.iload_n 3, 1) := by decide +kernel
theorem dX12_laysSent_51 : decode cX12_laysSent 51 = .ok (.iconst 1, 1) := by decide +kernel
theorem dX12_laysSent_52 : decode cX12_laysSent 52 = .ok (.iadd, 1) := by decide +kernel
theorem dX12_laysSent_53 : decode cX12_laysSent 53 = .ok (.iaload, 1) := by decide +kernel
theorem dX12_laysSent_54 : decode cX12_laysSent 54 = .ok (.ishl, 1) := by decide +kernel
theorem dX12_laysSent_55 : decode cX12_laysSent 55 = .ok (.ior, 1) := by decide +kernel
theorem dX12_laysSent_56 : decode cX12_laysSent 56 = .ok (.putfield 302, 3) := by decide +kernel
theorem dX12_laysSent_59 : decode cX12_laysSent 59 = .ok (.aload_n 0, 1) := by decide +kernel
theorem dX12_laysSent_60 : decode cX12_laysSent 60 = .ok (.getfield 40, 3) := by decide +kernel
theorem dX12_laysSent_63 : decode cX12_laysSent 63 = .ok (.iload_n 3, 1) := by decide +kernel
theorem dX12_laysSent_64 : decode cX12_laysSent 64 = .ok (.iaload, 1) := by decide +kernel
theorem dX12_laysSent_65 : decode cX12_laysSent 65 = .ok (.ifCond .ne 15, 3) := by decide +kernel
theorem dX12_laysSent_68 : decode cX12_laysSent 68 = .ok (.aload_n 0, 1) := by decide +kernel
theorem dX12_laysSent_69 : decode cX12_laysSent 69 = .ok (.aload_n 0, 1) := by decide +kernel
theorem dX12_laysSent_70 : decode cX12_laysSent 70 = .ok (.getfield 40, 3) := by decide +kernel
theorem dX12_laysSent_73 : decode cX12_laysSent 73 = .ok (.iload_n 3, 1) := by decide +kernel
theorem dX12_laysSent_74 : decode cX12_laysSent 74 = .ok (.iconst 1, 1) := by decide +kernel
theorem dX12_laysSent_75 : decode cX12_laysSent 75 = .ok (.iadd, 1) := by decide +kernel
theorem dX12_laysSent_76 : decode cX12_laysSent 76 = .ok (.iaload, 1) := by decide +kernel
theorem dX12_laysSent_77 : decode cX12_laysSent 77 = .ok (.invokevirtual 308, 3) := by decide +kernel
theorem dX12_laysSent_80 : decode cX12_laysSent 80 = .ok (.aload_n 0, 1) := by decide +kernel
theorem dX12_laysSent_81 : decode cX12_laysSent 81 = .ok (.getfield 40, 3) := by decide +kernel
theorem dX12_laysSent_84 : decode cX12_laysSent 84 = .ok (.iload_n 3, 1) := by decide +kernel
theorem dX12_laysSent_85 : decode cX12_laysSent 85 = .ok (.iconst 2, 1) := by decide +kernel
theorem dX12_laysSent_86 : decode cX12_laysSent 86 = .ok (.iadd, 1) := by decide +kernel
theorem dX12_laysSent_87 : decode cX12_laysSent 87 = .ok (.iaload, 1) := by decide +kernel
theorem dX12_laysSent_88 : decode cX12_laysSent 88 = .ok (.istore_n 1, 1) := by decide +kernel
theorem dX12_laysSent_89 : decode cX12_laysSent 89 = .ok (.aload_n 0, 1) := by decide +kernel
theorem dX12_laysSent_90 : decode cX12_laysSent 90 = .ok (.iload_n 1, 1) := by decide +kernel
theorem dX12_laysSent_91 : decode cX12_laysSent 91 = .ok (.invokevirtual 305, 3) := by decide +kernel
theorem dX12_laysSent_94 : decode cX12_laysSent 94 = .ok (.istore_n 2, 1) := by decide +kernel
theorem dX12_laysSent_95 : decode cX12_laysSent 95 = .ok (.goto (-77), 3) := by decide +kernel
theorem dX12_laysSent_98 : decode cX12_laysSent 98 = .ok (.aload_n 0, 1) := by decide +kernel
theorem dX12_laysSent_99 : decode cX12_laysSent 99 = .ok (.getfield 40, 3) := by decide +kernel
theorem dX12_laysSent_102 : decode cX12_laysSent 102 = .ok (.sipush 454, 3) := by decide +kernel
theorem dX12_laysSent_105 : decode cX12_laysSent 105 = .ok (.iaload, 1) := by decide +kernel
theorem dX12_laysSent_106 : decode cX12_laysSent 106 = .ok (.ifCond .lt 15, 3) := by decide +kernel
theorem dX12_laysSent_109 : decode cX12_laysSent 109 = .ok (.aload_n 0, 1) := by decide +kernel
theorem dX12_laysSent_110 : decode cX12_laysSent 110 = .ok (.aload_n 0, 1) := by decide +kernel
theorem dX12_laysSent_111 : decode cX12_laysSent 111 = .ok (.getfield 40, 3) := by decide +kernel
theorem dX12_laysSent_114 : decode cX12_laysSent 114 = .ok (.sipush 454, 3) := by decide +kernel
theorem dX12_laysSent_117 : decode cX12_laysSent 117 = .ok (.iaload, 1) := by decide +kernel
theorem dX12_laysSent_118 : decode cX12_laysSent 118 = .ok (.invokevirtual 308, 3) := by decide +kernel
theorem dX12_laysSent_121 : decode cX12_laysSent 121 = .ok (.return_, 1) := by decide +kernel
def rmX12_laysSent : Room := { frames := 1, cells := 0, slots := 0, locals := 23 }
set_option maxRecDepth 100000 in
def fX12_laysSent_J121 (N : Nat) (g : Gs) (x0 : Nat) (d : Ds) : Option (Unit × Ds) := some ((), d)
set_option maxHeartbeats 4000000 in
set_option maxRecDepth 100000 in
theorem tX12_laysSent_121 {p : Program} {l : Launch} {e : Env} {s : State} {m : MethodId} {args : Array Value} {below : List Frame} {meth : Method} {c : Code} {D : va_G} {cy : Nat → ClassId} {B : Bs} (C : Cx p s m args c cX12_laysSent 4 RX12 D cy B) (hr : meth.sig.returnType = none) (hlocks : meth.locks = false) {N : Nat} {g : Gs} {x0 : Nat}  {dz : Ds} {d : Ds} (hf : fX12_laysSent_J121 N g x0 d = some ((), dz)) : WB p l e rmX12_laysSent s m args below meth c 4 D cy B 0 0 (MQ below (QV D cy B g dz) args s 0 0 (wA B)) g d [(0, .ref (ad B x0))] 121 [] := by
  unfold fX12_laysSent_J121 at hf
  exact b_vret C hr hlocks hf dX12_laysSent_121
set_option maxRecDepth 100000 in
def fX12_laysSent_J80 (N : Nat) (g : Gs) (x0 : Nat) (K18 : Int32 × Ds → Option (Unit × Ds)) (y3 : Int32) (d : Ds) : Option (Unit × Ds) := gd (chk g x0 11) <| ob (gR g x0 17) fun r27 => (gd (chk g r27 102) <| gd (¬ ((y3 + 2) < 0 ∨ gL g r27 ≤ (y3 + 2).toNatClampNeg)) <| bd ((dI d r27 (y3 + 2).toNatClampNeg)) fun u30 => (cb (fX12_nextBegun N g x0 u30 d) fun u33 d31 => (K18 (u33, d31))))
set_option maxHeartbeats 4000000 in
set_option maxRecDepth 100000 in
theorem tX12_laysSent_80 {p : Program} {l : Launch} {e : Env} {s : State} {m : MethodId} {args : Array Value} {below : List Frame} {meth : Method} {c : Code} {D : va_G} {cy : Nat → ClassId} {B : Bs} (C : Cx p s m args c cX12_laysSent 4 RX12 D cy B) (hr : meth.sig.returnType = none) (hlocks : meth.locks = false) {N : Nat} {g : Gs} {x0 : Nat}  {dz : Ds} {K18 : Int32 × Ds → Option (Unit × Ds)} (hK18 : ∀ a, K18 a = some ((), dz) → WB p l e rmX12_laysSent s m args below meth c 4 D cy B 0 0 (MQ below (QV D cy B g dz) args s 0 0 (wA B)) g a.2 [(0, .ref (ad B x0)), (2, .int a.1)] 18 []) {y3 : Int32} {d : Ds} (hf : fX12_laysSent_J80 N g x0 K18 y3 d = some ((), dz)) : WB p l e rmX12_laysSent s m args below meth c 4 D cy B 0 0 (MQ below (QV D cy B g dz) args s 0 0 (wA B)) g d [(0, .ref (ad B x0)), (3, .int y3)] 80 [] := by
  unfold fX12_laysSent_J80 at hf
  refine b_aload_n C dX12_laysSent_80 0 rfl rfl ?_
  obtain ⟨h26, hf⟩ := gd_s hf
  obtain ⟨r27, er27, hf⟩ := ob_s hf
  refine b_gR C dX12_laysSent_81 fl_X12_40 h26 er27 ?_
  refine b_iload_n C dX12_laysSent_84 1 rfl rfl ?_
  refine b_iconst C (v := 2) dX12_laysSent_85 (by decide) ?_
  refine b_iadd C dX12_laysSent_86 ?_
  obtain ⟨h28, hf⟩ := gd_s hf
  obtain ⟨h29, hf⟩ := gd_s hf
  refine b_iald C h28 h29 dX12_laysSent_87 ?_
  obtain ⟨u30, eu30, hf⟩ := bd_s hf
  refine b_topI eu30 ?_
  refine b_istore_n C dX12_laysSent_88 rfl [(1, .int u30), (0, .ref (ad B x0)), (3, .int y3)] (by decide) rfl ?_
  refine b_aload_n C dX12_laysSent_89 1 rfl rfl ?_
  refine b_iload_n C dX12_laysSent_90 0 rfl rfl ?_
  obtain ⟨u33, d31, k32, hf⟩ := cb_s hf
  refine b_cVI C [] dX12_laysSent_91 (kX12_nextBegun l D cy B k32) lv_X12_305 ⟨rfl, rfl, Nat.le_of_ble_eq_true rfl, Nat.le_of_ble_eq_true rfl⟩ h26 (by decide) rfl (Nat.le_of_ble_eq_true rfl) ⟨Nat.zero_le _, Nat.zero_le _⟩ rfl ?_
  refine b_istore_n C dX12_laysSent_94 rfl [(2, .int u33), (1, .int u30), (0, .ref (ad B x0)), (3, .int y3)] (by decide) rfl ?_
  refine b_goto C (tgt := 18) dX12_laysSent_95 (by decide) ?_
  refine b_sub [(0, .ref (ad B x0)), (2, .int u33)] [2, 0] rfl ?_
  exact hK18 (u33, d31) hf
set_option maxRecDepth 100000 in
def fX12_laysSent_J59 (N : Nat) (g : Gs) (x0 : Nat) (K18 : Int32 × Ds → Option (Unit × Ds)) (y3 : Int32) (d : Ds) : Option (Unit × Ds) := gd (chk g x0 11) <| ob (gR g x0 17) fun r22 => (gd (chk g r22 102) <| gd (¬ (y3 < 0 ∨ gL g r22 ≤ y3.toNatClampNeg)) <| if (dI d r22 y3.toNatClampNeg) = 0 then (gd (¬ ((y3 + 1) < 0 ∨ gL g r22 ≤ (y3 + 1).toNatClampNeg)) <| cv (fX12_adds N g x0 (dI d r22 (y3 + 1).toNatClampNeg) d) fun d35 => (fX12_laysSent_J80 N g x0 K18 y3 d35)) else (fX12_laysSent_J80 N g x0 K18 y3 d))
set_option maxHeartbeats 4000000 in
set_option maxRecDepth 100000 in
theorem tX12_laysSent_59 {p : Program} {l : Launch} {e : Env} {s : State} {m : MethodId} {args : Array Value} {below : List Frame} {meth : Method} {c : Code} {D : va_G} {cy : Nat → ClassId} {B : Bs} (C : Cx p s m args c cX12_laysSent 4 RX12 D cy B) (hr : meth.sig.returnType = none) (hlocks : meth.locks = false) {N : Nat} {g : Gs} {x0 : Nat}  {dz : Ds} {K18 : Int32 × Ds → Option (Unit × Ds)} (hK18 : ∀ a, K18 a = some ((), dz) → WB p l e rmX12_laysSent s m args below meth c 4 D cy B 0 0 (MQ below (QV D cy B g dz) args s 0 0 (wA B)) g a.2 [(0, .ref (ad B x0)), (2, .int a.1)] 18 []) {y3 : Int32} {d : Ds} (hf : fX12_laysSent_J59 N g x0 K18 y3 d = some ((), dz)) : WB p l e rmX12_laysSent s m args below meth c 4 D cy B 0 0 (MQ below (QV D cy B g dz) args s 0 0 (wA B)) g d [(0, .ref (ad B x0)), (3, .int y3)] 59 [] := by
  unfold fX12_laysSent_J59 at hf
  refine b_aload_n C dX12_laysSent_59 0 rfl rfl ?_
  obtain ⟨h21, hf⟩ := gd_s hf
  obtain ⟨r22, er22, hf⟩ := ob_s hf
  refine b_gR C dX12_laysSent_60 fl_X12_40 h21 er22 ?_
  refine b_iload_n C dX12_laysSent_63 1 rfl rfl ?_
  obtain ⟨h23, hf⟩ := gd_s hf
  obtain ⟨h24, hf⟩ := gd_s hf
  refine b_iald C h23 h24 dX12_laysSent_64 ?_
  refine b_if_ne C (tgt := 80) dX12_laysSent_65 (by decide) (fun c25 => ?_) (fun c25 => ?_)
  · have hf := if_s c25 hf
    refine b_sub [(0, .ref (ad B x0)), (3, .int y3)] [0, 1] rfl ?_
    exact tX12_laysSent_80 C hr hlocks hK18 hf
  · have hf := it_s c25 hf
    refine b_aload_n C dX12_laysSent_68 0 rfl rfl ?_
    refine b_aload_n C dX12_laysSent_69 0 rfl rfl ?_
    refine b_gR C dX12_laysSent_70 fl_X12_40 h21 er22 ?_
    refine b_iload_n C dX12_laysSent_73 1 rfl rfl ?_
    refine b_iconst C (v := 1) dX12_laysSent_74 (by decide) ?_
    refine b_iadd C dX12_laysSent_75 ?_
    obtain ⟨h34, hf⟩ := gd_s hf
    refine b_iald C h23 h34 dX12_laysSent_76 ?_
    obtain ⟨d35, k36, hf⟩ := cv_s hf
    refine b_cVN C [] dX12_laysSent_77 (kX12_adds l D cy B k36) lv_X12_308 ⟨rfl, rfl, Nat.le_of_ble_eq_true rfl, Nat.le_of_ble_eq_true rfl⟩ h21 (by decide) rfl (Nat.le_of_ble_eq_true rfl) ⟨Nat.zero_le _, Nat.zero_le _⟩ rfl ?_
    refine b_sub [(0, .ref (ad B x0)), (3, .int y3)] [0, 1] rfl ?_
    exact tX12_laysSent_80 C hr hlocks hK18 hf
set_option maxRecDepth 100000 in
def fX12_laysSent_B18 (N : Nat) (g : Gs) (x0 : Nat) (K18 : Int32 × Ds → Option (Unit × Ds)) (y2 : Int32) (d : Ds) : Option (Unit × Ds) := if y2 < 0 then (gd (chk g x0 11) <| ob (gR g x0 17) fun r9 => (gd (chk g r9 102) <| gd (¬ ((454 : Int32) < 0 ∨ gL g r9 ≤ (454 : Int32).toNatClampNeg)) <| if (dI d r9 (454 : Int32).toNatClampNeg) < 0 then (fX12_laysSent_J121 N g x0 d) else (cv (fX12_adds N g x0 (dI d r9 (454 : Int32).toNatClampNeg) d) fun d13 => (fX12_laysSent_J121 N g x0 d13)))) else (bd (((379 : Int32) + ((3 : Int32) * y2))) fun u15 => (gd (chk g x0 11) <| ob (gR g x0 17) fun r17 => (gd (chk g r17 102) <| gd (¬ (u15 < 0 ∨ gL g r17 ≤ u15.toNatClampNeg)) <| if (dI d r17 u15.toNatClampNeg) = (1 : Int32) then (gd (¬ ((u15 + 1) < 0 ∨ gL g r17 ≤ (u15 + 1).toNatClampNeg)) <| bd (sI d x0 25 ((dI d x0 25) ||| ((1 : Int32) <<< ((dI d r17 (u15 + 1).toNatClampNeg) &&& 31)))) fun d38 => (fX12_laysSent_J59 N g x0 K18 u15 d38)) else (fX12_laysSent_J59 N g x0 K18 u15 d))))
set_option maxHeartbeats 4000000 in
set_option maxRecDepth 100000 in
theorem tX12_laysSent_18 {p : Program} {l : Launch} {e : Env} {s : State} {m : MethodId} {args : Array Value} {below : List Frame} {meth : Method} {c : Code} {D : va_G} {cy : Nat → ClassId} {B : Bs} (C : Cx p s m args c cX12_laysSent 4 RX12 D cy B) (hr : meth.sig.returnType = none) (hlocks : meth.locks = false) {N : Nat} {g : Gs} {x0 : Nat}  {dz : Ds} {K18 : Int32 × Ds → Option (Unit × Ds)} (hK18 : ∀ a, K18 a = some ((), dz) → WB p l e rmX12_laysSent s m args below meth c 4 D cy B 0 0 (MQ below (QV D cy B g dz) args s 0 0 (wA B)) g a.2 [(0, .ref (ad B x0)), (2, .int a.1)] 18 []) {y2 : Int32} {d : Ds} (hf : fX12_laysSent_B18 N g x0 K18 y2 d = some ((), dz)) : WB p l e rmX12_laysSent s m args below meth c 4 D cy B 0 0 (MQ below (QV D cy B g dz) args s 0 0 (wA B)) g d [(0, .ref (ad B x0)), (2, .int y2)] 18 [] := by
  unfold fX12_laysSent_B18 at hf
  refine b_iload_n C dX12_laysSent_18 1 rfl rfl ?_
  refine b_if_lt C (tgt := 98) dX12_laysSent_19 (by decide) (fun c7 => ?_) (fun c7 => ?_)
  · have hf := it_s c7 hf
    refine b_aload_n C dX12_laysSent_98 0 rfl rfl ?_
    obtain ⟨h8, hf⟩ := gd_s hf
    obtain ⟨r9, er9, hf⟩ := ob_s hf
    refine b_gR C dX12_laysSent_99 fl_X12_40 h8 er9 ?_
    refine b_sipush C (v := 454) dX12_laysSent_102 (by decide) ?_
    obtain ⟨h10, hf⟩ := gd_s hf
    obtain ⟨h11, hf⟩ := gd_s hf
    refine b_iald C h10 h11 dX12_laysSent_105 ?_
    refine b_if_lt C (tgt := 121) dX12_laysSent_106 (by decide) (fun c12 => ?_) (fun c12 => ?_)
    · have hf := it_s c12 hf
      refine b_sub [(0, .ref (ad B x0))] [0] rfl ?_
      exact tX12_laysSent_121 C hr hlocks hf
    · have hf := if_s c12 hf
      refine b_aload_n C dX12_laysSent_109 0 rfl rfl ?_
      refine b_aload_n C dX12_laysSent_110 0 rfl rfl ?_
      refine b_gR C dX12_laysSent_111 fl_X12_40 h8 er9 ?_
      refine b_sipush C (v := 454) dX12_laysSent_114 (by decide) ?_
      refine b_iald C h10 h11 dX12_laysSent_117 ?_
      obtain ⟨d13, k14, hf⟩ := cv_s hf
      refine b_cVN C [] dX12_laysSent_118 (kX12_adds l D cy B k14) lv_X12_308 ⟨rfl, rfl, Nat.le_of_ble_eq_true rfl, Nat.le_of_ble_eq_true rfl⟩ h8 (by decide) rfl (Nat.le_of_ble_eq_true rfl) ⟨Nat.zero_le _, Nat.zero_le _⟩ rfl ?_
      refine b_sub [(0, .ref (ad B x0))] [0] rfl ?_
      exact tX12_laysSent_121 C hr hlocks hf
  · have hf := if_s c7 hf
    refine b_sipush C (v := 379) dX12_laysSent_22 (by decide) ?_
    refine b_iconst C (v := 3) dX12_laysSent_25 (by decide) ?_
    refine b_iload_n C dX12_laysSent_26 1 rfl rfl ?_
    refine b_imul C dX12_laysSent_27 ?_
    refine b_iadd C dX12_laysSent_28 ?_
    obtain ⟨u15, eu15, hf⟩ := bd_s hf
    refine b_topI eu15 ?_
    refine b_istore_n C dX12_laysSent_29 rfl [(3, .int u15), (0, .ref (ad B x0)), (2, .int y2)] (by decide) rfl ?_
    refine b_aload_n C dX12_laysSent_30 1 rfl rfl ?_
    obtain ⟨h16, hf⟩ := gd_s hf
    obtain ⟨r17, er17, hf⟩ := ob_s hf
    refine b_gR C dX12_laysSent_31 fl_X12_40 h16 er17 ?_
    refine b_iload_n C dX12_laysSent_34 0 rfl rfl ?_
    obtain ⟨h18, hf⟩ := gd_s hf
    obtain ⟨h19, hf⟩ := gd_s hf
    refine b_iald C h18 h19 dX12_laysSent_35 ?_
    refine b_iconst C (v := 1) dX12_laysSent_36 (by decide) ?_
    refine b_icmp_ne C (tgt := 59) dX12_laysSent_37 (by decide) (fun c20 => ?_) (fun c20 => ?_)
    · have hf := if_s c20 hf
      refine b_sub [(0, .ref (ad B x0)), (3, .int u15)] [1, 0] rfl ?_
      exact tX12_laysSent_59 C hr hlocks hK18 hf
    · have hf := it_s c20 hf
      refine b_aload_n C dX12_laysSent_40 1 rfl rfl ?_
      refine b_dup C dX12_laysSent_41 rfl ?_
      refine b_gI C dX12_laysSent_42 fl_X12_302 h16 ?_
      refine b_iconst C (v := 1) dX12_laysSent_45 (by decide) ?_
      refine b_aload_n C dX12_laysSent_46 1 rfl rfl ?_
      refine b_gR C dX12_laysSent_47 fl_X12_40 h16 er17 ?_
      refine b_iload_n C dX12_laysSent_50 0 rfl rfl ?_
      refine b_iconst C (v := 1) dX12_laysSent_51 (by decide) ?_
      refine b_iadd C dX12_laysSent_52 ?_
      obtain ⟨h37, hf⟩ := gd_s hf
      refine b_iald C h18 h37 dX12_laysSent_53 ?_
      refine b_ishl C dX12_laysSent_54 ?_
      refine b_ior C dX12_laysSent_55 ?_
      obtain ⟨d38, ed38, hf⟩ := bd_s hf
      refine b_pI C dX12_laysSent_56 fl_X12_302 fp11_25 h16 ed38 ?_
      refine b_sub [(0, .ref (ad B x0)), (3, .int u15)] [1, 0] rfl ?_
      exact tX12_laysSent_59 C hr hlocks hK18 hf
def fX12_laysSent_L18 (N : Nat) (g : Gs) (x0 : Nat) : Int32 × Ds → Option (Unit × Ds) := lp (fun K18 a => fX12_laysSent_B18 N g x0 K18 a.1 a.2) N
theorem tX12_laysSent_L18 {p : Program} {l : Launch} {e : Env} {s : State} {m : MethodId} {args : Array Value} {below : List Frame} {meth : Method} {c : Code} {D : va_G} {cy : Nat → ClassId} {B : Bs} (C : Cx p s m args c cX12_laysSent 4 RX12 D cy B) (hr : meth.sig.returnType = none) (hlocks : meth.locks = false) {N : Nat} {g : Gs} {x0 : Nat}  {dz : Ds} (a : Int32 × Ds) (hf : fX12_laysSent_L18 N g x0 a = some ((), dz)) : WB p l e rmX12_laysSent s m args below meth c 4 D cy B 0 0 (MQ below (QV D cy B g dz) args s 0 0 (wA B)) g a.2 [(0, .ref (ad B x0)), (2, .int a.1)] 18 [] :=
  lp_w (fun K18 hK18 a ha => tX12_laysSent_18 C hr hlocks hK18 ha) N a hf
set_option maxRecDepth 100000 in
def fX12_laysSent (N : Nat) (g : Gs) (x0 : Nat) (d : Ds) : Option (Unit × Ds) := gd (chk g x0 11) <| bd (sI d x0 25 0) fun d2 => (bd (sI d2 x0 26 0) fun d3 => (cb (fX12_nextBegun N g x0 (-1) d3) fun u6 d4 => (fX12_laysSent_L18 N g x0 (u6, d4))))
set_option maxHeartbeats 4000000 in
set_option maxRecDepth 100000 in
theorem tX12_laysSent_E {p : Program} {l : Launch} {e : Env} {s : State} {m : MethodId} {args : Array Value} {below : List Frame} {meth : Method} {c : Code} {D : va_G} {cy : Nat → ClassId} {B : Bs} (C : Cx p s m args c cX12_laysSent 4 RX12 D cy B) (hr : meth.sig.returnType = none) (hlocks : meth.locks = false) {N : Nat} {g : Gs} {x0 : Nat}  {dz : Ds} {d : Ds} (hf : fX12_laysSent N g x0 d = some ((), dz)) : WB p l e rmX12_laysSent s m args below meth c 4 D cy B 0 0 (MQ below (QV D cy B g dz) args s 0 0 (wA B)) g d [(0, .ref (ad B x0))] 0 [] := by
  unfold fX12_laysSent at hf
  refine b_aload_n C dX12_laysSent_0 0 rfl rfl ?_
  refine b_iconst C (v := 0) dX12_laysSent_1 (by decide) ?_
  obtain ⟨h1, hf⟩ := gd_s hf
  obtain ⟨d2, ed2, hf⟩ := bd_s hf
  refine b_pI C dX12_laysSent_2 fl_X12_302 fp11_25 h1 ed2 ?_
  refine b_aload_n C dX12_laysSent_5 0 rfl rfl ?_
  refine b_iconst C (v := 0) dX12_laysSent_6 (by decide) ?_
  obtain ⟨d3, ed3, hf⟩ := bd_s hf
  refine b_pI C dX12_laysSent_7 fl_X12_299 fp11_26 h1 ed3 ?_
  refine b_iconst C (v := (-1)) dX12_laysSent_10 (by decide) ?_
  refine b_istore_n C dX12_laysSent_11 rfl [(1, .int (-1)), (0, .ref (ad B x0))] (by decide) rfl ?_
  refine b_aload_n C dX12_laysSent_12 1 rfl rfl ?_
  refine b_iload_n C dX12_laysSent_13 0 rfl rfl ?_
  obtain ⟨u6, d4, k5, hf⟩ := cb_s hf
  refine b_cVI C [] dX12_laysSent_14 (kX12_nextBegun l D cy B k5) lv_X12_305 ⟨rfl, rfl, Nat.le_of_ble_eq_true rfl, Nat.le_of_ble_eq_true rfl⟩ h1 (by decide) rfl (Nat.le_of_ble_eq_true rfl) ⟨Nat.zero_le _, Nat.zero_le _⟩ rfl ?_
  refine b_istore_n C dX12_laysSent_17 rfl [(2, .int u6), (1, .int (-1)), (0, .ref (ad B x0))] (by decide) rfl ?_
  refine b_sub [(0, .ref (ad B x0)), (2, .int u6)] [2, 0] rfl ?_
  exact tX12_laysSent_L18 C hr hlocks (u6, d4) hf
theorem kX12_laysSent (l : Launch) (D : va_G) (cy : Nat → ClassId) (B : Bs) {N : Nat} {g : Gs} {x0 : Nat}  {dz : Ds} {d : Ds} (hf : fX12_laysSent N g x0 d = some ((), dz)) : Met l yX12_laysSent (.code yX12_laysSent cX12_laysSent 4 none :: wl) rmX12_laysSent (PC D cy B [.ref (ad B x0)] g d) (QV D cy B g dz) 0 0 (wA B) :=
  met_of (by decide +kernel) (Nat.le_of_ble_eq_true rfl) (fun p e s m args below meth c C hr hlocks _ => b_sub [(0, .ref (ad B x0))] [0] rfl (tX12_laysSent_E C hr hlocks hf))
/-! KeyMatrixModel.reportAt(I)I -/
theorem dX12_reportAt_0 : decode cX12_reportAt 0 = .ok (.sipush 558, 3) := by decide +kernel
theorem dX12_reportAt_3 : decode cX12_reportAt 3 = .ok (.bipush 28, 2) := by decide +kernel
theorem dX12_reportAt_5 : decode cX12_reportAt 5 = .ok (.aload_n 0, 1) := by decide +kernel
theorem dX12_reportAt_6 : decode cX12_reportAt 6 = .ok (.getfield 40, 3) := by decide +kernel
theorem dX12_reportAt_9 : decode cX12_reportAt 9 = .ok (.sipush 555, 3) := by decide +kernel
theorem dX12_reportAt_12 : decode cX12_reportAt 12 = .ok (.iaload, 1) := by decide +kernel
theorem dX12_reportAt_13 : decode cX12_reportAt 13 = .ok (.iconst 1, 1) := by decide +kernel
theorem dX12_reportAt_14 : decode cX12_reportAt 14 = .ok (.isub, 1) := by decide +kernel
theorem dX12_reportAt_15 : decode cX12_reportAt 15 = .ok (.iload_n 1, 1) := by decide +kernel
theorem dX12_reportAt_16 : decode cX12_reportAt 16 = .ok (.isub, 1) := by decide +kernel
theorem dX12_reportAt_17 : decode cX12_reportAt 17 = .ok (.bipush 40, 2) := by decide +kernel
theorem dX12_reportAt_19 : decode cX12_reportAt 19 = .ok (.irem, 1) := by decide +kernel
theorem dX12_reportAt_20 : decode cX12_reportAt 20 = .ok (.imul, 1) := by decide +kernel
theorem dX12_reportAt_21 : decode cX12_reportAt 21 = .ok (.iadd, 1) := by decide +kernel
theorem dX12_reportAt_22 : decode cX12_reportAt 22 = .ok (.ireturn, 1) := by decide +kernel
def rmX12_reportAt : Room := { frames := 0, cells := 0, slots := 0, locals := 0 }
set_option maxRecDepth 100000 in
def fX12_reportAt (N : Nat) (g : Gs) (x0 : Nat) (x1 : Int32) (d : Ds) : Option (Int32 × Ds) := gd (chk g x0 11) <| ob (gR g x0 17) fun r2 => (gd (chk g r2 102) <| gd (¬ ((555 : Int32) < 0 ∨ gL g r2 ≤ (555 : Int32).toNatClampNeg)) <| gd (¬ (40 : Int32) = 0) <| bd ((((dI d r2 (555 : Int32).toNatClampNeg) - 1) - x1) - (((dI d r2 (555 : Int32).toNatClampNeg) - 1) - x1) / 40 * 40) fun u6 => (some (((558 : Int32) + ((28 : Int32) * u6)), d)))
set_option maxHeartbeats 4000000 in
set_option maxRecDepth 100000 in
theorem tX12_reportAt_E {p : Program} {l : Launch} {e : Env} {s : State} {m : MethodId} {args : Array Value} {below : List Frame} {meth : Method} {c : Code} {D : va_G} {cy : Nat → ClassId} {B : Bs} (C : Cx p s m args c cX12_reportAt 2 RX12 D cy B) (hr : meth.sig.returnType = (some .int)) (hlocks : meth.locks = false) {N : Nat} {g : Gs} {x0 : Nat} {x1 : Int32} {vz : Int32} {dz : Ds} {d : Ds} (hf : fX12_reportAt N g x0 x1 d = some (vz, dz)) : WB p l e rmX12_reportAt s m args below meth c 2 D cy B 0 0 (MQ below (QI D cy B vz g dz) args s 0 0 (wA B)) g d [(0, .ref (ad B x0)), (1, .int x1)] 0 [] := by
  unfold fX12_reportAt at hf
  refine b_sipush C (v := 558) dX12_reportAt_0 (by decide) ?_
  refine b_bipush C (v := 28) dX12_reportAt_3 (by decide) ?_
  refine b_aload_n C dX12_reportAt_5 0 rfl rfl ?_
  obtain ⟨h1, hf⟩ := gd_s hf
  obtain ⟨r2, er2, hf⟩ := ob_s hf
  refine b_gR C dX12_reportAt_6 fl_X12_40 h1 er2 ?_
  refine b_sipush C (v := 555) dX12_reportAt_9 (by decide) ?_
  obtain ⟨h3, hf⟩ := gd_s hf
  obtain ⟨h4, hf⟩ := gd_s hf
  refine b_iald C h3 h4 dX12_reportAt_12 ?_
  refine b_iconst C (v := 1) dX12_reportAt_13 (by decide) ?_
  refine b_isub C dX12_reportAt_14 ?_
  refine b_iload_n C dX12_reportAt_15 1 rfl rfl ?_
  refine b_isub C dX12_reportAt_16 ?_
  refine b_bipush C (v := 40) dX12_reportAt_17 (by decide) ?_
  obtain ⟨h5, hf⟩ := gd_s hf
  refine b_irem C dX12_reportAt_19 h5 ?_
  obtain ⟨u6, eu6, hf⟩ := bd_s hf
  refine b_topI eu6 ?_
  refine b_imul C dX12_reportAt_20 ?_
  refine b_iadd C dX12_reportAt_21 ?_
  exact b_iret C hr hlocks hf dX12_reportAt_22
theorem kX12_reportAt (l : Launch) (D : va_G) (cy : Nat → ClassId) (B : Bs) {N : Nat} {g : Gs} {x0 : Nat} {x1 : Int32} {vz : Int32} {dz : Ds} {d : Ds} (hf : fX12_reportAt N g x0 x1 d = some (vz, dz)) : Met l yX12_reportAt (.code yX12_reportAt cX12_reportAt 2 (some .int) :: wl) rmX12_reportAt (PC D cy B [.ref (ad B x0), .int x1] g d) (QI D cy B vz g dz) 0 0 (wA B) :=
  met_of (by decide +kernel) (Nat.le_of_ble_eq_true rfl) (fun p e s m args below meth c C hr hlocks _ => b_sub [(0, .ref (ad B x0)), (1, .int x1)] [0, 1] rfl (tX12_reportAt_E C hr hlocks hf))
/-! KeyMatrixModel.isLatest(I)Z -/
theorem yo_X12_reportAt : yX12_reportAt.cls ≠ "java/lang/invoke/MethodHandle" ∧ yX12_reportAt.cls ≠ "java/lang/invoke/VarHandle" ∧ (parseMethodDescriptor yX12_reportAt.desc).map (fun d => d.parameters.length) = some 1 := by decide +kernel
theorem co_X12_reportAt : Cond.code yX12_reportAt cX12_reportAt 2 (some .int) ∈ wl := mW (mT6 (List.mem_of_getElem? (i := 175) (by decide +kernel))) rfl
theorem in_X12_reportAt : Cond.initialized yX12_reportAt.cls ∈ wl := mW (mT1 (List.mem_of_getElem? (i := 12) (by decide +kernel))) rfl
theorem im_X12_reportAt : Cond.instanceMethod yX12_reportAt ∈ wl := mW (mT6 (List.mem_of_getElem? (i := 174) (by decide +kernel))) rfl
theorem se_X12_reportAt : Cond.selects yX12_reportAt.cls yX12_reportAt yX12_reportAt ∈ wl := mW (mT0 (List.mem_of_getElem? (i := 75) (by decide +kernel))) rfl
theorem lv_X12_311 : LV RX12 311 yX12_reportAt cX12_reportAt 2 (some .int) 1 11 := ⟨⟨(RX12, TX12, 33), rfl, rfl⟩, yo_X12_reportAt, mW (mT6 (List.mem_of_getElem? (i := 172) (by decide +kernel))) rfl, im_X12_reportAt, se_X12_reportAt, in_X12_reportAt, co_X12_reportAt⟩
theorem dX12_isLatest_0 : decode cX12_isLatest 0 = .ok (.aload_n 0, 1) := by decide +kernel
theorem dX12_isLatest_1 : decode cX12_isLatest 1 = .ok (.getfield 40, 3) := by decide +kernel
theorem dX12_isLatest_4 : decode cX12_isLatest 4 = .ok (.sipush 555, 3) := by decide +kernel
theorem dX12_isLatest_7 : decode cX12_isLatest 7 = .ok (.iaload, 1) := by decide +kernel
theorem dX12_isLatest_8 : decode cX12_isLatest 8 = .ok (.ifCond .ne 20, 3) := by decide +kernel
theorem dX12_isLatest_11 : decode cX12_isLatest 11 = .ok (.aload_n 0, 1) := by decide +kernel
theorem dX12_isLatest_12 : decode cX12_isLatest 12 = .ok (.getfield 302, 3) := by decide +kernel
theorem dX12_isLatest_15 : decode cX12_isLatest 15 = .ok (.ifCond .ne 11, 3) := by decide +kernel
theorem dX12_isLatest_18 : decode cX12_isLatest 18 = .ok (.iload_n 1, 1) := by decide +kernel
theorem dX12_isLatest_19 : decode cX12_isLatest 19 = .ok (.ifCond .ne 7, 3) := by decide +kernel
theorem dX12_isLatest_22 : decode cX12_isLatest 22 = .ok (.iconst 1, 1) := by decide +kernel
theorem dX12_isLatest_23 : decode cX12_isLatest 23 = .ok (.goto 4, 3) := by decide +kernel
theorem dX12_isLatest_26 : decode cX12_isLatest 26 = .ok (.iconst 0, 1) := by decide +kernel
theorem dX12_isLatest_27 : decode cX12_isLatest 27 = .ok (.ireturn, 1) := by decide +kernel
theorem dX12_isLatest_28 : decode cX12_isLatest 28 = .ok (.aload_n 0, 1) := by decide +kernel
theorem dX12_isLatest_29 : decode cX12_isLatest 29 = .ok (.iconst 0, 1) := by decide +kernel
theorem dX12_isLatest_30 : decode cX12_isLatest 30 = .ok (.invokevirtual 311, 3) := by decide +kernel
theorem dX12_isLatest_33 : decode cX12_isLatest 33 = .ok (.istore_n 2, 1) := by decide +kernel
theorem dX12_isLatest_34 : decode cX12_isLatest 34 = .ok (.aload_n 0, 1) := by decide +kernel
theorem dX12_isLatest_35 : decode cX12_isLatest 35 = .ok (.getfield 40, 3) := by decide +kernel
theorem dX12_isLatest_38 : decode cX12_isLatest 38 = .ok (.iload_n 2, 1) := by decide +kernel
theorem dX12_isLatest_39 : decode cX12_isLatest 39 = .ok (.iconst 1, 1) := by decide +kernel
theorem dX12_isLatest_40 : decode cX12_isLatest 40 = .ok (.iadd, 1) := by decide +kernel
theorem dX12_isLatest_41 : decode cX12_isLatest 41 = .ok (.iaload, 1) := by decide +kernel
theorem dX12_isLatest_42 : decode cX12_isLatest 42 = .ok (.aload_n 0, 1) := by decide +kernel
theorem dX12_isLatest_43 : decode cX12_isLatest 43 = .ok (.getfield 302, 3) := by decide +kernel
theorem dX12_isLatest_46 : decode cX12_isLatest 46 = .ok (.if_icmp .ne 15, 3) := by decide +kernel
theorem dX12_isLatest_49 : decode cX12_isLatest 49 = .ok (.aload_n 0, 1) := by decide +kernel
theorem dX12_isLatest_50 : decode cX12_isLatest 50 = .ok (.getfield 40, 3) := by decide +kernel
theorem dX12_isLatest_53 : decode cX12_isLatest 53 = .ok (.iload_n 2, 1) := by decide +kernel
theorem dX12_isLatest_54 : decode cX12_isLatest 54 = .ok (.iconst 2, 1) := by decide +kernel
theorem dX12_isLatest_55 : decode cX12_isLatest 55 = .ok (.iadd, 1) := by decide +kernel
theorem dX12_isLatest_56 : decode cX12_isLatest 56 = .ok (.iaload, 1) := by decide +kernel
theorem dX12_isLatest_57 : decode cX12_isLatest 57 = .ok (.iload_n 1, 1) := by decide +kernel
theorem dX12_isLatest_58 : decode cX12_isLatest 58 = .ok (.if_icmp .eq 5, 3) := by decide +kernel
theorem dX12_isLatest_61 : decode cX12_isLatest 61 = .ok (.iconst 0, 1) := by decide +kernel
theorem dX12_isLatest_62 : decode cX12_isLatest 62 = .ok (.ireturn, 1) := by decide +kernel
theorem dX12_isLatest_63 : decode cX12_isLatest 63 = .ok (.iconst 0, 1) := by decide +kernel
theorem dX12_isLatest_64 : decode cX12_isLatest 64 = .ok (.istore_n 3, 1) := by decide +kernel
theorem dX12_isLatest_65 : decode cX12_isLatest 65 = .ok (.iload_n 3, 1) := by decide +kernel
theorem dX12_isLatest_66 : decode cX12_isLatest 66 = .ok (.iload_n 1, 1) := by decide +kernel
theorem dX12_isLatest_67 : decode cX12_isLatest 67 = .ok (.if_icmp .ge 30, 3) := by decide +kernel
theorem dX12_isLatest_70 : decode cX12_isLatest 70 = .ok (.aload_n 0, 1) := by decide +kernel
theorem dX12_isLatest_71 : decode cX12_isLatest 71 = .ok (.getfield 40, 3) := by decide +kernel
theorem dX12_isLatest_74 : decode cX12_isLatest 74 = .ok (.iload_n 2, 1) := by decide +kernel
theorem dX12_isLatest_75 : decode cX12_isLatest 75 = .ok (.iconst 3, 1) := by decide +kernel
theorem dX12_isLatest_76 : decode cX12_isLatest 76 = .ok (.iadd, 1) := by decide +kernel
theorem dX12_isLatest_77 : decode cX12_isLatest 77 = .ok (.iload_n 3, 1) := by decide +kernel
theorem dX12_isLatest_78 : decode cX12_isLatest 78 = .ok (.iadd, 1) := by decide +kernel
theorem dX12_isLatest_79 : decode cX12_isLatest 79 = .ok (.iaload, 1) := by decide +kernel
theorem dX12_isLatest_80 : decode cX12_isLatest 80 = .ok (.aload_n 0, 1) := by decide +kernel
theorem dX12_isLatest_81 : decode cX12_isLatest 81 = .ok (.getfield 56, 3) := by decide +kernel
theorem dX12_isLatest_84 : decode cX12_isLatest 84 = .ok (.iload_n 3, 1) := by decide +kernel
theorem dX12_isLatest_85 : decode cX12_isLatest 85 = .ok (.iaload, 1) := by decide +kernel
theorem dX12_isLatest_86 : decode cX12_isLatest 86 = .ok (.if_icmp .eq 5, 3) := by decide +kernel
theorem dX12_isLatest_89 : decode cX12_isLatest 89 = .ok (.iconst 0, 1) := by decide +kernel
theorem dX12_isLatest_90 : decode cX12_isLatest 90 = .ok (.ireturn, 1) := by decide +kernel
theorem dX12_isLatest_91 : decode cX12_isLatest 91 = .ok (.iinc 3 1, 3) := by decide +kernel
theorem dX12_isLatest_94 : decode cX12_isLatest 94 = .ok (.goto (-29), 3) := by decide +kernel
theorem dX12_isLatest_97 : decode cX12_isLatest 97 = .ok (.iconst 1, 1) := by decide +kernel
theorem dX12_isLatest_98 : decode cX12_isLatest 98 = .ok (.ireturn, 1) := by decide +kernel
def rmX12_isLatest : Room := { frames := 1, cells := 0, slots := 0, locals := 21 }
set_option maxRecDepth 100000 in
def fX12_isLatest_J61 (N : Nat) (g : Gs) (x0 : Nat) (x1 : Int32) (d : Ds) : Option (Int32 × Ds) := some (0, d)
set_option maxHeartbeats 4000000 in
set_option maxRecDepth 100000 in
theorem tX12_isLatest_61 {p : Program} {l : Launch} {e : Env} {s : State} {m : MethodId} {args : Array Value} {below : List Frame} {meth : Method} {c : Code} {D : va_G} {cy : Nat → ClassId} {B : Bs} (C : Cx p s m args c cX12_isLatest 4 RX12 D cy B) (hr : meth.sig.returnType = (some .boolean)) (hlocks : meth.locks = false) {N : Nat} {g : Gs} {x0 : Nat} {x1 : Int32} {vz : Int32} {dz : Ds} {d : Ds} (hf : fX12_isLatest_J61 N g x0 x1 d = some (vz, dz)) : WB p l e rmX12_isLatest s m args below meth c 4 D cy B 0 0 (MQ below (QI D cy B vz g dz) args s 0 0 (wA B)) g d [(0, .ref (ad B x0)), (1, .int x1)] 61 [] := by
  unfold fX12_isLatest_J61 at hf
  refine b_iconst C (v := 0) dX12_isLatest_61 (by decide) ?_
  exact b_zret C hr hlocks (by decide) hf dX12_isLatest_62
set_option maxRecDepth 100000 in
def fX12_isLatest_B65 (N : Nat) (g : Gs) (x0 : Nat) (x1 : Int32) (K65 : Int32 × Int32 × Ds → Option (Int32 × Ds)) (y2 : Int32) (y3 : Int32) (d : Ds) : Option (Int32 × Ds) := if x1 ≤ y3 then (some (1, d)) else (gd (chk g x0 11) <| ob (gR g x0 17) fun r15 => (gd (chk g r15 102) <| gd (¬ (((y2 + 3) + y3) < 0 ∨ gL g r15 ≤ ((y2 + 3) + y3).toNatClampNeg)) <| ob (gR g x0 27) fun r18 => (gd (chk g r18 102) <| gd (¬ (y3 < 0 ∨ gL g r18 ≤ y3.toNatClampNeg)) <| if (dI d r15 ((y2 + 3) + y3).toNatClampNeg) = (dI d r18 y3.toNatClampNeg) then (bd (y3 + 1) fun u22 => (K65 (y2, u22, d))) else (some (0, d)))))
set_option maxHeartbeats 4000000 in
set_option maxRecDepth 100000 in
theorem tX12_isLatest_65 {p : Program} {l : Launch} {e : Env} {s : State} {m : MethodId} {args : Array Value} {below : List Frame} {meth : Method} {c : Code} {D : va_G} {cy : Nat → ClassId} {B : Bs} (C : Cx p s m args c cX12_isLatest 4 RX12 D cy B) (hr : meth.sig.returnType = (some .boolean)) (hlocks : meth.locks = false) {N : Nat} {g : Gs} {x0 : Nat} {x1 : Int32} {vz : Int32} {dz : Ds} {K65 : Int32 × Int32 × Ds → Option (Int32 × Ds)} (hK65 : ∀ a, K65 a = some (vz, dz) → WB p l e rmX12_isLatest s m args below meth c 4 D cy B 0 0 (MQ below (QI D cy B vz g dz) args s 0 0 (wA B)) g a.2.2 [(0, .ref (ad B x0)), (1, .int x1), (2, .int a.1), (3, .int a.2.1)] 65 []) {y2 : Int32} {y3 : Int32} {d : Ds} (hf : fX12_isLatest_B65 N g x0 x1 K65 y2 y3 d = some (vz, dz)) : WB p l e rmX12_isLatest s m args below meth c 4 D cy B 0 0 (MQ below (QI D cy B vz g dz) args s 0 0 (wA B)) g d [(0, .ref (ad B x0)), (1, .int x1), (2, .int y2), (3, .int y3)] 65 [] := by
  unfold fX12_isLatest_B65 at hf
  refine b_iload_n C dX12_isLatest_65 3 rfl rfl ?_
  refine b_iload_n C dX12_isLatest_66 1 rfl rfl ?_
  refine b_icmp_ge C (tgt := 97) dX12_isLatest_67 (by decide) (fun c13 => ?_) (fun c13 => ?_)
  · have hf := it_s c13 hf
    refine b_iconst C (v := 1) dX12_isLatest_97 (by decide) ?_
    exact b_zret C hr hlocks (by decide) hf dX12_isLatest_98
  · have hf := if_s c13 hf
    refine b_aload_n C dX12_isLatest_70 0 rfl rfl ?_
    obtain ⟨h14, hf⟩ := gd_s hf
    obtain ⟨r15, er15, hf⟩ := ob_s hf
    refine b_gR C dX12_isLatest_71 fl_X12_40 h14 er15 ?_
    refine b_iload_n C dX12_isLatest_74 2 rfl rfl ?_
    refine b_iconst C (v := 3) dX12_isLatest_75 (by decide) ?_
    refine b_iadd C dX12_isLatest_76 ?_
    refine b_iload_n C dX12_isLatest_77 3 rfl rfl ?_
    refine b_iadd C dX12_isLatest_78 ?_
    obtain ⟨h16, hf⟩ := gd_s hf
    obtain ⟨h17, hf⟩ := gd_s hf
    refine b_iald C h16 h17 dX12_isLatest_79 ?_
    refine b_aload_n C dX12_isLatest_80 0 rfl rfl ?_
    obtain ⟨r18, er18, hf⟩ := ob_s hf
    refine b_gR C dX12_isLatest_81 fl_X12_56 h14 er18 ?_
    refine b_iload_n C dX12_isLatest_84 3 rfl rfl ?_
    obtain ⟨h19, hf⟩ := gd_s hf
    obtain ⟨h20, hf⟩ := gd_s hf
    refine b_iald C h19 h20 dX12_isLatest_85 ?_
    refine b_icmp_eq C (tgt := 91) dX12_isLatest_86 (by decide) (fun c21 => ?_) (fun c21 => ?_)
    · have hf := it_s c21 hf
      obtain ⟨u22, eu22, hf⟩ := bd_s hf
      refine b_iinc C dX12_isLatest_91 3 rfl (by rw [eu22]; rfl) [(3, .int u22), (0, .ref (ad B x0)), (1, .int x1), (2, .int y2)] (by decide) rfl ?_
      refine b_goto C (tgt := 65) dX12_isLatest_94 (by decide) ?_
      refine b_sub [(0, .ref (ad B x0)), (1, .int x1), (2, .int y2), (3, .int u22)] [1, 2, 3, 0] rfl ?_
      exact hK65 (y2, u22, d) hf
    · have hf := if_s c21 hf
      refine b_iconst C (v := 0) dX12_isLatest_89 (by decide) ?_
      exact b_zret C hr hlocks (by decide) hf dX12_isLatest_90
def fX12_isLatest_L65 (N : Nat) (g : Gs) (x0 : Nat) (x1 : Int32) : Int32 × Int32 × Ds → Option (Int32 × Ds) := lp (fun K65 a => fX12_isLatest_B65 N g x0 x1 K65 a.1 a.2.1 a.2.2) N
theorem tX12_isLatest_L65 {p : Program} {l : Launch} {e : Env} {s : State} {m : MethodId} {args : Array Value} {below : List Frame} {meth : Method} {c : Code} {D : va_G} {cy : Nat → ClassId} {B : Bs} (C : Cx p s m args c cX12_isLatest 4 RX12 D cy B) (hr : meth.sig.returnType = (some .boolean)) (hlocks : meth.locks = false) {N : Nat} {g : Gs} {x0 : Nat} {x1 : Int32} {vz : Int32} {dz : Ds} (a : Int32 × Int32 × Ds) (hf : fX12_isLatest_L65 N g x0 x1 a = some (vz, dz)) : WB p l e rmX12_isLatest s m args below meth c 4 D cy B 0 0 (MQ below (QI D cy B vz g dz) args s 0 0 (wA B)) g a.2.2 [(0, .ref (ad B x0)), (1, .int x1), (2, .int a.1), (3, .int a.2.1)] 65 [] :=
  lp_w (fun K65 hK65 a ha => tX12_isLatest_65 C hr hlocks hK65 ha) N a hf
set_option maxRecDepth 100000 in
def fX12_isLatest_J27 (N : Nat) (g : Gs) (x0 : Nat) (x1 : Int32) (z0 : Int32) (d : Ds) : Option (Int32 × Ds) := gd (z0 = 0 ∨ z0 = 1) <| some (z0, d)
set_option maxHeartbeats 4000000 in
set_option maxRecDepth 100000 in
theorem tX12_isLatest_27 {p : Program} {l : Launch} {e : Env} {s : State} {m : MethodId} {args : Array Value} {below : List Frame} {meth : Method} {c : Code} {D : va_G} {cy : Nat → ClassId} {B : Bs} (C : Cx p s m args c cX12_isLatest 4 RX12 D cy B) (hr : meth.sig.returnType = (some .boolean)) (hlocks : meth.locks = false) {N : Nat} {g : Gs} {x0 : Nat} {x1 : Int32} {vz : Int32} {dz : Ds} {z0 : Int32} {d : Ds} (hf : fX12_isLatest_J27 N g x0 x1 z0 d = some (vz, dz)) : WB p l e rmX12_isLatest s m args below meth c 4 D cy B 0 0 (MQ below (QI D cy B vz g dz) args s 0 0 (wA B)) g d [(0, .ref (ad B x0)), (1, .int x1)] 27 [.int z0] := by
  unfold fX12_isLatest_J27 at hf
  obtain ⟨h24, hf⟩ := gd_s hf
  exact b_zret C hr hlocks h24 hf dX12_isLatest_27
set_option maxRecDepth 100000 in
def fX12_isLatest_J26 (N : Nat) (g : Gs) (x0 : Nat) (x1 : Int32) (d : Ds) : Option (Int32 × Ds) := fX12_isLatest_J27 N g x0 x1 0 d
set_option maxHeartbeats 4000000 in
set_option maxRecDepth 100000 in
theorem tX12_isLatest_26 {p : Program} {l : Launch} {e : Env} {s : State} {m : MethodId} {args : Array Value} {below : List Frame} {meth : Method} {c : Code} {D : va_G} {cy : Nat → ClassId} {B : Bs} (C : Cx p s m args c cX12_isLatest 4 RX12 D cy B) (hr : meth.sig.returnType = (some .boolean)) (hlocks : meth.locks = false) {N : Nat} {g : Gs} {x0 : Nat} {x1 : Int32} {vz : Int32} {dz : Ds} {d : Ds} (hf : fX12_isLatest_J26 N g x0 x1 d = some (vz, dz)) : WB p l e rmX12_isLatest s m args below meth c 4 D cy B 0 0 (MQ below (QI D cy B vz g dz) args s 0 0 (wA B)) g d [(0, .ref (ad B x0)), (1, .int x1)] 26 [] := by
  unfold fX12_isLatest_J26 at hf
  refine b_iconst C (v := 0) dX12_isLatest_26 (by decide) ?_
  refine b_sub [(0, .ref (ad B x0)), (1, .int x1)] [0, 1] rfl ?_
  exact tX12_isLatest_27 C hr hlocks hf
set_option maxRecDepth 100000 in
def fX12_isLatest (N : Nat) (g : Gs) (x0 : Nat) (x1 : Int32) (d : Ds) : Option (Int32 × Ds) := gd (chk g x0 11) <| ob (gR g x0 17) fun r2 => (gd (chk g r2 102) <| gd (¬ ((555 : Int32) < 0 ∨ gL g r2 ≤ (555 : Int32).toNatClampNeg)) <| if (dI d r2 (555 : Int32).toNatClampNeg) = 0 then (if (dI d x0 25) = 0 then (if x1 = 0 then (fX12_isLatest_J27 N g x0 x1 1 d) else (fX12_isLatest_J26 N g x0 x1 d)) else (fX12_isLatest_J26 N g x0 x1 d)) else (cb (fX12_reportAt N g x0 0 d) fun u8 d6 => (gd (¬ ((u8 + 1) < 0 ∨ gL g r2 ≤ (u8 + 1).toNatClampNeg)) <| if (dI d6 r2 (u8 + 1).toNatClampNeg) = (dI d6 x0 25) then (gd (¬ ((u8 + 2) < 0 ∨ gL g r2 ≤ (u8 + 2).toNatClampNeg)) <| if (dI d6 r2 (u8 + 2).toNatClampNeg) = x1 then (fX12_isLatest_L65 N g x0 x1 (u8, 0, d6)) else (fX12_isLatest_J61 N g x0 x1 d6)) else (fX12_isLatest_J61 N g x0 x1 d6))))
set_option maxHeartbeats 4000000 in
set_option maxRecDepth 100000 in
theorem tX12_isLatest_E {p : Program} {l : Launch} {e : Env} {s : State} {m : MethodId} {args : Array Value} {below : List Frame} {meth : Method} {c : Code} {D : va_G} {cy : Nat → ClassId} {B : Bs} (C : Cx p s m args c cX12_isLatest 4 RX12 D cy B) (hr : meth.sig.returnType = (some .boolean)) (hlocks : meth.locks = false) {N : Nat} {g : Gs} {x0 : Nat} {x1 : Int32} {vz : Int32} {dz : Ds} {d : Ds} (hf : fX12_isLatest N g x0 x1 d = some (vz, dz)) : WB p l e rmX12_isLatest s m args below meth c 4 D cy B 0 0 (MQ below (QI D cy B vz g dz) args s 0 0 (wA B)) g d [(0, .ref (ad B x0)), (1, .int x1)] 0 [] := by
  unfold fX12_isLatest at hf
  refine b_aload_n C dX12_isLatest_0 0 rfl rfl ?_
  obtain ⟨h1, hf⟩ := gd_s hf
  obtain ⟨r2, er2, hf⟩ := ob_s hf
  refine b_gR C dX12_isLatest_1 fl_X12_40 h1 er2 ?_
  refine b_sipush C (v := 555) dX12_isLatest_4 (by decide) ?_
  obtain ⟨h3, hf⟩ := gd_s hf
  obtain ⟨h4, hf⟩ := gd_s hf
  refine b_iald C h3 h4 dX12_isLatest_7 ?_
  refine b_if_ne C (tgt := 28) dX12_isLatest_8 (by decide) (fun c5 => ?_) (fun c5 => ?_)
  · have hf := if_s c5 hf
    refine b_aload_n C dX12_isLatest_28 0 rfl rfl ?_
    refine b_iconst C (v := 0) dX12_isLatest_29 (by decide) ?_
    obtain ⟨u8, d6, k7, hf⟩ := cb_s hf
    refine b_cVI C [] dX12_isLatest_30 (kX12_reportAt l D cy B k7) lv_X12_311 ⟨rfl, rfl, Nat.le_of_ble_eq_true rfl, Nat.le_of_ble_eq_true rfl⟩ h1 (by decide) rfl (Nat.le_of_ble_eq_true rfl) ⟨Nat.zero_le _, Nat.zero_le _⟩ rfl ?_
    refine b_istore_n C dX12_isLatest_33 rfl [(2, .int u8), (0, .ref (ad B x0)), (1, .int x1)] (by decide) rfl ?_
    refine b_aload_n C dX12_isLatest_34 1 rfl rfl ?_
    refine b_gR C dX12_isLatest_35 fl_X12_40 h1 er2 ?_
    refine b_iload_n C dX12_isLatest_38 0 rfl rfl ?_
    refine b_iconst C (v := 1) dX12_isLatest_39 (by decide) ?_
    refine b_iadd C dX12_isLatest_40 ?_
    obtain ⟨h9, hf⟩ := gd_s hf
    refine b_iald C h3 h9 dX12_isLatest_41 ?_
    refine b_aload_n C dX12_isLatest_42 1 rfl rfl ?_
    refine b_gI C dX12_isLatest_43 fl_X12_302 h1 ?_
    refine b_icmp_ne C (tgt := 61) dX12_isLatest_46 (by decide) (fun c10 => ?_) (fun c10 => ?_)
    · have hf := if_s c10 hf
      refine b_sub [(0, .ref (ad B x0)), (1, .int x1)] [1, 2] rfl ?_
      exact tX12_isLatest_61 C hr hlocks hf
    · have hf := it_s c10 hf
      refine b_aload_n C dX12_isLatest_49 1 rfl rfl ?_
      refine b_gR C dX12_isLatest_50 fl_X12_40 h1 er2 ?_
      refine b_iload_n C dX12_isLatest_53 0 rfl rfl ?_
      refine b_iconst C (v := 2) dX12_isLatest_54 (by decide) ?_
      refine b_iadd C dX12_isLatest_55 ?_
      obtain ⟨h11, hf⟩ := gd_s hf
      refine b_iald C h3 h11 dX12_isLatest_56 ?_
      refine b_iload_n C dX12_isLatest_57 2 rfl rfl ?_
      refine b_icmp_eq C (tgt := 63) dX12_isLatest_58 (by decide) (fun c12 => ?_) (fun c12 => ?_)
      · have hf := it_s c12 hf
        refine b_iconst C (v := 0) dX12_isLatest_63 (by decide) ?_
        refine b_istore_n C dX12_isLatest_64 rfl [(3, .int 0), (2, .int u8), (0, .ref (ad B x0)), (1, .int x1)] (by decide) rfl ?_
        refine b_sub [(0, .ref (ad B x0)), (1, .int x1), (2, .int u8), (3, .int 0)] [2, 3, 1, 0] rfl ?_
        exact tX12_isLatest_L65 C hr hlocks (u8, 0, d6) hf
      · have hf := if_s c12 hf
        refine b_sub [(0, .ref (ad B x0)), (1, .int x1)] [1, 2] rfl ?_
        exact tX12_isLatest_61 C hr hlocks hf
  · have hf := it_s c5 hf
    refine b_aload_n C dX12_isLatest_11 0 rfl rfl ?_
    refine b_gI C dX12_isLatest_12 fl_X12_302 h1 ?_
    refine b_if_ne C (tgt := 26) dX12_isLatest_15 (by decide) (fun c23 => ?_) (fun c23 => ?_)
    · have hf := if_s c23 hf
      refine b_sub [(0, .ref (ad B x0)), (1, .int x1)] [0, 1] rfl ?_
      exact tX12_isLatest_26 C hr hlocks hf
    · have hf := it_s c23 hf
      refine b_iload_n C dX12_isLatest_18 1 rfl rfl ?_
      refine b_if_ne C (tgt := 26) dX12_isLatest_19 (by decide) (fun c25 => ?_) (fun c25 => ?_)
      · have hf := if_s c25 hf
        refine b_sub [(0, .ref (ad B x0)), (1, .int x1)] [0, 1] rfl ?_
        exact tX12_isLatest_26 C hr hlocks hf
      · have hf := it_s c25 hf
        refine b_iconst C (v := 1) dX12_isLatest_22 (by decide) ?_
        refine b_goto C (tgt := 27) dX12_isLatest_23 (by decide) ?_
        refine b_sub [(0, .ref (ad B x0)), (1, .int x1)] [0, 1] rfl ?_
        exact tX12_isLatest_27 C hr hlocks hf
theorem kX12_isLatest (l : Launch) (D : va_G) (cy : Nat → ClassId) (B : Bs) {N : Nat} {g : Gs} {x0 : Nat} {x1 : Int32} {vz : Int32} {dz : Ds} {d : Ds} (hf : fX12_isLatest N g x0 x1 d = some (vz, dz)) : Met l yX12_isLatest (.code yX12_isLatest cX12_isLatest 4 (some .boolean) :: wl) rmX12_isLatest (PC D cy B [.ref (ad B x0), .int x1] g d) (QI D cy B vz g dz) 0 0 (wA B) :=
  met_of (by decide +kernel) (Nat.le_of_ble_eq_true rfl) (fun p e s m args below meth c C hr hlocks _ => b_sub [(0, .ref (ad B x0)), (1, .int x1)] [0, 1] rfl (tX12_isLatest_E C hr hlocks hf))
/-! KeyMatrixModel.reportHas(II)Z -/
theorem dX12_reportHas_0 : decode cX12_reportHas 0 = .ok (.iconst 0, 1) := by decide +kernel
theorem dX12_reportHas_1 : decode cX12_reportHas 1 = .ok (.istore_n 3, 1) := by decide +kernel
theorem dX12_reportHas_2 : decode cX12_reportHas 2 = .ok (.iload_n 3, 1) := by decide +kernel
theorem dX12_reportHas_3 : decode cX12_reportHas 3 = .ok (.aload_n 0, 1) := by decide +kernel
theorem dX12_reportHas_4 : decode cX12_reportHas 4 = .ok (.getfield 40, 3) := by decide +kernel
theorem dX12_reportHas_7 : decode cX12_reportHas 7 = .ok (.iload_n 1, 1) := by decide +kernel
theorem dX12_reportHas_8 : decode cX12_reportHas 8 = .ok (.iconst 2, 1) := by decide +kernel
theorem dX12_reportHas_9 : decode cX12_reportHas 9 = .ok (.iadd, 1) := by decide +kernel
theorem dX12_reportHas_10 : decode cX12_reportHas 10 = .ok (.iaload, 1) := by decide +kernel
theorem dX12_reportHas_11 : decode cX12_reportHas 11 = .ok (.if_icmp .ge 25, 3) := by decide +kernel
theorem dX12_reportHas_14 : decode cX12_reportHas 14 = .ok (.aload_n 0, 1) := by decide +kernel
theorem dX12_reportHas_15 : decode cX12_reportHas 15 = .ok (.getfield 40, 3) := by decide +kernel
theorem dX12_reportHas_18 : decode cX12_reportHas 18 = .ok (.iload_n 1, 1) := by decide +kernel
theorem dX12_reportHas_19 : decode cX12_reportHas 19 = .ok (.iconst 3, 1) := by decide +kernel
theorem dX12_reportHas_20 : decode cX12_reportHas 20 = .ok (.iadd, 1) := by decide +kernel
theorem dX12_reportHas_21 : decode cX12_reportHas 21 = .ok (.iload_n 3, 1) := by decide +kernel
theorem dX12_reportHas_22 : decode cX12_reportHas 22 = .ok (.iadd, 1) := by decide +kernel
theorem dX12_reportHas_23 : decode cX12_reportHas 23 = .ok (.iaload, 1) := by decide +kernel
theorem dX12_reportHas_24 : decode cX12_reportHas 24 = .ok (.iload_n 2, 1) := by decide +kernel
theorem dX12_reportHas_25 : decode cX12_reportHas 25 = .ok (.if_icmp .ne 5, 3) := by decide +kernel
theorem dX12_reportHas_28 : decode cX12_reportHas 28 = .ok (.iconst 1, 1) := by decide +kernel
theorem dX12_reportHas_29 : decode cX12_reportHas 29 = .ok (.ireturn, 1) := by decide +kernel
theorem dX12_reportHas_30 : decode cX12_reportHas 30 = .ok (.iinc 3 1, 3) := by decide +kernel
theorem dX12_reportHas_33 : decode cX12_reportHas 33 = .ok (.goto (-31), 3) := by decide +kernel
theorem dX12_reportHas_36 : decode cX12_reportHas 36 = .ok (.iconst 0, 1) := by decide +kernel
theorem dX12_reportHas_37 : decode cX12_reportHas 37 = .ok (.ireturn, 1) := by decide +kernel
def rmX12_reportHas : Room := { frames := 0, cells := 0, slots := 0, locals := 0 }
set_option maxRecDepth 100000 in
def fX12_reportHas_B2 (N : Nat) (g : Gs) (x0 : Nat) (x1 : Int32) (x2 : Int32) (K2 : Int32 × Ds → Option (Int32 × Ds)) (y3 : Int32) (d : Ds) : Option (Int32 × Ds) := gd (chk g x0 11) <| ob (gR g x0 17) fun r2 => (gd (chk g r2 102) <| gd (¬ ((x1 + 2) < 0 ∨ gL g r2 ≤ (x1 + 2).toNatClampNeg)) <| if (dI d r2 (x1 + 2).toNatClampNeg) ≤ y3 then (some (0, d)) else (gd (¬ (((x1 + 3) + y3) < 0 ∨ gL g r2 ≤ ((x1 + 3) + y3).toNatClampNeg)) <| if (dI d r2 ((x1 + 3) + y3).toNatClampNeg) = x2 then (some (1, d)) else (bd (y3 + 1) fun u8 => (K2 (u8, d)))))
set_option maxHeartbeats 4000000 in
set_option maxRecDepth 100000 in
theorem tX12_reportHas_2 {p : Program} {l : Launch} {e : Env} {s : State} {m : MethodId} {args : Array Value} {below : List Frame} {meth : Method} {c : Code} {D : va_G} {cy : Nat → ClassId} {B : Bs} (C : Cx p s m args c cX12_reportHas 4 RX12 D cy B) (hr : meth.sig.returnType = (some .boolean)) (hlocks : meth.locks = false) {N : Nat} {g : Gs} {x0 : Nat} {x1 : Int32} {x2 : Int32} {vz : Int32} {dz : Ds} {K2 : Int32 × Ds → Option (Int32 × Ds)} (hK2 : ∀ a, K2 a = some (vz, dz) → WB p l e rmX12_reportHas s m args below meth c 4 D cy B 0 0 (MQ below (QI D cy B vz g dz) args s 0 0 (wA B)) g a.2 [(0, .ref (ad B x0)), (1, .int x1), (2, .int x2), (3, .int a.1)] 2 []) {y3 : Int32} {d : Ds} (hf : fX12_reportHas_B2 N g x0 x1 x2 K2 y3 d = some (vz, dz)) : WB p l e rmX12_reportHas s m args below meth c 4 D cy B 0 0 (MQ below (QI D cy B vz g dz) args s 0 0 (wA B)) g d [(0, .ref (ad B x0)), (1, .int x1), (2, .int x2), (3, .int y3)] 2 [] := by
  unfold fX12_reportHas_B2 at hf
  refine b_iload_n C dX12_reportHas_2 3 rfl rfl ?_
  refine b_aload_n C dX12_reportHas_3 0 rfl rfl ?_
  obtain ⟨h1, hf⟩ := gd_s hf
  obtain ⟨r2, er2, hf⟩ := ob_s hf
  refine b_gR C dX12_reportHas_4 fl_X12_40 h1 er2 ?_
  refine b_iload_n C dX12_reportHas_7 1 rfl rfl ?_
  refine b_iconst C (v := 2) dX12_reportHas_8 (by decide) ?_
  refine b_iadd C dX12_reportHas_9 ?_
  obtain ⟨h3, hf⟩ := gd_s hf
  obtain ⟨h4, hf⟩ := gd_s hf
  refine b_iald C h3 h4 dX12_reportHas_10 ?_
  refine b_icmp_ge C (tgt := 36) dX12_reportHas_11 (by decide) (fun c5 => ?_) (fun c5 => ?_)
  · have hf := it_s c5 hf
    refine b_iconst C (v := 0) dX12_reportHas_36 (by decide) ?_
    exact b_zret C hr hlocks (by decide) hf dX12_reportHas_37
  · have hf := if_s c5 hf
    refine b_aload_n C dX12_reportHas_14 0 rfl rfl ?_
    refine b_gR C dX12_reportHas_15 fl_X12_40 h1 er2 ?_
    refine b_iload_n C dX12_reportHas_18 1 rfl rfl ?_
    refine b_iconst C (v := 3) dX12_reportHas_19 (by decide) ?_
    refine b_iadd C dX12_reportHas_20 ?_
    refine b_iload_n C dX12_reportHas_21 3 rfl rfl ?_
    refine b_iadd C dX12_reportHas_22 ?_
    obtain ⟨h6, hf⟩ := gd_s hf
    refine b_iald C h3 h6 dX12_reportHas_23 ?_
    refine b_iload_n C dX12_reportHas_24 2 rfl rfl ?_
    refine b_icmp_ne C (tgt := 30) dX12_reportHas_25 (by decide) (fun c7 => ?_) (fun c7 => ?_)
    · have hf := if_s c7 hf
      obtain ⟨u8, eu8, hf⟩ := bd_s hf
      refine b_iinc C dX12_reportHas_30 3 rfl (by rw [eu8]; rfl) [(3, .int u8), (0, .ref (ad B x0)), (1, .int x1), (2, .int x2)] (by decide) rfl ?_
      refine b_goto C (tgt := 2) dX12_reportHas_33 (by decide) ?_
      refine b_sub [(0, .ref (ad B x0)), (1, .int x1), (2, .int x2), (3, .int u8)] [1, 2, 3, 0] rfl ?_
      exact hK2 (u8, d) hf
    · have hf := it_s c7 hf
      refine b_iconst C (v := 1) dX12_reportHas_28 (by decide) ?_
      exact b_zret C hr hlocks (by decide) hf dX12_reportHas_29
def fX12_reportHas_L2 (N : Nat) (g : Gs) (x0 : Nat) (x1 : Int32) (x2 : Int32) : Int32 × Ds → Option (Int32 × Ds) := lp (fun K2 a => fX12_reportHas_B2 N g x0 x1 x2 K2 a.1 a.2) N
theorem tX12_reportHas_L2 {p : Program} {l : Launch} {e : Env} {s : State} {m : MethodId} {args : Array Value} {below : List Frame} {meth : Method} {c : Code} {D : va_G} {cy : Nat → ClassId} {B : Bs} (C : Cx p s m args c cX12_reportHas 4 RX12 D cy B) (hr : meth.sig.returnType = (some .boolean)) (hlocks : meth.locks = false) {N : Nat} {g : Gs} {x0 : Nat} {x1 : Int32} {x2 : Int32} {vz : Int32} {dz : Ds} (a : Int32 × Ds) (hf : fX12_reportHas_L2 N g x0 x1 x2 a = some (vz, dz)) : WB p l e rmX12_reportHas s m args below meth c 4 D cy B 0 0 (MQ below (QI D cy B vz g dz) args s 0 0 (wA B)) g a.2 [(0, .ref (ad B x0)), (1, .int x1), (2, .int x2), (3, .int a.1)] 2 [] :=
  lp_w (fun K2 hK2 a ha => tX12_reportHas_2 C hr hlocks hK2 ha) N a hf
set_option maxRecDepth 100000 in
def fX12_reportHas (N : Nat) (g : Gs) (x0 : Nat) (x1 : Int32) (x2 : Int32) (d : Ds) : Option (Int32 × Ds) := fX12_reportHas_L2 N g x0 x1 x2 (0, d)
set_option maxHeartbeats 4000000 in
set_option maxRecDepth 100000 in
theorem tX12_reportHas_E {p : Program} {l : Launch} {e : Env} {s : State} {m : MethodId} {args : Array Value} {below : List Frame} {meth : Method} {c : Code} {D : va_G} {cy : Nat → ClassId} {B : Bs} (C : Cx p s m args c cX12_reportHas 4 RX12 D cy B) (hr : meth.sig.returnType = (some .boolean)) (hlocks : meth.locks = false) {N : Nat} {g : Gs} {x0 : Nat} {x1 : Int32} {x2 : Int32} {vz : Int32} {dz : Ds} {d : Ds} (hf : fX12_reportHas N g x0 x1 x2 d = some (vz, dz)) : WB p l e rmX12_reportHas s m args below meth c 4 D cy B 0 0 (MQ below (QI D cy B vz g dz) args s 0 0 (wA B)) g d [(0, .ref (ad B x0)), (1, .int x1), (2, .int x2)] 0 [] := by
  unfold fX12_reportHas at hf
  refine b_iconst C (v := 0) dX12_reportHas_0 (by decide) ?_
  refine b_istore_n C dX12_reportHas_1 rfl [(3, .int 0), (0, .ref (ad B x0)), (1, .int x1), (2, .int x2)] (by decide) rfl ?_
  refine b_sub [(0, .ref (ad B x0)), (1, .int x1), (2, .int x2), (3, .int 0)] [1, 2, 3, 0] rfl ?_
  exact tX12_reportHas_L2 C hr hlocks (0, d) hf
theorem kX12_reportHas (l : Launch) (D : va_G) (cy : Nat → ClassId) (B : Bs) {N : Nat} {g : Gs} {x0 : Nat} {x1 : Int32} {x2 : Int32} {vz : Int32} {dz : Ds} {d : Ds} (hf : fX12_reportHas N g x0 x1 x2 d = some (vz, dz)) : Met l yX12_reportHas (.code yX12_reportHas cX12_reportHas 4 (some .boolean) :: wl) rmX12_reportHas (PC D cy B [.ref (ad B x0), .int x1, .int x2] g d) (QI D cy B vz g dz) 0 0 (wA B) :=
  met_of (by decide +kernel) (Nat.le_of_ble_eq_true rfl) (fun p e s m args below meth c C hr hlocks _ => b_sub [(0, .ref (ad B x0)), (1, .int x1), (2, .int x2)] [0, 1, 2] rfl (tX12_reportHas_E C hr hlocks hf))
/-! KeyMatrixModel.hears(I)V -/
theorem yo_X12_reportHas : yX12_reportHas.cls ≠ "java/lang/invoke/MethodHandle" ∧ yX12_reportHas.cls ≠ "java/lang/invoke/VarHandle" ∧ (parseMethodDescriptor yX12_reportHas.desc).map (fun d => d.parameters.length) = some 2 := by decide +kernel
theorem co_X12_reportHas : Cond.code yX12_reportHas cX12_reportHas 4 (some .boolean) ∈ wl := mW (mT6 (List.mem_of_getElem? (i := 183) (by decide +kernel))) rfl
theorem in_X12_reportHas : Cond.initialized yX12_reportHas.cls ∈ wl := mW (mT1 (List.mem_of_getElem? (i := 12) (by decide +kernel))) rfl
theorem im_X12_reportHas : Cond.instanceMethod yX12_reportHas ∈ wl := mW (mT6 (List.mem_of_getElem? (i := 182) (by decide +kernel))) rfl
theorem se_X12_reportHas : Cond.selects yX12_reportHas.cls yX12_reportHas yX12_reportHas ∈ wl := mW (mT0 (List.mem_of_getElem? (i := 77) (by decide +kernel))) rfl
theorem lv_X12_323 : LV RX12 323 yX12_reportHas cX12_reportHas 4 (some .boolean) 2 11 := ⟨⟨(RX12, TX12, 33), rfl, rfl⟩, yo_X12_reportHas, mW (mT6 (List.mem_of_getElem? (i := 180) (by decide +kernel))) rfl, im_X12_reportHas, se_X12_reportHas, in_X12_reportHas, co_X12_reportHas⟩
theorem dX12_hears_0 : decode cX12_hears 0 = .ok (.iconst (-1), 1) := by decide +kernel
theorem dX12_hears_1 : decode cX12_hears 1 = .ok (.istore_n 2, 1) := by decide +kernel
theorem dX12_hears_2 : decode cX12_hears 2 = .ok (.iconst 0, 1) := by decide +kernel
theorem dX12_hears_3 : decode cX12_hears 3 = .ok (.istore_n 3, 1) := by decide +kernel
theorem dX12_hears_4 : decode cX12_hears 4 = .ok (.iload_n 3, 1) := by decide +kernel
theorem dX12_hears_5 : decode cX12_hears 5 = .ok (.aload_n 0, 1) := by decide +kernel
theorem dX12_hears_6 : decode cX12_hears 6 = .ok (.getfield 40, 3) := by decide +kernel
theorem dX12_hears_9 : decode cX12_hears 9 = .ok (.iload_n 1, 1) := by decide +kernel
theorem dX12_hears_10 : decode cX12_hears 10 = .ok (.iconst 2, 1) := by decide +kernel
theorem dX12_hears_11 : decode cX12_hears 11 = .ok (.iadd, 1) := by decide +kernel
theorem dX12_hears_12 : decode cX12_hears 12 = .ok (.iaload, 1) := by decide +kernel
theorem dX12_hears_13 : decode cX12_hears 13 = .ok (.if_icmp .ge 66, 3) := by decide +kernel
theorem dX12_hears_16 : decode cX12_hears 16 = .ok (.aload_n 0, 1) := by decide +kernel
theorem dX12_hears_17 : decode cX12_hears 17 = .ok (.getfield 40, 3) := by decide +kernel
theorem dX12_hears_20 : decode cX12_hears 20 = .ok (.sipush 555, 3) := by decide +kernel
theorem dX12_hears_23 : decode cX12_hears 23 = .ok (.iaload, 1) := by decide +kernel
theorem dX12_hears_24 : decode cX12_hears 24 = .ok (.iconst 1, 1) := by decide +kernel
theorem dX12_hears_25 : decode cX12_hears 25 = .ok (.if_icmp .le 29, 3) := by decide +kernel
theorem dX12_hears_28 : decode cX12_hears 28 = .ok (.aload_n 0, 1) := by decide +kernel
theorem dX12_hears_29 : decode cX12_hears 29 = .ok (.aload_n 0, 1) := by decide +kernel
theorem dX12_hears_30 : decode cX12_hears 30 = .ok (.iconst 1, 1) := by decide +kernel
theorem dX12_hears_31 : decode cX12_hears 31 = .ok (.invokevirtual 311, 3) := by decide +kernel
theorem dX12_hears_34 : decode cX12_hears 34 = .ok (.aload_n 0, 1) := by decide +kernel
theorem dX12_hears_35 : decode cX12_hears 35 = .ok (.getfield 40, 3) := by decide +kernel
theorem dX12_hears_38 : decode cX12_hears 38 = .ok (.iload_n 1, 1) := by decide +kernel
theorem dX12_hears_39 : decode cX12_hears 39 = .ok (.iconst 3, 1) := by decide +kernel
theorem dX12_hears_40 : decode cX12_hears 40 = .ok (.iadd, 1) := by decide +kernel
theorem dX12_hears_41 : decode cX12_hears 41 = .ok (.iload_n 3, 1) := by decide +kernel
theorem dX12_hears_42 : decode cX12_hears 42 = .ok (.iadd, 1) := by decide +kernel
theorem dX12_hears_43 : decode cX12_hears 43 = .ok (.iaload, 1) := by decide +kernel
theorem dX12_hears_44 : decode cX12_hears 44 = .ok (.invokevirtual 323, 3) := by decide +kernel
theorem dX12_hears_47 : decode cX12_hears 47 = .ok (.ifCond .eq 7, 3) := by decide +kernel
theorem dX12_hears_50 : decode cX12_hears 50 = .ok (.iconst 1, 1) := by decide +kernel
theorem dX12_hears_51 : decode cX12_hears 51 = .ok (.goto 4, 3) := by decide +kernel
theorem dX12_hears_54 : decode cX12_hears 54 = .ok (.iconst 0, 1) := by decide +kernel
theorem dX12_hears_55 : decode cX12_hears 55 = .ok (.istore 4, 2) := by decide +kernel
theorem dX12_hears_57 : decode cX12_hears 57 = .ok (.iload 4, 2) := by decide +kernel
theorem dX12_hears_59 : decode cX12_hears 59 = .ok (.ifCond .ne 14, 3) := by decide +kernel
theorem dX12_hears_62 : decode cX12_hears 62 = .ok (.aload_n 0, 1) := by decide +kernel
theorem dX12_hears_63 : decode cX12_hears 63 = .ok (.getfield 40, 3) := by decide +kernel
theorem dX12_hears_66 : decode cX12_hears 66 = .ok (.iload_n 1, 1) := by decide +kernel
theorem dX12_hears_67 : decode cX12_hears 67 = .ok (.iconst 3, 1) := by decide +kernel
theorem dX12_hears_68 : decode cX12_hears 68 = .ok (.iadd, 1) := by decide +kernel
theorem dX12_hears_69 : decode cX12_hears 69 = .ok (.iload_n 3, 1) := by decide +kernel
theorem dX12_hears_70 : decode cX12_hears 70 = .ok (.iadd, 1) := by decide +kernel
theorem dX12_hears_71 : decode cX12_hears 71 = .ok (.iaload, 1) := by decide +kernel
theorem dX12_hears_72 : decode cX12_hears 72 = .ok (.istore_n 2, 1) := by decide +kernel
theorem dX12_hears_73 : decode cX12_hears 73 = .ok (.iinc 3 1, 3) := by decide +kernel
theorem dX12_hears_76 : decode cX12_hears 76 = .ok (.goto (-72), 3) := by decide +kernel
theorem dX12_hears_79 : decode cX12_hears 79 = .ok (.iload_n 2, 1) := by decide +kernel
theorem dX12_hears_80 : decode cX12_hears 80 = .ok (.ifCond .lt 40, 3) := by decide +kernel
theorem dX12_hears_83 : decode cX12_hears 83 = .ok (.aload_n 0, 1) := by decide +kernel
theorem dX12_hears_84 : decode cX12_hears 84 = .ok (.getfield 40, 3) := by decide +kernel
theorem dX12_hears_87 : decode cX12_hears 87 = .ok (.sipush 455, 3) := by decide +kernel
theorem dX12_hears_90 : decode cX12_hears 90 = .ok (.iload_n 2, 1) := by decide +kernel
theorem dX12_hears_91 : decode cX12_hears 91 = .ok (.iastore, 1) := by decide +kernel
theorem dX12_hears_92 : decode cX12_hears 92 = .ok (.aload_n 0, 1) := by decide +kernel
theorem dX12_hears_93 : decode cX12_hears 93 = .ok (.getfield 40, 3) := by decide +kernel
theorem dX12_hears_96 : decode cX12_hears 96 = .ok (.sipush 456, 3) := by decide +kernel
theorem dX12_hears_99 : decode cX12_hears 99 = .ok (.aload_n 0, 1) := by decide +kernel
theorem dX12_hears_100 : decode cX12_hears 100 = .ok (.getfield 40, 3) := by decide +kernel
theorem dX12_hears_103 : decode cX12_hears 103 = .ok (.sipush 354, 3) := by decide +kernel
theorem dX12_hears_106 : decode cX12_hears 106 = .ok (.iaload, 1) := by decide +kernel
theorem dX12_hears_107 : decode cX12_hears 107 = .ok (.iastore, 1) := by decide +kernel
theorem dX12_hears_108 : decode cX12_hears 108 = .ok (.aload_n 0, 1) := by decide +kernel
theorem dX12_hears_109 : decode cX12_hears 109 = .ok (.getfield 40, 3) := by decide +kernel
theorem dX12_hears_112 : decode cX12_hears 112 = .ok (.sipush 458, 3) := by decide +kernel
theorem dX12_hears_115 : decode cX12_hears 115 = .ok (.iconst 0, 1) := by decide +kernel
theorem dX12_hears_116 : decode cX12_hears 116 = .ok (.iastore, 1) := by decide +kernel
theorem dX12_hears_117 : decode cX12_hears 117 = .ok (.goto 57, 3) := by decide +kernel
theorem dX12_hears_120 : decode cX12_hears 120 = .ok (.aload_n 0, 1) := by decide +kernel
theorem dX12_hears_121 : decode cX12_hears 121 = .ok (.getfield 40, 3) := by decide +kernel
theorem dX12_hears_124 : decode cX12_hears 124 = .ok (.sipush 455, 3) := by decide +kernel
theorem dX12_hears_127 : decode cX12_hears 127 = .ok (.iaload, 1) := by decide +kernel
theorem dX12_hears_128 : decode cX12_hears 128 = .ok (.ifCond .lt 46, 3) := by decide +kernel
theorem dX12_hears_131 : decode cX12_hears 131 = .ok (.aload_n 0, 1) := by decide +kernel
theorem dX12_hears_132 : decode cX12_hears 132 = .ok (.iload_n 1, 1) := by decide +kernel
theorem dX12_hears_133 : decode cX12_hears 133 = .ok (.aload_n 0, 1) := by decide +kernel
theorem dX12_hears_134 : decode cX12_hears 134 = .ok (.getfield 40, 3) := by decide +kernel
theorem dX12_hears_137 : decode cX12_hears 137 = .ok (.sipush 455, 3) := by decide +kernel
theorem dX12_hears_140 : decode cX12_hears 140 = .ok (.iaload, 1) := by decide +kernel
theorem dX12_hears_141 : decode cX12_hears 141 = .ok (.invokevirtual 323, 3) := by decide +kernel
theorem dX12_hears_144 : decode cX12_hears 144 = .ok (.ifCond .ne 30, 3) := by decide +kernel
theorem dX12_hears_147 : decode cX12_hears 147 = .ok (.aload_n 0, 1) := by decide +kernel
theorem dX12_hears_148 : decode cX12_hears 148 = .ok (.getfield 40, 3) := by decide +kernel
theorem dX12_hears_151 : decode cX12_hears 151 = .ok (.sipush 455, 3) := by decide +kernel
theorem dX12_hears_154 : decode cX12_hears 154 = .ok (.iconst (-1), 1) := by decide +kernel
theorem dX12_hears_155 : decode cX12_hears 155 = .ok (.iastore, 1) := by decide +kernel
theorem dX12_hears_156 : decode cX12_hears 156 = .ok (.aload_n 0, 1) := by decide +kernel
theorem dX12_hears_157 : decode cX12_hears 157 = .ok (.getfield 40, 3) := by decide +kernel
theorem dX12_hears_160 : decode cX12_hears 160 = .ok (.sipush 456, 3) := by decide +kernel
theorem dX12_hears_163 : decode cX12_hears 163 = .ok (.iconst (-1), 1) := by decide +kernel
theorem dX12_hears_164 : decode cX12_hears 164 = .ok (.iastore, 1) := by decide +kernel
theorem dX12_hears_165 : decode cX12_hears 165 = .ok (.aload_n 0, 1) := by decide +kernel
theorem dX12_hears_166 : decode cX12_hears 166 = .ok (.getfield 40, 3) := by decide +kernel
theorem dX12_hears_169 : decode cX12_hears 169 = .ok (.sipush 458, 3) := by decide +kernel
theorem dX12_hears_172 : decode cX12_hears 172 = .ok (.iconst (-1), 1) := by decide +kernel
theorem dX12_hears_173 : decode cX12_hears 173 = .ok (.iastore, 1) := by decide +kernel
theorem dX12_hears_174 : decode cX12_hears 174 = .ok (.return_, 1) := by decide +kernel
def rmX12_hears : Room := { frames := 1, cells := 0, slots := 0, locals := 23 }
set_option maxRecDepth 100000 in
def fX12_hears_J174 (N : Nat) (g : Gs) (x0 : Nat) (x1 : Int32) (d : Ds) : Option (Unit × Ds) := some ((), d)
set_option maxHeartbeats 4000000 in
set_option maxRecDepth 100000 in
theorem tX12_hears_174 {p : Program} {l : Launch} {e : Env} {s : State} {m : MethodId} {args : Array Value} {below : List Frame} {meth : Method} {c : Code} {D : va_G} {cy : Nat → ClassId} {B : Bs} (C : Cx p s m args c cX12_hears 5 RX12 D cy B) (hr : meth.sig.returnType = none) (hlocks : meth.locks = false) {N : Nat} {g : Gs} {x0 : Nat} {x1 : Int32}  {dz : Ds} {d : Ds} (hf : fX12_hears_J174 N g x0 x1 d = some ((), dz)) : WB p l e rmX12_hears s m args below meth c 5 D cy B 0 0 (MQ below (QV D cy B g dz) args s 0 0 (wA B)) g d [(0, .ref (ad B x0)), (1, .int x1)] 174 [] := by
  unfold fX12_hears_J174 at hf
  exact b_vret C hr hlocks hf dX12_hears_174
set_option maxRecDepth 100000 in
def fX12_hears_J73 (N : Nat) (g : Gs) (x0 : Nat) (x1 : Int32) (K4 : Int32 × Int32 × Ds → Option (Unit × Ds)) (y2 : Int32) (y3 : Int32) (d : Ds) : Option (Unit × Ds) := bd (y3 + 1) fun u28 => (K4 (y2, u28, d))
set_option maxHeartbeats 4000000 in
set_option maxRecDepth 100000 in
theorem tX12_hears_73 {p : Program} {l : Launch} {e : Env} {s : State} {m : MethodId} {args : Array Value} {below : List Frame} {meth : Method} {c : Code} {D : va_G} {cy : Nat → ClassId} {B : Bs} (C : Cx p s m args c cX12_hears 5 RX12 D cy B) (hr : meth.sig.returnType = none) (hlocks : meth.locks = false) {N : Nat} {g : Gs} {x0 : Nat} {x1 : Int32}  {dz : Ds} {K4 : Int32 × Int32 × Ds → Option (Unit × Ds)} (hK4 : ∀ a, K4 a = some ((), dz) → WB p l e rmX12_hears s m args below meth c 5 D cy B 0 0 (MQ below (QV D cy B g dz) args s 0 0 (wA B)) g a.2.2 [(0, .ref (ad B x0)), (1, .int x1), (2, .int a.1), (3, .int a.2.1)] 4 []) {y2 : Int32} {y3 : Int32} {d : Ds} (hf : fX12_hears_J73 N g x0 x1 K4 y2 y3 d = some ((), dz)) : WB p l e rmX12_hears s m args below meth c 5 D cy B 0 0 (MQ below (QV D cy B g dz) args s 0 0 (wA B)) g d [(0, .ref (ad B x0)), (1, .int x1), (2, .int y2), (3, .int y3)] 73 [] := by
  unfold fX12_hears_J73 at hf
  obtain ⟨u28, eu28, hf⟩ := bd_s hf
  refine b_iinc C dX12_hears_73 3 rfl (by rw [eu28]; rfl) [(3, .int u28), (0, .ref (ad B x0)), (1, .int x1), (2, .int y2)] (by decide) rfl ?_
  refine b_goto C (tgt := 4) dX12_hears_76 (by decide) ?_
  refine b_sub [(0, .ref (ad B x0)), (1, .int x1), (2, .int y2), (3, .int u28)] [1, 2, 3, 0] rfl ?_
  exact hK4 (y2, u28, d) hf
set_option maxRecDepth 100000 in
def fX12_hears_J55 (N : Nat) (g : Gs) (x0 : Nat) (x1 : Int32) (K4 : Int32 × Int32 × Ds → Option (Unit × Ds)) (y2 : Int32) (y3 : Int32) (z0 : Int32) (d : Ds) : Option (Unit × Ds) := if z0 = 0 then (gd (chk g x0 11) <| ob (gR g x0 17) fun r30 => (gd (chk g r30 102) <| gd (¬ (((x1 + 3) + y3) < 0 ∨ gL g r30 ≤ ((x1 + 3) + y3).toNatClampNeg)) <| bd ((dI d r30 ((x1 + 3) + y3).toNatClampNeg)) fun u33 => (fX12_hears_J73 N g x0 x1 K4 u33 y3 d))) else (fX12_hears_J73 N g x0 x1 K4 y2 y3 d)
set_option maxHeartbeats 4000000 in
set_option maxRecDepth 100000 in
theorem tX12_hears_55 {p : Program} {l : Launch} {e : Env} {s : State} {m : MethodId} {args : Array Value} {below : List Frame} {meth : Method} {c : Code} {D : va_G} {cy : Nat → ClassId} {B : Bs} (C : Cx p s m args c cX12_hears 5 RX12 D cy B) (hr : meth.sig.returnType = none) (hlocks : meth.locks = false) {N : Nat} {g : Gs} {x0 : Nat} {x1 : Int32}  {dz : Ds} {K4 : Int32 × Int32 × Ds → Option (Unit × Ds)} (hK4 : ∀ a, K4 a = some ((), dz) → WB p l e rmX12_hears s m args below meth c 5 D cy B 0 0 (MQ below (QV D cy B g dz) args s 0 0 (wA B)) g a.2.2 [(0, .ref (ad B x0)), (1, .int x1), (2, .int a.1), (3, .int a.2.1)] 4 []) {y2 : Int32} {y3 : Int32} {z0 : Int32} {d : Ds} (hf : fX12_hears_J55 N g x0 x1 K4 y2 y3 z0 d = some ((), dz)) : WB p l e rmX12_hears s m args below meth c 5 D cy B 0 0 (MQ below (QV D cy B g dz) args s 0 0 (wA B)) g d [(0, .ref (ad B x0)), (1, .int x1), (2, .int y2), (3, .int y3)] 55 [.int z0] := by
  unfold fX12_hears_J55 at hf
  refine b_istore C dX12_hears_55 [(4, .int z0), (0, .ref (ad B x0)), (1, .int x1), (2, .int y2), (3, .int y3)] (by decide) rfl ?_
  refine b_iload C dX12_hears_57 0 rfl ?_
  refine b_if_ne C (tgt := 73) dX12_hears_59 (by decide) (fun c27 => ?_) (fun c27 => ?_)
  · have hf := if_s c27 hf
    refine b_sub [(0, .ref (ad B x0)), (1, .int x1), (2, .int y2), (3, .int y3)] [1, 2, 3, 4] rfl ?_
    exact tX12_hears_73 C hr hlocks hK4 hf
  · have hf := it_s c27 hf
    refine b_aload_n C dX12_hears_62 1 rfl rfl ?_
    obtain ⟨h29, hf⟩ := gd_s hf
    obtain ⟨r30, er30, hf⟩ := ob_s hf
    refine b_gR C dX12_hears_63 fl_X12_40 h29 er30 ?_
    refine b_iload_n C dX12_hears_66 2 rfl rfl ?_
    refine b_iconst C (v := 3) dX12_hears_67 (by decide) ?_
    refine b_iadd C dX12_hears_68 ?_
    refine b_iload_n C dX12_hears_69 4 rfl rfl ?_
    refine b_iadd C dX12_hears_70 ?_
    obtain ⟨h31, hf⟩ := gd_s hf
    obtain ⟨h32, hf⟩ := gd_s hf
    refine b_iald C h31 h32 dX12_hears_71 ?_
    obtain ⟨u33, eu33, hf⟩ := bd_s hf
    refine b_topI eu33 ?_
    refine b_istore_n C dX12_hears_72 rfl [(2, .int u33), (4, .int z0), (0, .ref (ad B x0)), (1, .int x1), (3, .int y3)] (by decide) rfl ?_
    refine b_sub [(0, .ref (ad B x0)), (1, .int x1), (2, .int u33), (3, .int y3)] [2, 3, 0, 4] rfl ?_
    exact tX12_hears_73 C hr hlocks hK4 hf
set_option maxRecDepth 100000 in
def fX12_hears_J54 (N : Nat) (g : Gs) (x0 : Nat) (x1 : Int32) (K4 : Int32 × Int32 × Ds → Option (Unit × Ds)) (y2 : Int32) (y3 : Int32) (d : Ds) : Option (Unit × Ds) := fX12_hears_J55 N g x0 x1 K4 y2 y3 0 d
set_option maxHeartbeats 4000000 in
set_option maxRecDepth 100000 in
theorem tX12_hears_54 {p : Program} {l : Launch} {e : Env} {s : State} {m : MethodId} {args : Array Value} {below : List Frame} {meth : Method} {c : Code} {D : va_G} {cy : Nat → ClassId} {B : Bs} (C : Cx p s m args c cX12_hears 5 RX12 D cy B) (hr : meth.sig.returnType = none) (hlocks : meth.locks = false) {N : Nat} {g : Gs} {x0 : Nat} {x1 : Int32}  {dz : Ds} {K4 : Int32 × Int32 × Ds → Option (Unit × Ds)} (hK4 : ∀ a, K4 a = some ((), dz) → WB p l e rmX12_hears s m args below meth c 5 D cy B 0 0 (MQ below (QV D cy B g dz) args s 0 0 (wA B)) g a.2.2 [(0, .ref (ad B x0)), (1, .int x1), (2, .int a.1), (3, .int a.2.1)] 4 []) {y2 : Int32} {y3 : Int32} {d : Ds} (hf : fX12_hears_J54 N g x0 x1 K4 y2 y3 d = some ((), dz)) : WB p l e rmX12_hears s m args below meth c 5 D cy B 0 0 (MQ below (QV D cy B g dz) args s 0 0 (wA B)) g d [(0, .ref (ad B x0)), (1, .int x1), (2, .int y2), (3, .int y3)] 54 [] := by
  unfold fX12_hears_J54 at hf
  refine b_iconst C (v := 0) dX12_hears_54 (by decide) ?_
  refine b_sub [(0, .ref (ad B x0)), (1, .int x1), (2, .int y2), (3, .int y3)] [0, 1, 2, 3] rfl ?_
  exact tX12_hears_55 C hr hlocks hK4 hf
set_option maxRecDepth 100000 in
def fX12_hears_B4 (N : Nat) (g : Gs) (x0 : Nat) (x1 : Int32) (K4 : Int32 × Int32 × Ds → Option (Unit × Ds)) (y2 : Int32) (y3 : Int32) (d : Ds) : Option (Unit × Ds) := gd (chk g x0 11) <| ob (gR g x0 17) fun r2 => (gd (chk g r2 102) <| gd (¬ ((x1 + 2) < 0 ∨ gL g r2 ≤ (x1 + 2).toNatClampNeg)) <| if (dI d r2 (x1 + 2).toNatClampNeg) ≤ y3 then (if y2 < 0 then (gd (¬ ((455 : Int32) < 0 ∨ gL g r2 ≤ (455 : Int32).toNatClampNeg)) <| if (dI d r2 (455 : Int32).toNatClampNeg) < 0 then (fX12_hears_J174 N g x0 x1 d) else (cb (fX12_reportHas N g x0 x1 (dI d r2 (455 : Int32).toNatClampNeg) d) fun u11 d9 => (if u11 = 0 then (bd (sI d9 r2 (455 : Int32).toNatClampNeg (-1)) fun d13 => (gd (¬ ((456 : Int32) < 0 ∨ gL g r2 ≤ (456 : Int32).toNatClampNeg)) <| bd (sI d13 r2 (456 : Int32).toNatClampNeg (-1)) fun d15 => (gd (¬ ((458 : Int32) < 0 ∨ gL g r2 ≤ (458 : Int32).toNatClampNeg)) <| bd (sI d15 r2 (458 : Int32).toNatClampNeg (-1)) fun d17 => (fX12_hears_J174 N g x0 x1 d17)))) else (fX12_hears_J174 N g x0 x1 d9)))) else (gd (¬ ((455 : Int32) < 0 ∨ gL g r2 ≤ (455 : Int32).toNatClampNeg)) <| bd (sI d r2 (455 : Int32).toNatClampNeg y2) fun d19 => (gd (¬ ((354 : Int32) < 0 ∨ gL g r2 ≤ (354 : Int32).toNatClampNeg)) <| gd (¬ ((456 : Int32) < 0 ∨ gL g r2 ≤ (456 : Int32).toNatClampNeg)) <| bd (sI d19 r2 (456 : Int32).toNatClampNeg (dI d19 r2 (354 : Int32).toNatClampNeg)) fun d22 => (gd (¬ ((458 : Int32) < 0 ∨ gL g r2 ≤ (458 : Int32).toNatClampNeg)) <| bd (sI d22 r2 (458 : Int32).toNatClampNeg 0) fun d24 => (fX12_hears_J174 N g x0 x1 d24))))) else (gd (¬ ((555 : Int32) < 0 ∨ gL g r2 ≤ (555 : Int32).toNatClampNeg)) <| if (dI d r2 (555 : Int32).toNatClampNeg) ≤ (1 : Int32) then (fX12_hears_J54 N g x0 x1 K4 y2 y3 d) else (cb (fX12_reportAt N g x0 1 d) fun u36 d34 => (gd (¬ (((x1 + 3) + y3) < 0 ∨ gL g r2 ≤ ((x1 + 3) + y3).toNatClampNeg)) <| cb (fX12_reportHas N g x0 u36 (dI d34 r2 ((x1 + 3) + y3).toNatClampNeg) d34) fun u40 d38 => (if u40 = 0 then (fX12_hears_J54 N g x0 x1 K4 y2 y3 d38) else (fX12_hears_J55 N g x0 x1 K4 y2 y3 1 d38))))))
set_option maxHeartbeats 4000000 in
set_option maxRecDepth 100000 in
theorem tX12_hears_4 {p : Program} {l : Launch} {e : Env} {s : State} {m : MethodId} {args : Array Value} {below : List Frame} {meth : Method} {c : Code} {D : va_G} {cy : Nat → ClassId} {B : Bs} (C : Cx p s m args c cX12_hears 5 RX12 D cy B) (hr : meth.sig.returnType = none) (hlocks : meth.locks = false) {N : Nat} {g : Gs} {x0 : Nat} {x1 : Int32}  {dz : Ds} {K4 : Int32 × Int32 × Ds → Option (Unit × Ds)} (hK4 : ∀ a, K4 a = some ((), dz) → WB p l e rmX12_hears s m args below meth c 5 D cy B 0 0 (MQ below (QV D cy B g dz) args s 0 0 (wA B)) g a.2.2 [(0, .ref (ad B x0)), (1, .int x1), (2, .int a.1), (3, .int a.2.1)] 4 []) {y2 : Int32} {y3 : Int32} {d : Ds} (hf : fX12_hears_B4 N g x0 x1 K4 y2 y3 d = some ((), dz)) : WB p l e rmX12_hears s m args below meth c 5 D cy B 0 0 (MQ below (QV D cy B g dz) args s 0 0 (wA B)) g d [(0, .ref (ad B x0)), (1, .int x1), (2, .int y2), (3, .int y3)] 4 [] := by
  unfold fX12_hears_B4 at hf
  refine b_iload_n C dX12_hears_4 3 rfl rfl ?_
  refine b_aload_n C dX12_hears_5 0 rfl rfl ?_
  obtain ⟨h1, hf⟩ := gd_s hf
  obtain ⟨r2, er2, hf⟩ := ob_s hf
  refine b_gR C dX12_hears_6 fl_X12_40 h1 er2 ?_
  refine b_iload_n C dX12_hears_9 1 rfl rfl ?_
  refine b_iconst C (v := 2) dX12_hears_10 (by decide) ?_
  refine b_iadd C dX12_hears_11 ?_
  obtain ⟨h3, hf⟩ := gd_s hf
  obtain ⟨h4, hf⟩ := gd_s hf
  refine b_iald C h3 h4 dX12_hears_12 ?_
  refine b_icmp_ge C (tgt := 79) dX12_hears_13 (by decide) (fun c5 => ?_) (fun c5 => ?_)
  · have hf := it_s c5 hf
    refine b_iload_n C dX12_hears_79 2 rfl rfl ?_
    refine b_if_lt C (tgt := 120) dX12_hears_80 (by decide) (fun c6 => ?_) (fun c6 => ?_)
    · have hf := it_s c6 hf
      refine b_aload_n C dX12_hears_120 0 rfl rfl ?_
      refine b_gR C dX12_hears_121 fl_X12_40 h1 er2 ?_
      refine b_sipush C (v := 455) dX12_hears_124 (by decide) ?_
      obtain ⟨h7, hf⟩ := gd_s hf
      refine b_iald C h3 h7 dX12_hears_127 ?_
      refine b_if_lt C (tgt := 174) dX12_hears_128 (by decide) (fun c8 => ?_) (fun c8 => ?_)
      · have hf := it_s c8 hf
        refine b_sub [(0, .ref (ad B x0)), (1, .int x1)] [0, 1] rfl ?_
        exact tX12_hears_174 C hr hlocks hf
      · have hf := if_s c8 hf
        refine b_aload_n C dX12_hears_131 0 rfl rfl ?_
        refine b_iload_n C dX12_hears_132 1 rfl rfl ?_
        refine b_aload_n C dX12_hears_133 0 rfl rfl ?_
        refine b_gR C dX12_hears_134 fl_X12_40 h1 er2 ?_
        refine b_sipush C (v := 455) dX12_hears_137 (by decide) ?_
        refine b_iald C h3 h7 dX12_hears_140 ?_
        obtain ⟨u11, d9, k10, hf⟩ := cb_s hf
        refine b_cVI C [] dX12_hears_141 (kX12_reportHas l D cy B k10) lv_X12_323 ⟨rfl, rfl, Nat.le_of_ble_eq_true rfl, Nat.le_of_ble_eq_true rfl⟩ h1 (by decide) rfl (Nat.le_of_ble_eq_true rfl) ⟨Nat.zero_le _, Nat.zero_le _⟩ rfl ?_
        refine b_if_ne C (tgt := 174) dX12_hears_144 (by decide) (fun c12 => ?_) (fun c12 => ?_)
        · have hf := if_s c12 hf
          refine b_sub [(0, .ref (ad B x0)), (1, .int x1)] [0, 1] rfl ?_
          exact tX12_hears_174 C hr hlocks hf
        · have hf := it_s c12 hf
          refine b_aload_n C dX12_hears_147 0 rfl rfl ?_
          refine b_gR C dX12_hears_148 fl_X12_40 h1 er2 ?_
          refine b_sipush C (v := 455) dX12_hears_151 (by decide) ?_
          refine b_iconst C (v := (-1)) dX12_hears_154 (by decide) ?_
          obtain ⟨d13, ed13, hf⟩ := bd_s hf
          refine b_iast C h3 h7 ed13 dX12_hears_155 ?_
          refine b_aload_n C dX12_hears_156 0 rfl rfl ?_
          refine b_gR C dX12_hears_157 fl_X12_40 h1 er2 ?_
          refine b_sipush C (v := 456) dX12_hears_160 (by decide) ?_
          refine b_iconst C (v := (-1)) dX12_hears_163 (by decide) ?_
          obtain ⟨h14, hf⟩ := gd_s hf
          obtain ⟨d15, ed15, hf⟩ := bd_s hf
          refine b_iast C h3 h14 ed15 dX12_hears_164 ?_
          refine b_aload_n C dX12_hears_165 0 rfl rfl ?_
          refine b_gR C dX12_hears_166 fl_X12_40 h1 er2 ?_
          refine b_sipush C (v := 458) dX12_hears_169 (by decide) ?_
          refine b_iconst C (v := (-1)) dX12_hears_172 (by decide) ?_
          obtain ⟨h16, hf⟩ := gd_s hf
          obtain ⟨d17, ed17, hf⟩ := bd_s hf
          refine b_iast C h3 h16 ed17 dX12_hears_173 ?_
          refine b_sub [(0, .ref (ad B x0)), (1, .int x1)] [0, 1] rfl ?_
          exact tX12_hears_174 C hr hlocks hf
    · have hf := if_s c6 hf
      refine b_aload_n C dX12_hears_83 0 rfl rfl ?_
      refine b_gR C dX12_hears_84 fl_X12_40 h1 er2 ?_
      refine b_sipush C (v := 455) dX12_hears_87 (by decide) ?_
      refine b_iload_n C dX12_hears_90 2 rfl rfl ?_
      obtain ⟨h18, hf⟩ := gd_s hf
      obtain ⟨d19, ed19, hf⟩ := bd_s hf
      refine b_iast C h3 h18 ed19 dX12_hears_91 ?_
      refine b_aload_n C dX12_hears_92 0 rfl rfl ?_
      refine b_gR C dX12_hears_93 fl_X12_40 h1 er2 ?_
      refine b_sipush C (v := 456) dX12_hears_96 (by decide) ?_
      refine b_aload_n C dX12_hears_99 0 rfl rfl ?_
      refine b_gR C dX12_hears_100 fl_X12_40 h1 er2 ?_
      refine b_sipush C (v := 354) dX12_hears_103 (by decide) ?_
      obtain ⟨h20, hf⟩ := gd_s hf
      refine b_iald C h3 h20 dX12_hears_106 ?_
      obtain ⟨h21, hf⟩ := gd_s hf
      obtain ⟨d22, ed22, hf⟩ := bd_s hf
      refine b_iast C h3 h21 ed22 dX12_hears_107 ?_
      refine b_aload_n C dX12_hears_108 0 rfl rfl ?_
      refine b_gR C dX12_hears_109 fl_X12_40 h1 er2 ?_
      refine b_sipush C (v := 458) dX12_hears_112 (by decide) ?_
      refine b_iconst C (v := 0) dX12_hears_115 (by decide) ?_
      obtain ⟨h23, hf⟩ := gd_s hf
      obtain ⟨d24, ed24, hf⟩ := bd_s hf
      refine b_iast C h3 h23 ed24 dX12_hears_116 ?_
      refine b_goto C (tgt := 174) dX12_hears_117 (by decide) ?_
      refine b_sub [(0, .ref (ad B x0)), (1, .int x1)] [0, 1] rfl ?_
      exact tX12_hears_174 C hr hlocks hf
  · have hf := if_s c5 hf
    refine b_aload_n C dX12_hears_16 0 rfl rfl ?_
    refine b_gR C dX12_hears_17 fl_X12_40 h1 er2 ?_
    refine b_sipush C (v := 555) dX12_hears_20 (by decide) ?_
    obtain ⟨h25, hf⟩ := gd_s hf
    refine b_iald C h3 h25 dX12_hears_23 ?_
    refine b_iconst C (v := 1) dX12_hears_24 (by decide) ?_
    refine b_icmp_le C (tgt := 54) dX12_hears_25 (by decide) (fun c26 => ?_) (fun c26 => ?_)
    · have hf := it_s c26 hf
      refine b_sub [(0, .ref (ad B x0)), (1, .int x1), (2, .int y2), (3, .int y3)] [0, 1, 2, 3] rfl ?_
      exact tX12_hears_54 C hr hlocks hK4 hf
    · have hf := if_s c26 hf
      refine b_aload_n C dX12_hears_28 0 rfl rfl ?_
      refine b_aload_n C dX12_hears_29 0 rfl rfl ?_
      refine b_iconst C (v := 1) dX12_hears_30 (by decide) ?_
      obtain ⟨u36, d34, k35, hf⟩ := cb_s hf
      refine b_cVI C [.ref (ad B x0)] dX12_hears_31 (kX12_reportAt l D cy B k35) lv_X12_311 ⟨rfl, rfl, Nat.le_of_ble_eq_true rfl, Nat.le_of_ble_eq_true rfl⟩ h1 (by decide) rfl (Nat.le_of_ble_eq_true rfl) ⟨Nat.zero_le _, Nat.zero_le _⟩ rfl ?_
      refine b_aload_n C dX12_hears_34 0 rfl rfl ?_
      refine b_gR C dX12_hears_35 fl_X12_40 h1 er2 ?_
      refine b_iload_n C dX12_hears_38 1 rfl rfl ?_
      refine b_iconst C (v := 3) dX12_hears_39 (by decide) ?_
      refine b_iadd C dX12_hears_40 ?_
      refine b_iload_n C dX12_hears_41 3 rfl rfl ?_
      refine b_iadd C dX12_hears_42 ?_
      obtain ⟨h37, hf⟩ := gd_s hf
      refine b_iald C h3 h37 dX12_hears_43 ?_
      obtain ⟨u40, d38, k39, hf⟩ := cb_s hf
      refine b_cVI C [] dX12_hears_44 (kX12_reportHas l D cy B k39) lv_X12_323 ⟨rfl, rfl, Nat.le_of_ble_eq_true rfl, Nat.le_of_ble_eq_true rfl⟩ h1 (by decide) rfl (Nat.le_of_ble_eq_true rfl) ⟨Nat.zero_le _, Nat.zero_le _⟩ rfl ?_
      refine b_if_eq C (tgt := 54) dX12_hears_47 (by decide) (fun c41 => ?_) (fun c41 => ?_)
      · have hf := it_s c41 hf
        refine b_sub [(0, .ref (ad B x0)), (1, .int x1), (2, .int y2), (3, .int y3)] [0, 1, 2, 3] rfl ?_
        exact tX12_hears_54 C hr hlocks hK4 hf
      · have hf := if_s c41 hf
        refine b_iconst C (v := 1) dX12_hears_50 (by decide) ?_
        refine b_goto C (tgt := 55) dX12_hears_51 (by decide) ?_
        refine b_sub [(0, .ref (ad B x0)), (1, .int x1), (2, .int y2), (3, .int y3)] [0, 1, 2, 3] rfl ?_
        exact tX12_hears_55 C hr hlocks hK4 hf
def fX12_hears_L4 (N : Nat) (g : Gs) (x0 : Nat) (x1 : Int32) : Int32 × Int32 × Ds → Option (Unit × Ds) := lp (fun K4 a => fX12_hears_B4 N g x0 x1 K4 a.1 a.2.1 a.2.2) N
theorem tX12_hears_L4 {p : Program} {l : Launch} {e : Env} {s : State} {m : MethodId} {args : Array Value} {below : List Frame} {meth : Method} {c : Code} {D : va_G} {cy : Nat → ClassId} {B : Bs} (C : Cx p s m args c cX12_hears 5 RX12 D cy B) (hr : meth.sig.returnType = none) (hlocks : meth.locks = false) {N : Nat} {g : Gs} {x0 : Nat} {x1 : Int32}  {dz : Ds} (a : Int32 × Int32 × Ds) (hf : fX12_hears_L4 N g x0 x1 a = some ((), dz)) : WB p l e rmX12_hears s m args below meth c 5 D cy B 0 0 (MQ below (QV D cy B g dz) args s 0 0 (wA B)) g a.2.2 [(0, .ref (ad B x0)), (1, .int x1), (2, .int a.1), (3, .int a.2.1)] 4 [] :=
  lp_w (fun K4 hK4 a ha => tX12_hears_4 C hr hlocks hK4 ha) N a hf
set_option maxRecDepth 100000 in
def fX12_hears (N : Nat) (g : Gs) (x0 : Nat) (x1 : Int32) (d : Ds) : Option (Unit × Ds) := fX12_hears_L4 N g x0 x1 ((-1), 0, d)
set_option maxHeartbeats 4000000 in
set_option maxRecDepth 100000 in
theorem tX12_hears_E {p : Program} {l : Launch} {e : Env} {s : State} {m : MethodId} {args : Array Value} {below : List Frame} {meth : Method} {c : Code} {D : va_G} {cy : Nat → ClassId} {B : Bs} (C : Cx p s m args c cX12_hears 5 RX12 D cy B) (hr : meth.sig.returnType = none) (hlocks : meth.locks = false) {N : Nat} {g : Gs} {x0 : Nat} {x1 : Int32}  {dz : Ds} {d : Ds} (hf : fX12_hears N g x0 x1 d = some ((), dz)) : WB p l e rmX12_hears s m args below meth c 5 D cy B 0 0 (MQ below (QV D cy B g dz) args s 0 0 (wA B)) g d [(0, .ref (ad B x0)), (1, .int x1)] 0 [] := by
  unfold fX12_hears at hf
  refine b_iconst C (v := (-1)) dX12_hears_0 (by decide) ?_
  refine b_istore_n C dX12_hears_1 rfl [(2, .int (-1)), (0, .ref (ad B x0)), (1, .int x1)] (by decide) rfl ?_
  refine b_iconst C (v := 0) dX12_hears_2 (by decide) ?_
  refine b_istore_n C dX12_hears_3 rfl [(3, .int 0), (2, .int (-1)), (0, .ref (ad B x0)), (1, .int x1)] (by decide) rfl ?_
  refine b_sub [(0, .ref (ad B x0)), (1, .int x1), (2, .int (-1)), (3, .int 0)] [2, 3, 1, 0] rfl ?_
  exact tX12_hears_L4 C hr hlocks ((-1), 0, d) hf
theorem kX12_hears (l : Launch) (D : va_G) (cy : Nat → ClassId) (B : Bs) {N : Nat} {g : Gs} {x0 : Nat} {x1 : Int32}  {dz : Ds} {d : Ds} (hf : fX12_hears N g x0 x1 d = some ((), dz)) : Met l yX12_hears (.code yX12_hears cX12_hears 5 none :: wl) rmX12_hears (PC D cy B [.ref (ad B x0), .int x1] g d) (QV D cy B g dz) 0 0 (wA B) :=
  met_of (by decide +kernel) (Nat.le_of_ble_eq_true rfl) (fun p e s m args below meth c C hr hlocks _ => b_sub [(0, .ref (ad B x0)), (1, .int x1)] [0, 1] rfl (tX12_hears_E C hr hlocks hf))
/-! KeyMatrixModel.reports()V -/
theorem yo_X12_laysSent : yX12_laysSent.cls ≠ "java/lang/invoke/MethodHandle" ∧ yX12_laysSent.cls ≠ "java/lang/invoke/VarHandle" ∧ (parseMethodDescriptor yX12_laysSent.desc).map (fun d => d.parameters.length) = some 0 := by decide +kernel
theorem co_X12_laysSent : Cond.code yX12_laysSent cX12_laysSent 4 none ∈ wl := mW (mT6 (List.mem_of_getElem? (i := 159) (by decide +kernel))) rfl
theorem in_X12_laysSent : Cond.initialized yX12_laysSent.cls ∈ wl := mW (mT1 (List.mem_of_getElem? (i := 12) (by decide +kernel))) rfl
theorem im_X12_laysSent : Cond.instanceMethod yX12_laysSent ∈ wl := mW (mT6 (List.mem_of_getElem? (i := 158) (by decide +kernel))) rfl
theorem se_X12_laysSent : Cond.selects yX12_laysSent.cls yX12_laysSent yX12_laysSent ∈ wl := mW (mT0 (List.mem_of_getElem? (i := 71) (by decide +kernel))) rfl
theorem lv_X12_314 : LV RX12 314 yX12_laysSent cX12_laysSent 4 none 0 11 := ⟨⟨(RX12, TX12, 33), rfl, rfl⟩, yo_X12_laysSent, mW (mT6 (List.mem_of_getElem? (i := 156) (by decide +kernel))) rfl, im_X12_laysSent, se_X12_laysSent, in_X12_laysSent, co_X12_laysSent⟩
theorem yo_X12_isLatest : yX12_isLatest.cls ≠ "java/lang/invoke/MethodHandle" ∧ yX12_isLatest.cls ≠ "java/lang/invoke/VarHandle" ∧ (parseMethodDescriptor yX12_isLatest.desc).map (fun d => d.parameters.length) = some 1 := by decide +kernel
theorem co_X12_isLatest : Cond.code yX12_isLatest cX12_isLatest 4 (some .boolean) ∈ wl := mW (mT6 (List.mem_of_getElem? (i := 171) (by decide +kernel))) rfl
theorem in_X12_isLatest : Cond.initialized yX12_isLatest.cls ∈ wl := mW (mT1 (List.mem_of_getElem? (i := 12) (by decide +kernel))) rfl
theorem im_X12_isLatest : Cond.instanceMethod yX12_isLatest ∈ wl := mW (mT6 (List.mem_of_getElem? (i := 170) (by decide +kernel))) rfl
theorem se_X12_isLatest : Cond.selects yX12_isLatest.cls yX12_isLatest yX12_isLatest ∈ wl := mW (mT0 (List.mem_of_getElem? (i := 74) (by decide +kernel))) rfl
theorem lv_X12_317 : LV RX12 317 yX12_isLatest cX12_isLatest 4 (some .boolean) 1 11 := ⟨⟨(RX12, TX12, 33), rfl, rfl⟩, yo_X12_isLatest, mW (mT6 (List.mem_of_getElem? (i := 168) (by decide +kernel))) rfl, im_X12_isLatest, se_X12_isLatest, in_X12_isLatest, co_X12_isLatest⟩
theorem yo_X12_hears : yX12_hears.cls ≠ "java/lang/invoke/MethodHandle" ∧ yX12_hears.cls ≠ "java/lang/invoke/VarHandle" ∧ (parseMethodDescriptor yX12_hears.desc).map (fun d => d.parameters.length) = some 1 := by decide +kernel
theorem co_X12_hears : Cond.code yX12_hears cX12_hears 5 none ∈ wl := mW (mT6 (List.mem_of_getElem? (i := 179) (by decide +kernel))) rfl
theorem in_X12_hears : Cond.initialized yX12_hears.cls ∈ wl := mW (mT1 (List.mem_of_getElem? (i := 12) (by decide +kernel))) rfl
theorem im_X12_hears : Cond.instanceMethod yX12_hears ∈ wl := mW (mT6 (List.mem_of_getElem? (i := 178) (by decide +kernel))) rfl
theorem se_X12_hears : Cond.selects yX12_hears.cls yX12_hears yX12_hears ∈ wl := mW (mT0 (List.mem_of_getElem? (i := 76) (by decide +kernel))) rfl
theorem lv_X12_320 : LV RX12 320 yX12_hears cX12_hears 5 none 1 11 := ⟨⟨(RX12, TX12, 33), rfl, rfl⟩, yo_X12_hears, mW (mT6 (List.mem_of_getElem? (i := 176) (by decide +kernel))) rfl, im_X12_hears, se_X12_hears, in_X12_hears, co_X12_hears⟩
theorem dX12_reports_0 : decode cX12_reports 0 = .ok (.aload_n 0, 1) := by decide +kernel
theorem dX12_reports_1 : decode cX12_reports 1 = .ok (.invokevirtual 314, 3) := by decide +kernel
theorem dX12_reports_4 : decode cX12_reports 4 = .ok (.aload_n 0, 1) := by decide +kernel
theorem dX12_reports_5 : decode cX12_reports 5 = .ok (.getfield 40, 3) := by decide +kernel
theorem dX12_reports_8 : decode cX12_reports 8 = .ok (.iconst 3, 1) := by decide +kernel
theorem dX12_reports_9 : decode cX12_reports 9 = .ok (.iaload, 1) := by decide +kernel
theorem dX12_reports_10 : decode cX12_reports 10 = .ok (.iconst 1, 1) := by decide +kernel
theorem dX12_reports_11 : decode cX12_reports 11 = .ok (.if_icmp .ne 17, 3) := by decide +kernel
theorem dX12_reports_14 : decode cX12_reports 14 = .ok (.aload_n 0, 1) := by decide +kernel
theorem dX12_reports_15 : decode cX12_reports 15 = .ok (.getfield 299, 3) := by decide +kernel
theorem dX12_reports_18 : decode cX12_reports 18 = .ok (.bipush 6, 2) := by decide +kernel
theorem dX12_reports_20 : decode cX12_reports 20 = .ok (.if_icmp .le 8, 3) := by decide +kernel
theorem dX12_reports_23 : decode cX12_reports 23 = .ok (.bipush (-2), 2) := by decide +kernel
theorem dX12_reports_25 : decode cX12_reports 25 = .ok (.goto 7, 3) := by decide +kernel
theorem dX12_reports_28 : decode cX12_reports 28 = .ok (.aload_n 0, 1) := by decide +kernel
theorem dX12_reports_29 : decode cX12_reports 29 = .ok (.getfield 299, 3) := by decide +kernel
theorem dX12_reports_32 : decode cX12_reports 32 = .ok (.istore_n 1, 1) := by decide +kernel
theorem dX12_reports_33 : decode cX12_reports 33 = .ok (.aload_n 0, 1) := by decide +kernel
theorem dX12_reports_34 : decode cX12_reports 34 = .ok (.iload_n 1, 1) := by decide +kernel
theorem dX12_reports_35 : decode cX12_reports 35 = .ok (.invokevirtual 317, 3) := by decide +kernel
theorem dX12_reports_38 : decode cX12_reports 38 = .ok (.ifCond .eq 4, 3) := by decide +kernel
theorem dX12_reports_41 : decode cX12_reports 41 = .ok (.return_, 1) := by decide +kernel
theorem dX12_reports_42 : decode cX12_reports 42 = .ok (.aload_n 0, 1) := by decide +kernel
theorem dX12_reports_43 : decode cX12_reports 43 = .ok (.getfield 40, 3) := by decide +kernel
theorem dX12_reports_46 : decode cX12_reports 46 = .ok (.sipush 555, 3) := by decide +kernel
theorem dX12_reports_49 : decode cX12_reports 49 = .ok (.dup2, 1) := by decide +kernel
theorem dX12_reports_50 : decode cX12_reports 50 = .ok (.iaload, 1) := by decide +kernel
theorem dX12_reports_51 : decode cX12_reports 51 = .ok (.iconst 1, 1) := by decide +kernel
theorem dX12_reports_52 : decode cX12_reports 52 = .ok (.iadd, 1) := by decide +kernel
theorem dX12_reports_53 : decode cX12_reports 53 = .ok (.iastore, 1) := by decide +kernel
theorem dX12_reports_54 : decode cX12_reports 54 = .ok (.aload_n 0, 1) := by decide +kernel
theorem dX12_reports_55 : decode cX12_reports 55 = .ok (.iconst 0, 1) := by decide +kernel
theorem dX12_reports_56 : decode cX12_reports 56 = .ok (.invokevirtual 311, 3) := by decide +kernel
theorem dX12_reports_59 : decode cX12_reports 59 = .ok (.istore_n 2, 1) := by decide +kernel
theorem dX12_reports_60 : decode cX12_reports 60 = .ok (.aload_n 0, 1) := by decide +kernel
theorem dX12_reports_61 : decode cX12_reports 61 = .ok (.getfield 40, 3) := by decide +kernel
theorem dX12_reports_64 : decode cX12_reports 64 = .ok (.iload_n 2, 1) := by decide +kernel
theorem dX12_reports_65 : decode cX12_reports 65 = .ok (.aload_n 0, 1) := by decide +kernel
theorem dX12_reports_66 : decode cX12_reports 66 = .ok (.getfield 40, 3) := by decide +kernel
theorem dX12_reports_69 : decode cX12_reports 69 = .ok (.sipush 354, 3) := by decide +kernel
theorem dX12_reports_72 : decode cX12_reports 72 = .ok (.iaload, 1) := by decide +kernel
theorem dX12_reports_73 : decode cX12_reports 73 = .ok (.iastore, 1) := by decide +kernel
theorem dX12_reports_74 : decode cX12_reports 74 = .ok (.aload_n 0, 1) := by decide +kernel
theorem dX12_reports_75 : decode cX12_reports 75 = .ok (.getfield 40, 3) := by decide +kernel
theorem dX12_reports_78 : decode cX12_reports 78 = .ok (.iload_n 2, 1) := by decide +kernel
theorem dX12_reports_79 : decode cX12_reports 79 = .ok (.iconst 1, 1) := by decide +kernel
theorem dX12_reports_80 : decode cX12_reports 80 = .ok (.iadd, 1) := by decide +kernel
theorem dX12_reports_81 : decode cX12_reports 81 = .ok (.aload_n 0, 1) := by decide +kernel
theorem dX12_reports_82 : decode cX12_reports 82 = .ok (.getfield 302, 3) := by decide +kernel
theorem dX12_reports_85 : decode cX12_reports 85 = .ok (.iastore, 1) := by decide +kernel
theorem dX12_reports_86 : decode cX12_reports 86 = .ok (.aload_n 0, 1) := by decide +kernel
theorem dX12_reports_87 : decode cX12_reports 87 = .ok (.getfield 40, 3) := by decide +kernel
theorem dX12_reports_90 : decode cX12_reports 90 = .ok (.iload_n 2, 1) := by decide +kernel
theorem dX12_reports_91 : decode cX12_reports 91 = .ok (.iconst 2, 1) := by decide +kernel
theorem dX12_reports_92 : decode cX12_reports 92 = .ok (.iadd, 1) := by decide +kernel
theorem dX12_reports_93 : decode cX12_reports 93 = .ok (.iload_n 1, 1) := by decide +kernel
theorem dX12_reports_94 : decode cX12_reports 94 = .ok (.iastore, 1) := by decide +kernel
theorem dX12_reports_95 : decode cX12_reports 95 = .ok (.iconst 0, 1) := by decide +kernel
theorem dX12_reports_96 : decode cX12_reports 96 = .ok (.istore_n 3, 1) := by decide +kernel
theorem dX12_reports_97 : decode cX12_reports 97 = .ok (.iload_n 3, 1) := by decide +kernel
theorem dX12_reports_98 : decode cX12_reports 98 = .ok (.iload_n 1, 1) := by decide +kernel
theorem dX12_reports_99 : decode cX12_reports 99 = .ok (.if_icmp .ge 25, 3) := by decide +kernel
theorem dX12_reports_102 : decode cX12_reports 102 = .ok (.aload_n 0, 1) := by decide +kernel
theorem dX12_reports_103 : decode cX12_reports 103 = .ok (.getfield 40, 3) := by decide +kernel
theorem dX12_reports_106 : decode cX12_reports 106 = .ok (.iload_n 2, 1) := by decide +kernel
theorem dX12_reports_107 : decode cX12_reports 107 = .ok (.iconst 3, 1) := by decide +kernel
theorem dX12_reports_108 : decode cX12_reports 108 = .ok (.iadd, 1) := by decide +kernel
theorem dX12_reports_109 : decode cX12_reports 109 = .ok (.iload_n 3, 1) := by decide +kernel
theorem dX12_reports_110 : decode cX12_reports 110 = .ok (.iadd, 1) := by decide +kernel
theorem dX12_reports_111 : decode cX12_reports 111 = .ok (.aload_n 0, 1) := by decide +kernel
theorem dX12_reports_112 : decode cX12_reports 112 = .ok (.getfield 56, 3) := by decide +kernel
theorem dX12_reports_115 : decode cX12_reports 115 = .ok (.iload_n 3, 1) := by decide +kernel
theorem dX12_reports_116 : decode cX12_reports 116 = .ok (.iaload, 1) := by decide +kernel
theorem dX12_reports_117 : decode cX12_reports 117 = .ok (.iastore, 1) := by decide +kernel
theorem dX12_reports_118 : decode cX12_reports 118 = .ok (.iinc 3 1, 3) := by decide +kernel
theorem dX12_reports_121 : decode cX12_reports 121 = .ok (.goto (-24), 3) := by decide +kernel
theorem dX12_reports_124 : decode cX12_reports 124 = .ok (.aload_n 0, 1) := by decide +kernel
theorem dX12_reports_125 : decode cX12_reports 125 = .ok (.iload_n 2, 1) := by decide +kernel
theorem dX12_reports_126 : decode cX12_reports 126 = .ok (.invokevirtual 320, 3) := by decide +kernel
theorem dX12_reports_129 : decode cX12_reports 129 = .ok (.return_, 1) := by decide +kernel
def rmX12_reports : Room := { frames := 2, cells := 0, slots := 0, locals := 47 }
set_option maxRecDepth 100000 in
def fX12_reports_B97 (N : Nat) (g : Gs) (x0 : Nat) (K97 : Int32 × Int32 × Int32 × Ds → Option (Unit × Ds)) (y1 : Int32) (y2 : Int32) (y3 : Int32) (d : Ds) : Option (Unit × Ds) := if y1 ≤ y3 then (gd (chk g x0 11) <| cv (fX12_hears N g x0 y2 d) fun d30 => (some ((), d30))) else (gd (chk g x0 11) <| ob (gR g x0 17) fun r33 => (ob (gR g x0 27) fun r34 => (gd (chk g r34 102) <| gd (¬ (y3 < 0 ∨ gL g r34 ≤ y3.toNatClampNeg)) <| gd (chk g r33 102) <| gd (¬ (((y2 + 3) + y3) < 0 ∨ gL g r33 ≤ ((y2 + 3) + y3).toNatClampNeg)) <| bd (sI d r33 ((y2 + 3) + y3).toNatClampNeg (dI d r34 y3.toNatClampNeg)) fun d39 => (bd (y3 + 1) fun u40 => (K97 (y1, y2, u40, d39))))))
set_option maxHeartbeats 4000000 in
set_option maxRecDepth 100000 in
theorem tX12_reports_97 {p : Program} {l : Launch} {e : Env} {s : State} {m : MethodId} {args : Array Value} {below : List Frame} {meth : Method} {c : Code} {D : va_G} {cy : Nat → ClassId} {B : Bs} (C : Cx p s m args c cX12_reports 4 RX12 D cy B) (hr : meth.sig.returnType = none) (hlocks : meth.locks = false) {N : Nat} {g : Gs} {x0 : Nat}  {dz : Ds} {K97 : Int32 × Int32 × Int32 × Ds → Option (Unit × Ds)} (hK97 : ∀ a, K97 a = some ((), dz) → WB p l e rmX12_reports s m args below meth c 4 D cy B 0 0 (MQ below (QV D cy B g dz) args s 0 0 (wA B)) g a.2.2.2 [(0, .ref (ad B x0)), (1, .int a.1), (2, .int a.2.1), (3, .int a.2.2.1)] 97 []) {y1 : Int32} {y2 : Int32} {y3 : Int32} {d : Ds} (hf : fX12_reports_B97 N g x0 K97 y1 y2 y3 d = some ((), dz)) : WB p l e rmX12_reports s m args below meth c 4 D cy B 0 0 (MQ below (QV D cy B g dz) args s 0 0 (wA B)) g d [(0, .ref (ad B x0)), (1, .int y1), (2, .int y2), (3, .int y3)] 97 [] := by
  unfold fX12_reports_B97 at hf
  refine b_iload_n C dX12_reports_97 3 rfl rfl ?_
  refine b_iload_n C dX12_reports_98 1 rfl rfl ?_
  refine b_icmp_ge C (tgt := 124) dX12_reports_99 (by decide) (fun c28 => ?_) (fun c28 => ?_)
  · have hf := it_s c28 hf
    refine b_aload_n C dX12_reports_124 0 rfl rfl ?_
    refine b_iload_n C dX12_reports_125 2 rfl rfl ?_
    obtain ⟨h29, hf⟩ := gd_s hf
    obtain ⟨d30, k31, hf⟩ := cv_s hf
    refine b_cVN C [] dX12_reports_126 (kX12_hears l D cy B k31) lv_X12_320 ⟨rfl, rfl, Nat.le_of_ble_eq_true rfl, Nat.le_of_ble_eq_true rfl⟩ h29 (by decide) rfl (Nat.le_of_ble_eq_true rfl) ⟨Nat.zero_le _, Nat.zero_le _⟩ rfl ?_
    exact b_vret C hr hlocks hf dX12_reports_129
  · have hf := if_s c28 hf
    refine b_aload_n C dX12_reports_102 0 rfl rfl ?_
    obtain ⟨h32, hf⟩ := gd_s hf
    obtain ⟨r33, er33, hf⟩ := ob_s hf
    refine b_gR C dX12_reports_103 fl_X12_40 h32 er33 ?_
    refine b_iload_n C dX12_reports_106 2 rfl rfl ?_
    refine b_iconst C (v := 3) dX12_reports_107 (by decide) ?_
    refine b_iadd C dX12_reports_108 ?_
    refine b_iload_n C dX12_reports_109 3 rfl rfl ?_
    refine b_iadd C dX12_reports_110 ?_
    refine b_aload_n C dX12_reports_111 0 rfl rfl ?_
    obtain ⟨r34, er34, hf⟩ := ob_s hf
    refine b_gR C dX12_reports_112 fl_X12_56 h32 er34 ?_
    refine b_iload_n C dX12_reports_115 3 rfl rfl ?_
    obtain ⟨h35, hf⟩ := gd_s hf
    obtain ⟨h36, hf⟩ := gd_s hf
    refine b_iald C h35 h36 dX12_reports_116 ?_
    obtain ⟨h37, hf⟩ := gd_s hf
    obtain ⟨h38, hf⟩ := gd_s hf
    obtain ⟨d39, ed39, hf⟩ := bd_s hf
    refine b_iast C h37 h38 ed39 dX12_reports_117 ?_
    obtain ⟨u40, eu40, hf⟩ := bd_s hf
    refine b_iinc C dX12_reports_118 3 rfl (by rw [eu40]; rfl) [(3, .int u40), (0, .ref (ad B x0)), (1, .int y1), (2, .int y2)] (by decide) rfl ?_
    refine b_goto C (tgt := 97) dX12_reports_121 (by decide) ?_
    refine b_sub [(0, .ref (ad B x0)), (1, .int y1), (2, .int y2), (3, .int u40)] [1, 2, 3, 0] rfl ?_
    exact hK97 (y1, y2, u40, d39) hf
def fX12_reports_L97 (N : Nat) (g : Gs) (x0 : Nat) : Int32 × Int32 × Int32 × Ds → Option (Unit × Ds) := lp (fun K97 a => fX12_reports_B97 N g x0 K97 a.1 a.2.1 a.2.2.1 a.2.2.2) N
theorem tX12_reports_L97 {p : Program} {l : Launch} {e : Env} {s : State} {m : MethodId} {args : Array Value} {below : List Frame} {meth : Method} {c : Code} {D : va_G} {cy : Nat → ClassId} {B : Bs} (C : Cx p s m args c cX12_reports 4 RX12 D cy B) (hr : meth.sig.returnType = none) (hlocks : meth.locks = false) {N : Nat} {g : Gs} {x0 : Nat}  {dz : Ds} (a : Int32 × Int32 × Int32 × Ds) (hf : fX12_reports_L97 N g x0 a = some ((), dz)) : WB p l e rmX12_reports s m args below meth c 4 D cy B 0 0 (MQ below (QV D cy B g dz) args s 0 0 (wA B)) g a.2.2.2 [(0, .ref (ad B x0)), (1, .int a.1), (2, .int a.2.1), (3, .int a.2.2.1)] 97 [] :=
  lp_w (fun K97 hK97 a ha => tX12_reports_97 C hr hlocks hK97 ha) N a hf
set_option maxRecDepth 100000 in
def fX12_reports_J32 (N : Nat) (g : Gs) (x0 : Nat) (z0 : Int32) (d : Ds) : Option (Unit × Ds) := gd (chk g x0 11) <| cb (fX12_isLatest N g x0 z0 d) fun u12 d10 => (if u12 = 0 then (ob (gR g x0 17) fun r14 => (gd (chk g r14 102) <| gd (¬ ((555 : Int32) < 0 ∨ gL g r14 ≤ (555 : Int32).toNatClampNeg)) <| bd (sI d10 r14 (555 : Int32).toNatClampNeg ((dI d10 r14 (555 : Int32).toNatClampNeg) + 1)) fun d17 => (cb (fX12_reportAt N g x0 0 d17) fun u20 d18 => (gd (¬ ((354 : Int32) < 0 ∨ gL g r14 ≤ (354 : Int32).toNatClampNeg)) <| gd (¬ (u20 < 0 ∨ gL g r14 ≤ u20.toNatClampNeg)) <| bd (sI d18 r14 u20.toNatClampNeg (dI d18 r14 (354 : Int32).toNatClampNeg)) fun d23 => (gd (¬ ((u20 + 1) < 0 ∨ gL g r14 ≤ (u20 + 1).toNatClampNeg)) <| bd (sI d23 r14 (u20 + 1).toNatClampNeg (dI d23 x0 25)) fun d25 => (gd (¬ ((u20 + 2) < 0 ∨ gL g r14 ≤ (u20 + 2).toNatClampNeg)) <| bd (sI d25 r14 (u20 + 2).toNatClampNeg z0) fun d27 => (fX12_reports_L97 N g x0 (z0, u20, 0, d27)))))))) else (some ((), d10)))
set_option maxHeartbeats 4000000 in
set_option maxRecDepth 100000 in
theorem tX12_reports_32 {p : Program} {l : Launch} {e : Env} {s : State} {m : MethodId} {args : Array Value} {below : List Frame} {meth : Method} {c : Code} {D : va_G} {cy : Nat → ClassId} {B : Bs} (C : Cx p s m args c cX12_reports 4 RX12 D cy B) (hr : meth.sig.returnType = none) (hlocks : meth.locks = false) {N : Nat} {g : Gs} {x0 : Nat}  {dz : Ds} {z0 : Int32} {d : Ds} (hf : fX12_reports_J32 N g x0 z0 d = some ((), dz)) : WB p l e rmX12_reports s m args below meth c 4 D cy B 0 0 (MQ below (QV D cy B g dz) args s 0 0 (wA B)) g d [(0, .ref (ad B x0))] 32 [.int z0] := by
  unfold fX12_reports_J32 at hf
  refine b_istore_n C dX12_reports_32 rfl [(1, .int z0), (0, .ref (ad B x0))] (by decide) rfl ?_
  refine b_aload_n C dX12_reports_33 1 rfl rfl ?_
  refine b_iload_n C dX12_reports_34 0 rfl rfl ?_
  obtain ⟨h9, hf⟩ := gd_s hf
  obtain ⟨u12, d10, k11, hf⟩ := cb_s hf
  refine b_cVI C [] dX12_reports_35 (kX12_isLatest l D cy B k11) lv_X12_317 ⟨rfl, rfl, Nat.le_of_ble_eq_true rfl, Nat.le_of_ble_eq_true rfl⟩ h9 (by decide) rfl (Nat.le_of_ble_eq_true rfl) ⟨Nat.zero_le _, Nat.zero_le _⟩ rfl ?_
  refine b_if_eq C (tgt := 42) dX12_reports_38 (by decide) (fun c13 => ?_) (fun c13 => ?_)
  · have hf := it_s c13 hf
    refine b_aload_n C dX12_reports_42 1 rfl rfl ?_
    obtain ⟨r14, er14, hf⟩ := ob_s hf
    refine b_gR C dX12_reports_43 fl_X12_40 h9 er14 ?_
    refine b_sipush C (v := 555) dX12_reports_46 (by decide) ?_
    refine b_dup2 C dX12_reports_49 rfl rfl ?_
    obtain ⟨h15, hf⟩ := gd_s hf
    obtain ⟨h16, hf⟩ := gd_s hf
    refine b_iald C h15 h16 dX12_reports_50 ?_
    refine b_iconst C (v := 1) dX12_reports_51 (by decide) ?_
    refine b_iadd C dX12_reports_52 ?_
    obtain ⟨d17, ed17, hf⟩ := bd_s hf
    refine b_iast C h15 h16 ed17 dX12_reports_53 ?_
    refine b_aload_n C dX12_reports_54 1 rfl rfl ?_
    refine b_iconst C (v := 0) dX12_reports_55 (by decide) ?_
    obtain ⟨u20, d18, k19, hf⟩ := cb_s hf
    refine b_cVI C [] dX12_reports_56 (kX12_reportAt l D cy B k19) lv_X12_311 ⟨rfl, rfl, Nat.le_of_ble_eq_true rfl, Nat.le_of_ble_eq_true rfl⟩ h9 (by decide) rfl (Nat.le_of_ble_eq_true rfl) ⟨Nat.zero_le _, Nat.zero_le _⟩ rfl ?_
    refine b_istore_n C dX12_reports_59 rfl [(2, .int u20), (1, .int z0), (0, .ref (ad B x0))] (by decide) rfl ?_
    refine b_aload_n C dX12_reports_60 2 rfl rfl ?_
    refine b_gR C dX12_reports_61 fl_X12_40 h9 er14 ?_
    refine b_iload_n C dX12_reports_64 0 rfl rfl ?_
    refine b_aload_n C dX12_reports_65 2 rfl rfl ?_
    refine b_gR C dX12_reports_66 fl_X12_40 h9 er14 ?_
    refine b_sipush C (v := 354) dX12_reports_69 (by decide) ?_
    obtain ⟨h21, hf⟩ := gd_s hf
    refine b_iald C h15 h21 dX12_reports_72 ?_
    obtain ⟨h22, hf⟩ := gd_s hf
    obtain ⟨d23, ed23, hf⟩ := bd_s hf
    refine b_iast C h15 h22 ed23 dX12_reports_73 ?_
    refine b_aload_n C dX12_reports_74 2 rfl rfl ?_
    refine b_gR C dX12_reports_75 fl_X12_40 h9 er14 ?_
    refine b_iload_n C dX12_reports_78 0 rfl rfl ?_
    refine b_iconst C (v := 1) dX12_reports_79 (by decide) ?_
    refine b_iadd C dX12_reports_80 ?_
    refine b_aload_n C dX12_reports_81 2 rfl rfl ?_
    refine b_gI C dX12_reports_82 fl_X12_302 h9 ?_
    obtain ⟨h24, hf⟩ := gd_s hf
    obtain ⟨d25, ed25, hf⟩ := bd_s hf
    refine b_iast C h15 h24 ed25 dX12_reports_85 ?_
    refine b_aload_n C dX12_reports_86 2 rfl rfl ?_
    refine b_gR C dX12_reports_87 fl_X12_40 h9 er14 ?_
    refine b_iload_n C dX12_reports_90 0 rfl rfl ?_
    refine b_iconst C (v := 2) dX12_reports_91 (by decide) ?_
    refine b_iadd C dX12_reports_92 ?_
    refine b_iload_n C dX12_reports_93 1 rfl rfl ?_
    obtain ⟨h26, hf⟩ := gd_s hf
    obtain ⟨d27, ed27, hf⟩ := bd_s hf
    refine b_iast C h15 h26 ed27 dX12_reports_94 ?_
    refine b_iconst C (v := 0) dX12_reports_95 (by decide) ?_
    refine b_istore_n C dX12_reports_96 rfl [(3, .int 0), (2, .int u20), (1, .int z0), (0, .ref (ad B x0))] (by decide) rfl ?_
    refine b_sub [(0, .ref (ad B x0)), (1, .int z0), (2, .int u20), (3, .int 0)] [3, 2, 1, 0] rfl ?_
    exact tX12_reports_L97 C hr hlocks (z0, u20, 0, d27) hf
  · have hf := if_s c13 hf
    exact b_vret C hr hlocks hf dX12_reports_41
set_option maxRecDepth 100000 in
def fX12_reports_J28 (N : Nat) (g : Gs) (x0 : Nat) (d : Ds) : Option (Unit × Ds) := gd (chk g x0 11) <| fX12_reports_J32 N g x0 (dI d x0 26) d
set_option maxHeartbeats 4000000 in
set_option maxRecDepth 100000 in
theorem tX12_reports_28 {p : Program} {l : Launch} {e : Env} {s : State} {m : MethodId} {args : Array Value} {below : List Frame} {meth : Method} {c : Code} {D : va_G} {cy : Nat → ClassId} {B : Bs} (C : Cx p s m args c cX12_reports 4 RX12 D cy B) (hr : meth.sig.returnType = none) (hlocks : meth.locks = false) {N : Nat} {g : Gs} {x0 : Nat}  {dz : Ds} {d : Ds} (hf : fX12_reports_J28 N g x0 d = some ((), dz)) : WB p l e rmX12_reports s m args below meth c 4 D cy B 0 0 (MQ below (QV D cy B g dz) args s 0 0 (wA B)) g d [(0, .ref (ad B x0))] 28 [] := by
  unfold fX12_reports_J28 at hf
  refine b_aload_n C dX12_reports_28 0 rfl rfl ?_
  obtain ⟨h8, hf⟩ := gd_s hf
  refine b_gI C dX12_reports_29 fl_X12_299 h8 ?_
  refine b_sub [(0, .ref (ad B x0))] [0] rfl ?_
  exact tX12_reports_32 C hr hlocks hf
set_option maxRecDepth 100000 in
def fX12_reports (N : Nat) (g : Gs) (x0 : Nat) (d : Ds) : Option (Unit × Ds) := gd (chk g x0 11) <| cv (fX12_laysSent N g x0 d) fun d2 => (ob (gR g x0 17) fun r4 => (gd (chk g r4 102) <| gd (¬ ((3 : Int32) < 0 ∨ gL g r4 ≤ (3 : Int32).toNatClampNeg)) <| if (dI d2 r4 (3 : Int32).toNatClampNeg) = (1 : Int32) then (if (dI d2 x0 26) ≤ (6 : Int32) then (fX12_reports_J28 N g x0 d2) else (fX12_reports_J32 N g x0 (-2) d2)) else (fX12_reports_J28 N g x0 d2)))
set_option maxHeartbeats 4000000 in
set_option maxRecDepth 100000 in
theorem tX12_reports_E {p : Program} {l : Launch} {e : Env} {s : State} {m : MethodId} {args : Array Value} {below : List Frame} {meth : Method} {c : Code} {D : va_G} {cy : Nat → ClassId} {B : Bs} (C : Cx p s m args c cX12_reports 4 RX12 D cy B) (hr : meth.sig.returnType = none) (hlocks : meth.locks = false) {N : Nat} {g : Gs} {x0 : Nat}  {dz : Ds} {d : Ds} (hf : fX12_reports N g x0 d = some ((), dz)) : WB p l e rmX12_reports s m args below meth c 4 D cy B 0 0 (MQ below (QV D cy B g dz) args s 0 0 (wA B)) g d [(0, .ref (ad B x0))] 0 [] := by
  unfold fX12_reports at hf
  refine b_aload_n C dX12_reports_0 0 rfl rfl ?_
  obtain ⟨h1, hf⟩ := gd_s hf
  obtain ⟨d2, k3, hf⟩ := cv_s hf
  refine b_cVN C [] dX12_reports_1 (kX12_laysSent l D cy B k3) lv_X12_314 ⟨rfl, rfl, Nat.le_of_ble_eq_true rfl, Nat.le_of_ble_eq_true rfl⟩ h1 (by decide) rfl (Nat.le_of_ble_eq_true rfl) ⟨Nat.zero_le _, Nat.zero_le _⟩ rfl ?_
  refine b_aload_n C dX12_reports_4 0 rfl rfl ?_
  obtain ⟨r4, er4, hf⟩ := ob_s hf
  refine b_gR C dX12_reports_5 fl_X12_40 h1 er4 ?_
  refine b_iconst C (v := 3) dX12_reports_8 (by decide) ?_
  obtain ⟨h5, hf⟩ := gd_s hf
  obtain ⟨h6, hf⟩ := gd_s hf
  refine b_iald C h5 h6 dX12_reports_9 ?_
  refine b_iconst C (v := 1) dX12_reports_10 (by decide) ?_
  refine b_icmp_ne C (tgt := 28) dX12_reports_11 (by decide) (fun c7 => ?_) (fun c7 => ?_)
  · have hf := if_s c7 hf
    refine b_sub [(0, .ref (ad B x0))] [0] rfl ?_
    exact tX12_reports_28 C hr hlocks hf
  · have hf := it_s c7 hf
    refine b_aload_n C dX12_reports_14 0 rfl rfl ?_
    refine b_gI C dX12_reports_15 fl_X12_299 h1 ?_
    refine b_bipush C (v := 6) dX12_reports_18 (by decide) ?_
    refine b_icmp_le C (tgt := 28) dX12_reports_20 (by decide) (fun c41 => ?_) (fun c41 => ?_)
    · have hf := it_s c41 hf
      refine b_sub [(0, .ref (ad B x0))] [0] rfl ?_
      exact tX12_reports_28 C hr hlocks hf
    · have hf := if_s c41 hf
      refine b_bipush C (v := (-2)) dX12_reports_23 (by decide) ?_
      refine b_goto C (tgt := 32) dX12_reports_25 (by decide) ?_
      refine b_sub [(0, .ref (ad B x0))] [0] rfl ?_
      exact tX12_reports_32 C hr hlocks hf
theorem kX12_reports (l : Launch) (D : va_G) (cy : Nat → ClassId) (B : Bs) {N : Nat} {g : Gs} {x0 : Nat}  {dz : Ds} {d : Ds} (hf : fX12_reports N g x0 d = some ((), dz)) : Met l yX12_reports (.code yX12_reports cX12_reports 4 none :: wl) rmX12_reports (PC D cy B [.ref (ad B x0)] g d) (QV D cy B g dz) 0 0 (wA B) :=
  met_of (by decide +kernel) (Nat.le_of_ble_eq_true rfl) (fun p e s m args below meth c C hr hlocks _ => b_sub [(0, .ref (ad B x0))] [0] rfl (tX12_reports_E C hr hlocks hf))
/-! KeyMatrixModel.timeAt(I)I -/
theorem dX12_timeAt_0 : decode cX12_timeAt 0 = .ok (.aload_n 0, 1) := by decide +kernel
theorem dX12_timeAt_1 : decode cX12_timeAt 1 = .ok (.getfield 40, 3) := by decide +kernel
theorem dX12_timeAt_4 : decode cX12_timeAt 4 = .ok (.sipush 1678, 3) := by decide +kernel
theorem dX12_timeAt_7 : decode cX12_timeAt 7 = .ok (.iconst 3, 1) := by decide +kernel
theorem dX12_timeAt_8 : decode cX12_timeAt 8 = .ok (.iload_n 1, 1) := by decide +kernel
theorem dX12_timeAt_9 : decode cX12_timeAt 9 = .ok (.imul, 1) := by decide +kernel
theorem dX12_timeAt_10 : decode cX12_timeAt 10 = .ok (.iadd, 1) := by decide +kernel
theorem dX12_timeAt_11 : decode cX12_timeAt 11 = .ok (.iconst 2, 1) := by decide +kernel
theorem dX12_timeAt_12 : decode cX12_timeAt 12 = .ok (.iadd, 1) := by decide +kernel
theorem dX12_timeAt_13 : decode cX12_timeAt 13 = .ok (.iaload, 1) := by decide +kernel
theorem dX12_timeAt_14 : decode cX12_timeAt 14 = .ok (.ireturn, 1) := by decide +kernel
def rmX12_timeAt : Room := { frames := 0, cells := 0, slots := 0, locals := 0 }
set_option maxRecDepth 100000 in
def fX12_timeAt (N : Nat) (g : Gs) (x0 : Nat) (x1 : Int32) (d : Ds) : Option (Int32 × Ds) := gd (chk g x0 11) <| ob (gR g x0 17) fun r2 => (gd (chk g r2 102) <| gd (¬ ((((1678 : Int32) + ((3 : Int32) * x1)) + 2) < 0 ∨ gL g r2 ≤ (((1678 : Int32) + ((3 : Int32) * x1)) + 2).toNatClampNeg)) <| some ((dI d r2 (((1678 : Int32) + ((3 : Int32) * x1)) + 2).toNatClampNeg), d))
set_option maxHeartbeats 4000000 in
set_option maxRecDepth 100000 in
theorem tX12_timeAt_E {p : Program} {l : Launch} {e : Env} {s : State} {m : MethodId} {args : Array Value} {below : List Frame} {meth : Method} {c : Code} {D : va_G} {cy : Nat → ClassId} {B : Bs} (C : Cx p s m args c cX12_timeAt 2 RX12 D cy B) (hr : meth.sig.returnType = (some .int)) (hlocks : meth.locks = false) {N : Nat} {g : Gs} {x0 : Nat} {x1 : Int32} {vz : Int32} {dz : Ds} {d : Ds} (hf : fX12_timeAt N g x0 x1 d = some (vz, dz)) : WB p l e rmX12_timeAt s m args below meth c 2 D cy B 0 0 (MQ below (QI D cy B vz g dz) args s 0 0 (wA B)) g d [(0, .ref (ad B x0)), (1, .int x1)] 0 [] := by
  unfold fX12_timeAt at hf
  refine b_aload_n C dX12_timeAt_0 0 rfl rfl ?_
  obtain ⟨h1, hf⟩ := gd_s hf
  obtain ⟨r2, er2, hf⟩ := ob_s hf
  refine b_gR C dX12_timeAt_1 fl_X12_40 h1 er2 ?_
  refine b_sipush C (v := 1678) dX12_timeAt_4 (by decide) ?_
  refine b_iconst C (v := 3) dX12_timeAt_7 (by decide) ?_
  refine b_iload_n C dX12_timeAt_8 1 rfl rfl ?_
  refine b_imul C dX12_timeAt_9 ?_
  refine b_iadd C dX12_timeAt_10 ?_
  refine b_iconst C (v := 2) dX12_timeAt_11 (by decide) ?_
  refine b_iadd C dX12_timeAt_12 ?_
  obtain ⟨h3, hf⟩ := gd_s hf
  obtain ⟨h4, hf⟩ := gd_s hf
  refine b_iald C h3 h4 dX12_timeAt_13 ?_
  exact b_iret C hr hlocks hf dX12_timeAt_14
theorem kX12_timeAt (l : Launch) (D : va_G) (cy : Nat → ClassId) (B : Bs) {N : Nat} {g : Gs} {x0 : Nat} {x1 : Int32} {vz : Int32} {dz : Ds} {d : Ds} (hf : fX12_timeAt N g x0 x1 d = some (vz, dz)) : Met l yX12_timeAt (.code yX12_timeAt cX12_timeAt 2 (some .int) :: wl) rmX12_timeAt (PC D cy B [.ref (ad B x0), .int x1] g d) (QI D cy B vz g dz) 0 0 (wA B) :=
  met_of (by decide +kernel) (Nat.le_of_ble_eq_true rfl) (fun p e s m args below meth c C hr hlocks _ => b_sub [(0, .ref (ad B x0)), (1, .int x1)] [0, 1] rfl (tX12_timeAt_E C hr hlocks hf))
/-! KeyMatrixModel.plays(I)V -/
theorem yo_X12_reports : yX12_reports.cls ≠ "java/lang/invoke/MethodHandle" ∧ yX12_reports.cls ≠ "java/lang/invoke/VarHandle" ∧ (parseMethodDescriptor yX12_reports.desc).map (fun d => d.parameters.length) = some 0 := by decide +kernel
theorem co_X12_reports : Cond.code yX12_reports cX12_reports 4 none ∈ wl := mW (mT6 (List.mem_of_getElem? (i := 155) (by decide +kernel))) rfl
theorem in_X12_reports : Cond.initialized yX12_reports.cls ∈ wl := mW (mT1 (List.mem_of_getElem? (i := 12) (by decide +kernel))) rfl
theorem im_X12_reports : Cond.instanceMethod yX12_reports ∈ wl := mW (mT6 (List.mem_of_getElem? (i := 154) (by decide +kernel))) rfl
theorem se_X12_reports : Cond.selects yX12_reports.cls yX12_reports yX12_reports ∈ wl := mW (mT0 (List.mem_of_getElem? (i := 70) (by decide +kernel))) rfl
theorem lv_X12_256 : LV RX12 256 yX12_reports cX12_reports 4 none 0 11 := ⟨⟨(RX12, TX12, 33), rfl, rfl⟩, yo_X12_reports, mW (mT6 (List.mem_of_getElem? (i := 152) (by decide +kernel))) rfl, im_X12_reports, se_X12_reports, in_X12_reports, co_X12_reports⟩
theorem dX12_plays_0 : decode cX12_plays 0 = .ok (.iload_n 1, 1) := by decide +kernel
theorem dX12_plays_1 : decode cX12_plays 1 = .ok (.aload_n 0, 1) := by decide +kernel
theorem dX12_plays_2 : decode cX12_plays 2 = .ok (.getfield 40, 3) := by decide +kernel
theorem dX12_plays_5 : decode cX12_plays 5 = .ok (.bipush 11, 2) := by decide +kernel
theorem dX12_plays_7 : decode cX12_plays 7 = .ok (.iaload, 1) := by decide +kernel
theorem dX12_plays_8 : decode cX12_plays 8 = .ok (.if_icmp .lt 4, 3) := by decide +kernel
theorem dX12_plays_11 : decode cX12_plays 11 = .ok (.return_, 1) := by decide +kernel
theorem dX12_plays_12 : decode cX12_plays 12 = .ok (.sipush 316, 3) := by decide +kernel
theorem dX12_plays_15 : decode cX12_plays 15 = .ok (.bipush 9, 2) := by decide +kernel
theorem dX12_plays_17 : decode cX12_plays 17 = .ok (.iload_n 1, 1) := by decide +kernel
theorem dX12_plays_18 : decode cX12_plays 18 = .ok (.imul, 1) := by decide +kernel
theorem dX12_plays_19 : decode cX12_plays 19 = .ok (.iadd, 1) := by decide +kernel
theorem dX12_plays_20 : decode cX12_plays 20 = .ok (.istore_n 2, 1) := by decide +kernel
theorem dX12_plays_21 : decode cX12_plays 21 = .ok (.iconst 1, 1) := by decide +kernel
theorem dX12_plays_22 : decode cX12_plays 22 = .ok (.istore_n 3, 1) := by decide +kernel
theorem dX12_plays_23 : decode cX12_plays 23 = .ok (.iload_n 3, 1) := by decide +kernel
theorem dX12_plays_24 : decode cX12_plays 24 = .ok (.aload_n 0, 1) := by decide +kernel
theorem dX12_plays_25 : decode cX12_plays 25 = .ok (.getfield 40, 3) := by decide +kernel
theorem dX12_plays_28 : decode cX12_plays 28 = .ok (.iload_n 2, 1) := by decide +kernel
theorem dX12_plays_29 : decode cX12_plays 29 = .ok (.iaload, 1) := by decide +kernel
theorem dX12_plays_30 : decode cX12_plays 30 = .ok (.if_icmp .gt 42, 3) := by decide +kernel
theorem dX12_plays_33 : decode cX12_plays 33 = .ok (.aload_n 0, 1) := by decide +kernel
theorem dX12_plays_34 : decode cX12_plays 34 = .ok (.getfield 40, 3) := by decide +kernel
theorem dX12_plays_37 : decode cX12_plays 37 = .ok (.sipush 454, 3) := by decide +kernel
theorem dX12_plays_40 : decode cX12_plays 40 = .ok (.aload_n 0, 1) := by decide +kernel
theorem dX12_plays_41 : decode cX12_plays 41 = .ok (.getfield 40, 3) := by decide +kernel
theorem dX12_plays_44 : decode cX12_plays 44 = .ok (.iload_n 2, 1) := by decide +kernel
theorem dX12_plays_45 : decode cX12_plays 45 = .ok (.iload_n 3, 1) := by decide +kernel
theorem dX12_plays_46 : decode cX12_plays 46 = .ok (.iadd, 1) := by decide +kernel
theorem dX12_plays_47 : decode cX12_plays 47 = .ok (.iaload, 1) := by decide +kernel
theorem dX12_plays_48 : decode cX12_plays 48 = .ok (.iastore, 1) := by decide +kernel
theorem dX12_plays_49 : decode cX12_plays 49 = .ok (.aload_n 0, 1) := by decide +kernel
theorem dX12_plays_50 : decode cX12_plays 50 = .ok (.invokevirtual 256, 3) := by decide +kernel
theorem dX12_plays_53 : decode cX12_plays 53 = .ok (.aload_n 0, 1) := by decide +kernel
theorem dX12_plays_54 : decode cX12_plays 54 = .ok (.getfield 40, 3) := by decide +kernel
theorem dX12_plays_57 : decode cX12_plays 57 = .ok (.sipush 454, 3) := by decide +kernel
theorem dX12_plays_60 : decode cX12_plays 60 = .ok (.iconst (-1), 1) := by decide +kernel
theorem dX12_plays_61 : decode cX12_plays 61 = .ok (.iastore, 1) := by decide +kernel
theorem dX12_plays_62 : decode cX12_plays 62 = .ok (.aload_n 0, 1) := by decide +kernel
theorem dX12_plays_63 : decode cX12_plays 63 = .ok (.invokevirtual 256, 3) := by decide +kernel
theorem dX12_plays_66 : decode cX12_plays 66 = .ok (.iinc 3 1, 3) := by decide +kernel
theorem dX12_plays_69 : decode cX12_plays 69 = .ok (.goto (-46), 3) := by decide +kernel
theorem dX12_plays_72 : decode cX12_plays 72 = .ok (.return_, 1) := by decide +kernel
def rmX12_plays : Room := { frames := 3, cells := 0, slots := 0, locals := 70 }
set_option maxRecDepth 100000 in
def fX12_plays_B23 (N : Nat) (g : Gs) (x0 : Nat) (x1 : Int32) (K23 : Int32 × Int32 × Ds → Option (Unit × Ds)) (y2 : Int32) (y3 : Int32) (d : Ds) : Option (Unit × Ds) := gd (chk g x0 11) <| ob (gR g x0 17) fun r8 => (gd (chk g r8 102) <| gd (¬ (y2 < 0 ∨ gL g r8 ≤ y2.toNatClampNeg)) <| if (dI d r8 y2.toNatClampNeg) < y3 then (some ((), d)) else (gd (¬ ((y2 + y3) < 0 ∨ gL g r8 ≤ (y2 + y3).toNatClampNeg)) <| gd (¬ ((454 : Int32) < 0 ∨ gL g r8 ≤ (454 : Int32).toNatClampNeg)) <| bd (sI d r8 (454 : Int32).toNatClampNeg (dI d r8 (y2 + y3).toNatClampNeg)) fun d14 => (cv (fX12_reports N g x0 d14) fun d15 => (bd (sI d15 r8 (454 : Int32).toNatClampNeg (-1)) fun d17 => (cv (fX12_reports N g x0 d17) fun d18 => (bd (y3 + 1) fun u20 => (K23 (y2, u20, d18))))))))
set_option maxHeartbeats 4000000 in
set_option maxRecDepth 100000 in
theorem tX12_plays_23 {p : Program} {l : Launch} {e : Env} {s : State} {m : MethodId} {args : Array Value} {below : List Frame} {meth : Method} {c : Code} {D : va_G} {cy : Nat → ClassId} {B : Bs} (C : Cx p s m args c cX12_plays 4 RX12 D cy B) (hr : meth.sig.returnType = none) (hlocks : meth.locks = false) {N : Nat} {g : Gs} {x0 : Nat} {x1 : Int32}  {dz : Ds} {K23 : Int32 × Int32 × Ds → Option (Unit × Ds)} (hK23 : ∀ a, K23 a = some ((), dz) → WB p l e rmX12_plays s m args below meth c 4 D cy B 0 0 (MQ below (QV D cy B g dz) args s 0 0 (wA B)) g a.2.2 [(0, .ref (ad B x0)), (1, .int x1), (2, .int a.1), (3, .int a.2.1)] 23 []) {y2 : Int32} {y3 : Int32} {d : Ds} (hf : fX12_plays_B23 N g x0 x1 K23 y2 y3 d = some ((), dz)) : WB p l e rmX12_plays s m args below meth c 4 D cy B 0 0 (MQ below (QV D cy B g dz) args s 0 0 (wA B)) g d [(0, .ref (ad B x0)), (1, .int x1), (2, .int y2), (3, .int y3)] 23 [] := by
  unfold fX12_plays_B23 at hf
  refine b_iload_n C dX12_plays_23 3 rfl rfl ?_
  refine b_aload_n C dX12_plays_24 0 rfl rfl ?_
  obtain ⟨h7, hf⟩ := gd_s hf
  obtain ⟨r8, er8, hf⟩ := ob_s hf
  refine b_gR C dX12_plays_25 fl_X12_40 h7 er8 ?_
  refine b_iload_n C dX12_plays_28 2 rfl rfl ?_
  obtain ⟨h9, hf⟩ := gd_s hf
  obtain ⟨h10, hf⟩ := gd_s hf
  refine b_iald C h9 h10 dX12_plays_29 ?_
  refine b_icmp_gt C (tgt := 72) dX12_plays_30 (by decide) (fun c11 => ?_) (fun c11 => ?_)
  · have hf := it_s c11 hf
    exact b_vret C hr hlocks hf dX12_plays_72
  · have hf := if_s c11 hf
    refine b_aload_n C dX12_plays_33 0 rfl rfl ?_
    refine b_gR C dX12_plays_34 fl_X12_40 h7 er8 ?_
    refine b_sipush C (v := 454) dX12_plays_37 (by decide) ?_
    refine b_aload_n C dX12_plays_40 0 rfl rfl ?_
    refine b_gR C dX12_plays_41 fl_X12_40 h7 er8 ?_
    refine b_iload_n C dX12_plays_44 2 rfl rfl ?_
    refine b_iload_n C dX12_plays_45 3 rfl rfl ?_
    refine b_iadd C dX12_plays_46 ?_
    obtain ⟨h12, hf⟩ := gd_s hf
    refine b_iald C h9 h12 dX12_plays_47 ?_
    obtain ⟨h13, hf⟩ := gd_s hf
    obtain ⟨d14, ed14, hf⟩ := bd_s hf
    refine b_iast C h9 h13 ed14 dX12_plays_48 ?_
    refine b_aload_n C dX12_plays_49 0 rfl rfl ?_
    obtain ⟨d15, k16, hf⟩ := cv_s hf
    refine b_cVN C [] dX12_plays_50 (kX12_reports l D cy B k16) lv_X12_256 ⟨rfl, rfl, Nat.le_of_ble_eq_true rfl, Nat.le_of_ble_eq_true rfl⟩ h7 (by decide) rfl (Nat.le_of_ble_eq_true rfl) ⟨Nat.zero_le _, Nat.zero_le _⟩ rfl ?_
    refine b_aload_n C dX12_plays_53 0 rfl rfl ?_
    refine b_gR C dX12_plays_54 fl_X12_40 h7 er8 ?_
    refine b_sipush C (v := 454) dX12_plays_57 (by decide) ?_
    refine b_iconst C (v := (-1)) dX12_plays_60 (by decide) ?_
    obtain ⟨d17, ed17, hf⟩ := bd_s hf
    refine b_iast C h9 h13 ed17 dX12_plays_61 ?_
    refine b_aload_n C dX12_plays_62 0 rfl rfl ?_
    obtain ⟨d18, k19, hf⟩ := cv_s hf
    refine b_cVN C [] dX12_plays_63 (kX12_reports l D cy B k19) lv_X12_256 ⟨rfl, rfl, Nat.le_of_ble_eq_true rfl, Nat.le_of_ble_eq_true rfl⟩ h7 (by decide) rfl (Nat.le_of_ble_eq_true rfl) ⟨Nat.zero_le _, Nat.zero_le _⟩ rfl ?_
    obtain ⟨u20, eu20, hf⟩ := bd_s hf
    refine b_iinc C dX12_plays_66 3 rfl (by rw [eu20]; rfl) [(3, .int u20), (0, .ref (ad B x0)), (1, .int x1), (2, .int y2)] (by decide) rfl ?_
    refine b_goto C (tgt := 23) dX12_plays_69 (by decide) ?_
    refine b_sub [(0, .ref (ad B x0)), (1, .int x1), (2, .int y2), (3, .int u20)] [1, 2, 3, 0] rfl ?_
    exact hK23 (y2, u20, d18) hf
def fX12_plays_L23 (N : Nat) (g : Gs) (x0 : Nat) (x1 : Int32) : Int32 × Int32 × Ds → Option (Unit × Ds) := lp (fun K23 a => fX12_plays_B23 N g x0 x1 K23 a.1 a.2.1 a.2.2) N
theorem tX12_plays_L23 {p : Program} {l : Launch} {e : Env} {s : State} {m : MethodId} {args : Array Value} {below : List Frame} {meth : Method} {c : Code} {D : va_G} {cy : Nat → ClassId} {B : Bs} (C : Cx p s m args c cX12_plays 4 RX12 D cy B) (hr : meth.sig.returnType = none) (hlocks : meth.locks = false) {N : Nat} {g : Gs} {x0 : Nat} {x1 : Int32}  {dz : Ds} (a : Int32 × Int32 × Ds) (hf : fX12_plays_L23 N g x0 x1 a = some ((), dz)) : WB p l e rmX12_plays s m args below meth c 4 D cy B 0 0 (MQ below (QV D cy B g dz) args s 0 0 (wA B)) g a.2.2 [(0, .ref (ad B x0)), (1, .int x1), (2, .int a.1), (3, .int a.2.1)] 23 [] :=
  lp_w (fun K23 hK23 a ha => tX12_plays_23 C hr hlocks hK23 ha) N a hf
set_option maxRecDepth 100000 in
def fX12_plays (N : Nat) (g : Gs) (x0 : Nat) (x1 : Int32) (d : Ds) : Option (Unit × Ds) := gd (chk g x0 11) <| ob (gR g x0 17) fun r2 => (gd (chk g r2 102) <| gd (¬ ((11 : Int32) < 0 ∨ gL g r2 ≤ (11 : Int32).toNatClampNeg)) <| if x1 < (dI d r2 (11 : Int32).toNatClampNeg) then (bd (((316 : Int32) + ((9 : Int32) * x1))) fun u6 => (fX12_plays_L23 N g x0 x1 (u6, 1, d))) else (some ((), d)))
set_option maxHeartbeats 4000000 in
set_option maxRecDepth 100000 in
theorem tX12_plays_E {p : Program} {l : Launch} {e : Env} {s : State} {m : MethodId} {args : Array Value} {below : List Frame} {meth : Method} {c : Code} {D : va_G} {cy : Nat → ClassId} {B : Bs} (C : Cx p s m args c cX12_plays 4 RX12 D cy B) (hr : meth.sig.returnType = none) (hlocks : meth.locks = false) {N : Nat} {g : Gs} {x0 : Nat} {x1 : Int32}  {dz : Ds} {d : Ds} (hf : fX12_plays N g x0 x1 d = some ((), dz)) : WB p l e rmX12_plays s m args below meth c 4 D cy B 0 0 (MQ below (QV D cy B g dz) args s 0 0 (wA B)) g d [(0, .ref (ad B x0)), (1, .int x1)] 0 [] := by
  unfold fX12_plays at hf
  refine b_iload_n C dX12_plays_0 1 rfl rfl ?_
  refine b_aload_n C dX12_plays_1 0 rfl rfl ?_
  obtain ⟨h1, hf⟩ := gd_s hf
  obtain ⟨r2, er2, hf⟩ := ob_s hf
  refine b_gR C dX12_plays_2 fl_X12_40 h1 er2 ?_
  refine b_bipush C (v := 11) dX12_plays_5 (by decide) ?_
  obtain ⟨h3, hf⟩ := gd_s hf
  obtain ⟨h4, hf⟩ := gd_s hf
  refine b_iald C h3 h4 dX12_plays_7 ?_
  refine b_icmp_lt C (tgt := 12) dX12_plays_8 (by decide) (fun c5 => ?_) (fun c5 => ?_)
  · have hf := it_s c5 hf
    refine b_sipush C (v := 316) dX12_plays_12 (by decide) ?_
    refine b_bipush C (v := 9) dX12_plays_15 (by decide) ?_
    refine b_iload_n C dX12_plays_17 1 rfl rfl ?_
    refine b_imul C dX12_plays_18 ?_
    refine b_iadd C dX12_plays_19 ?_
    obtain ⟨u6, eu6, hf⟩ := bd_s hf
    refine b_topI eu6 ?_
    refine b_istore_n C dX12_plays_20 rfl [(2, .int u6), (0, .ref (ad B x0)), (1, .int x1)] (by decide) rfl ?_
    refine b_iconst C (v := 1) dX12_plays_21 (by decide) ?_
    refine b_istore_n C dX12_plays_22 rfl [(3, .int 1), (2, .int u6), (0, .ref (ad B x0)), (1, .int x1)] (by decide) rfl ?_
    refine b_sub [(0, .ref (ad B x0)), (1, .int x1), (2, .int u6), (3, .int 1)] [2, 3, 1, 0] rfl ?_
    exact tX12_plays_L23 C hr hlocks (u6, 1, d) hf
  · have hf := if_s c5 hf
    exact b_vret C hr hlocks hf dX12_plays_11
theorem kX12_plays (l : Launch) (D : va_G) (cy : Nat → ClassId) (B : Bs) {N : Nat} {g : Gs} {x0 : Nat} {x1 : Int32}  {dz : Ds} {d : Ds} (hf : fX12_plays N g x0 x1 d = some ((), dz)) : Met l yX12_plays (.code yX12_plays cX12_plays 4 none :: wl) rmX12_plays (PC D cy B [.ref (ad B x0), .int x1] g d) (QV D cy B g dz) 0 0 (wA B) :=
  met_of (by decide +kernel) (Nat.le_of_ble_eq_true rfl) (fun p e s m args below meth c C hr hlocks _ => b_sub [(0, .ref (ad B x0)), (1, .int x1)] [0, 1] rfl (tX12_plays_E C hr hlocks hf))
/-! KeyMatrixModel.begin(III)V -/
theorem dX12_begin_0 : decode cX12_begin 0 = .ok (.aload_n 0, 1) := by decide +kernel
theorem dX12_begin_1 : decode cX12_begin 1 = .ok (.getfield 40, 3) := by decide +kernel
theorem dX12_begin_4 : decode cX12_begin 4 = .ok (.sipush 379, 3) := by decide +kernel
theorem dX12_begin_7 : decode cX12_begin 7 = .ok (.iconst 3, 1) := by decide +kernel
theorem dX12_begin_8 : decode cX12_begin 8 = .ok (.iload_n 1, 1) := by decide +kernel
theorem dX12_begin_9 : decode cX12_begin 9 = .ok (.imul, 1) := by decide +kernel
theorem dX12_begin_10 : decode cX12_begin 10 = .ok (.iadd, 1) := by decide +kernel
theorem dX12_begin_11 : decode cX12_begin 11 = .ok (.iload_n 2, 1) := by decide +kernel
theorem dX12_begin_12 : decode cX12_begin 12 = .ok (.iastore, 1) := by decide +kernel
theorem dX12_begin_13 : decode cX12_begin 13 = .ok (.aload_n 0, 1) := by decide +kernel
theorem dX12_begin_14 : decode cX12_begin 14 = .ok (.getfield 40, 3) := by decide +kernel
theorem dX12_begin_17 : decode cX12_begin 17 = .ok (.sipush 379, 3) := by decide +kernel
theorem dX12_begin_20 : decode cX12_begin 20 = .ok (.iconst 3, 1) := by decide +kernel
theorem dX12_begin_21 : decode cX12_begin 21 = .ok (.iload_n 1, 1) := by decide +kernel
theorem dX12_begin_22 : decode cX12_begin 22 = .ok (.imul, 1) := by decide +kernel
theorem dX12_begin_23 : decode cX12_begin 23 = .ok (.iadd, 1) := by decide +kernel
theorem dX12_begin_24 : decode cX12_begin 24 = .ok (.iconst 1, 1) := by decide +kernel
theorem dX12_begin_25 : decode cX12_begin 25 = .ok (.iadd, 1) := by decide +kernel
theorem dX12_begin_26 : decode cX12_begin 26 = .ok (.iload_n 3, 1) := by decide +kernel
theorem dX12_begin_27 : decode cX12_begin 27 = .ok (.iastore, 1) := by decide +kernel
theorem dX12_begin_28 : decode cX12_begin 28 = .ok (.aload_n 0, 1) := by decide +kernel
theorem dX12_begin_29 : decode cX12_begin 29 = .ok (.getfield 40, 3) := by decide +kernel
theorem dX12_begin_32 : decode cX12_begin 32 = .ok (.sipush 379, 3) := by decide +kernel
theorem dX12_begin_35 : decode cX12_begin 35 = .ok (.iconst 3, 1) := by decide +kernel
theorem dX12_begin_36 : decode cX12_begin 36 = .ok (.iload_n 1, 1) := by decide +kernel
theorem dX12_begin_37 : decode cX12_begin 37 = .ok (.imul, 1) := by decide +kernel
theorem dX12_begin_38 : decode cX12_begin 38 = .ok (.iadd, 1) := by decide +kernel
theorem dX12_begin_39 : decode cX12_begin 39 = .ok (.iconst 2, 1) := by decide +kernel
theorem dX12_begin_40 : decode cX12_begin 40 = .ok (.iadd, 1) := by decide +kernel
theorem dX12_begin_41 : decode cX12_begin 41 = .ok (.aload_n 0, 1) := by decide +kernel
theorem dX12_begin_42 : decode cX12_begin 42 = .ok (.getfield 40, 3) := by decide +kernel
theorem dX12_begin_45 : decode cX12_begin 45 = .ok (.sipush 451, 3) := by decide +kernel
theorem dX12_begin_48 : decode cX12_begin 48 = .ok (.iaload, 1) := by decide +kernel
theorem dX12_begin_49 : decode cX12_begin 49 = .ok (.iastore, 1) := by decide +kernel
theorem dX12_begin_50 : decode cX12_begin 50 = .ok (.aload_n 0, 1) := by decide +kernel
theorem dX12_begin_51 : decode cX12_begin 51 = .ok (.getfield 40, 3) := by decide +kernel
theorem dX12_begin_54 : decode cX12_begin 54 = .ok (.sipush 451, 3) := by decide +kernel
theorem dX12_begin_57 : decode cX12_begin 57 = .ok (.dup2, 1) := by decide +kernel
theorem dX12_begin_58 : decode cX12_begin 58 = .ok (.iaload, 1) := by decide +kernel
theorem dX12_begin_59 : decode cX12_begin 59 = .ok (.iconst 1, 1) := by decide +kernel
theorem dX12_begin_60 : decode cX12_begin 60 = .ok (.iadd, 1) := by decide +kernel
theorem dX12_begin_61 : decode cX12_begin 61 = .ok (.iastore, 1) := by decide +kernel
theorem dX12_begin_62 : decode cX12_begin 62 = .ok (.return_, 1) := by decide +kernel
def rmX12_begin : Room := { frames := 0, cells := 0, slots := 0, locals := 0 }
set_option maxRecDepth 100000 in
def fX12_begin (N : Nat) (g : Gs) (x0 : Nat) (x1 : Int32) (x2 : Int32) (x3 : Int32) (d : Ds) : Option (Unit × Ds) := gd (chk g x0 11) <| ob (gR g x0 17) fun r2 => (gd (chk g r2 102) <| gd (¬ (((379 : Int32) + ((3 : Int32) * x1)) < 0 ∨ gL g r2 ≤ ((379 : Int32) + ((3 : Int32) * x1)).toNatClampNeg)) <| bd (sI d r2 ((379 : Int32) + ((3 : Int32) * x1)).toNatClampNeg x2) fun d5 => (gd (¬ ((((379 : Int32) + ((3 : Int32) * x1)) + 1) < 0 ∨ gL g r2 ≤ (((379 : Int32) + ((3 : Int32) * x1)) + 1).toNatClampNeg)) <| bd (sI d5 r2 (((379 : Int32) + ((3 : Int32) * x1)) + 1).toNatClampNeg x3) fun d7 => (gd (¬ ((451 : Int32) < 0 ∨ gL g r2 ≤ (451 : Int32).toNatClampNeg)) <| gd (¬ ((((379 : Int32) + ((3 : Int32) * x1)) + 2) < 0 ∨ gL g r2 ≤ (((379 : Int32) + ((3 : Int32) * x1)) + 2).toNatClampNeg)) <| bd (sI d7 r2 (((379 : Int32) + ((3 : Int32) * x1)) + 2).toNatClampNeg (dI d7 r2 (451 : Int32).toNatClampNeg)) fun d10 => (bd (sI d10 r2 (451 : Int32).toNatClampNeg ((dI d10 r2 (451 : Int32).toNatClampNeg) + 1)) fun d11 => (some ((), d11))))))
set_option maxHeartbeats 4000000 in
set_option maxRecDepth 100000 in
theorem tX12_begin_E {p : Program} {l : Launch} {e : Env} {s : State} {m : MethodId} {args : Array Value} {below : List Frame} {meth : Method} {c : Code} {D : va_G} {cy : Nat → ClassId} {B : Bs} (C : Cx p s m args c cX12_begin 4 RX12 D cy B) (hr : meth.sig.returnType = none) (hlocks : meth.locks = false) {N : Nat} {g : Gs} {x0 : Nat} {x1 : Int32} {x2 : Int32} {x3 : Int32}  {dz : Ds} {d : Ds} (hf : fX12_begin N g x0 x1 x2 x3 d = some ((), dz)) : WB p l e rmX12_begin s m args below meth c 4 D cy B 0 0 (MQ below (QV D cy B g dz) args s 0 0 (wA B)) g d [(0, .ref (ad B x0)), (1, .int x1), (2, .int x2), (3, .int x3)] 0 [] := by
  unfold fX12_begin at hf
  refine b_aload_n C dX12_begin_0 0 rfl rfl ?_
  obtain ⟨h1, hf⟩ := gd_s hf
  obtain ⟨r2, er2, hf⟩ := ob_s hf
  refine b_gR C dX12_begin_1 fl_X12_40 h1 er2 ?_
  refine b_sipush C (v := 379) dX12_begin_4 (by decide) ?_
  refine b_iconst C (v := 3) dX12_begin_7 (by decide) ?_
  refine b_iload_n C dX12_begin_8 1 rfl rfl ?_
  refine b_imul C dX12_begin_9 ?_
  refine b_iadd C dX12_begin_10 ?_
  refine b_iload_n C dX12_begin_11 2 rfl rfl ?_
  obtain ⟨h3, hf⟩ := gd_s hf
  obtain ⟨h4, hf⟩ := gd_s hf
  obtain ⟨d5, ed5, hf⟩ := bd_s hf
  refine b_iast C h3 h4 ed5 dX12_begin_12 ?_
  refine b_aload_n C dX12_begin_13 0 rfl rfl ?_
  refine b_gR C dX12_begin_14 fl_X12_40 h1 er2 ?_
  refine b_sipush C (v := 379) dX12_begin_17 (by decide) ?_
  refine b_iconst C (v := 3) dX12_begin_20 (by decide) ?_
  refine b_iload_n C dX12_begin_21 1 rfl rfl ?_
  refine b_imul C dX12_begin_22 ?_
  refine b_iadd C dX12_begin_23 ?_
  refine b_iconst C (v := 1) dX12_begin_24 (by decide) ?_
  refine b_iadd C dX12_begin_25 ?_
  refine b_iload_n C dX12_begin_26 3 rfl rfl ?_
  obtain ⟨h6, hf⟩ := gd_s hf
  obtain ⟨d7, ed7, hf⟩ := bd_s hf
  refine b_iast C h3 h6 ed7 dX12_begin_27 ?_
  refine b_aload_n C dX12_begin_28 0 rfl rfl ?_
  refine b_gR C dX12_begin_29 fl_X12_40 h1 er2 ?_
  refine b_sipush C (v := 379) dX12_begin_32 (by decide) ?_
  refine b_iconst C (v := 3) dX12_begin_35 (by decide) ?_
  refine b_iload_n C dX12_begin_36 1 rfl rfl ?_
  refine b_imul C dX12_begin_37 ?_
  refine b_iadd C dX12_begin_38 ?_
  refine b_iconst C (v := 2) dX12_begin_39 (by decide) ?_
  refine b_iadd C dX12_begin_40 ?_
  refine b_aload_n C dX12_begin_41 0 rfl rfl ?_
  refine b_gR C dX12_begin_42 fl_X12_40 h1 er2 ?_
  refine b_sipush C (v := 451) dX12_begin_45 (by decide) ?_
  obtain ⟨h8, hf⟩ := gd_s hf
  refine b_iald C h3 h8 dX12_begin_48 ?_
  obtain ⟨h9, hf⟩ := gd_s hf
  obtain ⟨d10, ed10, hf⟩ := bd_s hf
  refine b_iast C h3 h9 ed10 dX12_begin_49 ?_
  refine b_aload_n C dX12_begin_50 0 rfl rfl ?_
  refine b_gR C dX12_begin_51 fl_X12_40 h1 er2 ?_
  refine b_sipush C (v := 451) dX12_begin_54 (by decide) ?_
  refine b_dup2 C dX12_begin_57 rfl rfl ?_
  refine b_iald C h3 h8 dX12_begin_58 ?_
  refine b_iconst C (v := 1) dX12_begin_59 (by decide) ?_
  refine b_iadd C dX12_begin_60 ?_
  obtain ⟨d11, ed11, hf⟩ := bd_s hf
  refine b_iast C h3 h8 ed11 dX12_begin_61 ?_
  exact b_vret C hr hlocks hf dX12_begin_62
theorem kX12_begin (l : Launch) (D : va_G) (cy : Nat → ClassId) (B : Bs) {N : Nat} {g : Gs} {x0 : Nat} {x1 : Int32} {x2 : Int32} {x3 : Int32}  {dz : Ds} {d : Ds} (hf : fX12_begin N g x0 x1 x2 x3 d = some ((), dz)) : Met l yX12_begin (.code yX12_begin cX12_begin 4 none :: wl) rmX12_begin (PC D cy B [.ref (ad B x0), .int x1, .int x2, .int x3] g d) (QV D cy B g dz) 0 0 (wA B) :=
  met_of (by decide +kernel) (Nat.le_of_ble_eq_true rfl) (fun p e s m args below meth c C hr hlocks _ => b_sub [(0, .ref (ad B x0)), (1, .int x1), (2, .int x2), (3, .int x3)] [0, 1, 2, 3] rfl (tX12_begin_E C hr hlocks hf))
/-! KeyMatrixModel.chords(III)V -/
theorem yo_X12_begin : yX12_begin.cls ≠ "java/lang/invoke/MethodHandle" ∧ yX12_begin.cls ≠ "java/lang/invoke/VarHandle" ∧ (parseMethodDescriptor yX12_begin.desc).map (fun d => d.parameters.length) = some 3 := by decide +kernel
theorem co_X12_begin : Cond.code yX12_begin cX12_begin 4 none ∈ wl := mW (mT6 (List.mem_of_getElem? (i := 199) (by decide +kernel))) rfl
theorem in_X12_begin : Cond.initialized yX12_begin.cls ∈ wl := mW (mT1 (List.mem_of_getElem? (i := 12) (by decide +kernel))) rfl
theorem im_X12_begin : Cond.instanceMethod yX12_begin ∈ wl := mW (mT6 (List.mem_of_getElem? (i := 198) (by decide +kernel))) rfl
theorem se_X12_begin : Cond.selects yX12_begin.cls yX12_begin yX12_begin ∈ wl := mW (mT0 (List.mem_of_getElem? (i := 81) (by decide +kernel))) rfl
theorem lv_X12_278 : LV RX12 278 yX12_begin cX12_begin 4 none 3 11 := ⟨⟨(RX12, TX12, 33), rfl, rfl⟩, yo_X12_begin, mW (mT6 (List.mem_of_getElem? (i := 196) (by decide +kernel))) rfl, im_X12_begin, se_X12_begin, in_X12_begin, co_X12_begin⟩
theorem yo_X12_plays : yX12_plays.cls ≠ "java/lang/invoke/MethodHandle" ∧ yX12_plays.cls ≠ "java/lang/invoke/VarHandle" ∧ (parseMethodDescriptor yX12_plays.desc).map (fun d => d.parameters.length) = some 1 := by decide +kernel
theorem co_X12_plays : Cond.code yX12_plays cX12_plays 4 none ∈ wl := mW (mT6 (List.mem_of_getElem? (i := 195) (by decide +kernel))) rfl
theorem in_X12_plays : Cond.initialized yX12_plays.cls ∈ wl := mW (mT1 (List.mem_of_getElem? (i := 12) (by decide +kernel))) rfl
theorem im_X12_plays : Cond.instanceMethod yX12_plays ∈ wl := mW (mT6 (List.mem_of_getElem? (i := 194) (by decide +kernel))) rfl
theorem se_X12_plays : Cond.selects yX12_plays.cls yX12_plays yX12_plays ∈ wl := mW (mT0 (List.mem_of_getElem? (i := 80) (by decide +kernel))) rfl
theorem lv_X12_290 : LV RX12 290 yX12_plays cX12_plays 4 none 1 11 := ⟨⟨(RX12, TX12, 33), rfl, rfl⟩, yo_X12_plays, mW (mT6 (List.mem_of_getElem? (i := 192) (by decide +kernel))) rfl, im_X12_plays, se_X12_plays, in_X12_plays, co_X12_plays⟩
theorem dX12_chords_0 : decode cX12_chords 0 = .ok (.aload_n 0, 1) := by decide +kernel
theorem dX12_chords_1 : decode cX12_chords 1 = .ok (.getfield 40, 3) := by decide +kernel
theorem dX12_chords_4 : decode cX12_chords 4 = .ok (.sipush 300, 3) := by decide +kernel
theorem dX12_chords_7 : decode cX12_chords 7 = .ok (.iconst 4, 1) := by decide +kernel
theorem dX12_chords_8 : decode cX12_chords 8 = .ok (.iload_n 1, 1) := by decide +kernel
theorem dX12_chords_9 : decode cX12_chords 9 = .ok (.imul, 1) := by decide +kernel
theorem dX12_chords_10 : decode cX12_chords 10 = .ok (.iadd, 1) := by decide +kernel
theorem dX12_chords_11 : decode cX12_chords 11 = .ok (.iconst 2, 1) := by decide +kernel
theorem dX12_chords_12 : decode cX12_chords 12 = .ok (.iadd, 1) := by decide +kernel
theorem dX12_chords_13 : decode cX12_chords 13 = .ok (.iaload, 1) := by decide +kernel
theorem dX12_chords_14 : decode cX12_chords 14 = .ok (.istore 4, 2) := by decide +kernel
theorem dX12_chords_16 : decode cX12_chords 16 = .ok (.aload_n 0, 1) := by decide +kernel
theorem dX12_chords_17 : decode cX12_chords 17 = .ok (.getfield 40, 3) := by decide +kernel
theorem dX12_chords_20 : decode cX12_chords 20 = .ok (.sipush 300, 3) := by decide +kernel
theorem dX12_chords_23 : decode cX12_chords 23 = .ok (.iconst 4, 1) := by decide +kernel
theorem dX12_chords_24 : decode cX12_chords 24 = .ok (.iload_n 1, 1) := by decide +kernel
theorem dX12_chords_25 : decode cX12_chords 25 = .ok (.imul, 1) := by decide +kernel
theorem dX12_chords_26 : decode cX12_chords 26 = .ok (.iadd, 1) := by decide +kernel
theorem dX12_chords_27 : decode cX12_chords 27 = .ok (.iconst 3, 1) := by decide +kernel
theorem dX12_chords_28 : decode cX12_chords 28 = .ok (.iadd, 1) := by decide +kernel
theorem dX12_chords_29 : decode cX12_chords 29 = .ok (.iaload, 1) := by decide +kernel
theorem dX12_chords_30 : decode cX12_chords 30 = .ok (.istore 5, 2) := by decide +kernel
theorem dX12_chords_32 : decode cX12_chords 32 = .ok (.iload 4, 2) := by decide +kernel
theorem dX12_chords_34 : decode cX12_chords 34 = .ok (.bipush 9, 2) := by decide +kernel
theorem dX12_chords_36 : decode cX12_chords 36 = .ok (.if_icmp .ne 10, 3) := by decide +kernel
theorem dX12_chords_39 : decode cX12_chords 39 = .ok (.aload_n 0, 1) := by decide +kernel
theorem dX12_chords_40 : decode cX12_chords 40 = .ok (.iload 5, 2) := by decide +kernel
theorem dX12_chords_42 : decode cX12_chords 42 = .ok (.invokevirtual 290, 3) := by decide +kernel
theorem dX12_chords_45 : decode cX12_chords 45 = .ok (.return_, 1) := by decide +kernel
theorem dX12_chords_46 : decode cX12_chords 46 = .ok (.aload_n 0, 1) := by decide +kernel
theorem dX12_chords_47 : decode cX12_chords 47 = .ok (.iload_n 2, 1) := by decide +kernel
theorem dX12_chords_48 : decode cX12_chords 48 = .ok (.iload 4, 2) := by decide +kernel
theorem dX12_chords_50 : decode cX12_chords 50 = .ok (.iload 5, 2) := by decide +kernel
theorem dX12_chords_52 : decode cX12_chords 52 = .ok (.invokevirtual 278, 3) := by decide +kernel
theorem dX12_chords_55 : decode cX12_chords 55 = .ok (.aload_n 0, 1) := by decide +kernel
theorem dX12_chords_56 : decode cX12_chords 56 = .ok (.iload_n 3, 1) := by decide +kernel
theorem dX12_chords_57 : decode cX12_chords 57 = .ok (.iload 4, 2) := by decide +kernel
theorem dX12_chords_59 : decode cX12_chords 59 = .ok (.iload 5, 2) := by decide +kernel
theorem dX12_chords_61 : decode cX12_chords 61 = .ok (.invokevirtual 278, 3) := by decide +kernel
theorem dX12_chords_64 : decode cX12_chords 64 = .ok (.aload_n 0, 1) := by decide +kernel
theorem dX12_chords_65 : decode cX12_chords 65 = .ok (.getfield 40, 3) := by decide +kernel
theorem dX12_chords_68 : decode cX12_chords 68 = .ok (.sipush 453, 3) := by decide +kernel
theorem dX12_chords_71 : decode cX12_chords 71 = .ok (.dup2, 1) := by decide +kernel
theorem dX12_chords_72 : decode cX12_chords 72 = .ok (.iaload, 1) := by decide +kernel
theorem dX12_chords_73 : decode cX12_chords 73 = .ok (.iconst 1, 1) := by decide +kernel
theorem dX12_chords_74 : decode cX12_chords 74 = .ok (.iload_n 1, 1) := by decide +kernel
theorem dX12_chords_75 : decode cX12_chords 75 = .ok (.ishl, 1) := by decide +kernel
theorem dX12_chords_76 : decode cX12_chords 76 = .ok (.ior, 1) := by decide +kernel
theorem dX12_chords_77 : decode cX12_chords 77 = .ok (.iastore, 1) := by decide +kernel
theorem dX12_chords_78 : decode cX12_chords 78 = .ok (.return_, 1) := by decide +kernel
def rmX12_chords : Room := { frames := 4, cells := 0, slots := 0, locals := 93 }
set_option maxRecDepth 100000 in
def fX12_chords (N : Nat) (g : Gs) (x0 : Nat) (x1 : Int32) (x2 : Int32) (x3 : Int32) (d : Ds) : Option (Unit × Ds) := gd (chk g x0 11) <| ob (gR g x0 17) fun r2 => (gd (chk g r2 102) <| gd (¬ ((((300 : Int32) + ((4 : Int32) * x1)) + 2) < 0 ∨ gL g r2 ≤ (((300 : Int32) + ((4 : Int32) * x1)) + 2).toNatClampNeg)) <| bd ((dI d r2 (((300 : Int32) + ((4 : Int32) * x1)) + 2).toNatClampNeg)) fun u5 => (gd (¬ ((((300 : Int32) + ((4 : Int32) * x1)) + 3) < 0 ∨ gL g r2 ≤ (((300 : Int32) + ((4 : Int32) * x1)) + 3).toNatClampNeg)) <| bd ((dI d r2 (((300 : Int32) + ((4 : Int32) * x1)) + 3).toNatClampNeg)) fun u7 => (if u5 = (9 : Int32) then (cv (fX12_plays N g x0 u7 d) fun d15 => (some ((), d15))) else (cv (fX12_begin N g x0 x2 u5 u7 d) fun d9 => (cv (fX12_begin N g x0 x3 u5 u7 d9) fun d11 => (gd (¬ ((453 : Int32) < 0 ∨ gL g r2 ≤ (453 : Int32).toNatClampNeg)) <| bd (sI d11 r2 (453 : Int32).toNatClampNeg ((dI d11 r2 (453 : Int32).toNatClampNeg) ||| ((1 : Int32) <<< (x1 &&& 31)))) fun d14 => (some ((), d14))))))))
set_option maxHeartbeats 4000000 in
set_option maxRecDepth 100000 in
theorem tX12_chords_E {p : Program} {l : Launch} {e : Env} {s : State} {m : MethodId} {args : Array Value} {below : List Frame} {meth : Method} {c : Code} {D : va_G} {cy : Nat → ClassId} {B : Bs} (C : Cx p s m args c cX12_chords 6 RX12 D cy B) (hr : meth.sig.returnType = none) (hlocks : meth.locks = false) {N : Nat} {g : Gs} {x0 : Nat} {x1 : Int32} {x2 : Int32} {x3 : Int32}  {dz : Ds} {d : Ds} (hf : fX12_chords N g x0 x1 x2 x3 d = some ((), dz)) : WB p l e rmX12_chords s m args below meth c 6 D cy B 0 0 (MQ below (QV D cy B g dz) args s 0 0 (wA B)) g d [(0, .ref (ad B x0)), (1, .int x1), (2, .int x2), (3, .int x3)] 0 [] := by
  unfold fX12_chords at hf
  refine b_aload_n C dX12_chords_0 0 rfl rfl ?_
  obtain ⟨h1, hf⟩ := gd_s hf
  obtain ⟨r2, er2, hf⟩ := ob_s hf
  refine b_gR C dX12_chords_1 fl_X12_40 h1 er2 ?_
  refine b_sipush C (v := 300) dX12_chords_4 (by decide) ?_
  refine b_iconst C (v := 4) dX12_chords_7 (by decide) ?_
  refine b_iload_n C dX12_chords_8 1 rfl rfl ?_
  refine b_imul C dX12_chords_9 ?_
  refine b_iadd C dX12_chords_10 ?_
  refine b_iconst C (v := 2) dX12_chords_11 (by decide) ?_
  refine b_iadd C dX12_chords_12 ?_
  obtain ⟨h3, hf⟩ := gd_s hf
  obtain ⟨h4, hf⟩ := gd_s hf
  refine b_iald C h3 h4 dX12_chords_13 ?_
  obtain ⟨u5, eu5, hf⟩ := bd_s hf
  refine b_topI eu5 ?_
  refine b_istore C dX12_chords_14 [(4, .int u5), (0, .ref (ad B x0)), (1, .int x1), (2, .int x2), (3, .int x3)] (by decide) rfl ?_
  refine b_aload_n C dX12_chords_16 1 rfl rfl ?_
  refine b_gR C dX12_chords_17 fl_X12_40 h1 er2 ?_
  refine b_sipush C (v := 300) dX12_chords_20 (by decide) ?_
  refine b_iconst C (v := 4) dX12_chords_23 (by decide) ?_
  refine b_iload_n C dX12_chords_24 2 rfl rfl ?_
  refine b_imul C dX12_chords_25 ?_
  refine b_iadd C dX12_chords_26 ?_
  refine b_iconst C (v := 3) dX12_chords_27 (by decide) ?_
  refine b_iadd C dX12_chords_28 ?_
  obtain ⟨h6, hf⟩ := gd_s hf
  refine b_iald C h3 h6 dX12_chords_29 ?_
  obtain ⟨u7, eu7, hf⟩ := bd_s hf
  refine b_topI eu7 ?_
  refine b_istore C dX12_chords_30 [(5, .int u7), (4, .int u5), (0, .ref (ad B x0)), (1, .int x1), (2, .int x2), (3, .int x3)] (by decide) rfl ?_
  refine b_iload C dX12_chords_32 1 rfl ?_
  refine b_bipush C (v := 9) dX12_chords_34 (by decide) ?_
  refine b_icmp_ne C (tgt := 46) dX12_chords_36 (by decide) (fun c8 => ?_) (fun c8 => ?_)
  · have hf := if_s c8 hf
    refine b_aload_n C dX12_chords_46 2 rfl rfl ?_
    refine b_iload_n C dX12_chords_47 4 rfl rfl ?_
    refine b_iload C dX12_chords_48 1 rfl ?_
    refine b_iload C dX12_chords_50 0 rfl ?_
    obtain ⟨d9, k10, hf⟩ := cv_s hf
    refine b_cVN C [] dX12_chords_52 (kX12_begin l D cy B k10) lv_X12_278 ⟨rfl, rfl, Nat.le_of_ble_eq_true rfl, Nat.le_of_ble_eq_true rfl⟩ h1 (by decide) rfl (Nat.le_of_ble_eq_true rfl) ⟨Nat.zero_le _, Nat.zero_le _⟩ rfl ?_
    refine b_aload_n C dX12_chords_55 2 rfl rfl ?_
    refine b_iload_n C dX12_chords_56 5 rfl rfl ?_
    refine b_iload C dX12_chords_57 1 rfl ?_
    refine b_iload C dX12_chords_59 0 rfl ?_
    obtain ⟨d11, k12, hf⟩ := cv_s hf
    refine b_cVN C [] dX12_chords_61 (kX12_begin l D cy B k12) lv_X12_278 ⟨rfl, rfl, Nat.le_of_ble_eq_true rfl, Nat.le_of_ble_eq_true rfl⟩ h1 (by decide) rfl (Nat.le_of_ble_eq_true rfl) ⟨Nat.zero_le _, Nat.zero_le _⟩ rfl ?_
    refine b_aload_n C dX12_chords_64 2 rfl rfl ?_
    refine b_gR C dX12_chords_65 fl_X12_40 h1 er2 ?_
    refine b_sipush C (v := 453) dX12_chords_68 (by decide) ?_
    refine b_dup2 C dX12_chords_71 rfl rfl ?_
    obtain ⟨h13, hf⟩ := gd_s hf
    refine b_iald C h3 h13 dX12_chords_72 ?_
    refine b_iconst C (v := 1) dX12_chords_73 (by decide) ?_
    refine b_iload_n C dX12_chords_74 3 rfl rfl ?_
    refine b_ishl C dX12_chords_75 ?_
    refine b_ior C dX12_chords_76 ?_
    obtain ⟨d14, ed14, hf⟩ := bd_s hf
    refine b_iast C h3 h13 ed14 dX12_chords_77 ?_
    exact b_vret C hr hlocks hf dX12_chords_78
  · have hf := it_s c8 hf
    refine b_aload_n C dX12_chords_39 2 rfl rfl ?_
    refine b_iload C dX12_chords_40 0 rfl ?_
    obtain ⟨d15, k16, hf⟩ := cv_s hf
    refine b_cVN C [] dX12_chords_42 (kX12_plays l D cy B k16) lv_X12_290 ⟨rfl, rfl, Nat.le_of_ble_eq_true rfl, Nat.le_of_ble_eq_true rfl⟩ h1 (by decide) rfl (Nat.le_of_ble_eq_true rfl) ⟨Nat.zero_le _, Nat.zero_le _⟩ rfl ?_
    exact b_vret C hr hlocks hf dX12_chords_45
theorem kX12_chords (l : Launch) (D : va_G) (cy : Nat → ClassId) (B : Bs) {N : Nat} {g : Gs} {x0 : Nat} {x1 : Int32} {x2 : Int32} {x3 : Int32}  {dz : Ds} {d : Ds} (hf : fX12_chords N g x0 x1 x2 x3 d = some ((), dz)) : Met l yX12_chords (.code yX12_chords cX12_chords 6 none :: wl) rmX12_chords (PC D cy B [.ref (ad B x0), .int x1, .int x2, .int x3] g d) (QV D cy B g dz) 0 0 (wA B) :=
  met_of (by decide +kernel) (Nat.le_of_ble_eq_true rfl) (fun p e s m args below meth c C hr hlocks _ => b_sub [(0, .ref (ad B x0)), (1, .int x1), (2, .int x2), (3, .int x3)] [0, 1, 2, 3] rfl (tX12_chords_E C hr hlocks hf))
/-! KeyMatrixModel.activeLayers()I -/
theorem dX12_activeLayers_0 : decode cX12_activeLayers 0 = .ok (.iconst 1, 1) := by decide +kernel
theorem dX12_activeLayers_1 : decode cX12_activeLayers 1 = .ok (.aload_n 0, 1) := by decide +kernel
theorem dX12_activeLayers_2 : decode cX12_activeLayers 2 = .ok (.getfield 40, 3) := by decide +kernel
theorem dX12_activeLayers_5 : decode cX12_activeLayers 5 = .ok (.sipush 452, 3) := by decide +kernel
theorem dX12_activeLayers_8 : decode cX12_activeLayers 8 = .ok (.iaload, 1) := by decide +kernel
theorem dX12_activeLayers_9 : decode cX12_activeLayers 9 = .ok (.ior, 1) := by decide +kernel
theorem dX12_activeLayers_10 : decode cX12_activeLayers 10 = .ok (.istore_n 1, 1) := by decide +kernel
theorem dX12_activeLayers_11 : decode cX12_activeLayers 11 = .ok (.iconst 0, 1) := by decide +kernel
theorem dX12_activeLayers_12 : decode cX12_activeLayers 12 = .ok (.istore_n 2, 1) := by decide +kernel
theorem dX12_activeLayers_13 : decode cX12_activeLayers 13 = .ok (.iload_n 2, 1) := by decide +kernel
theorem dX12_activeLayers_14 : decode cX12_activeLayers 14 = .ok (.bipush 24, 2) := by decide +kernel
theorem dX12_activeLayers_16 : decode cX12_activeLayers 16 = .ok (.if_icmp .ge 44, 3) := by decide +kernel
theorem dX12_activeLayers_19 : decode cX12_activeLayers 19 = .ok (.aload_n 0, 1) := by decide +kernel
theorem dX12_activeLayers_20 : decode cX12_activeLayers 20 = .ok (.getfield 40, 3) := by decide +kernel
theorem dX12_activeLayers_23 : decode cX12_activeLayers 23 = .ok (.sipush 379, 3) := by decide +kernel
theorem dX12_activeLayers_26 : decode cX12_activeLayers 26 = .ok (.iconst 3, 1) := by decide +kernel
theorem dX12_activeLayers_27 : decode cX12_activeLayers 27 = .ok (.iload_n 2, 1) := by decide +kernel
theorem dX12_activeLayers_28 : decode cX12_activeLayers 28 = .ok (.imul, 1) := by decide +kernel
theorem dX12_activeLayers_29 : decode cX12_activeLayers 29 = .ok (.iadd, 1) := by decide +kernel
theorem dX12_activeLayers_30 : decode cX12_activeLayers 30 = .ok (.iaload, 1) := by decide +kernel
theorem dX12_activeLayers_31 : decode cX12_activeLayers 31 = .ok (.iconst 2, 1) := by decide +kernel
theorem dX12_activeLayers_32 : decode cX12_activeLayers 32 = .ok (.if_icmp .ne 22, 3) := by decide +kernel
theorem dX12_activeLayers_35 : decode cX12_activeLayers 35 = .ok (.iload_n 1, 1) := by decide +kernel
theorem dX12_activeLayers_36 : decode cX12_activeLayers 36 = .ok (.iconst 1, 1) := by decide +kernel
theorem dX12_activeLayers_37 : decode cX12_activeLayers 37 = .ok (.aload_n 0, 1) := by decide +kernel
theorem dX12_activeLayers_38 : decode cX12_activeLayers 38 = .ok (.getfield 40, 3) := by decide +kernel
theorem dX12_activeLayers_41 : decode cX12_activeLayers 41 = .ok (.sipush 379, 3) := by decide +kernel
theorem dX12_activeLayers_44 : decode cX12_activeLayers 44 = .ok (.iconst 3, 1) := by decide +kernel
theorem dX12_activeLayers_45 : decode cX12_activeLayers 45 = .ok (.iload_n 2, 1) := by decide +kernel
theorem dX12_activeLayers_46 : decode cX12_activeLayers 46 = .ok (.imul, 1) := by decide +kernel
theorem dX12_activeLayers_47 : decode cX12_activeLayers 47 = .ok (.iadd, 1) := by decide +kernel
theorem dX12_activeLayers_48 : decode cX12_activeLayers 48 = .ok (.iconst 1, 1) := by decide +kernel
theorem dX12_activeLayers_49 : decode cX12_activeLayers 49 = .ok (.iadd, 1) := by decide +kernel
theorem dX12_activeLayers_50 : decode cX12_activeLayers 50 = .ok (.iaload, 1) := by decide +kernel
theorem dX12_activeLayers_51 : decode cX12_activeLayers 51 = .ok (.ishl, 1) := by decide +kernel
theorem dX12_activeLayers_52 : decode cX12_activeLayers 52 = .ok (.ior, 1) := by decide +kernel
theorem dX12_activeLayers_53 : decode cX12_activeLayers 53 = .ok (.istore_n 1, 1) := by decide +kernel
theorem dX12_activeLayers_54 : decode cX12_activeLayers 54 = .ok (.iinc 2 1, 3) := by decide +kernel
theorem dX12_activeLayers_57 : decode cX12_activeLayers 57 = .ok (.goto (-44), 3) := by decide +kernel
theorem dX12_activeLayers_60 : decode cX12_activeLayers 60 = .ok (.iload_n 1, 1) := by decide +kernel
theorem dX12_activeLayers_61 : decode cX12_activeLayers 61 = .ok (.ireturn, 1) := by decide +kernel
def rmX12_activeLayers : Room := { frames := 0, cells := 0, slots := 0, locals := 0 }
set_option maxRecDepth 100000 in
def fX12_activeLayers_J54 (N : Nat) (g : Gs) (x0 : Nat) (K13 : Int32 × Int32 × Ds → Option (Int32 × Ds)) (y1 : Int32) (y2 : Int32) (d : Ds) : Option (Int32 × Ds) := bd (y2 + 1) fun u12 => (K13 (y1, u12, d))
set_option maxHeartbeats 4000000 in
set_option maxRecDepth 100000 in
theorem tX12_activeLayers_54 {p : Program} {l : Launch} {e : Env} {s : State} {m : MethodId} {args : Array Value} {below : List Frame} {meth : Method} {c : Code} {D : va_G} {cy : Nat → ClassId} {B : Bs} (C : Cx p s m args c cX12_activeLayers 3 RX12 D cy B) (hr : meth.sig.returnType = (some .int)) (hlocks : meth.locks = false) {N : Nat} {g : Gs} {x0 : Nat} {vz : Int32} {dz : Ds} {K13 : Int32 × Int32 × Ds → Option (Int32 × Ds)} (hK13 : ∀ a, K13 a = some (vz, dz) → WB p l e rmX12_activeLayers s m args below meth c 3 D cy B 0 0 (MQ below (QI D cy B vz g dz) args s 0 0 (wA B)) g a.2.2 [(0, .ref (ad B x0)), (1, .int a.1), (2, .int a.2.1)] 13 []) {y1 : Int32} {y2 : Int32} {d : Ds} (hf : fX12_activeLayers_J54 N g x0 K13 y1 y2 d = some (vz, dz)) : WB p l e rmX12_activeLayers s m args below meth c 3 D cy B 0 0 (MQ below (QI D cy B vz g dz) args s 0 0 (wA B)) g d [(0, .ref (ad B x0)), (1, .int y1), (2, .int y2)] 54 [] := by
  unfold fX12_activeLayers_J54 at hf
  obtain ⟨u12, eu12, hf⟩ := bd_s hf
  refine b_iinc C dX12_activeLayers_54 2 rfl (by rw [eu12]; rfl) [(2, .int u12), (0, .ref (ad B x0)), (1, .int y1)] (by decide) rfl ?_
  refine b_goto C (tgt := 13) dX12_activeLayers_57 (by decide) ?_
  refine b_sub [(0, .ref (ad B x0)), (1, .int y1), (2, .int u12)] [1, 2, 0] rfl ?_
  exact hK13 (y1, u12, d) hf
set_option maxRecDepth 100000 in
def fX12_activeLayers_B13 (N : Nat) (g : Gs) (x0 : Nat) (K13 : Int32 × Int32 × Ds → Option (Int32 × Ds)) (y1 : Int32) (y2 : Int32) (d : Ds) : Option (Int32 × Ds) := if (24 : Int32) ≤ y2 then (some (y1, d)) else (gd (chk g x0 11) <| ob (gR g x0 17) fun r8 => (gd (chk g r8 102) <| gd (¬ (((379 : Int32) + ((3 : Int32) * y2)) < 0 ∨ gL g r8 ≤ ((379 : Int32) + ((3 : Int32) * y2)).toNatClampNeg)) <| if (dI d r8 ((379 : Int32) + ((3 : Int32) * y2)).toNatClampNeg) = (2 : Int32) then (gd (¬ ((((379 : Int32) + ((3 : Int32) * y2)) + 1) < 0 ∨ gL g r8 ≤ (((379 : Int32) + ((3 : Int32) * y2)) + 1).toNatClampNeg)) <| bd ((1 : Int32) <<< ((dI d r8 (((379 : Int32) + ((3 : Int32) * y2)) + 1).toNatClampNeg) &&& 31)) fun u14 => (bd ((y1 ||| u14)) fun u15 => (fX12_activeLayers_J54 N g x0 K13 u15 y2 d))) else (fX12_activeLayers_J54 N g x0 K13 y1 y2 d)))
set_option maxHeartbeats 4000000 in
set_option maxRecDepth 100000 in
theorem tX12_activeLayers_13 {p : Program} {l : Launch} {e : Env} {s : State} {m : MethodId} {args : Array Value} {below : List Frame} {meth : Method} {c : Code} {D : va_G} {cy : Nat → ClassId} {B : Bs} (C : Cx p s m args c cX12_activeLayers 3 RX12 D cy B) (hr : meth.sig.returnType = (some .int)) (hlocks : meth.locks = false) {N : Nat} {g : Gs} {x0 : Nat} {vz : Int32} {dz : Ds} {K13 : Int32 × Int32 × Ds → Option (Int32 × Ds)} (hK13 : ∀ a, K13 a = some (vz, dz) → WB p l e rmX12_activeLayers s m args below meth c 3 D cy B 0 0 (MQ below (QI D cy B vz g dz) args s 0 0 (wA B)) g a.2.2 [(0, .ref (ad B x0)), (1, .int a.1), (2, .int a.2.1)] 13 []) {y1 : Int32} {y2 : Int32} {d : Ds} (hf : fX12_activeLayers_B13 N g x0 K13 y1 y2 d = some (vz, dz)) : WB p l e rmX12_activeLayers s m args below meth c 3 D cy B 0 0 (MQ below (QI D cy B vz g dz) args s 0 0 (wA B)) g d [(0, .ref (ad B x0)), (1, .int y1), (2, .int y2)] 13 [] := by
  unfold fX12_activeLayers_B13 at hf
  refine b_iload_n C dX12_activeLayers_13 2 rfl rfl ?_
  refine b_bipush C (v := 24) dX12_activeLayers_14 (by decide) ?_
  refine b_icmp_ge C (tgt := 60) dX12_activeLayers_16 (by decide) (fun c6 => ?_) (fun c6 => ?_)
  · have hf := it_s c6 hf
    refine b_iload_n C dX12_activeLayers_60 1 rfl rfl ?_
    exact b_iret C hr hlocks hf dX12_activeLayers_61
  · have hf := if_s c6 hf
    refine b_aload_n C dX12_activeLayers_19 0 rfl rfl ?_
    obtain ⟨h7, hf⟩ := gd_s hf
    obtain ⟨r8, er8, hf⟩ := ob_s hf
    refine b_gR C dX12_activeLayers_20 fl_X12_40 h7 er8 ?_
    refine b_sipush C (v := 379) dX12_activeLayers_23 (by decide) ?_
    refine b_iconst C (v := 3) dX12_activeLayers_26 (by decide) ?_
    refine b_iload_n C dX12_activeLayers_27 2 rfl rfl ?_
    refine b_imul C dX12_activeLayers_28 ?_
    refine b_iadd C dX12_activeLayers_29 ?_
    obtain ⟨h9, hf⟩ := gd_s hf
    obtain ⟨h10, hf⟩ := gd_s hf
    refine b_iald C h9 h10 dX12_activeLayers_30 ?_
    refine b_iconst C (v := 2) dX12_activeLayers_31 (by decide) ?_
    refine b_icmp_ne C (tgt := 54) dX12_activeLayers_32 (by decide) (fun c11 => ?_) (fun c11 => ?_)
    · have hf := if_s c11 hf
      refine b_sub [(0, .ref (ad B x0)), (1, .int y1), (2, .int y2)] [0, 1, 2] rfl ?_
      exact tX12_activeLayers_54 C hr hlocks hK13 hf
    · have hf := it_s c11 hf
      refine b_iload_n C dX12_activeLayers_35 1 rfl rfl ?_
      refine b_iconst C (v := 1) dX12_activeLayers_36 (by decide) ?_
      refine b_aload_n C dX12_activeLayers_37 0 rfl rfl ?_
      refine b_gR C dX12_activeLayers_38 fl_X12_40 h7 er8 ?_
      refine b_sipush C (v := 379) dX12_activeLayers_41 (by decide) ?_
      refine b_iconst C (v := 3) dX12_activeLayers_44 (by decide) ?_
      refine b_iload_n C dX12_activeLayers_45 2 rfl rfl ?_
      refine b_imul C dX12_activeLayers_46 ?_
      refine b_iadd C dX12_activeLayers_47 ?_
      refine b_iconst C (v := 1) dX12_activeLayers_48 (by decide) ?_
      refine b_iadd C dX12_activeLayers_49 ?_
      obtain ⟨h13, hf⟩ := gd_s hf
      refine b_iald C h9 h13 dX12_activeLayers_50 ?_
      refine b_ishl C dX12_activeLayers_51 ?_
      obtain ⟨u14, eu14, hf⟩ := bd_s hf
      refine b_topI eu14 ?_
      refine b_ior C dX12_activeLayers_52 ?_
      obtain ⟨u15, eu15, hf⟩ := bd_s hf
      refine b_topI eu15 ?_
      refine b_istore_n C dX12_activeLayers_53 rfl [(1, .int u15), (0, .ref (ad B x0)), (2, .int y2)] (by decide) rfl ?_
      refine b_sub [(0, .ref (ad B x0)), (1, .int u15), (2, .int y2)] [1, 0, 2] rfl ?_
      exact tX12_activeLayers_54 C hr hlocks hK13 hf
def fX12_activeLayers_L13 (N : Nat) (g : Gs) (x0 : Nat) : Int32 × Int32 × Ds → Option (Int32 × Ds) := lp (fun K13 a => fX12_activeLayers_B13 N g x0 K13 a.1 a.2.1 a.2.2) N
theorem tX12_activeLayers_L13 {p : Program} {l : Launch} {e : Env} {s : State} {m : MethodId} {args : Array Value} {below : List Frame} {meth : Method} {c : Code} {D : va_G} {cy : Nat → ClassId} {B : Bs} (C : Cx p s m args c cX12_activeLayers 3 RX12 D cy B) (hr : meth.sig.returnType = (some .int)) (hlocks : meth.locks = false) {N : Nat} {g : Gs} {x0 : Nat} {vz : Int32} {dz : Ds} (a : Int32 × Int32 × Ds) (hf : fX12_activeLayers_L13 N g x0 a = some (vz, dz)) : WB p l e rmX12_activeLayers s m args below meth c 3 D cy B 0 0 (MQ below (QI D cy B vz g dz) args s 0 0 (wA B)) g a.2.2 [(0, .ref (ad B x0)), (1, .int a.1), (2, .int a.2.1)] 13 [] :=
  lp_w (fun K13 hK13 a ha => tX12_activeLayers_13 C hr hlocks hK13 ha) N a hf
set_option maxRecDepth 100000 in
def fX12_activeLayers (N : Nat) (g : Gs) (x0 : Nat) (d : Ds) : Option (Int32 × Ds) := gd (chk g x0 11) <| ob (gR g x0 17) fun r2 => (gd (chk g r2 102) <| gd (¬ ((452 : Int32) < 0 ∨ gL g r2 ≤ (452 : Int32).toNatClampNeg)) <| bd (((1 : Int32) ||| (dI d r2 (452 : Int32).toNatClampNeg))) fun u5 => (fX12_activeLayers_L13 N g x0 (u5, 0, d)))
set_option maxHeartbeats 4000000 in
set_option maxRecDepth 100000 in
theorem tX12_activeLayers_E {p : Program} {l : Launch} {e : Env} {s : State} {m : MethodId} {args : Array Value} {below : List Frame} {meth : Method} {c : Code} {D : va_G} {cy : Nat → ClassId} {B : Bs} (C : Cx p s m args c cX12_activeLayers 3 RX12 D cy B) (hr : meth.sig.returnType = (some .int)) (hlocks : meth.locks = false) {N : Nat} {g : Gs} {x0 : Nat} {vz : Int32} {dz : Ds} {d : Ds} (hf : fX12_activeLayers N g x0 d = some (vz, dz)) : WB p l e rmX12_activeLayers s m args below meth c 3 D cy B 0 0 (MQ below (QI D cy B vz g dz) args s 0 0 (wA B)) g d [(0, .ref (ad B x0))] 0 [] := by
  unfold fX12_activeLayers at hf
  refine b_iconst C (v := 1) dX12_activeLayers_0 (by decide) ?_
  refine b_aload_n C dX12_activeLayers_1 0 rfl rfl ?_
  obtain ⟨h1, hf⟩ := gd_s hf
  obtain ⟨r2, er2, hf⟩ := ob_s hf
  refine b_gR C dX12_activeLayers_2 fl_X12_40 h1 er2 ?_
  refine b_sipush C (v := 452) dX12_activeLayers_5 (by decide) ?_
  obtain ⟨h3, hf⟩ := gd_s hf
  obtain ⟨h4, hf⟩ := gd_s hf
  refine b_iald C h3 h4 dX12_activeLayers_8 ?_
  refine b_ior C dX12_activeLayers_9 ?_
  obtain ⟨u5, eu5, hf⟩ := bd_s hf
  refine b_topI eu5 ?_
  refine b_istore_n C dX12_activeLayers_10 rfl [(1, .int u5), (0, .ref (ad B x0))] (by decide) rfl ?_
  refine b_iconst C (v := 0) dX12_activeLayers_11 (by decide) ?_
  refine b_istore_n C dX12_activeLayers_12 rfl [(2, .int 0), (1, .int u5), (0, .ref (ad B x0))] (by decide) rfl ?_
  refine b_sub [(0, .ref (ad B x0)), (1, .int u5), (2, .int 0)] [2, 1, 0] rfl ?_
  exact tX12_activeLayers_L13 C hr hlocks (u5, 0, d) hf
theorem kX12_activeLayers (l : Launch) (D : va_G) (cy : Nat → ClassId) (B : Bs) {N : Nat} {g : Gs} {x0 : Nat} {vz : Int32} {dz : Ds} {d : Ds} (hf : fX12_activeLayers N g x0 d = some (vz, dz)) : Met l yX12_activeLayers (.code yX12_activeLayers cX12_activeLayers 3 (some .int) :: wl) rmX12_activeLayers (PC D cy B [.ref (ad B x0)] g d) (QI D cy B vz g dz) 0 0 (wA B) :=
  met_of (by decide +kernel) (Nat.le_of_ble_eq_true rfl) (fun p e s m args below meth c C hr hlocks _ => b_sub [(0, .ref (ad B x0))] [0] rfl (tX12_activeLayers_E C hr hlocks hf))
/-! KeyMatrixModel.layerOf(I)I -/
theorem yo_X12_activeLayers : yX12_activeLayers.cls ≠ "java/lang/invoke/MethodHandle" ∧ yX12_activeLayers.cls ≠ "java/lang/invoke/VarHandle" ∧ (parseMethodDescriptor yX12_activeLayers.desc).map (fun d => d.parameters.length) = some 0 := by decide +kernel
theorem co_X12_activeLayers : Cond.code yX12_activeLayers cX12_activeLayers 3 (some .int) ∈ wl := mW (mT6 (List.mem_of_getElem? (i := 111) (by decide +kernel))) rfl
theorem in_X12_activeLayers : Cond.initialized yX12_activeLayers.cls ∈ wl := mW (mT1 (List.mem_of_getElem? (i := 12) (by decide +kernel))) rfl
theorem im_X12_activeLayers : Cond.instanceMethod yX12_activeLayers ∈ wl := mW (mT6 (List.mem_of_getElem? (i := 110) (by decide +kernel))) rfl
theorem se_X12_activeLayers : Cond.selects yX12_activeLayers.cls yX12_activeLayers yX12_activeLayers ∈ wl := mW (mT0 (List.mem_of_getElem? (i := 60) (by decide +kernel))) rfl
theorem lv_X12_296 : LV RX12 296 yX12_activeLayers cX12_activeLayers 3 (some .int) 0 11 := ⟨⟨(RX12, TX12, 33), rfl, rfl⟩, yo_X12_activeLayers, mW (mT6 (List.mem_of_getElem? (i := 108) (by decide +kernel))) rfl, im_X12_activeLayers, se_X12_activeLayers, in_X12_activeLayers, co_X12_activeLayers⟩
theorem dX12_layerOf_0 : decode cX12_layerOf 0 = .ok (.aload_n 0, 1) := by decide +kernel
theorem dX12_layerOf_1 : decode cX12_layerOf 1 = .ok (.invokevirtual 296, 3) := by decide +kernel
theorem dX12_layerOf_4 : decode cX12_layerOf 4 = .ok (.istore_n 2, 1) := by decide +kernel
theorem dX12_layerOf_5 : decode cX12_layerOf 5 = .ok (.iconst 3, 1) := by decide +kernel
theorem dX12_layerOf_6 : decode cX12_layerOf 6 = .ok (.istore_n 3, 1) := by decide +kernel
theorem dX12_layerOf_7 : decode cX12_layerOf 7 = .ok (.iload_n 3, 1) := by decide +kernel
theorem dX12_layerOf_8 : decode cX12_layerOf 8 = .ok (.ifCond .le 39, 3) := by decide +kernel
theorem dX12_layerOf_11 : decode cX12_layerOf 11 = .ok (.iload_n 2, 1) := by decide +kernel
theorem dX12_layerOf_12 : decode cX12_layerOf 12 = .ok (.iload_n 3, 1) := by decide +kernel
theorem dX12_layerOf_13 : decode cX12_layerOf 13 = .ok (.invokestatic 210, 3) := by decide +kernel
theorem dX12_layerOf_16 : decode cX12_layerOf 16 = .ok (.ifCond .eq 25, 3) := by decide +kernel
theorem dX12_layerOf_19 : decode cX12_layerOf 19 = .ok (.aload_n 0, 1) := by decide +kernel
theorem dX12_layerOf_20 : decode cX12_layerOf 20 = .ok (.getfield 40, 3) := by decide +kernel
theorem dX12_layerOf_23 : decode cX12_layerOf 23 = .ok (.bipush 12, 2) := by decide +kernel
theorem dX12_layerOf_25 : decode cX12_layerOf 25 = .ok (.iconst 3, 1) := by decide +kernel
theorem dX12_layerOf_26 : decode cX12_layerOf 26 = .ok (.bipush 24, 2) := by decide +kernel
theorem dX12_layerOf_28 : decode cX12_layerOf 28 = .ok (.iload_n 3, 1) := by decide +kernel
theorem dX12_layerOf_29 : decode cX12_layerOf 29 = .ok (.imul, 1) := by decide +kernel
theorem dX12_layerOf_30 : decode cX12_layerOf 30 = .ok (.iload_n 1, 1) := by decide +kernel
theorem dX12_layerOf_31 : decode cX12_layerOf 31 = .ok (.iadd, 1) := by decide +kernel
theorem dX12_layerOf_32 : decode cX12_layerOf 32 = .ok (.imul, 1) := by decide +kernel
theorem dX12_layerOf_33 : decode cX12_layerOf 33 = .ok (.iadd, 1) := by decide +kernel
theorem dX12_layerOf_34 : decode cX12_layerOf 34 = .ok (.iaload, 1) := by decide +kernel
theorem dX12_layerOf_35 : decode cX12_layerOf 35 = .ok (.iconst 5, 1) := by decide +kernel
theorem dX12_layerOf_36 : decode cX12_layerOf 36 = .ok (.if_icmp .eq 5, 3) := by decide +kernel
theorem dX12_layerOf_39 : decode cX12_layerOf 39 = .ok (.iload_n 3, 1) := by decide +kernel
theorem dX12_layerOf_40 : decode cX12_layerOf 40 = .ok (.ireturn, 1) := by decide +kernel
theorem dX12_layerOf_41 : decode cX12_layerOf 41 = .ok (.iinc 3 (-1), 3) := by decide +kernel
theorem dX12_layerOf_44 : decode cX12_layerOf 44 = .ok (.goto (-37), 3) := by decide +kernel
theorem dX12_layerOf_47 : decode cX12_layerOf 47 = .ok (.iconst 0, 1) := by decide +kernel
theorem dX12_layerOf_48 : decode cX12_layerOf 48 = .ok (.ireturn, 1) := by decide +kernel
def rmX12_layerOf : Room := { frames := 1, cells := 0, slots := 0, locals := 22 }
set_option maxRecDepth 100000 in
def fX12_layerOf_J41 (N : Nat) (g : Gs) (x0 : Nat) (x1 : Int32) (K7 : Int32 × Int32 × Ds → Option (Int32 × Ds)) (y2 : Int32) (y3 : Int32) (d : Ds) : Option (Int32 × Ds) := bd (y3 + (-1)) fun u10 => (K7 (y2, u10, d))
set_option maxHeartbeats 4000000 in
set_option maxRecDepth 100000 in
theorem tX12_layerOf_41 {p : Program} {l : Launch} {e : Env} {s : State} {m : MethodId} {args : Array Value} {below : List Frame} {meth : Method} {c : Code} {D : va_G} {cy : Nat → ClassId} {B : Bs} (C : Cx p s m args c cX12_layerOf 4 RX12 D cy B) (hr : meth.sig.returnType = (some .int)) (hlocks : meth.locks = false) {N : Nat} {g : Gs} {x0 : Nat} {x1 : Int32} {vz : Int32} {dz : Ds} {K7 : Int32 × Int32 × Ds → Option (Int32 × Ds)} (hK7 : ∀ a, K7 a = some (vz, dz) → WB p l e rmX12_layerOf s m args below meth c 4 D cy B 0 0 (MQ below (QI D cy B vz g dz) args s 0 0 (wA B)) g a.2.2 [(0, .ref (ad B x0)), (1, .int x1), (2, .int a.1), (3, .int a.2.1)] 7 []) {y2 : Int32} {y3 : Int32} {d : Ds} (hf : fX12_layerOf_J41 N g x0 x1 K7 y2 y3 d = some (vz, dz)) : WB p l e rmX12_layerOf s m args below meth c 4 D cy B 0 0 (MQ below (QI D cy B vz g dz) args s 0 0 (wA B)) g d [(0, .ref (ad B x0)), (1, .int x1), (2, .int y2), (3, .int y3)] 41 [] := by
  unfold fX12_layerOf_J41 at hf
  obtain ⟨u10, eu10, hf⟩ := bd_s hf
  refine b_iinc C dX12_layerOf_41 3 rfl (by rw [eu10]; rfl) [(3, .int u10), (0, .ref (ad B x0)), (1, .int x1), (2, .int y2)] (by decide) rfl ?_
  refine b_goto C (tgt := 7) dX12_layerOf_44 (by decide) ?_
  refine b_sub [(0, .ref (ad B x0)), (1, .int x1), (2, .int y2), (3, .int u10)] [1, 2, 3, 0] rfl ?_
  exact hK7 (y2, u10, d) hf
set_option maxRecDepth 100000 in
def fX12_layerOf_B7 (N : Nat) (g : Gs) (x0 : Nat) (x1 : Int32) (K7 : Int32 × Int32 × Ds → Option (Int32 × Ds)) (y2 : Int32) (y3 : Int32) (d : Ds) : Option (Int32 × Ds) := if y3 ≤ 0 then (some (0, d)) else (cb (fX12_has N g y2 y3 d) fun u8 d6 => (if u8 = 0 then (fX12_layerOf_J41 N g x0 x1 K7 y2 y3 d6) else (gd (chk g x0 11) <| ob (gR g x0 17) fun r12 => (gd (chk g r12 102) <| gd (¬ (((12 : Int32) + ((3 : Int32) * (((24 : Int32) * y3) + x1))) < 0 ∨ gL g r12 ≤ ((12 : Int32) + ((3 : Int32) * (((24 : Int32) * y3) + x1))).toNatClampNeg)) <| if (dI d6 r12 ((12 : Int32) + ((3 : Int32) * (((24 : Int32) * y3) + x1))).toNatClampNeg) = (5 : Int32) then (fX12_layerOf_J41 N g x0 x1 K7 y2 y3 d6) else (some (y3, d6))))))
set_option maxHeartbeats 4000000 in
set_option maxRecDepth 100000 in
theorem tX12_layerOf_7 {p : Program} {l : Launch} {e : Env} {s : State} {m : MethodId} {args : Array Value} {below : List Frame} {meth : Method} {c : Code} {D : va_G} {cy : Nat → ClassId} {B : Bs} (C : Cx p s m args c cX12_layerOf 4 RX12 D cy B) (hr : meth.sig.returnType = (some .int)) (hlocks : meth.locks = false) {N : Nat} {g : Gs} {x0 : Nat} {x1 : Int32} {vz : Int32} {dz : Ds} {K7 : Int32 × Int32 × Ds → Option (Int32 × Ds)} (hK7 : ∀ a, K7 a = some (vz, dz) → WB p l e rmX12_layerOf s m args below meth c 4 D cy B 0 0 (MQ below (QI D cy B vz g dz) args s 0 0 (wA B)) g a.2.2 [(0, .ref (ad B x0)), (1, .int x1), (2, .int a.1), (3, .int a.2.1)] 7 []) {y2 : Int32} {y3 : Int32} {d : Ds} (hf : fX12_layerOf_B7 N g x0 x1 K7 y2 y3 d = some (vz, dz)) : WB p l e rmX12_layerOf s m args below meth c 4 D cy B 0 0 (MQ below (QI D cy B vz g dz) args s 0 0 (wA B)) g d [(0, .ref (ad B x0)), (1, .int x1), (2, .int y2), (3, .int y3)] 7 [] := by
  unfold fX12_layerOf_B7 at hf
  refine b_iload_n C dX12_layerOf_7 3 rfl rfl ?_
  refine b_if_le C (tgt := 47) dX12_layerOf_8 (by decide) (fun c5 => ?_) (fun c5 => ?_)
  · have hf := it_s c5 hf
    refine b_iconst C (v := 0) dX12_layerOf_47 (by decide) ?_
    exact b_iret C hr hlocks hf dX12_layerOf_48
  · have hf := if_s c5 hf
    refine b_iload_n C dX12_layerOf_11 2 rfl rfl ?_
    refine b_iload_n C dX12_layerOf_12 3 rfl rfl ?_
    obtain ⟨u8, d6, k7, hf⟩ := cb_s hf
    refine b_cSI C [] dX12_layerOf_13 (kX12_has l D cy B k7) lv_X12_210 ⟨rfl, rfl, Nat.le_of_ble_eq_true rfl, Nat.le_of_ble_eq_true rfl⟩ rfl (Nat.le_of_ble_eq_true rfl) ⟨Nat.zero_le _, Nat.zero_le _⟩ rfl ?_
    refine b_if_eq C (tgt := 41) dX12_layerOf_16 (by decide) (fun c9 => ?_) (fun c9 => ?_)
    · have hf := it_s c9 hf
      refine b_sub [(0, .ref (ad B x0)), (1, .int x1), (2, .int y2), (3, .int y3)] [0, 1, 2, 3] rfl ?_
      exact tX12_layerOf_41 C hr hlocks hK7 hf
    · have hf := if_s c9 hf
      refine b_aload_n C dX12_layerOf_19 0 rfl rfl ?_
      obtain ⟨h11, hf⟩ := gd_s hf
      obtain ⟨r12, er12, hf⟩ := ob_s hf
      refine b_gR C dX12_layerOf_20 fl_X12_40 h11 er12 ?_
      refine b_bipush C (v := 12) dX12_layerOf_23 (by decide) ?_
      refine b_iconst C (v := 3) dX12_layerOf_25 (by decide) ?_
      refine b_bipush C (v := 24) dX12_layerOf_26 (by decide) ?_
      refine b_iload_n C dX12_layerOf_28 3 rfl rfl ?_
      refine b_imul C dX12_layerOf_29 ?_
      refine b_iload_n C dX12_layerOf_30 1 rfl rfl ?_
      refine b_iadd C dX12_layerOf_31 ?_
      refine b_imul C dX12_layerOf_32 ?_
      refine b_iadd C dX12_layerOf_33 ?_
      obtain ⟨h13, hf⟩ := gd_s hf
      obtain ⟨h14, hf⟩ := gd_s hf
      refine b_iald C h13 h14 dX12_layerOf_34 ?_
      refine b_iconst C (v := 5) dX12_layerOf_35 (by decide) ?_
      refine b_icmp_eq C (tgt := 41) dX12_layerOf_36 (by decide) (fun c15 => ?_) (fun c15 => ?_)
      · have hf := it_s c15 hf
        refine b_sub [(0, .ref (ad B x0)), (1, .int x1), (2, .int y2), (3, .int y3)] [0, 1, 2, 3] rfl ?_
        exact tX12_layerOf_41 C hr hlocks hK7 hf
      · have hf := if_s c15 hf
        refine b_iload_n C dX12_layerOf_39 3 rfl rfl ?_
        exact b_iret C hr hlocks hf dX12_layerOf_40
def fX12_layerOf_L7 (N : Nat) (g : Gs) (x0 : Nat) (x1 : Int32) : Int32 × Int32 × Ds → Option (Int32 × Ds) := lp (fun K7 a => fX12_layerOf_B7 N g x0 x1 K7 a.1 a.2.1 a.2.2) N
theorem tX12_layerOf_L7 {p : Program} {l : Launch} {e : Env} {s : State} {m : MethodId} {args : Array Value} {below : List Frame} {meth : Method} {c : Code} {D : va_G} {cy : Nat → ClassId} {B : Bs} (C : Cx p s m args c cX12_layerOf 4 RX12 D cy B) (hr : meth.sig.returnType = (some .int)) (hlocks : meth.locks = false) {N : Nat} {g : Gs} {x0 : Nat} {x1 : Int32} {vz : Int32} {dz : Ds} (a : Int32 × Int32 × Ds) (hf : fX12_layerOf_L7 N g x0 x1 a = some (vz, dz)) : WB p l e rmX12_layerOf s m args below meth c 4 D cy B 0 0 (MQ below (QI D cy B vz g dz) args s 0 0 (wA B)) g a.2.2 [(0, .ref (ad B x0)), (1, .int x1), (2, .int a.1), (3, .int a.2.1)] 7 [] :=
  lp_w (fun K7 hK7 a ha => tX12_layerOf_7 C hr hlocks hK7 ha) N a hf
set_option maxRecDepth 100000 in
def fX12_layerOf (N : Nat) (g : Gs) (x0 : Nat) (x1 : Int32) (d : Ds) : Option (Int32 × Ds) := gd (chk g x0 11) <| cb (fX12_activeLayers N g x0 d) fun u4 d2 => (fX12_layerOf_L7 N g x0 x1 (u4, 3, d2))
set_option maxHeartbeats 4000000 in
set_option maxRecDepth 100000 in
theorem tX12_layerOf_E {p : Program} {l : Launch} {e : Env} {s : State} {m : MethodId} {args : Array Value} {below : List Frame} {meth : Method} {c : Code} {D : va_G} {cy : Nat → ClassId} {B : Bs} (C : Cx p s m args c cX12_layerOf 4 RX12 D cy B) (hr : meth.sig.returnType = (some .int)) (hlocks : meth.locks = false) {N : Nat} {g : Gs} {x0 : Nat} {x1 : Int32} {vz : Int32} {dz : Ds} {d : Ds} (hf : fX12_layerOf N g x0 x1 d = some (vz, dz)) : WB p l e rmX12_layerOf s m args below meth c 4 D cy B 0 0 (MQ below (QI D cy B vz g dz) args s 0 0 (wA B)) g d [(0, .ref (ad B x0)), (1, .int x1)] 0 [] := by
  unfold fX12_layerOf at hf
  refine b_aload_n C dX12_layerOf_0 0 rfl rfl ?_
  obtain ⟨h1, hf⟩ := gd_s hf
  obtain ⟨u4, d2, k3, hf⟩ := cb_s hf
  refine b_cVI C [] dX12_layerOf_1 (kX12_activeLayers l D cy B k3) lv_X12_296 ⟨rfl, rfl, Nat.le_of_ble_eq_true rfl, Nat.le_of_ble_eq_true rfl⟩ h1 (by decide) rfl (Nat.le_of_ble_eq_true rfl) ⟨Nat.zero_le _, Nat.zero_le _⟩ rfl ?_
  refine b_istore_n C dX12_layerOf_4 rfl [(2, .int u4), (0, .ref (ad B x0)), (1, .int x1)] (by decide) rfl ?_
  refine b_iconst C (v := 3) dX12_layerOf_5 (by decide) ?_
  refine b_istore_n C dX12_layerOf_6 rfl [(3, .int 3), (2, .int u4), (0, .ref (ad B x0)), (1, .int x1)] (by decide) rfl ?_
  refine b_sub [(0, .ref (ad B x0)), (1, .int x1), (2, .int u4), (3, .int 3)] [2, 3, 1, 0] rfl ?_
  exact tX12_layerOf_L7 C hr hlocks (u4, 3, d2) hf
theorem kX12_layerOf (l : Launch) (D : va_G) (cy : Nat → ClassId) (B : Bs) {N : Nat} {g : Gs} {x0 : Nat} {x1 : Int32} {vz : Int32} {dz : Ds} {d : Ds} (hf : fX12_layerOf N g x0 x1 d = some (vz, dz)) : Met l yX12_layerOf (.code yX12_layerOf cX12_layerOf 4 (some .int) :: wl) rmX12_layerOf (PC D cy B [.ref (ad B x0), .int x1] g d) (QI D cy B vz g dz) 0 0 (wA B) :=
  met_of (by decide +kernel) (Nat.le_of_ble_eq_true rfl) (fun p e s m args below meth c C hr hlocks _ => b_sub [(0, .ref (ad B x0)), (1, .int x1)] [0, 1] rfl (tX12_layerOf_E C hr hlocks hf))
/-! KeyMatrixModel.heldOrTapped(II)I -/
theorem yo_X12_timeAt : yX12_timeAt.cls ≠ "java/lang/invoke/MethodHandle" ∧ yX12_timeAt.cls ≠ "java/lang/invoke/VarHandle" ∧ (parseMethodDescriptor yX12_timeAt.desc).map (fun d => d.parameters.length) = some 1 := by decide +kernel
theorem co_X12_timeAt : Cond.code yX12_timeAt cX12_timeAt 2 (some .int) ∈ wl := mW (mT6 (List.mem_of_getElem? (i := 187) (by decide +kernel))) rfl
theorem in_X12_timeAt : Cond.initialized yX12_timeAt.cls ∈ wl := mW (mT1 (List.mem_of_getElem? (i := 12) (by decide +kernel))) rfl
theorem im_X12_timeAt : Cond.instanceMethod yX12_timeAt ∈ wl := mW (mT6 (List.mem_of_getElem? (i := 186) (by decide +kernel))) rfl
theorem se_X12_timeAt : Cond.selects yX12_timeAt.cls yX12_timeAt yX12_timeAt ∈ wl := mW (mT0 (List.mem_of_getElem? (i := 78) (by decide +kernel))) rfl
theorem lv_X12_259 : LV RX12 259 yX12_timeAt cX12_timeAt 2 (some .int) 1 11 := ⟨⟨(RX12, TX12, 33), rfl, rfl⟩, yo_X12_timeAt, mW (mT6 (List.mem_of_getElem? (i := 184) (by decide +kernel))) rfl, im_X12_timeAt, se_X12_timeAt, in_X12_timeAt, co_X12_timeAt⟩
theorem yo_X12_keyAt : yX12_keyAt.cls ≠ "java/lang/invoke/MethodHandle" ∧ yX12_keyAt.cls ≠ "java/lang/invoke/VarHandle" ∧ (parseMethodDescriptor yX12_keyAt.desc).map (fun d => d.parameters.length) = some 1 := by decide +kernel
theorem co_X12_keyAt : Cond.code yX12_keyAt cX12_keyAt 2 (some .int) ∈ wl := mW (mT6 (List.mem_of_getElem? (i := 131) (by decide +kernel))) rfl
theorem in_X12_keyAt : Cond.initialized yX12_keyAt.cls ∈ wl := mW (mT1 (List.mem_of_getElem? (i := 12) (by decide +kernel))) rfl
theorem im_X12_keyAt : Cond.instanceMethod yX12_keyAt ∈ wl := mW (mT6 (List.mem_of_getElem? (i := 130) (by decide +kernel))) rfl
theorem se_X12_keyAt : Cond.selects yX12_keyAt.cls yX12_keyAt yX12_keyAt ∈ wl := mW (mT0 (List.mem_of_getElem? (i := 64) (by decide +kernel))) rfl
theorem lv_X12_244 : LV RX12 244 yX12_keyAt cX12_keyAt 2 (some .int) 1 11 := ⟨⟨(RX12, TX12, 33), rfl, rfl⟩, yo_X12_keyAt, mW (mT6 (List.mem_of_getElem? (i := 128) (by decide +kernel))) rfl, im_X12_keyAt, se_X12_keyAt, in_X12_keyAt, co_X12_keyAt⟩
theorem yo_X12_isDownAt : yX12_isDownAt.cls ≠ "java/lang/invoke/MethodHandle" ∧ yX12_isDownAt.cls ≠ "java/lang/invoke/VarHandle" ∧ (parseMethodDescriptor yX12_isDownAt.desc).map (fun d => d.parameters.length) = some 1 := by decide +kernel
theorem co_X12_isDownAt : Cond.code yX12_isDownAt cX12_isDownAt 2 (some .boolean) ∈ wl := mW (mT6 (List.mem_of_getElem? (i := 135) (by decide +kernel))) rfl
theorem in_X12_isDownAt : Cond.initialized yX12_isDownAt.cls ∈ wl := mW (mT1 (List.mem_of_getElem? (i := 12) (by decide +kernel))) rfl
theorem im_X12_isDownAt : Cond.instanceMethod yX12_isDownAt ∈ wl := mW (mT6 (List.mem_of_getElem? (i := 134) (by decide +kernel))) rfl
theorem se_X12_isDownAt : Cond.selects yX12_isDownAt.cls yX12_isDownAt yX12_isDownAt ∈ wl := mW (mT0 (List.mem_of_getElem? (i := 65) (by decide +kernel))) rfl
theorem lv_X12_247 : LV RX12 247 yX12_isDownAt cX12_isDownAt 2 (some .boolean) 1 11 := ⟨⟨(RX12, TX12, 33), rfl, rfl⟩, yo_X12_isDownAt, mW (mT6 (List.mem_of_getElem? (i := 132) (by decide +kernel))) rfl, im_X12_isDownAt, se_X12_isDownAt, in_X12_isDownAt, co_X12_isDownAt⟩
theorem dX12_heldOrTapped_0 : decode cX12_heldOrTapped 0 = .ok (.iload_n 2, 1) := by decide +kernel
theorem dX12_heldOrTapped_1 : decode cX12_heldOrTapped 1 = .ok (.aload_n 0, 1) := by decide +kernel
theorem dX12_heldOrTapped_2 : decode cX12_heldOrTapped 2 = .ok (.getfield 40, 3) := by decide +kernel
theorem dX12_heldOrTapped_5 : decode cX12_heldOrTapped 5 = .ok (.iconst 5, 1) := by decide +kernel
theorem dX12_heldOrTapped_6 : decode cX12_heldOrTapped 6 = .ok (.iaload, 1) := by decide +kernel
theorem dX12_heldOrTapped_7 : decode cX12_heldOrTapped 7 = .ok (.iadd, 1) := by decide +kernel
theorem dX12_heldOrTapped_8 : decode cX12_heldOrTapped 8 = .ok (.istore_n 3, 1) := by decide +kernel
theorem dX12_heldOrTapped_9 : decode cX12_heldOrTapped 9 = .ok (.iconst 0, 1) := by decide +kernel
theorem dX12_heldOrTapped_10 : decode cX12_heldOrTapped 10 = .ok (.istore 4, 2) := by decide +kernel
theorem dX12_heldOrTapped_12 : decode cX12_heldOrTapped 12 = .ok (.iconst 1, 1) := by decide +kernel
theorem dX12_heldOrTapped_13 : decode cX12_heldOrTapped 13 = .ok (.istore 5, 2) := by decide +kernel
theorem dX12_heldOrTapped_15 : decode cX12_heldOrTapped 15 = .ok (.iload 5, 2) := by decide +kernel
theorem dX12_heldOrTapped_17 : decode cX12_heldOrTapped 17 = .ok (.aload_n 0, 1) := by decide +kernel
theorem dX12_heldOrTapped_18 : decode cX12_heldOrTapped 18 = .ok (.getfield 40, 3) := by decide +kernel
theorem dX12_heldOrTapped_21 : decode cX12_heldOrTapped 21 = .ok (.sipush 557, 3) := by decide +kernel
theorem dX12_heldOrTapped_24 : decode cX12_heldOrTapped 24 = .ok (.iaload, 1) := by decide +kernel
theorem dX12_heldOrTapped_25 : decode cX12_heldOrTapped 25 = .ok (.if_icmp .ge 70, 3) := by decide +kernel
theorem dX12_heldOrTapped_28 : decode cX12_heldOrTapped 28 = .ok (.aload_n 0, 1) := by decide +kernel
theorem dX12_heldOrTapped_29 : decode cX12_heldOrTapped 29 = .ok (.iload 5, 2) := by decide +kernel
theorem dX12_heldOrTapped_31 : decode cX12_heldOrTapped 31 = .ok (.invokevirtual 259, 3) := by decide +kernel
theorem dX12_heldOrTapped_34 : decode cX12_heldOrTapped 34 = .ok (.iload_n 3, 1) := by decide +kernel
theorem dX12_heldOrTapped_35 : decode cX12_heldOrTapped 35 = .ok (.if_icmp .lt 5, 3) := by decide +kernel
theorem dX12_heldOrTapped_38 : decode cX12_heldOrTapped 38 = .ok (.iconst 1, 1) := by decide +kernel
theorem dX12_heldOrTapped_39 : decode cX12_heldOrTapped 39 = .ok (.ireturn, 1) := by decide +kernel
theorem dX12_heldOrTapped_40 : decode cX12_heldOrTapped 40 = .ok (.aload_n 0, 1) := by decide +kernel
theorem dX12_heldOrTapped_41 : decode cX12_heldOrTapped 41 = .ok (.iload 5, 2) := by decide +kernel
theorem dX12_heldOrTapped_43 : decode cX12_heldOrTapped 43 = .ok (.invokevirtual 244, 3) := by decide +kernel
theorem dX12_heldOrTapped_46 : decode cX12_heldOrTapped 46 = .ok (.istore 6, 2) := by decide +kernel
theorem dX12_heldOrTapped_48 : decode cX12_heldOrTapped 48 = .ok (.aload_n 0, 1) := by decide +kernel
theorem dX12_heldOrTapped_49 : decode cX12_heldOrTapped 49 = .ok (.iload 5, 2) := by decide +kernel
theorem dX12_heldOrTapped_51 : decode cX12_heldOrTapped 51 = .ok (.invokevirtual 247, 3) := by decide +kernel
theorem dX12_heldOrTapped_54 : decode cX12_heldOrTapped 54 = .ok (.ifCond .eq 15, 3) := by decide +kernel
theorem dX12_heldOrTapped_57 : decode cX12_heldOrTapped 57 = .ok (.iload 4, 2) := by decide +kernel
theorem dX12_heldOrTapped_59 : decode cX12_heldOrTapped 59 = .ok (.iconst 1, 1) := by decide +kernel
theorem dX12_heldOrTapped_60 : decode cX12_heldOrTapped 60 = .ok (.iload 6, 2) := by decide +kernel
theorem dX12_heldOrTapped_62 : decode cX12_heldOrTapped 62 = .ok (.ishl, 1) := by decide +kernel
theorem dX12_heldOrTapped_63 : decode cX12_heldOrTapped 63 = .ok (.ior, 1) := by decide +kernel
theorem dX12_heldOrTapped_64 : decode cX12_heldOrTapped 64 = .ok (.istore 4, 2) := by decide +kernel
theorem dX12_heldOrTapped_66 : decode cX12_heldOrTapped 66 = .ok (.goto 23, 3) := by decide +kernel
theorem dX12_heldOrTapped_69 : decode cX12_heldOrTapped 69 = .ok (.iload 6, 2) := by decide +kernel
theorem dX12_heldOrTapped_71 : decode cX12_heldOrTapped 71 = .ok (.iload_n 1, 1) := by decide +kernel
theorem dX12_heldOrTapped_72 : decode cX12_heldOrTapped 72 = .ok (.if_icmp .ne 5, 3) := by decide +kernel
theorem dX12_heldOrTapped_75 : decode cX12_heldOrTapped 75 = .ok (.iconst 0, 1) := by decide +kernel
theorem dX12_heldOrTapped_76 : decode cX12_heldOrTapped 76 = .ok (.ireturn, 1) := by decide +kernel
theorem dX12_heldOrTapped_77 : decode cX12_heldOrTapped 77 = .ok (.iload 4, 2) := by decide +kernel
theorem dX12_heldOrTapped_79 : decode cX12_heldOrTapped 79 = .ok (.iload 6, 2) := by decide +kernel
theorem dX12_heldOrTapped_81 : decode cX12_heldOrTapped 81 = .ok (.invokestatic 210, 3) := by decide +kernel
theorem dX12_heldOrTapped_84 : decode cX12_heldOrTapped 84 = .ok (.ifCond .eq 5, 3) := by decide +kernel
theorem dX12_heldOrTapped_87 : decode cX12_heldOrTapped 87 = .ok (.iconst 1, 1) := by decide +kernel
theorem dX12_heldOrTapped_88 : decode cX12_heldOrTapped 88 = .ok (.ireturn, 1) := by decide +kernel
theorem dX12_heldOrTapped_89 : decode cX12_heldOrTapped 89 = .ok (.iinc 5 1, 3) := by decide +kernel
theorem dX12_heldOrTapped_92 : decode cX12_heldOrTapped 92 = .ok (.goto (-77), 3) := by decide +kernel
theorem dX12_heldOrTapped_95 : decode cX12_heldOrTapped 95 = .ok (.aload_n 0, 1) := by decide +kernel
theorem dX12_heldOrTapped_96 : decode cX12_heldOrTapped 96 = .ok (.getfield 40, 3) := by decide +kernel
theorem dX12_heldOrTapped_99 : decode cX12_heldOrTapped 99 = .ok (.sipush 354, 3) := by decide +kernel
theorem dX12_heldOrTapped_102 : decode cX12_heldOrTapped 102 = .ok (.iaload, 1) := by decide +kernel
theorem dX12_heldOrTapped_103 : decode cX12_heldOrTapped 103 = .ok (.iload_n 3, 1) := by decide +kernel
theorem dX12_heldOrTapped_104 : decode cX12_heldOrTapped 104 = .ok (.if_icmp .lt 7, 3) := by decide +kernel
theorem dX12_heldOrTapped_107 : decode cX12_heldOrTapped 107 = .ok (.iconst 1, 1) := by decide +kernel
theorem dX12_heldOrTapped_108 : decode cX12_heldOrTapped 108 = .ok (.goto 4, 3) := by decide +kernel
theorem dX12_heldOrTapped_111 : decode cX12_heldOrTapped 111 = .ok (.iconst (-1), 1) := by decide +kernel
theorem dX12_heldOrTapped_112 : decode cX12_heldOrTapped 112 = .ok (.ireturn, 1) := by decide +kernel
def rmX12_heldOrTapped : Room := { frames := 1, cells := 0, slots := 0, locals := 21 }
set_option maxRecDepth 100000 in
def fX12_heldOrTapped_J112 (N : Nat) (g : Gs) (x0 : Nat) (x1 : Int32) (x2 : Int32) (z0 : Int32) (d : Ds) : Option (Int32 × Ds) := some (z0, d)
set_option maxHeartbeats 4000000 in
set_option maxRecDepth 100000 in
theorem tX12_heldOrTapped_112 {p : Program} {l : Launch} {e : Env} {s : State} {m : MethodId} {args : Array Value} {below : List Frame} {meth : Method} {c : Code} {D : va_G} {cy : Nat → ClassId} {B : Bs} (C : Cx p s m args c cX12_heldOrTapped 7 RX12 D cy B) (hr : meth.sig.returnType = (some .int)) (hlocks : meth.locks = false) {N : Nat} {g : Gs} {x0 : Nat} {x1 : Int32} {x2 : Int32} {vz : Int32} {dz : Ds} {z0 : Int32} {d : Ds} (hf : fX12_heldOrTapped_J112 N g x0 x1 x2 z0 d = some (vz, dz)) : WB p l e rmX12_heldOrTapped s m args below meth c 7 D cy B 0 0 (MQ below (QI D cy B vz g dz) args s 0 0 (wA B)) g d [(0, .ref (ad B x0)), (1, .int x1), (2, .int x2)] 112 [.int z0] := by
  unfold fX12_heldOrTapped_J112 at hf
  exact b_iret C hr hlocks hf dX12_heldOrTapped_112
set_option maxRecDepth 100000 in
def fX12_heldOrTapped_J89 (N : Nat) (g : Gs) (x0 : Nat) (x1 : Int32) (x2 : Int32) (K15 : Int32 × Int32 × Int32 × Ds → Option (Int32 × Ds)) (y3 : Int32) (y4 : Int32) (y5 : Int32) (d : Ds) : Option (Int32 × Ds) := bd (y5 + 1) fun u29 => (K15 (y3, y4, u29, d))
set_option maxHeartbeats 4000000 in
set_option maxRecDepth 100000 in
theorem tX12_heldOrTapped_89 {p : Program} {l : Launch} {e : Env} {s : State} {m : MethodId} {args : Array Value} {below : List Frame} {meth : Method} {c : Code} {D : va_G} {cy : Nat → ClassId} {B : Bs} (C : Cx p s m args c cX12_heldOrTapped 7 RX12 D cy B) (hr : meth.sig.returnType = (some .int)) (hlocks : meth.locks = false) {N : Nat} {g : Gs} {x0 : Nat} {x1 : Int32} {x2 : Int32} {vz : Int32} {dz : Ds} {K15 : Int32 × Int32 × Int32 × Ds → Option (Int32 × Ds)} (hK15 : ∀ a, K15 a = some (vz, dz) → WB p l e rmX12_heldOrTapped s m args below meth c 7 D cy B 0 0 (MQ below (QI D cy B vz g dz) args s 0 0 (wA B)) g a.2.2.2 [(0, .ref (ad B x0)), (1, .int x1), (2, .int x2), (3, .int a.1), (4, .int a.2.1), (5, .int a.2.2.1)] 15 []) {y3 : Int32} {y4 : Int32} {y5 : Int32} {d : Ds} (hf : fX12_heldOrTapped_J89 N g x0 x1 x2 K15 y3 y4 y5 d = some (vz, dz)) : WB p l e rmX12_heldOrTapped s m args below meth c 7 D cy B 0 0 (MQ below (QI D cy B vz g dz) args s 0 0 (wA B)) g d [(0, .ref (ad B x0)), (1, .int x1), (2, .int x2), (3, .int y3), (4, .int y4), (5, .int y5)] 89 [] := by
  unfold fX12_heldOrTapped_J89 at hf
  obtain ⟨u29, eu29, hf⟩ := bd_s hf
  refine b_iinc C dX12_heldOrTapped_89 5 rfl (by rw [eu29]; rfl) [(5, .int u29), (0, .ref (ad B x0)), (1, .int x1), (2, .int x2), (3, .int y3), (4, .int y4)] (by decide) rfl ?_
  refine b_goto C (tgt := 15) dX12_heldOrTapped_92 (by decide) ?_
  refine b_sub [(0, .ref (ad B x0)), (1, .int x1), (2, .int x2), (3, .int y3), (4, .int y4), (5, .int u29)] [1, 2, 3, 4, 5, 0] rfl ?_
  exact hK15 (y3, y4, u29, d) hf
set_option maxRecDepth 100000 in
def fX12_heldOrTapped_B15 (N : Nat) (g : Gs) (x0 : Nat) (x1 : Int32) (x2 : Int32) (K15 : Int32 × Int32 × Int32 × Ds → Option (Int32 × Ds)) (y3 : Int32) (y4 : Int32) (y5 : Int32) (d : Ds) : Option (Int32 × Ds) := gd (chk g x0 11) <| ob (gR g x0 17) fun r7 => (gd (chk g r7 102) <| gd (¬ ((557 : Int32) < 0 ∨ gL g r7 ≤ (557 : Int32).toNatClampNeg)) <| if (dI d r7 (557 : Int32).toNatClampNeg) ≤ y5 then (gd (¬ ((354 : Int32) < 0 ∨ gL g r7 ≤ (354 : Int32).toNatClampNeg)) <| if (dI d r7 (354 : Int32).toNatClampNeg) < y3 then (fX12_heldOrTapped_J112 N g x0 x1 x2 (-1) d) else (fX12_heldOrTapped_J112 N g x0 x1 x2 1 d)) else (cb (fX12_timeAt N g x0 y5 d) fun u15 d13 => (if u15 < y3 then (cb (fX12_keyAt N g x0 y5 d13) fun u19 d17 => (cb (fX12_isDownAt N g x0 y5 d17) fun u22 d20 => (if u22 = 0 then (if u19 = x1 then (some (0, d20)) else (cb (fX12_has N g y4 u19 d20) fun u27 d25 => (if u27 = 0 then (fX12_heldOrTapped_J89 N g x0 x1 x2 K15 y3 y4 y5 d25) else (some (1, d25))))) else (bd ((y4 ||| ((1 : Int32) <<< (u19 &&& 31)))) fun u30 => (fX12_heldOrTapped_J89 N g x0 x1 x2 K15 y3 u30 y5 d20))))) else (some (1, d13)))))
set_option maxHeartbeats 4000000 in
set_option maxRecDepth 100000 in
theorem tX12_heldOrTapped_15 {p : Program} {l : Launch} {e : Env} {s : State} {m : MethodId} {args : Array Value} {below : List Frame} {meth : Method} {c : Code} {D : va_G} {cy : Nat → ClassId} {B : Bs} (C : Cx p s m args c cX12_heldOrTapped 7 RX12 D cy B) (hr : meth.sig.returnType = (some .int)) (hlocks : meth.locks = false) {N : Nat} {g : Gs} {x0 : Nat} {x1 : Int32} {x2 : Int32} {vz : Int32} {dz : Ds} {K15 : Int32 × Int32 × Int32 × Ds → Option (Int32 × Ds)} (hK15 : ∀ a, K15 a = some (vz, dz) → WB p l e rmX12_heldOrTapped s m args below meth c 7 D cy B 0 0 (MQ below (QI D cy B vz g dz) args s 0 0 (wA B)) g a.2.2.2 [(0, .ref (ad B x0)), (1, .int x1), (2, .int x2), (3, .int a.1), (4, .int a.2.1), (5, .int a.2.2.1)] 15 []) {y3 : Int32} {y4 : Int32} {y5 : Int32} {d : Ds} (hf : fX12_heldOrTapped_B15 N g x0 x1 x2 K15 y3 y4 y5 d = some (vz, dz)) : WB p l e rmX12_heldOrTapped s m args below meth c 7 D cy B 0 0 (MQ below (QI D cy B vz g dz) args s 0 0 (wA B)) g d [(0, .ref (ad B x0)), (1, .int x1), (2, .int x2), (3, .int y3), (4, .int y4), (5, .int y5)] 15 [] := by
  unfold fX12_heldOrTapped_B15 at hf
  refine b_iload C dX12_heldOrTapped_15 5 rfl ?_
  refine b_aload_n C dX12_heldOrTapped_17 0 rfl rfl ?_
  obtain ⟨h6, hf⟩ := gd_s hf
  obtain ⟨r7, er7, hf⟩ := ob_s hf
  refine b_gR C dX12_heldOrTapped_18 fl_X12_40 h6 er7 ?_
  refine b_sipush C (v := 557) dX12_heldOrTapped_21 (by decide) ?_
  obtain ⟨h8, hf⟩ := gd_s hf
  obtain ⟨h9, hf⟩ := gd_s hf
  refine b_iald C h8 h9 dX12_heldOrTapped_24 ?_
  refine b_icmp_ge C (tgt := 95) dX12_heldOrTapped_25 (by decide) (fun c10 => ?_) (fun c10 => ?_)
  · have hf := it_s c10 hf
    refine b_aload_n C dX12_heldOrTapped_95 0 rfl rfl ?_
    refine b_gR C dX12_heldOrTapped_96 fl_X12_40 h6 er7 ?_
    refine b_sipush C (v := 354) dX12_heldOrTapped_99 (by decide) ?_
    obtain ⟨h11, hf⟩ := gd_s hf
    refine b_iald C h8 h11 dX12_heldOrTapped_102 ?_
    refine b_iload_n C dX12_heldOrTapped_103 3 rfl rfl ?_
    refine b_icmp_lt C (tgt := 111) dX12_heldOrTapped_104 (by decide) (fun c12 => ?_) (fun c12 => ?_)
    · have hf := it_s c12 hf
      refine b_iconst C (v := (-1)) dX12_heldOrTapped_111 (by decide) ?_
      refine b_sub [(0, .ref (ad B x0)), (1, .int x1), (2, .int x2)] [0, 1, 2] rfl ?_
      exact tX12_heldOrTapped_112 C hr hlocks hf
    · have hf := if_s c12 hf
      refine b_iconst C (v := 1) dX12_heldOrTapped_107 (by decide) ?_
      refine b_goto C (tgt := 112) dX12_heldOrTapped_108 (by decide) ?_
      refine b_sub [(0, .ref (ad B x0)), (1, .int x1), (2, .int x2)] [0, 1, 2] rfl ?_
      exact tX12_heldOrTapped_112 C hr hlocks hf
  · have hf := if_s c10 hf
    refine b_aload_n C dX12_heldOrTapped_28 0 rfl rfl ?_
    refine b_iload C dX12_heldOrTapped_29 5 rfl ?_
    obtain ⟨u15, d13, k14, hf⟩ := cb_s hf
    refine b_cVI C [] dX12_heldOrTapped_31 (kX12_timeAt l D cy B k14) lv_X12_259 ⟨rfl, rfl, Nat.le_of_ble_eq_true rfl, Nat.le_of_ble_eq_true rfl⟩ h6 (by decide) rfl (Nat.le_of_ble_eq_true rfl) ⟨Nat.zero_le _, Nat.zero_le _⟩ rfl ?_
    refine b_iload_n C dX12_heldOrTapped_34 3 rfl rfl ?_
    refine b_icmp_lt C (tgt := 40) dX12_heldOrTapped_35 (by decide) (fun c16 => ?_) (fun c16 => ?_)
    · have hf := it_s c16 hf
      refine b_aload_n C dX12_heldOrTapped_40 0 rfl rfl ?_
      refine b_iload C dX12_heldOrTapped_41 5 rfl ?_
      obtain ⟨u19, d17, k18, hf⟩ := cb_s hf
      refine b_cVI C [] dX12_heldOrTapped_43 (kX12_keyAt l D cy B k18) lv_X12_244 ⟨rfl, rfl, Nat.le_of_ble_eq_true rfl, Nat.le_of_ble_eq_true rfl⟩ h6 (by decide) rfl (Nat.le_of_ble_eq_true rfl) ⟨Nat.zero_le _, Nat.zero_le _⟩ rfl ?_
      refine b_istore C dX12_heldOrTapped_46 [(6, .int u19), (0, .ref (ad B x0)), (1, .int x1), (2, .int x2), (3, .int y3), (4, .int y4), (5, .int y5)] (by decide) rfl ?_
      refine b_aload_n C dX12_heldOrTapped_48 1 rfl rfl ?_
      refine b_iload C dX12_heldOrTapped_49 6 rfl ?_
      obtain ⟨u22, d20, k21, hf⟩ := cb_s hf
      refine b_cVI C [] dX12_heldOrTapped_51 (kX12_isDownAt l D cy B k21) lv_X12_247 ⟨rfl, rfl, Nat.le_of_ble_eq_true rfl, Nat.le_of_ble_eq_true rfl⟩ h6 (by decide) rfl (Nat.le_of_ble_eq_true rfl) ⟨Nat.zero_le _, Nat.zero_le _⟩ rfl ?_
      refine b_if_eq C (tgt := 69) dX12_heldOrTapped_54 (by decide) (fun c23 => ?_) (fun c23 => ?_)
      · have hf := it_s c23 hf
        refine b_iload C dX12_heldOrTapped_69 0 rfl ?_
        refine b_iload_n C dX12_heldOrTapped_71 2 rfl rfl ?_
        refine b_icmp_ne C (tgt := 77) dX12_heldOrTapped_72 (by decide) (fun c24 => ?_) (fun c24 => ?_)
        · have hf := if_s c24 hf
          refine b_iload C dX12_heldOrTapped_77 5 rfl ?_
          refine b_iload C dX12_heldOrTapped_79 0 rfl ?_
          obtain ⟨u27, d25, k26, hf⟩ := cb_s hf
          refine b_cSI C [] dX12_heldOrTapped_81 (kX12_has l D cy B k26) lv_X12_210 ⟨rfl, rfl, Nat.le_of_ble_eq_true rfl, Nat.le_of_ble_eq_true rfl⟩ rfl (Nat.le_of_ble_eq_true rfl) ⟨Nat.zero_le _, Nat.zero_le _⟩ rfl ?_
          refine b_if_eq C (tgt := 89) dX12_heldOrTapped_84 (by decide) (fun c28 => ?_) (fun c28 => ?_)
          · have hf := it_s c28 hf
            refine b_sub [(0, .ref (ad B x0)), (1, .int x1), (2, .int x2), (3, .int y3), (4, .int y4), (5, .int y5)] [1, 2, 3, 4, 5, 6] rfl ?_
            exact tX12_heldOrTapped_89 C hr hlocks hK15 hf
          · have hf := if_s c28 hf
            refine b_iconst C (v := 1) dX12_heldOrTapped_87 (by decide) ?_
            exact b_iret C hr hlocks hf dX12_heldOrTapped_88
        · have hf := it_s c24 hf
          refine b_iconst C (v := 0) dX12_heldOrTapped_75 (by decide) ?_
          exact b_iret C hr hlocks hf dX12_heldOrTapped_76
      · have hf := if_s c23 hf
        refine b_iload C dX12_heldOrTapped_57 5 rfl ?_
        refine b_iconst C (v := 1) dX12_heldOrTapped_59 (by decide) ?_
        refine b_iload C dX12_heldOrTapped_60 0 rfl ?_
        refine b_ishl C dX12_heldOrTapped_62 ?_
        refine b_ior C dX12_heldOrTapped_63 ?_
        obtain ⟨u30, eu30, hf⟩ := bd_s hf
        refine b_topI eu30 ?_
        refine b_istore C dX12_heldOrTapped_64 [(4, .int u30), (6, .int u19), (0, .ref (ad B x0)), (1, .int x1), (2, .int x2), (3, .int y3), (5, .int y5)] (by decide) rfl ?_
        refine b_goto C (tgt := 89) dX12_heldOrTapped_66 (by decide) ?_
        refine b_sub [(0, .ref (ad B x0)), (1, .int x1), (2, .int x2), (3, .int y3), (4, .int u30), (5, .int y5)] [2, 3, 4, 5, 0, 6] rfl ?_
        exact tX12_heldOrTapped_89 C hr hlocks hK15 hf
    · have hf := if_s c16 hf
      refine b_iconst C (v := 1) dX12_heldOrTapped_38 (by decide) ?_
      exact b_iret C hr hlocks hf dX12_heldOrTapped_39
def fX12_heldOrTapped_L15 (N : Nat) (g : Gs) (x0 : Nat) (x1 : Int32) (x2 : Int32) : Int32 × Int32 × Int32 × Ds → Option (Int32 × Ds) := lp (fun K15 a => fX12_heldOrTapped_B15 N g x0 x1 x2 K15 a.1 a.2.1 a.2.2.1 a.2.2.2) N
theorem tX12_heldOrTapped_L15 {p : Program} {l : Launch} {e : Env} {s : State} {m : MethodId} {args : Array Value} {below : List Frame} {meth : Method} {c : Code} {D : va_G} {cy : Nat → ClassId} {B : Bs} (C : Cx p s m args c cX12_heldOrTapped 7 RX12 D cy B) (hr : meth.sig.returnType = (some .int)) (hlocks : meth.locks = false) {N : Nat} {g : Gs} {x0 : Nat} {x1 : Int32} {x2 : Int32} {vz : Int32} {dz : Ds} (a : Int32 × Int32 × Int32 × Ds) (hf : fX12_heldOrTapped_L15 N g x0 x1 x2 a = some (vz, dz)) : WB p l e rmX12_heldOrTapped s m args below meth c 7 D cy B 0 0 (MQ below (QI D cy B vz g dz) args s 0 0 (wA B)) g a.2.2.2 [(0, .ref (ad B x0)), (1, .int x1), (2, .int x2), (3, .int a.1), (4, .int a.2.1), (5, .int a.2.2.1)] 15 [] :=
  lp_w (fun K15 hK15 a ha => tX12_heldOrTapped_15 C hr hlocks hK15 ha) N a hf
set_option maxRecDepth 100000 in
def fX12_heldOrTapped (N : Nat) (g : Gs) (x0 : Nat) (x1 : Int32) (x2 : Int32) (d : Ds) : Option (Int32 × Ds) := gd (chk g x0 11) <| ob (gR g x0 17) fun r2 => (gd (chk g r2 102) <| gd (¬ ((5 : Int32) < 0 ∨ gL g r2 ≤ (5 : Int32).toNatClampNeg)) <| bd ((x2 + (dI d r2 (5 : Int32).toNatClampNeg))) fun u5 => (fX12_heldOrTapped_L15 N g x0 x1 x2 (u5, 0, 1, d)))
set_option maxHeartbeats 4000000 in
set_option maxRecDepth 100000 in
theorem tX12_heldOrTapped_E {p : Program} {l : Launch} {e : Env} {s : State} {m : MethodId} {args : Array Value} {below : List Frame} {meth : Method} {c : Code} {D : va_G} {cy : Nat → ClassId} {B : Bs} (C : Cx p s m args c cX12_heldOrTapped 7 RX12 D cy B) (hr : meth.sig.returnType = (some .int)) (hlocks : meth.locks = false) {N : Nat} {g : Gs} {x0 : Nat} {x1 : Int32} {x2 : Int32} {vz : Int32} {dz : Ds} {d : Ds} (hf : fX12_heldOrTapped N g x0 x1 x2 d = some (vz, dz)) : WB p l e rmX12_heldOrTapped s m args below meth c 7 D cy B 0 0 (MQ below (QI D cy B vz g dz) args s 0 0 (wA B)) g d [(0, .ref (ad B x0)), (1, .int x1), (2, .int x2)] 0 [] := by
  unfold fX12_heldOrTapped at hf
  refine b_iload_n C dX12_heldOrTapped_0 2 rfl rfl ?_
  refine b_aload_n C dX12_heldOrTapped_1 0 rfl rfl ?_
  obtain ⟨h1, hf⟩ := gd_s hf
  obtain ⟨r2, er2, hf⟩ := ob_s hf
  refine b_gR C dX12_heldOrTapped_2 fl_X12_40 h1 er2 ?_
  refine b_iconst C (v := 5) dX12_heldOrTapped_5 (by decide) ?_
  obtain ⟨h3, hf⟩ := gd_s hf
  obtain ⟨h4, hf⟩ := gd_s hf
  refine b_iald C h3 h4 dX12_heldOrTapped_6 ?_
  refine b_iadd C dX12_heldOrTapped_7 ?_
  obtain ⟨u5, eu5, hf⟩ := bd_s hf
  refine b_topI eu5 ?_
  refine b_istore_n C dX12_heldOrTapped_8 rfl [(3, .int u5), (0, .ref (ad B x0)), (1, .int x1), (2, .int x2)] (by decide) rfl ?_
  refine b_iconst C (v := 0) dX12_heldOrTapped_9 (by decide) ?_
  refine b_istore C dX12_heldOrTapped_10 [(4, .int 0), (3, .int u5), (0, .ref (ad B x0)), (1, .int x1), (2, .int x2)] (by decide) rfl ?_
  refine b_iconst C (v := 1) dX12_heldOrTapped_12 (by decide) ?_
  refine b_istore C dX12_heldOrTapped_13 [(5, .int 1), (4, .int 0), (3, .int u5), (0, .ref (ad B x0)), (1, .int x1), (2, .int x2)] (by decide) rfl ?_
  refine b_sub [(0, .ref (ad B x0)), (1, .int x1), (2, .int x2), (3, .int u5), (4, .int 0), (5, .int 1)] [3, 4, 5, 2, 1, 0] rfl ?_
  exact tX12_heldOrTapped_L15 C hr hlocks (u5, 0, 1, d) hf
theorem kX12_heldOrTapped (l : Launch) (D : va_G) (cy : Nat → ClassId) (B : Bs) {N : Nat} {g : Gs} {x0 : Nat} {x1 : Int32} {x2 : Int32} {vz : Int32} {dz : Ds} {d : Ds} (hf : fX12_heldOrTapped N g x0 x1 x2 d = some (vz, dz)) : Met l yX12_heldOrTapped (.code yX12_heldOrTapped cX12_heldOrTapped 7 (some .int) :: wl) rmX12_heldOrTapped (PC D cy B [.ref (ad B x0), .int x1, .int x2] g d) (QI D cy B vz g dz) 0 0 (wA B) :=
  met_of (by decide +kernel) (Nat.le_of_ble_eq_true rfl) (fun p e s m args below meth c C hr hlocks _ => b_sub [(0, .ref (ad B x0)), (1, .int x1), (2, .int x2)] [0, 1, 2] rfl (tX12_heldOrTapped_E C hr hlocks hf))
/-! KeyMatrixModel.onceOrTwice(II)I -/
theorem dX12_onceOrTwice_0 : decode cX12_onceOrTwice 0 = .ok (.iload_n 2, 1) := by decide +kernel
theorem dX12_onceOrTwice_1 : decode cX12_onceOrTwice 1 = .ok (.aload_n 0, 1) := by decide +kernel
theorem dX12_onceOrTwice_2 : decode cX12_onceOrTwice 2 = .ok (.getfield 40, 3) := by decide +kernel
theorem dX12_onceOrTwice_5 : decode cX12_onceOrTwice 5 = .ok (.bipush 7, 2) := by decide +kernel
theorem dX12_onceOrTwice_7 : decode cX12_onceOrTwice 7 = .ok (.iaload, 1) := by decide +kernel
theorem dX12_onceOrTwice_8 : decode cX12_onceOrTwice 8 = .ok (.iadd, 1) := by decide +kernel
theorem dX12_onceOrTwice_9 : decode cX12_onceOrTwice 9 = .ok (.istore_n 3, 1) := by decide +kernel
theorem dX12_onceOrTwice_10 : decode cX12_onceOrTwice 10 = .ok (.iconst 1, 1) := by decide +kernel
theorem dX12_onceOrTwice_11 : decode cX12_onceOrTwice 11 = .ok (.istore 4, 2) := by decide +kernel
theorem dX12_onceOrTwice_13 : decode cX12_onceOrTwice 13 = .ok (.iload 4, 2) := by decide +kernel
theorem dX12_onceOrTwice_15 : decode cX12_onceOrTwice 15 = .ok (.aload_n 0, 1) := by decide +kernel
theorem dX12_onceOrTwice_16 : decode cX12_onceOrTwice 16 = .ok (.getfield 40, 3) := by decide +kernel
theorem dX12_onceOrTwice_19 : decode cX12_onceOrTwice 19 = .ok (.sipush 557, 3) := by decide +kernel
theorem dX12_onceOrTwice_22 : decode cX12_onceOrTwice 22 = .ok (.iaload, 1) := by decide +kernel
theorem dX12_onceOrTwice_23 : decode cX12_onceOrTwice 23 = .ok (.if_icmp .ge 46, 3) := by decide +kernel
theorem dX12_onceOrTwice_26 : decode cX12_onceOrTwice 26 = .ok (.aload_n 0, 1) := by decide +kernel
theorem dX12_onceOrTwice_27 : decode cX12_onceOrTwice 27 = .ok (.iload 4, 2) := by decide +kernel
theorem dX12_onceOrTwice_29 : decode cX12_onceOrTwice 29 = .ok (.invokevirtual 259, 3) := by decide +kernel
theorem dX12_onceOrTwice_32 : decode cX12_onceOrTwice 32 = .ok (.iload_n 3, 1) := by decide +kernel
theorem dX12_onceOrTwice_33 : decode cX12_onceOrTwice 33 = .ok (.if_icmp .lt 5, 3) := by decide +kernel
theorem dX12_onceOrTwice_36 : decode cX12_onceOrTwice 36 = .ok (.iconst 0, 1) := by decide +kernel
theorem dX12_onceOrTwice_37 : decode cX12_onceOrTwice 37 = .ok (.ireturn, 1) := by decide +kernel
theorem dX12_onceOrTwice_38 : decode cX12_onceOrTwice 38 = .ok (.aload_n 0, 1) := by decide +kernel
theorem dX12_onceOrTwice_39 : decode cX12_onceOrTwice 39 = .ok (.iload 4, 2) := by decide +kernel
theorem dX12_onceOrTwice_41 : decode cX12_onceOrTwice 41 = .ok (.invokevirtual 247, 3) := by decide +kernel
theorem dX12_onceOrTwice_44 : decode cX12_onceOrTwice 44 = .ok (.ifCond .eq 19, 3) := by decide +kernel
theorem dX12_onceOrTwice_47 : decode cX12_onceOrTwice 47 = .ok (.aload_n 0, 1) := by decide +kernel
theorem dX12_onceOrTwice_48 : decode cX12_onceOrTwice 48 = .ok (.iload 4, 2) := by decide +kernel
theorem dX12_onceOrTwice_50 : decode cX12_onceOrTwice 50 = .ok (.invokevirtual 244, 3) := by decide +kernel
theorem dX12_onceOrTwice_53 : decode cX12_onceOrTwice 53 = .ok (.iload_n 1, 1) := by decide +kernel
theorem dX12_onceOrTwice_54 : decode cX12_onceOrTwice 54 = .ok (.if_icmp .ne 7, 3) := by decide +kernel
theorem dX12_onceOrTwice_57 : decode cX12_onceOrTwice 57 = .ok (.iconst 1, 1) := by decide +kernel
theorem dX12_onceOrTwice_58 : decode cX12_onceOrTwice 58 = .ok (.goto 4, 3) := by decide +kernel
theorem dX12_onceOrTwice_61 : decode cX12_onceOrTwice 61 = .ok (.iconst 0, 1) := by decide +kernel
theorem dX12_onceOrTwice_62 : decode cX12_onceOrTwice 62 = .ok (.ireturn, 1) := by decide +kernel
theorem dX12_onceOrTwice_63 : decode cX12_onceOrTwice 63 = .ok (.iinc 4 1, 3) := by decide +kernel
theorem dX12_onceOrTwice_66 : decode cX12_onceOrTwice 66 = .ok (.goto (-53), 3) := by decide +kernel
theorem dX12_onceOrTwice_69 : decode cX12_onceOrTwice 69 = .ok (.aload_n 0, 1) := by decide +kernel
theorem dX12_onceOrTwice_70 : decode cX12_onceOrTwice 70 = .ok (.getfield 40, 3) := by decide +kernel
theorem dX12_onceOrTwice_73 : decode cX12_onceOrTwice 73 = .ok (.sipush 354, 3) := by decide +kernel
theorem dX12_onceOrTwice_76 : decode cX12_onceOrTwice 76 = .ok (.iaload, 1) := by decide +kernel
theorem dX12_onceOrTwice_77 : decode cX12_onceOrTwice 77 = .ok (.iload_n 3, 1) := by decide +kernel
theorem dX12_onceOrTwice_78 : decode cX12_onceOrTwice 78 = .ok (.if_icmp .lt 7, 3) := by decide +kernel
theorem dX12_onceOrTwice_81 : decode cX12_onceOrTwice 81 = .ok (.iconst 0, 1) := by decide +kernel
theorem dX12_onceOrTwice_82 : decode cX12_onceOrTwice 82 = .ok (.goto 4, 3) := by decide +kernel
theorem dX12_onceOrTwice_85 : decode cX12_onceOrTwice 85 = .ok (.iconst (-1), 1) := by decide +kernel
theorem dX12_onceOrTwice_86 : decode cX12_onceOrTwice 86 = .ok (.ireturn, 1) := by decide +kernel
def rmX12_onceOrTwice : Room := { frames := 1, cells := 0, slots := 0, locals := 21 }
set_option maxRecDepth 100000 in
def fX12_onceOrTwice_J86 (N : Nat) (g : Gs) (x0 : Nat) (x1 : Int32) (x2 : Int32) (z0 : Int32) (d : Ds) : Option (Int32 × Ds) := some (z0, d)
set_option maxHeartbeats 4000000 in
set_option maxRecDepth 100000 in
theorem tX12_onceOrTwice_86 {p : Program} {l : Launch} {e : Env} {s : State} {m : MethodId} {args : Array Value} {below : List Frame} {meth : Method} {c : Code} {D : va_G} {cy : Nat → ClassId} {B : Bs} (C : Cx p s m args c cX12_onceOrTwice 5 RX12 D cy B) (hr : meth.sig.returnType = (some .int)) (hlocks : meth.locks = false) {N : Nat} {g : Gs} {x0 : Nat} {x1 : Int32} {x2 : Int32} {vz : Int32} {dz : Ds} {z0 : Int32} {d : Ds} (hf : fX12_onceOrTwice_J86 N g x0 x1 x2 z0 d = some (vz, dz)) : WB p l e rmX12_onceOrTwice s m args below meth c 5 D cy B 0 0 (MQ below (QI D cy B vz g dz) args s 0 0 (wA B)) g d [(0, .ref (ad B x0)), (1, .int x1), (2, .int x2)] 86 [.int z0] := by
  unfold fX12_onceOrTwice_J86 at hf
  exact b_iret C hr hlocks hf dX12_onceOrTwice_86
set_option maxRecDepth 100000 in
def fX12_onceOrTwice_J62 (N : Nat) (g : Gs) (x0 : Nat) (x1 : Int32) (x2 : Int32) (z0 : Int32) (d : Ds) : Option (Int32 × Ds) := some (z0, d)
set_option maxHeartbeats 4000000 in
set_option maxRecDepth 100000 in
theorem tX12_onceOrTwice_62 {p : Program} {l : Launch} {e : Env} {s : State} {m : MethodId} {args : Array Value} {below : List Frame} {meth : Method} {c : Code} {D : va_G} {cy : Nat → ClassId} {B : Bs} (C : Cx p s m args c cX12_onceOrTwice 5 RX12 D cy B) (hr : meth.sig.returnType = (some .int)) (hlocks : meth.locks = false) {N : Nat} {g : Gs} {x0 : Nat} {x1 : Int32} {x2 : Int32} {vz : Int32} {dz : Ds} {z0 : Int32} {d : Ds} (hf : fX12_onceOrTwice_J62 N g x0 x1 x2 z0 d = some (vz, dz)) : WB p l e rmX12_onceOrTwice s m args below meth c 5 D cy B 0 0 (MQ below (QI D cy B vz g dz) args s 0 0 (wA B)) g d [(0, .ref (ad B x0)), (1, .int x1), (2, .int x2)] 62 [.int z0] := by
  unfold fX12_onceOrTwice_J62 at hf
  exact b_iret C hr hlocks hf dX12_onceOrTwice_62
set_option maxRecDepth 100000 in
def fX12_onceOrTwice_B13 (N : Nat) (g : Gs) (x0 : Nat) (x1 : Int32) (x2 : Int32) (K13 : Int32 × Int32 × Ds → Option (Int32 × Ds)) (y3 : Int32) (y4 : Int32) (d : Ds) : Option (Int32 × Ds) := gd (chk g x0 11) <| ob (gR g x0 17) fun r7 => (gd (chk g r7 102) <| gd (¬ ((557 : Int32) < 0 ∨ gL g r7 ≤ (557 : Int32).toNatClampNeg)) <| if (dI d r7 (557 : Int32).toNatClampNeg) ≤ y4 then (gd (¬ ((354 : Int32) < 0 ∨ gL g r7 ≤ (354 : Int32).toNatClampNeg)) <| if (dI d r7 (354 : Int32).toNatClampNeg) < y3 then (fX12_onceOrTwice_J86 N g x0 x1 x2 (-1) d) else (fX12_onceOrTwice_J86 N g x0 x1 x2 0 d)) else (cb (fX12_timeAt N g x0 y4 d) fun u15 d13 => (if u15 < y3 then (cb (fX12_isDownAt N g x0 y4 d13) fun u19 d17 => (if u19 = 0 then (bd (y4 + 1) fun u21 => (K13 (y3, u21, d17))) else (cb (fX12_keyAt N g x0 y4 d17) fun u24 d22 => (if u24 = x1 then (fX12_onceOrTwice_J62 N g x0 x1 x2 1 d22) else (fX12_onceOrTwice_J62 N g x0 x1 x2 0 d22))))) else (some (0, d13)))))
set_option maxHeartbeats 4000000 in
set_option maxRecDepth 100000 in
theorem tX12_onceOrTwice_13 {p : Program} {l : Launch} {e : Env} {s : State} {m : MethodId} {args : Array Value} {below : List Frame} {meth : Method} {c : Code} {D : va_G} {cy : Nat → ClassId} {B : Bs} (C : Cx p s m args c cX12_onceOrTwice 5 RX12 D cy B) (hr : meth.sig.returnType = (some .int)) (hlocks : meth.locks = false) {N : Nat} {g : Gs} {x0 : Nat} {x1 : Int32} {x2 : Int32} {vz : Int32} {dz : Ds} {K13 : Int32 × Int32 × Ds → Option (Int32 × Ds)} (hK13 : ∀ a, K13 a = some (vz, dz) → WB p l e rmX12_onceOrTwice s m args below meth c 5 D cy B 0 0 (MQ below (QI D cy B vz g dz) args s 0 0 (wA B)) g a.2.2 [(0, .ref (ad B x0)), (1, .int x1), (2, .int x2), (3, .int a.1), (4, .int a.2.1)] 13 []) {y3 : Int32} {y4 : Int32} {d : Ds} (hf : fX12_onceOrTwice_B13 N g x0 x1 x2 K13 y3 y4 d = some (vz, dz)) : WB p l e rmX12_onceOrTwice s m args below meth c 5 D cy B 0 0 (MQ below (QI D cy B vz g dz) args s 0 0 (wA B)) g d [(0, .ref (ad B x0)), (1, .int x1), (2, .int x2), (3, .int y3), (4, .int y4)] 13 [] := by
  unfold fX12_onceOrTwice_B13 at hf
  refine b_iload C dX12_onceOrTwice_13 4 rfl ?_
  refine b_aload_n C dX12_onceOrTwice_15 0 rfl rfl ?_
  obtain ⟨h6, hf⟩ := gd_s hf
  obtain ⟨r7, er7, hf⟩ := ob_s hf
  refine b_gR C dX12_onceOrTwice_16 fl_X12_40 h6 er7 ?_
  refine b_sipush C (v := 557) dX12_onceOrTwice_19 (by decide) ?_
  obtain ⟨h8, hf⟩ := gd_s hf
  obtain ⟨h9, hf⟩ := gd_s hf
  refine b_iald C h8 h9 dX12_onceOrTwice_22 ?_
  refine b_icmp_ge C (tgt := 69) dX12_onceOrTwice_23 (by decide) (fun c10 => ?_) (fun c10 => ?_)
  · have hf := it_s c10 hf
    refine b_aload_n C dX12_onceOrTwice_69 0 rfl rfl ?_
    refine b_gR C dX12_onceOrTwice_70 fl_X12_40 h6 er7 ?_
    refine b_sipush C (v := 354) dX12_onceOrTwice_73 (by decide) ?_
    obtain ⟨h11, hf⟩ := gd_s hf
    refine b_iald C h8 h11 dX12_onceOrTwice_76 ?_
    refine b_iload_n C dX12_onceOrTwice_77 3 rfl rfl ?_
    refine b_icmp_lt C (tgt := 85) dX12_onceOrTwice_78 (by decide) (fun c12 => ?_) (fun c12 => ?_)
    · have hf := it_s c12 hf
      refine b_iconst C (v := (-1)) dX12_onceOrTwice_85 (by decide) ?_
      refine b_sub [(0, .ref (ad B x0)), (1, .int x1), (2, .int x2)] [0, 1, 2] rfl ?_
      exact tX12_onceOrTwice_86 C hr hlocks hf
    · have hf := if_s c12 hf
      refine b_iconst C (v := 0) dX12_onceOrTwice_81 (by decide) ?_
      refine b_goto C (tgt := 86) dX12_onceOrTwice_82 (by decide) ?_
      refine b_sub [(0, .ref (ad B x0)), (1, .int x1), (2, .int x2)] [0, 1, 2] rfl ?_
      exact tX12_onceOrTwice_86 C hr hlocks hf
  · have hf := if_s c10 hf
    refine b_aload_n C dX12_onceOrTwice_26 0 rfl rfl ?_
    refine b_iload C dX12_onceOrTwice_27 4 rfl ?_
    obtain ⟨u15, d13, k14, hf⟩ := cb_s hf
    refine b_cVI C [] dX12_onceOrTwice_29 (kX12_timeAt l D cy B k14) lv_X12_259 ⟨rfl, rfl, Nat.le_of_ble_eq_true rfl, Nat.le_of_ble_eq_true rfl⟩ h6 (by decide) rfl (Nat.le_of_ble_eq_true rfl) ⟨Nat.zero_le _, Nat.zero_le _⟩ rfl ?_
    refine b_iload_n C dX12_onceOrTwice_32 3 rfl rfl ?_
    refine b_icmp_lt C (tgt := 38) dX12_onceOrTwice_33 (by decide) (fun c16 => ?_) (fun c16 => ?_)
    · have hf := it_s c16 hf
      refine b_aload_n C dX12_onceOrTwice_38 0 rfl rfl ?_
      refine b_iload C dX12_onceOrTwice_39 4 rfl ?_
      obtain ⟨u19, d17, k18, hf⟩ := cb_s hf
      refine b_cVI C [] dX12_onceOrTwice_41 (kX12_isDownAt l D cy B k18) lv_X12_247 ⟨rfl, rfl, Nat.le_of_ble_eq_true rfl, Nat.le_of_ble_eq_true rfl⟩ h6 (by decide) rfl (Nat.le_of_ble_eq_true rfl) ⟨Nat.zero_le _, Nat.zero_le _⟩ rfl ?_
      refine b_if_eq C (tgt := 63) dX12_onceOrTwice_44 (by decide) (fun c20 => ?_) (fun c20 => ?_)
      · have hf := it_s c20 hf
        obtain ⟨u21, eu21, hf⟩ := bd_s hf
        refine b_iinc C dX12_onceOrTwice_63 4 rfl (by rw [eu21]; rfl) [(4, .int u21), (0, .ref (ad B x0)), (1, .int x1), (2, .int x2), (3, .int y3)] (by decide) rfl ?_
        refine b_goto C (tgt := 13) dX12_onceOrTwice_66 (by decide) ?_
        refine b_sub [(0, .ref (ad B x0)), (1, .int x1), (2, .int x2), (3, .int y3), (4, .int u21)] [1, 2, 3, 4, 0] rfl ?_
        exact hK13 (y3, u21, d17) hf
      · have hf := if_s c20 hf
        refine b_aload_n C dX12_onceOrTwice_47 0 rfl rfl ?_
        refine b_iload C dX12_onceOrTwice_48 4 rfl ?_
        obtain ⟨u24, d22, k23, hf⟩ := cb_s hf
        refine b_cVI C [] dX12_onceOrTwice_50 (kX12_keyAt l D cy B k23) lv_X12_244 ⟨rfl, rfl, Nat.le_of_ble_eq_true rfl, Nat.le_of_ble_eq_true rfl⟩ h6 (by decide) rfl (Nat.le_of_ble_eq_true rfl) ⟨Nat.zero_le _, Nat.zero_le _⟩ rfl ?_
        refine b_iload_n C dX12_onceOrTwice_53 1 rfl rfl ?_
        refine b_icmp_ne C (tgt := 61) dX12_onceOrTwice_54 (by decide) (fun c25 => ?_) (fun c25 => ?_)
        · have hf := if_s c25 hf
          refine b_iconst C (v := 0) dX12_onceOrTwice_61 (by decide) ?_
          refine b_sub [(0, .ref (ad B x0)), (1, .int x1), (2, .int x2)] [0, 1, 2] rfl ?_
          exact tX12_onceOrTwice_62 C hr hlocks hf
        · have hf := it_s c25 hf
          refine b_iconst C (v := 1) dX12_onceOrTwice_57 (by decide) ?_
          refine b_goto C (tgt := 62) dX12_onceOrTwice_58 (by decide) ?_
          refine b_sub [(0, .ref (ad B x0)), (1, .int x1), (2, .int x2)] [0, 1, 2] rfl ?_
          exact tX12_onceOrTwice_62 C hr hlocks hf
    · have hf := if_s c16 hf
      refine b_iconst C (v := 0) dX12_onceOrTwice_36 (by decide) ?_
      exact b_iret C hr hlocks hf dX12_onceOrTwice_37
def fX12_onceOrTwice_L13 (N : Nat) (g : Gs) (x0 : Nat) (x1 : Int32) (x2 : Int32) : Int32 × Int32 × Ds → Option (Int32 × Ds) := lp (fun K13 a => fX12_onceOrTwice_B13 N g x0 x1 x2 K13 a.1 a.2.1 a.2.2) N
theorem tX12_onceOrTwice_L13 {p : Program} {l : Launch} {e : Env} {s : State} {m : MethodId} {args : Array Value} {below : List Frame} {meth : Method} {c : Code} {D : va_G} {cy : Nat → ClassId} {B : Bs} (C : Cx p s m args c cX12_onceOrTwice 5 RX12 D cy B) (hr : meth.sig.returnType = (some .int)) (hlocks : meth.locks = false) {N : Nat} {g : Gs} {x0 : Nat} {x1 : Int32} {x2 : Int32} {vz : Int32} {dz : Ds} (a : Int32 × Int32 × Ds) (hf : fX12_onceOrTwice_L13 N g x0 x1 x2 a = some (vz, dz)) : WB p l e rmX12_onceOrTwice s m args below meth c 5 D cy B 0 0 (MQ below (QI D cy B vz g dz) args s 0 0 (wA B)) g a.2.2 [(0, .ref (ad B x0)), (1, .int x1), (2, .int x2), (3, .int a.1), (4, .int a.2.1)] 13 [] :=
  lp_w (fun K13 hK13 a ha => tX12_onceOrTwice_13 C hr hlocks hK13 ha) N a hf
set_option maxRecDepth 100000 in
def fX12_onceOrTwice (N : Nat) (g : Gs) (x0 : Nat) (x1 : Int32) (x2 : Int32) (d : Ds) : Option (Int32 × Ds) := gd (chk g x0 11) <| ob (gR g x0 17) fun r2 => (gd (chk g r2 102) <| gd (¬ ((7 : Int32) < 0 ∨ gL g r2 ≤ (7 : Int32).toNatClampNeg)) <| bd ((x2 + (dI d r2 (7 : Int32).toNatClampNeg))) fun u5 => (fX12_onceOrTwice_L13 N g x0 x1 x2 (u5, 1, d)))
set_option maxHeartbeats 4000000 in
set_option maxRecDepth 100000 in
theorem tX12_onceOrTwice_E {p : Program} {l : Launch} {e : Env} {s : State} {m : MethodId} {args : Array Value} {below : List Frame} {meth : Method} {c : Code} {D : va_G} {cy : Nat → ClassId} {B : Bs} (C : Cx p s m args c cX12_onceOrTwice 5 RX12 D cy B) (hr : meth.sig.returnType = (some .int)) (hlocks : meth.locks = false) {N : Nat} {g : Gs} {x0 : Nat} {x1 : Int32} {x2 : Int32} {vz : Int32} {dz : Ds} {d : Ds} (hf : fX12_onceOrTwice N g x0 x1 x2 d = some (vz, dz)) : WB p l e rmX12_onceOrTwice s m args below meth c 5 D cy B 0 0 (MQ below (QI D cy B vz g dz) args s 0 0 (wA B)) g d [(0, .ref (ad B x0)), (1, .int x1), (2, .int x2)] 0 [] := by
  unfold fX12_onceOrTwice at hf
  refine b_iload_n C dX12_onceOrTwice_0 2 rfl rfl ?_
  refine b_aload_n C dX12_onceOrTwice_1 0 rfl rfl ?_
  obtain ⟨h1, hf⟩ := gd_s hf
  obtain ⟨r2, er2, hf⟩ := ob_s hf
  refine b_gR C dX12_onceOrTwice_2 fl_X12_40 h1 er2 ?_
  refine b_bipush C (v := 7) dX12_onceOrTwice_5 (by decide) ?_
  obtain ⟨h3, hf⟩ := gd_s hf
  obtain ⟨h4, hf⟩ := gd_s hf
  refine b_iald C h3 h4 dX12_onceOrTwice_7 ?_
  refine b_iadd C dX12_onceOrTwice_8 ?_
  obtain ⟨u5, eu5, hf⟩ := bd_s hf
  refine b_topI eu5 ?_
  refine b_istore_n C dX12_onceOrTwice_9 rfl [(3, .int u5), (0, .ref (ad B x0)), (1, .int x1), (2, .int x2)] (by decide) rfl ?_
  refine b_iconst C (v := 1) dX12_onceOrTwice_10 (by decide) ?_
  refine b_istore C dX12_onceOrTwice_11 [(4, .int 1), (3, .int u5), (0, .ref (ad B x0)), (1, .int x1), (2, .int x2)] (by decide) rfl ?_
  refine b_sub [(0, .ref (ad B x0)), (1, .int x1), (2, .int x2), (3, .int u5), (4, .int 1)] [2, 3, 4, 1, 0] rfl ?_
  exact tX12_onceOrTwice_L13 C hr hlocks (u5, 1, d) hf
theorem kX12_onceOrTwice (l : Launch) (D : va_G) (cy : Nat → ClassId) (B : Bs) {N : Nat} {g : Gs} {x0 : Nat} {x1 : Int32} {x2 : Int32} {vz : Int32} {dz : Ds} {d : Ds} (hf : fX12_onceOrTwice N g x0 x1 x2 d = some (vz, dz)) : Met l yX12_onceOrTwice (.code yX12_onceOrTwice cX12_onceOrTwice 5 (some .int) :: wl) rmX12_onceOrTwice (PC D cy B [.ref (ad B x0), .int x1, .int x2] g d) (QI D cy B vz g dz) 0 0 (wA B) :=
  met_of (by decide +kernel) (Nat.le_of_ble_eq_true rfl) (fun p e s m args below meth c C hr hlocks _ => b_sub [(0, .ref (ad B x0)), (1, .int x1), (2, .int x2)] [0, 1, 2] rfl (tX12_onceOrTwice_E C hr hlocks hf))
