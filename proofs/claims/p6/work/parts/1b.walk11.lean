/-! KeyMatrixModel.timeAt(I)I -/
theorem dX12_timeAt_0 : decode cX12_timeAt 0 = .ok (.aload_n 0, 1) := by decide +kernel
theorem dX12_timeAt_1 : decode cX12_timeAt 1 = .ok (.getfield 40, 3) := by decide +kernel
theorem dX12_timeAt_4 : decode cX12_timeAt 4 = .ok (.sipush 1678, 3) := by decide +kernel
theorem dX12_timeAt_7 : decode cX12_timeAt 7 = .ok (.iconst 3, 1) := by decide +kernel
theorem dX12_timeAt_8 : decode cX12_timeAt 8 = .ok (.iload_n 1, 1) := by decide +kernel
theorem dX12_timeAt_9 : decode cX12_timeAt 9 = .ok (.imul, 1) := by decide +kernel
theorem dX12_timeAt_10 : decode cX12_timeAt 10 = .ok (.iadd, 1) := by decide +kernel
theorem dX12_timeAt_11 : decode cX12_timeAt 11 = .ok (.iconst 2, 1) := by decide +kernel
theorem dX12_timeAt_12 : decode cX12_timeAt 12 = .ok (.iadd, 1) := by decide +kernel
theorem dX12_timeAt_13 : decode cX12_timeAt 13 = .ok (.iaload, 1) := by decide +kernel
theorem dX12_timeAt_14 : decode cX12_timeAt 14 = .ok (.ireturn, 1) := by decide +kernel
def rmX12_timeAt : Room := { frames := 0, cells := 0, slots := 0, locals := 0 }
set_option maxRecDepth 100000 in
def fX12_timeAt (N : Nat) (g : Gs) (x0 : Nat) (x1 : Int32) (d : Ds) : Option (Int32 × Ds) := gd (chk g x0 11) <| ob (gR g x0 17) fun r2 => (gd (chk g r2 102) <| gd (¬ ((((1678 : Int32) + ((3 : Int32) * x1)) + 2) < 0 ∨ gL g r2 ≤ (((1678 : Int32) + ((3 : Int32) * x1)) + 2).toNatClampNeg)) <| some ((dI d r2 (((1678 : Int32) + ((3 : Int32) * x1)) + 2).toNatClampNeg), d))
set_option maxHeartbeats 4000000 in
set_option maxRecDepth 100000 in
theorem tX12_timeAt_E {p : Program} {l : Launch} {e : Env} {s : State} {m : MethodId} {args : Array Value} {below : List Frame} {meth : Method} {c : Code} {D : va_G} {cy : Nat → ClassId} {B : Bs} (C : Cx p s m args c cX12_timeAt 2 RX12 D cy B) (hr : meth.sig.returnType = (some .int)) (hlocks : meth.locks = false) {N : Nat} {g : Gs} {x0 : Nat} {x1 : Int32} {vz : Int32} {dz : Ds} {d : Ds} (hf : fX12_timeAt N g x0 x1 d = some (vz, dz)) : WB p l e rmX12_timeAt s m args below meth c 2 D cy B 0 0 (MQ below (QI D cy B vz g dz) args s 0 0 (wA B)) g d [(0, .ref (ad B x0)), (1, .int x1)] 0 [] := by
  unfold fX12_timeAt at hf
  refine b_aload_n C dX12_timeAt_0 0 rfl rfl ?_
  obtain ⟨h1, hf⟩ := gd_s hf
  obtain ⟨r2, er2, hf⟩ := ob_s hf
  refine b_gR C dX12_timeAt_1 fl_X12_40 h1 er2 ?_
  refine b_sipush C (v := 1678) dX12_timeAt_4 (by decide) ?_
  refine b_iconst C (v := 3) dX12_timeAt_7 (by decide) ?_
  refine b_iload_n C dX12_timeAt_8 1 rfl rfl ?_
  refine b_imul C dX12_timeAt_9 ?_
  refine b_iadd C dX12_timeAt_10 ?_
  refine b_iconst C (v := 2) dX12_timeAt_11 (by decide) ?_
  refine b_iadd C dX12_timeAt_12 ?_
  obtain ⟨h3, hf⟩ := gd_s hf
  obtain ⟨h4, hf⟩ := gd_s hf
  refine b_iald C h3 h4 dX12_timeAt_13 ?_
  exact b_iret C hr hlocks hf dX12_timeAt_14
theorem kX12_timeAt (l : Launch) (D : va_G) (cy : Nat → ClassId) (B : Bs) {N : Nat} {g : Gs} {x0 : Nat} {x1 : Int32} {vz : Int32} {dz : Ds} {d : Ds} (hf : fX12_timeAt N g x0 x1 d = some (vz, dz)) : Met l yX12_timeAt (.code yX12_timeAt cX12_timeAt 2 (some .int) :: wl) rmX12_timeAt (PC D cy B [.ref (ad B x0), .int x1] g d) (QI D cy B vz g dz) 0 0 (wA B) :=
  met_of (by decide +kernel) (Nat.le_of_ble_eq_true rfl) (fun p e s m args below meth c C hr hlocks _ => b_sub [(0, .ref (ad B x0)), (1, .int x1)] [0, 1] rfl (tX12_timeAt_E C hr hlocks hf))
/-! KeyMatrixModel.plays(I)V -/
theorem yo_X12_reports : yX12_reports.cls ≠ "java/lang/invoke/MethodHandle" ∧ yX12_reports.cls ≠ "java/lang/invoke/VarHandle" ∧ (parseMethodDescriptor yX12_reports.desc).map (fun d => d.parameters.length) = some 0 := by decide +kernel
theorem co_X12_reports : Cond.code yX12_reports cX12_reports 4 none ∈ wl := mW (mT6 (List.mem_of_getElem? (i := 155) (by decide +kernel))) rfl
theorem in_X12_reports : Cond.initialized yX12_reports.cls ∈ wl := mW (mT1 (List.mem_of_getElem? (i := 12) (by decide +kernel))) rfl
theorem im_X12_reports : Cond.instanceMethod yX12_reports ∈ wl := mW (mT6 (List.mem_of_getElem? (i := 154) (by decide +kernel))) rfl
theorem se_X12_reports : Cond.selects yX12_reports.cls yX12_reports yX12_reports ∈ wl := mW (mT0 (List.mem_of_getElem? (i := 70) (by decide +kernel))) rfl
theorem lv_X12_256 : LV RX12 256 yX12_reports cX12_reports 4 none 0 11 := ⟨⟨(RX12, TX12, 33), rfl, rfl⟩, yo_X12_reports, mW (mT6 (List.mem_of_getElem? (i := 152) (by decide +kernel))) rfl, im_X12_reports, se_X12_reports, in_X12_reports, co_X12_reports⟩
theorem dX12_plays_0 : decode cX12_plays 0 = .ok (.iload_n 1, 1) := by decide +kernel
theorem dX12_plays_1 : decode cX12_plays 1 = .ok (.aload_n 0, 1) := by decide +kernel
theorem dX12_plays_2 : decode cX12_plays 2 = .ok (.getfield 40, 3) := by decide +kernel
theorem dX12_plays_5 : decode cX12_plays 5 = .ok (.bipush 11, 2) := by decide +kernel
theorem dX12_plays_7 : decode cX12_plays 7 = .ok (.iaload, 1) := by decide +kernel
theorem dX12_plays_8 : decode cX12_plays 8 = .ok (.if_icmp .lt 4, 3) := by decide +kernel
theorem dX12_plays_11 : decode cX12_plays 11 = .ok (.return_, 1) := by decide +kernel
theorem dX12_plays_12 : decode cX12_plays 12 = .ok (.sipush 316, 3) := by decide +kernel
theorem dX12_plays_15 : decode cX12_plays 15 = .ok (.bipush 9, 2) := by decide +kernel
theorem dX12_plays_17 : decode cX12_plays 17 = .ok (.iload_n 1, 1) := by decide +kernel
theorem dX12_plays_18 : decode cX12_plays 18 = .ok (.imul, 1) := by decide +kernel
theorem dX12_plays_19 : decode cX12_plays 19 = .ok (.iadd, 1) := by decide +kernel
theorem dX12_plays_20 : decode cX12_plays 20 = .ok (.istore_n 2, 1) := by decide +kernel
theorem dX12_plays_21 : decode cX12_plays 21 = .ok (.iconst 1, 1) := by decide +kernel
theorem dX12_plays_22 : decode cX12_plays 22 = .ok (.istore_n 3, 1) := by decide +kernel
theorem dX12_plays_23 : decode cX12_plays 23 = .ok (.iload_n 3, 1) := by decide +kernel
theorem dX12_plays_24 : decode cX12_plays 24 = .ok (.aload_n 0, 1) := by decide +kernel
theorem dX12_plays_25 : decode cX12_plays 25 = .ok (.getfield 40, 3) := by decide +kernel
theorem dX12_plays_28 : decode cX12_plays 28 = .ok (.iload_n 2, 1) := by decide +kernel
theorem dX12_plays_29 : decode cX12_plays 29 = .ok (.iaload, 1) := by decide +kernel
theorem dX12_plays_30 : decode cX12_plays 30 = .ok (.if_icmp .gt 42, 3) := by decide +kernel
theorem dX12_plays_33 : decode cX12_plays 33 = .ok (.aload_n 0, 1) := by decide +kernel
theorem dX12_plays_34 : decode cX12_plays 34 = .ok (.getfield 40, 3) := by decide +kernel
theorem dX12_plays_37 : decode cX12_plays 37 = .ok (.sipush 454, 3) := by decide +kernel
theorem dX12_plays_40 : decode cX12_plays 40 = .ok (.aload_n 0, 1) := by decide +kernel
theorem dX12_plays_41 : decode cX12_plays 41 = .ok (.getfield 40, 3) := by decide +kernel
theorem dX12_plays_44 : decode cX12_plays 44 = .ok (.iload_n 2, 1) := by decide +kernel
theorem dX12_plays_45 : decode cX12_plays 45 = .ok (.iload_n 3, 1) := by decide +kernel
theorem dX12_plays_46 : decode cX12_plays 46 = .ok (.iadd, 1) := by decide +kernel
theorem dX12_plays_47 : decode cX12_plays 47 = .ok (.iaload, 1) := by decide +kernel
theorem dX12_plays_48 : decode cX12_plays 48 = .ok (.iastore, 1) := by decide +kernel
theorem dX12_plays_49 : decode cX12_plays 49 = .ok (.aload_n 0, 1) := by decide +kernel
theorem dX12_plays_50 : decode cX12_plays 50 = .ok (.invokevirtual 256, 3) := by decide +kernel
theorem dX12_plays_53 : decode cX12_plays 53 = .ok (.aload_n 0, 1) := by decide +kernel
theorem dX12_plays_54 : decode cX12_plays 54 = .ok (.getfield 40, 3) := by decide +kernel
theorem dX12_plays_57 : decode cX12_plays 57 = .ok (.sipush 454, 3) := by decide +kernel
theorem dX12_plays_60 : decode cX12_plays 60 = .ok (.iconst (-1), 1) := by decide +kernel
theorem dX12_plays_61 : decode cX12_plays 61 = .ok (.iastore, 1) := by decide +kernel
theorem dX12_plays_62 : decode cX12_plays 62 = .ok (.aload_n 0, 1) := by decide +kernel
theorem dX12_plays_63 : decode cX12_plays 63 = .ok (.invokevirtual 256, 3) := by decide +kernel
theorem dX12_plays_66 : decode cX12_plays 66 = .ok (.iinc 3 1, 3) := by decide +kernel
theorem dX12_plays_69 : decode cX12_plays 69 = .ok (.goto (-46), 3) := by decide +kernel
theorem dX12_plays_72 : decode cX12_plays 72 = .ok (.return_, 1) := by decide +kernel
def rmX12_plays : Room := { frames := 3, cells := 0, slots := 0, locals := 70 }
set_option maxRecDepth 100000 in
def fX12_plays_B23 (N : Nat) (g : Gs) (x0 : Nat) (x1 : Int32) (K23 : Int32 × Int32 × Ds → Option (Unit × Ds)) (y2 : Int32) (y3 : Int32) (d : Ds) : Option (Unit × Ds) := gd (chk g x0 11) <| ob (gR g x0 17) fun r8 => (gd (chk g r8 102) <| gd (¬ (y2 < 0 ∨ gL g r8 ≤ y2.toNatClampNeg)) <| if (dI d r8 y2.toNatClampNeg) < y3 then (some ((), d)) else (gd (¬ ((y2 + y3) < 0 ∨ gL g r8 ≤ (y2 + y3).toNatClampNeg)) <| gd (¬ ((454 : Int32) < 0 ∨ gL g r8 ≤ (454 : Int32).toNatClampNeg)) <| bd (sI d r8 (454 : Int32).toNatClampNeg (dI d r8 (y2 + y3).toNatClampNeg)) fun d14 => (cv (fX12_reports N g x0 d14) fun d15 => (bd (sI d15 r8 (454 : Int32).toNatClampNeg (-1)) fun d17 => (cv (fX12_reports N g x0 d17) fun d18 => (bd (y3 + 1) fun u20 => (K23 (y2, u20, d18))))))))
set_option maxHeartbeats 4000000 in
set_option maxRecDepth 100000 in
theorem tX12_plays_23 {p : Program} {l : Launch} {e : Env} {s : State} {m : MethodId} {args : Array Value} {below : List Frame} {meth : Method} {c : Code} {D : va_G} {cy : Nat → ClassId} {B : Bs} (C : Cx p s m args c cX12_plays 4 RX12 D cy B) (hr : meth.sig.returnType = none) (hlocks : meth.locks = false) {N : Nat} {g : Gs} {x0 : Nat} {x1 : Int32}  {dz : Ds} {K23 : Int32 × Int32 × Ds → Option (Unit × Ds)} (hK23 : ∀ a, K23 a = some ((), dz) → WB p l e rmX12_plays s m args below meth c 4 D cy B 0 0 (MQ below (QV D cy B g dz) args s 0 0 (wA B)) g a.2.2 [(0, .ref (ad B x0)), (1, .int x1), (2, .int a.1), (3, .int a.2.1)] 23 []) {y2 : Int32} {y3 : Int32} {d : Ds} (hf : fX12_plays_B23 N g x0 x1 K23 y2 y3 d = some ((), dz)) : WB p l e rmX12_plays s m args below meth c 4 D cy B 0 0 (MQ below (QV D cy B g dz) args s 0 0 (wA B)) g d [(0, .ref (ad B x0)), (1, .int x1), (2, .int y2), (3, .int y3)] 23 [] := by
  unfold fX12_plays_B23 at hf
  refine b_iload_n C dX12_plays_23 3 rfl rfl ?_
  refine b_aload_n C dX12_plays_24 0 rfl rfl ?_
  obtain ⟨h7, hf⟩ := gd_s hf
  obtain ⟨r8, er8, hf⟩ := ob_s hf
  refine b_gR C dX12_plays_25 fl_X12_40 h7 er8 ?_
  refine b_iload_n C dX12_plays_28 2 rfl rfl ?_
  obtain ⟨h9, hf⟩ := gd_s hf
  obtain ⟨h10, hf⟩ := gd_s hf
  refine b_iald C h9 h10 dX12_plays_29 ?_
  refine b_icmp_gt C (tgt := 72) dX12_plays_30 (by decide) (fun c11 => ?_) (fun c11 => ?_)
  · have hf := it_s c11 hf
    exact b_vret C hr hlocks hf dX12_plays_72
  · have hf := if_s c11 hf
    refine b_aload_n C dX12_plays_33 0 rfl rfl ?_
    refine b_gR C dX12_plays_34 fl_X12_40 h7 er8 ?_
    refine b_sipush C (v := 454) dX12_plays_37 (by decide) ?_
    refine b_aload_n C dX12_plays_40 0 rfl rfl ?_
    refine b_gR C dX12_plays_41 fl_X12_40 h7 er8 ?_
    refine b_iload_n C dX12_plays_44 2 rfl rfl ?_
    refine b_iload_n C dX12_plays_45 3 rfl rfl ?_
    refine b_iadd C dX12_plays_46 ?_
    obtain ⟨h12, hf⟩ := gd_s hf
    refine b_iald C h9 h12 dX12_plays_47 ?_
    obtain ⟨h13, hf⟩ := gd_s hf
    obtain ⟨d14, ed14, hf⟩ := bd_s hf
    refine b_iast C h9 h13 ed14 dX12_plays_48 ?_
    refine b_aload_n C dX12_plays_49 0 rfl rfl ?_
    obtain ⟨d15, k16, hf⟩ := cv_s hf
    refine b_cVN C [] dX12_plays_50 (kX12_reports l D cy B k16) lv_X12_256 ⟨rfl, rfl, Nat.le_of_ble_eq_true rfl, Nat.le_of_ble_eq_true rfl⟩ h7 (by decide) rfl (Nat.le_of_ble_eq_true rfl) ⟨Nat.zero_le _, Nat.zero_le _⟩ rfl ?_
    refine b_aload_n C dX12_plays_53 0 rfl rfl ?_
    refine b_gR C dX12_plays_54 fl_X12_40 h7 er8 ?_
    refine b_sipush C (v := 454) dX12_plays_57 (by decide) ?_
    refine b_iconst C (v := (-1)) dX12_plays_60 (by decide) ?_
    obtain ⟨d17, ed17, hf⟩ := bd_s hf
    refine b_iast C h9 h13 ed17 dX12_plays_61 ?_
    refine b_aload_n C dX12_plays_62 0 rfl rfl ?_
    obtain ⟨d18, k19, hf⟩ := cv_s hf
    refine b_cVN C [] dX12_plays_63 (kX12_reports l D cy B k19) lv_X12_256 ⟨rfl, rfl, Nat.le_of_ble_eq_true rfl, Nat.le_of_ble_eq_true rfl⟩ h7 (by decide) rfl (Nat.le_of_ble_eq_true rfl) ⟨Nat.zero_le _, Nat.zero_le _⟩ rfl ?_
    obtain ⟨u20, eu20, hf⟩ := bd_s hf
    refine b_iinc C dX12_plays_66 3 rfl (by rw [eu20]; rfl) [(3, .int u20), (0, .ref (ad B x0)), (1, .int x1), (2, .int y2)] (by decide) rfl ?_
    refine b_goto C (tgt := 23) dX12_plays_69 (by decide) ?_
    refine b_sub [(0, .ref (ad B x0)), (1, .int x1), (2, .int y2), (3, .int u20)] [1, 2, 3, 0] rfl ?_
    exact hK23 (y2, u20, d18) hf
def fX12_plays_L23 (N : Nat) (g : Gs) (x0 : Nat) (x1 : Int32) : Int32 × Int32 × Ds → Option (Unit × Ds) := lp (fun K23 a => fX12_plays_B23 N g x0 x1 K23 a.1 a.2.1 a.2.2) N
theorem tX12_plays_L23 {p : Program} {l : Launch} {e : Env} {s : State} {m : MethodId} {args : Array Value} {below : List Frame} {meth : Method} {c : Code} {D : va_G} {cy : Nat → ClassId} {B : Bs} (C : Cx p s m args c cX12_plays 4 RX12 D cy B) (hr : meth.sig.returnType = none) (hlocks : meth.locks = false) {N : Nat} {g : Gs} {x0 : Nat} {x1 : Int32}  {dz : Ds} (a : Int32 × Int32 × Ds) (hf : fX12_plays_L23 N g x0 x1 a = some ((), dz)) : WB p l e rmX12_plays s m args below meth c 4 D cy B 0 0 (MQ below (QV D cy B g dz) args s 0 0 (wA B)) g a.2.2 [(0, .ref (ad B x0)), (1, .int x1), (2, .int a.1), (3, .int a.2.1)] 23 [] :=
  lp_w (fun K23 hK23 a ha => tX12_plays_23 C hr hlocks hK23 ha) N a hf
set_option maxRecDepth 100000 in
def fX12_plays (N : Nat) (g : Gs) (x0 : Nat) (x1 : Int32) (d : Ds) : Option (Unit × Ds) := gd (chk g x0 11) <| ob (gR g x0 17) fun r2 => (gd (chk g r2 102) <| gd (¬ ((11 : Int32) < 0 ∨ gL g r2 ≤ (11 : Int32).toNatClampNeg)) <| if x1 < (dI d r2 (11 : Int32).toNatClampNeg) then (bd (((316 : Int32) + ((9 : Int32) * x1))) fun u6 => (fX12_plays_L23 N g x0 x1 (u6, 1, d))) else (some ((), d)))
set_option maxHeartbeats 4000000 in
set_option maxRecDepth 100000 in
theorem tX12_plays_E {p : Program} {l : Launch} {e : Env} {s : State} {m : MethodId} {args : Array Value} {below : List Frame} {meth : Method} {c : Code} {D : va_G} {cy : Nat → ClassId} {B : Bs} (C : Cx p s m args c cX12_plays 4 RX12 D cy B) (hr : meth.sig.returnType = none) (hlocks : meth.locks = false) {N : Nat} {g : Gs} {x0 : Nat} {x1 : Int32}  {dz : Ds} {d : Ds} (hf : fX12_plays N g x0 x1 d = some ((), dz)) : WB p l e rmX12_plays s m args below meth c 4 D cy B 0 0 (MQ below (QV D cy B g dz) args s 0 0 (wA B)) g d [(0, .ref (ad B x0)), (1, .int x1)] 0 [] := by
  unfold fX12_plays at hf
  refine b_iload_n C dX12_plays_0 1 rfl rfl ?_
  refine b_aload_n C dX12_plays_1 0 rfl rfl ?_
  obtain ⟨h1, hf⟩ := gd_s hf
  obtain ⟨r2, er2, hf⟩ := ob_s hf
  refine b_gR C dX12_plays_2 fl_X12_40 h1 er2 ?_
  refine b_bipush C (v := 11) dX12_plays_5 (by decide) ?_
  obtain ⟨h3, hf⟩ := gd_s hf
  obtain ⟨h4, hf⟩ := gd_s hf
  refine b_iald C h3 h4 dX12_plays_7 ?_
  refine b_icmp_lt C (tgt := 12) dX12_plays_8 (by decide) (fun c5 => ?_) (fun c5 => ?_)
  · have hf := it_s c5 hf
    refine b_sipush C (v := 316) dX12_plays_12 (by decide) ?_
    refine b_bipush C (v := 9) dX12_plays_15 (by decide) ?_
    refine b_iload_n C dX12_plays_17 1 rfl rfl ?_
    refine b_imul C dX12_plays_18 ?_
    refine b_iadd C dX12_plays_19 ?_
    obtain ⟨u6, eu6, hf⟩ := bd_s hf
    refine b_topI eu6 ?_
    refine b_istore_n C dX12_plays_20 rfl [(2, .int u6), (0, .ref (ad B x0)), (1, .int x1)] (by decide) rfl ?_
    refine b_iconst C (v := 1) dX12_plays_21 (by decide) ?_
    refine b_istore_n C dX12_plays_22 rfl [(3, .int 1), (2, .int u6), (0, .ref (ad B x0)), (1, .int x1)] (by decide) rfl ?_
    refine b_sub [(0, .ref (ad B x0)), (1, .int x1), (2, .int u6), (3, .int 1)] [2, 3, 1, 0] rfl ?_
    exact tX12_plays_L23 C hr hlocks (u6, 1, d) hf
  · have hf := if_s c5 hf
    exact b_vret C hr hlocks hf dX12_plays_11
theorem kX12_plays (l : Launch) (D : va_G) (cy : Nat → ClassId) (B : Bs) {N : Nat} {g : Gs} {x0 : Nat} {x1 : Int32}  {dz : Ds} {d : Ds} (hf : fX12_plays N g x0 x1 d = some ((), dz)) : Met l yX12_plays (.code yX12_plays cX12_plays 4 none :: wl) rmX12_plays (PC D cy B [.ref (ad B x0), .int x1] g d) (QV D cy B g dz) 0 0 (wA B) :=
  met_of (by decide +kernel) (Nat.le_of_ble_eq_true rfl) (fun p e s m args below meth c C hr hlocks _ => b_sub [(0, .ref (ad B x0)), (1, .int x1)] [0, 1] rfl (tX12_plays_E C hr hlocks hf))
/-! KeyMatrixModel.begin(III)V -/
theorem dX12_begin_0 : decode cX12_begin 0 = .ok (.aload_n 0, 1) := by decide +kernel
theorem dX12_begin_1 : decode cX12_begin 1 = .ok (.getfield 40, 3) := by decide +kernel
theorem dX12_begin_4 : decode cX12_begin 4 = .ok (.sipush 379, 3) := by decide +kernel
theorem dX12_begin_7 : decode cX12_begin 7 = .ok (.iconst 3, 1) := by decide +kernel
theorem dX12_begin_8 : decode cX12_begin 8 = .ok (.iload_n 1, 1) := by decide +kernel
theorem dX12_begin_9 : decode cX12_begin 9 = .ok (.imul, 1) := by decide +kernel
theorem dX12_begin_10 : decode cX12_begin 10 = .ok (.iadd, 1) := by decide +kernel
theorem dX12_begin_11 : decode cX12_begin 11 = .ok (.iload_n 2, 1) := by decide +kernel
theorem dX12_begin_12 : decode cX12_begin 12 = .ok (.iastore, 1) := by decide +kernel
theorem dX12_begin_13 : decode cX12_begin 13 = .ok (.aload_n 0, 1) := by decide +kernel
theorem dX12_begin_14 : decode cX12_begin 14 = .ok (.getfield 40, 3) := by decide +kernel
theorem dX12_begin_17 : decode cX12_begin 17 = .ok (.sipush 379, 3) := by decide +kernel
theorem dX12_begin_20 : decode cX12_begin 20 = .ok (.iconst 3, 1) := by decide +kernel
theorem dX12_begin_21 : decode cX12_begin 21 = .ok (.iload_n 1, 1) := by decide +kernel
theorem dX12_begin_22 : decode cX12_begin 22 = .ok (.imul, 1) := by decide +kernel
theorem dX12_begin_23 : decode cX12_begin 23 = .ok (.iadd, 1) := by decide +kernel
theorem dX12_begin_24 : decode cX12_begin 24 = .ok (.iconst 1, 1) := by decide +kernel
theorem dX12_begin_25 : decode cX12_begin 25 = .ok (.iadd, 1) := by decide +kernel
theorem dX12_begin_26 : decode cX12_begin 26 = .ok (.iload_n 3, 1) := by decide +kernel
theorem dX12_begin_27 : decode cX12_begin 27 = .ok (.iastore, 1) := by decide +kernel
theorem dX12_begin_28 : decode cX12_begin 28 = .ok (.aload_n 0, 1) := by decide +kernel
theorem dX12_begin_29 : decode cX12_begin 29 = .ok (.getfield 40, 3) := by decide +kernel
theorem dX12_begin_32 : decode cX12_begin 32 = .ok (.sipush 379, 3) := by decide +kernel
theorem dX12_begin_35 : decode cX12_begin 35 = .ok (.iconst 3, 1) := by decide +kernel
theorem dX12_begin_36 : decode cX12_begin 36 = .ok (.iload_n 1, 1) := by decide +kernel
theorem dX12_begin_37 : decode cX12_begin 37 = .ok (.imul, 1) := by decide +kernel
theorem dX12_begin_38 : decode cX12_begin 38 = .ok (.iadd, 1) := by decide +kernel
theorem dX12_begin_39 : decode cX12_begin 39 = .ok (.iconst 2, 1) := by decide +kernel
theorem dX12_begin_40 : decode cX12_begin 40 = .ok (.iadd, 1) := by decide +kernel
theorem dX12_begin_41 : decode cX12_begin 41 = .ok (.aload_n 0, 1) := by decide +kernel
theorem dX12_begin_42 : decode cX12_begin 42 = .ok (.getfield 40, 3) := by decide +kernel
theorem dX12_begin_45 : decode cX12_begin 45 = .ok (.sipush 451, 3) := by decide +kernel
theorem dX12_begin_48 : decode cX12_begin 48 = .ok (.iaload, 1) := by decide +kernel
theorem dX12_begin_49 : decode cX12_begin 49 = .ok (.iastore, 1) := by decide +kernel
theorem dX12_begin_50 : decode cX12_begin 50 = .ok (.aload_n 0, 1) := by decide +kernel
theorem dX12_begin_51 : decode cX12_begin 51 = .ok (.getfield 40, 3) := by decide +kernel
theorem dX12_begin_54 : decode cX12_begin 54 = .ok (.sipush 451, 3) := by decide +kernel
theorem dX12_begin_57 : decode cX12_begin 57 = .ok (.dup2, 1) := by decide +kernel
theorem dX12_begin_58 : decode cX12_begin 58 = .ok (.iaload, 1) := by decide +kernel
theorem dX12_begin_59 : decode cX12_begin 59 = .ok (.iconst 1, 1) := by decide +kernel
theorem dX12_begin_60 : decode cX12_begin 60 = .ok (.iadd, 1) := by decide +kernel
theorem dX12_begin_61 : decode cX12_begin 61 = .ok (.iastore, 1) := by decide +kernel
theorem dX12_begin_62 : decode cX12_begin 62 = .ok (.return_, 1) := by decide +kernel
def rmX12_begin : Room := { frames := 0, cells := 0, slots := 0, locals := 0 }
set_option maxRecDepth 100000 in
def fX12_begin (N : Nat) (g : Gs) (x0 : Nat) (x1 : Int32) (x2 : Int32) (x3 : Int32) (d : Ds) : Option (Unit × Ds) := gd (chk g x0 11) <| ob (gR g x0 17) fun r2 => (gd (chk g r2 102) <| gd (¬ (((379 : Int32) + ((3 : Int32) * x1)) < 0 ∨ gL g r2 ≤ ((379 : Int32) + ((3 : Int32) * x1)).toNatClampNeg)) <| bd (sI d r2 ((379 : Int32) + ((3 : Int32) * x1)).toNatClampNeg x2) fun d5 => (gd (¬ ((((379 : Int32) + ((3 : Int32) * x1)) + 1) < 0 ∨ gL g r2 ≤ (((379 : Int32) + ((3 : Int32) * x1)) + 1).toNatClampNeg)) <| bd (sI d5 r2 (((379 : Int32) + ((3 : Int32) * x1)) + 1).toNatClampNeg x3) fun d7 => (gd (¬ ((451 : Int32) < 0 ∨ gL g r2 ≤ (451 : Int32).toNatClampNeg)) <| gd (¬ ((((379 : Int32) + ((3 : Int32) * x1)) + 2) < 0 ∨ gL g r2 ≤ (((379 : Int32) + ((3 : Int32) * x1)) + 2).toNatClampNeg)) <| bd (sI d7 r2 (((379 : Int32) + ((3 : Int32) * x1)) + 2).toNatClampNeg (dI d7 r2 (451 : Int32).toNatClampNeg)) fun d10 => (bd (sI d10 r2 (451 : Int32).toNatClampNeg ((dI d10 r2 (451 : Int32).toNatClampNeg) + 1)) fun d11 => (some ((), d11))))))
set_option maxHeartbeats 4000000 in
set_option maxRecDepth 100000 in
theorem tX12_begin_E {p : Program} {l : Launch} {e : Env} {s : State} {m : MethodId} {args : Array Value} {below : List Frame} {meth : Method} {c : Code} {D : va_G} {cy : Nat → ClassId} {B : Bs} (C : Cx p s m args c cX12_begin 4 RX12 D cy B) (hr : meth.sig.returnType = none) (hlocks : meth.locks = false) {N : Nat} {g : Gs} {x0 : Nat} {x1 : Int32} {x2 : Int32} {x3 : Int32}  {dz : Ds} {d : Ds} (hf : fX12_begin N g x0 x1 x2 x3 d = some ((), dz)) : WB p l e rmX12_begin s m args below meth c 4 D cy B 0 0 (MQ below (QV D cy B g dz) args s 0 0 (wA B)) g d [(0, .ref (ad B x0)), (1, .int x1), (2, .int x2), (3, .int x3)] 0 [] := by
  unfold fX12_begin at hf
  refine b_aload_n C dX12_begin_0 0 rfl rfl ?_
  obtain ⟨h1, hf⟩ := gd_s hf
  obtain ⟨r2, er2, hf⟩ := ob_s hf
  refine b_gR C dX12_begin_1 fl_X12_40 h1 er2 ?_
  refine b_sipush C (v := 379) dX12_begin_4 (by decide) ?_
  refine b_iconst C (v := 3) dX12_begin_7 (by decide) ?_
  refine b_iload_n C dX12_begin_8 1 rfl rfl ?_
  refine b_imul C dX12_begin_9 ?_
  refine b_iadd C dX12_begin_10 ?_
  refine b_iload_n C dX12_begin_11 2 rfl rfl ?_
  obtain ⟨h3, hf⟩ := gd_s hf
  obtain ⟨h4, hf⟩ := gd_s hf
  obtain ⟨d5, ed5, hf⟩ := bd_s hf
  refine b_iast C h3 h4 ed5 dX12_begin_12 ?_
  refine b_aload_n C dX12_begin_13 0 rfl rfl ?_
  refine b_gR C dX12_begin_14 fl_X12_40 h1 er2 ?_
  refine b_sipush C (v := 379) dX12_begin_17 (by decide) ?_
  refine b_iconst C (v := 3) dX12_begin_20 (by decide) ?_
  refine b_iload_n C dX12_begin_21 1 rfl rfl ?_
  refine b_imul C dX12_begin_22 ?_
  refine b_iadd C dX12_begin_23 ?_
  refine b_iconst C (v := 1) dX12_begin_24 (by decide) ?_
  refine b_iadd C dX12_begin_25 ?_
  refine b_iload_n C dX12_begin_26 3 rfl rfl ?_
  obtain ⟨h6, hf⟩ := gd_s hf
  obtain ⟨d7, ed7, hf⟩ := bd_s hf
  refine b_iast C h3 h6 ed7 dX12_begin_27 ?_
  refine b_aload_n C dX12_begin_28 0 rfl rfl ?_
  refine b_gR C dX12_begin_29 fl_X12_40 h1 er2 ?_
  refine b_sipush C (v := 379) dX12_begin_32 (by decide) ?_
  refine b_iconst C (v := 3) dX12_begin_35 (by decide) ?_
  refine b_iload_n C dX12_begin_36 1 rfl rfl ?_
  refine b_imul C dX12_begin_37 ?_
  refine b_iadd C dX12_begin_38 ?_
  refine b_iconst C (v := 2) dX12_begin_39 (by decide) ?_
  refine b_iadd C dX12_begin_40 ?_
  refine b_aload_n C dX12_begin_41 0 rfl rfl ?_
  refine b_gR C dX12_begin_42 fl_X12_40 h1 er2 ?_
  refine b_sipush C (v := 451) dX12_begin_45 (by decide) ?_
  obtain ⟨h8, hf⟩ := gd_s hf
  refine b_iald C h3 h8 dX12_begin_48 ?_
  obtain ⟨h9, hf⟩ := gd_s hf
  obtain ⟨d10, ed10, hf⟩ := bd_s hf
  refine b_iast C h3 h9 ed10 dX12_begin_49 ?_
  refine b_aload_n C dX12_begin_50 0 rfl rfl ?_
  refine b_gR C dX12_begin_51 fl_X12_40 h1 er2 ?_
  refine b_sipush C (v := 451) dX12_begin_54 (by decide) ?_
  refine b_dup2 C dX12_begin_57 rfl rfl ?_
  refine b_iald C h3 h8 dX12_begin_58 ?_
  refine b_iconst C (v := 1) dX12_begin_59 (by decide) ?_
  refine b_iadd C dX12_begin_60 ?_
  obtain ⟨d11, ed11, hf⟩ := bd_s hf
  refine b_iast C h3 h8 ed11 dX12_begin_61 ?_
  exact b_vret C hr hlocks hf dX12_begin_62
theorem kX12_begin (l : Launch) (D : va_G) (cy : Nat → ClassId) (B : Bs) {N : Nat} {g : Gs} {x0 : Nat} {x1 : Int32} {x2 : Int32} {x3 : Int32}  {dz : Ds} {d : Ds} (hf : fX12_begin N g x0 x1 x2 x3 d = some ((), dz)) : Met l yX12_begin (.code yX12_begin cX12_begin 4 none :: wl) rmX12_begin (PC D cy B [.ref (ad B x0), .int x1, .int x2, .int x3] g d) (QV D cy B g dz) 0 0 (wA B) :=
  met_of (by decide +kernel) (Nat.le_of_ble_eq_true rfl) (fun p e s m args below meth c C hr hlocks _ => b_sub [(0, .ref (ad B x0)), (1, .int x1), (2, .int x2), (3, .int x3)] [0, 1, 2, 3] rfl (tX12_begin_E C hr hlocks hf))
/-! KeyMatrixModel.chords(III)V -/
theorem yo_X12_begin : yX12_begin.cls ≠ "java/lang/invoke/MethodHandle" ∧ yX12_begin.cls ≠ "java/lang/invoke/VarHandle" ∧ (parseMethodDescriptor yX12_begin.desc).map (fun d => d.parameters.length) = some 3 := by decide +kernel
theorem co_X12_begin : Cond.code yX12_begin cX12_begin 4 none ∈ wl := mW (mT6 (List.mem_of_getElem? (i := 199) (by decide +kernel))) rfl
theorem in_X12_begin : Cond.initialized yX12_begin.cls ∈ wl := mW (mT1 (List.mem_of_getElem? (i := 12) (by decide +kernel))) rfl
theorem im_X12_begin : Cond.instanceMethod yX12_begin ∈ wl := mW (mT6 (List.mem_of_getElem? (i := 198) (by decide +kernel))) rfl
theorem se_X12_begin : Cond.selects yX12_begin.cls yX12_begin yX12_begin ∈ wl := mW (mT0 (List.mem_of_getElem? (i := 81) (by decide +kernel))) rfl
theorem lv_X12_278 : LV RX12 278 yX12_begin cX12_begin 4 none 3 11 := ⟨⟨(RX12, TX12, 33), rfl, rfl⟩, yo_X12_begin, mW (mT6 (List.mem_of_getElem? (i := 196) (by decide +kernel))) rfl, im_X12_begin, se_X12_begin, in_X12_begin, co_X12_begin⟩
theorem yo_X12_plays : yX12_plays.cls ≠ "java/lang/invoke/MethodHandle" ∧ yX12_plays.cls ≠ "java/lang/invoke/VarHandle" ∧ (parseMethodDescriptor yX12_plays.desc).map (fun d => d.parameters.length) = some 1 := by decide +kernel
theorem co_X12_plays : Cond.code yX12_plays cX12_plays 4 none ∈ wl := mW (mT6 (List.mem_of_getElem? (i := 195) (by decide +kernel))) rfl
theorem in_X12_plays : Cond.initialized yX12_plays.cls ∈ wl := mW (mT1 (List.mem_of_getElem? (i := 12) (by decide +kernel))) rfl
theorem im_X12_plays : Cond.instanceMethod yX12_plays ∈ wl := mW (mT6 (List.mem_of_getElem? (i := 194) (by decide +kernel))) rfl
theorem se_X12_plays : Cond.selects yX12_plays.cls yX12_plays yX12_plays ∈ wl := mW (mT0 (List.mem_of_getElem? (i := 80) (by decide +kernel))) rfl
theorem lv_X12_290 : LV RX12 290 yX12_plays cX12_plays 4 none 1 11 := ⟨⟨(RX12, TX12, 33), rfl, rfl⟩, yo_X12_plays, mW (mT6 (List.mem_of_getElem? (i := 192) (by decide +kernel))) rfl, im_X12_plays, se_X12_plays, in_X12_plays, co_X12_plays⟩
theorem dX12_chords_0 : decode cX12_chords 0 = .ok (.aload_n 0, 1) := by decide +kernel
theorem dX12_chords_1 : decode cX12_chords 1 = .ok (.getfield 40, 3) := by decide +kernel
theorem dX12_chords_4 : decode cX12_chords 4 = .ok (.sipush 300, 3) := by decide +kernel
theorem dX12_chords_7 : decode cX12_chords 7 = .ok (.iconst 4, 1) := by decide +kernel
theorem dX12_chords_8 : decode cX12_chords 8 = .ok (.iload_n 1, 1) := by decide +kernel
theorem dX12_chords_9 : decode cX12_chords 9 = .ok (.imul, 1) := by decide +kernel
theorem dX12_chords_10 : decode cX12_chords 10 = .ok (.iadd, 1) := by decide +kernel
theorem dX12_chords_11 : decode cX12_chords 11 = .ok (.iconst 2, 1) := by decide +kernel
theorem dX12_chords_12 : decode cX12_chords 12 = .ok (.iadd, 1) := by decide +kernel
theorem dX12_chords_13 : decode cX12_chords 13 = .ok (.iaload, 1) := by decide +kernel
theorem dX12_chords_14 : decode cX12_chords 14 = .ok (.istore 4, 2) := by decide +kernel
theorem dX12_chords_16 : decode cX12_chords 16 = .ok (.aload_n 0, 1) := by decide +kernel
theorem dX12_chords_17 : decode cX12_chords 17 = .ok (.getfield 40, 3) := by decide +kernel
theorem dX12_chords_20 : decode cX12_chords 20 = .ok (.sipush 300, 3) := by decide +kernel
theorem dX12_chords_23 : decode cX12_chords 23 = .ok (.iconst 4, 1) := by decide +kernel
theorem dX12_chords_24 : decode cX12_chords 24 = .ok (.iload_n 1, 1) := by decide +kernel
theorem dX12_chords_25 : decode cX12_chords 25 = .ok (.imul, 1) := by decide +kernel
theorem dX12_chords_26 : decode cX12_chords 26 = .ok (.iadd, 1) := by decide +kernel
theorem dX12_chords_27 : decode cX12_chords 27 = .ok (.iconst 3, 1) := by decide +kernel
theorem dX12_chords_28 : decode cX12_chords 28 = .ok (.iadd, 1) := by decide +kernel
theorem dX12_chords_29 : decode cX12_chords 29 = .ok (.iaload, 1) := by decide +kernel
theorem dX12_chords_30 : decode cX12_chords 30 = .ok (.istore 5, 2) := by decide +kernel
theorem dX12_chords_32 : decode cX12_chords 32 = .ok (.iload 4, 2) := by decide +kernel
theorem dX12_chords_34 : decode cX12_chords 34 = .ok (.bipush 9, 2) := by decide +kernel
theorem dX12_chords_36 : decode cX12_chords 36 = .ok (.if_icmp .ne 10, 3) := by decide +kernel
theorem dX12_chords_39 : decode cX12_chords 39 = .ok (.aload_n 0, 1) := by decide +kernel
theorem dX12_chords_40 : decode cX12_chords 40 = .ok (.iload 5, 2) := by decide +kernel
theorem dX12_chords_42 : decode cX12_chords 42 = .ok (.invokevirtual 290, 3) := by decide +kernel
theorem dX12_chords_45 : decode cX12_chords 45 = .ok (.return_, 1) := by decide +kernel
theorem dX12_chords_46 : decode cX12_chords 46 = .ok (.aload_n 0, 1) := by decide +kernel
theorem dX12_chords_47 : decode cX12_chords 47 = .ok (.iload_n 2, 1) := by decide +kernel
theorem dX12_chords_48 : decode cX12_chords 48 = .ok (.iload 4, 2) := by decide +kernel
theorem dX12_chords_50 : decode cX12_chords 50 = .ok (.iload 5, 2) := by decide +kernel
theorem dX12_chords_52 : decode cX12_chords 52 = .ok (.invokevirtual 278, 3) := by decide +kernel
theorem dX12_chords_55 : decode cX12_chords 55 = .ok (.aload_n 0, 1) := by decide +kernel
theorem dX12_chords_56 : decode cX12_chords 56 = .ok (.iload_n 3, 1) := by decide +kernel
theorem dX12_chords_57 : decode cX12_chords 57 = .ok (.iload 4, 2) := by decide +kernel
theorem dX12_chords_59 : decode cX12_chords 59 = .ok (.iload 5, 2) := by decide +kernel
theorem dX12_chords_61 : decode cX12_chords 61 = .ok (.invokevirtual 278, 3) := by decide +kernel
theorem dX12_chords_64 : decode cX12_chords 64 = .ok (.aload_n 0, 1) := by decide +kernel
theorem dX12_chords_65 : decode cX12_chords 65 = .ok (.getfield 40, 3) := by decide +kernel
theorem dX12_chords_68 : decode cX12_chords 68 = .ok (.sipush 453, 3) := by decide +kernel
theorem dX12_chords_71 : decode cX12_chords 71 = .ok (.dup2, 1) := by decide +kernel
theorem dX12_chords_72 : decode cX12_chords 72 = .ok (.iaload, 1) := by decide +kernel
theorem dX12_chords_73 : decode cX12_chords 73 = .ok (.iconst 1, 1) := by decide +kernel
theorem dX12_chords_74 : decode cX12_chords 74 = .ok (.iload_n 1, 1) := by decide +kernel
theorem dX12_chords_75 : decode cX12_chords 75 = .ok (.ishl, 1) := by decide +kernel
theorem dX12_chords_76 : decode cX12_chords 76 = .ok (.ior, 1) := by decide +kernel
theorem dX12_chords_77 : decode cX12_chords 77 = .ok (.iastore, 1) := by decide +kernel
theorem dX12_chords_78 : decode cX12_chords 78 = .ok (.return_, 1) := by decide +kernel
def rmX12_chords : Room := { frames := 4, cells := 0, slots := 0, locals := 93 }
set_option maxRecDepth 100000 in
def fX12_chords (N : Nat) (g : Gs) (x0 : Nat) (x1 : Int32) (x2 : Int32) (x3 : Int32) (d : Ds) : Option (Unit × Ds) := gd (chk g x0 11) <| ob (gR g x0 17) fun r2 => (gd (chk g r2 102) <| gd (¬ ((((300 : Int32) + ((4 : Int32) * x1)) + 2) < 0 ∨ gL g r2 ≤ (((300 : Int32) + ((4 : Int32) * x1)) + 2).toNatClampNeg)) <| bd ((dI d r2 (((300 : Int32) + ((4 : Int32) * x1)) + 2).toNatClampNeg)) fun u5 => (gd (¬ ((((300 : Int32) + ((4 : Int32) * x1)) + 3) < 0 ∨ gL g r2 ≤ (((300 : Int32) + ((4 : Int32) * x1)) + 3).toNatClampNeg)) <| bd ((dI d r2 (((300 : Int32) + ((4 : Int32) * x1)) + 3).toNatClampNeg)) fun u7 => (if u5 = (9 : Int32) then (cv (fX12_plays N g x0 u7 d) fun d15 => (some ((), d15))) else (cv (fX12_begin N g x0 x2 u5 u7 d) fun d9 => (cv (fX12_begin N g x0 x3 u5 u7 d9) fun d11 => (gd (¬ ((453 : Int32) < 0 ∨ gL g r2 ≤ (453 : Int32).toNatClampNeg)) <| bd (sI d11 r2 (453 : Int32).toNatClampNeg ((dI d11 r2 (453 : Int32).toNatClampNeg) ||| ((1 : Int32) <<< (x1 &&& 31)))) fun d14 => (some ((), d14))))))))
set_option maxHeartbeats 4000000 in
set_option maxRecDepth 100000 in
theorem tX12_chords_E {p : Program} {l : Launch} {e : Env} {s : State} {m : MethodId} {args : Array Value} {below : List Frame} {meth : Method} {c : Code} {D : va_G} {cy : Nat → ClassId} {B : Bs} (C : Cx p s m args c cX12_chords 6 RX12 D cy B) (hr : meth.sig.returnType = none) (hlocks : meth.locks = false) {N : Nat} {g : Gs} {x0 : Nat} {x1 : Int32} {x2 : Int32} {x3 : Int32}  {dz : Ds} {d : Ds} (hf : fX12_chords N g x0 x1 x2 x3 d = some ((), dz)) : WB p l e rmX12_chords s m args below meth c 6 D cy B 0 0 (MQ below (QV D cy B g dz) args s 0 0 (wA B)) g d [(0, .ref (ad B x0)), (1, .int x1), (2, .int x2), (3, .int x3)] 0 [] := by
  unfold fX12_chords at hf
  refine b_aload_n C dX12_chords_0 0 rfl rfl ?_
  obtain ⟨h1, hf⟩ := gd_s hf
  obtain ⟨r2, er2, hf⟩ := ob_s hf
  refine b_gR C dX12_chords_1 fl_X12_40 h1 er2 ?_
  refine b_sipush C (v := 300) dX12_chords_4 (by decide) ?_
  refine b_iconst C (v := 4) dX12_chords_7 (by decide) ?_
  refine b_iload_n C dX12_chords_8 1 rfl rfl ?_
  refine b_imul C dX12_chords_9 ?_
  refine b_iadd C dX12_chords_10 ?_
  refine b_iconst C (v := 2) dX12_chords_11 (by decide) ?_
  refine b_iadd C dX12_chords_12 ?_
  obtain ⟨h3, hf⟩ := gd_s hf
  obtain ⟨h4, hf⟩ := gd_s hf
  refine b_iald C h3 h4 dX12_chords_13 ?_
  obtain ⟨u5, eu5, hf⟩ := bd_s hf
  refine b_topI eu5 ?_
  refine b_istore C dX12_chords_14 [(4, .int u5), (0, .ref (ad B x0)), (1, .int x1), (2, .int x2), (3, .int x3)] (by decide) rfl ?_
  refine b_aload_n C dX12_chords_16 1 rfl rfl ?_
  refine b_gR C dX12_chords_17 fl_X12_40 h1 er2 ?_
  refine b_sipush C (v := 300) dX12_chords_20 (by decide) ?_
  refine b_iconst C (v := 4) dX12_chords_23 (by decide) ?_
  refine b_iload_n C dX12_chords_24 2 rfl rfl ?_
  refine b_imul C dX12_chords_25 ?_
  refine b_iadd C dX12_chords_26 ?_
  refine b_iconst C (v := 3) dX12_chords_27 (by decide) ?_
  refine b_iadd C dX12_chords_28 ?_
  obtain ⟨h6, hf⟩ := gd_s hf
  refine b_iald C h3 h6 dX12_chords_29 ?_
  obtain ⟨u7, eu7, hf⟩ := bd_s hf
  refine b_topI eu7 ?_
  refine b_istore C dX12_chords_30 [(5, .int u7), (4, .int u5), (0, .ref (ad B x0)), (1, .int x1), (2, .int x2), (3, .int x3)] (by decide) rfl ?_
  refine b_iload C dX12_chords_32 1 rfl ?_
  refine b_bipush C (v := 9) dX12_chords_34 (by decide) ?_
  refine b_icmp_ne C (tgt := 46) dX12_chords_36 (by decide) (fun c8 => ?_) (fun c8 => ?_)
  · have hf := if_s c8 hf
    refine b_aload_n C dX12_chords_46 2 rfl rfl ?_
    refine b_iload_n C dX12_chords_47 4 rfl rfl ?_
    refine b_iload C dX12_chords_48 1 rfl ?_
    refine b_iload C dX12_chords_50 0 rfl ?_
    obtain ⟨d9, k10, hf⟩ := cv_s hf
    refine b_cVN C [] dX12_chords_52 (kX12_begin l D cy B k10) lv_X12_278 ⟨rfl, rfl, Nat.le_of_ble_eq_true rfl, Nat.le_of_ble_eq_true rfl⟩ h1 (by decide) rfl (Nat.le_of_ble_eq_true rfl) ⟨Nat.zero_le _, Nat.zero_le _⟩ rfl ?_
    refine b_aload_n C dX12_chords_55 2 rfl rfl ?_
    refine b_iload_n C dX12_chords_56 5 rfl rfl ?_
    refine b_iload C dX12_chords_57 1 rfl ?_
    refine b_iload C dX12_chords_59 0 rfl ?_
    obtain ⟨d11, k12, hf⟩ := cv_s hf
    refine b_cVN C [] dX12_chords_61 (kX12_begin l D cy B k12) lv_X12_278 ⟨rfl, rfl, Nat.le_of_ble_eq_true rfl, Nat.le_of_ble_eq_true rfl⟩ h1 (by decide) rfl (Nat.le_of_ble_eq_true rfl) ⟨Nat.zero_le _, Nat.zero_le _⟩ rfl ?_
    refine b_aload_n C dX12_chords_64 2 rfl rfl ?_
    refine b_gR C dX12_chords_65 fl_X12_40 h1 er2 ?_
    refine b_sipush C (v := 453) dX12_chords_68 (by decide) ?_
    refine b_dup2 C dX12_chords_71 rfl rfl ?_
    obtain ⟨h13, hf⟩ := gd_s hf
    refine b_iald C h3 h13 dX12_chords_72 ?_
    refine b_iconst C (v := 1) dX12_chords_73 (by decide) ?_
    refine b_iload_n C dX12_chords_74 3 rfl rfl ?_
    refine b_ishl C dX12_chords_75 ?_
    refine b_ior C dX12_chords_76 ?_
    obtain ⟨d14, ed14, hf⟩ := bd_s hf
    refine b_iast C h3 h13 ed14 dX12_chords_77 ?_
    exact b_vret C hr hlocks hf dX12_chords_78
  · have hf := it_s c8 hf
    refine b_aload_n C dX12_chords_39 2 rfl rfl ?_
    refine b_iload C dX12_chords_40 0 rfl ?_
    obtain ⟨d15, k16, hf⟩ := cv_s hf
    refine b_cVN C [] dX12_chords_42 (kX12_plays l D cy B k16) lv_X12_290 ⟨rfl, rfl, Nat.le_of_ble_eq_true rfl, Nat.le_of_ble_eq_true rfl⟩ h1 (by decide) rfl (Nat.le_of_ble_eq_true rfl) ⟨Nat.zero_le _, Nat.zero_le _⟩ rfl ?_
    exact b_vret C hr hlocks hf dX12_chords_45
theorem kX12_chords (l : Launch) (D : va_G) (cy : Nat → ClassId) (B : Bs) {N : Nat} {g : Gs} {x0 : Nat} {x1 : Int32} {x2 : Int32} {x3 : Int32}  {dz : Ds} {d : Ds} (hf : fX12_chords N g x0 x1 x2 x3 d = some ((), dz)) : Met l yX12_chords (.code yX12_chords cX12_chords 6 none :: wl) rmX12_chords (PC D cy B [.ref (ad B x0), .int x1, .int x2, .int x3] g d) (QV D cy B g dz) 0 0 (wA B) :=
  met_of (by decide +kernel) (Nat.le_of_ble_eq_true rfl) (fun p e s m args below meth c C hr hlocks _ => b_sub [(0, .ref (ad B x0)), (1, .int x1), (2, .int x2), (3, .int x3)] [0, 1, 2, 3] rfl (tX12_chords_E C hr hlocks hf))
/-! KeyMatrixModel.activeLayers()I -/
theorem dX12_activeLayers_0 : decode cX12_activeLayers 0 = .ok (.iconst 1, 1) := by decide +kernel
theorem dX12_activeLayers_1 : decode cX12_activeLayers 1 = .ok (.aload_n 0, 1) := by decide +kernel
theorem dX12_activeLayers_2 : decode cX12_activeLayers 2 = .ok (.getfield 40, 3) := by decide +kernel
theorem dX12_activeLayers_5 : decode cX12_activeLayers 5 = .ok (.sipush 452, 3) := by decide +kernel
theorem dX12_activeLayers_8 : decode cX12_activeLayers 8 = .ok (.iaload, 1) := by decide +kernel
theorem dX12_activeLayers_9 : decode cX12_activeLayers 9 = .ok (.ior, 1) := by decide +kernel
theorem dX12_activeLayers_10 : decode cX12_activeLayers 10 = .ok (.istore_n 1, 1) := by decide +kernel
theorem dX12_activeLayers_11 : decode cX12_activeLayers 11 = .ok (.iconst 0, 1) := by decide +kernel
theorem dX12_activeLayers_12 : decode cX12_activeLayers 12 = .ok (.istore_n 2, 1) := by decide +kernel
theorem dX12_activeLayers_13 : decode cX12_activeLayers 13 = .ok (.iload_n 2, 1) := by decide +kernel
theorem dX12_activeLayers_14 : decode cX12_activeLayers 14 = .ok (.bipush 24, 2) := by decide +kernel
theorem dX12_activeLayers_16 : decode cX12_activeLayers 16 = .ok (.if_icmp .ge 44, 3) := by decide +kernel
theorem dX12_activeLayers_19 : decode cX12_activeLayers 19 = .ok (.aload_n 0, 1) := by decide +kernel
theorem dX12_activeLayers_20 : decode cX12_activeLayers 20 = .ok (.getfield 40, 3) := by decide +kernel
theorem dX12_activeLayers_23 : decode cX12_activeLayers 23 = .ok (.sipush 379, 3) := by decide +kernel
theorem dX12_activeLayers_26 : decode cX12_activeLayers 26 = .ok (.iconst 3, 1) := by decide +kernel
theorem dX12_activeLayers_27 : decode cX12_activeLayers 27 = .ok (.iload_n 2, 1) := by decide +kernel
theorem dX12_activeLayers_28 : decode cX12_activeLayers 28 = .ok (.imul, 1) := by decide +kernel
theorem dX12_activeLayers_29 : decode cX12_activeLayers 29 = .ok (.iadd, 1) := by decide +kernel
theorem dX12_activeLayers_30 : decode cX12_activeLayers 30 = .ok (.iaload, 1) := by decide +kernel
theorem dX12_activeLayers_31 : decode cX12_activeLayers 31 = .ok (.iconst 2, 1) := by decide +kernel
theorem dX12_activeLayers_32 : decode cX12_activeLayers 32 = .ok (.if_icmp .ne 22, 3) := by decide +kernel
theorem dX12_activeLayers_35 : decode cX12_activeLayers 35 = .ok (.iload_n 1, 1) := by decide +kernel
theorem dX12_activeLayers_36 : decode cX12_activeLayers 36 = .ok (.iconst 1, 1) := by decide +kernel
theorem dX12_activeLayers_37 : decode cX12_activeLayers 37 = .ok (.aload_n 0, 1) := by decide +kernel
theorem dX12_activeLayers_38 : decode cX12_activeLayers 38 = .ok (.getfield 40, 3) := by decide +kernel
theorem dX12_activeLayers_41 : decode cX12_activeLayers 41 = .ok (.sipush 379, 3) := by decide +kernel
theorem dX12_activeLayers_44 : decode cX12_activeLayers 44 = .ok (.iconst 3, 1) := by decide +kernel
theorem dX12_activeLayers_45 : decode cX12_activeLayers 45 = .ok (.iload_n 2, 1) := by decide +kernel
theorem dX12_activeLayers_46 : decode cX12_activeLayers 46 = .ok (.imul, 1) := by decide +kernel
theorem dX12_activeLayers_47 : decode cX12_activeLayers 47 = .ok (.iadd, 1) := by decide +kernel
theorem dX12_activeLayers_48 : decode cX12_activeLayers 48 = .ok (.iconst 1, 1) := by decide +kernel
theorem dX12_activeLayers_49 : decode cX12_activeLayers 49 = .ok (.iadd, 1) := by decide +kernel
theorem dX12_activeLayers_50 : decode cX12_activeLayers 50 = .ok (.iaload, 1) := by decide +kernel
theorem dX12_activeLayers_51 : decode cX12_activeLayers 51 = .ok (.ishl, 1) := by decide +kernel
theorem dX12_activeLayers_52 : decode cX12_activeLayers 52 = .ok (.ior, 1) := by decide +kernel
theorem dX12_activeLayers_53 : decode cX12_activeLayers 53 = .ok (.istore_n 1, 1) := by decide +kernel
theorem dX12_activeLayers_54 : decode cX12_activeLayers 54 = .ok (.iinc 2 1, 3) := by decide +kernel
theorem dX12_activeLayers_57 : decode cX12_activeLayers 57 = .ok (.goto (-44), 3) := by decide +kernel
theorem dX12_activeLayers_60 : decode cX12_activeLayers 60 = .ok (.iload_n 1, 1) := by decide +kernel
theorem dX12_activeLayers_61 : decode cX12_activeLayers 61 = .ok (.ireturn, 1) := by decide +kernel
def rmX12_activeLayers : Room := { frames := 0, cells := 0, slots := 0, locals := 0 }
set_option maxRecDepth 100000 in
def fX12_activeLayers_J54 (N : Nat) (g : Gs) (x0 : Nat) (K13 : Int32 × Int32 × Ds → Option (Int32 × Ds)) (y1 : Int32) (y2 : Int32) (d : Ds) : Option (Int32 × Ds) := bd (y2 + 1) fun u12 => (K13 (y1, u12, d))
set_option maxHeartbeats 4000000 in
set_option maxRecDepth 100000 in
theorem tX12_activeLayers_54 {p : Program} {l : Launch} {e : Env} {s : State} {m : MethodId} {args : Array Value} {below : List Frame} {meth : Method} {c : Code} {D : va_G} {cy : Nat → ClassId} {B : Bs} (C : Cx p s m args c cX12_activeLayers 3 RX12 D cy B) (hr : meth.sig.returnType = (some .int)) (hlocks : meth.locks = false) {N : Nat} {g : Gs} {x0 : Nat} {vz : Int32} {dz : Ds} {K13 : Int32 × Int32 × Ds → Option (Int32 × Ds)} (hK13 : ∀ a, K13 a = some (vz, dz) → WB p l e rmX12_activeLayers s m args below meth c 3 D cy B 0 0 (MQ below (QI D cy B vz g dz) args s 0 0 (wA B)) g a.2.2 [(0, .ref (ad B x0)), (1, .int a.1), (2, .int a.2.1)] 13 []) {y1 : Int32} {y2 : Int32} {d : Ds} (hf : fX12_activeLayers_J54 N g x0 K13 y1 y2 d = some (vz, dz)) : WB p l e rmX12_activeLayers s m args below meth c 3 D cy B 0 0 (MQ below (QI D cy B vz g dz) args s 0 0 (wA B)) g d [(0, .ref (ad B x0)), (1, .int y1), (2, .int y2)] 54 [] := by
  unfold fX12_activeLayers_J54 at hf
  obtain ⟨u12, eu12, hf⟩ := bd_s hf
  refine b_iinc C dX12_activeLayers_54 2 rfl (by rw [eu12]; rfl) [(2, .int u12), (0, .ref (ad B x0)), (1, .int y1)] (by decide) rfl ?_
  refine b_goto C (tgt := 13) dX12_activeLayers_57 (by decide) ?_
  refine b_sub [(0, .ref (ad B x0)), (1, .int y1), (2, .int u12)] [1, 2, 0] rfl ?_
  exact hK13 (y1, u12, d) hf
set_option maxRecDepth 100000 in
def fX12_activeLayers_B13 (N : Nat) (g : Gs) (x0 : Nat) (K13 : Int32 × Int32 × Ds → Option (Int32 × Ds)) (y1 : Int32) (y2 : Int32) (d : Ds) : Option (Int32 × Ds) := if (24 : Int32) ≤ y2 then (some (y1, d)) else (gd (chk g x0 11) <| ob (gR g x0 17) fun r8 => (gd (chk g r8 102) <| gd (¬ (((379 : Int32) + ((3 : Int32) * y2)) < 0 ∨ gL g r8 ≤ ((379 : Int32) + ((3 : Int32) * y2)).toNatClampNeg)) <| if (dI d r8 ((379 : Int32) + ((3 : Int32) * y2)).toNatClampNeg) = (2 : Int32) then (gd (¬ ((((379 : Int32) + ((3 : Int32) * y2)) + 1) < 0 ∨ gL g r8 ≤ (((379 : Int32) + ((3 : Int32) * y2)) + 1).toNatClampNeg)) <| bd ((1 : Int32) <<< ((dI d r8 (((379 : Int32) + ((3 : Int32) * y2)) + 1).toNatClampNeg) &&& 31)) fun u14 => (bd ((y1 ||| u14)) fun u15 => (fX12_activeLayers_J54 N g x0 K13 u15 y2 d))) else (fX12_activeLayers_J54 N g x0 K13 y1 y2 d)))
set_option maxHeartbeats 4000000 in
set_option maxRecDepth 100000 in
theorem tX12_activeLayers_13 {p : Program} {l : Launch} {e : Env} {s : State} {m : MethodId} {args : Array Value} {below : List Frame} {meth : Method} {c : Code} {D : va_G} {cy : Nat → ClassId} {B : Bs} (C : Cx p s m args c cX12_activeLayers 3 RX12 D cy B) (hr : meth.sig.returnType = (some .int)) (hlocks : meth.locks = false) {N : Nat} {g : Gs} {x0 : Nat} {vz : Int32} {dz : Ds} {K13 : Int32 × Int32 × Ds → Option (Int32 × Ds)} (hK13 : ∀ a, K13 a = some (vz, dz) → WB p l e rmX12_activeLayers s m args below meth c 3 D cy B 0 0 (MQ below (QI D cy B vz g dz) args s 0 0 (wA B)) g a.2.2 [(0, .ref (ad B x0)), (1, .int a.1), (2, .int a.2.1)] 13 []) {y1 : Int32} {y2 : Int32} {d : Ds} (hf : fX12_activeLayers_B13 N g x0 K13 y1 y2 d = some (vz, dz)) : WB p l e rmX12_activeLayers s m args below meth c 3 D cy B 0 0 (MQ below (QI D cy B vz g dz) args s 0 0 (wA B)) g d [(0, .ref (ad B x0)), (1, .int y1), (2, .int y2)] 13 [] := by
  unfold fX12_activeLayers_B13 at hf
  refine b_iload_n C dX12_activeLayers_13 2 rfl rfl ?_
  refine b_bipush C (v := 24) dX12_activeLayers_14 (by decide) ?_
  refine b_icmp_ge C (tgt := 60) dX12_activeLayers_16 (by decide) (fun c6 => ?_) (fun c6 => ?_)
  · have hf := it_s c6 hf
    refine b_iload_n C dX12_activeLayers_60 1 rfl rfl ?_
    exact b_iret C hr hlocks hf dX12_activeLayers_61
  · have hf := if_s c6 hf
    refine b_aload_n C dX12_activeLayers_19 0 rfl rfl ?_
    obtain ⟨h7, hf⟩ := gd_s hf
    obtain ⟨r8, er8, hf⟩ := ob_s hf
    refine b_gR C dX12_activeLayers_20 fl_X12_40 h7 er8 ?_
    refine b_sipush C (v := 379) dX12_activeLayers_23 (by decide) ?_
    refine b_iconst C (v := 3) dX12_activeLayers_26 (by decide) ?_
    refine b_iload_n C dX12_activeLayers_27 2 rfl rfl ?_
    refine b_imul C dX12_activeLayers_28 ?_
    refine b_iadd C dX12_activeLayers_29 ?_
    obtain ⟨h9, hf⟩ := gd_s hf
    obtain ⟨h10, hf⟩ := gd_s hf
    refine b_iald C h9 h10 dX12_activeLayers_30 ?_
    refine b_iconst C (v := 2) dX12_activeLayers_31 (by decide) ?_
    refine b_icmp_ne C (tgt := 54) dX12_activeLayers_32 (by decide) (fun c11 => ?_) (fun c11 => ?_)
    · have hf := if_s c11 hf
      refine b_sub [(0, .ref (ad B x0)), (1, .int y1), (2, .int y2)] [0, 1, 2] rfl ?_
      exact tX12_activeLayers_54 C hr hlocks hK13 hf
    · have hf := it_s c11 hf
      refine b_iload_n C dX12_activeLayers_35 1 rfl rfl ?_
      refine b_iconst C (v := 1) dX12_activeLayers_36 (by decide) ?_
      refine b_aload_n C dX12_activeLayers_37 0 rfl rfl ?_
      refine b_gR C dX12_activeLayers_38 fl_X12_40 h7 er8 ?_
      refine b_sipush C (v := 379) dX12_activeLayers_41 (by decide) ?_
      refine b_iconst C (v := 3) dX12_activeLayers_44 (by decide) ?_
      refine b_iload_n C dX12_activeLayers_45 2 rfl rfl ?_
      refine b_imul C dX12_activeLayers_46 ?_
      refine b_iadd C dX12_activeLayers_47 ?_
      refine b_iconst C (v := 1) dX12_activeLayers_48 (by decide) ?_
      refine b_iadd C dX12_activeLayers_49 ?_
      obtain ⟨h13, hf⟩ := gd_s hf
      refine b_iald C h9 h13 dX12_activeLayers_50 ?_
      refine b_ishl C dX12_activeLayers_51 ?_
      obtain ⟨u14, eu14, hf⟩ := bd_s hf
      refine b_topI eu14 ?_
      refine b_ior C dX12_activeLayers_52 ?_
      obtain ⟨u15, eu15, hf⟩ := bd_s hf
      refine b_topI eu15 ?_
      refine b_istore_n C dX12_activeLayers_53 rfl [(1, .int u15), (0, .ref (ad B x0)), (2, .int y2)] (by decide) rfl ?_
      refine b_sub [(0, .ref (ad B x0)), (1, .int u15), (2, .int y2)] [1, 0, 2] rfl ?_
      exact tX12_activeLayers_54 C hr hlocks hK13 hf
def fX12_activeLayers_L13 (N : Nat) (g : Gs) (x0 : Nat) : Int32 × Int32 × Ds → Option (Int32 × Ds) := lp (fun K13 a => fX12_activeLayers_B13 N g x0 K13 a.1 a.2.1 a.2.2) N
theorem tX12_activeLayers_L13 {p : Program} {l : Launch} {e : Env} {s : State} {m : MethodId} {args : Array Value} {below : List Frame} {meth : Method} {c : Code} {D : va_G} {cy : Nat → ClassId} {B : Bs} (C : Cx p s m args c cX12_activeLayers 3 RX12 D cy B) (hr : meth.sig.returnType = (some .int)) (hlocks : meth.locks = false) {N : Nat} {g : Gs} {x0 : Nat} {vz : Int32} {dz : Ds} (a : Int32 × Int32 × Ds) (hf : fX12_activeLayers_L13 N g x0 a = some (vz, dz)) : WB p l e rmX12_activeLayers s m args below meth c 3 D cy B 0 0 (MQ below (QI D cy B vz g dz) args s 0 0 (wA B)) g a.2.2 [(0, .ref (ad B x0)), (1, .int a.1), (2, .int a.2.1)] 13 [] :=
  lp_w (fun K13 hK13 a ha => tX12_activeLayers_13 C hr hlocks hK13 ha) N a hf
set_option maxRecDepth 100000 in
def fX12_activeLayers (N : Nat) (g : Gs) (x0 : Nat) (d : Ds) : Option (Int32 × Ds) := gd (chk g x0 11) <| ob (gR g x0 17) fun r2 => (gd (chk g r2 102) <| gd (¬ ((452 : Int32) < 0 ∨ gL g r2 ≤ (452 : Int32).toNatClampNeg)) <| bd (((1 : Int32) ||| (dI d r2 (452 : Int32).toNatClampNeg))) fun u5 => (fX12_activeLayers_L13 N g x0 (u5, 0, d)))
set_option maxHeartbeats 4000000 in
set_option maxRecDepth 100000 in
theorem tX12_activeLayers_E {p : Program} {l : Launch} {e : Env} {s : State} {m : MethodId} {args : Array Value} {below : List Frame} {meth : Method} {c : Code} {D : va_G} {cy : Nat → ClassId} {B : Bs} (C : Cx p s m args c cX12_activeLayers 3 RX12 D cy B) (hr : meth.sig.returnType = (some .int)) (hlocks : meth.locks = false) {N : Nat} {g : Gs} {x0 : Nat} {vz : Int32} {dz : Ds} {d : Ds} (hf : fX12_activeLayers N g x0 d = some (vz, dz)) : WB p l e rmX12_activeLayers s m args below meth c 3 D cy B 0 0 (MQ below (QI D cy B vz g dz) args s 0 0 (wA B)) g d [(0, .ref (ad B x0))] 0 [] := by
  unfold fX12_activeLayers at hf
  refine b_iconst C (v := 1) dX12_activeLayers_0 (by decide) ?_
  refine b_aload_n C dX12_activeLayers_1 0 rfl rfl ?_
  obtain ⟨h1, hf⟩ := gd_s hf
  obtain ⟨r2, er2, hf⟩ := ob_s hf
  refine b_gR C dX12_activeLayers_2 fl_X12_40 h1 er2 ?_
  refine b_sipush C (v := 452) dX12_activeLayers_5 (by decide) ?_
  obtain ⟨h3, hf⟩ := gd_s hf
  obtain ⟨h4, hf⟩ := gd_s hf
  refine b_iald C h3 h4 dX12_activeLayers_8 ?_
  refine b_ior C dX12_activeLayers_9 ?_
  obtain ⟨u5, eu5, hf⟩ := bd_s hf
  refine b_topI eu5 ?_
  refine b_istore_n C dX12_activeLayers_10 rfl [(1, .int u5), (0, .ref (ad B x0))] (by decide) rfl ?_
  refine b_iconst C (v := 0) dX12_activeLayers_11 (by decide) ?_
  refine b_istore_n C dX12_activeLayers_12 rfl [(2, .int 0), (1, .int u5), (0, .ref (ad B x0))] (by decide) rfl ?_
  refine b_sub [(0, .ref (ad B x0)), (1, .int u5), (2, .int 0)] [2, 1, 0] rfl ?_
  exact tX12_activeLayers_L13 C hr hlocks (u5, 0, d) hf
theorem kX12_activeLayers (l : Launch) (D : va_G) (cy : Nat → ClassId) (B : Bs) {N : Nat} {g : Gs} {x0 : Nat} {vz : Int32} {dz : Ds} {d : Ds} (hf : fX12_activeLayers N g x0 d = some (vz, dz)) : Met l yX12_activeLayers (.code yX12_activeLayers cX12_activeLayers 3 (some .int) :: wl) rmX12_activeLayers (PC D cy B [.ref (ad B x0)] g d) (QI D cy B vz g dz) 0 0 (wA B) :=
  met_of (by decide +kernel) (Nat.le_of_ble_eq_true rfl) (fun p e s m args below meth c C hr hlocks _ => b_sub [(0, .ref (ad B x0))] [0] rfl (tX12_activeLayers_E C hr hlocks hf))
/-! KeyMatrixModel.layerOf(I)I -/
theorem yo_X12_activeLayers : yX12_activeLayers.cls ≠ "java/lang/invoke/MethodHandle" ∧ yX12_activeLayers.cls ≠ "java/lang/invoke/VarHandle" ∧ (parseMethodDescriptor yX12_activeLayers.desc).map (fun d => d.parameters.length) = some 0 := by decide +kernel
theorem co_X12_activeLayers : Cond.code yX12_activeLayers cX12_activeLayers 3 (some .int) ∈ wl := mW (mT6 (List.mem_of_getElem? (i := 111) (by decide +kernel))) rfl
theorem in_X12_activeLayers : Cond.initialized yX12_activeLayers.cls ∈ wl := mW (mT1 (List.mem_of_getElem? (i := 12) (by decide +kernel))) rfl
theorem im_X12_activeLayers : Cond.instanceMethod yX12_activeLayers ∈ wl := mW (mT6 (List.mem_of_getElem? (i := 110) (by decide +kernel))) rfl
theorem se_X12_activeLayers : Cond.selects yX12_activeLayers.cls yX12_activeLayers yX12_activeLayers ∈ wl := mW (mT0 (List.mem_of_getElem? (i := 60) (by decide +kernel))) rfl
theorem lv_X12_296 : LV RX12 296 yX12_activeLayers cX12_activeLayers 3 (some .int) 0 11 := ⟨⟨(RX12, TX12, 33), rfl, rfl⟩, yo_X12_activeLayers, mW (mT6 (List.mem_of_getElem? (i := 108) (by decide +kernel))) rfl, im_X12_activeLayers, se_X12_activeLayers, in_X12_activeLayers, co_X12_activeLayers⟩
theorem dX12_layerOf_0 : decode cX12_layerOf 0 = .ok (.aload_n 0, 1) := by decide +kernel
theorem dX12_layerOf_1 : decode cX12_layerOf 1 = .ok (.invokevirtual 296, 3) := by decide +kernel
theorem dX12_layerOf_4 : decode cX12_layerOf 4 = .ok (.istore_n 2, 1) := by decide +kernel
theorem dX12_layerOf_5 : decode cX12_layerOf 5 = .ok (.iconst 3, 1) := by decide +kernel
theorem dX12_layerOf_6 : decode cX12_layerOf 6 = .ok (.istore_n 3, 1) := by decide +kernel
theorem dX12_layerOf_7 : decode cX12_layerOf 7 = .ok (.iload_n 3, 1) := by decide +kernel
theorem dX12_layerOf_8 : decode cX12_layerOf 8 = .ok (.ifCond .le 39, 3) := by decide +kernel
theorem dX12_layerOf_11 : decode cX12_layerOf 11 = .ok (.iload_n 2, 1) := by decide +kernel
theorem dX12_layerOf_12 : decode cX12_layerOf 12 = .ok (.iload_n 3, 1) := by decide +kernel
theorem dX12_layerOf_13 : decode cX12_layerOf 13 = .ok (.invokestatic 210, 3) := by decide +kernel
theorem dX12_layerOf_16 : decode cX12_layerOf 16 = .ok (.ifCond .eq 25, 3) := by decide +kernel
theorem dX12_layerOf_19 : decode cX12_layerOf 19 = .ok (.aload_n 0, 1) := by decide +kernel
theorem dX12_layerOf_20 : decode cX12_layerOf 20 = .ok (.getfield 40, 3) := by decide +kernel
theorem dX12_layerOf_23 : decode cX12_layerOf 23 = .ok (.bipush 12, 2) := by decide +kernel
theorem dX12_layerOf_25 : decode cX12_layerOf 25 = .ok (.iconst 3, 1) := by decide +kernel
theorem dX12_layerOf_26 : decode cX12_layerOf 26 = .ok (.bipush 24, 2) := by decide +kernel
theorem dX12_layerOf_28 : decode cX12_layerOf 28 = .ok (.iload_n 3, 1) := by decide +kernel
theorem dX12_layerOf_29 : decode cX12_layerOf 29 = .ok (.imul, 1) := by decide +kernel
theorem dX12_layerOf_30 : decode cX12_layerOf 30 = .ok (.iload_n 1, 1) := by decide +kernel
theorem dX12_layerOf_31 : decode cX12_layerOf 31 = .ok (.iadd, 1) := by decide +kernel
theorem dX12_layerOf_32 : decode cX12_layerOf 32 = .ok (.imul, 1) := by decide +kernel
theorem dX12_layerOf_33 : decode cX12_layerOf 33 = .ok (.iadd, 1) := by decide +kernel
theorem dX12_layerOf_34 : decode cX12_layerOf 34 = .ok (.iaload, 1) := by decide +kernel
theorem dX12_layerOf_35 : decode cX12_layerOf 35 = .ok (.iconst 5, 1) := by decide +kernel
theorem dX12_layerOf_36 : decode cX12_layerOf 36 = .ok (.if_icmp .eq 5, 3) := by decide +kernel
theorem dX12_layerOf_39 : decode cX12_layerOf 39 = .ok (.iload_n 3, 1) := by decide +kernel
theorem dX12_layerOf_40 : decode cX12_layerOf 40 = .ok (.ireturn, 1) := by decide +kernel
theorem dX12_layerOf_41 : decode cX12_layerOf 41 = .ok (.iinc 3 (-1), 3) := by decide +kernel
theorem dX12_layerOf_44 : decode cX12_layerOf 44 = .ok (.goto (-37), 3) := by decide +kernel
theorem dX12_layerOf_47 : decode cX12_layerOf 47 = .ok (.iconst 0, 1) := by decide +kernel
theorem dX12_layerOf_48 : decode cX12_layerOf 48 = .ok (.ireturn, 1) := by decide +kernel
def rmX12_layerOf : Room := { frames := 1, cells := 0, slots := 0, locals := 22 }
set_option maxRecDepth 100000 in
def fX12_layerOf_J41 (N : Nat) (g : Gs) (x0 : Nat) (x1 : Int32) (K7 : Int32 × Int32 × Ds → Option (Int32 × Ds)) (y2 : Int32) (y3 : Int32) (d : Ds) : Option (Int32 × Ds) := bd (y3 + (-1)) fun u10 => (K7 (y2, u10, d))
set_option maxHeartbeats 4000000 in
set_option maxRecDepth 100000 in
theorem tX12_layerOf_41 {p : Program} {l : Launch} {e : Env} {s : State} {m : MethodId} {args : Array Value} {below : List Frame} {meth : Method} {c : Code} {D : va_G} {cy : Nat → ClassId} {B : Bs} (C : Cx p s m args c cX12_layerOf 4 RX12 D cy B) (hr : meth.sig.returnType = (some .int)) (hlocks : meth.locks = false) {N : Nat} {g : Gs} {x0 : Nat} {x1 : Int32} {vz : Int32} {dz : Ds} {K7 : Int32 × Int32 × Ds → Option (Int32 × Ds)} (hK7 : ∀ a, K7 a = some (vz, dz) → WB p l e rmX12_layerOf s m args below meth c 4 D cy B 0 0 (MQ below (QI D cy B vz g dz) args s 0 0 (wA B)) g a.2.2 [(0, .ref (ad B x0)), (1, .int x1), (2, .int a.1), (3, .int a.2.1)] 7 []) {y2 : Int32} {y3 : Int32} {d : Ds} (hf : fX12_layerOf_J41 N g x0 x1 K7 y2 y3 d = some (vz, dz)) : WB p l e rmX12_layerOf s m args below meth c 4 D cy B 0 0 (MQ below (QI D cy B vz g dz) args s 0 0 (wA B)) g d [(0, .ref (ad B x0)), (1, .int x1), (2, .int y2), (3, .int y3)] 41 [] := by
  unfold fX12_layerOf_J41 at hf
  obtain ⟨u10, eu10, hf⟩ := bd_s hf
  refine b_iinc C dX12_layerOf_41 3 rfl (by rw [eu10]; rfl) [(3, .int u10), (0, .ref (ad B x0)), (1, .int x1), (2, .int y2)] (by decide) rfl ?_
  refine b_goto C (tgt := 7) dX12_layerOf_44 (by decide) ?_
  refine b_sub [(0, .ref (ad B x0)), (1, .int x1), (2, .int y2), (3, .int u10)] [1, 2, 3, 0] rfl ?_
  exact hK7 (y2, u10, d) hf
set_option maxRecDepth 100000 in
def fX12_layerOf_B7 (N : Nat) (g : Gs) (x0 : Nat) (x1 : Int32) (K7 : Int32 × Int32 × Ds → Option (Int32 × Ds)) (y2 : Int32) (y3 : Int32) (d : Ds) : Option (Int32 × Ds) := if y3 ≤ 0 then (some (0, d)) else (cb (fX12_has N g y2 y3 d) fun u8 d6 => (if u8 = 0 then (fX12_layerOf_J41 N g x0 x1 K7 y2 y3 d6) else (gd (chk g x0 11) <| ob (gR g x0 17) fun r12 => (gd (chk g r12 102) <| gd (¬ (((12 : Int32) + ((3 : Int32) * (((24 : Int32) * y3) + x1))) < 0 ∨ gL g r12 ≤ ((12 : Int32) + ((3 : Int32) * (((24 : Int32) * y3) + x1))).toNatClampNeg)) <| if (dI d6 r12 ((12 : Int32) + ((3 : Int32) * (((24 : Int32) * y3) + x1))).toNatClampNeg) = (5 : Int32) then (fX12_layerOf_J41 N g x0 x1 K7 y2 y3 d6) else (some (y3, d6))))))
set_option maxHeartbeats 4000000 in
set_option maxRecDepth 100000 in
theorem tX12_layerOf_7 {p : Program} {l : Launch} {e : Env} {s : State} {m : MethodId} {args : Array Value} {below : List Frame} {meth : Method} {c : Code} {D : va_G} {cy : Nat → ClassId} {B : Bs} (C : Cx p s m args c cX12_layerOf 4 RX12 D cy B) (hr : meth.sig.returnType = (some .int)) (hlocks : meth.locks = false) {N : Nat} {g : Gs} {x0 : Nat} {x1 : Int32} {vz : Int32} {dz : Ds} {K7 : Int32 × Int32 × Ds → Option (Int32 × Ds)} (hK7 : ∀ a, K7 a = some (vz, dz) → WB p l e rmX12_layerOf s m args below meth c 4 D cy B 0 0 (MQ below (QI D cy B vz g dz) args s 0 0 (wA B)) g a.2.2 [(0, .ref (ad B x0)), (1, .int x1), (2, .int a.1), (3, .int a.2.1)] 7 []) {y2 : Int32} {y3 : Int32} {d : Ds} (hf : fX12_layerOf_B7 N g x0 x1 K7 y2 y3 d = some (vz, dz)) : WB p l e rmX12_layerOf s m args below meth c 4 D cy B 0 0 (MQ below (QI D cy B vz g dz) args s 0 0 (wA B)) g d [(0, .ref (ad B x0)), (1, .int x1), (2, .int y2), (3, .int y3)] 7 [] := by
  unfold fX12_layerOf_B7 at hf
  refine b_iload_n C dX12_layerOf_7 3 rfl rfl ?_
  refine b_if_le C (tgt := 47) dX12_layerOf_8 (by decide) (fun c5 => ?_) (fun c5 => ?_)
  · have hf := it_s c5 hf
    refine b_iconst C (v := 0) dX12_layerOf_47 (by decide) ?_
    exact b_iret C hr hlocks hf dX12_layerOf_48
  · have hf := if_s c5 hf
    refine b_iload_n C dX12_layerOf_11 2 rfl rfl ?_
    refine b_iload_n C dX12_layerOf_12 3 rfl rfl ?_
    obtain ⟨u8, d6, k7, hf⟩ := cb_s hf
    refine b_cSI C [] dX12_layerOf_13 (kX12_has l D cy B k7) lv_X12_210 ⟨rfl, rfl, Nat.le_of_ble_eq_true rfl, Nat.le_of_ble_eq_true rfl⟩ rfl (Nat.le_of_ble_eq_true rfl) ⟨Nat.zero_le _, Nat.zero_le _⟩ rfl ?_
    refine b_if_eq C (tgt := 41) dX12_layerOf_16 (by decide) (fun c9 => ?_) (fun c9 => ?_)
    · have hf := it_s c9 hf
      refine b_sub [(0, .ref (ad B x0)), (1, .int x1), (2, .int y2), (3, .int y3)] [0, 1, 2, 3] rfl ?_
      exact tX12_layerOf_41 C hr hlocks hK7 hf
    · have hf := if_s c9 hf
      refine b_aload_n C dX12_layerOf_19 0 rfl rfl ?_
      obtain ⟨h11, hf⟩ := gd_s hf
      obtain ⟨r12, er12, hf⟩ := ob_s hf
      refine b_gR C dX12_layerOf_20 fl_X12_40 h11 er12 ?_
      refine b_bipush C (v := 12) dX12_layerOf_23 (by decide) ?_
      refine b_iconst C (v := 3) dX12_layerOf_25 (by decide) ?_
      refine b_bipush C (v := 24) dX12_layerOf_26 (by decide) ?_
      refine b_iload_n C dX12_layerOf_28 3 rfl rfl ?_
      refine b_imul C dX12_layerOf_29 ?_
      refine b_iload_n C dX12_layerOf_30 1 rfl rfl ?_
      refine b_iadd C dX12_layerOf_31 ?_
      refine b_imul C dX12_layerOf_32 ?_
      refine b_iadd C dX12_layerOf_33 ?_
      obtain ⟨h13, hf⟩ := gd_s hf
      obtain ⟨h14, hf⟩ := gd_s hf
      refine b_iald C h13 h14 dX12_layerOf_34 ?_
      refine b_iconst C (v := 5) dX12_layerOf_35 (by decide) ?_
      refine b_icmp_eq C (tgt := 41) dX12_layerOf_36 (by decide) (fun c15 => ?_) (fun c15 => ?_)
      · have hf := it_s c15 hf
        refine b_sub [(0, .ref (ad B x0)), (1, .int x1), (2, .int y2), (3, .int y3)] [0, 1, 2, 3] rfl ?_
        exact tX12_layerOf_41 C hr hlocks hK7 hf
      · have hf := if_s c15 hf
        refine b_iload_n C dX12_layerOf_39 3 rfl rfl ?_
        exact b_iret C hr hlocks hf dX12_layerOf_40
def fX12_layerOf_L7 (N : Nat) (g : Gs) (x0 : Nat) (x1 : Int32) : Int32 × Int32 × Ds → Option (Int32 × Ds) := lp (fun K7 a => fX12_layerOf_B7 N g x0 x1 K7 a.1 a.2.1 a.2.2) N
theorem tX12_layerOf_L7 {p : Program} {l : Launch} {e : Env} {s : State} {m : MethodId} {args : Array Value} {below : List Frame} {meth : Method} {c : Code} {D : va_G} {cy : Nat → ClassId} {B : Bs} (C : Cx p s m args c cX12_layerOf 4 RX12 D cy B) (hr : meth.sig.returnType = (some .int)) (hlocks : meth.locks = false) {N : Nat} {g : Gs} {x0 : Nat} {x1 : Int32} {vz : Int32} {dz : Ds} (a : Int32 × Int32 × Ds) (hf : fX12_layerOf_L7 N g x0 x1 a = some (vz, dz)) : WB p l e rmX12_layerOf s m args below meth c 4 D cy B 0 0 (MQ below (QI D cy B vz g dz) args s 0 0 (wA B)) g a.2.2 [(0, .ref (ad B x0)), (1, .int x1), (2, .int a.1), (3, .int a.2.1)] 7 [] :=
  lp_w (fun K7 hK7 a ha => tX12_layerOf_7 C hr hlocks hK7 ha) N a hf
set_option maxRecDepth 100000 in
def fX12_layerOf (N : Nat) (g : Gs) (x0 : Nat) (x1 : Int32) (d : Ds) : Option (Int32 × Ds) := gd (chk g x0 11) <| cb (fX12_activeLayers N g x0 d) fun u4 d2 => (fX12_layerOf_L7 N g x0 x1 (u4, 3, d2))
set_option maxHeartbeats 4000000 in
set_option maxRecDepth 100000 in
theorem tX12_layerOf_E {p : Program} {l : Launch} {e : Env} {s : State} {m : MethodId} {args : Array Value} {below : List Frame} {meth : Method} {c : Code} {D : va_G} {cy : Nat → ClassId} {B : Bs} (C : Cx p s m args c cX12_layerOf 4 RX12 D cy B) (hr : meth.sig.returnType = (some .int)) (hlocks : meth.locks = false) {N : Nat} {g : Gs} {x0 : Nat} {x1 : Int32} {vz : Int32} {dz : Ds} {d : Ds} (hf : fX12_layerOf N g x0 x1 d = some (vz, dz)) : WB p l e rmX12_layerOf s m args below meth c 4 D cy B 0 0 (MQ below (QI D cy B vz g dz) args s 0 0 (wA B)) g d [(0, .ref (ad B x0)), (1, .int x1)] 0 [] := by
  unfold fX12_layerOf at hf
  refine b_aload_n C dX12_layerOf_0 0 rfl rfl ?_
  obtain ⟨h1, hf⟩ := gd_s hf
  obtain ⟨u4, d2, k3, hf⟩ := cb_s hf
  refine b_cVI C [] dX12_layerOf_1 (kX12_activeLayers l D cy B k3) lv_X12_296 ⟨rfl, rfl, Nat.le_of_ble_eq_true rfl, Nat.le_of_ble_eq_true rfl⟩ h1 (by decide) rfl (Nat.le_of_ble_eq_true rfl) ⟨Nat.zero_le _, Nat.zero_le _⟩ rfl ?_
  refine b_istore_n C dX12_layerOf_4 rfl [(2, .int u4), (0, .ref (ad B x0)), (1, .int x1)] (by decide) rfl ?_
  refine b_iconst C (v := 3) dX12_layerOf_5 (by decide) ?_
  refine b_istore_n C dX12_layerOf_6 rfl [(3, .int 3), (2, .int u4), (0, .ref (ad B x0)), (1, .int x1)] (by decide) rfl ?_
  refine b_sub [(0, .ref (ad B x0)), (1, .int x1), (2, .int u4), (3, .int 3)] [2, 3, 1, 0] rfl ?_
  exact tX12_layerOf_L7 C hr hlocks (u4, 3, d2) hf
theorem kX12_layerOf (l : Launch) (D : va_G) (cy : Nat → ClassId) (B : Bs) {N : Nat} {g : Gs} {x0 : Nat} {x1 : Int32} {vz : Int32} {dz : Ds} {d : Ds} (hf : fX12_layerOf N g x0 x1 d = some (vz, dz)) : Met l yX12_layerOf (.code yX12_layerOf cX12_layerOf 4 (some .int) :: wl) rmX12_layerOf (PC D cy B [.ref (ad B x0), .int x1] g d) (QI D cy B vz g dz) 0 0 (wA B) :=
  met_of (by decide +kernel) (Nat.le_of_ble_eq_true rfl) (fun p e s m args below meth c C hr hlocks _ => b_sub [(0, .ref (ad B x0)), (1, .int x1)] [0, 1] rfl (tX12_layerOf_E C hr hlocks hf))
/-! KeyMatrixModel.heldOrTapped(II)I -/
theorem yo_X12_timeAt : yX12_timeAt.cls ≠ "java/lang/invoke/MethodHandle" ∧ yX12_timeAt.cls ≠ "java/lang/invoke/VarHandle" ∧ (parseMethodDescriptor yX12_timeAt.desc).map (fun d => d.parameters.length) = some 1 := by decide +kernel
theorem co_X12_timeAt : Cond.code yX12_timeAt cX12_timeAt 2 (some .int) ∈ wl := mW (mT6 (List.mem_of_getElem? (i := 187) (by decide +kernel))) rfl
theorem in_X12_timeAt : Cond.initialized yX12_timeAt.cls ∈ wl := mW (mT1 (List.mem_of_getElem? (i := 12) (by decide +kernel))) rfl
theorem im_X12_timeAt : Cond.instanceMethod yX12_timeAt ∈ wl := mW (mT6 (List.mem_of_getElem? (i := 186) (by decide +kernel))) rfl
theorem se_X12_timeAt : Cond.selects yX12_timeAt.cls yX12_timeAt yX12_timeAt ∈ wl := mW (mT0 (List.mem_of_getElem? (i := 78) (by decide +kernel))) rfl
theorem lv_X12_259 : LV RX12 259 yX12_timeAt cX12_timeAt 2 (some .int) 1 11 := ⟨⟨(RX12, TX12, 33), rfl, rfl⟩, yo_X12_timeAt, mW (mT6 (List.mem_of_getElem? (i := 184) (by decide +kernel))) rfl, im_X12_timeAt, se_X12_timeAt, in_X12_timeAt, co_X12_timeAt⟩
theorem yo_X12_keyAt : yX12_keyAt.cls ≠ "java/lang/invoke/MethodHandle" ∧ yX12_keyAt.cls ≠ "java/lang/invoke/VarHandle" ∧ (parseMethodDescriptor yX12_keyAt.desc).map (fun d => d.parameters.length) = some 1 := by decide +kernel
theorem co_X12_keyAt : Cond.code yX12_keyAt cX12_keyAt 2 (some .int) ∈ wl := mW (mT6 (List.mem_of_getElem? (i := 131) (by decide +kernel))) rfl
theorem in_X12_keyAt : Cond.initialized yX12_keyAt.cls ∈ wl := mW (mT1 (List.mem_of_getElem? (i := 12) (by decide +kernel))) rfl
theorem im_X12_keyAt : Cond.instanceMethod yX12_keyAt ∈ wl := mW (mT6 (List.mem_of_getElem? (i := 130) (by decide +kernel))) rfl
theorem se_X12_keyAt : Cond.selects yX12_keyAt.cls yX12_keyAt yX12_keyAt ∈ wl := mW (mT0 (List.mem_of_getElem? (i := 64) (by decide +kernel))) rfl
theorem lv_X12_244 : LV RX12 244 yX12_keyAt cX12_keyAt 2 (some .int) 1 11 := ⟨⟨(RX12, TX12, 33), rfl, rfl⟩, yo_X12_keyAt, mW (mT6 (List.mem_of_getElem? (i := 128) (by decide +kernel))) rfl, im_X12_keyAt, se_X12_keyAt, in_X12_keyAt, co_X12_keyAt⟩
theorem yo_X12_isDownAt : yX12_isDownAt.cls ≠ "java/lang/invoke/MethodHandle" ∧ yX12_isDownAt.cls ≠ "java/lang/invoke/VarHandle" ∧ (parseMethodDescriptor yX12_isDownAt.desc).map (fun d => d.parameters.length) = some 1 := by decide +kernel
theorem co_X12_isDownAt : Cond.code yX12_isDownAt cX12_isDownAt 2 (some .boolean) ∈ wl := mW (mT6 (List.mem_of_getElem? (i := 135) (by decide +kernel))) rfl
theorem in_X12_isDownAt : Cond.initialized yX12_isDownAt.cls ∈ wl := mW (mT1 (List.mem_of_getElem? (i := 12) (by decide +kernel))) rfl
theorem im_X12_isDownAt : Cond.instanceMethod yX12_isDownAt ∈ wl := mW (mT6 (List.mem_of_getElem? (i := 134) (by decide +kernel))) rfl
theorem se_X12_isDownAt : Cond.selects yX12_isDownAt.cls yX12_isDownAt yX12_isDownAt ∈ wl := mW (mT0 (List.mem_of_getElem? (i := 65) (by decide +kernel))) rfl
theorem lv_X12_247 : LV RX12 247 yX12_isDownAt cX12_isDownAt 2 (some .boolean) 1 11 := ⟨⟨(RX12, TX12, 33), rfl, rfl⟩, yo_X12_isDownAt, mW (mT6 (List.mem_of_getElem? (i := 132) (by decide +kernel))) rfl, im_X12_isDownAt, se_X12_isDownAt, in_X12_isDownAt, co_X12_isDownAt⟩
theorem dX12_heldOrTapped_0 : decode cX12_heldOrTapped 0 = .ok (.iload_n 2, 1) := by decide +kernel
theorem dX12_heldOrTapped_1 : decode cX12_heldOrTapped 1 = .ok (.aload_n 0, 1) := by decide +kernel
theorem dX12_heldOrTapped_2 : decode cX12_heldOrTapped 2 = .ok (.getfield 40, 3) := by decide +kernel
theorem dX12_heldOrTapped_5 : decode cX12_heldOrTapped 5 = .ok (.iconst 5, 1) := by decide +kernel
theorem dX12_heldOrTapped_6 : decode cX12_heldOrTapped 6 = .ok (.iaload, 1) := by decide +kernel
theorem dX12_heldOrTapped_7 : decode cX12_heldOrTapped 7 = .ok (.iadd, 1) := by decide +kernel
theorem dX12_heldOrTapped_8 : decode cX12_heldOrTapped 8 = .ok (.istore_n 3, 1) := by decide +kernel
theorem dX12_heldOrTapped_9 : decode cX12_heldOrTapped 9 = .ok (.iconst 0, 1) := by decide +kernel
theorem dX12_heldOrTapped_10 : decode cX12_heldOrTapped 10 = .ok (.istore 4, 2) := by decide +kernel
theorem dX12_heldOrTapped_12 : decode cX12_heldOrTapped 12 = .ok (.iconst 1, 1) := by decide +kernel
theorem dX12_heldOrTapped_13 : decode cX12_heldOrTapped 13 = .ok (.istore 5, 2) := by decide +kernel
theorem dX12_heldOrTapped_15 : decode cX12_heldOrTapped 15 = .ok (.iload 5, 2) := by decide +kernel
theorem dX12_heldOrTapped_17 : decode cX12_heldOrTapped 17 = .ok (.aload_n 0, 1) := by decide +kernel
theorem dX12_heldOrTapped_18 : decode cX12_heldOrTapped 18 = .ok (.getfield 40, 3) := by decide +kernel
theorem dX12_heldOrTapped_21 : decode cX12_heldOrTapped 21 = .ok (.sipush 557, 3) := by decide +kernel
theorem dX12_heldOrTapped_24 : decode cX12_heldOrTapped 24 = .ok (.iaload, 1) := by decide +kernel
theorem dX12_heldOrTapped_25 : decode cX12_heldOrTapped 25 = .ok (.if_icmp .ge 70, 3) := by decide +kernel
theorem dX12_heldOrTapped_28 : decode cX12_heldOrTapped 28 = .ok (.aload_n 0, 1) := by decide +kernel
theorem dX12_heldOrTapped_29 : decode cX12_heldOrTapped 29 = .ok (.iload 5, 2) := by decide +kernel
theorem dX12_heldOrTapped_31 : decode cX12_heldOrTapped 31 = .ok (.invokevirtual 259, 3) := by decide +kernel
theorem dX12_heldOrTapped_34 : decode cX12_heldOrTapped 34 = .ok (.iload_n 3, 1) := by decide +kernel
theorem dX12_heldOrTapped_35 : decode cX12_heldOrTapped 35 = .ok (.if_icmp .lt 5, 3) := by decide +kernel
theorem dX12_heldOrTapped_38 : decode cX12_heldOrTapped 38 = .ok (.iconst 1, 1) := by decide +kernel
theorem dX12_heldOrTapped_39 : decode cX12_heldOrTapped 39 = .ok (.ireturn, 1) := by decide +kernel
theorem dX12_heldOrTapped_40 : decode cX12_heldOrTapped 40 = .ok (.aload_n 0, 1) := by decide +kernel
theorem dX12_heldOrTapped_41 : decode cX12_heldOrTapped 41 = .ok (.iload 5, 2) := by decide +kernel
theorem dX12_heldOrTapped_43 : decode cX12_heldOrTapped 43 = .ok (.invokevirtual 244, 3) := by decide +kernel
theorem dX12_heldOrTapped_46 : decode cX12_heldOrTapped 46 = .ok (.istore 6, 2) := by decide +kernel
theorem dX12_heldOrTapped_48 : decode cX12_heldOrTapped 48 = .ok (.aload_n 0, 1) := by decide +kernel
theorem dX12_heldOrTapped_49 : decode cX12_heldOrTapped 49 = .ok (.iload 5, 2) := by decide +kernel
theorem dX12_heldOrTapped_51 : decode cX12_heldOrTapped 51 = .ok (.invokevirtual 247, 3) := by decide +kernel
theorem dX12_heldOrTapped_54 : decode cX12_heldOrTapped 54 = .ok (.ifCond .eq 15, 3) := by decide +kernel
theorem dX12_heldOrTapped_57 : decode cX12_heldOrTapped 57 = .ok (.iload 4, 2) := by decide +kernel
theorem dX12_heldOrTapped_59 : decode cX12_heldOrTapped 59 = .ok (.iconst 1, 1) := by decide +kernel
theorem dX12_heldOrTapped_60 : decode cX12_heldOrTapped 60 = .ok (.iload 6, 2) := by decide +kernel
theorem dX12_heldOrTapped_62 : decode cX12_heldOrTapped 62 = .ok (.ishl, 1) := by decide +kernel
theorem dX12_heldOrTapped_63 : decode cX12_heldOrTapped 63 = .ok (.ior, 1) := by decide +kernel
theorem dX12_heldOrTapped_64 : decode cX12_heldOrTapped 64 = .ok (.istore 4, 2) := by decide +kernel
theorem dX12_heldOrTapped_66 : decode cX12_heldOrTapped 66 = .ok (.goto 23, 3) := by decide +kernel
theorem dX12_heldOrTapped_69 : decode cX12_heldOrTapped 69 = .ok (.iload 6, 2) := by decide +kernel
theorem dX12_heldOrTapped_71 : decode cX12_heldOrTapped 71 = .ok (.iload_n 1, 1) := by decide +kernel
theorem dX12_heldOrTapped_72 : decode cX12_heldOrTapped 72 = .ok (.if_icmp .ne 5, 3) := by decide +kernel
theorem dX12_heldOrTapped_75 : decode cX12_heldOrTapped 75 = .ok (.iconst 0, 1) := by decide +kernel
theorem dX12_heldOrTapped_76 : decode cX12_heldOrTapped 76 = .ok (.ireturn, 1) := by decide +kernel
theorem dX12_heldOrTapped_77 : decode cX12_heldOrTapped 77 = .ok (.iload 4, 2) := by decide +kernel
theorem dX12_heldOrTapped_79 : decode cX12_heldOrTapped 79 = .ok (.iload 6, 2) := by decide +kernel
theorem dX12_heldOrTapped_81 : decode cX12_heldOrTapped 81 = .ok (.invokestatic 210, 3) := by decide +kernel
theorem dX12_heldOrTapped_84 : decode cX12_heldOrTapped 84 = .ok (.ifCond .eq 5, 3) := by decide +kernel
theorem dX12_heldOrTapped_87 : decode cX12_heldOrTapped 87 = .ok (.iconst 1, 1) := by decide +kernel
theorem dX12_heldOrTapped_88 : decode cX12_heldOrTapped 88 = .ok (.ireturn, 1) := by decide +kernel
theorem dX12_heldOrTapped_89 : decode cX12_heldOrTapped 89 = .ok (.iinc 5 1, 3) := by decide +kernel
theorem dX12_heldOrTapped_92 : decode cX12_heldOrTapped 92 = .ok (.goto (-77), 3) := by decide +kernel
theorem dX12_heldOrTapped_95 : decode cX12_heldOrTapped 95 = .ok (.aload_n 0, 1) := by decide +kernel
theorem dX12_heldOrTapped_96 : decode cX12_heldOrTapped 96 = .ok (.getfield 40, 3) := by decide +kernel
theorem dX12_heldOrTapped_99 : decode cX12_heldOrTapped 99 = .ok (.sipush 354, 3) := by decide +kernel
theorem dX12_heldOrTapped_102 : decode cX12_heldOrTapped 102 = .ok (.iaload, 1) := by decide +kernel
theorem dX12_heldOrTapped_103 : decode cX12_heldOrTapped 103 = .ok (.iload_n 3, 1) := by decide +kernel
theorem dX12_heldOrTapped_104 : decode cX12_heldOrTapped 104 = .ok (.if_icmp .lt 7, 3) := by decide +kernel
theorem dX12_heldOrTapped_107 : decode cX12_heldOrTapped 107 = .ok (.iconst 1, 1) := by decide +kernel
theorem dX12_heldOrTapped_108 : decode cX12_heldOrTapped 108 = .ok (.goto 4, 3) := by decide +kernel
theorem dX12_heldOrTapped_111 : decode cX12_heldOrTapped 111 = .ok (.iconst (-1), 1) := by decide +kernel
theorem dX12_heldOrTapped_112 : decode cX12_heldOrTapped 112 = .ok (.ireturn, 1) := by decide +kernel
def rmX12_heldOrTapped : Room := { frames := 1, cells := 0, slots := 0, locals := 21 }
set_option maxRecDepth 100000 in
def fX12_heldOrTapped_J112 (N : Nat) (g : Gs) (x0 : Nat) (x1 : Int32) (x2 : Int32) (z0 : Int32) (d : Ds) : Option (Int32 × Ds) := some (z0, d)
set_option maxHeartbeats 4000000 in
set_option maxRecDepth 100000 in
theorem tX12_heldOrTapped_112 {p : Program} {l : Launch} {e : Env} {s : State} {m : MethodId} {args : Array Value} {below : List Frame} {meth : Method} {c : Code} {D : va_G} {cy : Nat → ClassId} {B : Bs} (C : Cx p s m args c cX12_heldOrTapped 7 RX12 D cy B) (hr : meth.sig.returnType = (some .int)) (hlocks : meth.locks = false) {N : Nat} {g : Gs} {x0 : Nat} {x1 : Int32} {x2 : Int32} {vz : Int32} {dz : Ds} {z0 : Int32} {d : Ds} (hf : fX12_heldOrTapped_J112 N g x0 x1 x2 z0 d = some (vz, dz)) : WB p l e rmX12_heldOrTapped s m args below meth c 7 D cy B 0 0 (MQ below (QI D cy B vz g dz) args s 0 0 (wA B)) g d [(0, .ref (ad B x0)), (1, .int x1), (2, .int x2)] 112 [.int z0] := by
  unfold fX12_heldOrTapped_J112 at hf
  exact b_iret C hr hlocks hf dX12_heldOrTapped_112
set_option maxRecDepth 100000 in
def fX12_heldOrTapped_J89 (N : Nat) (g : Gs) (x0 : Nat) (x1 : Int32) (x2 : Int32) (K15 : Int32 × Int32 × Int32 × Ds → Option (Int32 × Ds)) (y3 : Int32) (y4 : Int32) (y5 : Int32) (d : Ds) : Option (Int32 × Ds) := bd (y5 + 1) fun u29 => (K15 (y3, y4, u29, d))
set_option maxHeartbeats 4000000 in
set_option maxRecDepth 100000 in
theorem tX12_heldOrTapped_89 {p : Program} {l : Launch} {e : Env} {s : State} {m : MethodId} {args : Array Value} {below : List Frame} {meth : Method} {c : Code} {D : va_G} {cy : Nat → ClassId} {B : Bs} (C : Cx p s m args c cX12_heldOrTapped 7 RX12 D cy B) (hr : meth.sig.returnType = (some .int)) (hlocks : meth.locks = false) {N : Nat} {g : Gs} {x0 : Nat} {x1 : Int32} {x2 : Int32} {vz : Int32} {dz : Ds} {K15 : Int32 × Int32 × Int32 × Ds → Option (Int32 × Ds)} (hK15 : ∀ a, K15 a = some (vz, dz) → WB p l e rmX12_heldOrTapped s m args below meth c 7 D cy B 0 0 (MQ below (QI D cy B vz g dz) args s 0 0 (wA B)) g a.2.2.2 [(0, .ref (ad B x0)), (1, .int x1), (2, .int x2), (3, .int a.1), (4, .int a.2.1), (5, .int a.2.2.1)] 15 []) {y3 : Int32} {y4 : Int32} {y5 : Int32} {d : Ds} (hf : fX12_heldOrTapped_J89 N g x0 x1 x2 K15 y3 y4 y5 d = some (vz, dz)) : WB p l e rmX12_heldOrTapped s m args below meth c 7 D cy B 0 0 (MQ below (QI D cy B vz g dz) args s 0 0 (wA B)) g d [(0, .ref (ad B x0)), (1, .int x1), (2, .int x2), (3, .int y3), (4, .int y4), (5, .int y5)] 89 [] := by
  unfold fX12_heldOrTapped_J89 at hf
  obtain ⟨u29, eu29, hf⟩ := bd_s hf
  refine b_iinc C dX12_heldOrTapped_89 5 rfl (by rw [eu29]; rfl) [(5, .int u29), (0, .ref (ad B x0)), (1, .int x1), (2, .int x2), (3, .int y3), (4, .int y4)] (by decide) rfl ?_
  refine b_goto C (tgt := 15) dX12_heldOrTapped_92 (by decide) ?_
  refine b_sub [(0, .ref (ad B x0)), (1, .int x1), (2, .int x2), (3, .int y3), (4, .int y4), (5, .int u29)] [1, 2, 3, 4, 5, 0] rfl ?_
  exact hK15 (y3, y4, u29, d) hf
set_option maxRecDepth 100000 in
def fX12_heldOrTapped_B15 (N : Nat) (g : Gs) (x0 : Nat) (x1 : Int32) (x2 : Int32) (K15 : Int32 × Int32 × Int32 × Ds → Option (Int32 × Ds)) (y3 : Int32) (y4 : Int32) (y5 : Int32) (d : Ds) : Option (Int32 × Ds) := gd (chk g x0 11) <| ob (gR g x0 17) fun r7 => (gd (chk g r7 102) <| gd (¬ ((557 : Int32) < 0 ∨ gL g r7 ≤ (557 : Int32).toNatClampNeg)) <| if (dI d r7 (557 : Int32).toNatClampNeg) ≤ y5 then (gd (¬ ((354 : Int32) < 0 ∨ gL g r7 ≤ (354 : Int32).toNatClampNeg)) <| if (dI d r7 (354 : Int32).toNatClampNeg) < y3 then (fX12_heldOrTapped_J112 N g x0 x1 x2 (-1) d) else (fX12_heldOrTapped_J112 N g x0 x1 x2 1 d)) else (cb (fX12_timeAt N g x0 y5 d) fun u15 d13 => (if u15 < y3 then (cb (fX12_keyAt N g x0 y5 d13) fun u19 d17 => (cb (fX12_isDownAt N g x0 y5 d17) fun u22 d20 => (if u22 = 0 then (if u19 = x1 then (some (0, d20)) else (cb (fX12_has N g y4 u19 d20) fun u27 d25 => (if u27 = 0 then (fX12_heldOrTapped_J89 N g x0 x1 x2 K15 y3 y4 y5 d25) else (some (1, d25))))) else (bd ((y4 ||| ((1 : Int32) <<< (u19 &&& 31)))) fun u30 => (fX12_heldOrTapped_J89 N g x0 x1 x2 K15 y3 u30 y5 d20))))) else (some (1, d13)))))
set_option maxHeartbeats 4000000 in
set_option maxRecDepth 100000 in
theorem tX12_heldOrTapped_15 {p : Program} {l : Launch} {e : Env} {s : State} {m : MethodId} {args : Array Value} {below : List Frame} {meth : Method} {c : Code} {D : va_G} {cy : Nat → ClassId} {B : Bs} (C : Cx p s m args c cX12_heldOrTapped 7 RX12 D cy B) (hr : meth.sig.returnType = (some .int)) (hlocks : meth.locks = false) {N : Nat} {g : Gs} {x0 : Nat} {x1 : Int32} {x2 : Int32} {vz : Int32} {dz : Ds} {K15 : Int32 × Int32 × Int32 × Ds → Option (Int32 × Ds)} (hK15 : ∀ a, K15 a = some (vz, dz) → WB p l e rmX12_heldOrTapped s m args below meth c 7 D cy B 0 0 (MQ below (QI D cy B vz g dz) args s 0 0 (wA B)) g a.2.2.2 [(0, .ref (ad B x0)), (1, .int x1), (2, .int x2), (3, .int a.1), (4, .int a.2.1), (5, .int a.2.2.1)] 15 []) {y3 : Int32} {y4 : Int32} {y5 : Int32} {d : Ds} (hf : fX12_heldOrTapped_B15 N g x0 x1 x2 K15 y3 y4 y5 d = some (vz, dz)) : WB p l e rmX12_heldOrTapped s m args below meth c 7 D cy B 0 0 (MQ below (QI D cy B vz g dz) args s 0 0 (wA B)) g d [(0, .ref (ad B x0)), (1, .int x1), (2, .int x2), (3, .int y3), (4, .int y4), (5, .int y5)] 15 [] := by
  unfold fX12_heldOrTapped_B15 at hf
  refine b_iload C dX12_heldOrTapped_15 5 rfl ?_
  refine b_aload_n C dX12_heldOrTapped_17 0 rfl rfl ?_
  obtain ⟨h6, hf⟩ := gd_s hf
  obtain ⟨r7, er7, hf⟩ := ob_s hf
  refine b_gR C dX12_heldOrTapped_18 fl_X12_40 h6 er7 ?_
  refine b_sipush C (v := 557) dX12_heldOrTapped_21 (by decide) ?_
  obtain ⟨h8, hf⟩ := gd_s hf
  obtain ⟨h9, hf⟩ := gd_s hf
  refine b_iald C h8 h9 dX12_heldOrTapped_24 ?_
  refine b_icmp_ge C (tgt := 95) dX12_heldOrTapped_25 (by decide) (fun c10 => ?_) (fun c10 => ?_)
  · have hf := it_s c10 hf
    refine b_aload_n C dX12_heldOrTapped_95 0 rfl rfl ?_
    refine b_gR C dX12_heldOrTapped_96 fl_X12_40 h6 er7 ?_
    refine b_sipush C (v := 354) dX12_heldOrTapped_99 (by decide) ?_
    obtain ⟨h11, hf⟩ := gd_s hf
    refine b_iald C h8 h11 dX12_heldOrTapped_102 ?_
    refine b_iload_n C dX12_heldOrTapped_103 3 rfl rfl ?_
    refine b_icmp_lt C (tgt := 111) dX12_heldOrTapped_104 (by decide) (fun c12 => ?_) (fun c12 => ?_)
    · have hf := it_s c12 hf
      refine b_iconst C (v := (-1)) dX12_heldOrTapped_111 (by decide) ?_
      refine b_sub [(0, .ref (ad B x0)), (1, .int x1), (2, .int x2)] [0, 1, 2] rfl ?_
      exact tX12_heldOrTapped_112 C hr hlocks hf
    · have hf := if_s c12 hf
      refine b_iconst C (v := 1) dX12_heldOrTapped_107 (by decide) ?_
      refine b_goto C (tgt := 112) dX12_heldOrTapped_108 (by decide) ?_
      refine b_sub [(0, .ref (ad B x0)), (1, .int x1), (2, .int x2)] [0, 1, 2] rfl ?_
      exact tX12_heldOrTapped_112 C hr hlocks hf
  · have hf := if_s c10 hf
    refine b_aload_n C dX12_heldOrTapped_28 0 rfl rfl ?_
    refine b_iload C dX12_heldOrTapped_29 5 rfl ?_
    obtain ⟨u15, d13, k14, hf⟩ := cb_s hf
    refine b_cVI C [] dX12_heldOrTapped_31 (kX12_timeAt l D cy B k14) lv_X12_259 ⟨rfl, rfl, Nat.le_of_ble_eq_true rfl, Nat.le_of_ble_eq_true rfl⟩ h6 (by decide) rfl (Nat.le_of_ble_eq_true rfl) ⟨Nat.zero_le _, Nat.zero_le _⟩ rfl ?_
    refine b_iload_n C dX12_heldOrTapped_34 3 rfl rfl ?_
    refine b_icmp_lt C (tgt := 40) dX12_heldOrTapped_35 (by decide) (fun c16 => ?_) (fun c16 => ?_)
    · have hf := it_s c16 hf
      refine b_aload_n C dX12_heldOrTapped_40 0 rfl rfl ?_
      refine b_iload C dX12_heldOrTapped_41 5 rfl ?_
      obtain ⟨u19, d17, k18, hf⟩ := cb_s hf
      refine b_cVI C [] dX12_heldOrTapped_43 (kX12_keyAt l D cy B k18) lv_X12_244 ⟨rfl, rfl, Nat.le_of_ble_eq_true rfl, Nat.le_of_ble_eq_true rfl⟩ h6 (by decide) rfl (Nat.le_of_ble_eq_true rfl) ⟨Nat.zero_le _, Nat.zero_le _⟩ rfl ?_
      refine b_istore C dX12_heldOrTapped_46 [(6, .int u19), (0, .ref (ad B x0)), (1, .int x1), (2, .int x2), (3, .int y3), (4, .int y4), (5, .int y5)] (by decide) rfl ?_
      refine b_aload_n C dX12_heldOrTapped_48 1 rfl rfl ?_
      refine b_iload C dX12_heldOrTapped_49 6 rfl ?_
      obtain ⟨u22, d20, k21, hf⟩ := cb_s hf
      refine b_cVI C [] dX12_heldOrTapped_51 (kX12_isDownAt l D cy B k21) lv_X12_247 ⟨rfl, rfl, Nat.le_of_ble_eq_true rfl, Nat.le_of_ble_eq_true rfl⟩ h6 (by decide) rfl (Nat.le_of_ble_eq_true rfl) ⟨Nat.zero_le _, Nat.zero_le _⟩ rfl ?_
      refine b_if_eq C (tgt := 69) dX12_heldOrTapped_54 (by decide) (fun c23 => ?_) (fun c23 => ?_)
      · have hf := it_s c23 hf
        refine b_iload C dX12_heldOrTapped_69 0 rfl ?_
        refine b_iload_n C dX12_heldOrTapped_71 2 rfl rfl ?_
        refine b_icmp_ne C (tgt := 77) dX12_heldOrTapped_72 (by decide) (fun c24 => ?_) (fun c24 => ?_)
        · have hf := if_s c24 hf
          refine b_iload C dX12_heldOrTapped_77 5 rfl ?_
          refine b_iload C dX12_heldOrTapped_79 0 rfl ?_
          obtain ⟨u27, d25, k26, hf⟩ := cb_s hf
          refine b_cSI C [] dX12_heldOrTapped_81 (kX12_has l D cy B k26) lv_X12_210 ⟨rfl, rfl, Nat.le_of_ble_eq_true rfl, Nat.le_of_ble_eq_true rfl⟩ rfl (Nat.le_of_ble_eq_true rfl) ⟨Nat.zero_le _, Nat.zero_le _⟩ rfl ?_
          refine b_if_eq C (tgt := 89) dX12_heldOrTapped_84 (by decide) (fun c28 => ?_) (fun c28 => ?_)
          · have hf := it_s c28 hf
            refine b_sub [(0, .ref (ad B x0)), (1, .int x1), (2, .int x2), (3, .int y3), (4, .int y4), (5, .int y5)] [1, 2, 3, 4, 5, 6] rfl ?_
            exact tX12_heldOrTapped_89 C hr hlocks hK15 hf
          · have hf := if_s c28 hf
            refine b_iconst C (v := 1) dX12_heldOrTapped_87 (by decide) ?_
            exact b_iret C hr hlocks hf dX12_heldOrTapped_88
        · have hf := it_s c24 hf
          refine b_iconst C (v := 0) dX12_heldOrTapped_75 (by decide) ?_
          exact b_iret C hr hlocks hf dX12_heldOrTapped_76
      · have hf := if_s c23 hf
        refine b_iload C dX12_heldOrTapped_57 5 rfl ?_
        refine b_iconst C (v := 1) dX12_heldOrTapped_59 (by decide) ?_
        refine b_iload C dX12_heldOrTapped_60 0 rfl ?_
        refine b_ishl C dX12_heldOrTapped_62 ?_
        refine b_ior C dX12_heldOrTapped_63 ?_
        obtain ⟨u30, eu30, hf⟩ := bd_s hf
        refine b_topI eu30 ?_
        refine b_istore C dX12_heldOrTapped_64 [(4, .int u30), (6, .int u19), (0, .ref (ad B x0)), (1, .int x1), (2, .int x2), (3, .int y3), (5, .int y5)] (by decide) rfl ?_
        refine b_goto C (tgt := 89) dX12_heldOrTapped_66 (by decide) ?_
        refine b_sub [(0, .ref (ad B x0)), (1, .int x1), (2, .int x2), (3, .int y3), (4, .int u30), (5, .int y5)] [2, 3, 4, 5, 0, 6] rfl ?_
        exact tX12_heldOrTapped_89 C hr hlocks hK15 hf
    · have hf := if_s c16 hf
      refine b_iconst C (v := 1) dX12_heldOrTapped_38 (by decide) ?_
      exact b_iret C hr hlocks hf dX12_heldOrTapped_39
def fX12_heldOrTapped_L15 (N : Nat) (g : Gs) (x0 : Nat) (x1 : Int32) (x2 : Int32) : Int32 × Int32 × Int32 × Ds → Option (Int32 × Ds) := lp (fun K15 a => fX12_heldOrTapped_B15 N g x0 x1 x2 K15 a.1 a.2.1 a.2.2.1 a.2.2.2) N
theorem tX12_heldOrTapped_L15 {p : Program} {l : Launch} {e : Env} {s : State} {m : MethodId} {args : Array Value} {below : List Frame} {meth : Method} {c : Code} {D : va_G} {cy : Nat → ClassId} {B : Bs} (C : Cx p s m args c cX12_heldOrTapped 7 RX12 D cy B) (hr : meth.sig.returnType = (some .int)) (hlocks : meth.locks = false) {N : Nat} {g : Gs} {x0 : Nat} {x1 : Int32} {x2 : Int32} {vz : Int32} {dz : Ds} (a : Int32 × Int32 × Int32 × Ds) (hf : fX12_heldOrTapped_L15 N g x0 x1 x2 a = some (vz, dz)) : WB p l e rmX12_heldOrTapped s m args below meth c 7 D cy B 0 0 (MQ below (QI D cy B vz g dz) args s 0 0 (wA B)) g a.2.2.2 [(0, .ref (ad B x0)), (1, .int x1), (2, .int x2), (3, .int a.1), (4, .int a.2.1), (5, .int a.2.2.1)] 15 [] :=
  lp_w (fun K15 hK15 a ha => tX12_heldOrTapped_15 C hr hlocks hK15 ha) N a hf
set_option maxRecDepth 100000 in
def fX12_heldOrTapped (N : Nat) (g : Gs) (x0 : Nat) (x1 : Int32) (x2 : Int32) (d : Ds) : Option (Int32 × Ds) := gd (chk g x0 11) <| ob (gR g x0 17) fun r2 => (gd (chk g r2 102) <| gd (¬ ((5 : Int32) < 0 ∨ gL g r2 ≤ (5 : Int32).toNatClampNeg)) <| bd ((x2 + (dI d r2 (5 : Int32).toNatClampNeg))) fun u5 => (fX12_heldOrTapped_L15 N g x0 x1 x2 (u5, 0, 1, d)))
set_option maxHeartbeats 4000000 in
set_option maxRecDepth 100000 in
theorem tX12_heldOrTapped_E {p : Program} {l : Launch} {e : Env} {s : State} {m : MethodId} {args : Array Value} {below : List Frame} {meth : Method} {c : Code} {D : va_G} {cy : Nat → ClassId} {B : Bs} (C : Cx p s m args c cX12_heldOrTapped 7 RX12 D cy B) (hr : meth.sig.returnType = (some .int)) (hlocks : meth.locks = false) {N : Nat} {g : Gs} {x0 : Nat} {x1 : Int32} {x2 : Int32} {vz : Int32} {dz : Ds} {d : Ds} (hf : fX12_heldOrTapped N g x0 x1 x2 d = some (vz, dz)) : WB p l e rmX12_heldOrTapped s m args below meth c 7 D cy B 0 0 (MQ below (QI D cy B vz g dz) args s 0 0 (wA B)) g d [(0, .ref (ad B x0)), (1, .int x1), (2, .int x2)] 0 [] := by
  unfold fX12_heldOrTapped at hf
  refine b_iload_n C dX12_heldOrTapped_0 2 rfl rfl ?_
  refine b_aload_n C dX12_heldOrTapped_1 0 rfl rfl ?_
  obtain ⟨h1, hf⟩ := gd_s hf
  obtain ⟨r2, er2, hf⟩ := ob_s hf
  refine b_gR C dX12_heldOrTapped_2 fl_X12_40 h1 er2 ?_
  refine b_iconst C (v := 5) dX12_heldOrTapped_5 (by decide) ?_
  obtain ⟨h3, hf⟩ := gd_s hf
  obtain ⟨h4, hf⟩ := gd_s hf
  refine b_iald C h3 h4 dX12_heldOrTapped_6 ?_
  refine b_iadd C dX12_heldOrTapped_7 ?_
  obtain ⟨u5, eu5, hf⟩ := bd_s hf
  refine b_topI eu5 ?_
  refine b_istore_n C dX12_heldOrTapped_8 rfl [(3, .int u5), (0, .ref (ad B x0)), (1, .int x1), (2, .int x2)] (by decide) rfl ?_
  refine b_iconst C (v := 0) dX12_heldOrTapped_9 (by decide) ?_
  refine b_istore C dX12_heldOrTapped_10 [(4, .int 0), (3, .int u5), (0, .ref (ad B x0)), (1, .int x1), (2, .int x2)] (by decide) rfl ?_
  refine b_iconst C (v := 1) dX12_heldOrTapped_12 (by decide) ?_
  refine b_istore C dX12_heldOrTapped_13 [(5, .int 1), (4, .int 0), (3, .int u5), (0, .ref (ad B x0)), (1, .int x1), (2, .int x2)] (by decide) rfl ?_
  refine b_sub [(0, .ref (ad B x0)), (1, .int x1), (2, .int x2), (3, .int u5), (4, .int 0), (5, .int 1)] [3, 4, 5, 2, 1, 0] rfl ?_
  exact tX12_heldOrTapped_L15 C hr hlocks (u5, 0, 1, d) hf
theorem kX12_heldOrTapped (l : Launch) (D : va_G) (cy : Nat → ClassId) (B : Bs) {N : Nat} {g : Gs} {x0 : Nat} {x1 : Int32} {x2 : Int32} {vz : Int32} {dz : Ds} {d : Ds} (hf : fX12_heldOrTapped N g x0 x1 x2 d = some (vz, dz)) : Met l yX12_heldOrTapped (.code yX12_heldOrTapped cX12_heldOrTapped 7 (some .int) :: wl) rmX12_heldOrTapped (PC D cy B [.ref (ad B x0), .int x1, .int x2] g d) (QI D cy B vz g dz) 0 0 (wA B) :=
  met_of (by decide +kernel) (Nat.le_of_ble_eq_true rfl) (fun p e s m args below meth c C hr hlocks _ => b_sub [(0, .ref (ad B x0)), (1, .int x1), (2, .int x2)] [0, 1, 2] rfl (tX12_heldOrTapped_E C hr hlocks hf))
/-! KeyMatrixModel.onceOrTwice(II)I -/
theorem dX12_onceOrTwice_0 : decode cX12_onceOrTwice 0 = .ok (.iload_n 2, 1) := by decide +kernel
theorem dX12_onceOrTwice_1 : decode cX12_onceOrTwice 1 = .ok (.aload_n 0, 1) := by decide +kernel
theorem dX12_onceOrTwice_2 : decode cX12_onceOrTwice 2 = .ok (.getfield 40, 3) := by decide +kernel
theorem dX12_onceOrTwice_5 : decode cX12_onceOrTwice 5 = .ok (.bipush 7, 2) := by decide +kernel
theorem dX12_onceOrTwice_7 : decode cX12_onceOrTwice 7 = .ok (.iaload, 1) := by decide +kernel
theorem dX12_onceOrTwice_8 : decode cX12_onceOrTwice 8 = .ok (.iadd, 1) := by decide +kernel
theorem dX12_onceOrTwice_9 : decode cX12_onceOrTwice 9 = .ok (.istore_n 3, 1) := by decide +kernel
theorem dX12_onceOrTwice_10 : decode cX12_onceOrTwice 10 = .ok (.iconst 1, 1) := by decide +kernel
theorem dX12_onceOrTwice_11 : decode cX12_onceOrTwice 11 = .ok (.istore 4, 2) := by decide +kernel
theorem dX12_onceOrTwice_13 : decode cX12_onceOrTwice 13 = .ok (.iload 4, 2) := by decide +kernel
theorem dX12_onceOrTwice_15 : decode cX12_onceOrTwice 15 = .ok (.aload_n 0, 1) := by decide +kernel
theorem dX12_onceOrTwice_16 : decode cX12_onceOrTwice 16 = .ok (.getfield 40, 3) := by decide +kernel
theorem dX12_onceOrTwice_19 : decode cX12_onceOrTwice 19 = .ok (.sipush 557, 3) := by decide +kernel
theorem dX12_onceOrTwice_22 : decode cX12_onceOrTwice 22 = .ok (.iaload, 1) := by decide +kernel
theorem dX12_onceOrTwice_23 : decode cX12_onceOrTwice 23 = .ok (.if_icmp .ge 46, 3) := by decide +kernel
theorem dX12_onceOrTwice_26 : decode cX12_onceOrTwice 26 = .ok (.aload_n 0, 1) := by decide +kernel
theorem dX12_onceOrTwice_27 : decode cX12_onceOrTwice 27 = .ok (.iload 4, 2) := by decide +kernel
theorem dX12_onceOrTwice_29 : decode cX12_onceOrTwice 29 = .ok (.invokevirtual 259, 3) := by decide +kernel
theorem dX12_onceOrTwice_32 : decode cX12_onceOrTwice 32 = .ok (.iload_n 3, 1) := by decide +kernel
theorem dX12_onceOrTwice_33 : decode cX12_onceOrTwice 33 = .ok (.if_icmp .lt 5, 3) := by decide +kernel
theorem dX12_onceOrTwice_36 : decode cX12_onceOrTwice 36 = .ok (.iconst 0, 1) := by decide +kernel
theorem dX12_onceOrTwice_37 : decode cX12_onceOrTwice 37 = .ok (.ireturn, 1) := by decide +kernel
theorem dX12_onceOrTwice_38 : decode cX12_onceOrTwice 38 = .ok (.aload_n 0, 1) := by decide +kernel
theorem dX12_onceOrTwice_39 : decode cX12_onceOrTwice 39 = .ok (.iload 4, 2) := by decide +kernel
theorem dX12_onceOrTwice_41 : decode cX12_onceOrTwice 41 = .ok (.invokevirtual 247, 3) := by decide +kernel
theorem dX12_onceOrTwice_44 : decode cX12_onceOrTwice 44 = .ok (.ifCond .eq 19, 3) := by decide +kernel
theorem dX12_onceOrTwice_47 : decode cX12_onceOrTwice 47 = .ok (.aload_n 0, 1) := by decide +kernel
theorem dX12_onceOrTwice_48 : decode cX12_onceOrTwice 48 = .ok (.iload 4, 2) := by decide +kernel
theorem dX12_onceOrTwice_50 : decode cX12_onceOrTwice 50 = .ok (.invokevirtual 244, 3) := by decide +kernel
theorem dX12_onceOrTwice_53 : decode cX12_onceOrTwice 53 = .ok (.iload_n 1, 1) := by decide +kernel
theorem dX12_onceOrTwice_54 : decode cX12_onceOrTwice 54 = .ok (.if_icmp .ne 7, 3) := by decide +kernel
theorem dX12_onceOrTwice_57 : decode cX12_onceOrTwice 57 = .ok (.iconst 1, 1) := by decide +kernel
theorem dX12_onceOrTwice_58 : decode cX12_onceOrTwice 58 = .ok (.goto 4, 3) := by decide +kernel
theorem dX12_onceOrTwice_61 : decode cX12_onceOrTwice 61 = .ok (.iconst 0, 1) := by decide +kernel
theorem dX12_onceOrTwice_62 : decode cX12_onceOrTwice 62 = .ok (.ireturn, 1) := by decide +kernel
theorem dX12_onceOrTwice_63 : decode cX12_onceOrTwice 63 = .ok (.iinc 4 1, 3) := by decide +kernel
theorem dX12_onceOrTwice_66 : decode cX12_onceOrTwice 66 = .ok (.goto (-53), 3) := by decide +kernel
theorem dX12_onceOrTwice_69 : decode cX12_onceOrTwice 69 = .ok (.aload_n 0, 1) := by decide +kernel
theorem dX12_onceOrTwice_70 : decode cX12_onceOrTwice 70 = .ok (.getfield 40, 3) := by decide +kernel
theorem dX12_onceOrTwice_73 : decode cX12_onceOrTwice 73 = .ok (.sipush 354, 3) := by decide +kernel
theorem dX12_onceOrTwice_76 : decode cX12_onceOrTwice 76 = .ok (.iaload, 1) := by decide +kernel
theorem dX12_onceOrTwice_77 : decode cX12_onceOrTwice 77 = .ok (.iload_n 3, 1) := by decide +kernel
theorem dX12_onceOrTwice_78 : decode cX12_onceOrTwice 78 = .ok (.if_icmp .lt 7, 3) := by decide +kernel
theorem dX12_onceOrTwice_81 : decode cX12_onceOrTwice 81 = .ok (.iconst 0, 1) := by decide +kernel
theorem dX12_onceOrTwice_82 : decode cX12_onceOrTwice 82 = .ok (.goto 4, 3) := by decide +kernel
theorem dX12_onceOrTwice_85 : decode cX12_onceOrTwice 85 = .ok (.iconst (-1), 1) := by decide +kernel
theorem dX12_onceOrTwice_86 : decode cX12_onceOrTwice 86 = .ok (.ireturn, 1) := by decide +kernel
def rmX12_onceOrTwice : Room := { frames := 1, cells := 0, slots := 0, locals := 21 }
set_option maxRecDepth 100000 in
def fX12_onceOrTwice_J86 (N : Nat) (g : Gs) (x0 : Nat) (x1 : Int32) (x2 : Int32) (z0 : Int32) (d : Ds) : Option (Int32 × Ds) := some (z0, d)
set_option maxHeartbeats 4000000 in
set_option maxRecDepth 100000 in
theorem tX12_onceOrTwice_86 {p : Program} {l : Launch} {e : Env} {s : State} {m : MethodId} {args : Array Value} {below : List Frame} {meth : Method} {c : Code} {D : va_G} {cy : Nat → ClassId} {B : Bs} (C : Cx p s m args c cX12_onceOrTwice 5 RX12 D cy B) (hr : meth.sig.returnType = (some .int)) (hlocks : meth.locks = false) {N : Nat} {g : Gs} {x0 : Nat} {x1 : Int32} {x2 : Int32} {vz : Int32} {dz : Ds} {z0 : Int32} {d : Ds} (hf : fX12_onceOrTwice_J86 N g x0 x1 x2 z0 d = some (vz, dz)) : WB p l e rmX12_onceOrTwice s m args below meth c 5 D cy B 0 0 (MQ below (QI D cy B vz g dz) args s 0 0 (wA B)) g d [(0, .ref (ad B x0)), (1, .int x1), (2, .int x2)] 86 [.int z0] := by
  unfold fX12_onceOrTwice_J86 at hf
  exact b_iret C hr hlocks hf dX12_onceOrTwice_86
set_option maxRecDepth 100000 in
def fX12_onceOrTwice_J62 (N : Nat) (g : Gs) (x0 : Nat) (x1 : Int32) (x2 : Int32) (z0 : Int32) (d : Ds) : Option (Int32 × Ds) := some (z0, d)
set_option maxHeartbeats 4000000 in
set_option maxRecDepth 100000 in
theorem tX12_onceOrTwice_62 {p : Program} {l : Launch} {e : Env} {s : State} {m : MethodId} {args : Array Value} {below : List Frame} {meth : Method} {c : Code} {D : va_G} {cy : Nat → ClassId} {B : Bs} (C : Cx p s m args c cX12_onceOrTwice 5 RX12 D cy B) (hr : meth.sig.returnType = (some .int)) (hlocks : meth.locks = false) {N : Nat} {g : Gs} {x0 : Nat} {x1 : Int32} {x2 : Int32} {vz : Int32} {dz : Ds} {z0 : Int32} {d : Ds} (hf : fX12_onceOrTwice_J62 N g x0 x1 x2 z0 d = some (vz, dz)) : WB p l e rmX12_onceOrTwice s m args below meth c 5 D cy B 0 0 (MQ below (QI D cy B vz g dz) args s 0 0 (wA B)) g d [(0, .ref (ad B x0)), (1, .int x1), (2, .int x2)] 62 [.int z0] := by
  unfold fX12_onceOrTwice_J62 at hf
  exact b_iret C hr hlocks hf dX12_onceOrTwice_62
set_option maxRecDepth 100000 in
def fX12_onceOrTwice_B13 (N : Nat) (g : Gs) (x0 : Nat) (x1 : Int32) (x2 : Int32) (K13 : Int32 × Int32 × Ds → Option (Int32 × Ds)) (y3 : Int32) (y4 : Int32) (d : Ds) : Option (Int32 × Ds) := gd (chk g x0 11) <| ob (gR g x0 17) fun r7 => (gd (chk g r7 102) <| gd (¬ ((557 : Int32) < 0 ∨ gL g r7 ≤ (557 : Int32).toNatClampNeg)) <| if (dI d r7 (557 : Int32).toNatClampNeg) ≤ y4 then (gd (¬ ((354 : Int32) < 0 ∨ gL g r7 ≤ (354 : Int32).toNatClampNeg)) <| if (dI d r7 (354 : Int32).toNatClampNeg) < y3 then (fX12_onceOrTwice_J86 N g x0 x1 x2 (-1) d) else (fX12_onceOrTwice_J86 N g x0 x1 x2 0 d)) else (cb (fX12_timeAt N g x0 y4 d) fun u15 d13 => (if u15 < y3 then (cb (fX12_isDownAt N g x0 y4 d13) fun u19 d17 => (if u19 = 0 then (bd (y4 + 1) fun u21 => (K13 (y3, u21, d17))) else (cb (fX12_keyAt N g x0 y4 d17) fun u24 d22 => (if u24 = x1 then (fX12_onceOrTwice_J62 N g x0 x1 x2 1 d22) else (fX12_onceOrTwice_J62 N g x0 x1 x2 0 d22))))) else (some (0, d13)))))
set_option maxHeartbeats 4000000 in
set_option maxRecDepth 100000 in
theorem tX12_onceOrTwice_13 {p : Program} {l : Launch} {e : Env} {s : State} {m : MethodId} {args : Array Value} {below : List Frame} {meth : Method} {c : Code} {D : va_G} {cy : Nat → ClassId} {B : Bs} (C : Cx p s m args c cX12_onceOrTwice 5 RX12 D cy B) (hr : meth.sig.returnType = (some .int)) (hlocks : meth.locks = false) {N : Nat} {g : Gs} {x0 : Nat} {x1 : Int32} {x2 : Int32} {vz : Int32} {dz : Ds} {K13 : Int32 × Int32 × Ds → Option (Int32 × Ds)} (hK13 : ∀ a, K13 a = some (vz, dz) → WB p l e rmX12_onceOrTwice s m args below meth c 5 D cy B 0 0 (MQ below (QI D cy B vz g dz) args s 0 0 (wA B)) g a.2.2 [(0, .ref (ad B x0)), (1, .int x1), (2, .int x2), (3, .int a.1), (4, .int a.2.1)] 13 []) {y3 : Int32} {y4 : Int32} {d : Ds} (hf : fX12_onceOrTwice_B13 N g x0 x1 x2 K13 y3 y4 d = some (vz, dz)) : WB p l e rmX12_onceOrTwice s m args below meth c 5 D cy B 0 0 (MQ below (QI D cy B vz g dz) args s 0 0 (wA B)) g d [(0, .ref (ad B x0)), (1, .int x1), (2, .int x2), (3, .int y3), (4, .int y4)] 13 [] := by
  unfold fX12_onceOrTwice_B13 at hf
  refine b_iload C dX12_onceOrTwice_13 4 rfl ?_
  refine b_aload_n C dX12_onceOrTwice_15 0 rfl rfl ?_
  obtain ⟨h6, hf⟩ := gd_s hf
  obtain ⟨r7, er7, hf⟩ := ob_s hf
  refine b_gR C dX12_onceOrTwice_16 fl_X12_40 h6 er7 ?_
  refine b_sipush C (v := 557) dX12_onceOrTwice_19 (by decide) ?_
  obtain ⟨h8, hf⟩ := gd_s hf
  obtain ⟨h9, hf⟩ := gd_s hf
  refine b_iald C h8 h9 dX12_onceOrTwice_22 ?_
  refine b_icmp_ge C (tgt := 69) dX12_onceOrTwice_23 (by decide) (fun c10 => ?_) (fun c10 => ?_)
  · have hf := it_s c10 hf
    refine b_aload_n C dX12_onceOrTwice_69 0 rfl rfl ?_
    refine b_gR C dX12_onceOrTwice_70 fl_X12_40 h6 er7 ?_
    refine b_sipush C (v := 354) dX12_onceOrTwice_73 (by decide) ?_
    obtain ⟨h11, hf⟩ := gd_s hf
    refine b_iald C h8 h11 dX12_onceOrTwice_76 ?_
    refine b_iload_n C dX12_onceOrTwice_77 3 rfl rfl ?_
    refine b_icmp_lt C (tgt := 85) dX12_onceOrTwice_78 (by decide) (fun c12 => ?_) (fun c12 => ?_)
    · have hf := it_s c12 hf
      refine b_iconst C (v := (-1)) dX12_onceOrTwice_85 (by decide) ?_
      refine b_sub [(0, .ref (ad B x0)), (1, .int x1), (2, .int x2)] [0, 1, 2] rfl ?_
      exact tX12_onceOrTwice_86 C hr hlocks hf
    · have hf := if_s c12 hf
      refine b_iconst C (v := 0) dX12_onceOrTwice_81 (by decide) ?_
      refine b_goto C (tgt := 86) dX12_onceOrTwice_82 (by decide) ?_
      refine b_sub [(0, .ref (ad B x0)), (1, .int x1), (2, .int x2)] [0, 1, 2] rfl ?_
      exact tX12_onceOrTwice_86 C hr hlocks hf
  · have hf := if_s c10 hf
    refine b_aload_n C dX12_onceOrTwice_26 0 rfl rfl ?_
    refine b_iload C dX12_onceOrTwice_27 4 rfl ?_
    obtain ⟨u15, d13, k14, hf⟩ := cb_s hf
    refine b_cVI C [] dX12_onceOrTwice_29 (kX12_timeAt l D cy B k14) lv_X12_259 ⟨rfl, rfl, Nat.le_of_ble_eq_true rfl, Nat.le_of_ble_eq_true rfl⟩ h6 (by decide) rfl (Nat.le_of_ble_eq_true rfl) ⟨Nat.zero_le _, Nat.zero_le _⟩ rfl ?_
    refine b_iload_n C dX12_onceOrTwice_32 3 rfl rfl ?_
    refine b_icmp_lt C (tgt := 38) dX12_onceOrTwice_33 (by decide) (fun c16 => ?_) (fun c16 => ?_)
    · have hf := it_s c16 hf
      refine b_aload_n C dX12_onceOrTwice_38 0 rfl rfl ?_
      refine b_iload C dX12_onceOrTwice_39 4 rfl ?_
      obtain ⟨u19, d17, k18, hf⟩ := cb_s hf
      refine b_cVI C [] dX12_onceOrTwice_41 (kX12_isDownAt l D cy B k18) lv_X12_247 ⟨rfl, rfl, Nat.le_of_ble_eq_true rfl, Nat.le_of_ble_eq_true rfl⟩ h6 (by decide) rfl (Nat.le_of_ble_eq_true rfl) ⟨Nat.zero_le _, Nat.zero_le _⟩ rfl ?_
      refine b_if_eq C (tgt := 63) dX12_onceOrTwice_44 (by decide) (fun c20 => ?_) (fun c20 => ?_)
      · have hf := it_s c20 hf
        obtain ⟨u21, eu21, hf⟩ := bd_s hf
        refine b_iinc C dX12_onceOrTwice_63 4 rfl (by rw [eu21]; rfl) [(4, .int u21), (0, .ref (ad B x0)), (1, .int x1), (2, .int x2), (3, .int y3)] (by decide) rfl ?_
        refine b_goto C (tgt := 13) dX12_onceOrTwice_66 (by decide) ?_
        refine b_sub [(0, .ref (ad B x0)), (1, .int x1), (2, .int x2), (3, .int y3), (4, .int u21)] [1, 2, 3, 4, 0] rfl ?_
        exact hK13 (y3, u21, d17) hf
      · have hf := if_s c20 hf
        refine b_aload_n C dX12_onceOrTwice_47 0 rfl rfl ?_
        refine b_iload C dX12_onceOrTwice_48 4 rfl ?_
        obtain ⟨u24, d22, k23, hf⟩ := cb_s hf
        refine b_cVI C [] dX12_onceOrTwice_50 (kX12_keyAt l D cy B k23) lv_X12_244 ⟨rfl, rfl, Nat.le_of_ble_eq_true rfl, Nat.le_of_ble_eq_true rfl⟩ h6 (by decide) rfl (Nat.le_of_ble_eq_true rfl) ⟨Nat.zero_le _, Nat.zero_le _⟩ rfl ?_
        refine b_iload_n C dX12_onceOrTwice_53 1 rfl rfl ?_
        refine b_icmp_ne C (tgt := 61) dX12_onceOrTwice_54 (by decide) (fun c25 => ?_) (fun c25 => ?_)
        · have hf := if_s c25 hf
          refine b_iconst C (v := 0) dX12_onceOrTwice_61 (by decide) ?_
          refine b_sub [(0, .ref (ad B x0)), (1, .int x1), (2, .int x2)] [0, 1, 2] rfl ?_
          exact tX12_onceOrTwice_62 C hr hlocks hf
        · have hf := it_s c25 hf
          refine b_iconst C (v := 1) dX12_onceOrTwice_57 (by decide) ?_
          refine b_goto C (tgt := 62) dX12_onceOrTwice_58 (by decide) ?_
          refine b_sub [(0, .ref (ad B x0)), (1, .int x1), (2, .int x2)] [0, 1, 2] rfl ?_
          exact tX12_onceOrTwice_62 C hr hlocks hf
    · have hf := if_s c16 hf
      refine b_iconst C (v := 0) dX12_onceOrTwice_36 (by decide) ?_
      exact b_iret C hr hlocks hf dX12_onceOrTwice_37
def fX12_onceOrTwice_L13 (N : Nat) (g : Gs) (x0 : Nat) (x1 : Int32) (x2 : Int32) : Int32 × Int32 × Ds → Option (Int32 × Ds) := lp (fun K13 a => fX12_onceOrTwice_B13 N g x0 x1 x2 K13 a.1 a.2.1 a.2.2) N
theorem tX12_onceOrTwice_L13 {p : Program} {l : Launch} {e : Env} {s : State} {m : MethodId} {args : Array Value} {below : List Frame} {meth : Method} {c : Code} {D : va_G} {cy : Nat → ClassId} {B : Bs} (C : Cx p s m args c cX12_onceOrTwice 5 RX12 D cy B) (hr : meth.sig.returnType = (some .int)) (hlocks : meth.locks = false) {N : Nat} {g : Gs} {x0 : Nat} {x1 : Int32} {x2 : Int32} {vz : Int32} {dz : Ds} (a : Int32 × Int32 × Ds) (hf : fX12_onceOrTwice_L13 N g x0 x1 x2 a = some (vz, dz)) : WB p l e rmX12_onceOrTwice s m args below meth c 5 D cy B 0 0 (MQ below (QI D cy B vz g dz) args s 0 0 (wA B)) g a.2.2 [(0, .ref (ad B x0)), (1, .int x1), (2, .int x2), (3, .int a.1), (4, .int a.2.1)] 13 [] :=
  lp_w (fun K13 hK13 a ha => tX12_onceOrTwice_13 C hr hlocks hK13 ha) N a hf
set_option maxRecDepth 100000 in
def fX12_onceOrTwice (N : Nat) (g : Gs) (x0 : Nat) (x1 : Int32) (x2 : Int32) (d : Ds) : Option (Int32 × Ds) := gd (chk g x0 11) <| ob (gR g x0 17) fun r2 => (gd (chk g r2 102) <| gd (¬ ((7 : Int32) < 0 ∨ gL g r2 ≤ (7 : Int32).toNatClampNeg)) <| bd ((x2 + (dI d r2 (7 : Int32).toNatClampNeg))) fun u5 => (fX12_onceOrTwice_L13 N g x0 x1 x2 (u5, 1, d)))
set_option maxHeartbeats 4000000 in
set_option maxRecDepth 100000 in
theorem tX12_onceOrTwice_E {p : Program} {l : Launch} {e : Env} {s : State} {m : MethodId} {args : Array Value} {below : List Frame} {meth : Method} {c : Code} {D : va_G} {cy : Nat → ClassId} {B : Bs} (C : Cx p s m args c cX12_onceOrTwice 5 RX12 D cy B) (hr : meth.sig.returnType = (some .int)) (hlocks : meth.locks = false) {N : Nat} {g : Gs} {x0 : Nat} {x1 : Int32} {x2 : Int32} {vz : Int32} {dz : Ds} {d : Ds} (hf : fX12_onceOrTwice N g x0 x1 x2 d = some (vz, dz)) : WB p l e rmX12_onceOrTwice s m args below meth c 5 D cy B 0 0 (MQ below (QI D cy B vz g dz) args s 0 0 (wA B)) g d [(0, .ref (ad B x0)), (1, .int x1), (2, .int x2)] 0 [] := by
  unfold fX12_onceOrTwice at hf
  refine b_iload_n C dX12_onceOrTwice_0 2 rfl rfl ?_
  refine b_aload_n C dX12_onceOrTwice_1 0 rfl rfl ?_
  obtain ⟨h1, hf⟩ := gd_s hf
  obtain ⟨r2, er2, hf⟩ := ob_s hf
  refine b_gR C dX12_onceOrTwice_2 fl_X12_40 h1 er2 ?_
  refine b_bipush C (v := 7) dX12_onceOrTwice_5 (by decide) ?_
  obtain ⟨h3, hf⟩ := gd_s hf
  obtain ⟨h4, hf⟩ := gd_s hf
  refine b_iald C h3 h4 dX12_onceOrTwice_7 ?_
  refine b_iadd C dX12_onceOrTwice_8 ?_
  obtain ⟨u5, eu5, hf⟩ := bd_s hf
  refine b_topI eu5 ?_
  refine b_istore_n C dX12_onceOrTwice_9 rfl [(3, .int u5), (0, .ref (ad B x0)), (1, .int x1), (2, .int x2)] (by decide) rfl ?_
  refine b_iconst C (v := 1) dX12_onceOrTwice_10 (by decide) ?_
  refine b_istore C dX12_onceOrTwice_11 [(4, .int 1), (3, .int u5), (0, .ref (ad B x0)), (1, .int x1), (2, .int x2)] (by decide) rfl ?_
  refine b_sub [(0, .ref (ad B x0)), (1, .int x1), (2, .int x2), (3, .int u5), (4, .int 1)] [2, 3, 4, 1, 0] rfl ?_
  exact tX12_onceOrTwice_L13 C hr hlocks (u5, 1, d) hf
theorem kX12_onceOrTwice (l : Launch) (D : va_G) (cy : Nat → ClassId) (B : Bs) {N : Nat} {g : Gs} {x0 : Nat} {x1 : Int32} {x2 : Int32} {vz : Int32} {dz : Ds} {d : Ds} (hf : fX12_onceOrTwice N g x0 x1 x2 d = some (vz, dz)) : Met l yX12_onceOrTwice (.code yX12_onceOrTwice cX12_onceOrTwice 5 (some .int) :: wl) rmX12_onceOrTwice (PC D cy B [.ref (ad B x0), .int x1, .int x2] g d) (QI D cy B vz g dz) 0 0 (wA B) :=
  met_of (by decide +kernel) (Nat.le_of_ble_eq_true rfl) (fun p e s m args below meth c C hr hlocks _ => b_sub [(0, .ref (ad B x0)), (1, .int x1), (2, .int x2)] [0, 1, 2] rfl (tX12_onceOrTwice_E C hr hlocks hf))
/-! KeyMatrixModel.dropsTwo(I)V -/
theorem yo_X12_drops : yX12_drops.cls ≠ "java/lang/invoke/MethodHandle" ∧ yX12_drops.cls ≠ "java/lang/invoke/VarHandle" ∧ (parseMethodDescriptor yX12_drops.desc).map (fun d => d.parameters.length) = some 1 := by decide +kernel
theorem co_X12_drops : Cond.code yX12_drops cX12_drops 3 none ∈ wl := mW (mT6 (List.mem_of_getElem? (i := 139) (by decide +kernel))) rfl
theorem in_X12_drops : Cond.initialized yX12_drops.cls ∈ wl := mW (mT1 (List.mem_of_getElem? (i := 12) (by decide +kernel))) rfl
theorem im_X12_drops : Cond.instanceMethod yX12_drops ∈ wl := mW (mT6 (List.mem_of_getElem? (i := 138) (by decide +kernel))) rfl
theorem se_X12_drops : Cond.selects yX12_drops.cls yX12_drops yX12_drops ∈ wl := mW (mT0 (List.mem_of_getElem? (i := 66) (by decide +kernel))) rfl
theorem lv_X12_250 : LV RX12 250 yX12_drops cX12_drops 3 none 1 11 := ⟨⟨(RX12, TX12, 33), rfl, rfl⟩, yo_X12_drops, mW (mT6 (List.mem_of_getElem? (i := 136) (by decide +kernel))) rfl, im_X12_drops, se_X12_drops, in_X12_drops, co_X12_drops⟩
theorem dX12_dropsTwo_0 : decode cX12_dropsTwo 0 = .ok (.iconst 0, 1) := by decide +kernel
theorem dX12_dropsTwo_1 : decode cX12_dropsTwo 1 = .ok (.istore_n 2, 1) := by decide +kernel
theorem dX12_dropsTwo_2 : decode cX12_dropsTwo 2 = .ok (.aload_n 0, 1) := by decide +kernel
theorem dX12_dropsTwo_3 : decode cX12_dropsTwo 3 = .ok (.iload_n 2, 1) := by decide +kernel
theorem dX12_dropsTwo_4 : decode cX12_dropsTwo 4 = .ok (.invokevirtual 244, 3) := by decide +kernel
theorem dX12_dropsTwo_7 : decode cX12_dropsTwo 7 = .ok (.iload_n 1, 1) := by decide +kernel
theorem dX12_dropsTwo_8 : decode cX12_dropsTwo 8 = .ok (.if_icmp .ne 11, 3) := by decide +kernel
theorem dX12_dropsTwo_11 : decode cX12_dropsTwo 11 = .ok (.aload_n 0, 1) := by decide +kernel
theorem dX12_dropsTwo_12 : decode cX12_dropsTwo 12 = .ok (.iload_n 2, 1) := by decide +kernel
theorem dX12_dropsTwo_13 : decode cX12_dropsTwo 13 = .ok (.invokevirtual 247, 3) := by decide +kernel
theorem dX12_dropsTwo_16 : decode cX12_dropsTwo 16 = .ok (.ifCond .eq 9, 3) := by decide +kernel
theorem dX12_dropsTwo_19 : decode cX12_dropsTwo 19 = .ok (.iinc 2 1, 3) := by decide +kernel
theorem dX12_dropsTwo_22 : decode cX12_dropsTwo 22 = .ok (.goto (-20), 3) := by decide +kernel
theorem dX12_dropsTwo_25 : decode cX12_dropsTwo 25 = .ok (.aload_n 0, 1) := by decide +kernel
theorem dX12_dropsTwo_26 : decode cX12_dropsTwo 26 = .ok (.iload_n 2, 1) := by decide +kernel
theorem dX12_dropsTwo_27 : decode cX12_dropsTwo 27 = .ok (.invokevirtual 250, 3) := by decide +kernel
theorem dX12_dropsTwo_30 : decode cX12_dropsTwo 30 = .ok (.aload_n 0, 1) := by decide +kernel
theorem dX12_dropsTwo_31 : decode cX12_dropsTwo 31 = .ok (.iload_n 2, 1) := by decide +kernel
theorem dX12_dropsTwo_32 : decode cX12_dropsTwo 32 = .ok (.invokevirtual 244, 3) := by decide +kernel
theorem dX12_dropsTwo_35 : decode cX12_dropsTwo 35 = .ok (.iload_n 1, 1) := by decide +kernel
theorem dX12_dropsTwo_36 : decode cX12_dropsTwo 36 = .ok (.if_icmp .ne 11, 3) := by decide +kernel
theorem dX12_dropsTwo_39 : decode cX12_dropsTwo 39 = .ok (.aload_n 0, 1) := by decide +kernel
theorem dX12_dropsTwo_40 : decode cX12_dropsTwo 40 = .ok (.iload_n 2, 1) := by decide +kernel
theorem dX12_dropsTwo_41 : decode cX12_dropsTwo 41 = .ok (.invokevirtual 247, 3) := by decide +kernel
theorem dX12_dropsTwo_44 : decode cX12_dropsTwo 44 = .ok (.ifCond .ne 9, 3) := by decide +kernel
theorem dX12_dropsTwo_47 : decode cX12_dropsTwo 47 = .ok (.iinc 2 1, 3) := by decide +kernel
theorem dX12_dropsTwo_50 : decode cX12_dropsTwo 50 = .ok (.goto (-20), 3) := by decide +kernel
theorem dX12_dropsTwo_53 : decode cX12_dropsTwo 53 = .ok (.aload_n 0, 1) := by decide +kernel
theorem dX12_dropsTwo_54 : decode cX12_dropsTwo 54 = .ok (.iload_n 2, 1) := by decide +kernel
theorem dX12_dropsTwo_55 : decode cX12_dropsTwo 55 = .ok (.invokevirtual 250, 3) := by decide +kernel
theorem dX12_dropsTwo_58 : decode cX12_dropsTwo 58 = .ok (.return_, 1) := by decide +kernel
def rmX12_dropsTwo : Room := { frames := 1, cells := 0, slots := 0, locals := 22 }
set_option maxRecDepth 100000 in
def fX12_dropsTwo_J19 (N : Nat) (g : Gs) (x0 : Nat) (x1 : Int32) (K2 : Int32 × Ds → Option (Unit × Ds)) (y2 : Int32) (d : Ds) : Option (Unit × Ds) := bd (y2 + 1) fun u6 => (K2 (u6, d))
set_option maxHeartbeats 4000000 in
set_option maxRecDepth 100000 in
theorem tX12_dropsTwo_19 {p : Program} {l : Launch} {e : Env} {s : State} {m : MethodId} {args : Array Value} {below : List Frame} {meth : Method} {c : Code} {D : va_G} {cy : Nat → ClassId} {B : Bs} (C : Cx p s m args c cX12_dropsTwo 3 RX12 D cy B) (hr : meth.sig.returnType = none) (hlocks : meth.locks = false) {N : Nat} {g : Gs} {x0 : Nat} {x1 : Int32}  {dz : Ds} {K2 : Int32 × Ds → Option (Unit × Ds)} (hK2 : ∀ a, K2 a = some ((), dz) → WB p l e rmX12_dropsTwo s m args below meth c 3 D cy B 0 0 (MQ below (QV D cy B g dz) args s 0 0 (wA B)) g a.2 [(0, .ref (ad B x0)), (1, .int x1), (2, .int a.1)] 2 []) {y2 : Int32} {d : Ds} (hf : fX12_dropsTwo_J19 N g x0 x1 K2 y2 d = some ((), dz)) : WB p l e rmX12_dropsTwo s m args below meth c 3 D cy B 0 0 (MQ below (QV D cy B g dz) args s 0 0 (wA B)) g d [(0, .ref (ad B x0)), (1, .int x1), (2, .int y2)] 19 [] := by
  unfold fX12_dropsTwo_J19 at hf
  obtain ⟨u6, eu6, hf⟩ := bd_s hf
  refine b_iinc C dX12_dropsTwo_19 2 rfl (by rw [eu6]; rfl) [(2, .int u6), (0, .ref (ad B x0)), (1, .int x1)] (by decide) rfl ?_
  refine b_goto C (tgt := 2) dX12_dropsTwo_22 (by decide) ?_
  refine b_sub [(0, .ref (ad B x0)), (1, .int x1), (2, .int u6)] [1, 2, 0] rfl ?_
  exact hK2 (u6, d) hf
set_option maxRecDepth 100000 in
def fX12_dropsTwo_J47 (N : Nat) (g : Gs) (x0 : Nat) (x1 : Int32) (K30 : Int32 × Ds → Option (Unit × Ds)) (y2 : Int32) (d : Ds) : Option (Unit × Ds) := bd (y2 + 1) fun u18 => (K30 (u18, d))
set_option maxHeartbeats 4000000 in
set_option maxRecDepth 100000 in
theorem tX12_dropsTwo_47 {p : Program} {l : Launch} {e : Env} {s : State} {m : MethodId} {args : Array Value} {below : List Frame} {meth : Method} {c : Code} {D : va_G} {cy : Nat → ClassId} {B : Bs} (C : Cx p s m args c cX12_dropsTwo 3 RX12 D cy B) (hr : meth.sig.returnType = none) (hlocks : meth.locks = false) {N : Nat} {g : Gs} {x0 : Nat} {x1 : Int32}  {dz : Ds} {K30 : Int32 × Ds → Option (Unit × Ds)} (hK30 : ∀ a, K30 a = some ((), dz) → WB p l e rmX12_dropsTwo s m args below meth c 3 D cy B 0 0 (MQ below (QV D cy B g dz) args s 0 0 (wA B)) g a.2 [(0, .ref (ad B x0)), (1, .int x1), (2, .int a.1)] 30 []) {y2 : Int32} {d : Ds} (hf : fX12_dropsTwo_J47 N g x0 x1 K30 y2 d = some ((), dz)) : WB p l e rmX12_dropsTwo s m args below meth c 3 D cy B 0 0 (MQ below (QV D cy B g dz) args s 0 0 (wA B)) g d [(0, .ref (ad B x0)), (1, .int x1), (2, .int y2)] 47 [] := by
  unfold fX12_dropsTwo_J47 at hf
  obtain ⟨u18, eu18, hf⟩ := bd_s hf
  refine b_iinc C dX12_dropsTwo_47 2 rfl (by rw [eu18]; rfl) [(2, .int u18), (0, .ref (ad B x0)), (1, .int x1)] (by decide) rfl ?_
  refine b_goto C (tgt := 30) dX12_dropsTwo_50 (by decide) ?_
  refine b_sub [(0, .ref (ad B x0)), (1, .int x1), (2, .int u18)] [1, 2, 0] rfl ?_
  exact hK30 (u18, d) hf
set_option maxRecDepth 100000 in
def fX12_dropsTwo_B30 (N : Nat) (g : Gs) (x0 : Nat) (x1 : Int32) (K30 : Int32 × Ds → Option (Unit × Ds)) (y2 : Int32) (d : Ds) : Option (Unit × Ds) := gd (chk g x0 11) <| cb (fX12_keyAt N g x0 y2 d) fun u16 d14 => (if u16 = x1 then (cb (fX12_isDownAt N g x0 y2 d14) fun u21 d19 => (if u21 = 0 then (fX12_dropsTwo_J47 N g x0 x1 K30 y2 d19) else (cv (fX12_drops N g x0 y2 d19) fun d23 => (some ((), d23))))) else (fX12_dropsTwo_J47 N g x0 x1 K30 y2 d14))
set_option maxHeartbeats 4000000 in
set_option maxRecDepth 100000 in
theorem tX12_dropsTwo_30 {p : Program} {l : Launch} {e : Env} {s : State} {m : MethodId} {args : Array Value} {below : List Frame} {meth : Method} {c : Code} {D : va_G} {cy : Nat → ClassId} {B : Bs} (C : Cx p s m args c cX12_dropsTwo 3 RX12 D cy B) (hr : meth.sig.returnType = none) (hlocks : meth.locks = false) {N : Nat} {g : Gs} {x0 : Nat} {x1 : Int32}  {dz : Ds} {K30 : Int32 × Ds → Option (Unit × Ds)} (hK30 : ∀ a, K30 a = some ((), dz) → WB p l e rmX12_dropsTwo s m args below meth c 3 D cy B 0 0 (MQ below (QV D cy B g dz) args s 0 0 (wA B)) g a.2 [(0, .ref (ad B x0)), (1, .int x1), (2, .int a.1)] 30 []) {y2 : Int32} {d : Ds} (hf : fX12_dropsTwo_B30 N g x0 x1 K30 y2 d = some ((), dz)) : WB p l e rmX12_dropsTwo s m args below meth c 3 D cy B 0 0 (MQ below (QV D cy B g dz) args s 0 0 (wA B)) g d [(0, .ref (ad B x0)), (1, .int x1), (2, .int y2)] 30 [] := by
  unfold fX12_dropsTwo_B30 at hf
  refine b_aload_n C dX12_dropsTwo_30 0 rfl rfl ?_
  refine b_iload_n C dX12_dropsTwo_31 2 rfl rfl ?_
  obtain ⟨h13, hf⟩ := gd_s hf
  obtain ⟨u16, d14, k15, hf⟩ := cb_s hf
  refine b_cVI C [] dX12_dropsTwo_32 (kX12_keyAt l D cy B k15) lv_X12_244 ⟨rfl, rfl, Nat.le_of_ble_eq_true rfl, Nat.le_of_ble_eq_true rfl⟩ h13 (by decide) rfl (Nat.le_of_ble_eq_true rfl) ⟨Nat.zero_le _, Nat.zero_le _⟩ rfl ?_
  refine b_iload_n C dX12_dropsTwo_35 1 rfl rfl ?_
  refine b_icmp_ne C (tgt := 47) dX12_dropsTwo_36 (by decide) (fun c17 => ?_) (fun c17 => ?_)
  · have hf := if_s c17 hf
    refine b_sub [(0, .ref (ad B x0)), (1, .int x1), (2, .int y2)] [0, 1, 2] rfl ?_
    exact tX12_dropsTwo_47 C hr hlocks hK30 hf
  · have hf := it_s c17 hf
    refine b_aload_n C dX12_dropsTwo_39 0 rfl rfl ?_
    refine b_iload_n C dX12_dropsTwo_40 2 rfl rfl ?_
    obtain ⟨u21, d19, k20, hf⟩ := cb_s hf
    refine b_cVI C [] dX12_dropsTwo_41 (kX12_isDownAt l D cy B k20) lv_X12_247 ⟨rfl, rfl, Nat.le_of_ble_eq_true rfl, Nat.le_of_ble_eq_true rfl⟩ h13 (by decide) rfl (Nat.le_of_ble_eq_true rfl) ⟨Nat.zero_le _, Nat.zero_le _⟩ rfl ?_
    refine b_if_ne C (tgt := 53) dX12_dropsTwo_44 (by decide) (fun c22 => ?_) (fun c22 => ?_)
    · have hf := if_s c22 hf
      refine b_aload_n C dX12_dropsTwo_53 0 rfl rfl ?_
      refine b_iload_n C dX12_dropsTwo_54 2 rfl rfl ?_
      obtain ⟨d23, k24, hf⟩ := cv_s hf
      refine b_cVN C [] dX12_dropsTwo_55 (kX12_drops l D cy B k24) lv_X12_250 ⟨rfl, rfl, Nat.le_of_ble_eq_true rfl, Nat.le_of_ble_eq_true rfl⟩ h13 (by decide) rfl (Nat.le_of_ble_eq_true rfl) ⟨Nat.zero_le _, Nat.zero_le _⟩ rfl ?_
      exact b_vret C hr hlocks hf dX12_dropsTwo_58
    · have hf := it_s c22 hf
      refine b_sub [(0, .ref (ad B x0)), (1, .int x1), (2, .int y2)] [0, 1, 2] rfl ?_
      exact tX12_dropsTwo_47 C hr hlocks hK30 hf
def fX12_dropsTwo_L30 (N : Nat) (g : Gs) (x0 : Nat) (x1 : Int32) : Int32 × Ds → Option (Unit × Ds) := lp (fun K30 a => fX12_dropsTwo_B30 N g x0 x1 K30 a.1 a.2) N
theorem tX12_dropsTwo_L30 {p : Program} {l : Launch} {e : Env} {s : State} {m : MethodId} {args : Array Value} {below : List Frame} {meth : Method} {c : Code} {D : va_G} {cy : Nat → ClassId} {B : Bs} (C : Cx p s m args c cX12_dropsTwo 3 RX12 D cy B) (hr : meth.sig.returnType = none) (hlocks : meth.locks = false) {N : Nat} {g : Gs} {x0 : Nat} {x1 : Int32}  {dz : Ds} (a : Int32 × Ds) (hf : fX12_dropsTwo_L30 N g x0 x1 a = some ((), dz)) : WB p l e rmX12_dropsTwo s m args below meth c 3 D cy B 0 0 (MQ below (QV D cy B g dz) args s 0 0 (wA B)) g a.2 [(0, .ref (ad B x0)), (1, .int x1), (2, .int a.1)] 30 [] :=
  lp_w (fun K30 hK30 a ha => tX12_dropsTwo_30 C hr hlocks hK30 ha) N a hf
set_option maxRecDepth 100000 in
def fX12_dropsTwo_B2 (N : Nat) (g : Gs) (x0 : Nat) (x1 : Int32) (K2 : Int32 × Ds → Option (Unit × Ds)) (y2 : Int32) (d : Ds) : Option (Unit × Ds) := gd (chk g x0 11) <| cb (fX12_keyAt N g x0 y2 d) fun u4 d2 => (if u4 = x1 then (cb (fX12_isDownAt N g x0 y2 d2) fun u9 d7 => (if u9 = 0 then (cv (fX12_drops N g x0 y2 d7) fun d11 => (fX12_dropsTwo_L30 N g x0 x1 (y2, d11))) else (fX12_dropsTwo_J19 N g x0 x1 K2 y2 d7))) else (fX12_dropsTwo_J19 N g x0 x1 K2 y2 d2))
set_option maxHeartbeats 4000000 in
set_option maxRecDepth 100000 in
theorem tX12_dropsTwo_2 {p : Program} {l : Launch} {e : Env} {s : State} {m : MethodId} {args : Array Value} {below : List Frame} {meth : Method} {c : Code} {D : va_G} {cy : Nat → ClassId} {B : Bs} (C : Cx p s m args c cX12_dropsTwo 3 RX12 D cy B) (hr : meth.sig.returnType = none) (hlocks : meth.locks = false) {N : Nat} {g : Gs} {x0 : Nat} {x1 : Int32}  {dz : Ds} {K2 : Int32 × Ds → Option (Unit × Ds)} (hK2 : ∀ a, K2 a = some ((), dz) → WB p l e rmX12_dropsTwo s m args below meth c 3 D cy B 0 0 (MQ below (QV D cy B g dz) args s 0 0 (wA B)) g a.2 [(0, .ref (ad B x0)), (1, .int x1), (2, .int a.1)] 2 []) {y2 : Int32} {d : Ds} (hf : fX12_dropsTwo_B2 N g x0 x1 K2 y2 d = some ((), dz)) : WB p l e rmX12_dropsTwo s m args below meth c 3 D cy B 0 0 (MQ below (QV D cy B g dz) args s 0 0 (wA B)) g d [(0, .ref (ad B x0)), (1, .int x1), (2, .int y2)] 2 [] := by
  unfold fX12_dropsTwo_B2 at hf
  refine b_aload_n C dX12_dropsTwo_2 0 rfl rfl ?_
  refine b_iload_n C dX12_dropsTwo_3 2 rfl rfl ?_
  obtain ⟨h1, hf⟩ := gd_s hf
  obtain ⟨u4, d2, k3, hf⟩ := cb_s hf
  refine b_cVI C [] dX12_dropsTwo_4 (kX12_keyAt l D cy B k3) lv_X12_244 ⟨rfl, rfl, Nat.le_of_ble_eq_true rfl, Nat.le_of_ble_eq_true rfl⟩ h1 (by decide) rfl (Nat.le_of_ble_eq_true rfl) ⟨Nat.zero_le _, Nat.zero_le _⟩ rfl ?_
  refine b_iload_n C dX12_dropsTwo_7 1 rfl rfl ?_
  refine b_icmp_ne C (tgt := 19) dX12_dropsTwo_8 (by decide) (fun c5 => ?_) (fun c5 => ?_)
  · have hf := if_s c5 hf
    refine b_sub [(0, .ref (ad B x0)), (1, .int x1), (2, .int y2)] [0, 1, 2] rfl ?_
    exact tX12_dropsTwo_19 C hr hlocks hK2 hf
  · have hf := it_s c5 hf
    refine b_aload_n C dX12_dropsTwo_11 0 rfl rfl ?_
    refine b_iload_n C dX12_dropsTwo_12 2 rfl rfl ?_
    obtain ⟨u9, d7, k8, hf⟩ := cb_s hf
    refine b_cVI C [] dX12_dropsTwo_13 (kX12_isDownAt l D cy B k8) lv_X12_247 ⟨rfl, rfl, Nat.le_of_ble_eq_true rfl, Nat.le_of_ble_eq_true rfl⟩ h1 (by decide) rfl (Nat.le_of_ble_eq_true rfl) ⟨Nat.zero_le _, Nat.zero_le _⟩ rfl ?_
    refine b_if_eq C (tgt := 25) dX12_dropsTwo_16 (by decide) (fun c10 => ?_) (fun c10 => ?_)
    · have hf := it_s c10 hf
      refine b_aload_n C dX12_dropsTwo_25 0 rfl rfl ?_
      refine b_iload_n C dX12_dropsTwo_26 2 rfl rfl ?_
      obtain ⟨d11, k12, hf⟩ := cv_s hf
      refine b_cVN C [] dX12_dropsTwo_27 (kX12_drops l D cy B k12) lv_X12_250 ⟨rfl, rfl, Nat.le_of_ble_eq_true rfl, Nat.le_of_ble_eq_true rfl⟩ h1 (by decide) rfl (Nat.le_of_ble_eq_true rfl) ⟨Nat.zero_le _, Nat.zero_le _⟩ rfl ?_
      refine b_sub [(0, .ref (ad B x0)), (1, .int x1), (2, .int y2)] [0, 1, 2] rfl ?_
      exact tX12_dropsTwo_L30 C hr hlocks (y2, d11) hf
    · have hf := if_s c10 hf
      refine b_sub [(0, .ref (ad B x0)), (1, .int x1), (2, .int y2)] [0, 1, 2] rfl ?_
      exact tX12_dropsTwo_19 C hr hlocks hK2 hf
def fX12_dropsTwo_L2 (N : Nat) (g : Gs) (x0 : Nat) (x1 : Int32) : Int32 × Ds → Option (Unit × Ds) := lp (fun K2 a => fX12_dropsTwo_B2 N g x0 x1 K2 a.1 a.2) N
theorem tX12_dropsTwo_L2 {p : Program} {l : Launch} {e : Env} {s : State} {m : MethodId} {args : Array Value} {below : List Frame} {meth : Method} {c : Code} {D : va_G} {cy : Nat → ClassId} {B : Bs} (C : Cx p s m args c cX12_dropsTwo 3 RX12 D cy B) (hr : meth.sig.returnType = none) (hlocks : meth.locks = false) {N : Nat} {g : Gs} {x0 : Nat} {x1 : Int32}  {dz : Ds} (a : Int32 × Ds) (hf : fX12_dropsTwo_L2 N g x0 x1 a = some ((), dz)) : WB p l e rmX12_dropsTwo s m args below meth c 3 D cy B 0 0 (MQ below (QV D cy B g dz) args s 0 0 (wA B)) g a.2 [(0, .ref (ad B x0)), (1, .int x1), (2, .int a.1)] 2 [] :=
  lp_w (fun K2 hK2 a ha => tX12_dropsTwo_2 C hr hlocks hK2 ha) N a hf
set_option maxRecDepth 100000 in
def fX12_dropsTwo (N : Nat) (g : Gs) (x0 : Nat) (x1 : Int32) (d : Ds) : Option (Unit × Ds) := fX12_dropsTwo_L2 N g x0 x1 (0, d)
set_option maxHeartbeats 4000000 in
set_option maxRecDepth 100000 in
theorem tX12_dropsTwo_E {p : Program} {l : Launch} {e : Env} {s : State} {m : MethodId} {args : Array Value} {below : List Frame} {meth : Method} {c : Code} {D : va_G} {cy : Nat → ClassId} {B : Bs} (C : Cx p s m args c cX12_dropsTwo 3 RX12 D cy B) (hr : meth.sig.returnType = none) (hlocks : meth.locks = false) {N : Nat} {g : Gs} {x0 : Nat} {x1 : Int32}  {dz : Ds} {d : Ds} (hf : fX12_dropsTwo N g x0 x1 d = some ((), dz)) : WB p l e rmX12_dropsTwo s m args below meth c 3 D cy B 0 0 (MQ below (QV D cy B g dz) args s 0 0 (wA B)) g d [(0, .ref (ad B x0)), (1, .int x1)] 0 [] := by
  unfold fX12_dropsTwo at hf
  refine b_iconst C (v := 0) dX12_dropsTwo_0 (by decide) ?_
  refine b_istore_n C dX12_dropsTwo_1 rfl [(2, .int 0), (0, .ref (ad B x0)), (1, .int x1)] (by decide) rfl ?_
  refine b_sub [(0, .ref (ad B x0)), (1, .int x1), (2, .int 0)] [1, 2, 0] rfl ?_
  exact tX12_dropsTwo_L2 C hr hlocks (0, d) hf
theorem kX12_dropsTwo (l : Launch) (D : va_G) (cy : Nat → ClassId) (B : Bs) {N : Nat} {g : Gs} {x0 : Nat} {x1 : Int32}  {dz : Ds} {d : Ds} (hf : fX12_dropsTwo N g x0 x1 d = some ((), dz)) : Met l yX12_dropsTwo (.code yX12_dropsTwo cX12_dropsTwo 3 none :: wl) rmX12_dropsTwo (PC D cy B [.ref (ad B x0), .int x1] g d) (QV D cy B g dz) 0 0 (wA B) :=
  met_of (by decide +kernel) (Nat.le_of_ble_eq_true rfl) (fun p e s m args below meth c C hr hlocks _ => b_sub [(0, .ref (ad B x0)), (1, .int x1)] [0, 1] rfl (tX12_dropsTwo_E C hr hlocks hf))
/-! KeyMatrixModel.doesPlainly(III)V -/
theorem dX12_doesPlainly_0 : decode cX12_doesPlainly 0 = .ok (.iload_n 2, 1) := by decide +kernel
theorem dX12_doesPlainly_1 : decode cX12_doesPlainly 1 = .ok (.iconst 2, 1) := by decide +kernel
theorem dX12_doesPlainly_2 : decode cX12_doesPlainly 2 = .ok (.if_icmp .gt 10, 3) := by decide +kernel
theorem dX12_doesPlainly_5 : decode cX12_doesPlainly 5 = .ok (.aload_n 0, 1) := by decide +kernel
theorem dX12_doesPlainly_6 : decode cX12_doesPlainly 6 = .ok (.iload_n 1, 1) := by decide +kernel
theorem dX12_doesPlainly_7 : decode cX12_doesPlainly 7 = .ok (.iload_n 2, 1) := by decide +kernel
theorem dX12_doesPlainly_8 : decode cX12_doesPlainly 8 = .ok (.iload_n 3, 1) := by decide +kernel
theorem dX12_doesPlainly_9 : decode cX12_doesPlainly 9 = .ok (.invokevirtual 278, 3) := by decide +kernel
theorem dX12_doesPlainly_12 : decode cX12_doesPlainly 12 = .ok (.iload_n 2, 1) := by decide +kernel
theorem dX12_doesPlainly_13 : decode cX12_doesPlainly 13 = .ok (.iconst 3, 1) := by decide +kernel
theorem dX12_doesPlainly_14 : decode cX12_doesPlainly 14 = .ok (.if_icmp .ne 17, 3) := by decide +kernel
theorem dX12_doesPlainly_17 : decode cX12_doesPlainly 17 = .ok (.aload_n 0, 1) := by decide +kernel
theorem dX12_doesPlainly_18 : decode cX12_doesPlainly 18 = .ok (.getfield 40, 3) := by decide +kernel
theorem dX12_doesPlainly_21 : decode cX12_doesPlainly 21 = .ok (.sipush 452, 3) := by decide +kernel
theorem dX12_doesPlainly_24 : decode cX12_doesPlainly 24 = .ok (.dup2, 1) := by decide +kernel
theorem dX12_doesPlainly_25 : decode cX12_doesPlainly 25 = .ok (.iaload, 1) := by decide +kernel
theorem dX12_doesPlainly_26 : decode cX12_doesPlainly 26 = .ok (.iconst 1, 1) := by decide +kernel
theorem dX12_doesPlainly_27 : decode cX12_doesPlainly 27 = .ok (.iload_n 3, 1) := by decide +kernel
theorem dX12_doesPlainly_28 : decode cX12_doesPlainly 28 = .ok (.ishl, 1) := by decide +kernel
theorem dX12_doesPlainly_29 : decode cX12_doesPlainly 29 = .ok (.ixor, 1) := by decide +kernel
theorem dX12_doesPlainly_30 : decode cX12_doesPlainly 30 = .ok (.iastore, 1) := by decide +kernel
theorem dX12_doesPlainly_31 : decode cX12_doesPlainly 31 = .ok (.iload_n 2, 1) := by decide +kernel
theorem dX12_doesPlainly_32 : decode cX12_doesPlainly 32 = .ok (.bipush 9, 2) := by decide +kernel
theorem dX12_doesPlainly_34 : decode cX12_doesPlainly 34 = .ok (.if_icmp .ne 8, 3) := by decide +kernel
theorem dX12_doesPlainly_37 : decode cX12_doesPlainly 37 = .ok (.aload_n 0, 1) := by decide +kernel
theorem dX12_doesPlainly_38 : decode cX12_doesPlainly 38 = .ok (.iload_n 3, 1) := by decide +kernel
theorem dX12_doesPlainly_39 : decode cX12_doesPlainly 39 = .ok (.invokevirtual 290, 3) := by decide +kernel
theorem dX12_doesPlainly_42 : decode cX12_doesPlainly 42 = .ok (.return_, 1) := by decide +kernel
def rmX12_doesPlainly : Room := { frames := 4, cells := 0, slots := 0, locals := 93 }
set_option maxRecDepth 100000 in
def fX12_doesPlainly_J42 (N : Nat) (g : Gs) (x0 : Nat) (x1 : Int32) (x2 : Int32) (x3 : Int32) (d : Ds) : Option (Unit × Ds) := some ((), d)
set_option maxHeartbeats 4000000 in
set_option maxRecDepth 100000 in
theorem tX12_doesPlainly_42 {p : Program} {l : Launch} {e : Env} {s : State} {m : MethodId} {args : Array Value} {below : List Frame} {meth : Method} {c : Code} {D : va_G} {cy : Nat → ClassId} {B : Bs} (C : Cx p s m args c cX12_doesPlainly 4 RX12 D cy B) (hr : meth.sig.returnType = none) (hlocks : meth.locks = false) {N : Nat} {g : Gs} {x0 : Nat} {x1 : Int32} {x2 : Int32} {x3 : Int32}  {dz : Ds} {d : Ds} (hf : fX12_doesPlainly_J42 N g x0 x1 x2 x3 d = some ((), dz)) : WB p l e rmX12_doesPlainly s m args below meth c 4 D cy B 0 0 (MQ below (QV D cy B g dz) args s 0 0 (wA B)) g d [(0, .ref (ad B x0)), (1, .int x1), (2, .int x2), (3, .int x3)] 42 [] := by
  unfold fX12_doesPlainly_J42 at hf
  exact b_vret C hr hlocks hf dX12_doesPlainly_42
set_option maxRecDepth 100000 in
def fX12_doesPlainly_J31 (N : Nat) (g : Gs) (x0 : Nat) (x1 : Int32) (x2 : Int32) (x3 : Int32) (d : Ds) : Option (Unit × Ds) := if x2 = (9 : Int32) then (gd (chk g x0 11) <| cv (fX12_plays N g x0 x3 d) fun d5 => (fX12_doesPlainly_J42 N g x0 x1 x2 x3 d5)) else (fX12_doesPlainly_J42 N g x0 x1 x2 x3 d)
set_option maxHeartbeats 4000000 in
set_option maxRecDepth 100000 in
theorem tX12_doesPlainly_31 {p : Program} {l : Launch} {e : Env} {s : State} {m : MethodId} {args : Array Value} {below : List Frame} {meth : Method} {c : Code} {D : va_G} {cy : Nat → ClassId} {B : Bs} (C : Cx p s m args c cX12_doesPlainly 4 RX12 D cy B) (hr : meth.sig.returnType = none) (hlocks : meth.locks = false) {N : Nat} {g : Gs} {x0 : Nat} {x1 : Int32} {x2 : Int32} {x3 : Int32}  {dz : Ds} {d : Ds} (hf : fX12_doesPlainly_J31 N g x0 x1 x2 x3 d = some ((), dz)) : WB p l e rmX12_doesPlainly s m args below meth c 4 D cy B 0 0 (MQ below (QV D cy B g dz) args s 0 0 (wA B)) g d [(0, .ref (ad B x0)), (1, .int x1), (2, .int x2), (3, .int x3)] 31 [] := by
  unfold fX12_doesPlainly_J31 at hf
  refine b_iload_n C dX12_doesPlainly_31 2 rfl rfl ?_
  refine b_bipush C (v := 9) dX12_doesPlainly_32 (by decide) ?_
  refine b_icmp_ne C (tgt := 42) dX12_doesPlainly_34 (by decide) (fun c3 => ?_) (fun c3 => ?_)
  · have hf := if_s c3 hf
    refine b_sub [(0, .ref (ad B x0)), (1, .int x1), (2, .int x2), (3, .int x3)] [0, 1, 2, 3] rfl ?_
    exact tX12_doesPlainly_42 C hr hlocks hf
  · have hf := it_s c3 hf
    refine b_aload_n C dX12_doesPlainly_37 0 rfl rfl ?_
    refine b_iload_n C dX12_doesPlainly_38 3 rfl rfl ?_
    obtain ⟨h4, hf⟩ := gd_s hf
    obtain ⟨d5, k6, hf⟩ := cv_s hf
    refine b_cVN C [] dX12_doesPlainly_39 (kX12_plays l D cy B k6) lv_X12_290 ⟨rfl, rfl, Nat.le_of_ble_eq_true rfl, Nat.le_of_ble_eq_true rfl⟩ h4 (by decide) rfl (Nat.le_of_ble_eq_true rfl) ⟨Nat.zero_le _, Nat.zero_le _⟩ rfl ?_
    refine b_sub [(0, .ref (ad B x0)), (1, .int x1), (2, .int x2), (3, .int x3)] [0, 1, 2, 3] rfl ?_
    exact tX12_doesPlainly_42 C hr hlocks hf
set_option maxRecDepth 100000 in
def fX12_doesPlainly_J12 (N : Nat) (g : Gs) (x0 : Nat) (x1 : Int32) (x2 : Int32) (x3 : Int32) (d : Ds) : Option (Unit × Ds) := if x2 = (3 : Int32) then (gd (chk g x0 11) <| ob (gR g x0 17) fun r8 => (gd (chk g r8 102) <| gd (¬ ((452 : Int32) < 0 ∨ gL g r8 ≤ (452 : Int32).toNatClampNeg)) <| bd (sI d r8 (452 : Int32).toNatClampNeg ((dI d r8 (452 : Int32).toNatClampNeg) ^^^ ((1 : Int32) <<< (x3 &&& 31)))) fun d11 => (fX12_doesPlainly_J31 N g x0 x1 x2 x3 d11))) else (fX12_doesPlainly_J31 N g x0 x1 x2 x3 d)
set_option maxHeartbeats 4000000 in
set_option maxRecDepth 100000 in
theorem tX12_doesPlainly_12 {p : Program} {l : Launch} {e : Env} {s : State} {m : MethodId} {args : Array Value} {below : List Frame} {meth : Method} {c : Code} {D : va_G} {cy : Nat → ClassId} {B : Bs} (C : Cx p s m args c cX12_doesPlainly 4 RX12 D cy B) (hr : meth.sig.returnType = none) (hlocks : meth.locks = false) {N : Nat} {g : Gs} {x0 : Nat} {x1 : Int32} {x2 : Int32} {x3 : Int32}  {dz : Ds} {d : Ds} (hf : fX12_doesPlainly_J12 N g x0 x1 x2 x3 d = some ((), dz)) : WB p l e rmX12_doesPlainly s m args below meth c 4 D cy B 0 0 (MQ below (QV D cy B g dz) args s 0 0 (wA B)) g d [(0, .ref (ad B x0)), (1, .int x1), (2, .int x2), (3, .int x3)] 12 [] := by
  unfold fX12_doesPlainly_J12 at hf
  refine b_iload_n C dX12_doesPlainly_12 2 rfl rfl ?_
  refine b_iconst C (v := 3) dX12_doesPlainly_13 (by decide) ?_
  refine b_icmp_ne C (tgt := 31) dX12_doesPlainly_14 (by decide) (fun c2 => ?_) (fun c2 => ?_)
  · have hf := if_s c2 hf
    refine b_sub [(0, .ref (ad B x0)), (1, .int x1), (2, .int x2), (3, .int x3)] [0, 1, 2, 3] rfl ?_
    exact tX12_doesPlainly_31 C hr hlocks hf
  · have hf := it_s c2 hf
    refine b_aload_n C dX12_doesPlainly_17 0 rfl rfl ?_
    obtain ⟨h7, hf⟩ := gd_s hf
    obtain ⟨r8, er8, hf⟩ := ob_s hf
    refine b_gR C dX12_doesPlainly_18 fl_X12_40 h7 er8 ?_
    refine b_sipush C (v := 452) dX12_doesPlainly_21 (by decide) ?_
    refine b_dup2 C dX12_doesPlainly_24 rfl rfl ?_
    obtain ⟨h9, hf⟩ := gd_s hf
    obtain ⟨h10, hf⟩ := gd_s hf
    refine b_iald C h9 h10 dX12_doesPlainly_25 ?_
    refine b_iconst C (v := 1) dX12_doesPlainly_26 (by decide) ?_
    refine b_iload_n C dX12_doesPlainly_27 3 rfl rfl ?_
    refine b_ishl C dX12_doesPlainly_28 ?_
    refine b_ixor C dX12_doesPlainly_29 ?_
    obtain ⟨d11, ed11, hf⟩ := bd_s hf
    refine b_iast C h9 h10 ed11 dX12_doesPlainly_30 ?_
    refine b_sub [(0, .ref (ad B x0)), (1, .int x1), (2, .int x2), (3, .int x3)] [0, 1, 2, 3] rfl ?_
    exact tX12_doesPlainly_31 C hr hlocks hf
set_option maxRecDepth 100000 in
def fX12_doesPlainly (N : Nat) (g : Gs) (x0 : Nat) (x1 : Int32) (x2 : Int32) (x3 : Int32) (d : Ds) : Option (Unit × Ds) := if (2 : Int32) < x2 then (fX12_doesPlainly_J12 N g x0 x1 x2 x3 d) else (gd (chk g x0 11) <| cv (fX12_begin N g x0 x1 x2 x3 d) fun d13 => (fX12_doesPlainly_J12 N g x0 x1 x2 x3 d13))
set_option maxHeartbeats 4000000 in
set_option maxRecDepth 100000 in
theorem tX12_doesPlainly_E {p : Program} {l : Launch} {e : Env} {s : State} {m : MethodId} {args : Array Value} {below : List Frame} {meth : Method} {c : Code} {D : va_G} {cy : Nat → ClassId} {B : Bs} (C : Cx p s m args c cX12_doesPlainly 4 RX12 D cy B) (hr : meth.sig.returnType = none) (hlocks : meth.locks = false) {N : Nat} {g : Gs} {x0 : Nat} {x1 : Int32} {x2 : Int32} {x3 : Int32}  {dz : Ds} {d : Ds} (hf : fX12_doesPlainly N g x0 x1 x2 x3 d = some ((), dz)) : WB p l e rmX12_doesPlainly s m args below meth c 4 D cy B 0 0 (MQ below (QV D cy B g dz) args s 0 0 (wA B)) g d [(0, .ref (ad B x0)), (1, .int x1), (2, .int x2), (3, .int x3)] 0 [] := by
  unfold fX12_doesPlainly at hf
  refine b_iload_n C dX12_doesPlainly_0 2 rfl rfl ?_
  refine b_iconst C (v := 2) dX12_doesPlainly_1 (by decide) ?_
  refine b_icmp_gt C (tgt := 12) dX12_doesPlainly_2 (by decide) (fun c1 => ?_) (fun c1 => ?_)
  · have hf := it_s c1 hf
    refine b_sub [(0, .ref (ad B x0)), (1, .int x1), (2, .int x2), (3, .int x3)] [0, 1, 2, 3] rfl ?_
    exact tX12_doesPlainly_12 C hr hlocks hf
  · have hf := if_s c1 hf
    refine b_aload_n C dX12_doesPlainly_5 0 rfl rfl ?_
    refine b_iload_n C dX12_doesPlainly_6 1 rfl rfl ?_
    refine b_iload_n C dX12_doesPlainly_7 2 rfl rfl ?_
    refine b_iload_n C dX12_doesPlainly_8 3 rfl rfl ?_
    obtain ⟨h12, hf⟩ := gd_s hf
    obtain ⟨d13, k14, hf⟩ := cv_s hf
    refine b_cVN C [] dX12_doesPlainly_9 (kX12_begin l D cy B k14) lv_X12_278 ⟨rfl, rfl, Nat.le_of_ble_eq_true rfl, Nat.le_of_ble_eq_true rfl⟩ h12 (by decide) rfl (Nat.le_of_ble_eq_true rfl) ⟨Nat.zero_le _, Nat.zero_le _⟩ rfl ?_
    refine b_sub [(0, .ref (ad B x0)), (1, .int x1), (2, .int x2), (3, .int x3)] [0, 1, 2, 3] rfl ?_
    exact tX12_doesPlainly_12 C hr hlocks hf
theorem kX12_doesPlainly (l : Launch) (D : va_G) (cy : Nat → ClassId) (B : Bs) {N : Nat} {g : Gs} {x0 : Nat} {x1 : Int32} {x2 : Int32} {x3 : Int32}  {dz : Ds} {d : Ds} (hf : fX12_doesPlainly N g x0 x1 x2 x3 d = some ((), dz)) : Met l yX12_doesPlainly (.code yX12_doesPlainly cX12_doesPlainly 4 none :: wl) rmX12_doesPlainly (PC D cy B [.ref (ad B x0), .int x1, .int x2, .int x3] g d) (QV D cy B g dz) 0 0 (wA B) :=
  met_of (by decide +kernel) (Nat.le_of_ble_eq_true rfl) (fun p e s m args below meth c C hr hlocks _ => b_sub [(0, .ref (ad B x0)), (1, .int x1), (2, .int x2), (3, .int x3)] [0, 1, 2, 3] rfl (tX12_doesPlainly_E C hr hlocks hf))
/-! KeyMatrixModel.worksAlone(II)Z -/
theorem yo_X12_layerOf : yX12_layerOf.cls ≠ "java/lang/invoke/MethodHandle" ∧ yX12_layerOf.cls ≠ "java/lang/invoke/VarHandle" ∧ (parseMethodDescriptor yX12_layerOf.desc).map (fun d => d.parameters.length) = some 1 := by decide +kernel
theorem co_X12_layerOf : Cond.code yX12_layerOf cX12_layerOf 4 (some .int) ∈ wl := mW (mT6 (List.mem_of_getElem? (i := 107) (by decide +kernel))) rfl
theorem in_X12_layerOf : Cond.initialized yX12_layerOf.cls ∈ wl := mW (mT1 (List.mem_of_getElem? (i := 12) (by decide +kernel))) rfl
theorem im_X12_layerOf : Cond.instanceMethod yX12_layerOf ∈ wl := mW (mT6 (List.mem_of_getElem? (i := 106) (by decide +kernel))) rfl
theorem se_X12_layerOf : Cond.selects yX12_layerOf.cls yX12_layerOf yX12_layerOf ∈ wl := mW (mT0 (List.mem_of_getElem? (i := 59) (by decide +kernel))) rfl
theorem lv_X12_272 : LV RX12 272 yX12_layerOf cX12_layerOf 4 (some .int) 1 11 := ⟨⟨(RX12, TX12, 33), rfl, rfl⟩, yo_X12_layerOf, mW (mT6 (List.mem_of_getElem? (i := 104) (by decide +kernel))) rfl, im_X12_layerOf, se_X12_layerOf, in_X12_layerOf, co_X12_layerOf⟩
theorem yo_X12_heldOrTapped : yX12_heldOrTapped.cls ≠ "java/lang/invoke/MethodHandle" ∧ yX12_heldOrTapped.cls ≠ "java/lang/invoke/VarHandle" ∧ (parseMethodDescriptor yX12_heldOrTapped.desc).map (fun d => d.parameters.length) = some 2 := by decide +kernel
theorem co_X12_heldOrTapped : Cond.code yX12_heldOrTapped cX12_heldOrTapped 7 (some .int) ∈ wl := mW (mT6 (List.mem_of_getElem? (i := 207) (by decide +kernel))) rfl
theorem in_X12_heldOrTapped : Cond.initialized yX12_heldOrTapped.cls ∈ wl := mW (mT1 (List.mem_of_getElem? (i := 12) (by decide +kernel))) rfl
theorem im_X12_heldOrTapped : Cond.instanceMethod yX12_heldOrTapped ∈ wl := mW (mT6 (List.mem_of_getElem? (i := 206) (by decide +kernel))) rfl
theorem se_X12_heldOrTapped : Cond.selects yX12_heldOrTapped.cls yX12_heldOrTapped yX12_heldOrTapped ∈ wl := mW (mT0 (List.mem_of_getElem? (i := 83) (by decide +kernel))) rfl
theorem lv_X12_275 : LV RX12 275 yX12_heldOrTapped cX12_heldOrTapped 7 (some .int) 2 11 := ⟨⟨(RX12, TX12, 33), rfl, rfl⟩, yo_X12_heldOrTapped, mW (mT6 (List.mem_of_getElem? (i := 204) (by decide +kernel))) rfl, im_X12_heldOrTapped, se_X12_heldOrTapped, in_X12_heldOrTapped, co_X12_heldOrTapped⟩
theorem yo_X12_doesPlainly : yX12_doesPlainly.cls ≠ "java/lang/invoke/MethodHandle" ∧ yX12_doesPlainly.cls ≠ "java/lang/invoke/VarHandle" ∧ (parseMethodDescriptor yX12_doesPlainly.desc).map (fun d => d.parameters.length) = some 3 := by decide +kernel
theorem co_X12_doesPlainly : Cond.code yX12_doesPlainly cX12_doesPlainly 4 none ∈ wl := mW (mT6 (List.mem_of_getElem? (i := 219) (by decide +kernel))) rfl
theorem in_X12_doesPlainly : Cond.initialized yX12_doesPlainly.cls ∈ wl := mW (mT1 (List.mem_of_getElem? (i := 12) (by decide +kernel))) rfl
theorem im_X12_doesPlainly : Cond.instanceMethod yX12_doesPlainly ∈ wl := mW (mT6 (List.mem_of_getElem? (i := 218) (by decide +kernel))) rfl
theorem se_X12_doesPlainly : Cond.selects yX12_doesPlainly.cls yX12_doesPlainly yX12_doesPlainly ∈ wl := mW (mT0 (List.mem_of_getElem? (i := 86) (by decide +kernel))) rfl
theorem lv_X12_287 : LV RX12 287 yX12_doesPlainly cX12_doesPlainly 4 none 3 11 := ⟨⟨(RX12, TX12, 33), rfl, rfl⟩, yo_X12_doesPlainly, mW (mT6 (List.mem_of_getElem? (i := 216) (by decide +kernel))) rfl, im_X12_doesPlainly, se_X12_doesPlainly, in_X12_doesPlainly, co_X12_doesPlainly⟩
theorem yo_X12_onceOrTwice : yX12_onceOrTwice.cls ≠ "java/lang/invoke/MethodHandle" ∧ yX12_onceOrTwice.cls ≠ "java/lang/invoke/VarHandle" ∧ (parseMethodDescriptor yX12_onceOrTwice.desc).map (fun d => d.parameters.length) = some 2 := by decide +kernel
theorem co_X12_onceOrTwice : Cond.code yX12_onceOrTwice cX12_onceOrTwice 5 (some .int) ∈ wl := mW (mT6 (List.mem_of_getElem? (i := 211) (by decide +kernel))) rfl
theorem in_X12_onceOrTwice : Cond.initialized yX12_onceOrTwice.cls ∈ wl := mW (mT1 (List.mem_of_getElem? (i := 12) (by decide +kernel))) rfl
theorem im_X12_onceOrTwice : Cond.instanceMethod yX12_onceOrTwice ∈ wl := mW (mT6 (List.mem_of_getElem? (i := 210) (by decide +kernel))) rfl
theorem se_X12_onceOrTwice : Cond.selects yX12_onceOrTwice.cls yX12_onceOrTwice yX12_onceOrTwice ∈ wl := mW (mT0 (List.mem_of_getElem? (i := 84) (by decide +kernel))) rfl
theorem lv_X12_281 : LV RX12 281 yX12_onceOrTwice cX12_onceOrTwice 5 (some .int) 2 11 := ⟨⟨(RX12, TX12, 33), rfl, rfl⟩, yo_X12_onceOrTwice, mW (mT6 (List.mem_of_getElem? (i := 208) (by decide +kernel))) rfl, im_X12_onceOrTwice, se_X12_onceOrTwice, in_X12_onceOrTwice, co_X12_onceOrTwice⟩
theorem yo_X12_dropsTwo : yX12_dropsTwo.cls ≠ "java/lang/invoke/MethodHandle" ∧ yX12_dropsTwo.cls ≠ "java/lang/invoke/VarHandle" ∧ (parseMethodDescriptor yX12_dropsTwo.desc).map (fun d => d.parameters.length) = some 1 := by decide +kernel
theorem co_X12_dropsTwo : Cond.code yX12_dropsTwo cX12_dropsTwo 3 none ∈ wl := mW (mT6 (List.mem_of_getElem? (i := 215) (by decide +kernel))) rfl
theorem in_X12_dropsTwo : Cond.initialized yX12_dropsTwo.cls ∈ wl := mW (mT1 (List.mem_of_getElem? (i := 12) (by decide +kernel))) rfl
theorem im_X12_dropsTwo : Cond.instanceMethod yX12_dropsTwo ∈ wl := mW (mT6 (List.mem_of_getElem? (i := 214) (by decide +kernel))) rfl
theorem se_X12_dropsTwo : Cond.selects yX12_dropsTwo.cls yX12_dropsTwo yX12_dropsTwo ∈ wl := mW (mT0 (List.mem_of_getElem? (i := 85) (by decide +kernel))) rfl
theorem lv_X12_284 : LV RX12 284 yX12_dropsTwo cX12_dropsTwo 3 none 1 11 := ⟨⟨(RX12, TX12, 33), rfl, rfl⟩, yo_X12_dropsTwo, mW (mT6 (List.mem_of_getElem? (i := 212) (by decide +kernel))) rfl, im_X12_dropsTwo, se_X12_dropsTwo, in_X12_dropsTwo, co_X12_dropsTwo⟩
theorem dX12_worksAlone_0 : decode cX12_worksAlone 0 = .ok (.bipush 12, 2) := by decide +kernel
theorem dX12_worksAlone_2 : decode cX12_worksAlone 2 = .ok (.iconst 3, 1) := by decide +kernel
theorem dX12_worksAlone_3 : decode cX12_worksAlone 3 = .ok (.bipush 24, 2) := by decide +kernel
theorem dX12_worksAlone_5 : decode cX12_worksAlone 5 = .ok (.aload_n 0, 1) := by decide +kernel
theorem dX12_worksAlone_6 : decode cX12_worksAlone 6 = .ok (.iload_n 1, 1) := by decide +kernel
theorem dX12_worksAlone_7 : decode cX12_worksAlone 7 = .ok (.invokevirtual 272, 3) := by decide +kernel
theorem dX12_worksAlone_10 : decode cX12_worksAlone 10 = .ok (.imul, 1) := by decide +kernel
theorem dX12_worksAlone_11 : decode cX12_worksAlone 11 = .ok (.iload_n 1, 1) := by decide +kernel
theorem dX12_worksAlone_12 : decode cX12_worksAlone 12 = .ok (.iadd, 1) := by decide +kernel
theorem dX12_worksAlone_13 : decode cX12_worksAlone 13 = .ok (.imul, 1) := by decide +kernel
theorem dX12_worksAlone_14 : decode cX12_worksAlone 14 = .ok (.iadd, 1) := by decide +kernel
theorem dX12_worksAlone_15 : decode cX12_worksAlone 15 = .ok (.istore_n 3, 1) := by decide +kernel
theorem dX12_worksAlone_16 : decode cX12_worksAlone 16 = .ok (.aload_n 0, 1) := by decide +kernel
theorem dX12_worksAlone_17 : decode cX12_worksAlone 17 = .ok (.getfield 40, 3) := by decide +kernel
theorem dX12_worksAlone_20 : decode cX12_worksAlone 20 = .ok (.iload_n 3, 1) := by decide +kernel
theorem dX12_worksAlone_21 : decode cX12_worksAlone 21 = .ok (.iaload, 1) := by decide +kernel
theorem dX12_worksAlone_22 : decode cX12_worksAlone 22 = .ok (.istore 4, 2) := by decide +kernel
theorem dX12_worksAlone_24 : decode cX12_worksAlone 24 = .ok (.aload_n 0, 1) := by decide +kernel
theorem dX12_worksAlone_25 : decode cX12_worksAlone 25 = .ok (.getfield 40, 3) := by decide +kernel
theorem dX12_worksAlone_28 : decode cX12_worksAlone 28 = .ok (.iload_n 3, 1) := by decide +kernel
theorem dX12_worksAlone_29 : decode cX12_worksAlone 29 = .ok (.iconst 1, 1) := by decide +kernel
theorem dX12_worksAlone_30 : decode cX12_worksAlone 30 = .ok (.iadd, 1) := by decide +kernel
theorem dX12_worksAlone_31 : decode cX12_worksAlone 31 = .ok (.iaload, 1) := by decide +kernel
theorem dX12_worksAlone_32 : decode cX12_worksAlone 32 = .ok (.istore 5, 2) := by decide +kernel
theorem dX12_worksAlone_34 : decode cX12_worksAlone 34 = .ok (.aload_n 0, 1) := by decide +kernel
theorem dX12_worksAlone_35 : decode cX12_worksAlone 35 = .ok (.getfield 40, 3) := by decide +kernel
theorem dX12_worksAlone_38 : decode cX12_worksAlone 38 = .ok (.iload_n 3, 1) := by decide +kernel
theorem dX12_worksAlone_39 : decode cX12_worksAlone 39 = .ok (.iconst 2, 1) := by decide +kernel
theorem dX12_worksAlone_40 : decode cX12_worksAlone 40 = .ok (.iadd, 1) := by decide +kernel
theorem dX12_worksAlone_41 : decode cX12_worksAlone 41 = .ok (.iaload, 1) := by decide +kernel
theorem dX12_worksAlone_42 : decode cX12_worksAlone 42 = .ok (.istore 6, 2) := by decide +kernel
theorem dX12_worksAlone_44 : decode cX12_worksAlone 44 = .ok (.iload 4, 2) := by decide +kernel
theorem dX12_worksAlone_46 : decode cX12_worksAlone 46 = .ok (.bipush 6, 2) := by decide +kernel
theorem dX12_worksAlone_48 : decode cX12_worksAlone 48 = .ok (.if_icmp .eq 10, 3) := by decide +kernel
theorem dX12_worksAlone_51 : decode cX12_worksAlone 51 = .ok (.iload 4, 2) := by decide +kernel
theorem dX12_worksAlone_53 : decode cX12_worksAlone 53 = .ok (.bipush 7, 2) := by decide +kernel
theorem dX12_worksAlone_55 : decode cX12_worksAlone 55 = .ok (.if_icmp .ne 61, 3) := by decide +kernel
theorem dX12_worksAlone_58 : decode cX12_worksAlone 58 = .ok (.aload_n 0, 1) := by decide +kernel
theorem dX12_worksAlone_59 : decode cX12_worksAlone 59 = .ok (.iload_n 1, 1) := by decide +kernel
theorem dX12_worksAlone_60 : decode cX12_worksAlone 60 = .ok (.iload_n 2, 1) := by decide +kernel
theorem dX12_worksAlone_61 : decode cX12_worksAlone 61 = .ok (.invokevirtual 275, 3) := by decide +kernel
theorem dX12_worksAlone_64 : decode cX12_worksAlone 64 = .ok (.istore 7, 2) := by decide +kernel
theorem dX12_worksAlone_66 : decode cX12_worksAlone 66 = .ok (.iload 7, 2) := by decide +kernel
theorem dX12_worksAlone_68 : decode cX12_worksAlone 68 = .ok (.ifCond .ge 5, 3) := by decide +kernel
theorem dX12_worksAlone_71 : decode cX12_worksAlone 71 = .ok (.iconst 0, 1) := by decide +kernel
theorem dX12_worksAlone_72 : decode cX12_worksAlone 72 = .ok (.ireturn, 1) := by decide +kernel
theorem dX12_worksAlone_73 : decode cX12_worksAlone 73 = .ok (.aload_n 0, 1) := by decide +kernel
theorem dX12_worksAlone_74 : decode cX12_worksAlone 74 = .ok (.iconst 0, 1) := by decide +kernel
theorem dX12_worksAlone_75 : decode cX12_worksAlone 75 = .ok (.invokevirtual 250, 3) := by decide +kernel
theorem dX12_worksAlone_78 : decode cX12_worksAlone 78 = .ok (.iload 7, 2) := by decide +kernel
theorem dX12_worksAlone_80 : decode cX12_worksAlone 80 = .ok (.ifCond .ne 14, 3) := by decide +kernel
theorem dX12_worksAlone_83 : decode cX12_worksAlone 83 = .ok (.aload_n 0, 1) := by decide +kernel
theorem dX12_worksAlone_84 : decode cX12_worksAlone 84 = .ok (.iload_n 1, 1) := by decide +kernel
theorem dX12_worksAlone_85 : decode cX12_worksAlone 85 = .ok (.iconst 0, 1) := by decide +kernel
theorem dX12_worksAlone_86 : decode cX12_worksAlone 86 = .ok (.iload 5, 2) := by decide +kernel
theorem dX12_worksAlone_88 : decode cX12_worksAlone 88 = .ok (.invokevirtual 278, 3) := by decide +kernel
theorem dX12_worksAlone_91 : decode cX12_worksAlone 91 = .ok (.goto 22, 3) := by decide +kernel
theorem dX12_worksAlone_94 : decode cX12_worksAlone 94 = .ok (.aload_n 0, 1) := by decide +kernel
theorem dX12_worksAlone_95 : decode cX12_worksAlone 95 = .ok (.iload_n 1, 1) := by decide +kernel
theorem dX12_worksAlone_96 : decode cX12_worksAlone 96 = .ok (.iload 4, 2) := by decide +kernel
theorem dX12_worksAlone_98 : decode cX12_worksAlone 98 = .ok (.bipush 6, 2) := by decide +kernel
theorem dX12_worksAlone_100 : decode cX12_worksAlone 100 = .ok (.if_icmp .ne 7, 3) := by decide +kernel
theorem dX12_worksAlone_103 : decode cX12_worksAlone 103 = .ok (.iconst 2, 1) := by decide +kernel
theorem dX12_worksAlone_104 : decode cX12_worksAlone 104 = .ok (.goto 4, 3) := by decide +kernel
theorem dX12_worksAlone_107 : decode cX12_worksAlone 107 = .ok (.iconst 1, 1) := by decide +kernel
theorem dX12_worksAlone_108 : decode cX12_worksAlone 108 = .ok (.iload 6, 2) := by decide +kernel
theorem dX12_worksAlone_110 : decode cX12_worksAlone 110 = .ok (.invokevirtual 278, 3) := by decide +kernel
theorem dX12_worksAlone_113 : decode cX12_worksAlone 113 = .ok (.goto 77, 3) := by decide +kernel
theorem dX12_worksAlone_116 : decode cX12_worksAlone 116 = .ok (.iload 4, 2) := by decide +kernel
theorem dX12_worksAlone_118 : decode cX12_worksAlone 118 = .ok (.bipush 8, 2) := by decide +kernel
theorem dX12_worksAlone_120 : decode cX12_worksAlone 120 = .ok (.if_icmp .ne 56, 3) := by decide +kernel
theorem dX12_worksAlone_123 : decode cX12_worksAlone 123 = .ok (.aload_n 0, 1) := by decide +kernel
theorem dX12_worksAlone_124 : decode cX12_worksAlone 124 = .ok (.iload_n 1, 1) := by decide +kernel
theorem dX12_worksAlone_125 : decode cX12_worksAlone 125 = .ok (.iload_n 2, 1) := by decide +kernel
theorem dX12_worksAlone_126 : decode cX12_worksAlone 126 = .ok (.invokevirtual 281, 3) := by decide +kernel
theorem dX12_worksAlone_129 : decode cX12_worksAlone 129 = .ok (.istore 7, 2) := by decide +kernel
theorem dX12_worksAlone_131 : decode cX12_worksAlone 131 = .ok (.iload 7, 2) := by decide +kernel
theorem dX12_worksAlone_133 : decode cX12_worksAlone 133 = .ok (.ifCond .ge 5, 3) := by decide +kernel
theorem dX12_worksAlone_136 : decode cX12_worksAlone 136 = .ok (.iconst 0, 1) := by decide +kernel
theorem dX12_worksAlone_137 : decode cX12_worksAlone 137 = .ok (.ireturn, 1) := by decide +kernel
theorem dX12_worksAlone_138 : decode cX12_worksAlone 138 = .ok (.aload_n 0, 1) := by decide +kernel
theorem dX12_worksAlone_139 : decode cX12_worksAlone 139 = .ok (.iconst 0, 1) := by decide +kernel
theorem dX12_worksAlone_140 : decode cX12_worksAlone 140 = .ok (.invokevirtual 250, 3) := by decide +kernel
theorem dX12_worksAlone_143 : decode cX12_worksAlone 143 = .ok (.iload 7, 2) := by decide +kernel
theorem dX12_worksAlone_145 : decode cX12_worksAlone 145 = .ok (.iconst 1, 1) := by decide +kernel
theorem dX12_worksAlone_146 : decode cX12_worksAlone 146 = .ok (.if_icmp .ne 8, 3) := by decide +kernel
theorem dX12_worksAlone_149 : decode cX12_worksAlone 149 = .ok (.aload_n 0, 1) := by decide +kernel
theorem dX12_worksAlone_150 : decode cX12_worksAlone 150 = .ok (.iload_n 1, 1) := by decide +kernel
theorem dX12_worksAlone_151 : decode cX12_worksAlone 151 = .ok (.invokevirtual 284, 3) := by decide +kernel
theorem dX12_worksAlone_154 : decode cX12_worksAlone 154 = .ok (.aload_n 0, 1) := by decide +kernel
theorem dX12_worksAlone_155 : decode cX12_worksAlone 155 = .ok (.iload_n 1, 1) := by decide +kernel
theorem dX12_worksAlone_156 : decode cX12_worksAlone 156 = .ok (.iconst 0, 1) := by decide +kernel
theorem dX12_worksAlone_157 : decode cX12_worksAlone 157 = .ok (.iload 7, 2) := by decide +kernel
theorem dX12_worksAlone_159 : decode cX12_worksAlone 159 = .ok (.iconst 1, 1) := by decide +kernel
theorem dX12_worksAlone_160 : decode cX12_worksAlone 160 = .ok (.if_icmp .ne 8, 3) := by decide +kernel
theorem dX12_worksAlone_163 : decode cX12_worksAlone 163 = .ok (.iload 6, 2) := by decide +kernel
theorem dX12_worksAlone_165 : decode cX12_worksAlone 165 = .ok (.goto 5, 3) := by decide +kernel
theorem dX12_worksAlone_168 : decode cX12_worksAlone 168 = .ok (.iload 5, 2) := by decide +kernel
theorem dX12_worksAlone_170 : decode cX12_worksAlone 170 = .ok (.invokevirtual 278, 3) := by decide +kernel
theorem dX12_worksAlone_173 : decode cX12_worksAlone 173 = .ok (.goto 17, 3) := by decide +kernel
theorem dX12_worksAlone_176 : decode cX12_worksAlone 176 = .ok (.aload_n 0, 1) := by decide +kernel
theorem dX12_worksAlone_177 : decode cX12_worksAlone 177 = .ok (.iconst 0, 1) := by decide +kernel
theorem dX12_worksAlone_178 : decode cX12_worksAlone 178 = .ok (.invokevirtual 250, 3) := by decide +kernel
theorem dX12_worksAlone_181 : decode cX12_worksAlone 181 = .ok (.aload_n 0, 1) := by decide +kernel
theorem dX12_worksAlone_182 : decode cX12_worksAlone 182 = .ok (.iload_n 1, 1) := by decide +kernel
theorem dX12_worksAlone_183 : decode cX12_worksAlone 183 = .ok (.iload 4, 2) := by decide +kernel
theorem dX12_worksAlone_185 : decode cX12_worksAlone 185 = .ok (.iload 5, 2) := by decide +kernel
theorem dX12_worksAlone_187 : decode cX12_worksAlone 187 = .ok (.invokevirtual 287, 3) := by decide +kernel
theorem dX12_worksAlone_190 : decode cX12_worksAlone 190 = .ok (.aload_n 0, 1) := by decide +kernel
theorem dX12_worksAlone_191 : decode cX12_worksAlone 191 = .ok (.invokevirtual 256, 3) := by decide +kernel
theorem dX12_worksAlone_194 : decode cX12_worksAlone 194 = .ok (.iconst 1, 1) := by decide +kernel
theorem dX12_worksAlone_195 : decode cX12_worksAlone 195 = .ok (.ireturn, 1) := by decide +kernel
def rmX12_worksAlone : Room := { frames := 5, cells := 0, slots := 0, locals := 116 }
set_option maxRecDepth 100000 in
def fX12_worksAlone_J190 (N : Nat) (g : Gs) (x0 : Nat) (x1 : Int32) (x2 : Int32) (d : Ds) : Option (Int32 × Ds) := gd (chk g x0 11) <| cv (fX12_reports N g x0 d) fun d28 => (some (1, d28))
set_option maxHeartbeats 4000000 in
set_option maxRecDepth 100000 in
theorem tX12_worksAlone_190 {p : Program} {l : Launch} {e : Env} {s : State} {m : MethodId} {args : Array Value} {below : List Frame} {meth : Method} {c : Code} {D : va_G} {cy : Nat → ClassId} {B : Bs} (C : Cx p s m args c cX12_worksAlone 8 RX12 D cy B) (hr : meth.sig.returnType = (some .boolean)) (hlocks : meth.locks = false) {N : Nat} {g : Gs} {x0 : Nat} {x1 : Int32} {x2 : Int32} {vz : Int32} {dz : Ds} {d : Ds} (hf : fX12_worksAlone_J190 N g x0 x1 x2 d = some (vz, dz)) : WB p l e rmX12_worksAlone s m args below meth c 8 D cy B 0 0 (MQ below (QI D cy B vz g dz) args s 0 0 (wA B)) g d [(0, .ref (ad B x0)), (1, .int x1), (2, .int x2)] 190 [] := by
  unfold fX12_worksAlone_J190 at hf
  refine b_aload_n C dX12_worksAlone_190 0 rfl rfl ?_
  obtain ⟨h27, hf⟩ := gd_s hf
  obtain ⟨d28, k29, hf⟩ := cv_s hf
  refine b_cVN C [] dX12_worksAlone_191 (kX12_reports l D cy B k29) lv_X12_256 ⟨rfl, rfl, Nat.le_of_ble_eq_true rfl, Nat.le_of_ble_eq_true rfl⟩ h27 (by decide) rfl (Nat.le_of_ble_eq_true rfl) ⟨Nat.zero_le _, Nat.zero_le _⟩ rfl ?_
  refine b_iconst C (v := 1) dX12_worksAlone_194 (by decide) ?_
  exact b_zret C hr hlocks (by decide) hf dX12_worksAlone_195
set_option maxRecDepth 100000 in
def fX12_worksAlone_J113 (N : Nat) (g : Gs) (x0 : Nat) (x1 : Int32) (x2 : Int32) (d : Ds) : Option (Int32 × Ds) := fX12_worksAlone_J190 N g x0 x1 x2 d
set_option maxHeartbeats 4000000 in
set_option maxRecDepth 100000 in
theorem tX12_worksAlone_113 {p : Program} {l : Launch} {e : Env} {s : State} {m : MethodId} {args : Array Value} {below : List Frame} {meth : Method} {c : Code} {D : va_G} {cy : Nat → ClassId} {B : Bs} (C : Cx p s m args c cX12_worksAlone 8 RX12 D cy B) (hr : meth.sig.returnType = (some .boolean)) (hlocks : meth.locks = false) {N : Nat} {g : Gs} {x0 : Nat} {x1 : Int32} {x2 : Int32} {vz : Int32} {dz : Ds} {d : Ds} (hf : fX12_worksAlone_J113 N g x0 x1 x2 d = some (vz, dz)) : WB p l e rmX12_worksAlone s m args below meth c 8 D cy B 0 0 (MQ below (QI D cy B vz g dz) args s 0 0 (wA B)) g d [(0, .ref (ad B x0)), (1, .int x1), (2, .int x2)] 113 [] := by
  unfold fX12_worksAlone_J113 at hf
  refine b_goto C (tgt := 190) dX12_worksAlone_113 (by decide) ?_
  refine b_sub [(0, .ref (ad B x0)), (1, .int x1), (2, .int x2)] [0, 1, 2] rfl ?_
  exact tX12_worksAlone_190 C hr hlocks hf
set_option maxRecDepth 100000 in
def fX12_worksAlone_J108 (N : Nat) (g : Gs) (x0 : Nat) (x1 : Int32) (x2 : Int32) (y6 : Int32) (z0 : Int32) (z1 : Int32) (z2 : Nat) (d : Ds) : Option (Int32 × Ds) := gd (chk g z2 11) <| cv (fX12_begin N g z2 z1 z0 y6 d) fun d25 => (fX12_worksAlone_J113 N g x0 x1 x2 d25)
set_option maxHeartbeats 4000000 in
set_option maxRecDepth 100000 in
theorem tX12_worksAlone_108 {p : Program} {l : Launch} {e : Env} {s : State} {m : MethodId} {args : Array Value} {below : List Frame} {meth : Method} {c : Code} {D : va_G} {cy : Nat → ClassId} {B : Bs} (C : Cx p s m args c cX12_worksAlone 8 RX12 D cy B) (hr : meth.sig.returnType = (some .boolean)) (hlocks : meth.locks = false) {N : Nat} {g : Gs} {x0 : Nat} {x1 : Int32} {x2 : Int32} {vz : Int32} {dz : Ds} {y6 : Int32} {z0 : Int32} {z1 : Int32} {z2 : Nat} {d : Ds} (hf : fX12_worksAlone_J108 N g x0 x1 x2 y6 z0 z1 z2 d = some (vz, dz)) : WB p l e rmX12_worksAlone s m args below meth c 8 D cy B 0 0 (MQ below (QI D cy B vz g dz) args s 0 0 (wA B)) g d [(0, .ref (ad B x0)), (1, .int x1), (2, .int x2), (6, .int y6)] 108 [.int z0, .int z1, .ref (ad B z2)] := by
  unfold fX12_worksAlone_J108 at hf
  refine b_iload C dX12_worksAlone_108 3 rfl ?_
  obtain ⟨h24, hf⟩ := gd_s hf
  obtain ⟨d25, k26, hf⟩ := cv_s hf
  refine b_cVN C [] dX12_worksAlone_110 (kX12_begin l D cy B k26) lv_X12_278 ⟨rfl, rfl, Nat.le_of_ble_eq_true rfl, Nat.le_of_ble_eq_true rfl⟩ h24 (by decide) rfl (Nat.le_of_ble_eq_true rfl) ⟨Nat.zero_le _, Nat.zero_le _⟩ rfl ?_
  refine b_sub [(0, .ref (ad B x0)), (1, .int x1), (2, .int x2)] [0, 1, 2] rfl ?_
  exact tX12_worksAlone_113 C hr hlocks hf
set_option maxRecDepth 100000 in
def fX12_worksAlone_J58 (N : Nat) (g : Gs) (x0 : Nat) (x1 : Int32) (x2 : Int32) (y4 : Int32) (y5 : Int32) (y6 : Int32) (d : Ds) : Option (Int32 × Ds) := gd (chk g x0 11) <| cb (fX12_heldOrTapped N g x0 x1 x2 d) fun u18 d16 => (if 0 ≤ u18 then (cv (fX12_drops N g x0 0 d16) fun d20 => (if u18 = 0 then (cv (fX12_begin N g x0 x1 0 y5 d20) fun d30 => (fX12_worksAlone_J113 N g x0 x1 x2 d30)) else (if y4 = (6 : Int32) then (fX12_worksAlone_J108 N g x0 x1 x2 y6 2 x1 x0 d20) else (fX12_worksAlone_J108 N g x0 x1 x2 y6 1 x1 x0 d20)))) else (some (0, d16)))
set_option maxHeartbeats 4000000 in
set_option maxRecDepth 100000 in
theorem tX12_worksAlone_58 {p : Program} {l : Launch} {e : Env} {s : State} {m : MethodId} {args : Array Value} {below : List Frame} {meth : Method} {c : Code} {D : va_G} {cy : Nat → ClassId} {B : Bs} (C : Cx p s m args c cX12_worksAlone 8 RX12 D cy B) (hr : meth.sig.returnType = (some .boolean)) (hlocks : meth.locks = false) {N : Nat} {g : Gs} {x0 : Nat} {x1 : Int32} {x2 : Int32} {vz : Int32} {dz : Ds} {y4 : Int32} {y5 : Int32} {y6 : Int32} {d : Ds} (hf : fX12_worksAlone_J58 N g x0 x1 x2 y4 y5 y6 d = some (vz, dz)) : WB p l e rmX12_worksAlone s m args below meth c 8 D cy B 0 0 (MQ below (QI D cy B vz g dz) args s 0 0 (wA B)) g d [(0, .ref (ad B x0)), (1, .int x1), (2, .int x2), (4, .int y4), (5, .int y5), (6, .int y6)] 58 [] := by
  unfold fX12_worksAlone_J58 at hf
  refine b_aload_n C dX12_worksAlone_58 0 rfl rfl ?_
  refine b_iload_n C dX12_worksAlone_59 1 rfl rfl ?_
  refine b_iload_n C dX12_worksAlone_60 2 rfl rfl ?_
  obtain ⟨h15, hf⟩ := gd_s hf
  obtain ⟨u18, d16, k17, hf⟩ := cb_s hf
  refine b_cVI C [] dX12_worksAlone_61 (kX12_heldOrTapped l D cy B k17) lv_X12_275 ⟨rfl, rfl, Nat.le_of_ble_eq_true rfl, Nat.le_of_ble_eq_true rfl⟩ h15 (by decide) rfl (Nat.le_of_ble_eq_true rfl) ⟨Nat.zero_le _, Nat.zero_le _⟩ rfl ?_
  refine b_istore C dX12_worksAlone_64 [(7, .int u18), (0, .ref (ad B x0)), (1, .int x1), (2, .int x2), (4, .int y4), (5, .int y5), (6, .int y6)] (by decide) rfl ?_
  refine b_iload C dX12_worksAlone_66 0 rfl ?_
  refine b_if_ge C (tgt := 73) dX12_worksAlone_68 (by decide) (fun c19 => ?_) (fun c19 => ?_)
  · have hf := it_s c19 hf
    refine b_aload_n C dX12_worksAlone_73 1 rfl rfl ?_
    refine b_iconst C (v := 0) dX12_worksAlone_74 (by decide) ?_
    obtain ⟨d20, k21, hf⟩ := cv_s hf
    refine b_cVN C [] dX12_worksAlone_75 (kX12_drops l D cy B k21) lv_X12_250 ⟨rfl, rfl, Nat.le_of_ble_eq_true rfl, Nat.le_of_ble_eq_true rfl⟩ h15 (by decide) rfl (Nat.le_of_ble_eq_true rfl) ⟨Nat.zero_le _, Nat.zero_le _⟩ rfl ?_
    refine b_iload C dX12_worksAlone_78 0 rfl ?_
    refine b_if_ne C (tgt := 94) dX12_worksAlone_80 (by decide) (fun c22 => ?_) (fun c22 => ?_)
    · have hf := if_s c22 hf
      refine b_aload_n C dX12_worksAlone_94 1 rfl rfl ?_
      refine b_iload_n C dX12_worksAlone_95 2 rfl rfl ?_
      refine b_iload C dX12_worksAlone_96 4 rfl ?_
      refine b_bipush C (v := 6) dX12_worksAlone_98 (by decide) ?_
      refine b_icmp_ne C (tgt := 107) dX12_worksAlone_100 (by decide) (fun c23 => ?_) (fun c23 => ?_)
      · have hf := if_s c23 hf
        refine b_iconst C (v := 1) dX12_worksAlone_107 (by decide) ?_
        refine b_sub [(0, .ref (ad B x0)), (1, .int x1), (2, .int x2), (6, .int y6)] [1, 2, 3, 6] rfl ?_
        exact tX12_worksAlone_108 C hr hlocks hf
      · have hf := it_s c23 hf
        refine b_iconst C (v := 2) dX12_worksAlone_103 (by decide) ?_
        refine b_goto C (tgt := 108) dX12_worksAlone_104 (by decide) ?_
        refine b_sub [(0, .ref (ad B x0)), (1, .int x1), (2, .int x2), (6, .int y6)] [1, 2, 3, 6] rfl ?_
        exact tX12_worksAlone_108 C hr hlocks hf
    · have hf := it_s c22 hf
      refine b_aload_n C dX12_worksAlone_83 1 rfl rfl ?_
      refine b_iload_n C dX12_worksAlone_84 2 rfl rfl ?_
      refine b_iconst C (v := 0) dX12_worksAlone_85 (by decide) ?_
      refine b_iload C dX12_worksAlone_86 5 rfl ?_
      obtain ⟨d30, k31, hf⟩ := cv_s hf
      refine b_cVN C [] dX12_worksAlone_88 (kX12_begin l D cy B k31) lv_X12_278 ⟨rfl, rfl, Nat.le_of_ble_eq_true rfl, Nat.le_of_ble_eq_true rfl⟩ h15 (by decide) rfl (Nat.le_of_ble_eq_true rfl) ⟨Nat.zero_le _, Nat.zero_le _⟩ rfl ?_
      refine b_goto C (tgt := 113) dX12_worksAlone_91 (by decide) ?_
      refine b_sub [(0, .ref (ad B x0)), (1, .int x1), (2, .int x2)] [1, 2, 3] rfl ?_
      exact tX12_worksAlone_113 C hr hlocks hf
  · have hf := if_s c19 hf
    refine b_iconst C (v := 0) dX12_worksAlone_71 (by decide) ?_
    exact b_zret C hr hlocks (by decide) hf dX12_worksAlone_72
set_option maxRecDepth 100000 in
def fX12_worksAlone_J170 (N : Nat) (g : Gs) (x0 : Nat) (x1 : Int32) (x2 : Int32) (z0 : Int32) (z1 : Int32) (z2 : Int32) (z3 : Nat) (d : Ds) : Option (Int32 × Ds) := gd (chk g z3 11) <| cv (fX12_begin N g z3 z2 z1 z0 d) fun d47 => (fX12_worksAlone_J190 N g x0 x1 x2 d47)
set_option maxHeartbeats 4000000 in
set_option maxRecDepth 100000 in
theorem tX12_worksAlone_170 {p : Program} {l : Launch} {e : Env} {s : State} {m : MethodId} {args : Array Value} {below : List Frame} {meth : Method} {c : Code} {D : va_G} {cy : Nat → ClassId} {B : Bs} (C : Cx p s m args c cX12_worksAlone 8 RX12 D cy B) (hr : meth.sig.returnType = (some .boolean)) (hlocks : meth.locks = false) {N : Nat} {g : Gs} {x0 : Nat} {x1 : Int32} {x2 : Int32} {vz : Int32} {dz : Ds} {z0 : Int32} {z1 : Int32} {z2 : Int32} {z3 : Nat} {d : Ds} (hf : fX12_worksAlone_J170 N g x0 x1 x2 z0 z1 z2 z3 d = some (vz, dz)) : WB p l e rmX12_worksAlone s m args below meth c 8 D cy B 0 0 (MQ below (QI D cy B vz g dz) args s 0 0 (wA B)) g d [(0, .ref (ad B x0)), (1, .int x1), (2, .int x2)] 170 [.int z0, .int z1, .int z2, .ref (ad B z3)] := by
  unfold fX12_worksAlone_J170 at hf
  obtain ⟨h46, hf⟩ := gd_s hf
  obtain ⟨d47, k48, hf⟩ := cv_s hf
  refine b_cVN C [] dX12_worksAlone_170 (kX12_begin l D cy B k48) lv_X12_278 ⟨rfl, rfl, Nat.le_of_ble_eq_true rfl, Nat.le_of_ble_eq_true rfl⟩ h46 (by decide) rfl (Nat.le_of_ble_eq_true rfl) ⟨Nat.zero_le _, Nat.zero_le _⟩ rfl ?_
  refine b_goto C (tgt := 190) dX12_worksAlone_173 (by decide) ?_
  refine b_sub [(0, .ref (ad B x0)), (1, .int x1), (2, .int x2)] [0, 1, 2] rfl ?_
  exact tX12_worksAlone_190 C hr hlocks hf
set_option maxRecDepth 100000 in
def fX12_worksAlone_J154 (N : Nat) (g : Gs) (x0 : Nat) (x1 : Int32) (x2 : Int32) (y5 : Int32) (y6 : Int32) (y7 : Int32) (d : Ds) : Option (Int32 × Ds) := if y7 = (1 : Int32) then (fX12_worksAlone_J170 N g x0 x1 x2 y6 0 x1 x0 d) else (fX12_worksAlone_J170 N g x0 x1 x2 y5 0 x1 x0 d)
set_option maxHeartbeats 4000000 in
set_option maxRecDepth 100000 in
theorem tX12_worksAlone_154 {p : Program} {l : Launch} {e : Env} {s : State} {m : MethodId} {args : Array Value} {below : List Frame} {meth : Method} {c : Code} {D : va_G} {cy : Nat → ClassId} {B : Bs} (C : Cx p s m args c cX12_worksAlone 8 RX12 D cy B) (hr : meth.sig.returnType = (some .boolean)) (hlocks : meth.locks = false) {N : Nat} {g : Gs} {x0 : Nat} {x1 : Int32} {x2 : Int32} {vz : Int32} {dz : Ds} {y5 : Int32} {y6 : Int32} {y7 : Int32} {d : Ds} (hf : fX12_worksAlone_J154 N g x0 x1 x2 y5 y6 y7 d = some (vz, dz)) : WB p l e rmX12_worksAlone s m args below meth c 8 D cy B 0 0 (MQ below (QI D cy B vz g dz) args s 0 0 (wA B)) g d [(0, .ref (ad B x0)), (1, .int x1), (2, .int x2), (5, .int y5), (6, .int y6), (7, .int y7)] 154 [] := by
  unfold fX12_worksAlone_J154 at hf
  refine b_aload_n C dX12_worksAlone_154 0 rfl rfl ?_
  refine b_iload_n C dX12_worksAlone_155 1 rfl rfl ?_
  refine b_iconst C (v := 0) dX12_worksAlone_156 (by decide) ?_
  refine b_iload C dX12_worksAlone_157 5 rfl ?_
  refine b_iconst C (v := 1) dX12_worksAlone_159 (by decide) ?_
  refine b_icmp_ne C (tgt := 168) dX12_worksAlone_160 (by decide) (fun c45 => ?_) (fun c45 => ?_)
  · have hf := if_s c45 hf
    refine b_iload C dX12_worksAlone_168 3 rfl ?_
    refine b_sub [(0, .ref (ad B x0)), (1, .int x1), (2, .int x2)] [0, 1, 2] rfl ?_
    exact tX12_worksAlone_170 C hr hlocks hf
  · have hf := it_s c45 hf
    refine b_iload C dX12_worksAlone_163 4 rfl ?_
    refine b_goto C (tgt := 170) dX12_worksAlone_165 (by decide) ?_
    refine b_sub [(0, .ref (ad B x0)), (1, .int x1), (2, .int x2)] [0, 1, 2] rfl ?_
    exact tX12_worksAlone_170 C hr hlocks hf
set_option maxRecDepth 100000 in
def fX12_worksAlone (N : Nat) (g : Gs) (x0 : Nat) (x1 : Int32) (x2 : Int32) (d : Ds) : Option (Int32 × Ds) := gd (chk g x0 11) <| cb (fX12_layerOf N g x0 x1 d) fun u4 d2 => (bd (((12 : Int32) + ((3 : Int32) * (((24 : Int32) * u4) + x1)))) fun u5 => (ob (gR g x0 17) fun r6 => (gd (chk g r6 102) <| gd (¬ (u5 < 0 ∨ gL g r6 ≤ u5.toNatClampNeg)) <| bd ((dI d2 r6 u5.toNatClampNeg)) fun u9 => (gd (¬ ((u5 + 1) < 0 ∨ gL g r6 ≤ (u5 + 1).toNatClampNeg)) <| bd ((dI d2 r6 (u5 + 1).toNatClampNeg)) fun u11 => (gd (¬ ((u5 + 2) < 0 ∨ gL g r6 ≤ (u5 + 2).toNatClampNeg)) <| bd ((dI d2 r6 (u5 + 2).toNatClampNeg)) fun u13 => (if u9 = (6 : Int32) then (fX12_worksAlone_J58 N g x0 x1 x2 u9 u11 u13 d2) else (if u9 = (7 : Int32) then (fX12_worksAlone_J58 N g x0 x1 x2 u9 u11 u13 d2) else (if u9 = (8 : Int32) then (cb (fX12_onceOrTwice N g x0 x1 x2 d2) fun u40 d38 => (if 0 ≤ u40 then (cv (fX12_drops N g x0 0 d38) fun d42 => (if u40 = (1 : Int32) then (cv (fX12_dropsTwo N g x0 x1 d42) fun d49 => (fX12_worksAlone_J154 N g x0 x1 x2 u11 u13 u40 d49)) else (fX12_worksAlone_J154 N g x0 x1 x2 u11 u13 u40 d42))) else (some (0, d38)))) else (cv (fX12_drops N g x0 0 d2) fun d34 => (cv (fX12_doesPlainly N g x0 x1 u9 u11 d34) fun d36 => (fX12_worksAlone_J190 N g x0 x1 x2 d36)))))))))))
set_option maxHeartbeats 4000000 in
set_option maxRecDepth 100000 in
theorem tX12_worksAlone_E {p : Program} {l : Launch} {e : Env} {s : State} {m : MethodId} {args : Array Value} {below : List Frame} {meth : Method} {c : Code} {D : va_G} {cy : Nat → ClassId} {B : Bs} (C : Cx p s m args c cX12_worksAlone 8 RX12 D cy B) (hr : meth.sig.returnType = (some .boolean)) (hlocks : meth.locks = false) {N : Nat} {g : Gs} {x0 : Nat} {x1 : Int32} {x2 : Int32} {vz : Int32} {dz : Ds} {d : Ds} (hf : fX12_worksAlone N g x0 x1 x2 d = some (vz, dz)) : WB p l e rmX12_worksAlone s m args below meth c 8 D cy B 0 0 (MQ below (QI D cy B vz g dz) args s 0 0 (wA B)) g d [(0, .ref (ad B x0)), (1, .int x1), (2, .int x2)] 0 [] := by
  unfold fX12_worksAlone at hf
  refine b_bipush C (v := 12) dX12_worksAlone_0 (by decide) ?_
  refine b_iconst C (v := 3) dX12_worksAlone_2 (by decide) ?_
  refine b_bipush C (v := 24) dX12_worksAlone_3 (by decide) ?_
  refine b_aload_n C dX12_worksAlone_5 0 rfl rfl ?_
  refine b_iload_n C dX12_worksAlone_6 1 rfl rfl ?_
  obtain ⟨h1, hf⟩ := gd_s hf
  obtain ⟨u4, d2, k3, hf⟩ := cb_s hf
  refine b_cVI C [.int 24, .int 3, .int 12] dX12_worksAlone_7 (kX12_layerOf l D cy B k3) lv_X12_272 ⟨rfl, rfl, Nat.le_of_ble_eq_true rfl, Nat.le_of_ble_eq_true rfl⟩ h1 (by decide) rfl (Nat.le_of_ble_eq_true rfl) ⟨Nat.zero_le _, Nat.zero_le _⟩ rfl ?_
  refine b_imul C dX12_worksAlone_10 ?_
  refine b_iload_n C dX12_worksAlone_11 1 rfl rfl ?_
  refine b_iadd C dX12_worksAlone_12 ?_
  refine b_imul C dX12_worksAlone_13 ?_
  refine b_iadd C dX12_worksAlone_14 ?_
  obtain ⟨u5, eu5, hf⟩ := bd_s hf
  refine b_topI eu5 ?_
  refine b_istore_n C dX12_worksAlone_15 rfl [(3, .int u5), (0, .ref (ad B x0)), (1, .int x1), (2, .int x2)] (by decide) rfl ?_
  refine b_aload_n C dX12_worksAlone_16 1 rfl rfl ?_
  obtain ⟨r6, er6, hf⟩ := ob_s hf
  refine b_gR C dX12_worksAlone_17 fl_X12_40 h1 er6 ?_
  refine b_iload_n C dX12_worksAlone_20 0 rfl rfl ?_
  obtain ⟨h7, hf⟩ := gd_s hf
  obtain ⟨h8, hf⟩ := gd_s hf
  refine b_iald C h7 h8 dX12_worksAlone_21 ?_
  obtain ⟨u9, eu9, hf⟩ := bd_s hf
  refine b_topI eu9 ?_
  refine b_istore C dX12_worksAlone_22 [(4, .int u9), (3, .int u5), (0, .ref (ad B x0)), (1, .int x1), (2, .int x2)] (by decide) rfl ?_
  refine b_aload_n C dX12_worksAlone_24 2 rfl rfl ?_
  refine b_gR C dX12_worksAlone_25 fl_X12_40 h1 er6 ?_
  refine b_iload_n C dX12_worksAlone_28 1 rfl rfl ?_
  refine b_iconst C (v := 1) dX12_worksAlone_29 (by decide) ?_
  refine b_iadd C dX12_worksAlone_30 ?_
  obtain ⟨h10, hf⟩ := gd_s hf
  refine b_iald C h7 h10 dX12_worksAlone_31 ?_
  obtain ⟨u11, eu11, hf⟩ := bd_s hf
  refine b_topI eu11 ?_
  refine b_istore C dX12_worksAlone_32 [(5, .int u11), (4, .int u9), (3, .int u5), (0, .ref (ad B x0)), (1, .int x1), (2, .int x2)] (by decide) rfl ?_
  refine b_aload_n C dX12_worksAlone_34 3 rfl rfl ?_
  refine b_gR C dX12_worksAlone_35 fl_X12_40 h1 er6 ?_
  refine b_iload_n C dX12_worksAlone_38 2 rfl rfl ?_
  refine b_iconst C (v := 2) dX12_worksAlone_39 (by decide) ?_
  refine b_iadd C dX12_worksAlone_40 ?_
  obtain ⟨h12, hf⟩ := gd_s hf
  refine b_iald C h7 h12 dX12_worksAlone_41 ?_
  obtain ⟨u13, eu13, hf⟩ := bd_s hf
  refine b_topI eu13 ?_
  refine b_istore C dX12_worksAlone_42 [(6, .int u13), (5, .int u11), (4, .int u9), (3, .int u5), (0, .ref (ad B x0)), (1, .int x1), (2, .int x2)] (by decide) rfl ?_
  refine b_iload C dX12_worksAlone_44 2 rfl ?_
  refine b_bipush C (v := 6) dX12_worksAlone_46 (by decide) ?_
  refine b_icmp_eq C (tgt := 58) dX12_worksAlone_48 (by decide) (fun c14 => ?_) (fun c14 => ?_)
  · have hf := it_s c14 hf
    refine b_sub [(0, .ref (ad B x0)), (1, .int x1), (2, .int x2), (4, .int u9), (5, .int u11), (6, .int u13)] [4, 5, 6, 2, 1, 0] rfl ?_
    exact tX12_worksAlone_58 C hr hlocks hf
  · have hf := if_s c14 hf
    refine b_iload C dX12_worksAlone_51 2 rfl ?_
    refine b_bipush C (v := 7) dX12_worksAlone_53 (by decide) ?_
    refine b_icmp_ne C (tgt := 116) dX12_worksAlone_55 (by decide) (fun c32 => ?_) (fun c32 => ?_)
    · have hf := if_s c32 hf
      refine b_iload C dX12_worksAlone_116 2 rfl ?_
      refine b_bipush C (v := 8) dX12_worksAlone_118 (by decide) ?_
      refine b_icmp_ne C (tgt := 176) dX12_worksAlone_120 (by decide) (fun c33 => ?_) (fun c33 => ?_)
      · have hf := if_s c33 hf
        refine b_aload_n C dX12_worksAlone_176 4 rfl rfl ?_
        refine b_iconst C (v := 0) dX12_worksAlone_177 (by decide) ?_
        obtain ⟨d34, k35, hf⟩ := cv_s hf
        refine b_cVN C [] dX12_worksAlone_178 (kX12_drops l D cy B k35) lv_X12_250 ⟨rfl, rfl, Nat.le_of_ble_eq_true rfl, Nat.le_of_ble_eq_true rfl⟩ h1 (by decide) rfl (Nat.le_of_ble_eq_true rfl) ⟨Nat.zero_le _, Nat.zero_le _⟩ rfl ?_
        refine b_aload_n C dX12_worksAlone_181 4 rfl rfl ?_
        refine b_iload_n C dX12_worksAlone_182 5 rfl rfl ?_
        refine b_iload C dX12_worksAlone_183 2 rfl ?_
        refine b_iload C dX12_worksAlone_185 1 rfl ?_
        obtain ⟨d36, k37, hf⟩ := cv_s hf
        refine b_cVN C [] dX12_worksAlone_187 (kX12_doesPlainly l D cy B k37) lv_X12_287 ⟨rfl, rfl, Nat.le_of_ble_eq_true rfl, Nat.le_of_ble_eq_true rfl⟩ h1 (by decide) rfl (Nat.le_of_ble_eq_true rfl) ⟨Nat.zero_le _, Nat.zero_le _⟩ rfl ?_
        refine b_sub [(0, .ref (ad B x0)), (1, .int x1), (2, .int x2)] [4, 5, 6] rfl ?_
        exact tX12_worksAlone_190 C hr hlocks hf
      · have hf := it_s c33 hf
        refine b_aload_n C dX12_worksAlone_123 4 rfl rfl ?_
        refine b_iload_n C dX12_worksAlone_124 5 rfl rfl ?_
        refine b_iload_n C dX12_worksAlone_125 6 rfl rfl ?_
        obtain ⟨u40, d38, k39, hf⟩ := cb_s hf
        refine b_cVI C [] dX12_worksAlone_126 (kX12_onceOrTwice l D cy B k39) lv_X12_281 ⟨rfl, rfl, Nat.le_of_ble_eq_true rfl, Nat.le_of_ble_eq_true rfl⟩ h1 (by decide) rfl (Nat.le_of_ble_eq_true rfl) ⟨Nat.zero_le _, Nat.zero_le _⟩ rfl ?_
        refine b_istore C dX12_worksAlone_129 [(7, .int u40), (6, .int u13), (5, .int u11), (4, .int u9), (3, .int u5), (0, .ref (ad B x0)), (1, .int x1), (2, .int x2)] (by decide) rfl ?_
        refine b_iload C dX12_worksAlone_131 0 rfl ?_
        refine b_if_ge C (tgt := 138) dX12_worksAlone_133 (by decide) (fun c41 => ?_) (fun c41 => ?_)
        · have hf := it_s c41 hf
          refine b_aload_n C dX12_worksAlone_138 5 rfl rfl ?_
          refine b_iconst C (v := 0) dX12_worksAlone_139 (by decide) ?_
          obtain ⟨d42, k43, hf⟩ := cv_s hf
          refine b_cVN C [] dX12_worksAlone_140 (kX12_drops l D cy B k43) lv_X12_250 ⟨rfl, rfl, Nat.le_of_ble_eq_true rfl, Nat.le_of_ble_eq_true rfl⟩ h1 (by decide) rfl (Nat.le_of_ble_eq_true rfl) ⟨Nat.zero_le _, Nat.zero_le _⟩ rfl ?_
          refine b_iload C dX12_worksAlone_143 0 rfl ?_
          refine b_iconst C (v := 1) dX12_worksAlone_145 (by decide) ?_
          refine b_icmp_ne C (tgt := 154) dX12_worksAlone_146 (by decide) (fun c44 => ?_) (fun c44 => ?_)
          · have hf := if_s c44 hf
            refine b_sub [(0, .ref (ad B x0)), (1, .int x1), (2, .int x2), (5, .int u11), (6, .int u13), (7, .int u40)] [5, 6, 7, 2, 1, 0] rfl ?_
            exact tX12_worksAlone_154 C hr hlocks hf
          · have hf := it_s c44 hf
            refine b_aload_n C dX12_worksAlone_149 5 rfl rfl ?_
            refine b_iload_n C dX12_worksAlone_150 6 rfl rfl ?_
            obtain ⟨d49, k50, hf⟩ := cv_s hf
            refine b_cVN C [] dX12_worksAlone_151 (kX12_dropsTwo l D cy B k50) lv_X12_284 ⟨rfl, rfl, Nat.le_of_ble_eq_true rfl, Nat.le_of_ble_eq_true rfl⟩ h1 (by decide) rfl (Nat.le_of_ble_eq_true rfl) ⟨Nat.zero_le _, Nat.zero_le _⟩ rfl ?_
            refine b_sub [(0, .ref (ad B x0)), (1, .int x1), (2, .int x2), (5, .int u11), (6, .int u13), (7, .int u40)] [5, 6, 7, 2, 1, 0] rfl ?_
            exact tX12_worksAlone_154 C hr hlocks hf
        · have hf := if_s c41 hf
          refine b_iconst C (v := 0) dX12_worksAlone_136 (by decide) ?_
          exact b_zret C hr hlocks (by decide) hf dX12_worksAlone_137
    · have hf := it_s c32 hf
      refine b_sub [(0, .ref (ad B x0)), (1, .int x1), (2, .int x2), (4, .int u9), (5, .int u11), (6, .int u13)] [4, 5, 6, 2, 1, 0] rfl ?_
      exact tX12_worksAlone_58 C hr hlocks hf
theorem kX12_worksAlone (l : Launch) (D : va_G) (cy : Nat → ClassId) (B : Bs) {N : Nat} {g : Gs} {x0 : Nat} {x1 : Int32} {x2 : Int32} {vz : Int32} {dz : Ds} {d : Ds} (hf : fX12_worksAlone N g x0 x1 x2 d = some (vz, dz)) : Met l yX12_worksAlone (.code yX12_worksAlone cX12_worksAlone 8 (some .boolean) :: wl) rmX12_worksAlone (PC D cy B [.ref (ad B x0), .int x1, .int x2] g d) (QI D cy B vz g dz) 0 0 (wA B) :=
  met_of (by decide +kernel) (Nat.le_of_ble_eq_true rfl) (fun p e s m args below meth c C hr hlocks _ => b_sub [(0, .ref (ad B x0)), (1, .int x1), (2, .int x2)] [0, 1, 2] rfl (tX12_worksAlone_E C hr hlocks hf))
/-! KeyMatrixModel.works()Z -/
theorem yo_X12_worksAlone : yX12_worksAlone.cls ≠ "java/lang/invoke/MethodHandle" ∧ yX12_worksAlone.cls ≠ "java/lang/invoke/VarHandle" ∧ (parseMethodDescriptor yX12_worksAlone.desc).map (fun d => d.parameters.length) = some 2 := by decide +kernel
theorem co_X12_worksAlone : Cond.code yX12_worksAlone cX12_worksAlone 8 (some .boolean) ∈ wl := mW (mT6 (List.mem_of_getElem? (i := 203) (by decide +kernel))) rfl
theorem in_X12_worksAlone : Cond.initialized yX12_worksAlone.cls ∈ wl := mW (mT1 (List.mem_of_getElem? (i := 12) (by decide +kernel))) rfl
theorem im_X12_worksAlone : Cond.instanceMethod yX12_worksAlone ∈ wl := mW (mT6 (List.mem_of_getElem? (i := 202) (by decide +kernel))) rfl
theorem se_X12_worksAlone : Cond.selects yX12_worksAlone.cls yX12_worksAlone yX12_worksAlone ∈ wl := mW (mT0 (List.mem_of_getElem? (i := 82) (by decide +kernel))) rfl
theorem lv_X12_269 : LV RX12 269 yX12_worksAlone cX12_worksAlone 8 (some .boolean) 2 11 := ⟨⟨(RX12, TX12, 33), rfl, rfl⟩, yo_X12_worksAlone, mW (mT6 (List.mem_of_getElem? (i := 200) (by decide +kernel))) rfl, im_X12_worksAlone, se_X12_worksAlone, in_X12_worksAlone, co_X12_worksAlone⟩
theorem yo_X12_chords : yX12_chords.cls ≠ "java/lang/invoke/MethodHandle" ∧ yX12_chords.cls ≠ "java/lang/invoke/VarHandle" ∧ (parseMethodDescriptor yX12_chords.desc).map (fun d => d.parameters.length) = some 3 := by decide +kernel
theorem co_X12_chords : Cond.code yX12_chords cX12_chords 6 none ∈ wl := mW (mT6 (List.mem_of_getElem? (i := 191) (by decide +kernel))) rfl
theorem in_X12_chords : Cond.initialized yX12_chords.cls ∈ wl := mW (mT1 (List.mem_of_getElem? (i := 12) (by decide +kernel))) rfl
theorem im_X12_chords : Cond.instanceMethod yX12_chords ∈ wl := mW (mT6 (List.mem_of_getElem? (i := 190) (by decide +kernel))) rfl
theorem se_X12_chords : Cond.selects yX12_chords.cls yX12_chords yX12_chords ∈ wl := mW (mT0 (List.mem_of_getElem? (i := 79) (by decide +kernel))) rfl
theorem lv_X12_265 : LV RX12 265 yX12_chords cX12_chords 6 none 3 11 := ⟨⟨(RX12, TX12, 33), rfl, rfl⟩, yo_X12_chords, mW (mT6 (List.mem_of_getElem? (i := 188) (by decide +kernel))) rfl, im_X12_chords, se_X12_chords, in_X12_chords, co_X12_chords⟩
theorem yo_X12_ends : yX12_ends.cls ≠ "java/lang/invoke/MethodHandle" ∧ yX12_ends.cls ≠ "java/lang/invoke/VarHandle" ∧ (parseMethodDescriptor yX12_ends.desc).map (fun d => d.parameters.length) = some 1 := by decide +kernel
theorem co_X12_ends : Cond.code yX12_ends cX12_ends 3 none ∈ wl := mW (mT6 (List.mem_of_getElem? (i := 143) (by decide +kernel))) rfl
theorem in_X12_ends : Cond.initialized yX12_ends.cls ∈ wl := mW (mT1 (List.mem_of_getElem? (i := 12) (by decide +kernel))) rfl
theorem im_X12_ends : Cond.instanceMethod yX12_ends ∈ wl := mW (mT6 (List.mem_of_getElem? (i := 142) (by decide +kernel))) rfl
theorem se_X12_ends : Cond.selects yX12_ends.cls yX12_ends yX12_ends ∈ wl := mW (mT0 (List.mem_of_getElem? (i := 67) (by decide +kernel))) rfl
theorem lv_X12_253 : LV RX12 253 yX12_ends cX12_ends 3 none 1 11 := ⟨⟨(RX12, TX12, 33), rfl, rfl⟩, yo_X12_ends, mW (mT6 (List.mem_of_getElem? (i := 140) (by decide +kernel))) rfl, im_X12_ends, se_X12_ends, in_X12_ends, co_X12_ends⟩
theorem dX12_works_0 : decode cX12_works 0 = .ok (.aload_n 0, 1) := by decide +kernel
theorem dX12_works_1 : decode cX12_works 1 = .ok (.iconst 0, 1) := by decide +kernel
theorem dX12_works_2 : decode cX12_works 2 = .ok (.invokevirtual 244, 3) := by decide +kernel
theorem dX12_works_5 : decode cX12_works 5 = .ok (.istore_n 1, 1) := by decide +kernel
theorem dX12_works_6 : decode cX12_works 6 = .ok (.aload_n 0, 1) := by decide +kernel
theorem dX12_works_7 : decode cX12_works 7 = .ok (.iconst 0, 1) := by decide +kernel
theorem dX12_works_8 : decode cX12_works 8 = .ok (.invokevirtual 247, 3) := by decide +kernel
theorem dX12_works_11 : decode cX12_works 11 = .ok (.ifCond .ne 19, 3) := by decide +kernel
theorem dX12_works_14 : decode cX12_works 14 = .ok (.aload_n 0, 1) := by decide +kernel
theorem dX12_works_15 : decode cX12_works 15 = .ok (.iconst 0, 1) := by decide +kernel
theorem dX12_works_16 : decode cX12_works 16 = .ok (.invokevirtual 250, 3) := by decide +kernel
theorem dX12_works_19 : decode cX12_works 19 = .ok (.aload_n 0, 1) := by decide +kernel
theorem dX12_works_20 : decode cX12_works 20 = .ok (.iload_n 1, 1) := by decide +kernel
theorem dX12_works_21 : decode cX12_works 21 = .ok (.invokevirtual 253, 3) := by decide +kernel
theorem dX12_works_24 : decode cX12_works 24 = .ok (.aload_n 0, 1) := by decide +kernel
theorem dX12_works_25 : decode cX12_works 25 = .ok (.invokevirtual 256, 3) := by decide +kernel
theorem dX12_works_28 : decode cX12_works 28 = .ok (.iconst 1, 1) := by decide +kernel
theorem dX12_works_29 : decode cX12_works 29 = .ok (.ireturn, 1) := by decide +kernel
theorem dX12_works_30 : decode cX12_works 30 = .ok (.aload_n 0, 1) := by decide +kernel
theorem dX12_works_31 : decode cX12_works 31 = .ok (.iconst 0, 1) := by decide +kernel
theorem dX12_works_32 : decode cX12_works 32 = .ok (.invokevirtual 259, 3) := by decide +kernel
theorem dX12_works_35 : decode cX12_works 35 = .ok (.istore_n 2, 1) := by decide +kernel
theorem dX12_works_36 : decode cX12_works 36 = .ok (.aload_n 0, 1) := by decide +kernel
theorem dX12_works_37 : decode cX12_works 37 = .ok (.iload_n 1, 1) := by decide +kernel
theorem dX12_works_38 : decode cX12_works 38 = .ok (.invokevirtual 262, 3) := by decide +kernel
theorem dX12_works_41 : decode cX12_works 41 = .ok (.istore_n 3, 1) := by decide +kernel
theorem dX12_works_42 : decode cX12_works 42 = .ok (.iload_n 3, 1) := by decide +kernel
theorem dX12_works_43 : decode cX12_works 43 = .ok (.ifCond .lt 136, 3) := by decide +kernel
theorem dX12_works_46 : decode cX12_works 46 = .ok (.aload_n 0, 1) := by decide +kernel
theorem dX12_works_47 : decode cX12_works 47 = .ok (.getfield 40, 3) := by decide +kernel
theorem dX12_works_50 : decode cX12_works 50 = .ok (.sipush 300, 3) := by decide +kernel
theorem dX12_works_53 : decode cX12_works 53 = .ok (.iconst 4, 1) := by decide +kernel
theorem dX12_works_54 : decode cX12_works 54 = .ok (.iload_n 3, 1) := by decide +kernel
theorem dX12_works_55 : decode cX12_works 55 = .ok (.imul, 1) := by decide +kernel
theorem dX12_works_56 : decode cX12_works 56 = .ok (.iadd, 1) := by decide +kernel
theorem dX12_works_57 : decode cX12_works 57 = .ok (.iaload, 1) := by decide +kernel
theorem dX12_works_58 : decode cX12_works 58 = .ok (.aload_n 0, 1) := by decide +kernel
theorem dX12_works_59 : decode cX12_works 59 = .ok (.getfield 40, 3) := by decide +kernel
theorem dX12_works_62 : decode cX12_works 62 = .ok (.sipush 300, 3) := by decide +kernel
theorem dX12_works_65 : decode cX12_works 65 = .ok (.iconst 4, 1) := by decide +kernel
theorem dX12_works_66 : decode cX12_works 66 = .ok (.iload_n 3, 1) := by decide +kernel
theorem dX12_works_67 : decode cX12_works 67 = .ok (.imul, 1) := by decide +kernel
theorem dX12_works_68 : decode cX12_works 68 = .ok (.iadd, 1) := by decide +kernel
theorem dX12_works_69 : decode cX12_works 69 = .ok (.iconst 1, 1) := by decide +kernel
theorem dX12_works_70 : decode cX12_works 70 = .ok (.iadd, 1) := by decide +kernel
theorem dX12_works_71 : decode cX12_works 71 = .ok (.iaload, 1) := by decide +kernel
theorem dX12_works_72 : decode cX12_works 72 = .ok (.iadd, 1) := by decide +kernel
theorem dX12_works_73 : decode cX12_works 73 = .ok (.iload_n 1, 1) := by decide +kernel
theorem dX12_works_74 : decode cX12_works 74 = .ok (.isub, 1) := by decide +kernel
theorem dX12_works_75 : decode cX12_works 75 = .ok (.istore 4, 2) := by decide +kernel
theorem dX12_works_77 : decode cX12_works 77 = .ok (.iload_n 2, 1) := by decide +kernel
theorem dX12_works_78 : decode cX12_works 78 = .ok (.aload_n 0, 1) := by decide +kernel
theorem dX12_works_79 : decode cX12_works 79 = .ok (.getfield 40, 3) := by decide +kernel
theorem dX12_works_82 : decode cX12_works 82 = .ok (.bipush 6, 2) := by decide +kernel
theorem dX12_works_84 : decode cX12_works 84 = .ok (.iaload, 1) := by decide +kernel
theorem dX12_works_85 : decode cX12_works 85 = .ok (.iadd, 1) := by decide +kernel
theorem dX12_works_86 : decode cX12_works 86 = .ok (.istore 5, 2) := by decide +kernel
theorem dX12_works_88 : decode cX12_works 88 = .ok (.aload_n 0, 1) := by decide +kernel
theorem dX12_works_89 : decode cX12_works 89 = .ok (.getfield 40, 3) := by decide +kernel
theorem dX12_works_92 : decode cX12_works 92 = .ok (.sipush 557, 3) := by decide +kernel
theorem dX12_works_95 : decode cX12_works 95 = .ok (.iaload, 1) := by decide +kernel
theorem dX12_works_96 : decode cX12_works 96 = .ok (.iconst 1, 1) := by decide +kernel
theorem dX12_works_97 : decode cX12_works 97 = .ok (.if_icmp .ne 18, 3) := by decide +kernel
theorem dX12_works_100 : decode cX12_works 100 = .ok (.aload_n 0, 1) := by decide +kernel
theorem dX12_works_101 : decode cX12_works 101 = .ok (.getfield 40, 3) := by decide +kernel
theorem dX12_works_104 : decode cX12_works 104 = .ok (.sipush 354, 3) := by decide +kernel
theorem dX12_works_107 : decode cX12_works 107 = .ok (.iaload, 1) := by decide +kernel
theorem dX12_works_108 : decode cX12_works 108 = .ok (.iload 5, 2) := by decide +kernel
theorem dX12_works_110 : decode cX12_works 110 = .ok (.if_icmp .ge 5, 3) := by decide +kernel
theorem dX12_works_113 : decode cX12_works 113 = .ok (.iconst 0, 1) := by decide +kernel
theorem dX12_works_114 : decode cX12_works 114 = .ok (.ireturn, 1) := by decide +kernel
theorem dX12_works_115 : decode cX12_works 115 = .ok (.aload_n 0, 1) := by decide +kernel
theorem dX12_works_116 : decode cX12_works 116 = .ok (.getfield 40, 3) := by decide +kernel
theorem dX12_works_119 : decode cX12_works 119 = .ok (.sipush 557, 3) := by decide +kernel
theorem dX12_works_122 : decode cX12_works 122 = .ok (.iaload, 1) := by decide +kernel
theorem dX12_works_123 : decode cX12_works 123 = .ok (.iconst 1, 1) := by decide +kernel
theorem dX12_works_124 : decode cX12_works 124 = .ok (.if_icmp .le 55, 3) := by decide +kernel
theorem dX12_works_127 : decode cX12_works 127 = .ok (.aload_n 0, 1) := by decide +kernel
theorem dX12_works_128 : decode cX12_works 128 = .ok (.iconst 1, 1) := by decide +kernel
theorem dX12_works_129 : decode cX12_works 129 = .ok (.invokevirtual 247, 3) := by decide +kernel
theorem dX12_works_132 : decode cX12_works 132 = .ok (.ifCond .eq 47, 3) := by decide +kernel
theorem dX12_works_135 : decode cX12_works 135 = .ok (.aload_n 0, 1) := by decide +kernel
theorem dX12_works_136 : decode cX12_works 136 = .ok (.iconst 1, 1) := by decide +kernel
theorem dX12_works_137 : decode cX12_works 137 = .ok (.invokevirtual 244, 3) := by decide +kernel
theorem dX12_works_140 : decode cX12_works 140 = .ok (.iload 4, 2) := by decide +kernel
theorem dX12_works_142 : decode cX12_works 142 = .ok (.if_icmp .ne 37, 3) := by decide +kernel
theorem dX12_works_145 : decode cX12_works 145 = .ok (.aload_n 0, 1) := by decide +kernel
theorem dX12_works_146 : decode cX12_works 146 = .ok (.iconst 1, 1) := by decide +kernel
theorem dX12_works_147 : decode cX12_works 147 = .ok (.invokevirtual 259, 3) := by decide +kernel
theorem dX12_works_150 : decode cX12_works 150 = .ok (.iload 5, 2) := by decide +kernel
theorem dX12_works_152 : decode cX12_works 152 = .ok (.if_icmp .ge 27, 3) := by decide +kernel
theorem dX12_works_155 : decode cX12_works 155 = .ok (.aload_n 0, 1) := by decide +kernel
theorem dX12_works_156 : decode cX12_works 156 = .ok (.iconst 0, 1) := by decide +kernel
theorem dX12_works_157 : decode cX12_works 157 = .ok (.invokevirtual 250, 3) := by decide +kernel
theorem dX12_works_160 : decode cX12_works 160 = .ok (.aload_n 0, 1) := by decide +kernel
theorem dX12_works_161 : decode cX12_works 161 = .ok (.iconst 0, 1) := by decide +kernel
theorem dX12_works_162 : decode cX12_works 162 = .ok (.invokevirtual 250, 3) := by decide +kernel
theorem dX12_works_165 : decode cX12_works 165 = .ok (.aload_n 0, 1) := by decide +kernel
theorem dX12_works_166 : decode cX12_works 166 = .ok (.iload_n 3, 1) := by decide +kernel
theorem dX12_works_167 : decode cX12_works 167 = .ok (.iload_n 1, 1) := by decide +kernel
theorem dX12_works_168 : decode cX12_works 168 = .ok (.iload 4, 2) := by decide +kernel
theorem dX12_works_170 : decode cX12_works 170 = .ok (.invokevirtual 265, 3) := by decide +kernel
theorem dX12_works_173 : decode cX12_works 173 = .ok (.aload_n 0, 1) := by decide +kernel
theorem dX12_works_174 : decode cX12_works 174 = .ok (.invokevirtual 256, 3) := by decide +kernel
theorem dX12_works_177 : decode cX12_works 177 = .ok (.iconst 1, 1) := by decide +kernel
theorem dX12_works_178 : decode cX12_works 178 = .ok (.ireturn, 1) := by decide +kernel
theorem dX12_works_179 : decode cX12_works 179 = .ok (.aload_n 0, 1) := by decide +kernel
theorem dX12_works_180 : decode cX12_works 180 = .ok (.iload_n 1, 1) := by decide +kernel
theorem dX12_works_181 : decode cX12_works 181 = .ok (.iload_n 2, 1) := by decide +kernel
theorem dX12_works_182 : decode cX12_works 182 = .ok (.invokevirtual 269, 3) := by decide +kernel
theorem dX12_works_185 : decode cX12_works 185 = .ok (.ireturn, 1) := by decide +kernel
def rmX12_works : Room := { frames := 6, cells := 0, slots := 0, locals := 143 }
set_option maxRecDepth 100000 in
def fX12_works_J179 (N : Nat) (g : Gs) (x0 : Nat) (y1 : Int32) (y2 : Int32) (d : Ds) : Option (Int32 × Ds) := gd (chk g x0 11) <| cb (fX12_worksAlone N g x0 y1 y2 d) fun u19 d17 => (gd (u19 = 0 ∨ u19 = 1) <| some (u19, d17))
set_option maxHeartbeats 4000000 in
set_option maxRecDepth 100000 in
theorem tX12_works_179 {p : Program} {l : Launch} {e : Env} {s : State} {m : MethodId} {args : Array Value} {below : List Frame} {meth : Method} {c : Code} {D : va_G} {cy : Nat → ClassId} {B : Bs} (C : Cx p s m args c cX12_works 6 RX12 D cy B) (hr : meth.sig.returnType = (some .boolean)) (hlocks : meth.locks = false) {N : Nat} {g : Gs} {x0 : Nat} {vz : Int32} {dz : Ds} {y1 : Int32} {y2 : Int32} {d : Ds} (hf : fX12_works_J179 N g x0 y1 y2 d = some (vz, dz)) : WB p l e rmX12_works s m args below meth c 6 D cy B 0 0 (MQ below (QI D cy B vz g dz) args s 0 0 (wA B)) g d [(0, .ref (ad B x0)), (1, .int y1), (2, .int y2)] 179 [] := by
  unfold fX12_works_J179 at hf
  refine b_aload_n C dX12_works_179 0 rfl rfl ?_
  refine b_iload_n C dX12_works_180 1 rfl rfl ?_
  refine b_iload_n C dX12_works_181 2 rfl rfl ?_
  obtain ⟨h16, hf⟩ := gd_s hf
  obtain ⟨u19, d17, k18, hf⟩ := cb_s hf
  refine b_cVI C [] dX12_works_182 (kX12_worksAlone l D cy B k18) lv_X12_269 ⟨rfl, rfl, Nat.le_of_ble_eq_true rfl, Nat.le_of_ble_eq_true rfl⟩ h16 (by decide) rfl (Nat.le_of_ble_eq_true rfl) ⟨Nat.zero_le _, Nat.zero_le _⟩ rfl ?_
  obtain ⟨h20, hf⟩ := gd_s hf
  exact b_zret C hr hlocks h20 hf dX12_works_185
set_option maxRecDepth 100000 in
def fX12_works_J115 (N : Nat) (g : Gs) (x0 : Nat) (y1 : Int32) (y2 : Int32) (y3 : Int32) (y4 : Int32) (y5 : Int32) (d : Ds) : Option (Int32 × Ds) := gd (chk g x0 11) <| ob (gR g x0 17) fun r32 => (gd (chk g r32 102) <| gd (¬ ((557 : Int32) < 0 ∨ gL g r32 ≤ (557 : Int32).toNatClampNeg)) <| if (dI d r32 (557 : Int32).toNatClampNeg) ≤ (1 : Int32) then (fX12_works_J179 N g x0 y1 y2 d) else (cb (fX12_isDownAt N g x0 1 d) fun u38 d36 => (if u38 = 0 then (fX12_works_J179 N g x0 y1 y2 d36) else (cb (fX12_keyAt N g x0 1 d36) fun u42 d40 => (if u42 = y4 then (cb (fX12_timeAt N g x0 1 d40) fun u46 d44 => (if y5 ≤ u46 then (fX12_works_J179 N g x0 y1 y2 d44) else (cv (fX12_drops N g x0 0 d44) fun d48 => (cv (fX12_drops N g x0 0 d48) fun d50 => (cv (fX12_chords N g x0 y3 y1 y4 d50) fun d52 => (cv (fX12_reports N g x0 d52) fun d54 => (some (1, d54)))))))) else (fX12_works_J179 N g x0 y1 y2 d40))))))
set_option maxHeartbeats 4000000 in
set_option maxRecDepth 100000 in
theorem tX12_works_115 {p : Program} {l : Launch} {e : Env} {s : State} {m : MethodId} {args : Array Value} {below : List Frame} {meth : Method} {c : Code} {D : va_G} {cy : Nat → ClassId} {B : Bs} (C : Cx p s m args c cX12_works 6 RX12 D cy B) (hr : meth.sig.returnType = (some .boolean)) (hlocks : meth.locks = false) {N : Nat} {g : Gs} {x0 : Nat} {vz : Int32} {dz : Ds} {y1 : Int32} {y2 : Int32} {y3 : Int32} {y4 : Int32} {y5 : Int32} {d : Ds} (hf : fX12_works_J115 N g x0 y1 y2 y3 y4 y5 d = some (vz, dz)) : WB p l e rmX12_works s m args below meth c 6 D cy B 0 0 (MQ below (QI D cy B vz g dz) args s 0 0 (wA B)) g d [(0, .ref (ad B x0)), (1, .int y1), (2, .int y2), (3, .int y3), (4, .int y4), (5, .int y5)] 115 [] := by
  unfold fX12_works_J115 at hf
  refine b_aload_n C dX12_works_115 0 rfl rfl ?_
  obtain ⟨h31, hf⟩ := gd_s hf
  obtain ⟨r32, er32, hf⟩ := ob_s hf
  refine b_gR C dX12_works_116 fl_X12_40 h31 er32 ?_
  refine b_sipush C (v := 557) dX12_works_119 (by decide) ?_
  obtain ⟨h33, hf⟩ := gd_s hf
  obtain ⟨h34, hf⟩ := gd_s hf
  refine b_iald C h33 h34 dX12_works_122 ?_
  refine b_iconst C (v := 1) dX12_works_123 (by decide) ?_
  refine b_icmp_le C (tgt := 179) dX12_works_124 (by decide) (fun c35 => ?_) (fun c35 => ?_)
  · have hf := it_s c35 hf
    refine b_sub [(0, .ref (ad B x0)), (1, .int y1), (2, .int y2)] [0, 1, 2] rfl ?_
    exact tX12_works_179 C hr hlocks hf
  · have hf := if_s c35 hf
    refine b_aload_n C dX12_works_127 0 rfl rfl ?_
    refine b_iconst C (v := 1) dX12_works_128 (by decide) ?_
    obtain ⟨u38, d36, k37, hf⟩ := cb_s hf
    refine b_cVI C [] dX12_works_129 (kX12_isDownAt l D cy B k37) lv_X12_247 ⟨rfl, rfl, Nat.le_of_ble_eq_true rfl, Nat.le_of_ble_eq_true rfl⟩ h31 (by decide) rfl (Nat.le_of_ble_eq_true rfl) ⟨Nat.zero_le _, Nat.zero_le _⟩ rfl ?_
    refine b_if_eq C (tgt := 179) dX12_works_132 (by decide) (fun c39 => ?_) (fun c39 => ?_)
    · have hf := it_s c39 hf
      refine b_sub [(0, .ref (ad B x0)), (1, .int y1), (2, .int y2)] [0, 1, 2] rfl ?_
      exact tX12_works_179 C hr hlocks hf
    · have hf := if_s c39 hf
      refine b_aload_n C dX12_works_135 0 rfl rfl ?_
      refine b_iconst C (v := 1) dX12_works_136 (by decide) ?_
      obtain ⟨u42, d40, k41, hf⟩ := cb_s hf
      refine b_cVI C [] dX12_works_137 (kX12_keyAt l D cy B k41) lv_X12_244 ⟨rfl, rfl, Nat.le_of_ble_eq_true rfl, Nat.le_of_ble_eq_true rfl⟩ h31 (by decide) rfl (Nat.le_of_ble_eq_true rfl) ⟨Nat.zero_le _, Nat.zero_le _⟩ rfl ?_
      refine b_iload C dX12_works_140 4 rfl ?_
      refine b_icmp_ne C (tgt := 179) dX12_works_142 (by decide) (fun c43 => ?_) (fun c43 => ?_)
      · have hf := if_s c43 hf
        refine b_sub [(0, .ref (ad B x0)), (1, .int y1), (2, .int y2)] [0, 1, 2] rfl ?_
        exact tX12_works_179 C hr hlocks hf
      · have hf := it_s c43 hf
        refine b_aload_n C dX12_works_145 0 rfl rfl ?_
        refine b_iconst C (v := 1) dX12_works_146 (by decide) ?_
        obtain ⟨u46, d44, k45, hf⟩ := cb_s hf
        refine b_cVI C [] dX12_works_147 (kX12_timeAt l D cy B k45) lv_X12_259 ⟨rfl, rfl, Nat.le_of_ble_eq_true rfl, Nat.le_of_ble_eq_true rfl⟩ h31 (by decide) rfl (Nat.le_of_ble_eq_true rfl) ⟨Nat.zero_le _, Nat.zero_le _⟩ rfl ?_
        refine b_iload C dX12_works_150 5 rfl ?_
        refine b_icmp_ge C (tgt := 179) dX12_works_152 (by decide) (fun c47 => ?_) (fun c47 => ?_)
        · have hf := it_s c47 hf
          refine b_sub [(0, .ref (ad B x0)), (1, .int y1), (2, .int y2)] [0, 1, 2] rfl ?_
          exact tX12_works_179 C hr hlocks hf
        · have hf := if_s c47 hf
          refine b_aload_n C dX12_works_155 0 rfl rfl ?_
          refine b_iconst C (v := 0) dX12_works_156 (by decide) ?_
          obtain ⟨d48, k49, hf⟩ := cv_s hf
          refine b_cVN C [] dX12_works_157 (kX12_drops l D cy B k49) lv_X12_250 ⟨rfl, rfl, Nat.le_of_ble_eq_true rfl, Nat.le_of_ble_eq_true rfl⟩ h31 (by decide) rfl (Nat.le_of_ble_eq_true rfl) ⟨Nat.zero_le _, Nat.zero_le _⟩ rfl ?_
          refine b_aload_n C dX12_works_160 0 rfl rfl ?_
          refine b_iconst C (v := 0) dX12_works_161 (by decide) ?_
          obtain ⟨d50, k51, hf⟩ := cv_s hf
          refine b_cVN C [] dX12_works_162 (kX12_drops l D cy B k51) lv_X12_250 ⟨rfl, rfl, Nat.le_of_ble_eq_true rfl, Nat.le_of_ble_eq_true rfl⟩ h31 (by decide) rfl (Nat.le_of_ble_eq_true rfl) ⟨Nat.zero_le _, Nat.zero_le _⟩ rfl ?_
          refine b_aload_n C dX12_works_165 0 rfl rfl ?_
          refine b_iload_n C dX12_works_166 3 rfl rfl ?_
          refine b_iload_n C dX12_works_167 1 rfl rfl ?_
          refine b_iload C dX12_works_168 4 rfl ?_
          obtain ⟨d52, k53, hf⟩ := cv_s hf
          refine b_cVN C [] dX12_works_170 (kX12_chords l D cy B k53) lv_X12_265 ⟨rfl, rfl, Nat.le_of_ble_eq_true rfl, Nat.le_of_ble_eq_true rfl⟩ h31 (by decide) rfl (Nat.le_of_ble_eq_true rfl) ⟨Nat.zero_le _, Nat.zero_le _⟩ rfl ?_
          refine b_aload_n C dX12_works_173 0 rfl rfl ?_
          obtain ⟨d54, k55, hf⟩ := cv_s hf
          refine b_cVN C [] dX12_works_174 (kX12_reports l D cy B k55) lv_X12_256 ⟨rfl, rfl, Nat.le_of_ble_eq_true rfl, Nat.le_of_ble_eq_true rfl⟩ h31 (by decide) rfl (Nat.le_of_ble_eq_true rfl) ⟨Nat.zero_le _, Nat.zero_le _⟩ rfl ?_
          refine b_iconst C (v := 1) dX12_works_177 (by decide) ?_
          exact b_zret C hr hlocks (by decide) hf dX12_works_178
set_option maxRecDepth 100000 in
def fX12_works (N : Nat) (g : Gs) (x0 : Nat) (d : Ds) : Option (Int32 × Ds) := gd (chk g x0 11) <| cb (fX12_keyAt N g x0 0 d) fun u4 d2 => (cb (fX12_isDownAt N g x0 0 d2) fun u7 d5 => (if u7 = 0 then (cv (fX12_drops N g x0 0 d5) fun d58 => (cv (fX12_ends N g x0 u4 d58) fun d60 => (cv (fX12_reports N g x0 d60) fun d62 => (some (1, d62))))) else (cb (fX12_timeAt N g x0 0 d5) fun u11 d9 => (cb (fX12_chordOf N g x0 u4 d9) fun u14 d12 => (if u14 < 0 then (fX12_works_J179 N g x0 u4 u11 d12) else (ob (gR g x0 17) fun r21 => (gd (chk g r21 102) <| gd (¬ (((300 : Int32) + ((4 : Int32) * u14)) < 0 ∨ gL g r21 ≤ ((300 : Int32) + ((4 : Int32) * u14)).toNatClampNeg)) <| gd (¬ ((((300 : Int32) + ((4 : Int32) * u14)) + 1) < 0 ∨ gL g r21 ≤ (((300 : Int32) + ((4 : Int32) * u14)) + 1).toNatClampNeg)) <| bd ((dI d12 r21 ((300 : Int32) + ((4 : Int32) * u14)).toNatClampNeg) + (dI d12 r21 (((300 : Int32) + ((4 : Int32) * u14)) + 1).toNatClampNeg)) fun u25 => (bd ((u25 - u4)) fun u26 => (gd (¬ ((6 : Int32) < 0 ∨ gL g r21 ≤ (6 : Int32).toNatClampNeg)) <| bd ((u11 + (dI d12 r21 (6 : Int32).toNatClampNeg))) fun u28 => (gd (¬ ((557 : Int32) < 0 ∨ gL g r21 ≤ (557 : Int32).toNatClampNeg)) <| if (dI d12 r21 (557 : Int32).toNatClampNeg) = (1 : Int32) then (gd (¬ ((354 : Int32) < 0 ∨ gL g r21 ≤ (354 : Int32).toNatClampNeg)) <| if u28 ≤ (dI d12 r21 (354 : Int32).toNatClampNeg) then (fX12_works_J115 N g x0 u4 u11 u14 u26 u28 d12) else (some (0, d12))) else (fX12_works_J115 N g x0 u4 u11 u14 u26 u28 d12)))))))))))
set_option maxHeartbeats 4000000 in
set_option maxRecDepth 100000 in
theorem tX12_works_E {p : Program} {l : Launch} {e : Env} {s : State} {m : MethodId} {args : Array Value} {below : List Frame} {meth : Method} {c : Code} {D : va_G} {cy : Nat → ClassId} {B : Bs} (C : Cx p s m args c cX12_works 6 RX12 D cy B) (hr : meth.sig.returnType = (some .boolean)) (hlocks : meth.locks = false) {N : Nat} {g : Gs} {x0 : Nat} {vz : Int32} {dz : Ds} {d : Ds} (hf : fX12_works N g x0 d = some (vz, dz)) : WB p l e rmX12_works s m args below meth c 6 D cy B 0 0 (MQ below (QI D cy B vz g dz) args s 0 0 (wA B)) g d [(0, .ref (ad B x0))] 0 [] := by
  unfold fX12_works at hf
  refine b_aload_n C dX12_works_0 0 rfl rfl ?_
  refine b_iconst C (v := 0) dX12_works_1 (by decide) ?_
  obtain ⟨h1, hf⟩ := gd_s hf
  obtain ⟨u4, d2, k3, hf⟩ := cb_s hf
  refine b_cVI C [] dX12_works_2 (kX12_keyAt l D cy B k3) lv_X12_244 ⟨rfl, rfl, Nat.le_of_ble_eq_true rfl, Nat.le_of_ble_eq_true rfl⟩ h1 (by decide) rfl (Nat.le_of_ble_eq_true rfl) ⟨Nat.zero_le _, Nat.zero_le _⟩ rfl ?_
  refine b_istore_n C dX12_works_5 rfl [(1, .int u4), (0, .ref (ad B x0))] (by decide) rfl ?_
  refine b_aload_n C dX12_works_6 1 rfl rfl ?_
  refine b_iconst C (v := 0) dX12_works_7 (by decide) ?_
  obtain ⟨u7, d5, k6, hf⟩ := cb_s hf
  refine b_cVI C [] dX12_works_8 (kX12_isDownAt l D cy B k6) lv_X12_247 ⟨rfl, rfl, Nat.le_of_ble_eq_true rfl, Nat.le_of_ble_eq_true rfl⟩ h1 (by decide) rfl (Nat.le_of_ble_eq_true rfl) ⟨Nat.zero_le _, Nat.zero_le _⟩ rfl ?_
  refine b_if_ne C (tgt := 30) dX12_works_11 (by decide) (fun c8 => ?_) (fun c8 => ?_)
  · have hf := if_s c8 hf
    refine b_aload_n C dX12_works_30 1 rfl rfl ?_
    refine b_iconst C (v := 0) dX12_works_31 (by decide) ?_
    obtain ⟨u11, d9, k10, hf⟩ := cb_s hf
    refine b_cVI C [] dX12_works_32 (kX12_timeAt l D cy B k10) lv_X12_259 ⟨rfl, rfl, Nat.le_of_ble_eq_true rfl, Nat.le_of_ble_eq_true rfl⟩ h1 (by decide) rfl (Nat.le_of_ble_eq_true rfl) ⟨Nat.zero_le _, Nat.zero_le _⟩ rfl ?_
    refine b_istore_n C dX12_works_35 rfl [(2, .int u11), (1, .int u4), (0, .ref (ad B x0))] (by decide) rfl ?_
    refine b_aload_n C dX12_works_36 2 rfl rfl ?_
    refine b_iload_n C dX12_works_37 1 rfl rfl ?_
    obtain ⟨u14, d12, k13, hf⟩ := cb_s hf
    refine b_cVI C [] dX12_works_38 (kX12_chordOf l D cy B k13) lv_X12_262 ⟨rfl, rfl, Nat.le_of_ble_eq_true rfl, Nat.le_of_ble_eq_true rfl⟩ h1 (by decide) rfl (Nat.le_of_ble_eq_true rfl) ⟨Nat.zero_le _, Nat.zero_le _⟩ rfl ?_
    refine b_istore_n C dX12_works_41 rfl [(3, .int u14), (2, .int u11), (1, .int u4), (0, .ref (ad B x0))] (by decide) rfl ?_
    refine b_iload_n C dX12_works_42 0 rfl rfl ?_
    refine b_if_lt C (tgt := 179) dX12_works_43 (by decide) (fun c15 => ?_) (fun c15 => ?_)
    · have hf := it_s c15 hf
      refine b_sub [(0, .ref (ad B x0)), (1, .int u4), (2, .int u11)] [3, 2, 1] rfl ?_
      exact tX12_works_179 C hr hlocks hf
    · have hf := if_s c15 hf
      refine b_aload_n C dX12_works_46 3 rfl rfl ?_
      obtain ⟨r21, er21, hf⟩ := ob_s hf
      refine b_gR C dX12_works_47 fl_X12_40 h1 er21 ?_
      refine b_sipush C (v := 300) dX12_works_50 (by decide) ?_
      refine b_iconst C (v := 4) dX12_works_53 (by decide) ?_
      refine b_iload_n C dX12_works_54 0 rfl rfl ?_
      refine b_imul C dX12_works_55 ?_
      refine b_iadd C dX12_works_56 ?_
      obtain ⟨h22, hf⟩ := gd_s hf
      obtain ⟨h23, hf⟩ := gd_s hf
      refine b_iald C h22 h23 dX12_works_57 ?_
      refine b_aload_n C dX12_works_58 3 rfl rfl ?_
      refine b_gR C dX12_works_59 fl_X12_40 h1 er21 ?_
      refine b_sipush C (v := 300) dX12_works_62 (by decide) ?_
      refine b_iconst C (v := 4) dX12_works_65 (by decide) ?_
      refine b_iload_n C dX12_works_66 0 rfl rfl ?_
      refine b_imul C dX12_works_67 ?_
      refine b_iadd C dX12_works_68 ?_
      refine b_iconst C (v := 1) dX12_works_69 (by decide) ?_
      refine b_iadd C dX12_works_70 ?_
      obtain ⟨h24, hf⟩ := gd_s hf
      refine b_iald C h22 h24 dX12_works_71 ?_
      refine b_iadd C dX12_works_72 ?_
      obtain ⟨u25, eu25, hf⟩ := bd_s hf
      refine b_topI eu25 ?_
      refine b_iload_n C dX12_works_73 2 rfl rfl ?_
      refine b_isub C dX12_works_74 ?_
      obtain ⟨u26, eu26, hf⟩ := bd_s hf
      refine b_topI eu26 ?_
      refine b_istore C dX12_works_75 [(4, .int u26), (3, .int u14), (2, .int u11), (1, .int u4), (0, .ref (ad B x0))] (by decide) rfl ?_
      refine b_iload_n C dX12_works_77 2 rfl rfl ?_
      refine b_aload_n C dX12_works_78 4 rfl rfl ?_
      refine b_gR C dX12_works_79 fl_X12_40 h1 er21 ?_
      refine b_bipush C (v := 6) dX12_works_82 (by decide) ?_
      obtain ⟨h27, hf⟩ := gd_s hf
      refine b_iald C h22 h27 dX12_works_84 ?_
      refine b_iadd C dX12_works_85 ?_
      obtain ⟨u28, eu28, hf⟩ := bd_s hf
      refine b_topI eu28 ?_
      refine b_istore C dX12_works_86 [(5, .int u28), (4, .int u26), (3, .int u14), (2, .int u11), (1, .int u4), (0, .ref (ad B x0))] (by decide) rfl ?_
      refine b_aload_n C dX12_works_88 5 rfl rfl ?_
      refine b_gR C dX12_works_89 fl_X12_40 h1 er21 ?_
      refine b_sipush C (v := 557) dX12_works_92 (by decide) ?_
      obtain ⟨h29, hf⟩ := gd_s hf
      refine b_iald C h22 h29 dX12_works_95 ?_
      refine b_iconst C (v := 1) dX12_works_96 (by decide) ?_
      refine b_icmp_ne C (tgt := 115) dX12_works_97 (by decide) (fun c30 => ?_) (fun c30 => ?_)
      · have hf := if_s c30 hf
        refine b_sub [(0, .ref (ad B x0)), (1, .int u4), (2, .int u11), (3, .int u14), (4, .int u26), (5, .int u28)] [5, 4, 3, 2, 1, 0] rfl ?_
        exact tX12_works_115 C hr hlocks hf
      · have hf := it_s c30 hf
        refine b_aload_n C dX12_works_100 5 rfl rfl ?_
        refine b_gR C dX12_works_101 fl_X12_40 h1 er21 ?_
        refine b_sipush C (v := 354) dX12_works_104 (by decide) ?_
        obtain ⟨h56, hf⟩ := gd_s hf
        refine b_iald C h22 h56 dX12_works_107 ?_
        refine b_iload C dX12_works_108 0 rfl ?_
        refine b_icmp_ge C (tgt := 115) dX12_works_110 (by decide) (fun c57 => ?_) (fun c57 => ?_)
        · have hf := it_s c57 hf
          refine b_sub [(0, .ref (ad B x0)), (1, .int u4), (2, .int u11), (3, .int u14), (4, .int u26), (5, .int u28)] [5, 4, 3, 2, 1, 0] rfl ?_
          exact tX12_works_115 C hr hlocks hf
        · have hf := if_s c57 hf
          refine b_iconst C (v := 0) dX12_works_113 (by decide) ?_
          exact b_zret C hr hlocks (by decide) hf dX12_works_114
  · have hf := it_s c8 hf
    refine b_aload_n C dX12_works_14 1 rfl rfl ?_
    refine b_iconst C (v := 0) dX12_works_15 (by decide) ?_
    obtain ⟨d58, k59, hf⟩ := cv_s hf
    refine b_cVN C [] dX12_works_16 (kX12_drops l D cy B k59) lv_X12_250 ⟨rfl, rfl, Nat.le_of_ble_eq_true rfl, Nat.le_of_ble_eq_true rfl⟩ h1 (by decide) rfl (Nat.le_of_ble_eq_true rfl) ⟨Nat.zero_le _, Nat.zero_le _⟩ rfl ?_
    refine b_aload_n C dX12_works_19 1 rfl rfl ?_
    refine b_iload_n C dX12_works_20 0 rfl rfl ?_
    obtain ⟨d60, k61, hf⟩ := cv_s hf
    refine b_cVN C [] dX12_works_21 (kX12_ends l D cy B k61) lv_X12_253 ⟨rfl, rfl, Nat.le_of_ble_eq_true rfl, Nat.le_of_ble_eq_true rfl⟩ h1 (by decide) rfl (Nat.le_of_ble_eq_true rfl) ⟨Nat.zero_le _, Nat.zero_le _⟩ rfl ?_
    refine b_aload_n C dX12_works_24 1 rfl rfl ?_
    obtain ⟨d62, k63, hf⟩ := cv_s hf
    refine b_cVN C [] dX12_works_25 (kX12_reports l D cy B k63) lv_X12_256 ⟨rfl, rfl, Nat.le_of_ble_eq_true rfl, Nat.le_of_ble_eq_true rfl⟩ h1 (by decide) rfl (Nat.le_of_ble_eq_true rfl) ⟨Nat.zero_le _, Nat.zero_le _⟩ rfl ?_
    refine b_iconst C (v := 1) dX12_works_28 (by decide) ?_
    exact b_zret C hr hlocks (by decide) hf dX12_works_29
theorem kX12_works (l : Launch) (D : va_G) (cy : Nat → ClassId) (B : Bs) {N : Nat} {g : Gs} {x0 : Nat} {vz : Int32} {dz : Ds} {d : Ds} (hf : fX12_works N g x0 d = some (vz, dz)) : Met l yX12_works (.code yX12_works cX12_works 6 (some .boolean) :: wl) rmX12_works (PC D cy B [.ref (ad B x0)] g d) (QI D cy B vz g dz) 0 0 (wA B) :=
  met_of (by decide +kernel) (Nat.le_of_ble_eq_true rfl) (fun p e s m args below meth c C hr hlocks _ => b_sub [(0, .ref (ad B x0))] [0] rfl (tX12_works_E C hr hlocks hf))
/-! KeyMatrixModel.repeats()V -/
theorem dX12_repeats_0 : decode cX12_repeats 0 = .ok (.aload_n 0, 1) := by decide +kernel
theorem dX12_repeats_1 : decode cX12_repeats 1 = .ok (.getfield 40, 3) := by decide +kernel
theorem dX12_repeats_4 : decode cX12_repeats 4 = .ok (.sipush 455, 3) := by decide +kernel
theorem dX12_repeats_7 : decode cX12_repeats 7 = .ok (.iaload, 1) := by decide +kernel
theorem dX12_repeats_8 : decode cX12_repeats 8 = .ok (.ifCond .ge 4, 3) := by decide +kernel
theorem dX12_repeats_11 : decode cX12_repeats 11 = .ok (.return_, 1) := by decide +kernel
theorem dX12_repeats_12 : decode cX12_repeats 12 = .ok (.aload_n 0, 1) := by decide +kernel
theorem dX12_repeats_13 : decode cX12_repeats 13 = .ok (.getfield 40, 3) := by decide +kernel
theorem dX12_repeats_16 : decode cX12_repeats 16 = .ok (.sipush 354, 3) := by decide +kernel
theorem dX12_repeats_19 : decode cX12_repeats 19 = .ok (.iaload, 1) := by decide +kernel
theorem dX12_repeats_20 : decode cX12_repeats 20 = .ok (.aload_n 0, 1) := by decide +kernel
theorem dX12_repeats_21 : decode cX12_repeats 21 = .ok (.getfield 40, 3) := by decide +kernel
theorem dX12_repeats_24 : decode cX12_repeats 24 = .ok (.sipush 456, 3) := by decide +kernel
theorem dX12_repeats_27 : decode cX12_repeats 27 = .ok (.iaload, 1) := by decide +kernel
theorem dX12_repeats_28 : decode cX12_repeats 28 = .ok (.isub, 1) := by decide +kernel
theorem dX12_repeats_29 : decode cX12_repeats 29 = .ok (.aload_n 0, 1) := by decide +kernel
theorem dX12_repeats_30 : decode cX12_repeats 30 = .ok (.getfield 40, 3) := by decide +kernel
theorem dX12_repeats_33 : decode cX12_repeats 33 = .ok (.bipush 8, 2) := by decide +kernel
theorem dX12_repeats_35 : decode cX12_repeats 35 = .ok (.iaload, 1) := by decide +kernel
theorem dX12_repeats_36 : decode cX12_repeats 36 = .ok (.isub, 1) := by decide +kernel
theorem dX12_repeats_37 : decode cX12_repeats 37 = .ok (.istore_n 1, 1) := by decide +kernel
theorem dX12_repeats_38 : decode cX12_repeats 38 = .ok (.iload_n 1, 1) := by decide +kernel
theorem dX12_repeats_39 : decode cX12_repeats 39 = .ok (.ifCond .lt 15, 3) := by decide +kernel
theorem dX12_repeats_42 : decode cX12_repeats 42 = .ok (.iload_n 1, 1) := by decide +kernel
theorem dX12_repeats_43 : decode cX12_repeats 43 = .ok (.aload_n 0, 1) := by decide +kernel
theorem dX12_repeats_44 : decode cX12_repeats 44 = .ok (.getfield 40, 3) := by decide +kernel
theorem dX12_repeats_47 : decode cX12_repeats 47 = .ok (.bipush 9, 2) := by decide +kernel
theorem dX12_repeats_49 : decode cX12_repeats 49 = .ok (.iaload, 1) := by decide +kernel
theorem dX12_repeats_50 : decode cX12_repeats 50 = .ok (.irem, 1) := by decide +kernel
theorem dX12_repeats_51 : decode cX12_repeats 51 = .ok (.ifCond .eq 4, 3) := by decide +kernel
theorem dX12_repeats_54 : decode cX12_repeats 54 = .ok (.return_, 1) := by decide +kernel
theorem dX12_repeats_55 : decode cX12_repeats 55 = .ok (.aload_n 0, 1) := by decide +kernel
theorem dX12_repeats_56 : decode cX12_repeats 56 = .ok (.getfield 40, 3) := by decide +kernel
theorem dX12_repeats_59 : decode cX12_repeats 59 = .ok (.sipush 457, 3) := by decide +kernel
theorem dX12_repeats_62 : decode cX12_repeats 62 = .ok (.dup2, 1) := by decide +kernel
theorem dX12_repeats_63 : decode cX12_repeats 63 = .ok (.iaload, 1) := by decide +kernel
theorem dX12_repeats_64 : decode cX12_repeats 64 = .ok (.iconst 1, 1) := by decide +kernel
theorem dX12_repeats_65 : decode cX12_repeats 65 = .ok (.iadd, 1) := by decide +kernel
theorem dX12_repeats_66 : decode cX12_repeats 66 = .ok (.iastore, 1) := by decide +kernel
theorem dX12_repeats_67 : decode cX12_repeats 67 = .ok (.aload_n 0, 1) := by decide +kernel
theorem dX12_repeats_68 : decode cX12_repeats 68 = .ok (.getfield 40, 3) := by decide +kernel
theorem dX12_repeats_71 : decode cX12_repeats 71 = .ok (.sipush 458, 3) := by decide +kernel
theorem dX12_repeats_74 : decode cX12_repeats 74 = .ok (.dup2, 1) := by decide +kernel
theorem dX12_repeats_75 : decode cX12_repeats 75 = .ok (.iaload, 1) := by decide +kernel
theorem dX12_repeats_76 : decode cX12_repeats 76 = .ok (.iconst 1, 1) := by decide +kernel
theorem dX12_repeats_77 : decode cX12_repeats 77 = .ok (.iadd, 1) := by decide +kernel
theorem dX12_repeats_78 : decode cX12_repeats 78 = .ok (.iastore, 1) := by decide +kernel
theorem dX12_repeats_79 : decode cX12_repeats 79 = .ok (.return_, 1) := by decide +kernel
def rmX12_repeats : Room := { frames := 0, cells := 0, slots := 0, locals := 0 }
set_option maxRecDepth 100000 in
def fX12_repeats_J54 (N : Nat) (g : Gs) (x0 : Nat) (d : Ds) : Option (Unit × Ds) := some ((), d)
set_option maxHeartbeats 4000000 in
set_option maxRecDepth 100000 in
theorem tX12_repeats_54 {p : Program} {l : Launch} {e : Env} {s : State} {m : MethodId} {args : Array Value} {below : List Frame} {meth : Method} {c : Code} {D : va_G} {cy : Nat → ClassId} {B : Bs} (C : Cx p s m args c cX12_repeats 2 RX12 D cy B) (hr : meth.sig.returnType = none) (hlocks : meth.locks = false) {N : Nat} {g : Gs} {x0 : Nat}  {dz : Ds} {d : Ds} (hf : fX12_repeats_J54 N g x0 d = some ((), dz)) : WB p l e rmX12_repeats s m args below meth c 2 D cy B 0 0 (MQ below (QV D cy B g dz) args s 0 0 (wA B)) g d [(0, .ref (ad B x0))] 54 [] := by
  unfold fX12_repeats_J54 at hf
  exact b_vret C hr hlocks hf dX12_repeats_54
set_option maxRecDepth 100000 in
def fX12_repeats (N : Nat) (g : Gs) (x0 : Nat) (d : Ds) : Option (Unit × Ds) := gd (chk g x0 11) <| ob (gR g x0 17) fun r2 => (gd (chk g r2 102) <| gd (¬ ((455 : Int32) < 0 ∨ gL g r2 ≤ (455 : Int32).toNatClampNeg)) <| if 0 ≤ (dI d r2 (455 : Int32).toNatClampNeg) then (gd (¬ ((354 : Int32) < 0 ∨ gL g r2 ≤ (354 : Int32).toNatClampNeg)) <| gd (¬ ((456 : Int32) < 0 ∨ gL g r2 ≤ (456 : Int32).toNatClampNeg)) <| gd (¬ ((8 : Int32) < 0 ∨ gL g r2 ≤ (8 : Int32).toNatClampNeg)) <| bd (((dI d r2 (354 : Int32).toNatClampNeg) - (dI d r2 (456 : Int32).toNatClampNeg)) - (dI d r2 (8 : Int32).toNatClampNeg)) fun u9 => (if u9 < 0 then (fX12_repeats_J54 N g x0 d) else (gd (¬ ((9 : Int32) < 0 ∨ gL g r2 ≤ (9 : Int32).toNatClampNeg)) <| gd (¬ (dI d r2 (9 : Int32).toNatClampNeg) = 0) <| if (u9 - u9 / (dI d r2 (9 : Int32).toNatClampNeg) * (dI d r2 (9 : Int32).toNatClampNeg)) = 0 then (gd (¬ ((457 : Int32) < 0 ∨ gL g r2 ≤ (457 : Int32).toNatClampNeg)) <| bd (sI d r2 (457 : Int32).toNatClampNeg ((dI d r2 (457 : Int32).toNatClampNeg) + 1)) fun d15 => (gd (¬ ((458 : Int32) < 0 ∨ gL g r2 ≤ (458 : Int32).toNatClampNeg)) <| bd (sI d15 r2 (458 : Int32).toNatClampNeg ((dI d15 r2 (458 : Int32).toNatClampNeg) + 1)) fun d17 => (some ((), d17)))) else (fX12_repeats_J54 N g x0 d)))) else (some ((), d)))
set_option maxHeartbeats 4000000 in
set_option maxRecDepth 100000 in
theorem tX12_repeats_E {p : Program} {l : Launch} {e : Env} {s : State} {m : MethodId} {args : Array Value} {below : List Frame} {meth : Method} {c : Code} {D : va_G} {cy : Nat → ClassId} {B : Bs} (C : Cx p s m args c cX12_repeats 2 RX12 D cy B) (hr : meth.sig.returnType = none) (hlocks : meth.locks = false) {N : Nat} {g : Gs} {x0 : Nat}  {dz : Ds} {d : Ds} (hf : fX12_repeats N g x0 d = some ((), dz)) : WB p l e rmX12_repeats s m args below meth c 2 D cy B 0 0 (MQ below (QV D cy B g dz) args s 0 0 (wA B)) g d [(0, .ref (ad B x0))] 0 [] := by
  unfold fX12_repeats at hf
  refine b_aload_n C dX12_repeats_0 0 rfl rfl ?_
  obtain ⟨h1, hf⟩ := gd_s hf
  obtain ⟨r2, er2, hf⟩ := ob_s hf
  refine b_gR C dX12_repeats_1 fl_X12_40 h1 er2 ?_
  refine b_sipush C (v := 455) dX12_repeats_4 (by decide) ?_
  obtain ⟨h3, hf⟩ := gd_s hf
  obtain ⟨h4, hf⟩ := gd_s hf
  refine b_iald C h3 h4 dX12_repeats_7 ?_
  refine b_if_ge C (tgt := 12) dX12_repeats_8 (by decide) (fun c5 => ?_) (fun c5 => ?_)
  · have hf := it_s c5 hf
    refine b_aload_n C dX12_repeats_12 0 rfl rfl ?_
    refine b_gR C dX12_repeats_13 fl_X12_40 h1 er2 ?_
    refine b_sipush C (v := 354) dX12_repeats_16 (by decide) ?_
    obtain ⟨h6, hf⟩ := gd_s hf
    refine b_iald C h3 h6 dX12_repeats_19 ?_
    refine b_aload_n C dX12_repeats_20 0 rfl rfl ?_
    refine b_gR C dX12_repeats_21 fl_X12_40 h1 er2 ?_
    refine b_sipush C (v := 456) dX12_repeats_24 (by decide) ?_
    obtain ⟨h7, hf⟩ := gd_s hf
    refine b_iald C h3 h7 dX12_repeats_27 ?_
    refine b_isub C dX12_repeats_28 ?_
    refine b_aload_n C dX12_repeats_29 0 rfl rfl ?_
    refine b_gR C dX12_repeats_30 fl_X12_40 h1 er2 ?_
    refine b_bipush C (v := 8) dX12_repeats_33 (by decide) ?_
    obtain ⟨h8, hf⟩ := gd_s hf
    refine b_iald C h3 h8 dX12_repeats_35 ?_
    refine b_isub C dX12_repeats_36 ?_
    obtain ⟨u9, eu9, hf⟩ := bd_s hf
    refine b_topI eu9 ?_
    refine b_istore_n C dX12_repeats_37 rfl [(1, .int u9), (0, .ref (ad B x0))] (by decide) rfl ?_
    refine b_iload_n C dX12_repeats_38 0 rfl rfl ?_
    refine b_if_lt C (tgt := 54) dX12_repeats_39 (by decide) (fun c10 => ?_) (fun c10 => ?_)
    · have hf := it_s c10 hf
      refine b_sub [(0, .ref (ad B x0))] [1] rfl ?_
      exact tX12_repeats_54 C hr hlocks hf
    · have hf := if_s c10 hf
      refine b_iload_n C dX12_repeats_42 0 rfl rfl ?_
      refine b_aload_n C dX12_repeats_43 1 rfl rfl ?_
      refine b_gR C dX12_repeats_44 fl_X12_40 h1 er2 ?_
      refine b_bipush C (v := 9) dX12_repeats_47 (by decide) ?_
      obtain ⟨h11, hf⟩ := gd_s hf
      refine b_iald C h3 h11 dX12_repeats_49 ?_
      obtain ⟨h12, hf⟩ := gd_s hf
      refine b_irem C dX12_repeats_50 h12 ?_
      refine b_if_eq C (tgt := 55) dX12_repeats_51 (by decide) (fun c13 => ?_) (fun c13 => ?_)
      · have hf := it_s c13 hf
        refine b_aload_n C dX12_repeats_55 1 rfl rfl ?_
        refine b_gR C dX12_repeats_56 fl_X12_40 h1 er2 ?_
        refine b_sipush C (v := 457) dX12_repeats_59 (by decide) ?_
        refine b_dup2 C dX12_repeats_62 rfl rfl ?_
        obtain ⟨h14, hf⟩ := gd_s hf
        refine b_iald C h3 h14 dX12_repeats_63 ?_
        refine b_iconst C (v := 1) dX12_repeats_64 (by decide) ?_
        refine b_iadd C dX12_repeats_65 ?_
        obtain ⟨d15, ed15, hf⟩ := bd_s hf
        refine b_iast C h3 h14 ed15 dX12_repeats_66 ?_
        refine b_aload_n C dX12_repeats_67 1 rfl rfl ?_
        refine b_gR C dX12_repeats_68 fl_X12_40 h1 er2 ?_
        refine b_sipush C (v := 458) dX12_repeats_71 (by decide) ?_
        refine b_dup2 C dX12_repeats_74 rfl rfl ?_
        obtain ⟨h16, hf⟩ := gd_s hf
        refine b_iald C h3 h16 dX12_repeats_75 ?_
        refine b_iconst C (v := 1) dX12_repeats_76 (by decide) ?_
        refine b_iadd C dX12_repeats_77 ?_
        obtain ⟨d17, ed17, hf⟩ := bd_s hf
        refine b_iast C h3 h16 ed17 dX12_repeats_78 ?_
        exact b_vret C hr hlocks hf dX12_repeats_79
      · have hf := if_s c13 hf
        refine b_sub [(0, .ref (ad B x0))] [1] rfl ?_
        exact tX12_repeats_54 C hr hlocks hf
  · have hf := if_s c5 hf
    exact b_vret C hr hlocks hf dX12_repeats_11
theorem kX12_repeats (l : Launch) (D : va_G) (cy : Nat → ClassId) (B : Bs) {N : Nat} {g : Gs} {x0 : Nat}  {dz : Ds} {d : Ds} (hf : fX12_repeats N g x0 d = some ((), dz)) : Met l yX12_repeats (.code yX12_repeats cX12_repeats 2 none :: wl) rmX12_repeats (PC D cy B [.ref (ad B x0)] g d) (QV D cy B g dz) 0 0 (wA B) :=
  met_of (by decide +kernel) (Nat.le_of_ble_eq_true rfl) (fun p e s m args below meth c C hr hlocks _ => b_sub [(0, .ref (ad B x0))] [0] rfl (tX12_repeats_E C hr hlocks hf))
/-! KeyMatrixModel.ticks()V -/
theorem yo_X12_repeats : yX12_repeats.cls ≠ "java/lang/invoke/MethodHandle" ∧ yX12_repeats.cls ≠ "java/lang/invoke/VarHandle" ∧ (parseMethodDescriptor yX12_repeats.desc).map (fun d => d.parameters.length) = some 0 := by decide +kernel
theorem co_X12_repeats : Cond.code yX12_repeats cX12_repeats 2 none ∈ wl := mW (mT6 (List.mem_of_getElem? (i := 225) (by decide +kernel))) rfl
theorem in_X12_repeats : Cond.initialized yX12_repeats.cls ∈ wl := mW (mT1 (List.mem_of_getElem? (i := 12) (by decide +kernel))) rfl
theorem im_X12_repeats : Cond.instanceMethod yX12_repeats ∈ wl := mW (mT6 (List.mem_of_getElem? (i := 224) (by decide +kernel))) rfl
theorem se_X12_repeats : Cond.selects yX12_repeats.cls yX12_repeats yX12_repeats ∈ wl := mW (mT0 (List.mem_of_getElem? (i := 87) (by decide +kernel))) rfl
theorem lv_X12_241 : LV RX12 241 yX12_repeats cX12_repeats 2 none 0 11 := ⟨⟨(RX12, TX12, 33), rfl, rfl⟩, yo_X12_repeats, mW (mT6 (List.mem_of_getElem? (i := 222) (by decide +kernel))) rfl, im_X12_repeats, se_X12_repeats, in_X12_repeats, co_X12_repeats⟩
theorem ct_X12_239 : Cond.constantFloat RX12 239 1063256064 ∈ wl := mW (mT6 (List.mem_of_getElem? (i := 220) (by decide +kernel))) rfl
theorem ct_X12_240 : Cond.constantFloat RX12 240 1040187392 ∈ wl := mW (mT6 (List.mem_of_getElem? (i := 221) (by decide +kernel))) rfl
theorem yo_X12_works : yX12_works.cls ≠ "java/lang/invoke/MethodHandle" ∧ yX12_works.cls ≠ "java/lang/invoke/VarHandle" ∧ (parseMethodDescriptor yX12_works.desc).map (fun d => d.parameters.length) = some 0 := by decide +kernel
theorem co_X12_works : Cond.code yX12_works cX12_works 6 (some .boolean) ∈ wl := mW (mT6 (List.mem_of_getElem? (i := 127) (by decide +kernel))) rfl
theorem in_X12_works : Cond.initialized yX12_works.cls ∈ wl := mW (mT1 (List.mem_of_getElem? (i := 12) (by decide +kernel))) rfl
theorem im_X12_works : Cond.instanceMethod yX12_works ∈ wl := mW (mT6 (List.mem_of_getElem? (i := 126) (by decide +kernel))) rfl
theorem se_X12_works : Cond.selects yX12_works.cls yX12_works yX12_works ∈ wl := mW (mT0 (List.mem_of_getElem? (i := 63) (by decide +kernel))) rfl
theorem lv_X12_235 : LV RX12 235 yX12_works cX12_works 6 (some .boolean) 0 11 := ⟨⟨(RX12, TX12, 33), rfl, rfl⟩, yo_X12_works, mW (mT6 (List.mem_of_getElem? (i := 124) (by decide +kernel))) rfl, im_X12_works, se_X12_works, in_X12_works, co_X12_works⟩
theorem yo_X12_changes : yX12_changes.cls ≠ "java/lang/invoke/MethodHandle" ∧ yX12_changes.cls ≠ "java/lang/invoke/VarHandle" ∧ (parseMethodDescriptor yX12_changes.desc).map (fun d => d.parameters.length) = some 1 := by decide +kernel
theorem co_X12_changes : Cond.code yX12_changes cX12_changes 5 none ∈ wl := mW (mT6 (List.mem_of_getElem? (i := 123) (by decide +kernel))) rfl
theorem in_X12_changes : Cond.initialized yX12_changes.cls ∈ wl := mW (mT1 (List.mem_of_getElem? (i := 12) (by decide +kernel))) rfl
theorem im_X12_changes : Cond.instanceMethod yX12_changes ∈ wl := mW (mT6 (List.mem_of_getElem? (i := 122) (by decide +kernel))) rfl
theorem se_X12_changes : Cond.selects yX12_changes.cls yX12_changes yX12_changes ∈ wl := mW (mT0 (List.mem_of_getElem? (i := 62) (by decide +kernel))) rfl
theorem lv_X12_232 : LV RX12 232 yX12_changes cX12_changes 5 none 1 11 := ⟨⟨(RX12, TX12, 33), rfl, rfl⟩, yo_X12_changes, mW (mT6 (List.mem_of_getElem? (i := 120) (by decide +kernel))) rfl, im_X12_changes, se_X12_changes, in_X12_changes, co_X12_changes⟩
theorem dX12_ticks_0 : decode cX12_ticks 0 = .ok (.aload_n 0, 1) := by decide +kernel
theorem dX12_ticks_1 : decode cX12_ticks 1 = .ok (.getfield 40, 3) := by decide +kernel
theorem dX12_ticks_4 : decode cX12_ticks 4 = .ok (.sipush 354, 3) := by decide +kernel
theorem dX12_ticks_7 : decode cX12_ticks 7 = .ok (.dup2, 1) := by decide +kernel
theorem dX12_ticks_8 : decode cX12_ticks 8 = .ok (.iaload, 1) := by decide +kernel
theorem dX12_ticks_9 : decode cX12_ticks 9 = .ok (.iconst 1, 1) := by decide +kernel
theorem dX12_ticks_10 : decode cX12_ticks 10 = .ok (.iadd, 1) := by decide +kernel
theorem dX12_ticks_11 : decode cX12_ticks 11 = .ok (.iastore, 1) := by decide +kernel
theorem dX12_ticks_12 : decode cX12_ticks 12 = .ok (.aload_n 0, 1) := by decide +kernel
theorem dX12_ticks_13 : decode cX12_ticks 13 = .ok (.aload_n 0, 1) := by decide +kernel
theorem dX12_ticks_14 : decode cX12_ticks 14 = .ok (.getfield 40, 3) := by decide +kernel
theorem dX12_ticks_17 : decode cX12_ticks 17 = .ok (.sipush 352, 3) := by decide +kernel
theorem dX12_ticks_20 : decode cX12_ticks 20 = .ok (.iaload, 1) := by decide +kernel
theorem dX12_ticks_21 : decode cX12_ticks 21 = .ok (.invokevirtual 223, 3) := by decide +kernel
theorem dX12_ticks_24 : decode cX12_ticks 24 = .ok (.istore_n 1, 1) := by decide +kernel
theorem dX12_ticks_25 : decode cX12_ticks 25 = .ok (.aload_n 0, 1) := by decide +kernel
theorem dX12_ticks_26 : decode cX12_ticks 26 = .ok (.iload_n 1, 1) := by decide +kernel
theorem dX12_ticks_27 : decode cX12_ticks 27 = .ok (.invokevirtual 229, 3) := by decide +kernel
theorem dX12_ticks_30 : decode cX12_ticks 30 = .ok (.istore_n 2, 1) := by decide +kernel
theorem dX12_ticks_31 : decode cX12_ticks 31 = .ok (.iconst 0, 1) := by decide +kernel
theorem dX12_ticks_32 : decode cX12_ticks 32 = .ok (.istore_n 3, 1) := by decide +kernel
theorem dX12_ticks_33 : decode cX12_ticks 33 = .ok (.iload_n 3, 1) := by decide +kernel
theorem dX12_ticks_34 : decode cX12_ticks 34 = .ok (.aload_n 0, 1) := by decide +kernel
theorem dX12_ticks_35 : decode cX12_ticks 35 = .ok (.invokevirtual 206, 3) := by decide +kernel
theorem dX12_ticks_38 : decode cX12_ticks 38 = .ok (.if_icmp .ge 99, 3) := by decide +kernel
theorem dX12_ticks_41 : decode cX12_ticks 41 = .ok (.iload_n 2, 1) := by decide +kernel
theorem dX12_ticks_42 : decode cX12_ticks 42 = .ok (.iload_n 3, 1) := by decide +kernel
theorem dX12_ticks_43 : decode cX12_ticks 43 = .ok (.invokestatic 210, 3) := by decide +kernel
theorem dX12_ticks_46 : decode cX12_ticks 46 = .ok (.ifCond .ne 27, 3) := by decide +kernel
theorem dX12_ticks_49 : decode cX12_ticks 49 = .ok (.iload_n 1, 1) := by decide +kernel
theorem dX12_ticks_50 : decode cX12_ticks 50 = .ok (.iload_n 3, 1) := by decide +kernel
theorem dX12_ticks_51 : decode cX12_ticks 51 = .ok (.invokestatic 210, 3) := by decide +kernel
theorem dX12_ticks_54 : decode cX12_ticks 54 = .ok (.aload_n 0, 1) := by decide +kernel
theorem dX12_ticks_55 : decode cX12_ticks 55 = .ok (.getfield 40, 3) := by decide +kernel
theorem dX12_ticks_58 : decode cX12_ticks 58 = .ok (.sipush 353, 3) := by decide +kernel
theorem dX12_ticks_61 : decode cX12_ticks 61 = .ok (.iaload, 1) := by decide +kernel
theorem dX12_ticks_62 : decode cX12_ticks 62 = .ok (.iload_n 3, 1) := by decide +kernel
theorem dX12_ticks_63 : decode cX12_ticks 63 = .ok (.invokestatic 210, 3) := by decide +kernel
theorem dX12_ticks_66 : decode cX12_ticks 66 = .ok (.if_icmp .eq 7, 3) := by decide +kernel
theorem dX12_ticks_69 : decode cX12_ticks 69 = .ok (.iconst 1, 1) := by decide +kernel
theorem dX12_ticks_70 : decode cX12_ticks 70 = .ok (.goto 4, 3) := by decide +kernel
theorem dX12_ticks_73 : decode cX12_ticks 73 = .ok (.iconst 0, 1) := by decide +kernel
theorem dX12_ticks_74 : decode cX12_ticks 74 = .ok (.istore 4, 2) := by decide +kernel
theorem dX12_ticks_76 : decode cX12_ticks 76 = .ok (.aload_n 0, 1) := by decide +kernel
theorem dX12_ticks_77 : decode cX12_ticks 77 = .ok (.getfield 40, 3) := by decide +kernel
theorem dX12_ticks_80 : decode cX12_ticks 80 = .ok (.sipush 355, 3) := by decide +kernel
theorem dX12_ticks_83 : decode cX12_ticks 83 = .ok (.iload_n 3, 1) := by decide +kernel
theorem dX12_ticks_84 : decode cX12_ticks 84 = .ok (.iadd, 1) := by decide +kernel
theorem dX12_ticks_85 : decode cX12_ticks 85 = .ok (.iload 4, 2) := by decide +kernel
theorem dX12_ticks_87 : decode cX12_ticks 87 = .ok (.ifCond .eq 18, 3) := by decide +kernel
theorem dX12_ticks_90 : decode cX12_ticks 90 = .ok (.aload_n 0, 1) := by decide +kernel
theorem dX12_ticks_91 : decode cX12_ticks 91 = .ok (.getfield 40, 3) := by decide +kernel
theorem dX12_ticks_94 : decode cX12_ticks 94 = .ok (.sipush 355, 3) := by decide +kernel
theorem dX12_ticks_97 : decode cX12_ticks 97 = .ok (.iload_n 3, 1) := by decide +kernel
theorem dX12_ticks_98 : decode cX12_ticks 98 = .ok (.iadd, 1) := by decide +kernel
theorem dX12_ticks_99 : decode cX12_ticks 99 = .ok (.iaload, 1) := by decide +kernel
theorem dX12_ticks_100 : decode cX12_ticks 100 = .ok (.iconst 1, 1) := by decide +kernel
theorem dX12_ticks_101 : decode cX12_ticks 101 = .ok (.iadd, 1) := by decide +kernel
theorem dX12_ticks_102 : decode cX12_ticks 102 = .ok (.goto 4, 3) := by decide +kernel
theorem dX12_ticks_105 : decode cX12_ticks 105 = .ok (.iconst 0, 1) := by decide +kernel
theorem dX12_ticks_106 : decode cX12_ticks 106 = .ok (.iastore, 1) := by decide +kernel
theorem dX12_ticks_107 : decode cX12_ticks 107 = .ok (.aload_n 0, 1) := by decide +kernel
theorem dX12_ticks_108 : decode cX12_ticks 108 = .ok (.getfield 40, 3) := by decide +kernel
theorem dX12_ticks_111 : decode cX12_ticks 111 = .ok (.sipush 355, 3) := by decide +kernel
theorem dX12_ticks_114 : decode cX12_ticks 114 = .ok (.iload_n 3, 1) := by decide +kernel
theorem dX12_ticks_115 : decode cX12_ticks 115 = .ok (.iadd, 1) := by decide +kernel
theorem dX12_ticks_116 : decode cX12_ticks 116 = .ok (.iaload, 1) := by decide +kernel
theorem dX12_ticks_117 : decode cX12_ticks 117 = .ok (.aload_n 0, 1) := by decide +kernel
theorem dX12_ticks_118 : decode cX12_ticks 118 = .ok (.getfield 40, 3) := by decide +kernel
theorem dX12_ticks_121 : decode cX12_ticks 121 = .ok (.iconst 4, 1) := by decide +kernel
theorem dX12_ticks_122 : decode cX12_ticks 122 = .ok (.iaload, 1) := by decide +kernel
theorem dX12_ticks_123 : decode cX12_ticks 123 = .ok (.if_icmp .ne 8, 3) := by decide +kernel
theorem dX12_ticks_126 : decode cX12_ticks 126 = .ok (.aload_n 0, 1) := by decide +kernel
theorem dX12_ticks_127 : decode cX12_ticks 127 = .ok (.iload_n 3, 1) := by decide +kernel
theorem dX12_ticks_128 : decode cX12_ticks 128 = .ok (.invokevirtual 232, 3) := by decide +kernel
theorem dX12_ticks_131 : decode cX12_ticks 131 = .ok (.iinc 3 1, 3) := by decide +kernel
theorem dX12_ticks_134 : decode cX12_ticks 134 = .ok (.goto (-101), 3) := by decide +kernel
theorem dX12_ticks_137 : decode cX12_ticks 137 = .ok (.iconst 1, 1) := by decide +kernel
theorem dX12_ticks_138 : decode cX12_ticks 138 = .ok (.istore_n 3, 1) := by decide +kernel
theorem dX12_ticks_139 : decode cX12_ticks 139 = .ok (.iload_n 3, 1) := by decide +kernel
theorem dX12_ticks_140 : decode cX12_ticks 140 = .ok (.ifCond .eq 22, 3) := by decide +kernel
theorem dX12_ticks_143 : decode cX12_ticks 143 = .ok (.aload_n 0, 1) := by decide +kernel
theorem dX12_ticks_144 : decode cX12_ticks 144 = .ok (.getfield 40, 3) := by decide +kernel
theorem dX12_ticks_147 : decode cX12_ticks 147 = .ok (.sipush 557, 3) := by decide +kernel
theorem dX12_ticks_150 : decode cX12_ticks 150 = .ok (.iaload, 1) := by decide +kernel
theorem dX12_ticks_151 : decode cX12_ticks 151 = .ok (.ifCond .le 11, 3) := by decide +kernel
theorem dX12_ticks_154 : decode cX12_ticks 154 = .ok (.aload_n 0, 1) := by decide +kernel
theorem dX12_ticks_155 : decode cX12_ticks 155 = .ok (.invokevirtual 235, 3) := by decide +kernel
theorem dX12_ticks_158 : decode cX12_ticks 158 = .ok (.istore_n 3, 1) := by decide +kernel
theorem dX12_ticks_159 : decode cX12_ticks 159 = .ok (.goto (-20), 3) := by decide +kernel
theorem dX12_ticks_162 : decode cX12_ticks 162 = .ok (.iconst 0, 1) := by decide +kernel
theorem dX12_ticks_163 : decode cX12_ticks 163 = .ok (.istore 4, 2) := by decide +kernel
theorem dX12_ticks_165 : decode cX12_ticks 165 = .ok (.iload 4, 2) := by decide +kernel
theorem dX12_ticks_167 : decode cX12_ticks 167 = .ok (.aload_n 0, 1) := by decide +kernel
theorem dX12_ticks_168 : decode cX12_ticks 168 = .ok (.invokevirtual 206, 3) := by decide +kernel
theorem dX12_ticks_171 : decode cX12_ticks 171 = .ok (.if_icmp .ge 52, 3) := by decide +kernel
theorem dX12_ticks_174 : decode cX12_ticks 174 = .ok (.aload_n 0, 1) := by decide +kernel
theorem dX12_ticks_175 : decode cX12_ticks 175 = .ok (.getfield 46, 3) := by decide +kernel
theorem dX12_ticks_178 : decode cX12_ticks 178 = .ok (.iload 4, 2) := by decide +kernel
theorem dX12_ticks_180 : decode cX12_ticks 180 = .ok (.aload_n 0, 1) := by decide +kernel
theorem dX12_ticks_181 : decode cX12_ticks 181 = .ok (.getfield 46, 3) := by decide +kernel
theorem dX12_ticks_184 : decode cX12_ticks 184 = .ok (.iload 4, 2) := by decide +kernel
theorem dX12_ticks_186 : decode cX12_ticks 186 = .ok (.faload, 1) := by decide +kernel
theorem dX12_ticks_187 : decode cX12_ticks 187 = .ok (.ldc 239, 2) := by decide +kernel
theorem dX12_ticks_189 : decode cX12_ticks 189 = .ok (.fmul, 1) := by decide +kernel
theorem dX12_ticks_190 : decode cX12_ticks 190 = .ok (.fastore, 1) := by decide +kernel
theorem dX12_ticks_191 : decode cX12_ticks 191 = .ok (.iload_n 1, 1) := by decide +kernel
theorem dX12_ticks_192 : decode cX12_ticks 192 = .ok (.iload 4, 2) := by decide +kernel
theorem dX12_ticks_194 : decode cX12_ticks 194 = .ok (.invokestatic 210, 3) := by decide +kernel
theorem dX12_ticks_197 : decode cX12_ticks 197 = .ok (.ifCond .eq 20, 3) := by decide +kernel
theorem dX12_ticks_200 : decode cX12_ticks 200 = .ok (.aload_n 0, 1) := by decide +kernel
theorem dX12_ticks_201 : decode cX12_ticks 201 = .ok (.getfield 46, 3) := by decide +kernel
theorem dX12_ticks_204 : decode cX12_ticks 204 = .ok (.iload 4, 2) := by decide +kernel
theorem dX12_ticks_206 : decode cX12_ticks 206 = .ok (.aload_n 0, 1) := by decide +kernel
theorem dX12_ticks_207 : decode cX12_ticks 207 = .ok (.getfield 46, 3) := by decide +kernel
theorem dX12_ticks_210 : decode cX12_ticks 210 = .ok (.iload 4, 2) := by decide +kernel
theorem dX12_ticks_212 : decode cX12_ticks 212 = .ok (.faload, 1) := by decide +kernel
theorem dX12_ticks_213 : decode cX12_ticks 213 = .ok (.ldc 240, 2) := by decide +kernel
theorem dX12_ticks_215 : decode cX12_ticks 215 = .ok (.fadd, 1) := by decide +kernel
theorem dX12_ticks_216 : decode cX12_ticks 216 = .ok (.fastore, 1) := by decide +kernel
theorem dX12_ticks_217 : decode cX12_ticks 217 = .ok (.iinc 4 1, 3) := by decide +kernel
theorem dX12_ticks_220 : decode cX12_ticks 220 = .ok (.goto (-55), 3) := by decide +kernel
theorem dX12_ticks_223 : decode cX12_ticks 223 = .ok (.aload_n 0, 1) := by decide +kernel
theorem dX12_ticks_224 : decode cX12_ticks 224 = .ok (.invokevirtual 241, 3) := by decide +kernel
theorem dX12_ticks_227 : decode cX12_ticks 227 = .ok (.return_, 1) := by decide +kernel
def rmX12_ticks : Room := { frames := 7, cells := 0, slots := 0, locals := 168 }
set_option maxRecDepth 100000 in
def fX12_ticks_J217 (N : Nat) (g : Gs) (x0 : Nat) (K165 : Int32 × Int32 × Ds → Option (Unit × Ds)) (y1 : Int32) (y4 : Int32) (d : Ds) : Option (Unit × Ds) := bd (y4 + 1) fun u36 => (K165 (y1, u36, d))
set_option maxHeartbeats 4000000 in
set_option maxRecDepth 100000 in
theorem tX12_ticks_217 {p : Program} {l : Launch} {e : Env} {s : State} {m : MethodId} {args : Array Value} {below : List Frame} {meth : Method} {c : Code} {D : va_G} {cy : Nat → ClassId} {B : Bs} (C : Cx p s m args c cX12_ticks 5 RX12 D cy B) (hr : meth.sig.returnType = none) (hlocks : meth.locks = false) {N : Nat} {g : Gs} {x0 : Nat}  {dz : Ds} {K165 : Int32 × Int32 × Ds → Option (Unit × Ds)} (hK165 : ∀ a, K165 a = some ((), dz) → WB p l e rmX12_ticks s m args below meth c 5 D cy B 0 0 (MQ below (QV D cy B g dz) args s 0 0 (wA B)) g a.2.2 [(0, .ref (ad B x0)), (1, .int a.1), (4, .int a.2.1)] 165 []) {y1 : Int32} {y4 : Int32} {d : Ds} (hf : fX12_ticks_J217 N g x0 K165 y1 y4 d = some ((), dz)) : WB p l e rmX12_ticks s m args below meth c 5 D cy B 0 0 (MQ below (QV D cy B g dz) args s 0 0 (wA B)) g d [(0, .ref (ad B x0)), (1, .int y1), (4, .int y4)] 217 [] := by
  unfold fX12_ticks_J217 at hf
  obtain ⟨u36, eu36, hf⟩ := bd_s hf
  refine b_iinc C dX12_ticks_217 2 rfl (by rw [eu36]; rfl) [(4, .int u36), (0, .ref (ad B x0)), (1, .int y1)] (by decide) rfl ?_
  refine b_goto C (tgt := 165) dX12_ticks_220 (by decide) ?_
  refine b_sub [(0, .ref (ad B x0)), (1, .int y1), (4, .int u36)] [1, 2, 0] rfl ?_
  exact hK165 (y1, u36, d) hf
set_option maxRecDepth 100000 in
def fX12_ticks_B165 (N : Nat) (g : Gs) (x0 : Nat) (K165 : Int32 × Int32 × Ds → Option (Unit × Ds)) (y1 : Int32) (y4 : Int32) (d : Ds) : Option (Unit × Ds) := gd (chk g x0 11) <| cb (fX12_keysMany N g x0 d) fun u22 d20 => (if u22 ≤ y4 then (cv (fX12_repeats N g x0 d20) fun d24 => (some ((), d24))) else (ob (gR g x0 19) fun r26 => (gd (chk g r26 101) <| gd (¬ (y4 < 0 ∨ gL g r26 ≤ y4.toNatClampNeg)) <| gd ((FP.fmul (dF d20 r26 y4.toNatClampNeg) 1063256064) &&& 0x7fffffff ≤ 0x7f800000) <| bd (FP.fmul (dF d20 r26 y4.toNatClampNeg) 1063256064) fun u30 => (bd (sF d20 r26 y4.toNatClampNeg u30) fun d31 => (cb (fX12_has N g y1 y4 d31) fun u34 d32 => (if u34 = 0 then (fX12_ticks_J217 N g x0 K165 y1 y4 d32) else (gd ((FP.fadd (dF d32 r26 y4.toNatClampNeg) 1040187392) &&& 0x7fffffff ≤ 0x7f800000) <| bd (FP.fadd (dF d32 r26 y4.toNatClampNeg) 1040187392) fun u38 => (bd (sF d32 r26 y4.toNatClampNeg u38) fun d39 => (fX12_ticks_J217 N g x0 K165 y1 y4 d39)))))))))
set_option maxHeartbeats 4000000 in
set_option maxRecDepth 100000 in
theorem tX12_ticks_165 {p : Program} {l : Launch} {e : Env} {s : State} {m : MethodId} {args : Array Value} {below : List Frame} {meth : Method} {c : Code} {D : va_G} {cy : Nat → ClassId} {B : Bs} (C : Cx p s m args c cX12_ticks 5 RX12 D cy B) (hr : meth.sig.returnType = none) (hlocks : meth.locks = false) {N : Nat} {g : Gs} {x0 : Nat}  {dz : Ds} {K165 : Int32 × Int32 × Ds → Option (Unit × Ds)} (hK165 : ∀ a, K165 a = some ((), dz) → WB p l e rmX12_ticks s m args below meth c 5 D cy B 0 0 (MQ below (QV D cy B g dz) args s 0 0 (wA B)) g a.2.2 [(0, .ref (ad B x0)), (1, .int a.1), (4, .int a.2.1)] 165 []) {y1 : Int32} {y4 : Int32} {d : Ds} (hf : fX12_ticks_B165 N g x0 K165 y1 y4 d = some ((), dz)) : WB p l e rmX12_ticks s m args below meth c 5 D cy B 0 0 (MQ below (QV D cy B g dz) args s 0 0 (wA B)) g d [(0, .ref (ad B x0)), (1, .int y1), (4, .int y4)] 165 [] := by
  unfold fX12_ticks_B165 at hf
  refine b_iload C dX12_ticks_165 2 rfl ?_
  refine b_aload_n C dX12_ticks_167 0 rfl rfl ?_
  obtain ⟨h19, hf⟩ := gd_s hf
  obtain ⟨u22, d20, k21, hf⟩ := cb_s hf
  refine b_cVI C [.int y4] dX12_ticks_168 (kX12_keysMany l D cy B k21) lv_X12_206 ⟨rfl, rfl, Nat.le_of_ble_eq_true rfl, Nat.le_of_ble_eq_true rfl⟩ h19 (by decide) rfl (Nat.le_of_ble_eq_true rfl) ⟨Nat.zero_le _, Nat.zero_le _⟩ rfl ?_
  refine b_icmp_ge C (tgt := 223) dX12_ticks_171 (by decide) (fun c23 => ?_) (fun c23 => ?_)
  · have hf := it_s c23 hf
    refine b_aload_n C dX12_ticks_223 0 rfl rfl ?_
    obtain ⟨d24, k25, hf⟩ := cv_s hf
    refine b_cVN C [] dX12_ticks_224 (kX12_repeats l D cy B k25) lv_X12_241 ⟨rfl, rfl, Nat.le_of_ble_eq_true rfl, Nat.le_of_ble_eq_true rfl⟩ h19 (by decide) rfl (Nat.le_of_ble_eq_true rfl) ⟨Nat.zero_le _, Nat.zero_le _⟩ rfl ?_
    exact b_vret C hr hlocks hf dX12_ticks_227
  · have hf := if_s c23 hf
    refine b_aload_n C dX12_ticks_174 0 rfl rfl ?_
    obtain ⟨r26, er26, hf⟩ := ob_s hf
    refine b_gR C dX12_ticks_175 fl_X12_46 h19 er26 ?_
    refine b_iload C dX12_ticks_178 2 rfl ?_
    refine b_aload_n C dX12_ticks_180 0 rfl rfl ?_
    refine b_gR C dX12_ticks_181 fl_X12_46 h19 er26 ?_
    refine b_iload C dX12_ticks_184 2 rfl ?_
    obtain ⟨h27, hf⟩ := gd_s hf
    obtain ⟨h28, hf⟩ := gd_s hf
    refine b_fald C h27 h28 dX12_ticks_186 ?_
    refine b_ldcf C ct_X12_239 dX12_ticks_187 ?_
    obtain ⟨h29, hf⟩ := gd_s hf
    refine b_fmul C dX12_ticks_189 h29 ?_
    obtain ⟨u30, eu30, hf⟩ := bd_s hf
    refine b_topF eu30 ?_
    obtain ⟨d31, ed31, hf⟩ := bd_s hf
    refine b_fast C h27 h28 ed31 dX12_ticks_190 ?_
    refine b_iload_n C dX12_ticks_191 1 rfl rfl ?_
    refine b_iload C dX12_ticks_192 2 rfl ?_
    obtain ⟨u34, d32, k33, hf⟩ := cb_s hf
    refine b_cSI C [] dX12_ticks_194 (kX12_has l D cy B k33) lv_X12_210 ⟨rfl, rfl, Nat.le_of_ble_eq_true rfl, Nat.le_of_ble_eq_true rfl⟩ rfl (Nat.le_of_ble_eq_true rfl) ⟨Nat.zero_le _, Nat.zero_le _⟩ rfl ?_
    refine b_if_eq C (tgt := 217) dX12_ticks_197 (by decide) (fun c35 => ?_) (fun c35 => ?_)
    · have hf := it_s c35 hf
      refine b_sub [(0, .ref (ad B x0)), (1, .int y1), (4, .int y4)] [0, 1, 2] rfl ?_
      exact tX12_ticks_217 C hr hlocks hK165 hf
    · have hf := if_s c35 hf
      refine b_aload_n C dX12_ticks_200 0 rfl rfl ?_
      refine b_gR C dX12_ticks_201 fl_X12_46 h19 er26 ?_
      refine b_iload C dX12_ticks_204 2 rfl ?_
      refine b_aload_n C dX12_ticks_206 0 rfl rfl ?_
      refine b_gR C dX12_ticks_207 fl_X12_46 h19 er26 ?_
      refine b_iload C dX12_ticks_210 2 rfl ?_
      refine b_fald C h27 h28 dX12_ticks_212 ?_
      refine b_ldcf C ct_X12_240 dX12_ticks_213 ?_
      obtain ⟨h37, hf⟩ := gd_s hf
      refine b_fadd C dX12_ticks_215 h37 ?_
      obtain ⟨u38, eu38, hf⟩ := bd_s hf
      refine b_topF eu38 ?_
      obtain ⟨d39, ed39, hf⟩ := bd_s hf
      refine b_fast C h27 h28 ed39 dX12_ticks_216 ?_
      refine b_sub [(0, .ref (ad B x0)), (1, .int y1), (4, .int y4)] [0, 1, 2] rfl ?_
      exact tX12_ticks_217 C hr hlocks hK165 hf
def fX12_ticks_L165 (N : Nat) (g : Gs) (x0 : Nat) : Int32 × Int32 × Ds → Option (Unit × Ds) := lp (fun K165 a => fX12_ticks_B165 N g x0 K165 a.1 a.2.1 a.2.2) N
theorem tX12_ticks_L165 {p : Program} {l : Launch} {e : Env} {s : State} {m : MethodId} {args : Array Value} {below : List Frame} {meth : Method} {c : Code} {D : va_G} {cy : Nat → ClassId} {B : Bs} (C : Cx p s m args c cX12_ticks 5 RX12 D cy B) (hr : meth.sig.returnType = none) (hlocks : meth.locks = false) {N : Nat} {g : Gs} {x0 : Nat}  {dz : Ds} (a : Int32 × Int32 × Ds) (hf : fX12_ticks_L165 N g x0 a = some ((), dz)) : WB p l e rmX12_ticks s m args below meth c 5 D cy B 0 0 (MQ below (QV D cy B g dz) args s 0 0 (wA B)) g a.2.2 [(0, .ref (ad B x0)), (1, .int a.1), (4, .int a.2.1)] 165 [] :=
  lp_w (fun K165 hK165 a ha => tX12_ticks_165 C hr hlocks hK165 ha) N a hf
set_option maxRecDepth 100000 in
def fX12_ticks_J162 (N : Nat) (g : Gs) (x0 : Nat) (y1 : Int32) (d : Ds) : Option (Unit × Ds) := fX12_ticks_L165 N g x0 (y1, 0, d)
set_option maxHeartbeats 4000000 in
set_option maxRecDepth 100000 in
theorem tX12_ticks_162 {p : Program} {l : Launch} {e : Env} {s : State} {m : MethodId} {args : Array Value} {below : List Frame} {meth : Method} {c : Code} {D : va_G} {cy : Nat → ClassId} {B : Bs} (C : Cx p s m args c cX12_ticks 5 RX12 D cy B) (hr : meth.sig.returnType = none) (hlocks : meth.locks = false) {N : Nat} {g : Gs} {x0 : Nat}  {dz : Ds} {y1 : Int32} {d : Ds} (hf : fX12_ticks_J162 N g x0 y1 d = some ((), dz)) : WB p l e rmX12_ticks s m args below meth c 5 D cy B 0 0 (MQ below (QV D cy B g dz) args s 0 0 (wA B)) g d [(0, .ref (ad B x0)), (1, .int y1)] 162 [] := by
  unfold fX12_ticks_J162 at hf
  refine b_iconst C (v := 0) dX12_ticks_162 (by decide) ?_
  refine b_istore C dX12_ticks_163 [(4, .int 0), (0, .ref (ad B x0)), (1, .int y1)] (by decide) rfl ?_
  refine b_sub [(0, .ref (ad B x0)), (1, .int y1), (4, .int 0)] [1, 2, 0] rfl ?_
  exact tX12_ticks_L165 C hr hlocks (y1, 0, d) hf
set_option maxRecDepth 100000 in
def fX12_ticks_B139 (N : Nat) (g : Gs) (x0 : Nat) (K139 : Int32 × Int32 × Ds → Option (Unit × Ds)) (y1 : Int32) (y3 : Int32) (d : Ds) : Option (Unit × Ds) := if y3 = 0 then (fX12_ticks_J162 N g x0 y1 d) else (gd (chk g x0 11) <| ob (gR g x0 17) fun r41 => (gd (chk g r41 102) <| gd (¬ ((557 : Int32) < 0 ∨ gL g r41 ≤ (557 : Int32).toNatClampNeg)) <| if (dI d r41 (557 : Int32).toNatClampNeg) ≤ 0 then (fX12_ticks_J162 N g x0 y1 d) else (cb (fX12_works N g x0 d) fun u47 d45 => (K139 (y1, u47, d45)))))
set_option maxHeartbeats 4000000 in
set_option maxRecDepth 100000 in
theorem tX12_ticks_139 {p : Program} {l : Launch} {e : Env} {s : State} {m : MethodId} {args : Array Value} {below : List Frame} {meth : Method} {c : Code} {D : va_G} {cy : Nat → ClassId} {B : Bs} (C : Cx p s m args c cX12_ticks 5 RX12 D cy B) (hr : meth.sig.returnType = none) (hlocks : meth.locks = false) {N : Nat} {g : Gs} {x0 : Nat}  {dz : Ds} {K139 : Int32 × Int32 × Ds → Option (Unit × Ds)} (hK139 : ∀ a, K139 a = some ((), dz) → WB p l e rmX12_ticks s m args below meth c 5 D cy B 0 0 (MQ below (QV D cy B g dz) args s 0 0 (wA B)) g a.2.2 [(0, .ref (ad B x0)), (1, .int a.1), (3, .int a.2.1)] 139 []) {y1 : Int32} {y3 : Int32} {d : Ds} (hf : fX12_ticks_B139 N g x0 K139 y1 y3 d = some ((), dz)) : WB p l e rmX12_ticks s m args below meth c 5 D cy B 0 0 (MQ below (QV D cy B g dz) args s 0 0 (wA B)) g d [(0, .ref (ad B x0)), (1, .int y1), (3, .int y3)] 139 [] := by
  unfold fX12_ticks_B139 at hf
  refine b_iload_n C dX12_ticks_139 2 rfl rfl ?_
  refine b_if_eq C (tgt := 162) dX12_ticks_140 (by decide) (fun c18 => ?_) (fun c18 => ?_)
  · have hf := it_s c18 hf
    refine b_sub [(0, .ref (ad B x0)), (1, .int y1)] [0, 1] rfl ?_
    exact tX12_ticks_162 C hr hlocks hf
  · have hf := if_s c18 hf
    refine b_aload_n C dX12_ticks_143 0 rfl rfl ?_
    obtain ⟨h40, hf⟩ := gd_s hf
    obtain ⟨r41, er41, hf⟩ := ob_s hf
    refine b_gR C dX12_ticks_144 fl_X12_40 h40 er41 ?_
    refine b_sipush C (v := 557) dX12_ticks_147 (by decide) ?_
    obtain ⟨h42, hf⟩ := gd_s hf
    obtain ⟨h43, hf⟩ := gd_s hf
    refine b_iald C h42 h43 dX12_ticks_150 ?_
    refine b_if_le C (tgt := 162) dX12_ticks_151 (by decide) (fun c44 => ?_) (fun c44 => ?_)
    · have hf := it_s c44 hf
      refine b_sub [(0, .ref (ad B x0)), (1, .int y1)] [0, 1] rfl ?_
      exact tX12_ticks_162 C hr hlocks hf
    · have hf := if_s c44 hf
      refine b_aload_n C dX12_ticks_154 0 rfl rfl ?_
      obtain ⟨u47, d45, k46, hf⟩ := cb_s hf
      refine b_cVI C [] dX12_ticks_155 (kX12_works l D cy B k46) lv_X12_235 ⟨rfl, rfl, Nat.le_of_ble_eq_true rfl, Nat.le_of_ble_eq_true rfl⟩ h40 (by decide) rfl (Nat.le_of_ble_eq_true rfl) ⟨Nat.zero_le _, Nat.zero_le _⟩ rfl ?_
      refine b_istore_n C dX12_ticks_158 rfl [(3, .int u47), (0, .ref (ad B x0)), (1, .int y1)] (by decide) rfl ?_
      refine b_goto C (tgt := 139) dX12_ticks_159 (by decide) ?_
      refine b_sub [(0, .ref (ad B x0)), (1, .int y1), (3, .int u47)] [1, 2, 0] rfl ?_
      exact hK139 (y1, u47, d45) hf
def fX12_ticks_L139 (N : Nat) (g : Gs) (x0 : Nat) : Int32 × Int32 × Ds → Option (Unit × Ds) := lp (fun K139 a => fX12_ticks_B139 N g x0 K139 a.1 a.2.1 a.2.2) N
theorem tX12_ticks_L139 {p : Program} {l : Launch} {e : Env} {s : State} {m : MethodId} {args : Array Value} {below : List Frame} {meth : Method} {c : Code} {D : va_G} {cy : Nat → ClassId} {B : Bs} (C : Cx p s m args c cX12_ticks 5 RX12 D cy B) (hr : meth.sig.returnType = none) (hlocks : meth.locks = false) {N : Nat} {g : Gs} {x0 : Nat}  {dz : Ds} (a : Int32 × Int32 × Ds) (hf : fX12_ticks_L139 N g x0 a = some ((), dz)) : WB p l e rmX12_ticks s m args below meth c 5 D cy B 0 0 (MQ below (QV D cy B g dz) args s 0 0 (wA B)) g a.2.2 [(0, .ref (ad B x0)), (1, .int a.1), (3, .int a.2.1)] 139 [] :=
  lp_w (fun K139 hK139 a ha => tX12_ticks_139 C hr hlocks hK139 ha) N a hf
set_option maxRecDepth 100000 in
def fX12_ticks_J131 (N : Nat) (g : Gs) (x0 : Nat) (K33 : Int32 × Int32 × Int32 × Ds → Option (Unit × Ds)) (y1 : Int32) (y2 : Int32) (y3 : Int32) (d : Ds) : Option (Unit × Ds) := bd (y3 + 1) fun u64 => (K33 (y1, y2, u64, d))
set_option maxHeartbeats 4000000 in
set_option maxRecDepth 100000 in
theorem tX12_ticks_131 {p : Program} {l : Launch} {e : Env} {s : State} {m : MethodId} {args : Array Value} {below : List Frame} {meth : Method} {c : Code} {D : va_G} {cy : Nat → ClassId} {B : Bs} (C : Cx p s m args c cX12_ticks 5 RX12 D cy B) (hr : meth.sig.returnType = none) (hlocks : meth.locks = false) {N : Nat} {g : Gs} {x0 : Nat}  {dz : Ds} {K33 : Int32 × Int32 × Int32 × Ds → Option (Unit × Ds)} (hK33 : ∀ a, K33 a = some ((), dz) → WB p l e rmX12_ticks s m args below meth c 5 D cy B 0 0 (MQ below (QV D cy B g dz) args s 0 0 (wA B)) g a.2.2.2 [(0, .ref (ad B x0)), (1, .int a.1), (2, .int a.2.1), (3, .int a.2.2.1)] 33 []) {y1 : Int32} {y2 : Int32} {y3 : Int32} {d : Ds} (hf : fX12_ticks_J131 N g x0 K33 y1 y2 y3 d = some ((), dz)) : WB p l e rmX12_ticks s m args below meth c 5 D cy B 0 0 (MQ below (QV D cy B g dz) args s 0 0 (wA B)) g d [(0, .ref (ad B x0)), (1, .int y1), (2, .int y2), (3, .int y3)] 131 [] := by
  unfold fX12_ticks_J131 at hf
  obtain ⟨u64, eu64, hf⟩ := bd_s hf
  refine b_iinc C dX12_ticks_131 3 rfl (by rw [eu64]; rfl) [(3, .int u64), (0, .ref (ad B x0)), (1, .int y1), (2, .int y2)] (by decide) rfl ?_
  refine b_goto C (tgt := 33) dX12_ticks_134 (by decide) ?_
  refine b_sub [(0, .ref (ad B x0)), (1, .int y1), (2, .int y2), (3, .int u64)] [1, 2, 3, 0] rfl ?_
  exact hK33 (y1, y2, u64, d) hf
set_option maxRecDepth 100000 in
def fX12_ticks_J106 (N : Nat) (g : Gs) (x0 : Nat) (K33 : Int32 × Int32 × Int32 × Ds → Option (Unit × Ds)) (y1 : Int32) (y2 : Int32) (y3 : Int32) (z0 : Int32) (z1 : Int32) (z2 : Nat) (d : Ds) : Option (Unit × Ds) := gd (chk g z2 102) <| gd (¬ (z1 < 0 ∨ gL g z2 ≤ z1.toNatClampNeg)) <| bd (sI d z2 z1.toNatClampNeg z0) fun d57 => (gd (chk g x0 11) <| ob (gR g x0 17) fun r59 => (gd (chk g r59 102) <| gd (¬ (((355 : Int32) + y3) < 0 ∨ gL g r59 ≤ ((355 : Int32) + y3).toNatClampNeg)) <| gd (¬ ((4 : Int32) < 0 ∨ gL g r59 ≤ (4 : Int32).toNatClampNeg)) <| if (dI d57 r59 ((355 : Int32) + y3).toNatClampNeg) = (dI d57 r59 (4 : Int32).toNatClampNeg) then (cv (fX12_changes N g x0 y3 d57) fun d65 => (fX12_ticks_J131 N g x0 K33 y1 y2 y3 d65)) else (fX12_ticks_J131 N g x0 K33 y1 y2 y3 d57)))
set_option maxHeartbeats 4000000 in
set_option maxRecDepth 100000 in
theorem tX12_ticks_106 {p : Program} {l : Launch} {e : Env} {s : State} {m : MethodId} {args : Array Value} {below : List Frame} {meth : Method} {c : Code} {D : va_G} {cy : Nat → ClassId} {B : Bs} (C : Cx p s m args c cX12_ticks 5 RX12 D cy B) (hr : meth.sig.returnType = none) (hlocks : meth.locks = false) {N : Nat} {g : Gs} {x0 : Nat}  {dz : Ds} {K33 : Int32 × Int32 × Int32 × Ds → Option (Unit × Ds)} (hK33 : ∀ a, K33 a = some ((), dz) → WB p l e rmX12_ticks s m args below meth c 5 D cy B 0 0 (MQ below (QV D cy B g dz) args s 0 0 (wA B)) g a.2.2.2 [(0, .ref (ad B x0)), (1, .int a.1), (2, .int a.2.1), (3, .int a.2.2.1)] 33 []) {y1 : Int32} {y2 : Int32} {y3 : Int32} {z0 : Int32} {z1 : Int32} {z2 : Nat} {d : Ds} (hf : fX12_ticks_J106 N g x0 K33 y1 y2 y3 z0 z1 z2 d = some ((), dz)) : WB p l e rmX12_ticks s m args below meth c 5 D cy B 0 0 (MQ below (QV D cy B g dz) args s 0 0 (wA B)) g d [(0, .ref (ad B x0)), (1, .int y1), (2, .int y2), (3, .int y3)] 106 [.int z0, .int z1, .ref (ad B z2)] := by
  unfold fX12_ticks_J106 at hf
  obtain ⟨h55, hf⟩ := gd_s hf
  obtain ⟨h56, hf⟩ := gd_s hf
  obtain ⟨d57, ed57, hf⟩ := bd_s hf
  refine b_iast C h55 h56 ed57 dX12_ticks_106 ?_
  refine b_aload_n C dX12_ticks_107 0 rfl rfl ?_
  obtain ⟨h58, hf⟩ := gd_s hf
  obtain ⟨r59, er59, hf⟩ := ob_s hf
  refine b_gR C dX12_ticks_108 fl_X12_40 h58 er59 ?_
  refine b_sipush C (v := 355) dX12_ticks_111 (by decide) ?_
  refine b_iload_n C dX12_ticks_114 3 rfl rfl ?_
  refine b_iadd C dX12_ticks_115 ?_
  obtain ⟨h60, hf⟩ := gd_s hf
  obtain ⟨h61, hf⟩ := gd_s hf
  refine b_iald C h60 h61 dX12_ticks_116 ?_
  refine b_aload_n C dX12_ticks_117 0 rfl rfl ?_
  refine b_gR C dX12_ticks_118 fl_X12_40 h58 er59 ?_
  refine b_iconst C (v := 4) dX12_ticks_121 (by decide) ?_
  obtain ⟨h62, hf⟩ := gd_s hf
  refine b_iald C h60 h62 dX12_ticks_122 ?_
  refine b_icmp_ne C (tgt := 131) dX12_ticks_123 (by decide) (fun c63 => ?_) (fun c63 => ?_)
  · have hf := if_s c63 hf
    refine b_sub [(0, .ref (ad B x0)), (1, .int y1), (2, .int y2), (3, .int y3)] [0, 1, 2, 3] rfl ?_
    exact tX12_ticks_131 C hr hlocks hK33 hf
  · have hf := it_s c63 hf
    refine b_aload_n C dX12_ticks_126 0 rfl rfl ?_
    refine b_iload_n C dX12_ticks_127 3 rfl rfl ?_
    obtain ⟨d65, k66, hf⟩ := cv_s hf
    refine b_cVN C [] dX12_ticks_128 (kX12_changes l D cy B k66) lv_X12_232 ⟨rfl, rfl, Nat.le_of_ble_eq_true rfl, Nat.le_of_ble_eq_true rfl⟩ h58 (by decide) rfl (Nat.le_of_ble_eq_true rfl) ⟨Nat.zero_le _, Nat.zero_le _⟩ rfl ?_
    refine b_sub [(0, .ref (ad B x0)), (1, .int y1), (2, .int y2), (3, .int y3)] [0, 1, 2, 3] rfl ?_
    exact tX12_ticks_131 C hr hlocks hK33 hf
set_option maxRecDepth 100000 in
def fX12_ticks_J74 (N : Nat) (g : Gs) (x0 : Nat) (K33 : Int32 × Int32 × Int32 × Ds → Option (Unit × Ds)) (y1 : Int32) (y2 : Int32) (y3 : Int32) (z0 : Int32) (d : Ds) : Option (Unit × Ds) := gd (chk g x0 11) <| ob (gR g x0 17) fun r53 => (if z0 = 0 then (fX12_ticks_J106 N g x0 K33 y1 y2 y3 0 ((355 : Int32) + y3) r53 d) else (gd (chk g r53 102) <| gd (¬ (((355 : Int32) + y3) < 0 ∨ gL g r53 ≤ ((355 : Int32) + y3).toNatClampNeg)) <| fX12_ticks_J106 N g x0 K33 y1 y2 y3 ((dI d r53 ((355 : Int32) + y3).toNatClampNeg) + 1) ((355 : Int32) + y3) r53 d))
set_option maxHeartbeats 4000000 in
set_option maxRecDepth 100000 in
theorem tX12_ticks_74 {p : Program} {l : Launch} {e : Env} {s : State} {m : MethodId} {args : Array Value} {below : List Frame} {meth : Method} {c : Code} {D : va_G} {cy : Nat → ClassId} {B : Bs} (C : Cx p s m args c cX12_ticks 5 RX12 D cy B) (hr : meth.sig.returnType = none) (hlocks : meth.locks = false) {N : Nat} {g : Gs} {x0 : Nat}  {dz : Ds} {K33 : Int32 × Int32 × Int32 × Ds → Option (Unit × Ds)} (hK33 : ∀ a, K33 a = some ((), dz) → WB p l e rmX12_ticks s m args below meth c 5 D cy B 0 0 (MQ below (QV D cy B g dz) args s 0 0 (wA B)) g a.2.2.2 [(0, .ref (ad B x0)), (1, .int a.1), (2, .int a.2.1), (3, .int a.2.2.1)] 33 []) {y1 : Int32} {y2 : Int32} {y3 : Int32} {z0 : Int32} {d : Ds} (hf : fX12_ticks_J74 N g x0 K33 y1 y2 y3 z0 d = some ((), dz)) : WB p l e rmX12_ticks s m args below meth c 5 D cy B 0 0 (MQ below (QV D cy B g dz) args s 0 0 (wA B)) g d [(0, .ref (ad B x0)), (1, .int y1), (2, .int y2), (3, .int y3)] 74 [.int z0] := by
  unfold fX12_ticks_J74 at hf
  refine b_istore C dX12_ticks_74 [(4, .int z0), (0, .ref (ad B x0)), (1, .int y1), (2, .int y2), (3, .int y3)] (by decide) rfl ?_
  refine b_aload_n C dX12_ticks_76 1 rfl rfl ?_
  obtain ⟨h52, hf⟩ := gd_s hf
  obtain ⟨r53, er53, hf⟩ := ob_s hf
  refine b_gR C dX12_ticks_77 fl_X12_40 h52 er53 ?_
  refine b_sipush C (v := 355) dX12_ticks_80 (by decide) ?_
  refine b_iload_n C dX12_ticks_83 4 rfl rfl ?_
  refine b_iadd C dX12_ticks_84 ?_
  refine b_iload C dX12_ticks_85 0 rfl ?_
  refine b_if_eq C (tgt := 105) dX12_ticks_87 (by decide) (fun c54 => ?_) (fun c54 => ?_)
  · have hf := it_s c54 hf
    refine b_iconst C (v := 0) dX12_ticks_105 (by decide) ?_
    refine b_sub [(0, .ref (ad B x0)), (1, .int y1), (2, .int y2), (3, .int y3)] [1, 2, 3, 4] rfl ?_
    exact tX12_ticks_106 C hr hlocks hK33 hf
  · have hf := if_s c54 hf
    refine b_aload_n C dX12_ticks_90 1 rfl rfl ?_
    refine b_gR C dX12_ticks_91 fl_X12_40 h52 er53 ?_
    refine b_sipush C (v := 355) dX12_ticks_94 (by decide) ?_
    refine b_iload_n C dX12_ticks_97 4 rfl rfl ?_
    refine b_iadd C dX12_ticks_98 ?_
    obtain ⟨h67, hf⟩ := gd_s hf
    obtain ⟨h68, hf⟩ := gd_s hf
    refine b_iald C h67 h68 dX12_ticks_99 ?_
    refine b_iconst C (v := 1) dX12_ticks_100 (by decide) ?_
    refine b_iadd C dX12_ticks_101 ?_
    refine b_goto C (tgt := 106) dX12_ticks_102 (by decide) ?_
    refine b_sub [(0, .ref (ad B x0)), (1, .int y1), (2, .int y2), (3, .int y3)] [1, 2, 3, 4] rfl ?_
    exact tX12_ticks_106 C hr hlocks hK33 hf
set_option maxRecDepth 100000 in
def fX12_ticks_J73 (N : Nat) (g : Gs) (x0 : Nat) (K33 : Int32 × Int32 × Int32 × Ds → Option (Unit × Ds)) (y1 : Int32) (y2 : Int32) (y3 : Int32) (d : Ds) : Option (Unit × Ds) := fX12_ticks_J74 N g x0 K33 y1 y2 y3 0 d
set_option maxHeartbeats 4000000 in
set_option maxRecDepth 100000 in
theorem tX12_ticks_73 {p : Program} {l : Launch} {e : Env} {s : State} {m : MethodId} {args : Array Value} {below : List Frame} {meth : Method} {c : Code} {D : va_G} {cy : Nat → ClassId} {B : Bs} (C : Cx p s m args c cX12_ticks 5 RX12 D cy B) (hr : meth.sig.returnType = none) (hlocks : meth.locks = false) {N : Nat} {g : Gs} {x0 : Nat}  {dz : Ds} {K33 : Int32 × Int32 × Int32 × Ds → Option (Unit × Ds)} (hK33 : ∀ a, K33 a = some ((), dz) → WB p l e rmX12_ticks s m args below meth c 5 D cy B 0 0 (MQ below (QV D cy B g dz) args s 0 0 (wA B)) g a.2.2.2 [(0, .ref (ad B x0)), (1, .int a.1), (2, .int a.2.1), (3, .int a.2.2.1)] 33 []) {y1 : Int32} {y2 : Int32} {y3 : Int32} {d : Ds} (hf : fX12_ticks_J73 N g x0 K33 y1 y2 y3 d = some ((), dz)) : WB p l e rmX12_ticks s m args below meth c 5 D cy B 0 0 (MQ below (QV D cy B g dz) args s 0 0 (wA B)) g d [(0, .ref (ad B x0)), (1, .int y1), (2, .int y2), (3, .int y3)] 73 [] := by
  unfold fX12_ticks_J73 at hf
  refine b_iconst C (v := 0) dX12_ticks_73 (by decide) ?_
  refine b_sub [(0, .ref (ad B x0)), (1, .int y1), (2, .int y2), (3, .int y3)] [0, 1, 2, 3] rfl ?_
  exact tX12_ticks_74 C hr hlocks hK33 hf
set_option maxRecDepth 100000 in
def fX12_ticks_B33 (N : Nat) (g : Gs) (x0 : Nat) (K33 : Int32 × Int32 × Int32 × Ds → Option (Unit × Ds)) (y1 : Int32) (y2 : Int32) (y3 : Int32) (d : Ds) : Option (Unit × Ds) := gd (chk g x0 11) <| cb (fX12_keysMany N g x0 d) fun u16 d14 => (if u16 ≤ y3 then (fX12_ticks_L139 N g x0 (y1, 1, d14)) else (cb (fX12_has N g y2 y3 d14) fun u50 d48 => (if u50 = 0 then (cb (fX12_has N g y1 y3 d48) fun u71 d69 => (ob (gR g x0 17) fun r72 => (gd (chk g r72 102) <| gd (¬ ((353 : Int32) < 0 ∨ gL g r72 ≤ (353 : Int32).toNatClampNeg)) <| cb (fX12_has N g (dI d69 r72 (353 : Int32).toNatClampNeg) y3 d69) fun u77 d75 => (if u71 = u77 then (fX12_ticks_J73 N g x0 K33 y1 y2 y3 d75) else (fX12_ticks_J74 N g x0 K33 y1 y2 y3 1 d75))))) else (fX12_ticks_J73 N g x0 K33 y1 y2 y3 d48))))
set_option maxHeartbeats 4000000 in
set_option maxRecDepth 100000 in
theorem tX12_ticks_33 {p : Program} {l : Launch} {e : Env} {s : State} {m : MethodId} {args : Array Value} {below : List Frame} {meth : Method} {c : Code} {D : va_G} {cy : Nat → ClassId} {B : Bs} (C : Cx p s m args c cX12_ticks 5 RX12 D cy B) (hr : meth.sig.returnType = none) (hlocks : meth.locks = false) {N : Nat} {g : Gs} {x0 : Nat}  {dz : Ds} {K33 : Int32 × Int32 × Int32 × Ds → Option (Unit × Ds)} (hK33 : ∀ a, K33 a = some ((), dz) → WB p l e rmX12_ticks s m args below meth c 5 D cy B 0 0 (MQ below (QV D cy B g dz) args s 0 0 (wA B)) g a.2.2.2 [(0, .ref (ad B x0)), (1, .int a.1), (2, .int a.2.1), (3, .int a.2.2.1)] 33 []) {y1 : Int32} {y2 : Int32} {y3 : Int32} {d : Ds} (hf : fX12_ticks_B33 N g x0 K33 y1 y2 y3 d = some ((), dz)) : WB p l e rmX12_ticks s m args below meth c 5 D cy B 0 0 (MQ below (QV D cy B g dz) args s 0 0 (wA B)) g d [(0, .ref (ad B x0)), (1, .int y1), (2, .int y2), (3, .int y3)] 33 [] := by
  unfold fX12_ticks_B33 at hf
  refine b_iload_n C dX12_ticks_33 3 rfl rfl ?_
  refine b_aload_n C dX12_ticks_34 0 rfl rfl ?_
  obtain ⟨h13, hf⟩ := gd_s hf
  obtain ⟨u16, d14, k15, hf⟩ := cb_s hf
  refine b_cVI C [.int y3] dX12_ticks_35 (kX12_keysMany l D cy B k15) lv_X12_206 ⟨rfl, rfl, Nat.le_of_ble_eq_true rfl, Nat.le_of_ble_eq_true rfl⟩ h13 (by decide) rfl (Nat.le_of_ble_eq_true rfl) ⟨Nat.zero_le _, Nat.zero_le _⟩ rfl ?_
  refine b_icmp_ge C (tgt := 137) dX12_ticks_38 (by decide) (fun c17 => ?_) (fun c17 => ?_)
  · have hf := it_s c17 hf
    refine b_iconst C (v := 1) dX12_ticks_137 (by decide) ?_
    refine b_istore_n C dX12_ticks_138 rfl [(3, .int 1), (0, .ref (ad B x0)), (1, .int y1), (2, .int y2)] (by decide) rfl ?_
    refine b_sub [(0, .ref (ad B x0)), (1, .int y1), (3, .int 1)] [1, 2, 0] rfl ?_
    exact tX12_ticks_L139 C hr hlocks (y1, 1, d14) hf
  · have hf := if_s c17 hf
    refine b_iload_n C dX12_ticks_41 2 rfl rfl ?_
    refine b_iload_n C dX12_ticks_42 3 rfl rfl ?_
    obtain ⟨u50, d48, k49, hf⟩ := cb_s hf
    refine b_cSI C [] dX12_ticks_43 (kX12_has l D cy B k49) lv_X12_210 ⟨rfl, rfl, Nat.le_of_ble_eq_true rfl, Nat.le_of_ble_eq_true rfl⟩ rfl (Nat.le_of_ble_eq_true rfl) ⟨Nat.zero_le _, Nat.zero_le _⟩ rfl ?_
    refine b_if_ne C (tgt := 73) dX12_ticks_46 (by decide) (fun c51 => ?_) (fun c51 => ?_)
    · have hf := if_s c51 hf
      refine b_sub [(0, .ref (ad B x0)), (1, .int y1), (2, .int y2), (3, .int y3)] [0, 1, 2, 3] rfl ?_
      exact tX12_ticks_73 C hr hlocks hK33 hf
    · have hf := it_s c51 hf
      refine b_iload_n C dX12_ticks_49 1 rfl rfl ?_
      refine b_iload_n C dX12_ticks_50 3 rfl rfl ?_
      obtain ⟨u71, d69, k70, hf⟩ := cb_s hf
      refine b_cSI C [] dX12_ticks_51 (kX12_has l D cy B k70) lv_X12_210 ⟨rfl, rfl, Nat.le_of_ble_eq_true rfl, Nat.le_of_ble_eq_true rfl⟩ rfl (Nat.le_of_ble_eq_true rfl) ⟨Nat.zero_le _, Nat.zero_le _⟩ rfl ?_
      refine b_aload_n C dX12_ticks_54 0 rfl rfl ?_
      obtain ⟨r72, er72, hf⟩ := ob_s hf
      refine b_gR C dX12_ticks_55 fl_X12_40 h13 er72 ?_
      refine b_sipush C (v := 353) dX12_ticks_58 (by decide) ?_
      obtain ⟨h73, hf⟩ := gd_s hf
      obtain ⟨h74, hf⟩ := gd_s hf
      refine b_iald C h73 h74 dX12_ticks_61 ?_
      refine b_iload_n C dX12_ticks_62 3 rfl rfl ?_
      obtain ⟨u77, d75, k76, hf⟩ := cb_s hf
      refine b_cSI C [.int u71] dX12_ticks_63 (kX12_has l D cy B k76) lv_X12_210 ⟨rfl, rfl, Nat.le_of_ble_eq_true rfl, Nat.le_of_ble_eq_true rfl⟩ rfl (Nat.le_of_ble_eq_true rfl) ⟨Nat.zero_le _, Nat.zero_le _⟩ rfl ?_
      refine b_icmp_eq C (tgt := 73) dX12_ticks_66 (by decide) (fun c78 => ?_) (fun c78 => ?_)
      · have hf := it_s c78 hf
        refine b_sub [(0, .ref (ad B x0)), (1, .int y1), (2, .int y2), (3, .int y3)] [0, 1, 2, 3] rfl ?_
        exact tX12_ticks_73 C hr hlocks hK33 hf
      · have hf := if_s c78 hf
        refine b_iconst C (v := 1) dX12_ticks_69 (by decide) ?_
        refine b_goto C (tgt := 74) dX12_ticks_70 (by decide) ?_
        refine b_sub [(0, .ref (ad B x0)), (1, .int y1), (2, .int y2), (3, .int y3)] [0, 1, 2, 3] rfl ?_
        exact tX12_ticks_74 C hr hlocks hK33 hf
def fX12_ticks_L33 (N : Nat) (g : Gs) (x0 : Nat) : Int32 × Int32 × Int32 × Ds → Option (Unit × Ds) := lp (fun K33 a => fX12_ticks_B33 N g x0 K33 a.1 a.2.1 a.2.2.1 a.2.2.2) N
theorem tX12_ticks_L33 {p : Program} {l : Launch} {e : Env} {s : State} {m : MethodId} {args : Array Value} {below : List Frame} {meth : Method} {c : Code} {D : va_G} {cy : Nat → ClassId} {B : Bs} (C : Cx p s m args c cX12_ticks 5 RX12 D cy B) (hr : meth.sig.returnType = none) (hlocks : meth.locks = false) {N : Nat} {g : Gs} {x0 : Nat}  {dz : Ds} (a : Int32 × Int32 × Int32 × Ds) (hf : fX12_ticks_L33 N g x0 a = some ((), dz)) : WB p l e rmX12_ticks s m args below meth c 5 D cy B 0 0 (MQ below (QV D cy B g dz) args s 0 0 (wA B)) g a.2.2.2 [(0, .ref (ad B x0)), (1, .int a.1), (2, .int a.2.1), (3, .int a.2.2.1)] 33 [] :=
  lp_w (fun K33 hK33 a ha => tX12_ticks_33 C hr hlocks hK33 ha) N a hf
set_option maxRecDepth 100000 in
def fX12_ticks (N : Nat) (g : Gs) (x0 : Nat) (d : Ds) : Option (Unit × Ds) := gd (chk g x0 11) <| ob (gR g x0 17) fun r2 => (gd (chk g r2 102) <| gd (¬ ((354 : Int32) < 0 ∨ gL g r2 ≤ (354 : Int32).toNatClampNeg)) <| bd (sI d r2 (354 : Int32).toNatClampNeg ((dI d r2 (354 : Int32).toNatClampNeg) + 1)) fun d5 => (gd (¬ ((352 : Int32) < 0 ∨ gL g r2 ≤ (352 : Int32).toNatClampNeg)) <| cb (fX12_seenBy N g x0 (dI d5 r2 (352 : Int32).toNatClampNeg) d5) fun u9 d7 => (cb (fX12_barredBy N g x0 u9 d7) fun u12 d10 => (fX12_ticks_L33 N g x0 (u9, u12, 0, d10)))))
set_option maxHeartbeats 4000000 in
set_option maxRecDepth 100000 in
theorem tX12_ticks_E {p : Program} {l : Launch} {e : Env} {s : State} {m : MethodId} {args : Array Value} {below : List Frame} {meth : Method} {c : Code} {D : va_G} {cy : Nat → ClassId} {B : Bs} (C : Cx p s m args c cX12_ticks 5 RX12 D cy B) (hr : meth.sig.returnType = none) (hlocks : meth.locks = false) {N : Nat} {g : Gs} {x0 : Nat}  {dz : Ds} {d : Ds} (hf : fX12_ticks N g x0 d = some ((), dz)) : WB p l e rmX12_ticks s m args below meth c 5 D cy B 0 0 (MQ below (QV D cy B g dz) args s 0 0 (wA B)) g d [(0, .ref (ad B x0))] 0 [] := by
  unfold fX12_ticks at hf
  refine b_aload_n C dX12_ticks_0 0 rfl rfl ?_
  obtain ⟨h1, hf⟩ := gd_s hf
  obtain ⟨r2, er2, hf⟩ := ob_s hf
  refine b_gR C dX12_ticks_1 fl_X12_40 h1 er2 ?_
  refine b_sipush C (v := 354) dX12_ticks_4 (by decide) ?_
  refine b_dup2 C dX12_ticks_7 rfl rfl ?_
  obtain ⟨h3, hf⟩ := gd_s hf
  obtain ⟨h4, hf⟩ := gd_s hf
  refine b_iald C h3 h4 dX12_ticks_8 ?_
  refine b_iconst C (v := 1) dX12_ticks_9 (by decide) ?_
  refine b_iadd C dX12_ticks_10 ?_
  obtain ⟨d5, ed5, hf⟩ := bd_s hf
  refine b_iast C h3 h4 ed5 dX12_ticks_11 ?_
  refine b_aload_n C dX12_ticks_12 0 rfl rfl ?_
  refine b_aload_n C dX12_ticks_13 0 rfl rfl ?_
  refine b_gR C dX12_ticks_14 fl_X12_40 h1 er2 ?_
  refine b_sipush C (v := 352) dX12_ticks_17 (by decide) ?_
  obtain ⟨h6, hf⟩ := gd_s hf
  refine b_iald C h3 h6 dX12_ticks_20 ?_
  obtain ⟨u9, d7, k8, hf⟩ := cb_s hf
  refine b_cVI C [] dX12_ticks_21 (kX12_seenBy l D cy B k8) lv_X12_223 ⟨rfl, rfl, Nat.le_of_ble_eq_true rfl, Nat.le_of_ble_eq_true rfl⟩ h1 (by decide) rfl (Nat.le_of_ble_eq_true rfl) ⟨Nat.zero_le _, Nat.zero_le _⟩ rfl ?_
  refine b_istore_n C dX12_ticks_24 rfl [(1, .int u9), (0, .ref (ad B x0))] (by decide) rfl ?_
  refine b_aload_n C dX12_ticks_25 1 rfl rfl ?_
  refine b_iload_n C dX12_ticks_26 0 rfl rfl ?_
  obtain ⟨u12, d10, k11, hf⟩ := cb_s hf
  refine b_cVI C [] dX12_ticks_27 (kX12_barredBy l D cy B k11) lv_X12_229 ⟨rfl, rfl, Nat.le_of_ble_eq_true rfl, Nat.le_of_ble_eq_true rfl⟩ h1 (by decide) rfl (Nat.le_of_ble_eq_true rfl) ⟨Nat.zero_le _, Nat.zero_le _⟩ rfl ?_
  refine b_istore_n C dX12_ticks_30 rfl [(2, .int u12), (1, .int u9), (0, .ref (ad B x0))] (by decide) rfl ?_
  refine b_iconst C (v := 0) dX12_ticks_31 (by decide) ?_
  refine b_istore_n C dX12_ticks_32 rfl [(3, .int 0), (2, .int u12), (1, .int u9), (0, .ref (ad B x0))] (by decide) rfl ?_
  refine b_sub [(0, .ref (ad B x0)), (1, .int u9), (2, .int u12), (3, .int 0)] [3, 2, 1, 0] rfl ?_
  exact tX12_ticks_L33 C hr hlocks (u9, u12, 0, d10) hf
theorem kX12_ticks (l : Launch) (D : va_G) (cy : Nat → ClassId) (B : Bs) {N : Nat} {g : Gs} {x0 : Nat}  {dz : Ds} {d : Ds} (hf : fX12_ticks N g x0 d = some ((), dz)) : Met l yX12_ticks (.code yX12_ticks cX12_ticks 5 none :: wl) rmX12_ticks (PC D cy B [.ref (ad B x0)] g d) (QV D cy B g dz) 0 0 (wA B) :=
  met_of (by decide +kernel) (Nat.le_of_ble_eq_true rfl) (fun p e s m args below meth c C hr hlocks _ => b_sub [(0, .ref (ad B x0))] [0] rfl (tX12_ticks_E C hr hlocks hf))
