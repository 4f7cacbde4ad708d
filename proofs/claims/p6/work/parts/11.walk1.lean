/-! KeyMatrix$Queue.clear()V -/
theorem fl_X4_15 : FLI RX4 15 4 1 := ⟨⟨RX4, TX4, 3, rfl, by decide, inl4, Or.inl (mW (mT2 (List.mem_of_getElem? (i := 80) (by decide +kernel))) rfl)⟩, by decide, by decide +kernel⟩
theorem fp4_1 : FPI 4 1 := ⟨ft4, (RX4, TX4, 3), rfl, by decide +kernel, by decide +kernel⟩
theorem fl_X4_19 : FLI RX4 19 4 2 := ⟨⟨RX4, TX4, 3, rfl, by decide, inl4, Or.inl (mW (mT2 (List.mem_of_getElem? (i := 83) (by decide +kernel))) rfl)⟩, by decide, by decide +kernel⟩
theorem fp4_2 : FPI 4 2 := ⟨ft4, (RX4, TX4, 3), rfl, by decide +kernel, by decide +kernel⟩
theorem dX4_clear_0 : decode cX4_clear 0 = .ok (.aload_n 0, 1) := by decide +kernel
theorem dX4_clear_1 : decode cX4_clear 1 = .ok (.iconst 0, 1) := by decide +kernel
theorem dX4_clear_2 : decode cX4_clear 2 = .ok (.putfield 15, 3) := by decide +kernel
theorem dX4_clear_5 : decode cX4_clear 5 = .ok (.aload_n 0, 1) := by decide +kernel
theorem dX4_clear_6 : decode cX4_clear 6 = .ok (.iconst 0, 1) := by decide +kernel
theorem dX4_clear_7 : decode cX4_clear 7 = .ok (.putfield 19, 3) := by decide +kernel
theorem dX4_clear_10 : decode cX4_clear 10 = .ok (.return_, 1) := by decide +kernel
def rmX4_clear : Room := { frames := 0, cells := 0, slots := 0, locals := 0 }
set_option maxRecDepth 100000 in
def fX4_clear (N : Nat) (g : Gs) (x0 : Nat) (d : Ds) : Option (Unit × Ds) := gd (chk g x0 4) <| bd (sI d x0 1 0) fun d2 => (bd (sI d2 x0 2 0) fun d3 => (some ((), d3)))
set_option maxHeartbeats 4000000 in
set_option maxRecDepth 100000 in
theorem tX4_clear_E {p : Program} {l : Launch} {e : Env} {s : State} {m : MethodId} {args : Array Value} {below : List Frame} {meth : Method} {c : Code} {D : va_G} {cy : Nat → ClassId} {B : Bs} (C : Cx p s m args c cX4_clear 1 RX4 D cy B) (hr : meth.sig.returnType = none) (hlocks : meth.locks = false) {N : Nat} {g : Gs} {x0 : Nat}  {dz : Ds} {d : Ds} (hf : fX4_clear N g x0 d = some ((), dz)) : WB p l e rmX4_clear s m args below meth c 1 D cy B 0 0 (MQ below (QV D cy B g dz) args s 0 0 (wA B)) g d [(0, .ref (ad B x0))] 0 [] := by
  unfold fX4_clear at hf
  refine b_aload_n C dX4_clear_0 0 rfl rfl ?_
  refine b_iconst C (v := 0) dX4_clear_1 (by decide) ?_
  obtain ⟨h1, hf⟩ := gd_s hf
  obtain ⟨d2, ed2, hf⟩ := bd_s hf
  refine b_pI C dX4_clear_2 fl_X4_15 fp4_1 h1 ed2 ?_
  refine b_aload_n C dX4_clear_5 0 rfl rfl ?_
  refine b_iconst C (v := 0) dX4_clear_6 (by decide) ?_
  obtain ⟨d3, ed3, hf⟩ := bd_s hf
  refine b_pI C dX4_clear_7 fl_X4_19 fp4_2 h1 ed3 ?_
  exact b_vret C hr hlocks hf dX4_clear_10
theorem kX4_clear (l : Launch) (D : va_G) (cy : Nat → ClassId) (B : Bs) {N : Nat} {g : Gs} {x0 : Nat}  {dz : Ds} {d : Ds} (hf : fX4_clear N g x0 d = some ((), dz)) : Met l yX4_clear (.code yX4_clear cX4_clear 1 none :: wl) rmX4_clear (PC D cy B [.ref (ad B x0)] g d) (QV D cy B g dz) 0 0 (wA B) :=
  met_of (by decide +kernel) (Nat.le_of_ble_eq_true rfl) (fun p e s m args below meth c C hr hlocks _ => b_sub [(0, .ref (ad B x0))] [0] rfl (tX4_clear_E C hr hlocks hf))
/-! KeyMatrix$Doing.clear()V -/
theorem fl_X3_27 : FLI RX3 27 3 4 := ⟨⟨RX3, TX3, 9, rfl, by decide, inl3, Or.inl (mW (mT2 (List.mem_of_getElem? (i := 107) (by decide +kernel))) rfl)⟩, by decide, by decide +kernel⟩
theorem fp3_4 : FPI 3 4 := ⟨ft3, (RX3, TX3, 9), rfl, by decide +kernel, by decide +kernel⟩
theorem fl_X3_31 : FLI RX3 31 3 5 := ⟨⟨RX3, TX3, 9, rfl, by decide, inl3, Or.inl (mW (mT2 (List.mem_of_getElem? (i := 108) (by decide +kernel))) rfl)⟩, by decide, by decide +kernel⟩
theorem fp3_5 : FPI 3 5 := ⟨ft3, (RX3, TX3, 9), rfl, by decide +kernel, by decide +kernel⟩
theorem fl_X3_9 : FLR RX3 9 3 0 := ⟨⟨RX3, TX3, 9, rfl, by decide, inl3, Or.inl (mW (mT2 (List.mem_of_getElem? (i := 98) (by decide +kernel))) rfl)⟩, by decide, by decide +kernel⟩
theorem fl_X3_15 : FLR RX3 15 3 1 := ⟨⟨RX3, TX3, 9, rfl, by decide, inl3, Or.inl (mW (mT2 (List.mem_of_getElem? (i := 101) (by decide +kernel))) rfl)⟩, by decide, by decide +kernel⟩
theorem fl_X3_18 : FLR RX3 18 3 2 := ⟨⟨RX3, TX3, 9, rfl, by decide, inl3, Or.inl (mW (mT2 (List.mem_of_getElem? (i := 104) (by decide +kernel))) rfl)⟩, by decide, by decide +kernel⟩
theorem dX3_clear_0 : decode cX3_clear 0 = .ok (.iconst 0, 1) := by decide +kernel
theorem dX3_clear_1 : decode cX3_clear 1 = .ok (.istore_n 1, 1) := by decide +kernel
theorem dX3_clear_2 : decode cX3_clear 2 = .ok (.iload_n 1, 1) := by decide +kernel
theorem dX3_clear_3 : decode cX3_clear 3 = .ok (.bipush 24, 2) := by decide +kernel
theorem dX3_clear_5 : decode cX3_clear 5 = .ok (.if_icmp .ge 30, 3) := by decide +kernel
theorem dX3_clear_8 : decode cX3_clear 8 = .ok (.aload_n 0, 1) := by decide +kernel
theorem dX3_clear_9 : decode cX3_clear 9 = .ok (.getfield 9, 3) := by decide +kernel
theorem dX3_clear_12 : decode cX3_clear 12 = .ok (.iload_n 1, 1) := by decide +kernel
theorem dX3_clear_13 : decode cX3_clear 13 = .ok (.iconst (-1), 1) := by decide +kernel
theorem dX3_clear_14 : decode cX3_clear 14 = .ok (.iastore, 1) := by decide +kernel
theorem dX3_clear_15 : decode cX3_clear 15 = .ok (.aload_n 0, 1) := by decide +kernel
theorem dX3_clear_16 : decode cX3_clear 16 = .ok (.getfield 15, 3) := by decide +kernel
theorem dX3_clear_19 : decode cX3_clear 19 = .ok (.iload_n 1, 1) := by decide +kernel
theorem dX3_clear_20 : decode cX3_clear 20 = .ok (.iconst (-1), 1) := by decide +kernel
theorem dX3_clear_21 : decode cX3_clear 21 = .ok (.iastore, 1) := by decide +kernel
theorem dX3_clear_22 : decode cX3_clear 22 = .ok (.aload_n 0, 1) := by decide +kernel
theorem dX3_clear_23 : decode cX3_clear 23 = .ok (.getfield 18, 3) := by decide +kernel
theorem dX3_clear_26 : decode cX3_clear 26 = .ok (.iload_n 1, 1) := by decide +kernel
theorem dX3_clear_27 : decode cX3_clear 27 = .ok (.iconst (-1), 1) := by decide +kernel
theorem dX3_clear_28 : decode cX3_clear 28 = .ok (.iastore, 1) := by decide +kernel
theorem dX3_clear_29 : decode cX3_clear 29 = .ok (.iinc 1 1, 3) := by decide +kernel
theorem dX3_clear_32 : decode cX3_clear 32 = .ok (.goto (-30), 3) := by decide +kernel
theorem dX3_clear_35 : decode cX3_clear 35 = .ok (.aload_n 0, 1) := by decide +kernel
theorem dX3_clear_36 : decode cX3_clear 36 = .ok (.iconst 0, 1) := by decide +kernel
theorem dX3_clear_37 : decode cX3_clear 37 = .ok (.putfield 27, 3) := by decide +kernel
theorem dX3_clear_40 : decode cX3_clear 40 = .ok (.aload_n 0, 1) := by decide +kernel
theorem dX3_clear_41 : decode cX3_clear 41 = .ok (.iconst 0, 1) := by decide +kernel
theorem dX3_clear_42 : decode cX3_clear 42 = .ok (.putfield 31, 3) := by decide +kernel
theorem dX3_clear_45 : decode cX3_clear 45 = .ok (.return_, 1) := by decide +kernel
def rmX3_clear : Room := { frames := 0, cells := 0, slots := 0, locals := 0 }
set_option maxRecDepth 100000 in
def fX3_clear_B2 (N : Nat) (g : Gs) (x0 : Nat) (K2 : Int32 × Ds → Option (Unit × Ds)) (y1 : Int32) (d : Ds) : Option (Unit × Ds) := if (24 : Int32) ≤ y1 then (gd (chk g x0 3) <| bd (sI d x0 4 0) fun d3 => (bd (sI d3 x0 5 0) fun d4 => (some ((), d4)))) else (gd (chk g x0 3) <| ob (gR g x0 0) fun r6 => (gd (chk g r6 102) <| gd (¬ (y1 < 0 ∨ gL g r6 ≤ y1.toNatClampNeg)) <| bd (sI d r6 y1.toNatClampNeg (-1)) fun d9 => (ob (gR g x0 1) fun r10 => (gd (chk g r10 102) <| gd (¬ (y1 < 0 ∨ gL g r10 ≤ y1.toNatClampNeg)) <| bd (sI d9 r10 y1.toNatClampNeg (-1)) fun d13 => (ob (gR g x0 2) fun r14 => (gd (chk g r14 102) <| gd (¬ (y1 < 0 ∨ gL g r14 ≤ y1.toNatClampNeg)) <| bd (sI d13 r14 y1.toNatClampNeg (-1)) fun d17 => (bd (y1 + 1) fun u18 => (K2 (u18, d17)))))))))
set_option maxHeartbeats 4000000 in
set_option maxRecDepth 100000 in
theorem tX3_clear_2 {p : Program} {l : Launch} {e : Env} {s : State} {m : MethodId} {args : Array Value} {below : List Frame} {meth : Method} {c : Code} {D : va_G} {cy : Nat → ClassId} {B : Bs} (C : Cx p s m args c cX3_clear 2 RX3 D cy B) (hr : meth.sig.returnType = none) (hlocks : meth.locks = false) {N : Nat} {g : Gs} {x0 : Nat}  {dz : Ds} {K2 : Int32 × Ds → Option (Unit × Ds)} (hK2 : ∀ a, K2 a = some ((), dz) → WB p l e rmX3_clear s m args below meth c 2 D cy B 0 0 (MQ below (QV D cy B g dz) args s 0 0 (wA B)) g a.2 [(0, .ref (ad B x0)), (1, .int a.1)] 2 []) {y1 : Int32} {d : Ds} (hf : fX3_clear_B2 N g x0 K2 y1 d = some ((), dz)) : WB p l e rmX3_clear s m args below meth c 2 D cy B 0 0 (MQ below (QV D cy B g dz) args s 0 0 (wA B)) g d [(0, .ref (ad B x0)), (1, .int y1)] 2 [] := by
  unfold fX3_clear_B2 at hf
  refine b_iload_n C dX3_clear_2 1 rfl rfl ?_
  refine b_bipush C (v := 24) dX3_clear_3 (by decide) ?_
  refine b_icmp_ge C (tgt := 35) dX3_clear_5 (by decide) (fun c1 => ?_) (fun c1 => ?_)
  · have hf := it_s c1 hf
    refine b_aload_n C dX3_clear_35 0 rfl rfl ?_
    refine b_iconst C (v := 0) dX3_clear_36 (by decide) ?_
    obtain ⟨h2, hf⟩ := gd_s hf
    obtain ⟨d3, ed3, hf⟩ := bd_s hf
    refine b_pI C dX3_clear_37 fl_X3_27 fp3_4 h2 ed3 ?_
    refine b_aload_n C dX3_clear_40 0 rfl rfl ?_
    refine b_iconst C (v := 0) dX3_clear_41 (by decide) ?_
    obtain ⟨d4, ed4, hf⟩ := bd_s hf
    refine b_pI C dX3_clear_42 fl_X3_31 fp3_5 h2 ed4 ?_
    exact b_vret C hr hlocks hf dX3_clear_45
  · have hf := if_s c1 hf
    refine b_aload_n C dX3_clear_8 0 rfl rfl ?_
    obtain ⟨h5, hf⟩ := gd_s hf
    obtain ⟨r6, er6, hf⟩ := ob_s hf
    refine b_gR C dX3_clear_9 fl_X3_9 h5 er6 ?_
    refine b_iload_n C dX3_clear_12 1 rfl rfl ?_
    refine b_iconst C (v := (-1)) dX3_clear_13 (by decide) ?_
    obtain ⟨h7, hf⟩ := gd_s hf
    obtain ⟨h8, hf⟩ := gd_s hf
    obtain ⟨d9, ed9, hf⟩ := bd_s hf
    refine b_iast C h7 h8 ed9 dX3_clear_14 ?_
    refine b_aload_n C dX3_clear_15 0 rfl rfl ?_
    obtain ⟨r10, er10, hf⟩ := ob_s hf
    refine b_gR C dX3_clear_16 fl_X3_15 h5 er10 ?_
    refine b_iload_n C dX3_clear_19 1 rfl rfl ?_
    refine b_iconst C (v := (-1)) dX3_clear_20 (by decide) ?_
    obtain ⟨h11, hf⟩ := gd_s hf
    obtain ⟨h12, hf⟩ := gd_s hf
    obtain ⟨d13, ed13, hf⟩ := bd_s hf
    refine b_iast C h11 h12 ed13 dX3_clear_21 ?_
    refine b_aload_n C dX3_clear_22 0 rfl rfl ?_
    obtain ⟨r14, er14, hf⟩ := ob_s hf
    refine b_gR C dX3_clear_23 fl_X3_18 h5 er14 ?_
    refine b_iload_n C dX3_clear_26 1 rfl rfl ?_
    refine b_iconst C (v := (-1)) dX3_clear_27 (by decide) ?_
    obtain ⟨h15, hf⟩ := gd_s hf
    obtain ⟨h16, hf⟩ := gd_s hf
    obtain ⟨d17, ed17, hf⟩ := bd_s hf
    refine b_iast C h15 h16 ed17 dX3_clear_28 ?_
    obtain ⟨u18, eu18, hf⟩ := bd_s hf
    refine b_iinc C dX3_clear_29 1 rfl (by rw [eu18]; rfl) [(1, .int u18), (0, .ref (ad B x0))] (by decide) rfl ?_
    refine b_goto C (tgt := 2) dX3_clear_32 (by decide) ?_
    refine b_sub [(0, .ref (ad B x0)), (1, .int u18)] [1, 0] rfl ?_
    exact hK2 (u18, d17) hf
def fX3_clear_L2 (N : Nat) (g : Gs) (x0 : Nat) : Int32 × Ds → Option (Unit × Ds) := lp (fun K2 a => fX3_clear_B2 N g x0 K2 a.1 a.2) N
theorem tX3_clear_L2 {p : Program} {l : Launch} {e : Env} {s : State} {m : MethodId} {args : Array Value} {below : List Frame} {meth : Method} {c : Code} {D : va_G} {cy : Nat → ClassId} {B : Bs} (C : Cx p s m args c cX3_clear 2 RX3 D cy B) (hr : meth.sig.returnType = none) (hlocks : meth.locks = false) {N : Nat} {g : Gs} {x0 : Nat}  {dz : Ds} (a : Int32 × Ds) (hf : fX3_clear_L2 N g x0 a = some ((), dz)) : WB p l e rmX3_clear s m args below meth c 2 D cy B 0 0 (MQ below (QV D cy B g dz) args s 0 0 (wA B)) g a.2 [(0, .ref (ad B x0)), (1, .int a.1)] 2 [] :=
  lp_w (fun K2 hK2 a ha => tX3_clear_2 C hr hlocks hK2 ha) N a hf
set_option maxRecDepth 100000 in
def fX3_clear (N : Nat) (g : Gs) (x0 : Nat) (d : Ds) : Option (Unit × Ds) := fX3_clear_L2 N g x0 (0, d)
set_option maxHeartbeats 4000000 in
set_option maxRecDepth 100000 in
theorem tX3_clear_E {p : Program} {l : Launch} {e : Env} {s : State} {m : MethodId} {args : Array Value} {below : List Frame} {meth : Method} {c : Code} {D : va_G} {cy : Nat → ClassId} {B : Bs} (C : Cx p s m args c cX3_clear 2 RX3 D cy B) (hr : meth.sig.returnType = none) (hlocks : meth.locks = false) {N : Nat} {g : Gs} {x0 : Nat}  {dz : Ds} {d : Ds} (hf : fX3_clear N g x0 d = some ((), dz)) : WB p l e rmX3_clear s m args below meth c 2 D cy B 0 0 (MQ below (QV D cy B g dz) args s 0 0 (wA B)) g d [(0, .ref (ad B x0))] 0 [] := by
  unfold fX3_clear at hf
  refine b_iconst C (v := 0) dX3_clear_0 (by decide) ?_
  refine b_istore_n C dX3_clear_1 rfl [(1, .int 0), (0, .ref (ad B x0))] (by decide) rfl ?_
  refine b_sub [(0, .ref (ad B x0)), (1, .int 0)] [1, 0] rfl ?_
  exact tX3_clear_L2 C hr hlocks (0, d) hf
theorem kX3_clear (l : Launch) (D : va_G) (cy : Nat → ClassId) (B : Bs) {N : Nat} {g : Gs} {x0 : Nat}  {dz : Ds} {d : Ds} (hf : fX3_clear N g x0 d = some ((), dz)) : Met l yX3_clear (.code yX3_clear cX3_clear 2 none :: wl) rmX3_clear (PC D cy B [.ref (ad B x0)] g d) (QV D cy B g dz) 0 0 (wA B) :=
  met_of (by decide +kernel) (Nat.le_of_ble_eq_true rfl) (fun p e s m args below meth c C hr hlocks _ => b_sub [(0, .ref (ad B x0))] [0] rfl (tX3_clear_E C hr hlocks hf))
/-! KeyMatrix$Reports.makeLatest(II)V -/
theorem fl_X5_43 : FLI RX5 43 5 5 := ⟨⟨RX5, TX5, 9, rfl, by decide, inl5, Or.inl (mW (mT2 (List.mem_of_getElem? (i := 154) (by decide +kernel))) rfl)⟩, by decide, by decide +kernel⟩
theorem fp5_5 : FPI 5 5 := ⟨ft5, (RX5, TX5, 9), rfl, by decide +kernel, by decide +kernel⟩
theorem fl_X5_46 : FLI RX5 46 5 6 := ⟨⟨RX5, TX5, 9, rfl, by decide, inl5, Or.inl (mW (mT2 (List.mem_of_getElem? (i := 156) (by decide +kernel))) rfl)⟩, by decide, by decide +kernel⟩
theorem fp5_6 : FPI 5 6 := ⟨ft5, (RX5, TX5, 9), rfl, by decide +kernel, by decide +kernel⟩
theorem fl_X5_49 : FLI RX5 49 5 8 := ⟨⟨RX5, TX5, 9, rfl, by decide, inl5, Or.inl (mW (mT2 (List.mem_of_getElem? (i := 160) (by decide +kernel))) rfl)⟩, by decide, by decide +kernel⟩
theorem fp5_8 : FPI 5 8 := ⟨ft5, (RX5, TX5, 9), rfl, by decide +kernel, by decide +kernel⟩
theorem dX5_makeLatest_0 : decode cX5_makeLatest 0 = .ok (.aload_n 0, 1) := by decide +kernel
theorem dX5_makeLatest_1 : decode cX5_makeLatest 1 = .ok (.iload_n 1, 1) := by decide +kernel
theorem dX5_makeLatest_2 : decode cX5_makeLatest 2 = .ok (.putfield 43, 3) := by decide +kernel
theorem dX5_makeLatest_5 : decode cX5_makeLatest 5 = .ok (.aload_n 0, 1) := by decide +kernel
theorem dX5_makeLatest_6 : decode cX5_makeLatest 6 = .ok (.iload_n 2, 1) := by decide +kernel
theorem dX5_makeLatest_7 : decode cX5_makeLatest 7 = .ok (.putfield 46, 3) := by decide +kernel
theorem dX5_makeLatest_10 : decode cX5_makeLatest 10 = .ok (.aload_n 0, 1) := by decide +kernel
theorem dX5_makeLatest_11 : decode cX5_makeLatest 11 = .ok (.iload_n 1, 1) := by decide +kernel
theorem dX5_makeLatest_12 : decode cX5_makeLatest 12 = .ok (.iconst (-1), 1) := by decide +kernel
theorem dX5_makeLatest_13 : decode cX5_makeLatest 13 = .ok (.if_icmp .ne 7, 3) := by decide +kernel
theorem dX5_makeLatest_16 : decode cX5_makeLatest 16 = .ok (.iconst (-1), 1) := by decide +kernel
theorem dX5_makeLatest_17 : decode cX5_makeLatest 17 = .ok (.goto 4, 3) := by decide +kernel
theorem dX5_makeLatest_20 : decode cX5_makeLatest 20 = .ok (.iconst 0, 1) := by decide +kernel
theorem dX5_makeLatest_21 : decode cX5_makeLatest 21 = .ok (.putfield 49, 3) := by decide +kernel
theorem dX5_makeLatest_24 : decode cX5_makeLatest 24 = .ok (.return_, 1) := by decide +kernel
def rmX5_makeLatest : Room := { frames := 0, cells := 0, slots := 0, locals := 0 }
set_option maxRecDepth 100000 in
def fX5_makeLatest_J21 (N : Nat) (g : Gs) (x0 : Nat) (x1 : Int32) (x2 : Int32) (z0 : Int32) (z1 : Nat) (d : Ds) : Option (Unit × Ds) := gd (chk g z1 5) <| bd (sI d z1 8 z0) fun d6 => (some ((), d6))
set_option maxHeartbeats 4000000 in
set_option maxRecDepth 100000 in
theorem tX5_makeLatest_21 {p : Program} {l : Launch} {e : Env} {s : State} {m : MethodId} {args : Array Value} {below : List Frame} {meth : Method} {c : Code} {D : va_G} {cy : Nat → ClassId} {B : Bs} (C : Cx p s m args c cX5_makeLatest 3 RX5 D cy B) (hr : meth.sig.returnType = none) (hlocks : meth.locks = false) {N : Nat} {g : Gs} {x0 : Nat} {x1 : Int32} {x2 : Int32}  {dz : Ds} {z0 : Int32} {z1 : Nat} {d : Ds} (hf : fX5_makeLatest_J21 N g x0 x1 x2 z0 z1 d = some ((), dz)) : WB p l e rmX5_makeLatest s m args below meth c 3 D cy B 0 0 (MQ below (QV D cy B g dz) args s 0 0 (wA B)) g d [(0, .ref (ad B x0)), (1, .int x1), (2, .int x2)] 21 [.int z0, .ref (ad B z1)] := by
  unfold fX5_makeLatest_J21 at hf
  obtain ⟨h5, hf⟩ := gd_s hf
  obtain ⟨d6, ed6, hf⟩ := bd_s hf
  refine b_pI C dX5_makeLatest_21 fl_X5_49 fp5_8 h5 ed6 ?_
  exact b_vret C hr hlocks hf dX5_makeLatest_24
set_option maxRecDepth 100000 in
def fX5_makeLatest (N : Nat) (g : Gs) (x0 : Nat) (x1 : Int32) (x2 : Int32) (d : Ds) : Option (Unit × Ds) := gd (chk g x0 5) <| bd (sI d x0 5 x1) fun d2 => (bd (sI d2 x0 6 x2) fun d3 => (if x1 = (-1 : Int32) then (fX5_makeLatest_J21 N g x0 x1 x2 (-1) x0 d3) else (fX5_makeLatest_J21 N g x0 x1 x2 0 x0 d3)))
set_option maxHeartbeats 4000000 in
set_option maxRecDepth 100000 in
theorem tX5_makeLatest_E {p : Program} {l : Launch} {e : Env} {s : State} {m : MethodId} {args : Array Value} {below : List Frame} {meth : Method} {c : Code} {D : va_G} {cy : Nat → ClassId} {B : Bs} (C : Cx p s m args c cX5_makeLatest 3 RX5 D cy B) (hr : meth.sig.returnType = none) (hlocks : meth.locks = false) {N : Nat} {g : Gs} {x0 : Nat} {x1 : Int32} {x2 : Int32}  {dz : Ds} {d : Ds} (hf : fX5_makeLatest N g x0 x1 x2 d = some ((), dz)) : WB p l e rmX5_makeLatest s m args below meth c 3 D cy B 0 0 (MQ below (QV D cy B g dz) args s 0 0 (wA B)) g d [(0, .ref (ad B x0)), (1, .int x1), (2, .int x2)] 0 [] := by
  unfold fX5_makeLatest at hf
  refine b_aload_n C dX5_makeLatest_0 0 rfl rfl ?_
  refine b_iload_n C dX5_makeLatest_1 1 rfl rfl ?_
  obtain ⟨h1, hf⟩ := gd_s hf
  obtain ⟨d2, ed2, hf⟩ := bd_s hf
  refine b_pI C dX5_makeLatest_2 fl_X5_43 fp5_5 h1 ed2 ?_
  refine b_aload_n C dX5_makeLatest_5 0 rfl rfl ?_
  refine b_iload_n C dX5_makeLatest_6 2 rfl rfl ?_
  obtain ⟨d3, ed3, hf⟩ := bd_s hf
  refine b_pI C dX5_makeLatest_7 fl_X5_46 fp5_6 h1 ed3 ?_
  refine b_aload_n C dX5_makeLatest_10 0 rfl rfl ?_
  refine b_iload_n C dX5_makeLatest_11 1 rfl rfl ?_
  refine b_iconst C (v := (-1)) dX5_makeLatest_12 (by decide) ?_
  refine b_icmp_ne C (tgt := 20) dX5_makeLatest_13 (by decide) (fun c4 => ?_) (fun c4 => ?_)
  · have hf := if_s c4 hf
    refine b_iconst C (v := 0) dX5_makeLatest_20 (by decide) ?_
    refine b_sub [(0, .ref (ad B x0)), (1, .int x1), (2, .int x2)] [0, 1, 2] rfl ?_
    exact tX5_makeLatest_21 C hr hlocks hf
  · have hf := it_s c4 hf
    refine b_iconst C (v := (-1)) dX5_makeLatest_16 (by decide) ?_
    refine b_goto C (tgt := 21) dX5_makeLatest_17 (by decide) ?_
    refine b_sub [(0, .ref (ad B x0)), (1, .int x1), (2, .int x2)] [0, 1, 2] rfl ?_
    exact tX5_makeLatest_21 C hr hlocks hf
theorem kX5_makeLatest (l : Launch) (D : va_G) (cy : Nat → ClassId) (B : Bs) {N : Nat} {g : Gs} {x0 : Nat} {x1 : Int32} {x2 : Int32}  {dz : Ds} {d : Ds} (hf : fX5_makeLatest N g x0 x1 x2 d = some ((), dz)) : Met l yX5_makeLatest (.code yX5_makeLatest cX5_makeLatest 3 none :: wl) rmX5_makeLatest (PC D cy B [.ref (ad B x0), .int x1, .int x2] g d) (QV D cy B g dz) 0 0 (wA B) :=
  met_of (by decide +kernel) (Nat.le_of_ble_eq_true rfl) (fun p e s m args below meth c C hr hlocks _ => b_sub [(0, .ref (ad B x0)), (1, .int x1), (2, .int x2)] [0, 1, 2] rfl (tX5_makeLatest_E C hr hlocks hf))
/-! KeyMatrix$Reports.clear()V -/
theorem fl_X5_26 : FLI RX5 26 5 4 := ⟨⟨RX5, TX5, 9, rfl, by decide, inl5, Or.inl (mW (mT2 (List.mem_of_getElem? (i := 152) (by decide +kernel))) rfl)⟩, by decide, by decide +kernel⟩
theorem fp5_4 : FPI 5 4 := ⟨ft5, (RX5, TX5, 9), rfl, by decide +kernel, by decide +kernel⟩
theorem fl_X5_30 : FLI RX5 30 5 7 := ⟨⟨RX5, TX5, 9, rfl, by decide, inl5, Or.inl (mW (mT2 (List.mem_of_getElem? (i := 158) (by decide +kernel))) rfl)⟩, by decide, by decide +kernel⟩
theorem fp5_7 : FPI 5 7 := ⟨ft5, (RX5, TX5, 9), rfl, by decide +kernel, by decide +kernel⟩
theorem yo_X5_makeLatest : yX5_makeLatest.cls ≠ "java/lang/invoke/MethodHandle" ∧ yX5_makeLatest.cls ≠ "java/lang/invoke/VarHandle" ∧ (parseMethodDescriptor yX5_makeLatest.desc).map (fun d => d.parameters.length) = some 2 := by decide +kernel
theorem co_X5_makeLatest : Cond.code yX5_makeLatest cX5_makeLatest 3 none ∈ wl := mW (mT2 (List.mem_of_getElem? (i := 204) (by decide +kernel))) rfl
theorem in_X5_makeLatest : Cond.initialized yX5_makeLatest.cls ∈ wl := mW (mT1 (List.mem_of_getElem? (i := 11) (by decide +kernel))) rfl
theorem im_X5_makeLatest : Cond.instanceMethod yX5_makeLatest ∈ wl := mW (mT2 (List.mem_of_getElem? (i := 203) (by decide +kernel))) rfl
theorem se_X5_makeLatest : Cond.selects yX5_makeLatest.cls yX5_makeLatest yX5_makeLatest ∈ wl := mW (mT0 (List.mem_of_getElem? (i := 0) (by decide +kernel))) rfl
theorem lv_X5_33 : LV RX5 33 yX5_makeLatest cX5_makeLatest 3 none 2 5 := ⟨⟨(RX5, TX5, 9), rfl, rfl⟩, yo_X5_makeLatest, mW (mT2 (List.mem_of_getElem? (i := 201) (by decide +kernel))) rfl, im_X5_makeLatest, se_X5_makeLatest, in_X5_makeLatest, co_X5_makeLatest⟩
theorem dX5_clear_0 : decode cX5_clear 0 = .ok (.aload_n 0, 1) := by decide +kernel
theorem dX5_clear_1 : decode cX5_clear 1 = .ok (.iconst 0, 1) := by decide +kernel
theorem dX5_clear_2 : decode cX5_clear 2 = .ok (.putfield 26, 3) := by decide +kernel
theorem dX5_clear_5 : decode cX5_clear 5 = .ok (.aload_n 0, 1) := by decide +kernel
theorem dX5_clear_6 : decode cX5_clear 6 = .ok (.iconst 0, 1) := by decide +kernel
theorem dX5_clear_7 : decode cX5_clear 7 = .ok (.putfield 30, 3) := by decide +kernel
theorem dX5_clear_10 : decode cX5_clear 10 = .ok (.aload_n 0, 1) := by decide +kernel
theorem dX5_clear_11 : decode cX5_clear 11 = .ok (.iconst (-1), 1) := by decide +kernel
theorem dX5_clear_12 : decode cX5_clear 12 = .ok (.iconst (-1), 1) := by decide +kernel
theorem dX5_clear_13 : decode cX5_clear 13 = .ok (.invokevirtual 33, 3) := by decide +kernel
theorem dX5_clear_16 : decode cX5_clear 16 = .ok (.return_, 1) := by decide +kernel
def rmX5_clear : Room := { frames := 1, cells := 0, slots := 0, locals := 22 }
set_option maxRecDepth 100000 in
def fX5_clear (N : Nat) (g : Gs) (x0 : Nat) (d : Ds) : Option (Unit × Ds) := gd (chk g x0 5) <| bd (sI d x0 4 0) fun d2 => (bd (sI d2 x0 7 0) fun d3 => (cv (fX5_makeLatest N g x0 (-1) (-1) d3) fun d4 => (some ((), d4))))
set_option maxHeartbeats 4000000 in
set_option maxRecDepth 100000 in
theorem tX5_clear_E {p : Program} {l : Launch} {e : Env} {s : State} {m : MethodId} {args : Array Value} {below : List Frame} {meth : Method} {c : Code} {D : va_G} {cy : Nat → ClassId} {B : Bs} (C : Cx p s m args c cX5_clear 1 RX5 D cy B) (hr : meth.sig.returnType = none) (hlocks : meth.locks = false) {N : Nat} {g : Gs} {x0 : Nat}  {dz : Ds} {d : Ds} (hf : fX5_clear N g x0 d = some ((), dz)) : WB p l e rmX5_clear s m args below meth c 1 D cy B 0 0 (MQ below (QV D cy B g dz) args s 0 0 (wA B)) g d [(0, .ref (ad B x0))] 0 [] := by
  unfold fX5_clear at hf
  refine b_aload_n C dX5_clear_0 0 rfl rfl ?_
  refine b_iconst C (v := 0) dX5_clear_1 (by decide) ?_
  obtain ⟨h1, hf⟩ := gd_s hf
  obtain ⟨d2, ed2, hf⟩ := bd_s hf
  refine b_pI C dX5_clear_2 fl_X5_26 fp5_4 h1 ed2 ?_
  refine b_aload_n C dX5_clear_5 0 rfl rfl ?_
  refine b_iconst C (v := 0) dX5_clear_6 (by decide) ?_
  obtain ⟨d3, ed3, hf⟩ := bd_s hf
  refine b_pI C dX5_clear_7 fl_X5_30 fp5_7 h1 ed3 ?_
  refine b_aload_n C dX5_clear_10 0 rfl rfl ?_
  refine b_iconst C (v := (-1)) dX5_clear_11 (by decide) ?_
  refine b_iconst C (v := (-1)) dX5_clear_12 (by decide) ?_
  obtain ⟨d4, k5, hf⟩ := cv_s hf
  refine b_cVN C [] dX5_clear_13 (kX5_makeLatest l D cy B k5) lv_X5_33 ⟨rfl, rfl, Nat.le_of_ble_eq_true rfl, Nat.le_of_ble_eq_true rfl⟩ h1 (by decide) rfl (Nat.le_of_ble_eq_true rfl) ⟨Nat.zero_le _, Nat.zero_le _⟩ rfl ?_
  exact b_vret C hr hlocks hf dX5_clear_16
theorem kX5_clear (l : Launch) (D : va_G) (cy : Nat → ClassId) (B : Bs) {N : Nat} {g : Gs} {x0 : Nat}  {dz : Ds} {d : Ds} (hf : fX5_clear N g x0 d = some ((), dz)) : Met l yX5_clear (.code yX5_clear cX5_clear 1 none :: wl) rmX5_clear (PC D cy B [.ref (ad B x0)] g d) (QV D cy B g dz) 0 0 (wA B) :=
  met_of (by decide +kernel) (Nat.le_of_ble_eq_true rfl) (fun p e s m args below meth c C hr hlocks _ => b_sub [(0, .ref (ad B x0))] [0] rfl (tX5_clear_E C hr hlocks hf))
/-! KeyMatrix$Course.clear()V -/
theorem inl1 : ∀ w ∈ u_ws RX1 TX1 6, w ∈ wl := by
  have h0 : u_ws RX1 TX1 6 = [Cond.laysFinal "KeyMatrix$Course" "KeyMatrix$Course" "board" "LKeyMatrix$Board;", Cond.laysFinal "KeyMatrix$Course" "KeyMatrix$Course" "scan" "LKeyMatrix$Scan;", Cond.laysFinal "KeyMatrix$Course" "KeyMatrix$Course" "queue" "LKeyMatrix$Queue;", Cond.laysFinal "KeyMatrix$Course" "KeyMatrix$Course" "doing" "LKeyMatrix$Doing;", Cond.laysFinal "KeyMatrix$Course" "KeyMatrix$Course" "reports" "LKeyMatrix$Reports;", Cond.lays "KeyMatrix$Course" "KeyMatrix$Course" "now" "I"] := by decide +kernel
  rw [h0]
  exact List.forall_mem_cons.mpr ⟨mW (mT2 (List.mem_of_getElem? (i := 216) (by decide +kernel))) rfl, List.forall_mem_cons.mpr ⟨mW (mT2 (List.mem_of_getElem? (i := 218) (by decide +kernel))) rfl, List.forall_mem_cons.mpr ⟨mW (mT2 (List.mem_of_getElem? (i := 220) (by decide +kernel))) rfl, List.forall_mem_cons.mpr ⟨mW (mT2 (List.mem_of_getElem? (i := 222) (by decide +kernel))) rfl, List.forall_mem_cons.mpr ⟨mW (mT2 (List.mem_of_getElem? (i := 224) (by decide +kernel))) rfl, List.forall_mem_cons.mpr ⟨mW (mT2 (List.mem_of_getElem? (i := 226) (by decide +kernel))) rfl, fun _ h => absurd h List.not_mem_nil⟩⟩⟩⟩⟩⟩
theorem fl_X1_46 : FLI RX1 46 1 5 := ⟨⟨RX1, TX1, 6, rfl, by decide, inl1, Or.inl (mW (mT2 (List.mem_of_getElem? (i := 214) (by decide +kernel))) rfl)⟩, by decide, by decide +kernel⟩
theorem ft1 : FT 1 := ⟨RX1, TX1, 6, tyX1, rfl, tyX1_ok, nmX1⟩
theorem fp1_5 : FPI 1 5 := ⟨ft1, (RX1, TX1, 6), rfl, by decide +kernel, by decide +kernel⟩
theorem fl_X1_12 : FLR RX1 12 1 1 := ⟨⟨RX1, TX1, 6, rfl, by decide, inl1, Or.inl (mW (mT2 (List.mem_of_getElem? (i := 206) (by decide +kernel))) rfl)⟩, by decide, by decide +kernel⟩
theorem yo_X6_clear : yX6_clear.cls ≠ "java/lang/invoke/MethodHandle" ∧ yX6_clear.cls ≠ "java/lang/invoke/VarHandle" ∧ (parseMethodDescriptor yX6_clear.desc).map (fun d => d.parameters.length) = some 0 := by decide +kernel
theorem co_X6_clear : Cond.code yX6_clear cX6_clear 2 none ∈ wl := mW (mT2 (List.mem_of_getElem? (i := 188) (by decide +kernel))) rfl
theorem in_X6_clear : Cond.initialized yX6_clear.cls ∈ wl := mW (mT1 (List.mem_of_getElem? (i := 8) (by decide +kernel))) rfl
theorem im_X6_clear : Cond.instanceMethod yX6_clear ∈ wl := mW (mT2 (List.mem_of_getElem? (i := 186) (by decide +kernel))) rfl
theorem se_X6_clear : Cond.selects yX6_clear.cls yX6_clear yX6_clear ∈ wl := mW (mT2 (List.mem_of_getElem? (i := 187) (by decide +kernel))) rfl
theorem lv_X1_50 : LV RX1 50 yX6_clear cX6_clear 2 none 0 6 := ⟨⟨(RX6, TX6, 9), rfl, rfl⟩, yo_X6_clear, mW (mT2 (List.mem_of_getElem? (i := 185) (by decide +kernel))) rfl, im_X6_clear, se_X6_clear, in_X6_clear, co_X6_clear⟩
theorem fl_X1_21 : FLR RX1 21 1 2 := ⟨⟨RX1, TX1, 6, rfl, by decide, inl1, Or.inl (mW (mT2 (List.mem_of_getElem? (i := 208) (by decide +kernel))) rfl)⟩, by decide, by decide +kernel⟩
theorem yo_X4_clear : yX4_clear.cls ≠ "java/lang/invoke/MethodHandle" ∧ yX4_clear.cls ≠ "java/lang/invoke/VarHandle" ∧ (parseMethodDescriptor yX4_clear.desc).map (fun d => d.parameters.length) = some 0 := by decide +kernel
theorem co_X4_clear : Cond.code yX4_clear cX4_clear 1 none ∈ wl := mW (mT2 (List.mem_of_getElem? (i := 192) (by decide +kernel))) rfl
theorem in_X4_clear : Cond.initialized yX4_clear.cls ∈ wl := mW (mT1 (List.mem_of_getElem? (i := 9) (by decide +kernel))) rfl
theorem im_X4_clear : Cond.instanceMethod yX4_clear ∈ wl := mW (mT2 (List.mem_of_getElem? (i := 190) (by decide +kernel))) rfl
theorem se_X4_clear : Cond.selects yX4_clear.cls yX4_clear yX4_clear ∈ wl := mW (mT2 (List.mem_of_getElem? (i := 191) (by decide +kernel))) rfl
theorem lv_X1_51 : LV RX1 51 yX4_clear cX4_clear 1 none 0 4 := ⟨⟨(RX4, TX4, 3), rfl, rfl⟩, yo_X4_clear, mW (mT2 (List.mem_of_getElem? (i := 189) (by decide +kernel))) rfl, im_X4_clear, se_X4_clear, in_X4_clear, co_X4_clear⟩
theorem fl_X1_28 : FLR RX1 28 1 3 := ⟨⟨RX1, TX1, 6, rfl, by decide, inl1, Or.inl (mW (mT2 (List.mem_of_getElem? (i := 210) (by decide +kernel))) rfl)⟩, by decide, by decide +kernel⟩
theorem yo_X3_clear : yX3_clear.cls ≠ "java/lang/invoke/MethodHandle" ∧ yX3_clear.cls ≠ "java/lang/invoke/VarHandle" ∧ (parseMethodDescriptor yX3_clear.desc).map (fun d => d.parameters.length) = some 0 := by decide +kernel
theorem co_X3_clear : Cond.code yX3_clear cX3_clear 2 none ∈ wl := mW (mT2 (List.mem_of_getElem? (i := 196) (by decide +kernel))) rfl
theorem in_X3_clear : Cond.initialized yX3_clear.cls ∈ wl := mW (mT1 (List.mem_of_getElem? (i := 10) (by decide +kernel))) rfl
theorem im_X3_clear : Cond.instanceMethod yX3_clear ∈ wl := mW (mT2 (List.mem_of_getElem? (i := 194) (by decide +kernel))) rfl
theorem se_X3_clear : Cond.selects yX3_clear.cls yX3_clear yX3_clear ∈ wl := mW (mT2 (List.mem_of_getElem? (i := 195) (by decide +kernel))) rfl
theorem lv_X1_52 : LV RX1 52 yX3_clear cX3_clear 2 none 0 3 := ⟨⟨(RX3, TX3, 9), rfl, rfl⟩, yo_X3_clear, mW (mT2 (List.mem_of_getElem? (i := 193) (by decide +kernel))) rfl, im_X3_clear, se_X3_clear, in_X3_clear, co_X3_clear⟩
theorem fl_X1_35 : FLR RX1 35 1 4 := ⟨⟨RX1, TX1, 6, rfl, by decide, inl1, Or.inl (mW (mT2 (List.mem_of_getElem? (i := 212) (by decide +kernel))) rfl)⟩, by decide, by decide +kernel⟩
theorem yo_X5_clear : yX5_clear.cls ≠ "java/lang/invoke/MethodHandle" ∧ yX5_clear.cls ≠ "java/lang/invoke/VarHandle" ∧ (parseMethodDescriptor yX5_clear.desc).map (fun d => d.parameters.length) = some 0 := by decide +kernel
theorem co_X5_clear : Cond.code yX5_clear cX5_clear 1 none ∈ wl := mW (mT2 (List.mem_of_getElem? (i := 200) (by decide +kernel))) rfl
theorem in_X5_clear : Cond.initialized yX5_clear.cls ∈ wl := mW (mT1 (List.mem_of_getElem? (i := 11) (by decide +kernel))) rfl
theorem im_X5_clear : Cond.instanceMethod yX5_clear ∈ wl := mW (mT2 (List.mem_of_getElem? (i := 198) (by decide +kernel))) rfl
theorem se_X5_clear : Cond.selects yX5_clear.cls yX5_clear yX5_clear ∈ wl := mW (mT2 (List.mem_of_getElem? (i := 199) (by decide +kernel))) rfl
theorem lv_X1_53 : LV RX1 53 yX5_clear cX5_clear 1 none 0 5 := ⟨⟨(RX5, TX5, 9), rfl, rfl⟩, yo_X5_clear, mW (mT2 (List.mem_of_getElem? (i := 197) (by decide +kernel))) rfl, im_X5_clear, se_X5_clear, in_X5_clear, co_X5_clear⟩
theorem dX1_clear_0 : decode cX1_clear 0 = .ok (.aload_n 0, 1) := by decide +kernel
theorem dX1_clear_1 : decode cX1_clear 1 = .ok (.iconst 0, 1) := by decide +kernel
theorem dX1_clear_2 : decode cX1_clear 2 = .ok (.putfield 46, 3) := by decide +kernel
theorem dX1_clear_5 : decode cX1_clear 5 = .ok (.aload_n 0, 1) := by decide +kernel
theorem dX1_clear_6 : decode cX1_clear 6 = .ok (.getfield 12, 3) := by decide +kernel
theorem dX1_clear_9 : decode cX1_clear 9 = .ok (.invokevirtual 50, 3) := by decide +kernel
theorem dX1_clear_12 : decode cX1_clear 12 = .ok (.aload_n 0, 1) := by decide +kernel
theorem dX1_clear_13 : decode cX1_clear 13 = .ok (.getfield 21, 3) := by decide +kernel
theorem dX1_clear_16 : decode cX1_clear 16 = .ok (.invokevirtual 51, 3) := by decide +kernel
theorem dX1_clear_19 : decode cX1_clear 19 = .ok (.aload_n 0, 1) := by decide +kernel
theorem dX1_clear_20 : decode cX1_clear 20 = .ok (.getfield 28, 3) := by decide +kernel
theorem dX1_clear_23 : decode cX1_clear 23 = .ok (.invokevirtual 52, 3) := by decide +kernel
theorem dX1_clear_26 : decode cX1_clear 26 = .ok (.aload_n 0, 1) := by decide +kernel
theorem dX1_clear_27 : decode cX1_clear 27 = .ok (.getfield 35, 3) := by decide +kernel
theorem dX1_clear_30 : decode cX1_clear 30 = .ok (.invokevirtual 53, 3) := by decide +kernel
theorem dX1_clear_33 : decode cX1_clear 33 = .ok (.return_, 1) := by decide +kernel
def rmX1_clear : Room := { frames := 2, cells := 0, slots := 0, locals := 42 }
set_option maxRecDepth 100000 in
def fX1_clear (N : Nat) (g : Gs) (x0 : Nat) (d : Ds) : Option (Unit × Ds) := gd (chk g x0 1) <| bd (sI d x0 5 0) fun d2 => (ob (gR g x0 1) fun r3 => (gd (chk g r3 6) <| cv (fX6_clear N g r3 d2) fun d5 => (ob (gR g x0 2) fun r7 => (gd (chk g r7 4) <| cv (fX4_clear N g r7 d5) fun d9 => (ob (gR g x0 3) fun r11 => (gd (chk g r11 3) <| cv (fX3_clear N g r11 d9) fun d13 => (ob (gR g x0 4) fun r15 => (gd (chk g r15 5) <| cv (fX5_clear N g r15 d13) fun d17 => (some ((), d17))))))))))
set_option maxHeartbeats 4000000 in
set_option maxRecDepth 100000 in
theorem tX1_clear_E {p : Program} {l : Launch} {e : Env} {s : State} {m : MethodId} {args : Array Value} {below : List Frame} {meth : Method} {c : Code} {D : va_G} {cy : Nat → ClassId} {B : Bs} (C : Cx p s m args c cX1_clear 1 RX1 D cy B) (hr : meth.sig.returnType = none) (hlocks : meth.locks = false) {N : Nat} {g : Gs} {x0 : Nat}  {dz : Ds} {d : Ds} (hf : fX1_clear N g x0 d = some ((), dz)) : WB p l e rmX1_clear s m args below meth c 1 D cy B 0 0 (MQ below (QV D cy B g dz) args s 0 0 (wA B)) g d [(0, .ref (ad B x0))] 0 [] := by
  unfold fX1_clear at hf
  refine b_aload_n C dX1_clear_0 0 rfl rfl ?_
  refine b_iconst C (v := 0) dX1_clear_1 (by decide) ?_
  obtain ⟨h1, hf⟩ := gd_s hf
  obtain ⟨d2, ed2, hf⟩ := bd_s hf
  refine b_pI C dX1_clear_2 fl_X1_46 fp1_5 h1 ed2 ?_
  refine b_aload_n C dX1_clear_5 0 rfl rfl ?_
  obtain ⟨r3, er3, hf⟩ := ob_s hf
  refine b_gR C dX1_clear_6 fl_X1_12 h1 er3 ?_
  obtain ⟨h4, hf⟩ := gd_s hf
  obtain ⟨d5, k6, hf⟩ := cv_s hf
  refine b_cVN C [] dX1_clear_9 (kX6_clear l D cy B k6) lv_X1_50 ⟨rfl, rfl, Nat.le_of_ble_eq_true rfl, Nat.le_of_ble_eq_true rfl⟩ h4 (by decide) rfl (Nat.le_of_ble_eq_true rfl) ⟨Nat.zero_le _, Nat.zero_le _⟩ rfl ?_
  refine b_aload_n C dX1_clear_12 0 rfl rfl ?_
  obtain ⟨r7, er7, hf⟩ := ob_s hf
  refine b_gR C dX1_clear_13 fl_X1_21 h1 er7 ?_
  obtain ⟨h8, hf⟩ := gd_s hf
  obtain ⟨d9, k10, hf⟩ := cv_s hf
  refine b_cVN C [] dX1_clear_16 (kX4_clear l D cy B k10) lv_X1_51 ⟨rfl, rfl, Nat.le_of_ble_eq_true rfl, Nat.le_of_ble_eq_true rfl⟩ h8 (by decide) rfl (Nat.le_of_ble_eq_true rfl) ⟨Nat.zero_le _, Nat.zero_le _⟩ rfl ?_
  refine b_aload_n C dX1_clear_19 0 rfl rfl ?_
  obtain ⟨r11, er11, hf⟩ := ob_s hf
  refine b_gR C dX1_clear_20 fl_X1_28 h1 er11 ?_
  obtain ⟨h12, hf⟩ := gd_s hf
  obtain ⟨d13, k14, hf⟩ := cv_s hf
  refine b_cVN C [] dX1_clear_23 (kX3_clear l D cy B k14) lv_X1_52 ⟨rfl, rfl, Nat.le_of_ble_eq_true rfl, Nat.le_of_ble_eq_true rfl⟩ h12 (by decide) rfl (Nat.le_of_ble_eq_true rfl) ⟨Nat.zero_le _, Nat.zero_le _⟩ rfl ?_
  refine b_aload_n C dX1_clear_26 0 rfl rfl ?_
  obtain ⟨r15, er15, hf⟩ := ob_s hf
  refine b_gR C dX1_clear_27 fl_X1_35 h1 er15 ?_
  obtain ⟨h16, hf⟩ := gd_s hf
  obtain ⟨d17, k18, hf⟩ := cv_s hf
  refine b_cVN C [] dX1_clear_30 (kX5_clear l D cy B k18) lv_X1_53 ⟨rfl, rfl, Nat.le_of_ble_eq_true rfl, Nat.le_of_ble_eq_true rfl⟩ h16 (by decide) rfl (Nat.le_of_ble_eq_true rfl) ⟨Nat.zero_le _, Nat.zero_le _⟩ rfl ?_
  exact b_vret C hr hlocks hf dX1_clear_33
theorem kX1_clear (l : Launch) (D : va_G) (cy : Nat → ClassId) (B : Bs) {N : Nat} {g : Gs} {x0 : Nat}  {dz : Ds} {d : Ds} (hf : fX1_clear N g x0 d = some ((), dz)) : Met l yX1_clear (.code yX1_clear cX1_clear 1 none :: wl) rmX1_clear (PC D cy B [.ref (ad B x0)] g d) (QV D cy B g dz) 0 0 (wA B) :=
  met_of (by decide +kernel) (Nat.le_of_ble_eq_true rfl) (fun p e s m args below meth c C hr hlocks _ => b_sub [(0, .ref (ad B x0))] [0] rfl (tX1_clear_E C hr hlocks hf))
/-! KeyMatrix$Course.<init>(LKeyMatrix$Board;)V -/
theorem oi_X1_3 : Cond.methodLink RX1 3 objectInit ∈ wl := mW (mT2 (List.mem_of_getElem? (i := 27) (by decide +kernel))) rfl
theorem df6 : ∀ j, j < 9 → defaultValue (tyX6 j) = if fR 6 j then .null else .int 0 := by
  intro j hj
  rcases (show j = 0 ∨ j = 1 ∨ j = 2 ∨ j = 3 ∨ j = 4 ∨ j = 5 ∨ j = 6 ∨ j = 7 ∨ j = 8 by omega) with rfl | rfl | rfl | rfl | rfl | rfl | rfl | rfl | rfl
  · rw [show fR 6 0 = false by decide +kernel]; rfl
  · rw [show fR 6 1 = false by decide +kernel]; rfl
  · rw [show fR 6 2 = false by decide +kernel]; rfl
  · rw [show fR 6 3 = false by decide +kernel]; rfl
  · rw [show fR 6 4 = true by decide +kernel]; rfl
  · rw [show fR 6 5 = true by decide +kernel]; rfl
  · rw [show fR 6 6 = true by decide +kernel]; rfl
  · rw [show fR 6 7 = true by decide +kernel]; rfl
  · rw [show fR 6 8 = true by decide +kernel]; rfl
theorem ic6 : Cond.instantiable RX6 9 ∈ wl := mW (mT2 (List.mem_of_getElem? (i := 29) (by decide +kernel))) rfl
theorem ii6 : Cond.initialized RX6 ∈ wl := mW (mT1 (List.mem_of_getElem? (i := 8) (by decide +kernel))) rfl
theorem nw_X1_9 : FNW RX1 9 6 9 := ⟨RX6, TX6, tyX6, rfl, by decide, inl6, tyX6_ok, mW (mT2 (List.mem_of_getElem? (i := 28) (by decide +kernel))) rfl, ic6, ii6, df6⟩
theorem yo_X6_init : yX6_init.cls ≠ "java/lang/invoke/MethodHandle" ∧ yX6_init.cls ≠ "java/lang/invoke/VarHandle" ∧ (parseMethodDescriptor yX6_init.desc).map (fun d => d.parameters.length) = some 0 := by decide +kernel
theorem co_X6_init : Cond.code yX6_init cX6_init 1 none ∈ wl := mW (mT2 (List.mem_of_getElem? (i := 32) (by decide +kernel))) rfl
theorem in_X6_init : Cond.initialized yX6_init.cls ∈ wl := mW (mT1 (List.mem_of_getElem? (i := 8) (by decide +kernel))) rfl
theorem im_X6_init : Cond.instanceMethod yX6_init ∈ wl := mW (mT2 (List.mem_of_getElem? (i := 31) (by decide +kernel))) rfl
theorem lv_X1_11 : LCo RX1 11 yX6_init cX6_init 1 0 := ⟨rfl, yo_X6_init, Or.inr (mT2 (List.mem_of_getElem? (i := 30) (by decide +kernel))), im_X6_init, in_X6_init, co_X6_init⟩
theorem fq_X1_12 : FLP RX1 12 1 1 := ⟨⟨RX1, TX1, 6, rfl, by decide, inl1, mW (mT2 (List.mem_of_getElem? (i := 206) (by decide +kernel))) rfl⟩, by decide, by decide +kernel⟩
theorem fr1_1 : FPR 1 1 RX1 := ⟨ft1, (RX1, TX1, 6), rfl, by decide +kernel, rfl, fun ty h a => by rw [tyX1_ok 1 (by decide)] at h; cases h; exact ⟨rfl, rfl⟩⟩
theorem df4 : ∀ j, j < 3 → defaultValue (tyX4 j) = if fR 4 j then .null else .int 0 := by
  intro j hj
  rcases (show j = 0 ∨ j = 1 ∨ j = 2 by omega) with rfl | rfl | rfl
  · rw [show fR 4 0 = true by decide +kernel]; rfl
  · rw [show fR 4 1 = false by decide +kernel]; rfl
  · rw [show fR 4 2 = false by decide +kernel]; rfl
theorem ic4 : Cond.instantiable RX4 3 ∈ wl := mW (mT2 (List.mem_of_getElem? (i := 74) (by decide +kernel))) rfl
theorem ii4 : Cond.initialized RX4 ∈ wl := mW (mT1 (List.mem_of_getElem? (i := 9) (by decide +kernel))) rfl
theorem nw_X1_18 : FNW RX1 18 4 3 := ⟨RX4, TX4, tyX4, rfl, by decide, inl4, tyX4_ok, mW (mT2 (List.mem_of_getElem? (i := 73) (by decide +kernel))) rfl, ic4, ii4, df4⟩
theorem yo_X4_init : yX4_init.cls ≠ "java/lang/invoke/MethodHandle" ∧ yX4_init.cls ≠ "java/lang/invoke/VarHandle" ∧ (parseMethodDescriptor yX4_init.desc).map (fun d => d.parameters.length) = some 0 := by decide +kernel
theorem co_X4_init : Cond.code yX4_init cX4_init 1 none ∈ wl := mW (mT2 (List.mem_of_getElem? (i := 77) (by decide +kernel))) rfl
theorem in_X4_init : Cond.initialized yX4_init.cls ∈ wl := mW (mT1 (List.mem_of_getElem? (i := 9) (by decide +kernel))) rfl
theorem im_X4_init : Cond.instanceMethod yX4_init ∈ wl := mW (mT2 (List.mem_of_getElem? (i := 76) (by decide +kernel))) rfl
theorem lv_X1_20 : LCo RX1 20 yX4_init cX4_init 1 0 := ⟨rfl, yo_X4_init, Or.inr (mT2 (List.mem_of_getElem? (i := 75) (by decide +kernel))), im_X4_init, in_X4_init, co_X4_init⟩
theorem fq_X1_21 : FLP RX1 21 1 2 := ⟨⟨RX1, TX1, 6, rfl, by decide, inl1, mW (mT2 (List.mem_of_getElem? (i := 208) (by decide +kernel))) rfl⟩, by decide, by decide +kernel⟩
theorem fr1_2 : FPR 1 2 RX1 := ⟨ft1, (RX1, TX1, 6), rfl, by decide +kernel, rfl, fun ty h a => by rw [tyX1_ok 2 (by decide)] at h; cases h; exact ⟨rfl, rfl⟩⟩
theorem df3 : ∀ j, j < 9 → defaultValue (tyX3 j) = if fR 3 j then .null else .int 0 := by
  intro j hj
  rcases (show j = 0 ∨ j = 1 ∨ j = 2 ∨ j = 3 ∨ j = 4 ∨ j = 5 ∨ j = 6 ∨ j = 7 ∨ j = 8 by omega) with rfl | rfl | rfl | rfl | rfl | rfl | rfl | rfl | rfl
  · rw [show fR 3 0 = true by decide +kernel]; rfl
  · rw [show fR 3 1 = true by decide +kernel]; rfl
  · rw [show fR 3 2 = true by decide +kernel]; rfl
  · rw [show fR 3 3 = true by decide +kernel]; rfl
  · rw [show fR 3 4 = false by decide +kernel]; rfl
  · rw [show fR 3 5 = false by decide +kernel]; rfl
  · rw [show fR 3 6 = false by decide +kernel]; rfl
  · rw [show fR 3 7 = true by decide +kernel]; rfl
  · rw [show fR 3 8 = false by decide +kernel]; rfl
theorem ic3 : Cond.instantiable RX3 9 ∈ wl := mW (mT2 (List.mem_of_getElem? (i := 93) (by decide +kernel))) rfl
theorem ii3 : Cond.initialized RX3 ∈ wl := mW (mT1 (List.mem_of_getElem? (i := 10) (by decide +kernel))) rfl
theorem nw_X1_25 : FNW RX1 25 3 9 := ⟨RX3, TX3, tyX3, rfl, by decide, inl3, tyX3_ok, mW (mT2 (List.mem_of_getElem? (i := 92) (by decide +kernel))) rfl, ic3, ii3, df3⟩
theorem yo_X3_init : yX3_init.cls ≠ "java/lang/invoke/MethodHandle" ∧ yX3_init.cls ≠ "java/lang/invoke/VarHandle" ∧ (parseMethodDescriptor yX3_init.desc).map (fun d => d.parameters.length) = some 0 := by decide +kernel
theorem co_X3_init : Cond.code yX3_init cX3_init 1 none ∈ wl := mW (mT2 (List.mem_of_getElem? (i := 96) (by decide +kernel))) rfl
theorem in_X3_init : Cond.initialized yX3_init.cls ∈ wl := mW (mT1 (List.mem_of_getElem? (i := 10) (by decide +kernel))) rfl
theorem im_X3_init : Cond.instanceMethod yX3_init ∈ wl := mW (mT2 (List.mem_of_getElem? (i := 95) (by decide +kernel))) rfl
theorem lv_X1_27 : LCo RX1 27 yX3_init cX3_init 1 0 := ⟨rfl, yo_X3_init, Or.inr (mT2 (List.mem_of_getElem? (i := 94) (by decide +kernel))), im_X3_init, in_X3_init, co_X3_init⟩
theorem fq_X1_28 : FLP RX1 28 1 3 := ⟨⟨RX1, TX1, 6, rfl, by decide, inl1, mW (mT2 (List.mem_of_getElem? (i := 210) (by decide +kernel))) rfl⟩, by decide, by decide +kernel⟩
theorem fr1_3 : FPR 1 3 RX1 := ⟨ft1, (RX1, TX1, 6), rfl, by decide +kernel, rfl, fun ty h a => by rw [tyX1_ok 3 (by decide)] at h; cases h; exact ⟨rfl, rfl⟩⟩
theorem df5 : ∀ j, j < 9 → defaultValue (tyX5 j) = if fR 5 j then .null else .int 0 := by
  intro j hj
  rcases (show j = 0 ∨ j = 1 ∨ j = 2 ∨ j = 3 ∨ j = 4 ∨ j = 5 ∨ j = 6 ∨ j = 7 ∨ j = 8 by omega) with rfl | rfl | rfl | rfl | rfl | rfl | rfl | rfl | rfl
  · rw [show fR 5 0 = true by decide +kernel]; rfl
  · rw [show fR 5 1 = true by decide +kernel]; rfl
  · rw [show fR 5 2 = true by decide +kernel]; rfl
  · rw [show fR 5 3 = true by decide +kernel]; rfl
  · rw [show fR 5 4 = false by decide +kernel]; rfl
  · rw [show fR 5 5 = false by decide +kernel]; rfl
  · rw [show fR 5 6 = false by decide +kernel]; rfl
  · rw [show fR 5 7 = false by decide +kernel]; rfl
  · rw [show fR 5 8 = false by decide +kernel]; rfl
theorem ic5 : Cond.instantiable RX5 9 ∈ wl := mW (mT2 (List.mem_of_getElem? (i := 140) (by decide +kernel))) rfl
theorem ii5 : Cond.initialized RX5 ∈ wl := mW (mT1 (List.mem_of_getElem? (i := 11) (by decide +kernel))) rfl
theorem nw_X1_32 : FNW RX1 32 5 9 := ⟨RX5, TX5, tyX5, rfl, by decide, inl5, tyX5_ok, mW (mT2 (List.mem_of_getElem? (i := 139) (by decide +kernel))) rfl, ic5, ii5, df5⟩
theorem yo_X5_init : yX5_init.cls ≠ "java/lang/invoke/MethodHandle" ∧ yX5_init.cls ≠ "java/lang/invoke/VarHandle" ∧ (parseMethodDescriptor yX5_init.desc).map (fun d => d.parameters.length) = some 0 := by decide +kernel
theorem co_X5_init : Cond.code yX5_init cX5_init 1 none ∈ wl := mW (mT2 (List.mem_of_getElem? (i := 143) (by decide +kernel))) rfl
theorem in_X5_init : Cond.initialized yX5_init.cls ∈ wl := mW (mT1 (List.mem_of_getElem? (i := 11) (by decide +kernel))) rfl
theorem im_X5_init : Cond.instanceMethod yX5_init ∈ wl := mW (mT2 (List.mem_of_getElem? (i := 142) (by decide +kernel))) rfl
theorem lv_X1_34 : LCo RX1 34 yX5_init cX5_init 1 0 := ⟨rfl, yo_X5_init, Or.inr (mT2 (List.mem_of_getElem? (i := 141) (by decide +kernel))), im_X5_init, in_X5_init, co_X5_init⟩
theorem fq_X1_35 : FLP RX1 35 1 4 := ⟨⟨RX1, TX1, 6, rfl, by decide, inl1, mW (mT2 (List.mem_of_getElem? (i := 212) (by decide +kernel))) rfl⟩, by decide, by decide +kernel⟩
theorem fr1_4 : FPR 1 4 RX1 := ⟨ft1, (RX1, TX1, 6), rfl, by decide +kernel, rfl, fun ty h a => by rw [tyX1_ok 4 (by decide)] at h; cases h; exact ⟨rfl, rfl⟩⟩
theorem fq_X1_39 : FLP RX1 39 1 0 := ⟨⟨RX1, TX1, 6, rfl, by decide, inl1, mW (mT2 (List.mem_of_getElem? (i := 205) (by decide +kernel))) rfl⟩, by decide, by decide +kernel⟩
theorem fr1_0 : FPR 1 0 RX1 := ⟨ft1, (RX1, TX1, 6), rfl, by decide +kernel, rfl, fun ty h a => by rw [tyX1_ok 0 (by decide)] at h; cases h; exact ⟨rfl, rfl⟩⟩
theorem yo_X1_clear : yX1_clear.cls ≠ "java/lang/invoke/MethodHandle" ∧ yX1_clear.cls ≠ "java/lang/invoke/VarHandle" ∧ (parseMethodDescriptor yX1_clear.desc).map (fun d => d.parameters.length) = some 0 := by decide +kernel
theorem co_X1_clear : Cond.code yX1_clear cX1_clear 1 none ∈ wl := mW (mT2 (List.mem_of_getElem? (i := 184) (by decide +kernel))) rfl
theorem in_X1_clear : Cond.initialized yX1_clear.cls ∈ wl := mW (mT1 (List.mem_of_getElem? (i := 7) (by decide +kernel))) rfl
theorem im_X1_clear : Cond.instanceMethod yX1_clear ∈ wl := mW (mT2 (List.mem_of_getElem? (i := 182) (by decide +kernel))) rfl
theorem se_X1_clear : Cond.selects yX1_clear.cls yX1_clear yX1_clear ∈ wl := mW (mT2 (List.mem_of_getElem? (i := 183) (by decide +kernel))) rfl
theorem lv_X1_43 : LV RX1 43 yX1_clear cX1_clear 1 none 0 1 := ⟨⟨(RX1, TX1, 6), rfl, rfl⟩, yo_X1_clear, mW (mT2 (List.mem_of_getElem? (i := 181) (by decide +kernel))) rfl, im_X1_clear, se_X1_clear, in_X1_clear, co_X1_clear⟩
theorem dX1_init_0 : decode cX1_init 0 = .ok (.aload_n 0, 1) := by decide +kernel
theorem dX1_init_1 : decode cX1_init 1 = .ok (.invokespecial 3, 3) := by decide +kernel
theorem dX1_init_4 : decode cX1_init 4 = .ok (.aload_n 0, 1) := by decide +kernel
theorem dX1_init_5 : decode cX1_init 5 = .ok (.new 9, 3) := by decide +kernel
theorem dX1_init_8 : decode cX1_init 8 = .ok (.dup, 1) := by decide +kernel
theorem dX1_init_9 : decode cX1_init 9 = .ok (.invokespecial 11, 3) := by decide +kernel
theorem dX1_init_12 : decode cX1_init 12 = .ok (.putfield 12, 3) := by decide +kernel
theorem dX1_init_15 : decode cX1_init 15 = .ok (.aload_n 0, 1) := by decide +kernel
theorem dX1_init_16 : decode cX1_init 16 = .ok (.new 18, 3) := by decide +kernel
theorem dX1_init_19 : decode cX1_init 19 = .ok (.dup, 1) := by decide +kernel
theorem dX1_init_20 : decode cX1_init 20 = .ok (.invokespecial 20, 3) := by decide +kernel
theorem dX1_init_23 : decode cX1_init 23 = .ok (.putfield 21, 3) := by decide +kernel
theorem dX1_init_26 : decode cX1_init 26 = .ok (.aload_n 0, 1) := by decide +kernel
theorem dX1_init_27 : decode cX1_init 27 = .ok (.new 25, 3) := by decide +kernel
theorem dX1_init_30 : decode cX1_init 30 = .ok (.dup, 1) := by decide +kernel
theorem dX1_init_31 : decode cX1_init 31 = .ok (.invokespecial 27, 3) := by decide +kernel
theorem dX1_init_34 : decode cX1_init 34 = .ok (.putfield 28, 3) := by decide +kernel
theorem dX1_init_37 : decode cX1_init 37 = .ok (.aload_n 0, 1) := by decide +kernel
theorem dX1_init_38 : decode cX1_init 38 = .ok (.new 32, 3) := by decide +kernel
theorem dX1_init_41 : decode cX1_init 41 = .ok (.dup, 1) := by decide +kernel
theorem dX1_init_42 : decode cX1_init 42 = .ok (.invokespecial 34, 3) := by decide +kernel
theorem dX1_init_45 : decode cX1_init 45 = .ok (.putfield 35, 3) := by decide +kernel
theorem dX1_init_48 : decode cX1_init 48 = .ok (.aload_n 0, 1) := by decide +kernel
theorem dX1_init_49 : decode cX1_init 49 = .ok (.aload_n 1, 1) := by decide +kernel
theorem dX1_init_50 : decode cX1_init 50 = .ok (.putfield 39, 3) := by decide +kernel
theorem dX1_init_53 : decode cX1_init 53 = .ok (.aload_n 0, 1) := by decide +kernel
theorem dX1_init_54 : decode cX1_init 54 = .ok (.invokevirtual 43, 3) := by decide +kernel
theorem dX1_init_57 : decode cX1_init 57 = .ok (.return_, 1) := by decide +kernel
def rmX1_init : Room := { frames := 3, cells := 19, slots := 3791, locals := 62 }
set_option maxRecDepth 100000 in
def fX1_init_E (N : Nat) (x0 : Nat) (x1 : Nat) (n0 s0 : Nat) (g : Gs) (d : Ds) : Option (Gs × Ds) := gd (gN g < 100000) <| gd (gN g + 1 - n0 ≤ 19 ∧ gS g + 9 - s0 ≤ 3791) <| bd (nG g 6 0 9) fun g3 => (bd (nD g d) fun d4 => (bd (gN g) fun r5 => (gd (0 < gN g3) <| cb (fX6_init N r5 g3 d4) fun g8 d9 => (gd (gN g8 = gN g3 + 5 ∧ gS g8 = gS g3 + 120) <| gd (gN g8 - n0 ≤ 19 ∧ gS g8 - s0 ≤ 3791) <| gd (chk g8 x0 1) <| bd (sR g8 x0 1 r5) fun g15 => (gd (gN g15 < 100000) <| gd (gN g15 + 1 - n0 ≤ 19 ∧ gS g15 + 3 - s0 ≤ 3791) <| bd (nG g15 4 0 3) fun g19 => (bd (nD g15 d9) fun d20 => (bd (gN g15) fun r21 => (gd (0 < gN g19) <| cb (fX4_init N r21 g19 d20) fun g24 d25 => (gd (gN g24 = gN g19 + 1 ∧ gS g24 = gS g19 + 2400) <| gd (gN g24 - n0 ≤ 19 ∧ gS g24 - s0 ≤ 3791) <| gd (chk g24 x0 1) <| bd (sR g24 x0 2 r21) fun g31 => (gd (gN g31 < 100000) <| gd (gN g31 + 1 - n0 ≤ 19 ∧ gS g31 + 9 - s0 ≤ 3791) <| bd (nG g31 3 0 9) fun g35 => (bd (nD g31 d25) fun d36 => (bd (gN g31) fun r37 => (gd (0 < gN g35) <| cb (fX3_init N r37 g35 d36) fun g40 d41 => (gd (gN g40 = gN g35 + 5 ∧ gS g40 = gS g35 + 121) <| gd (gN g40 - n0 ≤ 19 ∧ gS g40 - s0 ≤ 3791) <| gd (chk g40 x0 1) <| bd (sR g40 x0 3 r37) fun g47 => (gd (gN g47 < 100000) <| gd (gN g47 + 1 - n0 ≤ 19 ∧ gS g47 + 9 - s0 ≤ 3791) <| bd (nG g47 5 0 9) fun g51 => (bd (nD g47 d41) fun d52 => (bd (gN g47) fun r53 => (gd (0 < gN g51) <| cb (fX5_init N r53 g51 d52) fun g56 d57 => (gd (gN g56 = gN g51 + 4 ∧ gS g56 = gS g51 + 1120) <| gd (gN g56 - n0 ≤ 19 ∧ gS g56 - s0 ≤ 3791) <| gd (chk g56 x0 1) <| bd (sR g56 x0 4 r53) fun g63 => (gd (chk g63 x0 1) <| bd (sR g63 x0 0 x1) fun g66 => (gd (chk g66 x0 1) <| gd (gN g66 - n0 ≤ 19 ∧ gS g66 - s0 ≤ 3791) <| cv (fX1_clear N g66 x0 d57) fun d70 => (gd (gN g66 = n0 + 19 ∧ gS g66 = s0 + 3791) <| some (g66, d70)))))))))))))))))))))))
def fX1_init (N : Nat) (x0 : Nat) (x1 : Nat) (g : Gs) (d : Ds) : Option (Gs × Ds) := fX1_init_E N x0 x1 (gN g) (gS g) g d
set_option maxHeartbeats 4000000 in
set_option maxRecDepth 100000 in
theorem tX1_init_E {p : Program} {l : Launch} {e : Env} {s : State} {m : MethodId} {args : Array Value} {below : List Frame} {meth : Method} {c : Code} {D : va_G} {cy : Nat → ClassId} {B : Bs} (C : Cx p s m args c cX1_init 2 RX1 D cy B) (hr : meth.sig.returnType = none) (hlocks : meth.locks = false) (hin : meth.name = "<init>") {n0 s0 : Nat} (hz : s.heap.size = B.1 + n0) {N : Nat} {x0 : Nat} {x1 : Nat} {gz : Gs} {dz : Ds} {g : Gs} {d : Ds} (hn : n0 ≤ gN g) (hs : s0 ≤ gS g) (hf : fX1_init_E N x0 x1 n0 s0 g d = some (gz, dz)) : WB p l e rmX1_init s m args below meth c 2 D cy B (gN g - n0) (gS g - s0) (MQ below (QV D cy B gz dz) args s 19 3791 (wA B)) g d [(0, .ref (ad B x0)), (1, .ref (ad B x1))] 0 [] := by
  unfold fX1_init_E at hf
  refine b_aload_n C dX1_init_0 0 rfl rfl ?_
  refine b_objInit C oi_X1_3 oi_i oi_c (by decide) (by decide) dX1_init_1 ?_
  refine b_aload_n C dX1_init_4 0 rfl rfl ?_
  obtain ⟨h1, hf⟩ := gd_s hf
  obtain ⟨h2, hf⟩ := gd_s hf
  obtain ⟨g3, eg3, hf⟩ := bd_s hf
  obtain ⟨d4, ed4, hf⟩ := bd_s hf
  obtain ⟨r5, er5, hf⟩ := bd_s hf
  refine b_new C dX1_init_5 nw_X1_9 hz hn hs h1 h2 eg3 ed4 (fun hn6 hn6s => ?_)
  refine b_topR er5 ?_
  refine b_dup C dX1_init_8 rfl ?_
  obtain ⟨h7, hf⟩ := gd_s hf
  obtain ⟨g8, d9, k10, hf⟩ := cb_s hf
  obtain ⟨h12, hf⟩ := gd_s hf
  obtain ⟨h13, hf⟩ := gd_s hf
  refine b_callC C [.ref (ad B r5), .ref (ad B x0)] dX1_init_9 (kX6_init l D cy B k10) lv_X1_11 ⟨rfl, rfl, Nat.le_of_ble_eq_true rfl, Nat.le_of_ble_eq_true rfl⟩ rfl (Nat.le_of_ble_eq_true rfl) hz hn6 hn6s h7 h12 h13 rfl (fun hn11 hn11s => ?_)
  obtain ⟨h14, hf⟩ := gd_s hf
  obtain ⟨g15, eg15, hf⟩ := bd_s hf
  refine b_pRC C dX1_init_12 fq_X1_12 fr1_1 hin h14 eg15 ?_
  have hn16 : n0 ≤ gN g15 := by rw [eg15]; exact hn11
  have hn16s : s0 ≤ gS g15 := by rw [eg15]; exact hn11s
  refine b_aload_n C dX1_init_15 0 rfl rfl ?_
  obtain ⟨h17, hf⟩ := gd_s hf
  obtain ⟨h18, hf⟩ := gd_s hf
  obtain ⟨g19, eg19, hf⟩ := bd_s hf
  obtain ⟨d20, ed20, hf⟩ := bd_s hf
  obtain ⟨r21, er21, hf⟩ := bd_s hf
  refine b_new C dX1_init_16 nw_X1_18 hz hn16 hn16s h17 h18 eg19 ed20 (fun hn22 hn22s => ?_)
  refine b_topR er21 ?_
  refine b_dup C dX1_init_19 rfl ?_
  obtain ⟨h23, hf⟩ := gd_s hf
  obtain ⟨g24, d25, k26, hf⟩ := cb_s hf
  obtain ⟨h28, hf⟩ := gd_s hf
  obtain ⟨h29, hf⟩ := gd_s hf
  refine b_callC C [.ref (ad B r21), .ref (ad B x0)] dX1_init_20 (kX4_init l D cy B k26) lv_X1_20 ⟨rfl, rfl, Nat.le_of_ble_eq_true rfl, Nat.le_of_ble_eq_true rfl⟩ rfl (Nat.le_of_ble_eq_true rfl) hz hn22 hn22s h23 h28 h29 rfl (fun hn27 hn27s => ?_)
  obtain ⟨h30, hf⟩ := gd_s hf
  obtain ⟨g31, eg31, hf⟩ := bd_s hf
  refine b_pRC C dX1_init_23 fq_X1_21 fr1_2 hin h30 eg31 ?_
  have hn32 : n0 ≤ gN g31 := by rw [eg31]; exact hn27
  have hn32s : s0 ≤ gS g31 := by rw [eg31]; exact hn27s
  refine b_aload_n C dX1_init_26 0 rfl rfl ?_
  obtain ⟨h33, hf⟩ := gd_s hf
  obtain ⟨h34, hf⟩ := gd_s hf
  obtain ⟨g35, eg35, hf⟩ := bd_s hf
  obtain ⟨d36, ed36, hf⟩ := bd_s hf
  obtain ⟨r37, er37, hf⟩ := bd_s hf
  refine b_new C dX1_init_27 nw_X1_25 hz hn32 hn32s h33 h34 eg35 ed36 (fun hn38 hn38s => ?_)
  refine b_topR er37 ?_
  refine b_dup C dX1_init_30 rfl ?_
  obtain ⟨h39, hf⟩ := gd_s hf
  obtain ⟨g40, d41, k42, hf⟩ := cb_s hf
  obtain ⟨h44, hf⟩ := gd_s hf
  obtain ⟨h45, hf⟩ := gd_s hf
  refine b_callC C [.ref (ad B r37), .ref (ad B x0)] dX1_init_31 (kX3_init l D cy B k42) lv_X1_27 ⟨rfl, rfl, Nat.le_of_ble_eq_true rfl, Nat.le_of_ble_eq_true rfl⟩ rfl (Nat.le_of_ble_eq_true rfl) hz hn38 hn38s h39 h44 h45 rfl (fun hn43 hn43s => ?_)
  obtain ⟨h46, hf⟩ := gd_s hf
  obtain ⟨g47, eg47, hf⟩ := bd_s hf
  refine b_pRC C dX1_init_34 fq_X1_28 fr1_3 hin h46 eg47 ?_
  have hn48 : n0 ≤ gN g47 := by rw [eg47]; exact hn43
  have hn48s : s0 ≤ gS g47 := by rw [eg47]; exact hn43s
  refine b_aload_n C dX1_init_37 0 rfl rfl ?_
  obtain ⟨h49, hf⟩ := gd_s hf
  obtain ⟨h50, hf⟩ := gd_s hf
  obtain ⟨g51, eg51, hf⟩ := bd_s hf
  obtain ⟨d52, ed52, hf⟩ := bd_s hf
  obtain ⟨r53, er53, hf⟩ := bd_s hf
  refine b_new C dX1_init_38 nw_X1_32 hz hn48 hn48s h49 h50 eg51 ed52 (fun hn54 hn54s => ?_)
  refine b_topR er53 ?_
  refine b_dup C dX1_init_41 rfl ?_
  obtain ⟨h55, hf⟩ := gd_s hf
  obtain ⟨g56, d57, k58, hf⟩ := cb_s hf
  obtain ⟨h60, hf⟩ := gd_s hf
  obtain ⟨h61, hf⟩ := gd_s hf
  refine b_callC C [.ref (ad B r53), .ref (ad B x0)] dX1_init_42 (kX5_init l D cy B k58) lv_X1_34 ⟨rfl, rfl, Nat.le_of_ble_eq_true rfl, Nat.le_of_ble_eq_true rfl⟩ rfl (Nat.le_of_ble_eq_true rfl) hz hn54 hn54s h55 h60 h61 rfl (fun hn59 hn59s => ?_)
  obtain ⟨h62, hf⟩ := gd_s hf
  obtain ⟨g63, eg63, hf⟩ := bd_s hf
  refine b_pRC C dX1_init_45 fq_X1_35 fr1_4 hin h62 eg63 ?_
  have hn64 : n0 ≤ gN g63 := by rw [eg63]; exact hn59
  have hn64s : s0 ≤ gS g63 := by rw [eg63]; exact hn59s
  refine b_aload_n C dX1_init_48 0 rfl rfl ?_
  refine b_aload_n C dX1_init_49 1 rfl rfl ?_
  obtain ⟨h65, hf⟩ := gd_s hf
  obtain ⟨g66, eg66, hf⟩ := bd_s hf
  refine b_pRC C dX1_init_50 fq_X1_39 fr1_0 hin h65 eg66 ?_
  have hn67 : n0 ≤ gN g66 := by rw [eg66]; exact hn64
  have hn67s : s0 ≤ gS g66 := by rw [eg66]; exact hn64s
  refine b_aload_n C dX1_init_53 0 rfl rfl ?_
  obtain ⟨h68, hf⟩ := gd_s hf
  obtain ⟨h69, hf⟩ := gd_s hf
  obtain ⟨d70, k71, hf⟩ := cv_s hf
  refine b_cVN C [] dX1_init_54 (kX1_clear l D cy B k71) lv_X1_43 ⟨rfl, rfl, Nat.le_of_ble_eq_true rfl, Nat.le_of_ble_eq_true rfl⟩ h68 (by decide) rfl (Nat.le_of_ble_eq_true rfl) h69 rfl ?_
  obtain ⟨h72, hf⟩ := gd_s hf
  exact b_vretC C hr hlocks h72 hf dX1_init_57
theorem kX1_init (l : Launch) (D : va_G) (cy : Nat → ClassId) (B : Bs) {N : Nat} {g : Gs} {x0 : Nat} {x1 : Nat} {gz : Gs} {dz : Ds} {d : Ds} (hf : fX1_init N x0 x1 g d = some (gz, dz)) : Met l yX1_init (.code yX1_init cX1_init 2 none :: wl) rmX1_init (PCC D cy B [.ref (ad B x0), .ref (ad B x1)] g d) (QV D cy B gz dz) 19 3791 (wA B) :=
  met_ofC (by decide +kernel) (Nat.le_of_ble_eq_true rfl) (fun p e s m args below meth c C hr hlocks hin hz => b_sub [(0, .ref (ad B x0)), (1, .ref (ad B x1))] [0, 1] rfl (tX1_init_E C hr hlocks hin hz (Nat.le_refl _) (Nat.le_refl _) hf))
/-! KeyMatrix$Scan.copyFrom(LKeyMatrix$Scan;)V -/
theorem ac_X6_41 : Cond.methodLink RX6 41 arraycopyName ∈ wl := mW (mT5 (List.mem_of_getElem? (i := 42) (by decide +kernel))) rfl
theorem dX6_copyFrom_0 : decode cX6_copyFrom 0 = .ok (.aload_n 0, 1) := by decide +kernel
theorem dX6_copyFrom_1 : decode cX6_copyFrom 1 = .ok (.aload_n 1, 1) := by decide +kernel
theorem dX6_copyFrom_2 : decode cX6_copyFrom 2 = .ok (.getfield 28, 3) := by decide +kernel
theorem dX6_copyFrom_5 : decode cX6_copyFrom 5 = .ok (.putfield 28, 3) := by decide +kernel
theorem dX6_copyFrom_8 : decode cX6_copyFrom 8 = .ok (.aload_n 0, 1) := by decide +kernel
theorem dX6_copyFrom_9 : decode cX6_copyFrom 9 = .ok (.aload_n 1, 1) := by decide +kernel
theorem dX6_copyFrom_10 : decode cX6_copyFrom 10 = .ok (.getfield 32, 3) := by decide +kernel
theorem dX6_copyFrom_13 : decode cX6_copyFrom 13 = .ok (.putfield 32, 3) := by decide +kernel
theorem dX6_copyFrom_16 : decode cX6_copyFrom 16 = .ok (.aload_n 0, 1) := by decide +kernel
theorem dX6_copyFrom_17 : decode cX6_copyFrom 17 = .ok (.aload_n 1, 1) := by decide +kernel
theorem dX6_copyFrom_18 : decode cX6_copyFrom 18 = .ok (.getfield 35, 3) := by decide +kernel
theorem dX6_copyFrom_21 : decode cX6_copyFrom 21 = .ok (.putfield 35, 3) := by decide +kernel
theorem dX6_copyFrom_24 : decode cX6_copyFrom 24 = .ok (.aload_n 0, 1) := by decide +kernel
theorem dX6_copyFrom_25 : decode cX6_copyFrom 25 = .ok (.aload_n 1, 1) := by decide +kernel
theorem dX6_copyFrom_26 : decode cX6_copyFrom 26 = .ok (.getfield 38, 3) := by decide +kernel
theorem dX6_copyFrom_29 : decode cX6_copyFrom 29 = .ok (.putfield 38, 3) := by decide +kernel
theorem dX6_copyFrom_32 : decode cX6_copyFrom 32 = .ok (.aload_n 1, 1) := by decide +kernel
theorem dX6_copyFrom_33 : decode cX6_copyFrom 33 = .ok (.getfield 9, 3) := by decide +kernel
theorem dX6_copyFrom_36 : decode cX6_copyFrom 36 = .ok (.iconst 0, 1) := by decide +kernel
theorem dX6_copyFrom_37 : decode cX6_copyFrom 37 = .ok (.aload_n 0, 1) := by decide +kernel
theorem dX6_copyFrom_38 : decode cX6_copyFrom 38 = .ok (.getfield 9, 3) := by decide +kernel
theorem dX6_copyFrom_41 : decode cX6_copyFrom 41 = .ok (.iconst 0, 1) := by decide +kernel
theorem dX6_copyFrom_42 : decode cX6_copyFrom 42 = .ok (.bipush 24, 2) := by decide +kernel
theorem dX6_copyFrom_44 : decode cX6_copyFrom 44 = .ok (.invokestatic 41, 3) := by decide +kernel
theorem dX6_copyFrom_47 : decode cX6_copyFrom 47 = .ok (.aload_n 1, 1) := by decide +kernel
theorem dX6_copyFrom_48 : decode cX6_copyFrom 48 = .ok (.getfield 15, 3) := by decide +kernel
theorem dX6_copyFrom_51 : decode cX6_copyFrom 51 = .ok (.iconst 0, 1) := by decide +kernel
theorem dX6_copyFrom_52 : decode cX6_copyFrom 52 = .ok (.aload_n 0, 1) := by decide +kernel
theorem dX6_copyFrom_53 : decode cX6_copyFrom 53 = .ok (.getfield 15, 3) := by decide +kernel
theorem dX6_copyFrom_56 : decode cX6_copyFrom 56 = .ok (.iconst 0, 1) := by decide +kernel
theorem dX6_copyFrom_57 : decode cX6_copyFrom 57 = .ok (.bipush 24, 2) := by decide +kernel
theorem dX6_copyFrom_59 : decode cX6_copyFrom 59 = .ok (.invokestatic 41, 3) := by decide +kernel
theorem dX6_copyFrom_62 : decode cX6_copyFrom 62 = .ok (.aload_n 1, 1) := by decide +kernel
theorem dX6_copyFrom_63 : decode cX6_copyFrom 63 = .ok (.getfield 19, 3) := by decide +kernel
theorem dX6_copyFrom_66 : decode cX6_copyFrom 66 = .ok (.iconst 0, 1) := by decide +kernel
theorem dX6_copyFrom_67 : decode cX6_copyFrom 67 = .ok (.aload_n 0, 1) := by decide +kernel
theorem dX6_copyFrom_68 : decode cX6_copyFrom 68 = .ok (.getfield 19, 3) := by decide +kernel
theorem dX6_copyFrom_71 : decode cX6_copyFrom 71 = .ok (.iconst 0, 1) := by decide +kernel
theorem dX6_copyFrom_72 : decode cX6_copyFrom 72 = .ok (.bipush 24, 2) := by decide +kernel
theorem dX6_copyFrom_74 : decode cX6_copyFrom 74 = .ok (.invokestatic 41, 3) := by decide +kernel
theorem dX6_copyFrom_77 : decode cX6_copyFrom 77 = .ok (.aload_n 1, 1) := by decide +kernel
theorem dX6_copyFrom_78 : decode cX6_copyFrom 78 = .ok (.getfield 22, 3) := by decide +kernel
theorem dX6_copyFrom_81 : decode cX6_copyFrom 81 = .ok (.iconst 0, 1) := by decide +kernel
theorem dX6_copyFrom_82 : decode cX6_copyFrom 82 = .ok (.aload_n 0, 1) := by decide +kernel
theorem dX6_copyFrom_83 : decode cX6_copyFrom 83 = .ok (.getfield 22, 3) := by decide +kernel
theorem dX6_copyFrom_86 : decode cX6_copyFrom 86 = .ok (.iconst 0, 1) := by decide +kernel
theorem dX6_copyFrom_87 : decode cX6_copyFrom 87 = .ok (.bipush 24, 2) := by decide +kernel
theorem dX6_copyFrom_89 : decode cX6_copyFrom 89 = .ok (.invokestatic 41, 3) := by decide +kernel
theorem dX6_copyFrom_92 : decode cX6_copyFrom 92 = .ok (.aload_n 1, 1) := by decide +kernel
theorem dX6_copyFrom_93 : decode cX6_copyFrom 93 = .ok (.getfield 25, 3) := by decide +kernel
theorem dX6_copyFrom_96 : decode cX6_copyFrom 96 = .ok (.iconst 0, 1) := by decide +kernel
theorem dX6_copyFrom_97 : decode cX6_copyFrom 97 = .ok (.aload_n 0, 1) := by decide +kernel
theorem dX6_copyFrom_98 : decode cX6_copyFrom 98 = .ok (.getfield 25, 3) := by decide +kernel
theorem dX6_copyFrom_101 : decode cX6_copyFrom 101 = .ok (.iconst 0, 1) := by decide +kernel
theorem dX6_copyFrom_102 : decode cX6_copyFrom 102 = .ok (.bipush 24, 2) := by decide +kernel
theorem dX6_copyFrom_104 : decode cX6_copyFrom 104 = .ok (.invokestatic 41, 3) := by decide +kernel
theorem dX6_copyFrom_107 : decode cX6_copyFrom 107 = .ok (.return_, 1) := by decide +kernel
def rmX6_copyFrom : Room := { frames := 1, cells := 0, slots := 0, locals := 40 }
set_option maxRecDepth 100000 in
def fX6_copyFrom (N : Nat) (g : Gs) (x0 : Nat) (x1 : Nat) (d : Ds) : Option (Unit × Ds) := gd (chk g x1 6) <| gd (chk g x0 6) <| bd (sI d x0 0 (dI d x1 0)) fun d3 => (bd (sI d3 x0 1 (dI d3 x1 1)) fun d4 => (bd (sI d4 x0 2 (dI d4 x1 2)) fun d5 => (bd (sI d5 x0 3 (dI d5 x1 3)) fun d6 => (ob (gR g x1 4) fun r7 => (ob (gR g x0 4) fun r8 => (gd (chk g r7 102) <| gd (chk g r8 102) <| gd (¬ (0 : Int32) < 0) <| gd (¬ (24 : Int32) < 0) <| gd ((0 : Int32).toNatClampNeg + (24 : Int32).toNatClampNeg ≤ gL g r7) <| gd ((0 : Int32).toNatClampNeg + (24 : Int32).toNatClampNeg ≤ gL g r8) <| bd (cI d6 r7 r8 (0 : Int32).toNatClampNeg (0 : Int32).toNatClampNeg (24 : Int32).toNatClampNeg) fun d15 => (ob (gR g x1 5) fun r16 => (ob (gR g x0 5) fun r17 => (gd (chk g r16 101) <| gd (chk g r17 101) <| gd ((0 : Int32).toNatClampNeg + (24 : Int32).toNatClampNeg ≤ gL g r16) <| gd ((0 : Int32).toNatClampNeg + (24 : Int32).toNatClampNeg ≤ gL g r17) <| bd (cF d15 r16 r17 (0 : Int32).toNatClampNeg (0 : Int32).toNatClampNeg (24 : Int32).toNatClampNeg) fun d22 => (ob (gR g x1 6) fun r23 => (ob (gR g x0 6) fun r24 => (gd (chk g r23 102) <| gd (chk g r24 102) <| gd ((0 : Int32).toNatClampNeg + (24 : Int32).toNatClampNeg ≤ gL g r23) <| gd ((0 : Int32).toNatClampNeg + (24 : Int32).toNatClampNeg ≤ gL g r24) <| bd (cI d22 r23 r24 (0 : Int32).toNatClampNeg (0 : Int32).toNatClampNeg (24 : Int32).toNatClampNeg) fun d29 => (ob (gR g x1 7) fun r30 => (ob (gR g x0 7) fun r31 => (gd (chk g r30 102) <| gd (chk g r31 102) <| gd ((0 : Int32).toNatClampNeg + (24 : Int32).toNatClampNeg ≤ gL g r30) <| gd ((0 : Int32).toNatClampNeg + (24 : Int32).toNatClampNeg ≤ gL g r31) <| bd (cI d29 r30 r31 (0 : Int32).toNatClampNeg (0 : Int32).toNatClampNeg (24 : Int32).toNatClampNeg) fun d36 => (ob (gR g x1 8) fun r37 => (ob (gR g x0 8) fun r38 => (gd (chk g r37 102) <| gd (chk g r38 102) <| gd ((0 : Int32).toNatClampNeg + (24 : Int32).toNatClampNeg ≤ gL g r37) <| gd ((0 : Int32).toNatClampNeg + (24 : Int32).toNatClampNeg ≤ gL g r38) <| bd (cI d36 r37 r38 (0 : Int32).toNatClampNeg (0 : Int32).toNatClampNeg (24 : Int32).toNatClampNeg) fun d43 => (some ((), d43))))))))))))))))))))
set_option maxHeartbeats 4000000 in
set_option maxRecDepth 100000 in
theorem tX6_copyFrom_E {p : Program} {l : Launch} {e : Env} {s : State} {m : MethodId} {args : Array Value} {below : List Frame} {meth : Method} {c : Code} {D : va_G} {cy : Nat → ClassId} {B : Bs} (C : Cx p s m args c cX6_copyFrom 2 RX6 D cy B) (hr : meth.sig.returnType = none) (hlocks : meth.locks = false) {N : Nat} {g : Gs} {x0 : Nat} {x1 : Nat}  {dz : Ds} {d : Ds} (hf : fX6_copyFrom N g x0 x1 d = some ((), dz)) : WB p l e rmX6_copyFrom s m args below meth c 2 D cy B 0 0 (MQ below (QV D cy B g dz) args s 0 0 (wA B)) g d [(0, .ref (ad B x0)), (1, .ref (ad B x1))] 0 [] := by
  unfold fX6_copyFrom at hf
  refine b_aload_n C dX6_copyFrom_0 0 rfl rfl ?_
  refine b_aload_n C dX6_copyFrom_1 1 rfl rfl ?_
  obtain ⟨h1, hf⟩ := gd_s hf
  refine b_gI C dX6_copyFrom_2 fl_X6_28 h1 ?_
  obtain ⟨h2, hf⟩ := gd_s hf
  obtain ⟨d3, ed3, hf⟩ := bd_s hf
  refine b_pI C dX6_copyFrom_5 fl_X6_28 fp6_0 h2 ed3 ?_
  refine b_aload_n C dX6_copyFrom_8 0 rfl rfl ?_
  refine b_aload_n C dX6_copyFrom_9 1 rfl rfl ?_
  refine b_gI C dX6_copyFrom_10 fl_X6_32 h1 ?_
  obtain ⟨d4, ed4, hf⟩ := bd_s hf
  refine b_pI C dX6_copyFrom_13 fl_X6_32 fp6_1 h2 ed4 ?_
  refine b_aload_n C dX6_copyFrom_16 0 rfl rfl ?_
  refine b_aload_n C dX6_copyFrom_17 1 rfl rfl ?_
  refine b_gI C dX6_copyFrom_18 fl_X6_35 h1 ?_
  obtain ⟨d5, ed5, hf⟩ := bd_s hf
  refine b_pI C dX6_copyFrom_21 fl_X6_35 fp6_2 h2 ed5 ?_
  refine b_aload_n C dX6_copyFrom_24 0 rfl rfl ?_
  refine b_aload_n C dX6_copyFrom_25 1 rfl rfl ?_
  refine b_gI C dX6_copyFrom_26 fl_X6_38 h1 ?_
  obtain ⟨d6, ed6, hf⟩ := bd_s hf
  refine b_pI C dX6_copyFrom_29 fl_X6_38 fp6_3 h2 ed6 ?_
  refine b_aload_n C dX6_copyFrom_32 1 rfl rfl ?_
  obtain ⟨r7, er7, hf⟩ := ob_s hf
  refine b_gR C dX6_copyFrom_33 fl_X6_9 h1 er7 ?_
  refine b_iconst C (v := 0) dX6_copyFrom_36 (by decide) ?_
  refine b_aload_n C dX6_copyFrom_37 0 rfl rfl ?_
  obtain ⟨r8, er8, hf⟩ := ob_s hf
  refine b_gR C dX6_copyFrom_38 fl_X6_9 h2 er8 ?_
  refine b_iconst C (v := 0) dX6_copyFrom_41 (by decide) ?_
  refine b_bipush C (v := 24) dX6_copyFrom_42 (by decide) ?_
  obtain ⟨h9, hf⟩ := gd_s hf
  obtain ⟨h10, hf⟩ := gd_s hf
  obtain ⟨h11, hf⟩ := gd_s hf
  obtain ⟨h12, hf⟩ := gd_s hf
  obtain ⟨h13, hf⟩ := gd_s hf
  obtain ⟨h14, hf⟩ := gd_s hf
  obtain ⟨d15, ed15, hf⟩ := bd_s hf
  refine b_copyI C ac_X6_41 ac_n ac_s ac_i h9 h10 h11 h11 h12 h13 h14 ed15 (by decide) (by decide +kernel) dX6_copyFrom_44 ?_
  refine b_aload_n C dX6_copyFrom_47 1 rfl rfl ?_
  obtain ⟨r16, er16, hf⟩ := ob_s hf
  refine b_gR C dX6_copyFrom_48 fl_X6_15 h1 er16 ?_
  refine b_iconst C (v := 0) dX6_copyFrom_51 (by decide) ?_
  refine b_aload_n C dX6_copyFrom_52 0 rfl rfl ?_
  obtain ⟨r17, er17, hf⟩ := ob_s hf
  refine b_gR C dX6_copyFrom_53 fl_X6_15 h2 er17 ?_
  refine b_iconst C (v := 0) dX6_copyFrom_56 (by decide) ?_
  refine b_bipush C (v := 24) dX6_copyFrom_57 (by decide) ?_
  obtain ⟨h18, hf⟩ := gd_s hf
  obtain ⟨h19, hf⟩ := gd_s hf
  obtain ⟨h20, hf⟩ := gd_s hf
  obtain ⟨h21, hf⟩ := gd_s hf
  obtain ⟨d22, ed22, hf⟩ := bd_s hf
  refine b_copyF C ac_X6_41 ac_n ac_s ac_i h18 h19 h11 h11 h12 h20 h21 ed22 (by decide) (by decide +kernel) dX6_copyFrom_59 ?_
  refine b_aload_n C dX6_copyFrom_62 1 rfl rfl ?_
  obtain ⟨r23, er23, hf⟩ := ob_s hf
  refine b_gR C dX6_copyFrom_63 fl_X6_19 h1 er23 ?_
  refine b_iconst C (v := 0) dX6_copyFrom_66 (by decide) ?_
  refine b_aload_n C dX6_copyFrom_67 0 rfl rfl ?_
  obtain ⟨r24, er24, hf⟩ := ob_s hf
  refine b_gR C dX6_copyFrom_68 fl_X6_19 h2 er24 ?_
  refine b_iconst C (v := 0) dX6_copyFrom_71 (by decide) ?_
  refine b_bipush C (v := 24) dX6_copyFrom_72 (by decide) ?_
  obtain ⟨h25, hf⟩ := gd_s hf
  obtain ⟨h26, hf⟩ := gd_s hf
  obtain ⟨h27, hf⟩ := gd_s hf
  obtain ⟨h28, hf⟩ := gd_s hf
  obtain ⟨d29, ed29, hf⟩ := bd_s hf
  refine b_copyI C ac_X6_41 ac_n ac_s ac_i h25 h26 h11 h11 h12 h27 h28 ed29 (by decide) (by decide +kernel) dX6_copyFrom_74 ?_
  refine b_aload_n C dX6_copyFrom_77 1 rfl rfl ?_
  obtain ⟨r30, er30, hf⟩ := ob_s hf
  refine b_gR C dX6_copyFrom_78 fl_X6_22 h1 er30 ?_
  refine b_iconst C (v := 0) dX6_copyFrom_81 (by decide) ?_
  refine b_aload_n C dX6_copyFrom_82 0 rfl rfl ?_
  obtain ⟨r31, er31, hf⟩ := ob_s hf
  refine b_gR C dX6_copyFrom_83 fl_X6_22 h2 er31 ?_
  refine b_iconst C (v := 0) dX6_copyFrom_86 (by decide) ?_
  refine b_bipush C (v := 24) dX6_copyFrom_87 (by decide) ?_
  obtain ⟨h32, hf⟩ := gd_s hf
  obtain ⟨h33, hf⟩ := gd_s hf
  obtain ⟨h34, hf⟩ := gd_s hf
  obtain ⟨h35, hf⟩ := gd_s hf
  obtain ⟨d36, ed36, hf⟩ := bd_s hf
  refine b_copyI C ac_X6_41 ac_n ac_s ac_i h32 h33 h11 h11 h12 h34 h35 ed36 (by decide) (by decide +kernel) dX6_copyFrom_89 ?_
  refine b_aload_n C dX6_copyFrom_92 1 rfl rfl ?_
  obtain ⟨r37, er37, hf⟩ := ob_s hf
  refine b_gR C dX6_copyFrom_93 fl_X6_25 h1 er37 ?_
  refine b_iconst C (v := 0) dX6_copyFrom_96 (by decide) ?_
  refine b_aload_n C dX6_copyFrom_97 0 rfl rfl ?_
  obtain ⟨r38, er38, hf⟩ := ob_s hf
  refine b_gR C dX6_copyFrom_98 fl_X6_25 h2 er38 ?_
  refine b_iconst C (v := 0) dX6_copyFrom_101 (by decide) ?_
  refine b_bipush C (v := 24) dX6_copyFrom_102 (by decide) ?_
  obtain ⟨h39, hf⟩ := gd_s hf
  obtain ⟨h40, hf⟩ := gd_s hf
  obtain ⟨h41, hf⟩ := gd_s hf
  obtain ⟨h42, hf⟩ := gd_s hf
  obtain ⟨d43, ed43, hf⟩ := bd_s hf
  refine b_copyI C ac_X6_41 ac_n ac_s ac_i h39 h40 h11 h11 h12 h41 h42 ed43 (by decide) (by decide +kernel) dX6_copyFrom_104 ?_
  exact b_vret C hr hlocks hf dX6_copyFrom_107
theorem kX6_copyFrom (l : Launch) (D : va_G) (cy : Nat → ClassId) (B : Bs) {N : Nat} {g : Gs} {x0 : Nat} {x1 : Nat}  {dz : Ds} {d : Ds} (hf : fX6_copyFrom N g x0 x1 d = some ((), dz)) : Met l yX6_copyFrom (.code yX6_copyFrom cX6_copyFrom 2 none :: wl) rmX6_copyFrom (PC D cy B [.ref (ad B x0), .ref (ad B x1)] g d) (QV D cy B g dz) 0 0 (wA B) :=
  met_of (by decide +kernel) (Nat.le_of_ble_eq_true rfl) (fun p e s m args below meth c C hr hlocks _ => b_sub [(0, .ref (ad B x0)), (1, .ref (ad B x1))] [0, 1] rfl (tX6_copyFrom_E C hr hlocks hf))
/-! KeyMatrix$Queue.copyFrom(LKeyMatrix$Queue;)V -/
theorem fl_X4_11 : FLR RX4 11 4 0 := ⟨⟨RX4, TX4, 3, rfl, by decide, inl4, Or.inl (mW (mT2 (List.mem_of_getElem? (i := 79) (by decide +kernel))) rfl)⟩, by decide, by decide +kernel⟩
theorem ac_X4_22 : Cond.methodLink RX4 22 arraycopyName ∈ wl := mW (mT4 (List.mem_of_getElem? (i := 131) (by decide +kernel))) rfl
theorem dX4_copyFrom_0 : decode cX4_copyFrom 0 = .ok (.aload_n 0, 1) := by decide +kernel
theorem dX4_copyFrom_1 : decode cX4_copyFrom 1 = .ok (.aload_n 1, 1) := by decide +kernel
theorem dX4_copyFrom_2 : decode cX4_copyFrom 2 = .ok (.getfield 15, 3) := by decide +kernel
theorem dX4_copyFrom_5 : decode cX4_copyFrom 5 = .ok (.putfield 15, 3) := by decide +kernel
theorem dX4_copyFrom_8 : decode cX4_copyFrom 8 = .ok (.aload_n 0, 1) := by decide +kernel
theorem dX4_copyFrom_9 : decode cX4_copyFrom 9 = .ok (.aload_n 1, 1) := by decide +kernel
theorem dX4_copyFrom_10 : decode cX4_copyFrom 10 = .ok (.getfield 19, 3) := by decide +kernel
theorem dX4_copyFrom_13 : decode cX4_copyFrom 13 = .ok (.putfield 19, 3) := by decide +kernel
theorem dX4_copyFrom_16 : decode cX4_copyFrom 16 = .ok (.aload_n 1, 1) := by decide +kernel
theorem dX4_copyFrom_17 : decode cX4_copyFrom 17 = .ok (.getfield 11, 3) := by decide +kernel
theorem dX4_copyFrom_20 : decode cX4_copyFrom 20 = .ok (.iconst 0, 1) := by decide +kernel
theorem dX4_copyFrom_21 : decode cX4_copyFrom 21 = .ok (.aload_n 0, 1) := by decide +kernel
theorem dX4_copyFrom_22 : decode cX4_copyFrom 22 = .ok (.getfield 11, 3) := by decide +kernel
theorem dX4_copyFrom_25 : decode cX4_copyFrom 25 = .ok (.iconst 0, 1) := by decide +kernel
theorem dX4_copyFrom_26 : decode cX4_copyFrom 26 = .ok (.aload_n 1, 1) := by decide +kernel
theorem dX4_copyFrom_27 : decode cX4_copyFrom 27 = .ok (.getfield 15, 3) := by decide +kernel
theorem dX4_copyFrom_30 : decode cX4_copyFrom 30 = .ok (.invokestatic 22, 3) := by decide +kernel
theorem dX4_copyFrom_33 : decode cX4_copyFrom 33 = .ok (.return_, 1) := by decide +kernel
def rmX4_copyFrom : Room := { frames := 1, cells := 0, slots := 0, locals := 40 }
set_option maxRecDepth 100000 in
def fX4_copyFrom (N : Nat) (g : Gs) (x0 : Nat) (x1 : Nat) (d : Ds) : Option (Unit × Ds) := gd (chk g x1 4) <| gd (chk g x0 4) <| bd (sI d x0 1 (dI d x1 1)) fun d3 => (bd (sI d3 x0 2 (dI d3 x1 2)) fun d4 => (ob (gR g x1 0) fun r5 => (ob (gR g x0 0) fun r6 => (gd (chk g r5 102) <| gd (chk g r6 102) <| gd (¬ (0 : Int32) < 0) <| gd (¬ (dI d4 x1 1) < 0) <| gd ((0 : Int32).toNatClampNeg + (dI d4 x1 1).toNatClampNeg ≤ gL g r5) <| gd ((0 : Int32).toNatClampNeg + (dI d4 x1 1).toNatClampNeg ≤ gL g r6) <| bd (cI d4 r5 r6 (0 : Int32).toNatClampNeg (0 : Int32).toNatClampNeg (dI d4 x1 1).toNatClampNeg) fun d13 => (some ((), d13))))))
set_option maxHeartbeats 4000000 in
set_option maxRecDepth 100000 in
theorem tX4_copyFrom_E {p : Program} {l : Launch} {e : Env} {s : State} {m : MethodId} {args : Array Value} {below : List Frame} {meth : Method} {c : Code} {D : va_G} {cy : Nat → ClassId} {B : Bs} (C : Cx p s m args c cX4_copyFrom 2 RX4 D cy B) (hr : meth.sig.returnType = none) (hlocks : meth.locks = false) {N : Nat} {g : Gs} {x0 : Nat} {x1 : Nat}  {dz : Ds} {d : Ds} (hf : fX4_copyFrom N g x0 x1 d = some ((), dz)) : WB p l e rmX4_copyFrom s m args below meth c 2 D cy B 0 0 (MQ below (QV D cy B g dz) args s 0 0 (wA B)) g d [(0, .ref (ad B x0)), (1, .ref (ad B x1))] 0 [] := by
  unfold fX4_copyFrom at hf
  refine b_aload_n C dX4_copyFrom_0 0 rfl rfl ?_
  refine b_aload_n C dX4_copyFrom_1 1 rfl rfl ?_
  obtain ⟨h1, hf⟩ := gd_s hf
  refine b_gI C dX4_copyFrom_2 fl_X4_15 h1 ?_
  obtain ⟨h2, hf⟩ := gd_s hf
  obtain ⟨d3, ed3, hf⟩ := bd_s hf
  refine b_pI C dX4_copyFrom_5 fl_X4_15 fp4_1 h2 ed3 ?_
  refine b_aload_n C dX4_copyFrom_8 0 rfl rfl ?_
  refine b_aload_n C dX4_copyFrom_9 1 rfl rfl ?_
  refine b_gI C dX4_copyFrom_10 fl_X4_19 h1 ?_
  obtain ⟨d4, ed4, hf⟩ := bd_s hf
  refine b_pI C dX4_copyFrom_13 fl_X4_19 fp4_2 h2 ed4 ?_
  refine b_aload_n C dX4_copyFrom_16 1 rfl rfl ?_
  obtain ⟨r5, er5, hf⟩ := ob_s hf
  refine b_gR C dX4_copyFrom_17 fl_X4_11 h1 er5 ?_
  refine b_iconst C (v := 0) dX4_copyFrom_20 (by decide) ?_
  refine b_aload_n C dX4_copyFrom_21 0 rfl rfl ?_
  obtain ⟨r6, er6, hf⟩ := ob_s hf
  refine b_gR C dX4_copyFrom_22 fl_X4_11 h2 er6 ?_
  refine b_iconst C (v := 0) dX4_copyFrom_25 (by decide) ?_
  refine b_aload_n C dX4_copyFrom_26 1 rfl rfl ?_
  refine b_gI C dX4_copyFrom_27 fl_X4_15 h1 ?_
  obtain ⟨h7, hf⟩ := gd_s hf
  obtain ⟨h8, hf⟩ := gd_s hf
  obtain ⟨h9, hf⟩ := gd_s hf
  obtain ⟨h10, hf⟩ := gd_s hf
  obtain ⟨h11, hf⟩ := gd_s hf
  obtain ⟨h12, hf⟩ := gd_s hf
  obtain ⟨d13, ed13, hf⟩ := bd_s hf
  refine b_copyI C ac_X4_22 ac_n ac_s ac_i h7 h8 h9 h9 h10 h11 h12 ed13 (by decide) (by decide +kernel) dX4_copyFrom_30 ?_
  exact b_vret C hr hlocks hf dX4_copyFrom_33
theorem kX4_copyFrom (l : Launch) (D : va_G) (cy : Nat → ClassId) (B : Bs) {N : Nat} {g : Gs} {x0 : Nat} {x1 : Nat}  {dz : Ds} {d : Ds} (hf : fX4_copyFrom N g x0 x1 d = some ((), dz)) : Met l yX4_copyFrom (.code yX4_copyFrom cX4_copyFrom 2 none :: wl) rmX4_copyFrom (PC D cy B [.ref (ad B x0), .ref (ad B x1)] g d) (QV D cy B g dz) 0 0 (wA B) :=
  met_of (by decide +kernel) (Nat.le_of_ble_eq_true rfl) (fun p e s m args below meth c C hr hlocks _ => b_sub [(0, .ref (ad B x0)), (1, .ref (ad B x1))] [0, 1] rfl (tX4_copyFrom_E C hr hlocks hf))
/-! KeyMatrix$Doing.copyFrom(LKeyMatrix$Doing;)V -/
theorem ac_X3_34 : Cond.methodLink RX3 34 arraycopyName ∈ wl := mW (mT5 (List.mem_of_getElem? (i := 51) (by decide +kernel))) rfl
theorem fl_X3_21 : FLR RX3 21 3 3 := ⟨⟨RX3, TX3, 9, rfl, by decide, inl3, Or.inl (mW (mT2 (List.mem_of_getElem? (i := 106) (by decide +kernel))) rfl)⟩, by decide, by decide +kernel⟩
theorem dX3_copyFrom_0 : decode cX3_copyFrom 0 = .ok (.aload_n 1, 1) := by decide +kernel
theorem dX3_copyFrom_1 : decode cX3_copyFrom 1 = .ok (.getfield 9, 3) := by decide +kernel
theorem dX3_copyFrom_4 : decode cX3_copyFrom 4 = .ok (.iconst 0, 1) := by decide +kernel
theorem dX3_copyFrom_5 : decode cX3_copyFrom 5 = .ok (.aload_n 0, 1) := by decide +kernel
theorem dX3_copyFrom_6 : decode cX3_copyFrom 6 = .ok (.getfield 9, 3) := by decide +kernel
theorem dX3_copyFrom_9 : decode cX3_copyFrom 9 = .ok (.iconst 0, 1) := by decide +kernel
theorem dX3_copyFrom_10 : decode cX3_copyFrom 10 = .ok (.bipush 24, 2) := by decide +kernel
theorem dX3_copyFrom_12 : decode cX3_copyFrom 12 = .ok (.invokestatic 34, 3) := by decide +kernel
theorem dX3_copyFrom_15 : decode cX3_copyFrom 15 = .ok (.aload_n 1, 1) := by decide +kernel
theorem dX3_copyFrom_16 : decode cX3_copyFrom 16 = .ok (.getfield 15, 3) := by decide +kernel
theorem dX3_copyFrom_19 : decode cX3_copyFrom 19 = .ok (.iconst 0, 1) := by decide +kernel
theorem dX3_copyFrom_20 : decode cX3_copyFrom 20 = .ok (.aload_n 0, 1) := by decide +kernel
theorem dX3_copyFrom_21 : decode cX3_copyFrom 21 = .ok (.getfield 15, 3) := by decide +kernel
theorem dX3_copyFrom_24 : decode cX3_copyFrom 24 = .ok (.iconst 0, 1) := by decide +kernel
theorem dX3_copyFrom_25 : decode cX3_copyFrom 25 = .ok (.bipush 24, 2) := by decide +kernel
theorem dX3_copyFrom_27 : decode cX3_copyFrom 27 = .ok (.invokestatic 34, 3) := by decide +kernel
theorem dX3_copyFrom_30 : decode cX3_copyFrom 30 = .ok (.aload_n 1, 1) := by decide +kernel
theorem dX3_copyFrom_31 : decode cX3_copyFrom 31 = .ok (.getfield 18, 3) := by decide +kernel
theorem dX3_copyFrom_34 : decode cX3_copyFrom 34 = .ok (.iconst 0, 1) := by decide +kernel
theorem dX3_copyFrom_35 : decode cX3_copyFrom 35 = .ok (.aload_n 0, 1) := by decide +kernel
theorem dX3_copyFrom_36 : decode cX3_copyFrom 36 = .ok (.getfield 18, 3) := by decide +kernel
theorem dX3_copyFrom_39 : decode cX3_copyFrom 39 = .ok (.iconst 0, 1) := by decide +kernel
theorem dX3_copyFrom_40 : decode cX3_copyFrom 40 = .ok (.bipush 24, 2) := by decide +kernel
theorem dX3_copyFrom_42 : decode cX3_copyFrom 42 = .ok (.invokestatic 34, 3) := by decide +kernel
theorem dX3_copyFrom_45 : decode cX3_copyFrom 45 = .ok (.aload_n 1, 1) := by decide +kernel
theorem dX3_copyFrom_46 : decode cX3_copyFrom 46 = .ok (.getfield 21, 3) := by decide +kernel
theorem dX3_copyFrom_49 : decode cX3_copyFrom 49 = .ok (.iconst 0, 1) := by decide +kernel
theorem dX3_copyFrom_50 : decode cX3_copyFrom 50 = .ok (.aload_n 0, 1) := by decide +kernel
theorem dX3_copyFrom_51 : decode cX3_copyFrom 51 = .ok (.getfield 21, 3) := by decide +kernel
theorem dX3_copyFrom_54 : decode cX3_copyFrom 54 = .ok (.iconst 0, 1) := by decide +kernel
theorem dX3_copyFrom_55 : decode cX3_copyFrom 55 = .ok (.bipush 24, 2) := by decide +kernel
theorem dX3_copyFrom_57 : decode cX3_copyFrom 57 = .ok (.invokestatic 34, 3) := by decide +kernel
theorem dX3_copyFrom_60 : decode cX3_copyFrom 60 = .ok (.aload_n 0, 1) := by decide +kernel
theorem dX3_copyFrom_61 : decode cX3_copyFrom 61 = .ok (.aload_n 1, 1) := by decide +kernel
theorem dX3_copyFrom_62 : decode cX3_copyFrom 62 = .ok (.getfield 27, 3) := by decide +kernel
theorem dX3_copyFrom_65 : decode cX3_copyFrom 65 = .ok (.putfield 27, 3) := by decide +kernel
theorem dX3_copyFrom_68 : decode cX3_copyFrom 68 = .ok (.aload_n 0, 1) := by decide +kernel
theorem dX3_copyFrom_69 : decode cX3_copyFrom 69 = .ok (.aload_n 1, 1) := by decide +kernel
theorem dX3_copyFrom_70 : decode cX3_copyFrom 70 = .ok (.getfield 31, 3) := by decide +kernel
theorem dX3_copyFrom_73 : decode cX3_copyFrom 73 = .ok (.putfield 31, 3) := by decide +kernel
theorem dX3_copyFrom_76 : decode cX3_copyFrom 76 = .ok (.return_, 1) := by decide +kernel
def rmX3_copyFrom : Room := { frames := 1, cells := 0, slots := 0, locals := 40 }
set_option maxRecDepth 100000 in
def fX3_copyFrom (N : Nat) (g : Gs) (x0 : Nat) (x1 : Nat) (d : Ds) : Option (Unit × Ds) := gd (chk g x1 3) <| ob (gR g x1 0) fun r2 => (gd (chk g x0 3) <| ob (gR g x0 0) fun r4 => (gd (chk g r2 102) <| gd (chk g r4 102) <| gd (¬ (0 : Int32) < 0) <| gd (¬ (24 : Int32) < 0) <| gd ((0 : Int32).toNatClampNeg + (24 : Int32).toNatClampNeg ≤ gL g r2) <| gd ((0 : Int32).toNatClampNeg + (24 : Int32).toNatClampNeg ≤ gL g r4) <| bd (cI d r2 r4 (0 : Int32).toNatClampNeg (0 : Int32).toNatClampNeg (24 : Int32).toNatClampNeg) fun d11 => (ob (gR g x1 1) fun r12 => (ob (gR g x0 1) fun r13 => (gd (chk g r12 102) <| gd (chk g r13 102) <| gd ((0 : Int32).toNatClampNeg + (24 : Int32).toNatClampNeg ≤ gL g r12) <| gd ((0 : Int32).toNatClampNeg + (24 : Int32).toNatClampNeg ≤ gL g r13) <| bd (cI d11 r12 r13 (0 : Int32).toNatClampNeg (0 : Int32).toNatClampNeg (24 : Int32).toNatClampNeg) fun d18 => (ob (gR g x1 2) fun r19 => (ob (gR g x0 2) fun r20 => (gd (chk g r19 102) <| gd (chk g r20 102) <| gd ((0 : Int32).toNatClampNeg + (24 : Int32).toNatClampNeg ≤ gL g r19) <| gd ((0 : Int32).toNatClampNeg + (24 : Int32).toNatClampNeg ≤ gL g r20) <| bd (cI d18 r19 r20 (0 : Int32).toNatClampNeg (0 : Int32).toNatClampNeg (24 : Int32).toNatClampNeg) fun d25 => (ob (gR g x1 3) fun r26 => (ob (gR g x0 3) fun r27 => (gd (chk g r26 102) <| gd (chk g r27 102) <| gd ((0 : Int32).toNatClampNeg + (24 : Int32).toNatClampNeg ≤ gL g r26) <| gd ((0 : Int32).toNatClampNeg + (24 : Int32).toNatClampNeg ≤ gL g r27) <| bd (cI d25 r26 r27 (0 : Int32).toNatClampNeg (0 : Int32).toNatClampNeg (24 : Int32).toNatClampNeg) fun d32 => (bd (sI d32 x0 4 (dI d32 x1 4)) fun d33 => (bd (sI d33 x0 5 (dI d33 x1 5)) fun d34 => (some ((), d34)))))))))))))))
set_option maxHeartbeats 4000000 in
set_option maxRecDepth 100000 in
theorem tX3_copyFrom_E {p : Program} {l : Launch} {e : Env} {s : State} {m : MethodId} {args : Array Value} {below : List Frame} {meth : Method} {c : Code} {D : va_G} {cy : Nat → ClassId} {B : Bs} (C : Cx p s m args c cX3_copyFrom 2 RX3 D cy B) (hr : meth.sig.returnType = none) (hlocks : meth.locks = false) {N : Nat} {g : Gs} {x0 : Nat} {x1 : Nat}  {dz : Ds} {d : Ds} (hf : fX3_copyFrom N g x0 x1 d = some ((), dz)) : WB p l e rmX3_copyFrom s m args below meth c 2 D cy B 0 0 (MQ below (QV D cy B g dz) args s 0 0 (wA B)) g d [(0, .ref (ad B x0)), (1, .ref (ad B x1))] 0 [] := by
  unfold fX3_copyFrom at hf
  refine b_aload_n C dX3_copyFrom_0 1 rfl rfl ?_
  obtain ⟨h1, hf⟩ := gd_s hf
  obtain ⟨r2, er2, hf⟩ := ob_s hf
  refine b_gR C dX3_copyFrom_1 fl_X3_9 h1 er2 ?_
  refine b_iconst C (v := 0) dX3_copyFrom_4 (by decide) ?_
  refine b_aload_n C dX3_copyFrom_5 0 rfl rfl ?_
  obtain ⟨h3, hf⟩ := gd_s hf
  obtain ⟨r4, er4, hf⟩ := ob_s hf
  refine b_gR C dX3_copyFrom_6 fl_X3_9 h3 er4 ?_
  refine b_iconst C (v := 0) dX3_copyFrom_9 (by decide) ?_
  refine b_bipush C (v := 24) dX3_copyFrom_10 (by decide) ?_
  obtain ⟨h5, hf⟩ := gd_s hf
  obtain ⟨h6, hf⟩ := gd_s hf
  obtain ⟨h7, hf⟩ := gd_s hf
  obtain ⟨h8, hf⟩ := gd_s hf
  obtain ⟨h9, hf⟩ := gd_s hf
  obtain ⟨h10, hf⟩ := gd_s hf
  obtain ⟨d11, ed11, hf⟩ := bd_s hf
  refine b_copyI C ac_X3_34 ac_n ac_s ac_i h5 h6 h7 h7 h8 h9 h10 ed11 (by decide) (by decide +kernel) dX3_copyFrom_12 ?_
  refine b_aload_n C dX3_copyFrom_15 1 rfl rfl ?_
  obtain ⟨r12, er12, hf⟩ := ob_s hf
  refine b_gR C dX3_copyFrom_16 fl_X3_15 h1 er12 ?_
  refine b_iconst C (v := 0) dX3_copyFrom_19 (by decide) ?_
  refine b_aload_n C dX3_copyFrom_20 0 rfl rfl ?_
  obtain ⟨r13, er13, hf⟩ := ob_s hf
  refine b_gR C dX3_copyFrom_21 fl_X3_15 h3 er13 ?_
  refine b_iconst C (v := 0) dX3_copyFrom_24 (by decide) ?_
  refine b_bipush C (v := 24) dX3_copyFrom_25 (by decide) ?_
  obtain ⟨h14, hf⟩ := gd_s hf
  obtain ⟨h15, hf⟩ := gd_s hf
  obtain ⟨h16, hf⟩ := gd_s hf
  obtain ⟨h17, hf⟩ := gd_s hf
  obtain ⟨d18, ed18, hf⟩ := bd_s hf
  refine b_copyI C ac_X3_34 ac_n ac_s ac_i h14 h15 h7 h7 h8 h16 h17 ed18 (by decide) (by decide +kernel) dX3_copyFrom_27 ?_
  refine b_aload_n C dX3_copyFrom_30 1 rfl rfl ?_
  obtain ⟨r19, er19, hf⟩ := ob_s hf
  refine b_gR C dX3_copyFrom_31 fl_X3_18 h1 er19 ?_
  refine b_iconst C (v := 0) dX3_copyFrom_34 (by decide) ?_
  refine b_aload_n C dX3_copyFrom_35 0 rfl rfl ?_
  obtain ⟨r20, er20, hf⟩ := ob_s hf
  refine b_gR C dX3_copyFrom_36 fl_X3_18 h3 er20 ?_
  refine b_iconst C (v := 0) dX3_copyFrom_39 (by decide) ?_
  refine b_bipush C (v := 24) dX3_copyFrom_40 (by decide) ?_
  obtain ⟨h21, hf⟩ := gd_s hf
  obtain ⟨h22, hf⟩ := gd_s hf
  obtain ⟨h23, hf⟩ := gd_s hf
  obtain ⟨h24, hf⟩ := gd_s hf
  obtain ⟨d25, ed25, hf⟩ := bd_s hf
  refine b_copyI C ac_X3_34 ac_n ac_s ac_i h21 h22 h7 h7 h8 h23 h24 ed25 (by decide) (by decide +kernel) dX3_copyFrom_42 ?_
  refine b_aload_n C dX3_copyFrom_45 1 rfl rfl ?_
  obtain ⟨r26, er26, hf⟩ := ob_s hf
  refine b_gR C dX3_copyFrom_46 fl_X3_21 h1 er26 ?_
  refine b_iconst C (v := 0) dX3_copyFrom_49 (by decide) ?_
  refine b_aload_n C dX3_copyFrom_50 0 rfl rfl ?_
  obtain ⟨r27, er27, hf⟩ := ob_s hf
  refine b_gR C dX3_copyFrom_51 fl_X3_21 h3 er27 ?_
  refine b_iconst C (v := 0) dX3_copyFrom_54 (by decide) ?_
  refine b_bipush C (v := 24) dX3_copyFrom_55 (by decide) ?_
  obtain ⟨h28, hf⟩ := gd_s hf
  obtain ⟨h29, hf⟩ := gd_s hf
  obtain ⟨h30, hf⟩ := gd_s hf
  obtain ⟨h31, hf⟩ := gd_s hf
  obtain ⟨d32, ed32, hf⟩ := bd_s hf
  refine b_copyI C ac_X3_34 ac_n ac_s ac_i h28 h29 h7 h7 h8 h30 h31 ed32 (by decide) (by decide +kernel) dX3_copyFrom_57 ?_
  refine b_aload_n C dX3_copyFrom_60 0 rfl rfl ?_
  refine b_aload_n C dX3_copyFrom_61 1 rfl rfl ?_
  refine b_gI C dX3_copyFrom_62 fl_X3_27 h1 ?_
  obtain ⟨d33, ed33, hf⟩ := bd_s hf
  refine b_pI C dX3_copyFrom_65 fl_X3_27 fp3_4 h3 ed33 ?_
  refine b_aload_n C dX3_copyFrom_68 0 rfl rfl ?_
  refine b_aload_n C dX3_copyFrom_69 1 rfl rfl ?_
  refine b_gI C dX3_copyFrom_70 fl_X3_31 h1 ?_
  obtain ⟨d34, ed34, hf⟩ := bd_s hf
  refine b_pI C dX3_copyFrom_73 fl_X3_31 fp3_5 h3 ed34 ?_
  exact b_vret C hr hlocks hf dX3_copyFrom_76
theorem kX3_copyFrom (l : Launch) (D : va_G) (cy : Nat → ClassId) (B : Bs) {N : Nat} {g : Gs} {x0 : Nat} {x1 : Nat}  {dz : Ds} {d : Ds} (hf : fX3_copyFrom N g x0 x1 d = some ((), dz)) : Met l yX3_copyFrom (.code yX3_copyFrom cX3_copyFrom 2 none :: wl) rmX3_copyFrom (PC D cy B [.ref (ad B x0), .ref (ad B x1)] g d) (QV D cy B g dz) 0 0 (wA B) :=
  met_of (by decide +kernel) (Nat.le_of_ble_eq_true rfl) (fun p e s m args below meth c C hr hlocks _ => b_sub [(0, .ref (ad B x0)), (1, .ref (ad B x1))] [0, 1] rfl (tX3_copyFrom_E C hr hlocks hf))
/-! KeyMatrix$Reports.copyFrom(LKeyMatrix$Reports;)V -/
theorem fl_X5_11 : FLR RX5 11 5 0 := ⟨⟨RX5, TX5, 9, rfl, by decide, inl5, Or.inl (mW (mT2 (List.mem_of_getElem? (i := 145) (by decide +kernel))) rfl)⟩, by decide, by decide +kernel⟩
theorem ac_X5_37 : Cond.methodLink RX5 37 arraycopyName ∈ wl := mW (mT4 (List.mem_of_getElem? (i := 180) (by decide +kernel))) rfl
theorem fl_X5_15 : FLR RX5 15 5 1 := ⟨⟨RX5, TX5, 9, rfl, by decide, inl5, Or.inl (mW (mT2 (List.mem_of_getElem? (i := 147) (by decide +kernel))) rfl)⟩, by decide, by decide +kernel⟩
theorem fl_X5_18 : FLR RX5 18 5 2 := ⟨⟨RX5, TX5, 9, rfl, by decide, inl5, Or.inl (mW (mT2 (List.mem_of_getElem? (i := 149) (by decide +kernel))) rfl)⟩, by decide, by decide +kernel⟩
theorem fl_X5_23 : FLR RX5 23 5 3 := ⟨⟨RX5, TX5, 9, rfl, by decide, inl5, Or.inl (mW (mT2 (List.mem_of_getElem? (i := 151) (by decide +kernel))) rfl)⟩, by decide, by decide +kernel⟩
theorem dX5_copyFrom_0 : decode cX5_copyFrom 0 = .ok (.aload_n 1, 1) := by decide +kernel
theorem dX5_copyFrom_1 : decode cX5_copyFrom 1 = .ok (.getfield 11, 3) := by decide +kernel
theorem dX5_copyFrom_4 : decode cX5_copyFrom 4 = .ok (.iconst 0, 1) := by decide +kernel
theorem dX5_copyFrom_5 : decode cX5_copyFrom 5 = .ok (.aload_n 0, 1) := by decide +kernel
theorem dX5_copyFrom_6 : decode cX5_copyFrom 6 = .ok (.getfield 11, 3) := by decide +kernel
theorem dX5_copyFrom_9 : decode cX5_copyFrom 9 = .ok (.iconst 0, 1) := by decide +kernel
theorem dX5_copyFrom_10 : decode cX5_copyFrom 10 = .ok (.bipush 40, 2) := by decide +kernel
theorem dX5_copyFrom_12 : decode cX5_copyFrom 12 = .ok (.invokestatic 37, 3) := by decide +kernel
theorem dX5_copyFrom_15 : decode cX5_copyFrom 15 = .ok (.aload_n 1, 1) := by decide +kernel
theorem dX5_copyFrom_16 : decode cX5_copyFrom 16 = .ok (.getfield 15, 3) := by decide +kernel
theorem dX5_copyFrom_19 : decode cX5_copyFrom 19 = .ok (.iconst 0, 1) := by decide +kernel
theorem dX5_copyFrom_20 : decode cX5_copyFrom 20 = .ok (.aload_n 0, 1) := by decide +kernel
theorem dX5_copyFrom_21 : decode cX5_copyFrom 21 = .ok (.getfield 15, 3) := by decide +kernel
theorem dX5_copyFrom_24 : decode cX5_copyFrom 24 = .ok (.iconst 0, 1) := by decide +kernel
theorem dX5_copyFrom_25 : decode cX5_copyFrom 25 = .ok (.bipush 40, 2) := by decide +kernel
theorem dX5_copyFrom_27 : decode cX5_copyFrom 27 = .ok (.invokestatic 37, 3) := by decide +kernel
theorem dX5_copyFrom_30 : decode cX5_copyFrom 30 = .ok (.aload_n 1, 1) := by decide +kernel
theorem dX5_copyFrom_31 : decode cX5_copyFrom 31 = .ok (.getfield 18, 3) := by decide +kernel
theorem dX5_copyFrom_34 : decode cX5_copyFrom 34 = .ok (.iconst 0, 1) := by decide +kernel
theorem dX5_copyFrom_35 : decode cX5_copyFrom 35 = .ok (.aload_n 0, 1) := by decide +kernel
theorem dX5_copyFrom_36 : decode cX5_copyFrom 36 = .ok (.getfield 18, 3) := by decide +kernel
theorem dX5_copyFrom_39 : decode cX5_copyFrom 39 = .ok (.iconst 0, 1) := by decide +kernel
theorem dX5_copyFrom_40 : decode cX5_copyFrom 40 = .ok (.bipush 40, 2) := by decide +kernel
theorem dX5_copyFrom_42 : decode cX5_copyFrom 42 = .ok (.invokestatic 37, 3) := by decide +kernel
theorem dX5_copyFrom_45 : decode cX5_copyFrom 45 = .ok (.aload_n 1, 1) := by decide +kernel
theorem dX5_copyFrom_46 : decode cX5_copyFrom 46 = .ok (.getfield 23, 3) := by decide +kernel
theorem dX5_copyFrom_49 : decode cX5_copyFrom 49 = .ok (.iconst 0, 1) := by decide +kernel
theorem dX5_copyFrom_50 : decode cX5_copyFrom 50 = .ok (.aload_n 0, 1) := by decide +kernel
theorem dX5_copyFrom_51 : decode cX5_copyFrom 51 = .ok (.getfield 23, 3) := by decide +kernel
theorem dX5_copyFrom_54 : decode cX5_copyFrom 54 = .ok (.iconst 0, 1) := by decide +kernel
theorem dX5_copyFrom_55 : decode cX5_copyFrom 55 = .ok (.sipush 1000, 3) := by decide +kernel
theorem dX5_copyFrom_58 : decode cX5_copyFrom 58 = .ok (.invokestatic 37, 3) := by decide +kernel
theorem dX5_copyFrom_61 : decode cX5_copyFrom 61 = .ok (.aload_n 0, 1) := by decide +kernel
theorem dX5_copyFrom_62 : decode cX5_copyFrom 62 = .ok (.aload_n 1, 1) := by decide +kernel
theorem dX5_copyFrom_63 : decode cX5_copyFrom 63 = .ok (.getfield 26, 3) := by decide +kernel
theorem dX5_copyFrom_66 : decode cX5_copyFrom 66 = .ok (.putfield 26, 3) := by decide +kernel
theorem dX5_copyFrom_69 : decode cX5_copyFrom 69 = .ok (.aload_n 0, 1) := by decide +kernel
theorem dX5_copyFrom_70 : decode cX5_copyFrom 70 = .ok (.aload_n 1, 1) := by decide +kernel
theorem dX5_copyFrom_71 : decode cX5_copyFrom 71 = .ok (.getfield 43, 3) := by decide +kernel
theorem dX5_copyFrom_74 : decode cX5_copyFrom 74 = .ok (.putfield 43, 3) := by decide +kernel
theorem dX5_copyFrom_77 : decode cX5_copyFrom 77 = .ok (.aload_n 0, 1) := by decide +kernel
theorem dX5_copyFrom_78 : decode cX5_copyFrom 78 = .ok (.aload_n 1, 1) := by decide +kernel
theorem dX5_copyFrom_79 : decode cX5_copyFrom 79 = .ok (.getfield 46, 3) := by decide +kernel
theorem dX5_copyFrom_82 : decode cX5_copyFrom 82 = .ok (.putfield 46, 3) := by decide +kernel
theorem dX5_copyFrom_85 : decode cX5_copyFrom 85 = .ok (.aload_n 0, 1) := by decide +kernel
theorem dX5_copyFrom_86 : decode cX5_copyFrom 86 = .ok (.aload_n 1, 1) := by decide +kernel
theorem dX5_copyFrom_87 : decode cX5_copyFrom 87 = .ok (.getfield 30, 3) := by decide +kernel
theorem dX5_copyFrom_90 : decode cX5_copyFrom 90 = .ok (.putfield 30, 3) := by decide +kernel
theorem dX5_copyFrom_93 : decode cX5_copyFrom 93 = .ok (.aload_n 0, 1) := by decide +kernel
theorem dX5_copyFrom_94 : decode cX5_copyFrom 94 = .ok (.aload_n 1, 1) := by decide +kernel
theorem dX5_copyFrom_95 : decode cX5_copyFrom 95 = .ok (.getfield 49, 3) := by decide +kernel
theorem dX5_copyFrom_98 : decode cX5_copyFrom 98 = .ok (.putfield 49, 3) := by decide +kernel
theorem dX5_copyFrom_101 : decode cX5_copyFrom 101 = .ok (.return_, 1) := by decide +kernel
def rmX5_copyFrom : Room := { frames := 1, cells := 0, slots := 0, locals := 40 }
set_option maxRecDepth 100000 in
def fX5_copyFrom (N : Nat) (g : Gs) (x0 : Nat) (x1 : Nat) (d : Ds) : Option (Unit × Ds) := gd (chk g x1 5) <| ob (gR g x1 0) fun r2 => (gd (chk g x0 5) <| ob (gR g x0 0) fun r4 => (gd (chk g r2 102) <| gd (chk g r4 102) <| gd (¬ (0 : Int32) < 0) <| gd (¬ (40 : Int32) < 0) <| gd ((0 : Int32).toNatClampNeg + (40 : Int32).toNatClampNeg ≤ gL g r2) <| gd ((0 : Int32).toNatClampNeg + (40 : Int32).toNatClampNeg ≤ gL g r4) <| bd (cI d r2 r4 (0 : Int32).toNatClampNeg (0 : Int32).toNatClampNeg (40 : Int32).toNatClampNeg) fun d11 => (ob (gR g x1 1) fun r12 => (ob (gR g x0 1) fun r13 => (gd (chk g r12 102) <| gd (chk g r13 102) <| gd ((0 : Int32).toNatClampNeg + (40 : Int32).toNatClampNeg ≤ gL g r12) <| gd ((0 : Int32).toNatClampNeg + (40 : Int32).toNatClampNeg ≤ gL g r13) <| bd (cI d11 r12 r13 (0 : Int32).toNatClampNeg (0 : Int32).toNatClampNeg (40 : Int32).toNatClampNeg) fun d18 => (ob (gR g x1 2) fun r19 => (ob (gR g x0 2) fun r20 => (gd (chk g r19 102) <| gd (chk g r20 102) <| gd ((0 : Int32).toNatClampNeg + (40 : Int32).toNatClampNeg ≤ gL g r19) <| gd ((0 : Int32).toNatClampNeg + (40 : Int32).toNatClampNeg ≤ gL g r20) <| bd (cI d18 r19 r20 (0 : Int32).toNatClampNeg (0 : Int32).toNatClampNeg (40 : Int32).toNatClampNeg) fun d25 => (ob (gR g x1 3) fun r26 => (ob (gR g x0 3) fun r27 => (gd (chk g r26 102) <| gd (chk g r27 102) <| gd (¬ (1000 : Int32) < 0) <| gd ((0 : Int32).toNatClampNeg + (1000 : Int32).toNatClampNeg ≤ gL g r26) <| gd ((0 : Int32).toNatClampNeg + (1000 : Int32).toNatClampNeg ≤ gL g r27) <| bd (cI d25 r26 r27 (0 : Int32).toNatClampNeg (0 : Int32).toNatClampNeg (1000 : Int32).toNatClampNeg) fun d33 => (bd (sI d33 x0 4 (dI d33 x1 4)) fun d34 => (bd (sI d34 x0 5 (dI d34 x1 5)) fun d35 => (bd (sI d35 x0 6 (dI d35 x1 6)) fun d36 => (bd (sI d36 x0 7 (dI d36 x1 7)) fun d37 => (bd (sI d37 x0 8 (dI d37 x1 8)) fun d38 => (some ((), d38))))))))))))))))))
set_option maxHeartbeats 4000000 in
set_option maxRecDepth 100000 in
theorem tX5_copyFrom_E {p : Program} {l : Launch} {e : Env} {s : State} {m : MethodId} {args : Array Value} {below : List Frame} {meth : Method} {c : Code} {D : va_G} {cy : Nat → ClassId} {B : Bs} (C : Cx p s m args c cX5_copyFrom 2 RX5 D cy B) (hr : meth.sig.returnType = none) (hlocks : meth.locks = false) {N : Nat} {g : Gs} {x0 : Nat} {x1 : Nat}  {dz : Ds} {d : Ds} (hf : fX5_copyFrom N g x0 x1 d = some ((), dz)) : WB p l e rmX5_copyFrom s m args below meth c 2 D cy B 0 0 (MQ below (QV D cy B g dz) args s 0 0 (wA B)) g d [(0, .ref (ad B x0)), (1, .ref (ad B x1))] 0 [] := by
  unfold fX5_copyFrom at hf
  refine b_aload_n C dX5_copyFrom_0 1 rfl rfl ?_
  obtain ⟨h1, hf⟩ := gd_s hf
  obtain ⟨r2, er2, hf⟩ := ob_s hf
  refine b_gR C dX5_copyFrom_1 fl_X5_11 h1 er2 ?_
  refine b_iconst C (v := 0) dX5_copyFrom_4 (by decide) ?_
  refine b_aload_n C dX5_copyFrom_5 0 rfl rfl ?_
  obtain ⟨h3, hf⟩ := gd_s hf
  obtain ⟨r4, er4, hf⟩ := ob_s hf
  refine b_gR C dX5_copyFrom_6 fl_X5_11 h3 er4 ?_
  refine b_iconst C (v := 0) dX5_copyFrom_9 (by decide) ?_
  refine b_bipush C (v := 40) dX5_copyFrom_10 (by decide) ?_
  obtain ⟨h5, hf⟩ := gd_s hf
  obtain ⟨h6, hf⟩ := gd_s hf
  obtain ⟨h7, hf⟩ := gd_s hf
  obtain ⟨h8, hf⟩ := gd_s hf
  obtain ⟨h9, hf⟩ := gd_s hf
  obtain ⟨h10, hf⟩ := gd_s hf
  obtain ⟨d11, ed11, hf⟩ := bd_s hf
  refine b_copyI C ac_X5_37 ac_n ac_s ac_i h5 h6 h7 h7 h8 h9 h10 ed11 (by decide) (by decide +kernel) dX5_copyFrom_12 ?_
  refine b_aload_n C dX5_copyFrom_15 1 rfl rfl ?_
  obtain ⟨r12, er12, hf⟩ := ob_s hf
  refine b_gR C dX5_copyFrom_16 fl_X5_15 h1 er12 ?_
  refine b_iconst C (v := 0) dX5_copyFrom_19 (by decide) ?_
  refine b_aload_n C dX5_copyFrom_20 0 rfl rfl ?_
  obtain ⟨r13, er13, hf⟩ := ob_s hf
  refine b_gR C dX5_copyFrom_21 fl_X5_15 h3 er13 ?_
  refine b_iconst C (v := 0) dX5_copyFrom_24 (by decide) ?_
  refine b_bipush C (v := 40) dX5_copyFrom_25 (by decide) ?_
  obtain ⟨h14, hf⟩ := gd_s hf
  obtain ⟨h15, hf⟩ := gd_s hf
  obtain ⟨h16, hf⟩ := gd_s hf
  obtain ⟨h17, hf⟩ := gd_s hf
  obtain ⟨d18, ed18, hf⟩ := bd_s hf
  refine b_copyI C ac_X5_37 ac_n ac_s ac_i h14 h15 h7 h7 h8 h16 h17 ed18 (by decide) (by decide +kernel) dX5_copyFrom_27 ?_
  refine b_aload_n C dX5_copyFrom_30 1 rfl rfl ?_
  obtain ⟨r19, er19, hf⟩ := ob_s hf
  refine b_gR C dX5_copyFrom_31 fl_X5_18 h1 er19 ?_
  refine b_iconst C (v := 0) dX5_copyFrom_34 (by decide) ?_
  refine b_aload_n C dX5_copyFrom_35 0 rfl rfl ?_
  obtain ⟨r20, er20, hf⟩ := ob_s hf
  refine b_gR C dX5_copyFrom_36 fl_X5_18 h3 er20 ?_
  refine b_iconst C (v := 0) dX5_copyFrom_39 (by decide) ?_
  refine b_bipush C (v := 40) dX5_copyFrom_40 (by decide) ?_
  obtain ⟨h21, hf⟩ := gd_s hf
  obtain ⟨h22, hf⟩ := gd_s hf
  obtain ⟨h23, hf⟩ := gd_s hf
  obtain ⟨h24, hf⟩ := gd_s hf
  obtain ⟨d25, ed25, hf⟩ := bd_s hf
  refine b_copyI C ac_X5_37 ac_n ac_s ac_i h21 h22 h7 h7 h8 h23 h24 ed25 (by decide) (by decide +kernel) dX5_copyFrom_42 ?_
  refine b_aload_n C dX5_copyFrom_45 1 rfl rfl ?_
  obtain ⟨r26, er26, hf⟩ := ob_s hf
  refine b_gR C dX5_copyFrom_46 fl_X5_23 h1 er26 ?_
  refine b_iconst C (v := 0) dX5_copyFrom_49 (by decide) ?_
  refine b_aload_n C dX5_copyFrom_50 0 rfl rfl ?_
  obtain ⟨r27, er27, hf⟩ := ob_s hf
  refine b_gR C dX5_copyFrom_51 fl_X5_23 h3 er27 ?_
  refine b_iconst C (v := 0) dX5_copyFrom_54 (by decide) ?_
  refine b_sipush C (v := 1000) dX5_copyFrom_55 (by decide) ?_
  obtain ⟨h28, hf⟩ := gd_s hf
  obtain ⟨h29, hf⟩ := gd_s hf
  obtain ⟨h30, hf⟩ := gd_s hf
  obtain ⟨h31, hf⟩ := gd_s hf
  obtain ⟨h32, hf⟩ := gd_s hf
  obtain ⟨d33, ed33, hf⟩ := bd_s hf
  refine b_copyI C ac_X5_37 ac_n ac_s ac_i h28 h29 h7 h7 h30 h31 h32 ed33 (by decide) (by decide +kernel) dX5_copyFrom_58 ?_
  refine b_aload_n C dX5_copyFrom_61 0 rfl rfl ?_
  refine b_aload_n C dX5_copyFrom_62 1 rfl rfl ?_
  refine b_gI C dX5_copyFrom_63 fl_X5_26 h1 ?_
  obtain ⟨d34, ed34, hf⟩ := bd_s hf
  refine b_pI C dX5_copyFrom_66 fl_X5_26 fp5_4 h3 ed34 ?_
  refine b_aload_n C dX5_copyFrom_69 0 rfl rfl ?_
  refine b_aload_n C dX5_copyFrom_70 1 rfl rfl ?_
  refine b_gI C dX5_copyFrom_71 fl_X5_43 h1 ?_
  obtain ⟨d35, ed35, hf⟩ := bd_s hf
  refine b_pI C dX5_copyFrom_74 fl_X5_43 fp5_5 h3 ed35 ?_
  refine b_aload_n C dX5_copyFrom_77 0 rfl rfl ?_
  refine b_aload_n C dX5_copyFrom_78 1 rfl rfl ?_
  refine b_gI C dX5_copyFrom_79 fl_X5_46 h1 ?_
  obtain ⟨d36, ed36, hf⟩ := bd_s hf
  refine b_pI C dX5_copyFrom_82 fl_X5_46 fp5_6 h3 ed36 ?_
  refine b_aload_n C dX5_copyFrom_85 0 rfl rfl ?_
  refine b_aload_n C dX5_copyFrom_86 1 rfl rfl ?_
  refine b_gI C dX5_copyFrom_87 fl_X5_30 h1 ?_
  obtain ⟨d37, ed37, hf⟩ := bd_s hf
  refine b_pI C dX5_copyFrom_90 fl_X5_30 fp5_7 h3 ed37 ?_
  refine b_aload_n C dX5_copyFrom_93 0 rfl rfl ?_
  refine b_aload_n C dX5_copyFrom_94 1 rfl rfl ?_
  refine b_gI C dX5_copyFrom_95 fl_X5_49 h1 ?_
  obtain ⟨d38, ed38, hf⟩ := bd_s hf
  refine b_pI C dX5_copyFrom_98 fl_X5_49 fp5_8 h3 ed38 ?_
  exact b_vret C hr hlocks hf dX5_copyFrom_101
theorem kX5_copyFrom (l : Launch) (D : va_G) (cy : Nat → ClassId) (B : Bs) {N : Nat} {g : Gs} {x0 : Nat} {x1 : Nat}  {dz : Ds} {d : Ds} (hf : fX5_copyFrom N g x0 x1 d = some ((), dz)) : Met l yX5_copyFrom (.code yX5_copyFrom cX5_copyFrom 2 none :: wl) rmX5_copyFrom (PC D cy B [.ref (ad B x0), .ref (ad B x1)] g d) (QV D cy B g dz) 0 0 (wA B) :=
  met_of (by decide +kernel) (Nat.le_of_ble_eq_true rfl) (fun p e s m args below meth c C hr hlocks _ => b_sub [(0, .ref (ad B x0)), (1, .ref (ad B x1))] [0, 1] rfl (tX5_copyFrom_E C hr hlocks hf))
/-! KeyMatrix$Course.copyFrom(LKeyMatrix$Course;)V -/
theorem yo_X6_copyFrom : yX6_copyFrom.cls ≠ "java/lang/invoke/MethodHandle" ∧ yX6_copyFrom.cls ≠ "java/lang/invoke/VarHandle" ∧ (parseMethodDescriptor yX6_copyFrom.desc).map (fun d => d.parameters.length) = some 1 := by decide +kernel
theorem co_X6_copyFrom : Cond.code yX6_copyFrom cX6_copyFrom 2 none ∈ wl := mW (mT5 (List.mem_of_getElem? (i := 41) (by decide +kernel))) rfl
theorem in_X6_copyFrom : Cond.initialized yX6_copyFrom.cls ∈ wl := mW (mT1 (List.mem_of_getElem? (i := 8) (by decide +kernel))) rfl
theorem im_X6_copyFrom : Cond.instanceMethod yX6_copyFrom ∈ wl := mW (mT5 (List.mem_of_getElem? (i := 39) (by decide +kernel))) rfl
theorem se_X6_copyFrom : Cond.selects yX6_copyFrom.cls yX6_copyFrom yX6_copyFrom ∈ wl := mW (mT5 (List.mem_of_getElem? (i := 40) (by decide +kernel))) rfl
theorem lv_X1_54 : LV RX1 54 yX6_copyFrom cX6_copyFrom 2 none 1 6 := ⟨⟨(RX6, TX6, 9), rfl, rfl⟩, yo_X6_copyFrom, mW (mT5 (List.mem_of_getElem? (i := 38) (by decide +kernel))) rfl, im_X6_copyFrom, se_X6_copyFrom, in_X6_copyFrom, co_X6_copyFrom⟩
theorem yo_X4_copyFrom : yX4_copyFrom.cls ≠ "java/lang/invoke/MethodHandle" ∧ yX4_copyFrom.cls ≠ "java/lang/invoke/VarHandle" ∧ (parseMethodDescriptor yX4_copyFrom.desc).map (fun d => d.parameters.length) = some 1 := by decide +kernel
theorem co_X4_copyFrom : Cond.code yX4_copyFrom cX4_copyFrom 2 none ∈ wl := mW (mT5 (List.mem_of_getElem? (i := 46) (by decide +kernel))) rfl
theorem in_X4_copyFrom : Cond.initialized yX4_copyFrom.cls ∈ wl := mW (mT1 (List.mem_of_getElem? (i := 9) (by decide +kernel))) rfl
theorem im_X4_copyFrom : Cond.instanceMethod yX4_copyFrom ∈ wl := mW (mT5 (List.mem_of_getElem? (i := 44) (by decide +kernel))) rfl
theorem se_X4_copyFrom : Cond.selects yX4_copyFrom.cls yX4_copyFrom yX4_copyFrom ∈ wl := mW (mT5 (List.mem_of_getElem? (i := 45) (by decide +kernel))) rfl
theorem lv_X1_58 : LV RX1 58 yX4_copyFrom cX4_copyFrom 2 none 1 4 := ⟨⟨(RX4, TX4, 3), rfl, rfl⟩, yo_X4_copyFrom, mW (mT5 (List.mem_of_getElem? (i := 43) (by decide +kernel))) rfl, im_X4_copyFrom, se_X4_copyFrom, in_X4_copyFrom, co_X4_copyFrom⟩
theorem yo_X3_copyFrom : yX3_copyFrom.cls ≠ "java/lang/invoke/MethodHandle" ∧ yX3_copyFrom.cls ≠ "java/lang/invoke/VarHandle" ∧ (parseMethodDescriptor yX3_copyFrom.desc).map (fun d => d.parameters.length) = some 1 := by decide +kernel
theorem co_X3_copyFrom : Cond.code yX3_copyFrom cX3_copyFrom 2 none ∈ wl := mW (mT5 (List.mem_of_getElem? (i := 50) (by decide +kernel))) rfl
theorem in_X3_copyFrom : Cond.initialized yX3_copyFrom.cls ∈ wl := mW (mT1 (List.mem_of_getElem? (i := 10) (by decide +kernel))) rfl
theorem im_X3_copyFrom : Cond.instanceMethod yX3_copyFrom ∈ wl := mW (mT5 (List.mem_of_getElem? (i := 48) (by decide +kernel))) rfl
theorem se_X3_copyFrom : Cond.selects yX3_copyFrom.cls yX3_copyFrom yX3_copyFrom ∈ wl := mW (mT5 (List.mem_of_getElem? (i := 49) (by decide +kernel))) rfl
theorem lv_X1_61 : LV RX1 61 yX3_copyFrom cX3_copyFrom 2 none 1 3 := ⟨⟨(RX3, TX3, 9), rfl, rfl⟩, yo_X3_copyFrom, mW (mT5 (List.mem_of_getElem? (i := 47) (by decide +kernel))) rfl, im_X3_copyFrom, se_X3_copyFrom, in_X3_copyFrom, co_X3_copyFrom⟩
theorem yo_X5_copyFrom : yX5_copyFrom.cls ≠ "java/lang/invoke/MethodHandle" ∧ yX5_copyFrom.cls ≠ "java/lang/invoke/VarHandle" ∧ (parseMethodDescriptor yX5_copyFrom.desc).map (fun d => d.parameters.length) = some 1 := by decide +kernel
theorem co_X5_copyFrom : Cond.code yX5_copyFrom cX5_copyFrom 2 none ∈ wl := mW (mT5 (List.mem_of_getElem? (i := 55) (by decide +kernel))) rfl
theorem in_X5_copyFrom : Cond.initialized yX5_copyFrom.cls ∈ wl := mW (mT1 (List.mem_of_getElem? (i := 11) (by decide +kernel))) rfl
theorem im_X5_copyFrom : Cond.instanceMethod yX5_copyFrom ∈ wl := mW (mT5 (List.mem_of_getElem? (i := 53) (by decide +kernel))) rfl
theorem se_X5_copyFrom : Cond.selects yX5_copyFrom.cls yX5_copyFrom yX5_copyFrom ∈ wl := mW (mT5 (List.mem_of_getElem? (i := 54) (by decide +kernel))) rfl
theorem lv_X1_64 : LV RX1 64 yX5_copyFrom cX5_copyFrom 2 none 1 5 := ⟨⟨(RX5, TX5, 9), rfl, rfl⟩, yo_X5_copyFrom, mW (mT5 (List.mem_of_getElem? (i := 52) (by decide +kernel))) rfl, im_X5_copyFrom, se_X5_copyFrom, in_X5_copyFrom, co_X5_copyFrom⟩
theorem dX1_copyFrom_0 : decode cX1_copyFrom 0 = .ok (.aload_n 0, 1) := by decide +kernel
theorem dX1_copyFrom_1 : decode cX1_copyFrom 1 = .ok (.aload_n 1, 1) := by decide +kernel
theorem dX1_copyFrom_2 : decode cX1_copyFrom 2 = .ok (.getfield 46, 3) := by decide +kernel
theorem dX1_copyFrom_5 : decode cX1_copyFrom 5 = .ok (.putfield 46, 3) := by decide +kernel
theorem dX1_copyFrom_8 : decode cX1_copyFrom 8 = .ok (.aload_n 0, 1) := by decide +kernel
theorem dX1_copyFrom_9 : decode cX1_copyFrom 9 = .ok (.getfield 12, 3) := by decide +kernel
theorem dX1_copyFrom_12 : decode cX1_copyFrom 12 = .ok (.aload_n 1, 1) := by decide +kernel
theorem dX1_copyFrom_13 : decode cX1_copyFrom 13 = .ok (.getfield 12, 3) := by decide +kernel
theorem dX1_copyFrom_16 : decode cX1_copyFrom 16 = .ok (.invokevirtual 54, 3) := by decide +kernel
theorem dX1_copyFrom_19 : decode cX1_copyFrom 19 = .ok (.aload_n 0, 1) := by decide +kernel
theorem dX1_copyFrom_20 : decode cX1_copyFrom 20 = .ok (.getfield 21, 3) := by decide +kernel
theorem dX1_copyFrom_23 : decode cX1_copyFrom 23 = .ok (.aload_n 1, 1) := by decide +kernel
theorem dX1_copyFrom_24 : decode cX1_copyFrom 24 = .ok (.getfield 21, 3) := by decide +kernel
theorem dX1_copyFrom_27 : decode cX1_copyFrom 27 = .ok (.invokevirtual 58, 3) := by decide +kernel
theorem dX1_copyFrom_30 : decode cX1_copyFrom 30 = .ok (.aload_n 0, 1) := by decide +kernel
theorem dX1_copyFrom_31 : decode cX1_copyFrom 31 = .ok (.getfield 28, 3) := by decide +kernel
theorem dX1_copyFrom_34 : decode cX1_copyFrom 34 = .ok (.aload_n 1, 1) := by decide +kernel
theorem dX1_copyFrom_35 : decode cX1_copyFrom 35 = .ok (.getfield 28, 3) := by decide +kernel
theorem dX1_copyFrom_38 : decode cX1_copyFrom 38 = .ok (.invokevirtual 61, 3) := by decide +kernel
theorem dX1_copyFrom_41 : decode cX1_copyFrom 41 = .ok (.aload_n 0, 1) := by decide +kernel
theorem dX1_copyFrom_42 : decode cX1_copyFrom 42 = .ok (.getfield 35, 3) := by decide +kernel
theorem dX1_copyFrom_45 : decode cX1_copyFrom 45 = .ok (.aload_n 1, 1) := by decide +kernel
theorem dX1_copyFrom_46 : decode cX1_copyFrom 46 = .ok (.getfield 35, 3) := by decide +kernel
theorem dX1_copyFrom_49 : decode cX1_copyFrom 49 = .ok (.invokevirtual 64, 3) := by decide +kernel
theorem dX1_copyFrom_52 : decode cX1_copyFrom 52 = .ok (.return_, 1) := by decide +kernel
def rmX1_copyFrom : Room := { frames := 2, cells := 0, slots := 0, locals := 61 }
set_option maxRecDepth 100000 in
def fX1_copyFrom (N : Nat) (g : Gs) (x0 : Nat) (x1 : Nat) (d : Ds) : Option (Unit × Ds) := gd (chk g x1 1) <| gd (chk g x0 1) <| bd (sI d x0 5 (dI d x1 5)) fun d3 => (ob (gR g x0 1) fun r4 => (ob (gR g x1 1) fun r5 => (gd (chk g r4 6) <| cv (fX6_copyFrom N g r4 r5 d3) fun d7 => (ob (gR g x0 2) fun r9 => (ob (gR g x1 2) fun r10 => (gd (chk g r9 4) <| cv (fX4_copyFrom N g r9 r10 d7) fun d12 => (ob (gR g x0 3) fun r14 => (ob (gR g x1 3) fun r15 => (gd (chk g r14 3) <| cv (fX3_copyFrom N g r14 r15 d12) fun d17 => (ob (gR g x0 4) fun r19 => (ob (gR g x1 4) fun r20 => (gd (chk g r19 5) <| cv (fX5_copyFrom N g r19 r20 d17) fun d22 => (some ((), d22))))))))))))))
set_option maxHeartbeats 4000000 in
set_option maxRecDepth 100000 in
theorem tX1_copyFrom_E {p : Program} {l : Launch} {e : Env} {s : State} {m : MethodId} {args : Array Value} {below : List Frame} {meth : Method} {c : Code} {D : va_G} {cy : Nat → ClassId} {B : Bs} (C : Cx p s m args c cX1_copyFrom 2 RX1 D cy B) (hr : meth.sig.returnType = none) (hlocks : meth.locks = false) {N : Nat} {g : Gs} {x0 : Nat} {x1 : Nat}  {dz : Ds} {d : Ds} (hf : fX1_copyFrom N g x0 x1 d = some ((), dz)) : WB p l e rmX1_copyFrom s m args below meth c 2 D cy B 0 0 (MQ below (QV D cy B g dz) args s 0 0 (wA B)) g d [(0, .ref (ad B x0)), (1, .ref (ad B x1))] 0 [] := by
  unfold fX1_copyFrom at hf
  refine b_aload_n C dX1_copyFrom_0 0 rfl rfl ?_
  refine b_aload_n C dX1_copyFrom_1 1 rfl rfl ?_
  obtain ⟨h1, hf⟩ := gd_s hf
  refine b_gI C dX1_copyFrom_2 fl_X1_46 h1 ?_
  obtain ⟨h2, hf⟩ := gd_s hf
  obtain ⟨d3, ed3, hf⟩ := bd_s hf
  refine b_pI C dX1_copyFrom_5 fl_X1_46 fp1_5 h2 ed3 ?_
  refine b_aload_n C dX1_copyFrom_8 0 rfl rfl ?_
  obtain ⟨r4, er4, hf⟩ := ob_s hf
  refine b_gR C dX1_copyFrom_9 fl_X1_12 h2 er4 ?_
  refine b_aload_n C dX1_copyFrom_12 1 rfl rfl ?_
  obtain ⟨r5, er5, hf⟩ := ob_s hf
  refine b_gR C dX1_copyFrom_13 fl_X1_12 h1 er5 ?_
  obtain ⟨h6, hf⟩ := gd_s hf
  obtain ⟨d7, k8, hf⟩ := cv_s hf
  refine b_cVN C [] dX1_copyFrom_16 (kX6_copyFrom l D cy B k8) lv_X1_54 ⟨rfl, rfl, Nat.le_of_ble_eq_true rfl, Nat.le_of_ble_eq_true rfl⟩ h6 (by decide) rfl (Nat.le_of_ble_eq_true rfl) ⟨Nat.zero_le _, Nat.zero_le _⟩ rfl ?_
  refine b_aload_n C dX1_copyFrom_19 0 rfl rfl ?_
  obtain ⟨r9, er9, hf⟩ := ob_s hf
  refine b_gR C dX1_copyFrom_20 fl_X1_21 h2 er9 ?_
  refine b_aload_n C dX1_copyFrom_23 1 rfl rfl ?_
  obtain ⟨r10, er10, hf⟩ := ob_s hf
  refine b_gR C dX1_copyFrom_24 fl_X1_21 h1 er10 ?_
  obtain ⟨h11, hf⟩ := gd_s hf
  obtain ⟨d12, k13, hf⟩ := cv_s hf
  refine b_cVN C [] dX1_copyFrom_27 (kX4_copyFrom l D cy B k13) lv_X1_58 ⟨rfl, rfl, Nat.le_of_ble_eq_true rfl, Nat.le_of_ble_eq_true rfl⟩ h11 (by decide) rfl (Nat.le_of_ble_eq_true rfl) ⟨Nat.zero_le _, Nat.zero_le _⟩ rfl ?_
  refine b_aload_n C dX1_copyFrom_30 0 rfl rfl ?_
  obtain ⟨r14, er14, hf⟩ := ob_s hf
  refine b_gR C dX1_copyFrom_31 fl_X1_28 h2 er14 ?_
  refine b_aload_n C dX1_copyFrom_34 1 rfl rfl ?_
  obtain ⟨r15, er15, hf⟩ := ob_s hf
  refine b_gR C dX1_copyFrom_35 fl_X1_28 h1 er15 ?_
  obtain ⟨h16, hf⟩ := gd_s hf
  obtain ⟨d17, k18, hf⟩ := cv_s hf
  refine b_cVN C [] dX1_copyFrom_38 (kX3_copyFrom l D cy B k18) lv_X1_61 ⟨rfl, rfl, Nat.le_of_ble_eq_true rfl, Nat.le_of_ble_eq_true rfl⟩ h16 (by decide) rfl (Nat.le_of_ble_eq_true rfl) ⟨Nat.zero_le _, Nat.zero_le _⟩ rfl ?_
  refine b_aload_n C dX1_copyFrom_41 0 rfl rfl ?_
  obtain ⟨r19, er19, hf⟩ := ob_s hf
  refine b_gR C dX1_copyFrom_42 fl_X1_35 h2 er19 ?_
  refine b_aload_n C dX1_copyFrom_45 1 rfl rfl ?_
  obtain ⟨r20, er20, hf⟩ := ob_s hf
  refine b_gR C dX1_copyFrom_46 fl_X1_35 h1 er20 ?_
  obtain ⟨h21, hf⟩ := gd_s hf
  obtain ⟨d22, k23, hf⟩ := cv_s hf
  refine b_cVN C [] dX1_copyFrom_49 (kX5_copyFrom l D cy B k23) lv_X1_64 ⟨rfl, rfl, Nat.le_of_ble_eq_true rfl, Nat.le_of_ble_eq_true rfl⟩ h21 (by decide) rfl (Nat.le_of_ble_eq_true rfl) ⟨Nat.zero_le _, Nat.zero_le _⟩ rfl ?_
  exact b_vret C hr hlocks hf dX1_copyFrom_52
theorem kX1_copyFrom (l : Launch) (D : va_G) (cy : Nat → ClassId) (B : Bs) {N : Nat} {g : Gs} {x0 : Nat} {x1 : Nat}  {dz : Ds} {d : Ds} (hf : fX1_copyFrom N g x0 x1 d = some ((), dz)) : Met l yX1_copyFrom (.code yX1_copyFrom cX1_copyFrom 2 none :: wl) rmX1_copyFrom (PC D cy B [.ref (ad B x0), .ref (ad B x1)] g d) (QV D cy B g dz) 0 0 (wA B) :=
  met_of (by decide +kernel) (Nat.le_of_ble_eq_true rfl) (fun p e s m args below meth c C hr hlocks _ => b_sub [(0, .ref (ad B x0)), (1, .ref (ad B x1))] [0, 1] rfl (tX1_copyFrom_E C hr hlocks hf))
/-! KeyMatrix$Course.activeLayers()I -/
theorem fl_X1_67 : FLI RX1 67 3 5 := ⟨⟨RX3, TX3, 9, rfl, by decide, inl3, Or.inr (mT2 (List.mem_of_getElem? (i := 109) (by decide +kernel)))⟩, by decide, by decide +kernel⟩
theorem fl_X1_70 : FLR RX1 70 3 0 := ⟨⟨RX3, TX3, 9, rfl, by decide, inl3, Or.inr (mT2 (List.mem_of_getElem? (i := 99) (by decide +kernel)))⟩, by decide, by decide +kernel⟩
theorem fl_X1_74 : FLI RX1 74 6 3 := ⟨⟨RX6, TX6, 9, rfl, by decide, inl6, Or.inr (mT2 (List.mem_of_getElem? (i := 41) (by decide +kernel)))⟩, by decide, by decide +kernel⟩
theorem lv_X1_77 : LSt RX1 77 yX11_isIn cX11_isIn 2 (some .boolean) 2 := ⟨yo_X11_isIn, Or.inr (mT4 (List.mem_of_getElem? (i := 83) (by decide +kernel))), st_X11_isIn, in_X11_isIn, co_X11_isIn⟩
theorem fl_X1_81 : FLR RX1 81 3 1 := ⟨⟨RX3, TX3, 9, rfl, by decide, inl3, Or.inr (mT2 (List.mem_of_getElem? (i := 102) (by decide +kernel)))⟩, by decide, by decide +kernel⟩
theorem dX1_activeLayers_0 : decode cX1_activeLayers 0 = .ok (.iconst 1, 1) := by decide +kernel
theorem dX1_activeLayers_1 : decode cX1_activeLayers 1 = .ok (.aload_n 0, 1) := by decide +kernel
theorem dX1_activeLayers_2 : decode cX1_activeLayers 2 = .ok (.getfield 28, 3) := by decide +kernel
theorem dX1_activeLayers_5 : decode cX1_activeLayers 5 = .ok (.getfield 67, 3) := by decide +kernel
theorem dX1_activeLayers_8 : decode cX1_activeLayers 8 = .ok (.ior, 1) := by decide +kernel
theorem dX1_activeLayers_9 : decode cX1_activeLayers 9 = .ok (.istore_n 1, 1) := by decide +kernel
theorem dX1_activeLayers_10 : decode cX1_activeLayers 10 = .ok (.iconst 0, 1) := by decide +kernel
theorem dX1_activeLayers_11 : decode cX1_activeLayers 11 = .ok (.istore_n 2, 1) := by decide +kernel
theorem dX1_activeLayers_12 : decode cX1_activeLayers 12 = .ok (.iload_n 2, 1) := by decide +kernel
theorem dX1_activeLayers_13 : decode cX1_activeLayers 13 = .ok (.bipush 24, 2) := by decide +kernel
theorem dX1_activeLayers_15 : decode cX1_activeLayers 15 = .ok (.if_icmp .ge 50, 3) := by decide +kernel
theorem dX1_activeLayers_18 : decode cX1_activeLayers 18 = .ok (.aload_n 0, 1) := by decide +kernel
theorem dX1_activeLayers_19 : decode cX1_activeLayers 19 = .ok (.getfield 28, 3) := by decide +kernel
theorem dX1_activeLayers_22 : decode cX1_activeLayers 22 = .ok (.getfield 70, 3) := by decide +kernel
theorem dX1_activeLayers_25 : decode cX1_activeLayers 25 = .ok (.iload_n 2, 1) := by decide +kernel
theorem dX1_activeLayers_26 : decode cX1_activeLayers 26 = .ok (.iaload, 1) := by decide +kernel
theorem dX1_activeLayers_27 : decode cX1_activeLayers 27 = .ok (.iconst 2, 1) := by decide +kernel
theorem dX1_activeLayers_28 : decode cX1_activeLayers 28 = .ok (.if_icmp .ne 31, 3) := by decide +kernel
theorem dX1_activeLayers_31 : decode cX1_activeLayers 31 = .ok (.aload_n 0, 1) := by decide +kernel
theorem dX1_activeLayers_32 : decode cX1_activeLayers 32 = .ok (.getfield 12, 3) := by decide +kernel
theorem dX1_activeLayers_35 : decode cX1_activeLayers 35 = .ok (.getfield 74, 3) := by decide +kernel
theorem dX1_activeLayers_38 : decode cX1_activeLayers 38 = .ok (.iload_n 2, 1) := by decide +kernel
theorem dX1_activeLayers_39 : decode cX1_activeLayers 39 = .ok (.invokestatic 77, 3) := by decide +kernel
theorem dX1_activeLayers_42 : decode cX1_activeLayers 42 = .ok (.ifCond .eq 17, 3) := by decide +kernel
theorem dX1_activeLayers_45 : decode cX1_activeLayers 45 = .ok (.iload_n 1, 1) := by decide +kernel
theorem dX1_activeLayers_46 : decode cX1_activeLayers 46 = .ok (.iconst 1, 1) := by decide +kernel
theorem dX1_activeLayers_47 : decode cX1_activeLayers 47 = .ok (.aload_n 0, 1) := by decide +kernel
theorem dX1_activeLayers_48 : decode cX1_activeLayers 48 = .ok (.getfield 28, 3) := by decide +kernel
theorem dX1_activeLayers_51 : decode cX1_activeLayers 51 = .ok (.getfield 81, 3) := by decide +kernel
theorem dX1_activeLayers_54 : decode cX1_activeLayers 54 = .ok (.iload_n 2, 1) := by decide +kernel
theorem dX1_activeLayers_55 : decode cX1_activeLayers 55 = .ok (.iaload, 1) := by decide +kernel
theorem dX1_activeLayers_56 : decode cX1_activeLayers 56 = .ok (.ishl, 1) := by decide +kernel
theorem dX1_activeLayers_57 : decode cX1_activeLayers 57 = .ok (.ior, 1) := by decide +kernel
theorem dX1_activeLayers_58 : decode cX1_activeLayers 58 = .ok (.istore_n 1, 1) := by decide +kernel
theorem dX1_activeLayers_59 : decode cX1_activeLayers 59 = .ok (.iinc 2 1, 3) := by decide +kernel
theorem dX1_activeLayers_62 : decode cX1_activeLayers 62 = .ok (.goto (-50), 3) := by decide +kernel
theorem dX1_activeLayers_65 : decode cX1_activeLayers 65 = .ok (.iload_n 1, 1) := by decide +kernel
theorem dX1_activeLayers_66 : decode cX1_activeLayers 66 = .ok (.ireturn, 1) := by decide +kernel
def rmX1_activeLayers : Room := { frames := 1, cells := 0, slots := 0, locals := 21 }
set_option maxRecDepth 100000 in
def fX1_activeLayers_J59 (N : Nat) (g : Gs) (x0 : Nat) (K12 : Int32 × Int32 × Ds → Option (Int32 × Ds)) (y1 : Int32) (y2 : Int32) (d : Ds) : Option (Int32 × Ds) := bd (y2 + 1) fun u13 => (K12 (y1, u13, d))
set_option maxHeartbeats 4000000 in
set_option maxRecDepth 100000 in
theorem tX1_activeLayers_59 {p : Program} {l : Launch} {e : Env} {s : State} {m : MethodId} {args : Array Value} {below : List Frame} {meth : Method} {c : Code} {D : va_G} {cy : Nat → ClassId} {B : Bs} (C : Cx p s m args c cX1_activeLayers 3 RX1 D cy B) (hr : meth.sig.returnType = (some .int)) (hlocks : meth.locks = false) {N : Nat} {g : Gs} {x0 : Nat} {vz : Int32} {dz : Ds} {K12 : Int32 × Int32 × Ds → Option (Int32 × Ds)} (hK12 : ∀ a, K12 a = some (vz, dz) → WB p l e rmX1_activeLayers s m args below meth c 3 D cy B 0 0 (MQ below (QI D cy B vz g dz) args s 0 0 (wA B)) g a.2.2 [(0, .ref (ad B x0)), (1, .int a.1), (2, .int a.2.1)] 12 []) {y1 : Int32} {y2 : Int32} {d : Ds} (hf : fX1_activeLayers_J59 N g x0 K12 y1 y2 d = some (vz, dz)) : WB p l e rmX1_activeLayers s m args below meth c 3 D cy B 0 0 (MQ below (QI D cy B vz g dz) args s 0 0 (wA B)) g d [(0, .ref (ad B x0)), (1, .int y1), (2, .int y2)] 59 [] := by
  unfold fX1_activeLayers_J59 at hf
  obtain ⟨u13, eu13, hf⟩ := bd_s hf
  refine b_iinc C dX1_activeLayers_59 2 rfl (by rw [eu13]; rfl) [(2, .int u13), (0, .ref (ad B x0)), (1, .int y1)] (by decide) rfl ?_
  refine b_goto C (tgt := 12) dX1_activeLayers_62 (by decide) ?_
  refine b_sub [(0, .ref (ad B x0)), (1, .int y1), (2, .int u13)] [1, 2, 0] rfl ?_
  exact hK12 (y1, u13, d) hf
set_option maxRecDepth 100000 in
def fX1_activeLayers_B12 (N : Nat) (g : Gs) (x0 : Nat) (K12 : Int32 × Int32 × Ds → Option (Int32 × Ds)) (y1 : Int32) (y2 : Int32) (d : Ds) : Option (Int32 × Ds) := if (24 : Int32) ≤ y2 then (some (y1, d)) else (gd (chk g x0 1) <| ob (gR g x0 3) fun r7 => (gd (chk g r7 3) <| ob (gR g r7 0) fun r9 => (gd (chk g r9 102) <| gd (¬ (y2 < 0 ∨ gL g r9 ≤ y2.toNatClampNeg)) <| if (dI d r9 y2.toNatClampNeg) = (2 : Int32) then (ob (gR g x0 1) fun r14 => (gd (chk g r14 6) <| cb (fX11_isIn N g (dI d r14 3) y2 d) fun u18 d16 => (if u18 = 0 then (fX1_activeLayers_J59 N g x0 K12 y1 y2 d16) else (ob (gR g r7 1) fun r20 => (gd (chk g r20 102) <| gd (¬ (y2 < 0 ∨ gL g r20 ≤ y2.toNatClampNeg)) <| bd ((y1 ||| ((1 : Int32) <<< ((dI d16 r20 y2.toNatClampNeg) &&& 31)))) fun u23 => (fX1_activeLayers_J59 N g x0 K12 u23 y2 d16)))))) else (fX1_activeLayers_J59 N g x0 K12 y1 y2 d))))
set_option maxHeartbeats 4000000 in
set_option maxRecDepth 100000 in
theorem tX1_activeLayers_12 {p : Program} {l : Launch} {e : Env} {s : State} {m : MethodId} {args : Array Value} {below : List Frame} {meth : Method} {c : Code} {D : va_G} {cy : Nat → ClassId} {B : Bs} (C : Cx p s m args c cX1_activeLayers 3 RX1 D cy B) (hr : meth.sig.returnType = (some .int)) (hlocks : meth.locks = false) {N : Nat} {g : Gs} {x0 : Nat} {vz : Int32} {dz : Ds} {K12 : Int32 × Int32 × Ds → Option (Int32 × Ds)} (hK12 : ∀ a, K12 a = some (vz, dz) → WB p l e rmX1_activeLayers s m args below meth c 3 D cy B 0 0 (MQ below (QI D cy B vz g dz) args s 0 0 (wA B)) g a.2.2 [(0, .ref (ad B x0)), (1, .int a.1), (2, .int a.2.1)] 12 []) {y1 : Int32} {y2 : Int32} {d : Ds} (hf : fX1_activeLayers_B12 N g x0 K12 y1 y2 d = some (vz, dz)) : WB p l e rmX1_activeLayers s m args below meth c 3 D cy B 0 0 (MQ below (QI D cy B vz g dz) args s 0 0 (wA B)) g d [(0, .ref (ad B x0)), (1, .int y1), (2, .int y2)] 12 [] := by
  unfold fX1_activeLayers_B12 at hf
  refine b_iload_n C dX1_activeLayers_12 2 rfl rfl ?_
  refine b_bipush C (v := 24) dX1_activeLayers_13 (by decide) ?_
  refine b_icmp_ge C (tgt := 65) dX1_activeLayers_15 (by decide) (fun c5 => ?_) (fun c5 => ?_)
  · have hf := it_s c5 hf
    refine b_iload_n C dX1_activeLayers_65 1 rfl rfl ?_
    exact b_iret C hr hlocks hf dX1_activeLayers_66
  · have hf := if_s c5 hf
    refine b_aload_n C dX1_activeLayers_18 0 rfl rfl ?_
    obtain ⟨h6, hf⟩ := gd_s hf
    obtain ⟨r7, er7, hf⟩ := ob_s hf
    refine b_gR C dX1_activeLayers_19 fl_X1_28 h6 er7 ?_
    obtain ⟨h8, hf⟩ := gd_s hf
    obtain ⟨r9, er9, hf⟩ := ob_s hf
    refine b_gR C dX1_activeLayers_22 fl_X1_70 h8 er9 ?_
    refine b_iload_n C dX1_activeLayers_25 2 rfl rfl ?_
    obtain ⟨h10, hf⟩ := gd_s hf
    obtain ⟨h11, hf⟩ := gd_s hf
    refine b_iald C h10 h11 dX1_activeLayers_26 ?_
    refine b_iconst C (v := 2) dX1_activeLayers_27 (by decide) ?_
    refine b_icmp_ne C (tgt := 59) dX1_activeLayers_28 (by decide) (fun c12 => ?_) (fun c12 => ?_)
    · have hf := if_s c12 hf
      refine b_sub [(0, .ref (ad B x0)), (1, .int y1), (2, .int y2)] [0, 1, 2] rfl ?_
      exact tX1_activeLayers_59 C hr hlocks hK12 hf
    · have hf := it_s c12 hf
      refine b_aload_n C dX1_activeLayers_31 0 rfl rfl ?_
      obtain ⟨r14, er14, hf⟩ := ob_s hf
      refine b_gR C dX1_activeLayers_32 fl_X1_12 h6 er14 ?_
      obtain ⟨h15, hf⟩ := gd_s hf
      refine b_gI C dX1_activeLayers_35 fl_X1_74 h15 ?_
      refine b_iload_n C dX1_activeLayers_38 2 rfl rfl ?_
      obtain ⟨u18, d16, k17, hf⟩ := cb_s hf
      refine b_cSI C [] dX1_activeLayers_39 (kX11_isIn l D cy B k17) lv_X1_77 ⟨rfl, rfl, Nat.le_of_ble_eq_true rfl, Nat.le_of_ble_eq_true rfl⟩ rfl (Nat.le_of_ble_eq_true rfl) ⟨Nat.zero_le _, Nat.zero_le _⟩ rfl ?_
      refine b_if_eq C (tgt := 59) dX1_activeLayers_42 (by decide) (fun c19 => ?_) (fun c19 => ?_)
      · have hf := it_s c19 hf
        refine b_sub [(0, .ref (ad B x0)), (1, .int y1), (2, .int y2)] [0, 1, 2] rfl ?_
        exact tX1_activeLayers_59 C hr hlocks hK12 hf
      · have hf := if_s c19 hf
        refine b_iload_n C dX1_activeLayers_45 1 rfl rfl ?_
        refine b_iconst C (v := 1) dX1_activeLayers_46 (by decide) ?_
        refine b_aload_n C dX1_activeLayers_47 0 rfl rfl ?_
        refine b_gR C dX1_activeLayers_48 fl_X1_28 h6 er7 ?_
        obtain ⟨r20, er20, hf⟩ := ob_s hf
        refine b_gR C dX1_activeLayers_51 fl_X1_81 h8 er20 ?_
        refine b_iload_n C dX1_activeLayers_54 2 rfl rfl ?_
        obtain ⟨h21, hf⟩ := gd_s hf
        obtain ⟨h22, hf⟩ := gd_s hf
        refine b_iald C h21 h22 dX1_activeLayers_55 ?_
        refine b_ishl C dX1_activeLayers_56 ?_
        refine b_ior C dX1_activeLayers_57 ?_
        obtain ⟨u23, eu23, hf⟩ := bd_s hf
        refine b_topI eu23 ?_
        refine b_istore_n C dX1_activeLayers_58 rfl [(1, .int u23), (0, .ref (ad B x0)), (2, .int y2)] (by decide) rfl ?_
        refine b_sub [(0, .ref (ad B x0)), (1, .int u23), (2, .int y2)] [1, 0, 2] rfl ?_
        exact tX1_activeLayers_59 C hr hlocks hK12 hf
def fX1_activeLayers_L12 (N : Nat) (g : Gs) (x0 : Nat) : Int32 × Int32 × Ds → Option (Int32 × Ds) := lp (fun K12 a => fX1_activeLayers_B12 N g x0 K12 a.1 a.2.1 a.2.2) N
theorem tX1_activeLayers_L12 {p : Program} {l : Launch} {e : Env} {s : State} {m : MethodId} {args : Array Value} {below : List Frame} {meth : Method} {c : Code} {D : va_G} {cy : Nat → ClassId} {B : Bs} (C : Cx p s m args c cX1_activeLayers 3 RX1 D cy B) (hr : meth.sig.returnType = (some .int)) (hlocks : meth.locks = false) {N : Nat} {g : Gs} {x0 : Nat} {vz : Int32} {dz : Ds} (a : Int32 × Int32 × Ds) (hf : fX1_activeLayers_L12 N g x0 a = some (vz, dz)) : WB p l e rmX1_activeLayers s m args below meth c 3 D cy B 0 0 (MQ below (QI D cy B vz g dz) args s 0 0 (wA B)) g a.2.2 [(0, .ref (ad B x0)), (1, .int a.1), (2, .int a.2.1)] 12 [] :=
  lp_w (fun K12 hK12 a ha => tX1_activeLayers_12 C hr hlocks hK12 ha) N a hf
set_option maxRecDepth 100000 in
def fX1_activeLayers (N : Nat) (g : Gs) (x0 : Nat) (d : Ds) : Option (Int32 × Ds) := gd (chk g x0 1) <| ob (gR g x0 3) fun r2 => (gd (chk g r2 3) <| bd (((1 : Int32) ||| (dI d r2 5))) fun u4 => (fX1_activeLayers_L12 N g x0 (u4, 0, d)))
set_option maxHeartbeats 4000000 in
set_option maxRecDepth 100000 in
theorem tX1_activeLayers_E {p : Program} {l : Launch} {e : Env} {s : State} {m : MethodId} {args : Array Value} {below : List Frame} {meth : Method} {c : Code} {D : va_G} {cy : Nat → ClassId} {B : Bs} (C : Cx p s m args c cX1_activeLayers 3 RX1 D cy B) (hr : meth.sig.returnType = (some .int)) (hlocks : meth.locks = false) {N : Nat} {g : Gs} {x0 : Nat} {vz : Int32} {dz : Ds} {d : Ds} (hf : fX1_activeLayers N g x0 d = some (vz, dz)) : WB p l e rmX1_activeLayers s m args below meth c 3 D cy B 0 0 (MQ below (QI D cy B vz g dz) args s 0 0 (wA B)) g d [(0, .ref (ad B x0))] 0 [] := by
  unfold fX1_activeLayers at hf
  refine b_iconst C (v := 1) dX1_activeLayers_0 (by decide) ?_
  refine b_aload_n C dX1_activeLayers_1 0 rfl rfl ?_
  obtain ⟨h1, hf⟩ := gd_s hf
  obtain ⟨r2, er2, hf⟩ := ob_s hf
  refine b_gR C dX1_activeLayers_2 fl_X1_28 h1 er2 ?_
  obtain ⟨h3, hf⟩ := gd_s hf
  refine b_gI C dX1_activeLayers_5 fl_X1_67 h3 ?_
  refine b_ior C dX1_activeLayers_8 ?_
  obtain ⟨u4, eu4, hf⟩ := bd_s hf
  refine b_topI eu4 ?_
  refine b_istore_n C dX1_activeLayers_9 rfl [(1, .int u4), (0, .ref (ad B x0))] (by decide) rfl ?_
  refine b_iconst C (v := 0) dX1_activeLayers_10 (by decide) ?_
  refine b_istore_n C dX1_activeLayers_11 rfl [(2, .int 0), (1, .int u4), (0, .ref (ad B x0))] (by decide) rfl ?_
  refine b_sub [(0, .ref (ad B x0)), (1, .int u4), (2, .int 0)] [2, 1, 0] rfl ?_
  exact tX1_activeLayers_L12 C hr hlocks (u4, 0, d) hf
theorem kX1_activeLayers (l : Launch) (D : va_G) (cy : Nat → ClassId) (B : Bs) {N : Nat} {g : Gs} {x0 : Nat} {vz : Int32} {dz : Ds} {d : Ds} (hf : fX1_activeLayers N g x0 d = some (vz, dz)) : Met l yX1_activeLayers (.code yX1_activeLayers cX1_activeLayers 3 (some .int) :: wl) rmX1_activeLayers (PC D cy B [.ref (ad B x0)] g d) (QI D cy B vz g dz) 0 0 (wA B) :=
  met_of (by decide +kernel) (Nat.le_of_ble_eq_true rfl) (fun p e s m args below meth c C hr hlocks _ => b_sub [(0, .ref (ad B x0))] [0] rfl (tX1_activeLayers_E C hr hlocks hf))
/-! KeyMatrix$Scan.weighSteady(I)V -/
theorem ct_X6_47 : Cond.constantFloat RX6 47 1063256064 ∈ wl := mW (mT4 (List.mem_of_getElem? (i := 69) (by decide +kernel))) rfl
theorem lv_X6_48 : LSt RX6 48 yX11_isIn cX11_isIn 2 (some .boolean) 2 := ⟨yo_X11_isIn, Or.inr (mT4 (List.mem_of_getElem? (i := 70) (by decide +kernel))), st_X11_isIn, in_X11_isIn, co_X11_isIn⟩
theorem ct_X6_52 : Cond.constantFloat RX6 52 1040187392 ∈ wl := mW (mT4 (List.mem_of_getElem? (i := 71) (by decide +kernel))) rfl
theorem dX6_weighSteady_0 : decode cX6_weighSteady 0 = .ok (.aload_n 0, 1) := by decide +kernel
theorem dX6_weighSteady_1 : decode cX6_weighSteady 1 = .ok (.getfield 15, 3) := by decide +kernel
theorem dX6_weighSteady_4 : decode cX6_weighSteady 4 = .ok (.iload_n 1, 1) := by decide +kernel
theorem dX6_weighSteady_5 : decode cX6_weighSteady 5 = .ok (.faload, 1) := by decide +kernel
theorem dX6_weighSteady_6 : decode cX6_weighSteady 6 = .ok (.ldc 47, 2) := by decide +kernel
theorem dX6_weighSteady_8 : decode cX6_weighSteady 8 = .ok (.fmul, 1) := by decide +kernel
theorem dX6_weighSteady_9 : decode cX6_weighSteady 9 = .ok (.fstore_n 2, 1) := by decide +kernel
theorem dX6_weighSteady_10 : decode cX6_weighSteady 10 = .ok (.aload_n 0, 1) := by decide +kernel
theorem dX6_weighSteady_11 : decode cX6_weighSteady 11 = .ok (.getfield 15, 3) := by decide +kernel
theorem dX6_weighSteady_14 : decode cX6_weighSteady 14 = .ok (.iload_n 1, 1) := by decide +kernel
theorem dX6_weighSteady_15 : decode cX6_weighSteady 15 = .ok (.aload_n 0, 1) := by decide +kernel
theorem dX6_weighSteady_16 : decode cX6_weighSteady 16 = .ok (.getfield 32, 3) := by decide +kernel
theorem dX6_weighSteady_19 : decode cX6_weighSteady 19 = .ok (.iload_n 1, 1) := by decide +kernel
theorem dX6_weighSteady_20 : decode cX6_weighSteady 20 = .ok (.invokestatic 48, 3) := by decide +kernel
theorem dX6_weighSteady_23 : decode cX6_weighSteady 23 = .ok (.ifCond .eq 10, 3) := by decide +kernel
theorem dX6_weighSteady_26 : decode cX6_weighSteady 26 = .ok (.fload_n 2, 1) := by decide +kernel
theorem dX6_weighSteady_27 : decode cX6_weighSteady 27 = .ok (.ldc 52, 2) := by decide +kernel
theorem dX6_weighSteady_29 : decode cX6_weighSteady 29 = .ok (.fadd, 1) := by decide +kernel
theorem dX6_weighSteady_30 : decode cX6_weighSteady 30 = .ok (.goto 4, 3) := by decide +kernel
theorem dX6_weighSteady_33 : decode cX6_weighSteady 33 = .ok (.fload_n 2, 1) := by decide +kernel
theorem dX6_weighSteady_34 : decode cX6_weighSteady 34 = .ok (.fastore, 1) := by decide +kernel
theorem dX6_weighSteady_35 : decode cX6_weighSteady 35 = .ok (.return_, 1) := by decide +kernel
def rmX6_weighSteady : Room := { frames := 1, cells := 0, slots := 0, locals := 21 }
set_option maxRecDepth 100000 in
def fX6_weighSteady_J34 (N : Nat) (g : Gs) (x0 : Nat) (x1 : Int32) (z0 : UInt32) (z1 : Int32) (z2 : Nat) (d : Ds) : Option (Unit × Ds) := gd (chk g z2 101) <| gd (¬ (z1 < 0 ∨ gL g z2 ≤ z1.toNatClampNeg)) <| bd (sF d z2 z1.toNatClampNeg z0) fun d13 => (some ((), d13))
set_option maxHeartbeats 4000000 in
set_option maxRecDepth 100000 in
theorem tX6_weighSteady_34 {p : Program} {l : Launch} {e : Env} {s : State} {m : MethodId} {args : Array Value} {below : List Frame} {meth : Method} {c : Code} {D : va_G} {cy : Nat → ClassId} {B : Bs} (C : Cx p s m args c cX6_weighSteady 3 RX6 D cy B) (hr : meth.sig.returnType = none) (hlocks : meth.locks = false) {N : Nat} {g : Gs} {x0 : Nat} {x1 : Int32}  {dz : Ds} {z0 : UInt32} {z1 : Int32} {z2 : Nat} {d : Ds} (hf : fX6_weighSteady_J34 N g x0 x1 z0 z1 z2 d = some ((), dz)) : WB p l e rmX6_weighSteady s m args below meth c 3 D cy B 0 0 (MQ below (QV D cy B g dz) args s 0 0 (wA B)) g d [(0, .ref (ad B x0)), (1, .int x1)] 34 [.float z0, .int z1, .ref (ad B z2)] := by
  unfold fX6_weighSteady_J34 at hf
  obtain ⟨h11, hf⟩ := gd_s hf
  obtain ⟨h12, hf⟩ := gd_s hf
  obtain ⟨d13, ed13, hf⟩ := bd_s hf
  refine b_fast C h11 h12 ed13 dX6_weighSteady_34 ?_
  exact b_vret C hr hlocks hf dX6_weighSteady_35
set_option maxRecDepth 100000 in
def fX6_weighSteady (N : Nat) (g : Gs) (x0 : Nat) (x1 : Int32) (d : Ds) : Option (Unit × Ds) := gd (chk g x0 6) <| ob (gR g x0 5) fun r2 => (gd (chk g r2 101) <| gd (¬ (x1 < 0 ∨ gL g r2 ≤ x1.toNatClampNeg)) <| gd ((FP.fmul (dF d r2 x1.toNatClampNeg) 1063256064) &&& 0x7fffffff ≤ 0x7f800000) <| bd (FP.fmul (dF d r2 x1.toNatClampNeg) 1063256064) fun u6 => (cb (fX11_isIn N g (dI d x0 1) x1 d) fun u9 d7 => (if u9 = 0 then (fX6_weighSteady_J34 N g x0 x1 u6 x1 r2 d7) else (gd ((FP.fadd u6 1040187392) &&& 0x7fffffff ≤ 0x7f800000) <| bd (FP.fadd u6 1040187392) fun u15 => (fX6_weighSteady_J34 N g x0 x1 u15 x1 r2 d7)))))
set_option maxHeartbeats 4000000 in
set_option maxRecDepth 100000 in
theorem tX6_weighSteady_E {p : Program} {l : Launch} {e : Env} {s : State} {m : MethodId} {args : Array Value} {below : List Frame} {meth : Method} {c : Code} {D : va_G} {cy : Nat → ClassId} {B : Bs} (C : Cx p s m args c cX6_weighSteady 3 RX6 D cy B) (hr : meth.sig.returnType = none) (hlocks : meth.locks = false) {N : Nat} {g : Gs} {x0 : Nat} {x1 : Int32}  {dz : Ds} {d : Ds} (hf : fX6_weighSteady N g x0 x1 d = some ((), dz)) : WB p l e rmX6_weighSteady s m args below meth c 3 D cy B 0 0 (MQ below (QV D cy B g dz) args s 0 0 (wA B)) g d [(0, .ref (ad B x0)), (1, .int x1)] 0 [] := by
  unfold fX6_weighSteady at hf
  refine b_aload_n C dX6_weighSteady_0 0 rfl rfl ?_
  obtain ⟨h1, hf⟩ := gd_s hf
  obtain ⟨r2, er2, hf⟩ := ob_s hf
  refine b_gR C dX6_weighSteady_1 fl_X6_15 h1 er2 ?_
  refine b_iload_n C dX6_weighSteady_4 1 rfl rfl ?_
  obtain ⟨h3, hf⟩ := gd_s hf
  obtain ⟨h4, hf⟩ := gd_s hf
  refine b_fald C h3 h4 dX6_weighSteady_5 ?_
  refine b_ldcf C ct_X6_47 dX6_weighSteady_6 ?_
  obtain ⟨h5, hf⟩ := gd_s hf
  refine b_fmul C dX6_weighSteady_8 h5 ?_
  obtain ⟨u6, eu6, hf⟩ := bd_s hf
  refine b_topF eu6 ?_
  refine b_fstore_n C dX6_weighSteady_9 rfl [(2, .float u6), (0, .ref (ad B x0)), (1, .int x1)] (by decide) rfl ?_
  refine b_aload_n C dX6_weighSteady_10 1 rfl rfl ?_
  refine b_gR C dX6_weighSteady_11 fl_X6_15 h1 er2 ?_
  refine b_iload_n C dX6_weighSteady_14 2 rfl rfl ?_
  refine b_aload_n C dX6_weighSteady_15 1 rfl rfl ?_
  refine b_gI C dX6_weighSteady_16 fl_X6_32 h1 ?_
  refine b_iload_n C dX6_weighSteady_19 2 rfl rfl ?_
  obtain ⟨u9, d7, k8, hf⟩ := cb_s hf
  refine b_cSI C [.int x1, .ref (ad B r2)] dX6_weighSteady_20 (kX11_isIn l D cy B k8) lv_X6_48 ⟨rfl, rfl, Nat.le_of_ble_eq_true rfl, Nat.le_of_ble_eq_true rfl⟩ rfl (Nat.le_of_ble_eq_true rfl) ⟨Nat.zero_le _, Nat.zero_le _⟩ rfl ?_
  refine b_if_eq C (tgt := 33) dX6_weighSteady_23 (by decide) (fun c10 => ?_) (fun c10 => ?_)
  · have hf := it_s c10 hf
    refine b_fload_n C dX6_weighSteady_33 0 rfl rfl ?_
    refine b_sub [(0, .ref (ad B x0)), (1, .int x1)] [1, 2] rfl ?_
    exact tX6_weighSteady_34 C hr hlocks hf
  · have hf := if_s c10 hf
    refine b_fload_n C dX6_weighSteady_26 0 rfl rfl ?_
    refine b_ldcf C ct_X6_52 dX6_weighSteady_27 ?_
    obtain ⟨h14, hf⟩ := gd_s hf
    refine b_fadd C dX6_weighSteady_29 h14 ?_
    obtain ⟨u15, eu15, hf⟩ := bd_s hf
    refine b_topF eu15 ?_
    refine b_goto C (tgt := 34) dX6_weighSteady_30 (by decide) ?_
    refine b_sub [(0, .ref (ad B x0)), (1, .int x1)] [1, 2] rfl ?_
    exact tX6_weighSteady_34 C hr hlocks hf
theorem kX6_weighSteady (l : Launch) (D : va_G) (cy : Nat → ClassId) (B : Bs) {N : Nat} {g : Gs} {x0 : Nat} {x1 : Int32}  {dz : Ds} {d : Ds} (hf : fX6_weighSteady N g x0 x1 d = some ((), dz)) : Met l yX6_weighSteady (.code yX6_weighSteady cX6_weighSteady 3 none :: wl) rmX6_weighSteady (PC D cy B [.ref (ad B x0), .int x1] g d) (QV D cy B g dz) 0 0 (wA B) :=
  met_of (by decide +kernel) (Nat.le_of_ble_eq_true rfl) (fun p e s m args below meth c C hr hlocks _ => b_sub [(0, .ref (ad B x0)), (1, .int x1)] [0, 1] rfl (tX6_weighSteady_E C hr hlocks hf))
/-! KeyMatrix$Scan.changes(II)Z -/
theorem dX6_changes_0 : decode cX6_changes 0 = .ok (.aload_n 0, 1) := by decide +kernel
theorem dX6_changes_1 : decode cX6_changes 1 = .ok (.getfield 35, 3) := by decide +kernel
theorem dX6_changes_4 : decode cX6_changes 4 = .ok (.iload_n 1, 1) := by decide +kernel
theorem dX6_changes_5 : decode cX6_changes 5 = .ok (.invokestatic 48, 3) := by decide +kernel
theorem dX6_changes_8 : decode cX6_changes 8 = .ok (.ifCond .ne 26, 3) := by decide +kernel
theorem dX6_changes_11 : decode cX6_changes 11 = .ok (.aload_n 0, 1) := by decide +kernel
theorem dX6_changes_12 : decode cX6_changes 12 = .ok (.getfield 32, 3) := by decide +kernel
theorem dX6_changes_15 : decode cX6_changes 15 = .ok (.iload_n 1, 1) := by decide +kernel
theorem dX6_changes_16 : decode cX6_changes 16 = .ok (.invokestatic 48, 3) := by decide +kernel
theorem dX6_changes_19 : decode cX6_changes 19 = .ok (.aload_n 0, 1) := by decide +kernel
theorem dX6_changes_20 : decode cX6_changes 20 = .ok (.getfield 38, 3) := by decide +kernel
theorem dX6_changes_23 : decode cX6_changes 23 = .ok (.iload_n 1, 1) := by decide +kernel
theorem dX6_changes_24 : decode cX6_changes 24 = .ok (.invokestatic 48, 3) := by decide +kernel
theorem dX6_changes_27 : decode cX6_changes 27 = .ok (.if_icmp .eq 7, 3) := by decide +kernel
theorem dX6_changes_30 : decode cX6_changes 30 = .ok (.iconst 1, 1) := by decide +kernel
theorem dX6_changes_31 : decode cX6_changes 31 = .ok (.goto 4, 3) := by decide +kernel
theorem dX6_changes_34 : decode cX6_changes 34 = .ok (.iconst 0, 1) := by decide +kernel
theorem dX6_changes_35 : decode cX6_changes 35 = .ok (.istore_n 3, 1) := by decide +kernel
theorem dX6_changes_36 : decode cX6_changes 36 = .ok (.aload_n 0, 1) := by decide +kernel
theorem dX6_changes_37 : decode cX6_changes 37 = .ok (.getfield 9, 3) := by decide +kernel
theorem dX6_changes_40 : decode cX6_changes 40 = .ok (.iload_n 1, 1) := by decide +kernel
theorem dX6_changes_41 : decode cX6_changes 41 = .ok (.iload_n 3, 1) := by decide +kernel
theorem dX6_changes_42 : decode cX6_changes 42 = .ok (.ifCond .eq 14, 3) := by decide +kernel
theorem dX6_changes_45 : decode cX6_changes 45 = .ok (.aload_n 0, 1) := by decide +kernel
theorem dX6_changes_46 : decode cX6_changes 46 = .ok (.getfield 9, 3) := by decide +kernel
theorem dX6_changes_49 : decode cX6_changes 49 = .ok (.iload_n 1, 1) := by decide +kernel
theorem dX6_changes_50 : decode cX6_changes 50 = .ok (.iaload, 1) := by decide +kernel
theorem dX6_changes_51 : decode cX6_changes 51 = .ok (.iconst 1, 1) := by decide +kernel
theorem dX6_changes_52 : decode cX6_changes 52 = .ok (.iadd, 1) := by decide +kernel
theorem dX6_changes_53 : decode cX6_changes 53 = .ok (.goto 4, 3) := by decide +kernel
theorem dX6_changes_56 : decode cX6_changes 56 = .ok (.iconst 0, 1) := by decide +kernel
theorem dX6_changes_57 : decode cX6_changes 57 = .ok (.iastore, 1) := by decide +kernel
theorem dX6_changes_58 : decode cX6_changes 58 = .ok (.aload_n 0, 1) := by decide +kernel
theorem dX6_changes_59 : decode cX6_changes 59 = .ok (.getfield 9, 3) := by decide +kernel
theorem dX6_changes_62 : decode cX6_changes 62 = .ok (.iload_n 1, 1) := by decide +kernel
theorem dX6_changes_63 : decode cX6_changes 63 = .ok (.iaload, 1) := by decide +kernel
theorem dX6_changes_64 : decode cX6_changes 64 = .ok (.iload_n 2, 1) := by decide +kernel
theorem dX6_changes_65 : decode cX6_changes 65 = .ok (.if_icmp .ge 5, 3) := by decide +kernel
theorem dX6_changes_68 : decode cX6_changes 68 = .ok (.iconst 0, 1) := by decide +kernel
theorem dX6_changes_69 : decode cX6_changes 69 = .ok (.ireturn, 1) := by decide +kernel
theorem dX6_changes_70 : decode cX6_changes 70 = .ok (.aload_n 0, 1) := by decide +kernel
theorem dX6_changes_71 : decode cX6_changes 71 = .ok (.getfield 9, 3) := by decide +kernel
theorem dX6_changes_74 : decode cX6_changes 74 = .ok (.iload_n 1, 1) := by decide +kernel
theorem dX6_changes_75 : decode cX6_changes 75 = .ok (.iconst 0, 1) := by decide +kernel
theorem dX6_changes_76 : decode cX6_changes 76 = .ok (.iastore, 1) := by decide +kernel
theorem dX6_changes_77 : decode cX6_changes 77 = .ok (.iconst 1, 1) := by decide +kernel
theorem dX6_changes_78 : decode cX6_changes 78 = .ok (.ireturn, 1) := by decide +kernel
def rmX6_changes : Room := { frames := 1, cells := 0, slots := 0, locals := 21 }
set_option maxRecDepth 100000 in
def fX6_changes_J57 (N : Nat) (g : Gs) (x0 : Nat) (x1 : Int32) (x2 : Int32) (z0 : Int32) (z1 : Int32) (z2 : Nat) (d : Ds) : Option (Int32 × Ds) := gd (chk g z2 102) <| gd (¬ (z1 < 0 ∨ gL g z2 ≤ z1.toNatClampNeg)) <| bd (sI d z2 z1.toNatClampNeg z0) fun d11 => (gd (chk g x0 6) <| ob (gR g x0 4) fun r13 => (gd (chk g r13 102) <| gd (¬ (x1 < 0 ∨ gL g r13 ≤ x1.toNatClampNeg)) <| if x2 ≤ (dI d11 r13 x1.toNatClampNeg) then (bd (sI d11 r13 x1.toNatClampNeg 0) fun d17 => (some (1, d17))) else (some (0, d11))))
set_option maxHeartbeats 4000000 in
set_option maxRecDepth 100000 in
theorem tX6_changes_57 {p : Program} {l : Launch} {e : Env} {s : State} {m : MethodId} {args : Array Value} {below : List Frame} {meth : Method} {c : Code} {D : va_G} {cy : Nat → ClassId} {B : Bs} (C : Cx p s m args c cX6_changes 4 RX6 D cy B) (hr : meth.sig.returnType = (some .boolean)) (hlocks : meth.locks = false) {N : Nat} {g : Gs} {x0 : Nat} {x1 : Int32} {x2 : Int32} {vz : Int32} {dz : Ds} {z0 : Int32} {z1 : Int32} {z2 : Nat} {d : Ds} (hf : fX6_changes_J57 N g x0 x1 x2 z0 z1 z2 d = some (vz, dz)) : WB p l e rmX6_changes s m args below meth c 4 D cy B 0 0 (MQ below (QI D cy B vz g dz) args s 0 0 (wA B)) g d [(0, .ref (ad B x0)), (1, .int x1), (2, .int x2)] 57 [.int z0, .int z1, .ref (ad B z2)] := by
  unfold fX6_changes_J57 at hf
  obtain ⟨h9, hf⟩ := gd_s hf
  obtain ⟨h10, hf⟩ := gd_s hf
  obtain ⟨d11, ed11, hf⟩ := bd_s hf
  refine b_iast C h9 h10 ed11 dX6_changes_57 ?_
  refine b_aload_n C dX6_changes_58 0 rfl rfl ?_
  obtain ⟨h12, hf⟩ := gd_s hf
  obtain ⟨r13, er13, hf⟩ := ob_s hf
  refine b_gR C dX6_changes_59 fl_X6_9 h12 er13 ?_
  refine b_iload_n C dX6_changes_62 1 rfl rfl ?_
  obtain ⟨h14, hf⟩ := gd_s hf
  obtain ⟨h15, hf⟩ := gd_s hf
  refine b_iald C h14 h15 dX6_changes_63 ?_
  refine b_iload_n C dX6_changes_64 2 rfl rfl ?_
  refine b_icmp_ge C (tgt := 70) dX6_changes_65 (by decide) (fun c16 => ?_) (fun c16 => ?_)
  · have hf := it_s c16 hf
    refine b_aload_n C dX6_changes_70 0 rfl rfl ?_
    refine b_gR C dX6_changes_71 fl_X6_9 h12 er13 ?_
    refine b_iload_n C dX6_changes_74 1 rfl rfl ?_
    refine b_iconst C (v := 0) dX6_changes_75 (by decide) ?_
    obtain ⟨d17, ed17, hf⟩ := bd_s hf
    refine b_iast C h14 h15 ed17 dX6_changes_76 ?_
    refine b_iconst C (v := 1) dX6_changes_77 (by decide) ?_
    exact b_zret C hr hlocks (by decide) hf dX6_changes_78
  · have hf := if_s c16 hf
    refine b_iconst C (v := 0) dX6_changes_68 (by decide) ?_
    exact b_zret C hr hlocks (by decide) hf dX6_changes_69
set_option maxRecDepth 100000 in
def fX6_changes_J35 (N : Nat) (g : Gs) (x0 : Nat) (x1 : Int32) (x2 : Int32) (z0 : Int32) (d : Ds) : Option (Int32 × Ds) := gd (chk g x0 6) <| ob (gR g x0 4) fun r7 => (if z0 = 0 then (fX6_changes_J57 N g x0 x1 x2 0 x1 r7 d) else (gd (chk g r7 102) <| gd (¬ (x1 < 0 ∨ gL g r7 ≤ x1.toNatClampNeg)) <| fX6_changes_J57 N g x0 x1 x2 ((dI d r7 x1.toNatClampNeg) + 1) x1 r7 d))
set_option maxHeartbeats 4000000 in
set_option maxRecDepth 100000 in
theorem tX6_changes_35 {p : Program} {l : Launch} {e : Env} {s : State} {m : MethodId} {args : Array Value} {below : List Frame} {meth : Method} {c : Code} {D : va_G} {cy : Nat → ClassId} {B : Bs} (C : Cx p s m args c cX6_changes 4 RX6 D cy B) (hr : meth.sig.returnType = (some .boolean)) (hlocks : meth.locks = false) {N : Nat} {g : Gs} {x0 : Nat} {x1 : Int32} {x2 : Int32} {vz : Int32} {dz : Ds} {z0 : Int32} {d : Ds} (hf : fX6_changes_J35 N g x0 x1 x2 z0 d = some (vz, dz)) : WB p l e rmX6_changes s m args below meth c 4 D cy B 0 0 (MQ below (QI D cy B vz g dz) args s 0 0 (wA B)) g d [(0, .ref (ad B x0)), (1, .int x1), (2, .int x2)] 35 [.int z0] := by
  unfold fX6_changes_J35 at hf
  refine b_istore_n C dX6_changes_35 rfl [(3, .int z0), (0, .ref (ad B x0)), (1, .int x1), (2, .int x2)] (by decide) rfl ?_
  refine b_aload_n C dX6_changes_36 1 rfl rfl ?_
  obtain ⟨h6, hf⟩ := gd_s hf
  obtain ⟨r7, er7, hf⟩ := ob_s hf
  refine b_gR C dX6_changes_37 fl_X6_9 h6 er7 ?_
  refine b_iload_n C dX6_changes_40 2 rfl rfl ?_
  refine b_iload_n C dX6_changes_41 0 rfl rfl ?_
  refine b_if_eq C (tgt := 56) dX6_changes_42 (by decide) (fun c8 => ?_) (fun c8 => ?_)
  · have hf := it_s c8 hf
    refine b_iconst C (v := 0) dX6_changes_56 (by decide) ?_
    refine b_sub [(0, .ref (ad B x0)), (1, .int x1), (2, .int x2)] [1, 2, 3] rfl ?_
    exact tX6_changes_57 C hr hlocks hf
  · have hf := if_s c8 hf
    refine b_aload_n C dX6_changes_45 1 rfl rfl ?_
    refine b_gR C dX6_changes_46 fl_X6_9 h6 er7 ?_
    refine b_iload_n C dX6_changes_49 2 rfl rfl ?_
    obtain ⟨h18, hf⟩ := gd_s hf
    obtain ⟨h19, hf⟩ := gd_s hf
    refine b_iald C h18 h19 dX6_changes_50 ?_
    refine b_iconst C (v := 1) dX6_changes_51 (by decide) ?_
    refine b_iadd C dX6_changes_52 ?_
    refine b_goto C (tgt := 57) dX6_changes_53 (by decide) ?_
    refine b_sub [(0, .ref (ad B x0)), (1, .int x1), (2, .int x2)] [1, 2, 3] rfl ?_
    exact tX6_changes_57 C hr hlocks hf
set_option maxRecDepth 100000 in
def fX6_changes_J34 (N : Nat) (g : Gs) (x0 : Nat) (x1 : Int32) (x2 : Int32) (d : Ds) : Option (Int32 × Ds) := fX6_changes_J35 N g x0 x1 x2 0 d
set_option maxHeartbeats 4000000 in
set_option maxRecDepth 100000 in
theorem tX6_changes_34 {p : Program} {l : Launch} {e : Env} {s : State} {m : MethodId} {args : Array Value} {below : List Frame} {meth : Method} {c : Code} {D : va_G} {cy : Nat → ClassId} {B : Bs} (C : Cx p s m args c cX6_changes 4 RX6 D cy B) (hr : meth.sig.returnType = (some .boolean)) (hlocks : meth.locks = false) {N : Nat} {g : Gs} {x0 : Nat} {x1 : Int32} {x2 : Int32} {vz : Int32} {dz : Ds} {d : Ds} (hf : fX6_changes_J34 N g x0 x1 x2 d = some (vz, dz)) : WB p l e rmX6_changes s m args below meth c 4 D cy B 0 0 (MQ below (QI D cy B vz g dz) args s 0 0 (wA B)) g d [(0, .ref (ad B x0)), (1, .int x1), (2, .int x2)] 34 [] := by
  unfold fX6_changes_J34 at hf
  refine b_iconst C (v := 0) dX6_changes_34 (by decide) ?_
  refine b_sub [(0, .ref (ad B x0)), (1, .int x1), (2, .int x2)] [0, 1, 2] rfl ?_
  exact tX6_changes_35 C hr hlocks hf
set_option maxRecDepth 100000 in
def fX6_changes (N : Nat) (g : Gs) (x0 : Nat) (x1 : Int32) (x2 : Int32) (d : Ds) : Option (Int32 × Ds) := gd (chk g x0 6) <| cb (fX11_isIn N g (dI d x0 2) x1 d) fun u4 d2 => (if u4 = 0 then (cb (fX11_isIn N g (dI d2 x0 1) x1 d2) fun u22 d20 => (cb (fX11_isIn N g (dI d20 x0 3) x1 d20) fun u25 d23 => (if u22 = u25 then (fX6_changes_J34 N g x0 x1 x2 d23) else (fX6_changes_J35 N g x0 x1 x2 1 d23)))) else (fX6_changes_J34 N g x0 x1 x2 d2))
set_option maxHeartbeats 4000000 in
set_option maxRecDepth 100000 in
theorem tX6_changes_E {p : Program} {l : Launch} {e : Env} {s : State} {m : MethodId} {args : Array Value} {below : List Frame} {meth : Method} {c : Code} {D : va_G} {cy : Nat → ClassId} {B : Bs} (C : Cx p s m args c cX6_changes 4 RX6 D cy B) (hr : meth.sig.returnType = (some .boolean)) (hlocks : meth.locks = false) {N : Nat} {g : Gs} {x0 : Nat} {x1 : Int32} {x2 : Int32} {vz : Int32} {dz : Ds} {d : Ds} (hf : fX6_changes N g x0 x1 x2 d = some (vz, dz)) : WB p l e rmX6_changes s m args below meth c 4 D cy B 0 0 (MQ below (QI D cy B vz g dz) args s 0 0 (wA B)) g d [(0, .ref (ad B x0)), (1, .int x1), (2, .int x2)] 0 [] := by
  unfold fX6_changes at hf
  refine b_aload_n C dX6_changes_0 0 rfl rfl ?_
  obtain ⟨h1, hf⟩ := gd_s hf
  refine b_gI C dX6_changes_1 fl_X6_35 h1 ?_
  refine b_iload_n C dX6_changes_4 1 rfl rfl ?_
  obtain ⟨u4, d2, k3, hf⟩ := cb_s hf
  refine b_cSI C [] dX6_changes_5 (kX11_isIn l D cy B k3) lv_X6_48 ⟨rfl, rfl, Nat.le_of_ble_eq_true rfl, Nat.le_of_ble_eq_true rfl⟩ rfl (Nat.le_of_ble_eq_true rfl) ⟨Nat.zero_le _, Nat.zero_le _⟩ rfl ?_
  refine b_if_ne C (tgt := 34) dX6_changes_8 (by decide) (fun c5 => ?_) (fun c5 => ?_)
  · have hf := if_s c5 hf
    refine b_sub [(0, .ref (ad B x0)), (1, .int x1), (2, .int x2)] [0, 1, 2] rfl ?_
    exact tX6_changes_34 C hr hlocks hf
  · have hf := it_s c5 hf
    refine b_aload_n C dX6_changes_11 0 rfl rfl ?_
    refine b_gI C dX6_changes_12 fl_X6_32 h1 ?_
    refine b_iload_n C dX6_changes_15 1 rfl rfl ?_
    obtain ⟨u22, d20, k21, hf⟩ := cb_s hf
    refine b_cSI C [] dX6_changes_16 (kX11_isIn l D cy B k21) lv_X6_48 ⟨rfl, rfl, Nat.le_of_ble_eq_true rfl, Nat.le_of_ble_eq_true rfl⟩ rfl (Nat.le_of_ble_eq_true rfl) ⟨Nat.zero_le _, Nat.zero_le _⟩ rfl ?_
    refine b_aload_n C dX6_changes_19 0 rfl rfl ?_
    refine b_gI C dX6_changes_20 fl_X6_38 h1 ?_
    refine b_iload_n C dX6_changes_23 1 rfl rfl ?_
    obtain ⟨u25, d23, k24, hf⟩ := cb_s hf
    refine b_cSI C [.int u22] dX6_changes_24 (kX11_isIn l D cy B k24) lv_X6_48 ⟨rfl, rfl, Nat.le_of_ble_eq_true rfl, Nat.le_of_ble_eq_true rfl⟩ rfl (Nat.le_of_ble_eq_true rfl) ⟨Nat.zero_le _, Nat.zero_le _⟩ rfl ?_
    refine b_icmp_eq C (tgt := 34) dX6_changes_27 (by decide) (fun c26 => ?_) (fun c26 => ?_)
    · have hf := it_s c26 hf
      refine b_sub [(0, .ref (ad B x0)), (1, .int x1), (2, .int x2)] [0, 1, 2] rfl ?_
      exact tX6_changes_34 C hr hlocks hf
    · have hf := if_s c26 hf
      refine b_iconst C (v := 1) dX6_changes_30 (by decide) ?_
      refine b_goto C (tgt := 35) dX6_changes_31 (by decide) ?_
      refine b_sub [(0, .ref (ad B x0)), (1, .int x1), (2, .int x2)] [0, 1, 2] rfl ?_
      exact tX6_changes_35 C hr hlocks hf
theorem kX6_changes (l : Launch) (D : va_G) (cy : Nat → ClassId) (B : Bs) {N : Nat} {g : Gs} {x0 : Nat} {x1 : Int32} {x2 : Int32} {vz : Int32} {dz : Ds} {d : Ds} (hf : fX6_changes N g x0 x1 x2 d = some (vz, dz)) : Met l yX6_changes (.code yX6_changes cX6_changes 4 (some .boolean) :: wl) rmX6_changes (PC D cy B [.ref (ad B x0), .int x1, .int x2] g d) (QI D cy B vz g dz) 0 0 (wA B) :=
  met_of (by decide +kernel) (Nat.le_of_ble_eq_true rfl) (fun p e s m args below meth c C hr hlocks _ => b_sub [(0, .ref (ad B x0)), (1, .int x1), (2, .int x2)] [0, 1, 2] rfl (tX6_changes_E C hr hlocks hf))
/-! KeyMatrix$Scan.change(II)V -/
theorem mx_X6_53 : Cond.methodLink RX6 53 Lib.Math.max.name ∈ wl := mW (mT4 (List.mem_of_getElem? (i := 80) (by decide +kernel))) rfl
theorem mx_s : Cond.static Lib.Math.max.name ∈ wl := mW (mT4 (List.mem_of_getElem? (i := 81) (by decide +kernel))) rfl
theorem mx_i : Cond.initialized "java/lang/Math" ∈ wl := mW (mT1 (List.mem_of_getElem? (i := 21) (by decide +kernel))) rfl
theorem mx_c : Cond.code Lib.Math.max.name Lib.Math.max.code 2 (some .int) ∈ wl := mW (mT4 (List.mem_of_getElem? (i := 82) (by decide +kernel))) rfl
theorem dX6_change_0 : decode cX6_change 0 = .ok (.aload_n 0, 1) := by decide +kernel
theorem dX6_change_1 : decode cX6_change 1 = .ok (.dup, 1) := by decide +kernel
theorem dX6_change_2 : decode cX6_change 2 = .ok (.getfield 38, 3) := by decide +kernel
theorem dX6_change_5 : decode cX6_change 5 = .ok (.iconst 1, 1) := by decide +kernel
theorem dX6_change_6 : decode cX6_change 6 = .ok (.iload_n 1, 1) := by decide +kernel
theorem dX6_change_7 : decode cX6_change 7 = .ok (.ishl, 1) := by decide +kernel
theorem dX6_change_8 : decode cX6_change 8 = .ok (.ixor, 1) := by decide +kernel
theorem dX6_change_9 : decode cX6_change 9 = .ok (.putfield 38, 3) := by decide +kernel
theorem dX6_change_12 : decode cX6_change 12 = .ok (.aload_n 0, 1) := by decide +kernel
theorem dX6_change_13 : decode cX6_change 13 = .ok (.getfield 38, 3) := by decide +kernel
theorem dX6_change_16 : decode cX6_change 16 = .ok (.iload_n 1, 1) := by decide +kernel
theorem dX6_change_17 : decode cX6_change 17 = .ok (.invokestatic 48, 3) := by decide +kernel
theorem dX6_change_20 : decode cX6_change 20 = .ok (.ifCond .eq 16, 3) := by decide +kernel
theorem dX6_change_23 : decode cX6_change 23 = .ok (.aload_n 0, 1) := by decide +kernel
theorem dX6_change_24 : decode cX6_change 24 = .ok (.getfield 19, 3) := by decide +kernel
theorem dX6_change_27 : decode cX6_change 27 = .ok (.iload_n 1, 1) := by decide +kernel
theorem dX6_change_28 : decode cX6_change 28 = .ok (.dup2, 1) := by decide +kernel
theorem dX6_change_29 : decode cX6_change 29 = .ok (.iaload, 1) := by decide +kernel
theorem dX6_change_30 : decode cX6_change 30 = .ok (.iconst 1, 1) := by decide +kernel
theorem dX6_change_31 : decode cX6_change 31 = .ok (.iadd, 1) := by decide +kernel
theorem dX6_change_32 : decode cX6_change 32 = .ok (.iastore, 1) := by decide +kernel
theorem dX6_change_33 : decode cX6_change 33 = .ok (.goto 26, 3) := by decide +kernel
theorem dX6_change_36 : decode cX6_change 36 = .ok (.aload_n 0, 1) := by decide +kernel
theorem dX6_change_37 : decode cX6_change 37 = .ok (.getfield 22, 3) := by decide +kernel
theorem dX6_change_40 : decode cX6_change 40 = .ok (.iload_n 1, 1) := by decide +kernel
theorem dX6_change_41 : decode cX6_change 41 = .ok (.aload_n 0, 1) := by decide +kernel
theorem dX6_change_42 : decode cX6_change 42 = .ok (.getfield 22, 3) := by decide +kernel
theorem dX6_change_45 : decode cX6_change 45 = .ok (.iload_n 1, 1) := by decide +kernel
theorem dX6_change_46 : decode cX6_change 46 = .ok (.iaload, 1) := by decide +kernel
theorem dX6_change_47 : decode cX6_change 47 = .ok (.iload_n 2, 1) := by decide +kernel
theorem dX6_change_48 : decode cX6_change 48 = .ok (.aload_n 0, 1) := by decide +kernel
theorem dX6_change_49 : decode cX6_change 49 = .ok (.getfield 25, 3) := by decide +kernel
theorem dX6_change_52 : decode cX6_change 52 = .ok (.iload_n 1, 1) := by decide +kernel
theorem dX6_change_53 : decode cX6_change 53 = .ok (.iaload, 1) := by decide +kernel
theorem dX6_change_54 : decode cX6_change 54 = .ok (.isub, 1) := by decide +kernel
theorem dX6_change_55 : decode cX6_change 55 = .ok (.invokestatic 53, 3) := by decide +kernel
theorem dX6_change_58 : decode cX6_change 58 = .ok (.iastore, 1) := by decide +kernel
theorem dX6_change_59 : decode cX6_change 59 = .ok (.aload_n 0, 1) := by decide +kernel
theorem dX6_change_60 : decode cX6_change 60 = .ok (.getfield 25, 3) := by decide +kernel
theorem dX6_change_63 : decode cX6_change 63 = .ok (.iload_n 1, 1) := by decide +kernel
theorem dX6_change_64 : decode cX6_change 64 = .ok (.iload_n 2, 1) := by decide +kernel
theorem dX6_change_65 : decode cX6_change 65 = .ok (.iastore, 1) := by decide +kernel
theorem dX6_change_66 : decode cX6_change 66 = .ok (.return_, 1) := by decide +kernel
def rmX6_change : Room := { frames := 1, cells := 0, slots := 0, locals := 21 }
set_option maxRecDepth 100000 in
def fX6_change_J59 (N : Nat) (g : Gs) (x0 : Nat) (x1 : Int32) (x2 : Int32) (d : Ds) : Option (Unit × Ds) := gd (chk g x0 6) <| ob (gR g x0 8) fun r15 => (gd (chk g r15 102) <| gd (¬ (x1 < 0 ∨ gL g r15 ≤ x1.toNatClampNeg)) <| bd (sI d r15 x1.toNatClampNeg x2) fun d18 => (some ((), d18)))
set_option maxHeartbeats 4000000 in
set_option maxRecDepth 100000 in
theorem tX6_change_59 {p : Program} {l : Launch} {e : Env} {s : State} {m : MethodId} {args : Array Value} {below : List Frame} {meth : Method} {c : Code} {D : va_G} {cy : Nat → ClassId} {B : Bs} (C : Cx p s m args c cX6_change 3 RX6 D cy B) (hr : meth.sig.returnType = none) (hlocks : meth.locks = false) {N : Nat} {g : Gs} {x0 : Nat} {x1 : Int32} {x2 : Int32}  {dz : Ds} {d : Ds} (hf : fX6_change_J59 N g x0 x1 x2 d = some ((), dz)) : WB p l e rmX6_change s m args below meth c 3 D cy B 0 0 (MQ below (QV D cy B g dz) args s 0 0 (wA B)) g d [(0, .ref (ad B x0)), (1, .int x1), (2, .int x2)] 59 [] := by
  unfold fX6_change_J59 at hf
  refine b_aload_n C dX6_change_59 0 rfl rfl ?_
  obtain ⟨h14, hf⟩ := gd_s hf
  obtain ⟨r15, er15, hf⟩ := ob_s hf
  refine b_gR C dX6_change_60 fl_X6_25 h14 er15 ?_
  refine b_iload_n C dX6_change_63 1 rfl rfl ?_
  refine b_iload_n C dX6_change_64 2 rfl rfl ?_
  obtain ⟨h16, hf⟩ := gd_s hf
  obtain ⟨h17, hf⟩ := gd_s hf
  obtain ⟨d18, ed18, hf⟩ := bd_s hf
  refine b_iast C h16 h17 ed18 dX6_change_65 ?_
  exact b_vret C hr hlocks hf dX6_change_66
set_option maxRecDepth 100000 in
def fX6_change (N : Nat) (g : Gs) (x0 : Nat) (x1 : Int32) (x2 : Int32) (d : Ds) : Option (Unit × Ds) := gd (chk g x0 6) <| bd (sI d x0 3 ((dI d x0 3) ^^^ ((1 : Int32) <<< (x1 &&& 31)))) fun d2 => (cb (fX11_isIn N g (dI d2 x0 3) x1 d2) fun u5 d3 => (if u5 = 0 then (ob (gR g x0 7) fun r7 => (gd (chk g r7 102) <| gd (¬ (x1 < 0 ∨ gL g r7 ≤ x1.toNatClampNeg)) <| ob (gR g x0 8) fun r10 => (gd (chk g r10 102) <| gd (¬ (x1 < 0 ∨ gL g r10 ≤ x1.toNatClampNeg)) <| bd (sI d3 r7 x1.toNatClampNeg (if (dI d3 r7 x1.toNatClampNeg) < (x2 - (dI d3 r10 x1.toNatClampNeg)) then (x2 - (dI d3 r10 x1.toNatClampNeg)) else (dI d3 r7 x1.toNatClampNeg))) fun d13 => (fX6_change_J59 N g x0 x1 x2 d13)))) else (ob (gR g x0 6) fun r19 => (gd (chk g r19 102) <| gd (¬ (x1 < 0 ∨ gL g r19 ≤ x1.toNatClampNeg)) <| bd (sI d3 r19 x1.toNatClampNeg ((dI d3 r19 x1.toNatClampNeg) + 1)) fun d22 => (fX6_change_J59 N g x0 x1 x2 d22)))))
set_option maxHeartbeats 4000000 in
set_option maxRecDepth 100000 in
theorem tX6_change_E {p : Program} {l : Launch} {e : Env} {s : State} {m : MethodId} {args : Array Value} {below : List Frame} {meth : Method} {c : Code} {D : va_G} {cy : Nat → ClassId} {B : Bs} (C : Cx p s m args c cX6_change 3 RX6 D cy B) (hr : meth.sig.returnType = none) (hlocks : meth.locks = false) {N : Nat} {g : Gs} {x0 : Nat} {x1 : Int32} {x2 : Int32}  {dz : Ds} {d : Ds} (hf : fX6_change N g x0 x1 x2 d = some ((), dz)) : WB p l e rmX6_change s m args below meth c 3 D cy B 0 0 (MQ below (QV D cy B g dz) args s 0 0 (wA B)) g d [(0, .ref (ad B x0)), (1, .int x1), (2, .int x2)] 0 [] := by
  unfold fX6_change at hf
  refine b_aload_n C dX6_change_0 0 rfl rfl ?_
  refine b_dup C dX6_change_1 rfl ?_
  obtain ⟨h1, hf⟩ := gd_s hf
  refine b_gI C dX6_change_2 fl_X6_38 h1 ?_
  refine b_iconst C (v := 1) dX6_change_5 (by decide) ?_
  refine b_iload_n C dX6_change_6 1 rfl rfl ?_
  refine b_ishl C dX6_change_7 ?_
  refine b_ixor C dX6_change_8 ?_
  obtain ⟨d2, ed2, hf⟩ := bd_s hf
  refine b_pI C dX6_change_9 fl_X6_38 fp6_3 h1 ed2 ?_
  refine b_aload_n C dX6_change_12 0 rfl rfl ?_
  refine b_gI C dX6_change_13 fl_X6_38 h1 ?_
  refine b_iload_n C dX6_change_16 1 rfl rfl ?_
  obtain ⟨u5, d3, k4, hf⟩ := cb_s hf
  refine b_cSI C [] dX6_change_17 (kX11_isIn l D cy B k4) lv_X6_48 ⟨rfl, rfl, Nat.le_of_ble_eq_true rfl, Nat.le_of_ble_eq_true rfl⟩ rfl (Nat.le_of_ble_eq_true rfl) ⟨Nat.zero_le _, Nat.zero_le _⟩ rfl ?_
  refine b_if_eq C (tgt := 36) dX6_change_20 (by decide) (fun c6 => ?_) (fun c6 => ?_)
  · have hf := it_s c6 hf
    refine b_aload_n C dX6_change_36 0 rfl rfl ?_
    obtain ⟨r7, er7, hf⟩ := ob_s hf
    refine b_gR C dX6_change_37 fl_X6_22 h1 er7 ?_
    refine b_iload_n C dX6_change_40 1 rfl rfl ?_
    refine b_aload_n C dX6_change_41 0 rfl rfl ?_
    refine b_gR C dX6_change_42 fl_X6_22 h1 er7 ?_
    refine b_iload_n C dX6_change_45 1 rfl rfl ?_
    obtain ⟨h8, hf⟩ := gd_s hf
    obtain ⟨h9, hf⟩ := gd_s hf
    refine b_iald C h8 h9 dX6_change_46 ?_
    refine b_iload_n C dX6_change_47 2 rfl rfl ?_
    refine b_aload_n C dX6_change_48 0 rfl rfl ?_
    obtain ⟨r10, er10, hf⟩ := ob_s hf
    refine b_gR C dX6_change_49 fl_X6_25 h1 er10 ?_
    refine b_iload_n C dX6_change_52 1 rfl rfl ?_
    obtain ⟨h11, hf⟩ := gd_s hf
    obtain ⟨h12, hf⟩ := gd_s hf
    refine b_iald C h11 h12 dX6_change_53 ?_
    refine b_isub C dX6_change_54 ?_
    refine b_mmax C mx_X6_53 mx_s mx_i mx_c (Nat.le_of_ble_eq_true rfl) (Nat.le_of_ble_eq_true rfl) (Nat.zero_le _) (Nat.zero_le _) dX6_change_55 ?_
    obtain ⟨d13, ed13, hf⟩ := bd_s hf
    refine b_iast C h8 h9 ed13 dX6_change_58 ?_
    refine b_sub [(0, .ref (ad B x0)), (1, .int x1), (2, .int x2)] [0, 1, 2] rfl ?_
    exact tX6_change_59 C hr hlocks hf
  · have hf := if_s c6 hf
    refine b_aload_n C dX6_change_23 0 rfl rfl ?_
    obtain ⟨r19, er19, hf⟩ := ob_s hf
    refine b_gR C dX6_change_24 fl_X6_19 h1 er19 ?_
    refine b_iload_n C dX6_change_27 1 rfl rfl ?_
    refine b_dup2 C dX6_change_28 rfl rfl ?_
    obtain ⟨h20, hf⟩ := gd_s hf
    obtain ⟨h21, hf⟩ := gd_s hf
    refine b_iald C h20 h21 dX6_change_29 ?_
    refine b_iconst C (v := 1) dX6_change_30 (by decide) ?_
    refine b_iadd C dX6_change_31 ?_
    obtain ⟨d22, ed22, hf⟩ := bd_s hf
    refine b_iast C h20 h21 ed22 dX6_change_32 ?_
    refine b_goto C (tgt := 59) dX6_change_33 (by decide) ?_
    refine b_sub [(0, .ref (ad B x0)), (1, .int x1), (2, .int x2)] [0, 1, 2] rfl ?_
    exact tX6_change_59 C hr hlocks hf
theorem kX6_change (l : Launch) (D : va_G) (cy : Nat → ClassId) (B : Bs) {N : Nat} {g : Gs} {x0 : Nat} {x1 : Int32} {x2 : Int32}  {dz : Ds} {d : Ds} (hf : fX6_change N g x0 x1 x2 d = some ((), dz)) : Met l yX6_change (.code yX6_change cX6_change 3 none :: wl) rmX6_change (PC D cy B [.ref (ad B x0), .int x1, .int x2] g d) (QV D cy B g dz) 0 0 (wA B) :=
  met_of (by decide +kernel) (Nat.le_of_ble_eq_true rfl) (fun p e s m args below meth c C hr hlocks _ => b_sub [(0, .ref (ad B x0)), (1, .int x1), (2, .int x2)] [0, 1, 2] rfl (tX6_change_E C hr hlocks hf))
/-! KeyMatrix$Queue.add(IZI)V -/
theorem dX4_add_0 : decode cX4_add 0 = .ok (.aload_n 0, 1) := by decide +kernel
theorem dX4_add_1 : decode cX4_add 1 = .ok (.getfield 15, 3) := by decide +kernel
theorem dX4_add_4 : decode cX4_add 4 = .ok (.sipush 2400, 3) := by decide +kernel
theorem dX4_add_7 : decode cX4_add 7 = .ok (.if_icmp .ge 50, 3) := by decide +kernel
theorem dX4_add_10 : decode cX4_add 10 = .ok (.aload_n 0, 1) := by decide +kernel
theorem dX4_add_11 : decode cX4_add 11 = .ok (.getfield 11, 3) := by decide +kernel
theorem dX4_add_14 : decode cX4_add 14 = .ok (.aload_n 0, 1) := by decide +kernel
theorem dX4_add_15 : decode cX4_add 15 = .ok (.getfield 15, 3) := by decide +kernel
theorem dX4_add_18 : decode cX4_add 18 = .ok (.iload_n 3, 1) := by decide +kernel
theorem dX4_add_19 : decode cX4_add 19 = .ok (.bipush 64, 2) := by decide +kernel
theorem dX4_add_21 : decode cX4_add 21 = .ok (.imul, 1) := by decide +kernel
theorem dX4_add_22 : decode cX4_add 22 = .ok (.iload_n 1, 1) := by decide +kernel
theorem dX4_add_23 : decode cX4_add 23 = .ok (.iconst 2, 1) := by decide +kernel
theorem dX4_add_24 : decode cX4_add 24 = .ok (.imul, 1) := by decide +kernel
theorem dX4_add_25 : decode cX4_add 25 = .ok (.iadd, 1) := by decide +kernel
theorem dX4_add_26 : decode cX4_add 26 = .ok (.iload_n 2, 1) := by decide +kernel
theorem dX4_add_27 : decode cX4_add 27 = .ok (.ifCond .eq 7, 3) := by decide +kernel
theorem dX4_add_30 : decode cX4_add 30 = .ok (.iconst 1, 1) := by decide +kernel
theorem dX4_add_31 : decode cX4_add 31 = .ok (.goto 4, 3) := by decide +kernel
theorem dX4_add_34 : decode cX4_add 34 = .ok (.iconst 0, 1) := by decide +kernel
theorem dX4_add_35 : decode cX4_add 35 = .ok (.iadd, 1) := by decide +kernel
theorem dX4_add_36 : decode cX4_add 36 = .ok (.iastore, 1) := by decide +kernel
theorem dX4_add_37 : decode cX4_add 37 = .ok (.aload_n 0, 1) := by decide +kernel
theorem dX4_add_38 : decode cX4_add 38 = .ok (.dup, 1) := by decide +kernel
theorem dX4_add_39 : decode cX4_add 39 = .ok (.getfield 15, 3) := by decide +kernel
theorem dX4_add_42 : decode cX4_add 42 = .ok (.iconst 1, 1) := by decide +kernel
theorem dX4_add_43 : decode cX4_add 43 = .ok (.iadd, 1) := by decide +kernel
theorem dX4_add_44 : decode cX4_add 44 = .ok (.putfield 15, 3) := by decide +kernel
theorem dX4_add_47 : decode cX4_add 47 = .ok (.aload_n 0, 1) := by decide +kernel
theorem dX4_add_48 : decode cX4_add 48 = .ok (.dup, 1) := by decide +kernel
theorem dX4_add_49 : decode cX4_add 49 = .ok (.getfield 19, 3) := by decide +kernel
theorem dX4_add_52 : decode cX4_add 52 = .ok (.iconst 1, 1) := by decide +kernel
theorem dX4_add_53 : decode cX4_add 53 = .ok (.iadd, 1) := by decide +kernel
theorem dX4_add_54 : decode cX4_add 54 = .ok (.putfield 19, 3) := by decide +kernel
theorem dX4_add_57 : decode cX4_add 57 = .ok (.return_, 1) := by decide +kernel
def rmX4_add : Room := { frames := 0, cells := 0, slots := 0, locals := 0 }
set_option maxRecDepth 100000 in
def fX4_add_J57 (N : Nat) (g : Gs) (x0 : Nat) (x1 : Int32) (x2 : Int32) (x3 : Int32) (d : Ds) : Option (Unit × Ds) := some ((), d)
set_option maxHeartbeats 4000000 in
set_option maxRecDepth 100000 in
theorem tX4_add_57 {p : Program} {l : Launch} {e : Env} {s : State} {m : MethodId} {args : Array Value} {below : List Frame} {meth : Method} {c : Code} {D : va_G} {cy : Nat → ClassId} {B : Bs} (C : Cx p s m args c cX4_add 4 RX4 D cy B) (hr : meth.sig.returnType = none) (hlocks : meth.locks = false) {N : Nat} {g : Gs} {x0 : Nat} {x1 : Int32} {x2 : Int32} {x3 : Int32}  {dz : Ds} {d : Ds} (hf : fX4_add_J57 N g x0 x1 x2 x3 d = some ((), dz)) : WB p l e rmX4_add s m args below meth c 4 D cy B 0 0 (MQ below (QV D cy B g dz) args s 0 0 (wA B)) g d [(0, .ref (ad B x0)), (1, .int x1), (2, .int x2), (3, .int x3)] 57 [] := by
  unfold fX4_add_J57 at hf
  exact b_vret C hr hlocks hf dX4_add_57
set_option maxRecDepth 100000 in
def fX4_add_J35 (N : Nat) (g : Gs) (x0 : Nat) (x1 : Int32) (x2 : Int32) (x3 : Int32) (z0 : Int32) (z1 : Int32) (z2 : Int32) (z3 : Nat) (d : Ds) : Option (Unit × Ds) := gd (chk g z3 102) <| gd (¬ (z2 < 0 ∨ gL g z3 ≤ z2.toNatClampNeg)) <| bd (sI d z3 z2.toNatClampNeg (z1 + z0)) fun d7 => (gd (chk g x0 4) <| bd (sI d7 x0 1 ((dI d7 x0 1) + 1)) fun d9 => (bd (sI d9 x0 2 ((dI d9 x0 2) + 1)) fun d10 => (fX4_add_J57 N g x0 x1 x2 x3 d10)))
set_option maxHeartbeats 4000000 in
set_option maxRecDepth 100000 in
theorem tX4_add_35 {p : Program} {l : Launch} {e : Env} {s : State} {m : MethodId} {args : Array Value} {below : List Frame} {meth : Method} {c : Code} {D : va_G} {cy : Nat → ClassId} {B : Bs} (C : Cx p s m args c cX4_add 4 RX4 D cy B) (hr : meth.sig.returnType = none) (hlocks : meth.locks = false) {N : Nat} {g : Gs} {x0 : Nat} {x1 : Int32} {x2 : Int32} {x3 : Int32}  {dz : Ds} {z0 : Int32} {z1 : Int32} {z2 : Int32} {z3 : Nat} {d : Ds} (hf : fX4_add_J35 N g x0 x1 x2 x3 z0 z1 z2 z3 d = some ((), dz)) : WB p l e rmX4_add s m args below meth c 4 D cy B 0 0 (MQ below (QV D cy B g dz) args s 0 0 (wA B)) g d [(0, .ref (ad B x0)), (1, .int x1), (2, .int x2), (3, .int x3)] 35 [.int z0, .int z1, .int z2, .ref (ad B z3)] := by
  unfold fX4_add_J35 at hf
  refine b_iadd C dX4_add_35 ?_
  obtain ⟨h5, hf⟩ := gd_s hf
  obtain ⟨h6, hf⟩ := gd_s hf
  obtain ⟨d7, ed7, hf⟩ := bd_s hf
  refine b_iast C h5 h6 ed7 dX4_add_36 ?_
  refine b_aload_n C dX4_add_37 0 rfl rfl ?_
  refine b_dup C dX4_add_38 rfl ?_
  obtain ⟨h8, hf⟩ := gd_s hf
  refine b_gI C dX4_add_39 fl_X4_15 h8 ?_
  refine b_iconst C (v := 1) dX4_add_42 (by decide) ?_
  refine b_iadd C dX4_add_43 ?_
  obtain ⟨d9, ed9, hf⟩ := bd_s hf
  refine b_pI C dX4_add_44 fl_X4_15 fp4_1 h8 ed9 ?_
  refine b_aload_n C dX4_add_47 0 rfl rfl ?_
  refine b_dup C dX4_add_48 rfl ?_
  refine b_gI C dX4_add_49 fl_X4_19 h8 ?_
  refine b_iconst C (v := 1) dX4_add_52 (by decide) ?_
  refine b_iadd C dX4_add_53 ?_
  obtain ⟨d10, ed10, hf⟩ := bd_s hf
  refine b_pI C dX4_add_54 fl_X4_19 fp4_2 h8 ed10 ?_
  refine b_sub [(0, .ref (ad B x0)), (1, .int x1), (2, .int x2), (3, .int x3)] [0, 1, 2, 3] rfl ?_
  exact tX4_add_57 C hr hlocks hf
set_option maxRecDepth 100000 in
def fX4_add (N : Nat) (g : Gs) (x0 : Nat) (x1 : Int32) (x2 : Int32) (x3 : Int32) (d : Ds) : Option (Unit × Ds) := gd (chk g x0 4) <| if (2400 : Int32) ≤ (dI d x0 1) then (fX4_add_J57 N g x0 x1 x2 x3 d) else (ob (gR g x0 0) fun r3 => (if x2 = 0 then (fX4_add_J35 N g x0 x1 x2 x3 0 ((x3 * 64) + (x1 * 2)) (dI d x0 1) r3 d) else (fX4_add_J35 N g x0 x1 x2 x3 1 ((x3 * 64) + (x1 * 2)) (dI d x0 1) r3 d)))
set_option maxHeartbeats 4000000 in
set_option maxRecDepth 100000 in
theorem tX4_add_E {p : Program} {l : Launch} {e : Env} {s : State} {m : MethodId} {args : Array Value} {below : List Frame} {meth : Method} {c : Code} {D : va_G} {cy : Nat → ClassId} {B : Bs} (C : Cx p s m args c cX4_add 4 RX4 D cy B) (hr : meth.sig.returnType = none) (hlocks : meth.locks = false) {N : Nat} {g : Gs} {x0 : Nat} {x1 : Int32} {x2 : Int32} {x3 : Int32}  {dz : Ds} {d : Ds} (hf : fX4_add N g x0 x1 x2 x3 d = some ((), dz)) : WB p l e rmX4_add s m args below meth c 4 D cy B 0 0 (MQ below (QV D cy B g dz) args s 0 0 (wA B)) g d [(0, .ref (ad B x0)), (1, .int x1), (2, .int x2), (3, .int x3)] 0 [] := by
  unfold fX4_add at hf
  refine b_aload_n C dX4_add_0 0 rfl rfl ?_
  obtain ⟨h1, hf⟩ := gd_s hf
  refine b_gI C dX4_add_1 fl_X4_15 h1 ?_
  refine b_sipush C (v := 2400) dX4_add_4 (by decide) ?_
  refine b_icmp_ge C (tgt := 57) dX4_add_7 (by decide) (fun c2 => ?_) (fun c2 => ?_)
  · have hf := it_s c2 hf
    refine b_sub [(0, .ref (ad B x0)), (1, .int x1), (2, .int x2), (3, .int x3)] [0, 1, 2, 3] rfl ?_
    exact tX4_add_57 C hr hlocks hf
  · have hf := if_s c2 hf
    refine b_aload_n C dX4_add_10 0 rfl rfl ?_
    obtain ⟨r3, er3, hf⟩ := ob_s hf
    refine b_gR C dX4_add_11 fl_X4_11 h1 er3 ?_
    refine b_aload_n C dX4_add_14 0 rfl rfl ?_
    refine b_gI C dX4_add_15 fl_X4_15 h1 ?_
    refine b_iload_n C dX4_add_18 3 rfl rfl ?_
    refine b_bipush C (v := 64) dX4_add_19 (by decide) ?_
    refine b_imul C dX4_add_21 ?_
    refine b_iload_n C dX4_add_22 1 rfl rfl ?_
    refine b_iconst C (v := 2) dX4_add_23 (by decide) ?_
    refine b_imul C dX4_add_24 ?_
    refine b_iadd C dX4_add_25 ?_
    refine b_iload_n C dX4_add_26 2 rfl rfl ?_
    refine b_if_eq C (tgt := 34) dX4_add_27 (by decide) (fun c4 => ?_) (fun c4 => ?_)
    · have hf := it_s c4 hf
      refine b_iconst C (v := 0) dX4_add_34 (by decide) ?_
      refine b_sub [(0, .ref (ad B x0)), (1, .int x1), (2, .int x2), (3, .int x3)] [0, 1, 2, 3] rfl ?_
      exact tX4_add_35 C hr hlocks hf
    · have hf := if_s c4 hf
      refine b_iconst C (v := 1) dX4_add_30 (by decide) ?_
      refine b_goto C (tgt := 35) dX4_add_31 (by decide) ?_
      refine b_sub [(0, .ref (ad B x0)), (1, .int x1), (2, .int x2), (3, .int x3)] [0, 1, 2, 3] rfl ?_
      exact tX4_add_35 C hr hlocks hf
theorem kX4_add (l : Launch) (D : va_G) (cy : Nat → ClassId) (B : Bs) {N : Nat} {g : Gs} {x0 : Nat} {x1 : Int32} {x2 : Int32} {x3 : Int32}  {dz : Ds} {d : Ds} (hf : fX4_add N g x0 x1 x2 x3 d = some ((), dz)) : Met l yX4_add (.code yX4_add cX4_add 4 none :: wl) rmX4_add (PC D cy B [.ref (ad B x0), .int x1, .int x2, .int x3] g d) (QV D cy B g dz) 0 0 (wA B) :=
  met_of (by decide +kernel) (Nat.le_of_ble_eq_true rfl) (fun p e s m args below meth c C hr hlocks _ => b_sub [(0, .ref (ad B x0)), (1, .int x1), (2, .int x2), (3, .int x3)] [0, 1, 2, 3] rfl (tX4_add_E C hr hlocks hf))
/-! KeyMatrix$Queue.isDownAt(I)Z -/
theorem dX4_isDownAt_0 : decode cX4_isDownAt 0 = .ok (.iload_n 1, 1) := by decide +kernel
theorem dX4_isDownAt_1 : decode cX4_isDownAt 1 = .ok (.ifCond .lt 27, 3) := by decide +kernel
theorem dX4_isDownAt_4 : decode cX4_isDownAt 4 = .ok (.iload_n 1, 1) := by decide +kernel
theorem dX4_isDownAt_5 : decode cX4_isDownAt 5 = .ok (.aload_n 0, 1) := by decide +kernel
theorem dX4_isDownAt_6 : decode cX4_isDownAt 6 = .ok (.getfield 15, 3) := by decide +kernel
theorem dX4_isDownAt_9 : decode cX4_isDownAt 9 = .ok (.if_icmp .ge 19, 3) := by decide +kernel
theorem dX4_isDownAt_12 : decode cX4_isDownAt 12 = .ok (.aload_n 0, 1) := by decide +kernel
theorem dX4_isDownAt_13 : decode cX4_isDownAt 13 = .ok (.getfield 11, 3) := by decide +kernel
theorem dX4_isDownAt_16 : decode cX4_isDownAt 16 = .ok (.iload_n 1, 1) := by decide +kernel
theorem dX4_isDownAt_17 : decode cX4_isDownAt 17 = .ok (.iaload, 1) := by decide +kernel
theorem dX4_isDownAt_18 : decode cX4_isDownAt 18 = .ok (.iconst 2, 1) := by decide +kernel
theorem dX4_isDownAt_19 : decode cX4_isDownAt 19 = .ok (.irem, 1) := by decide +kernel
theorem dX4_isDownAt_20 : decode cX4_isDownAt 20 = .ok (.iconst 1, 1) := by decide +kernel
theorem dX4_isDownAt_21 : decode cX4_isDownAt 21 = .ok (.if_icmp .ne 7, 3) := by decide +kernel
theorem dX4_isDownAt_24 : decode cX4_isDownAt 24 = .ok (.iconst 1, 1) := by decide +kernel
theorem dX4_isDownAt_25 : decode cX4_isDownAt 25 = .ok (.goto 4, 3) := by decide +kernel
theorem dX4_isDownAt_28 : decode cX4_isDownAt 28 = .ok (.iconst 0, 1) := by decide +kernel
theorem dX4_isDownAt_29 : decode cX4_isDownAt 29 = .ok (.ireturn, 1) := by decide +kernel
def rmX4_isDownAt : Room := { frames := 0, cells := 0, slots := 0, locals := 0 }
set_option maxRecDepth 100000 in
def fX4_isDownAt_J29 (N : Nat) (g : Gs) (x0 : Nat) (x1 : Int32) (z0 : Int32) (d : Ds) : Option (Int32 × Ds) := gd (z0 = 0 ∨ z0 = 1) <| some (z0, d)
set_option maxHeartbeats 4000000 in
set_option maxRecDepth 100000 in
theorem tX4_isDownAt_29 {p : Program} {l : Launch} {e : Env} {s : State} {m : MethodId} {args : Array Value} {below : List Frame} {meth : Method} {c : Code} {D : va_G} {cy : Nat → ClassId} {B : Bs} (C : Cx p s m args c cX4_isDownAt 2 RX4 D cy B) (hr : meth.sig.returnType = (some .boolean)) (hlocks : meth.locks = false) {N : Nat} {g : Gs} {x0 : Nat} {x1 : Int32} {vz : Int32} {dz : Ds} {z0 : Int32} {d : Ds} (hf : fX4_isDownAt_J29 N g x0 x1 z0 d = some (vz, dz)) : WB p l e rmX4_isDownAt s m args below meth c 2 D cy B 0 0 (MQ below (QI D cy B vz g dz) args s 0 0 (wA B)) g d [(0, .ref (ad B x0)), (1, .int x1)] 29 [.int z0] := by
  unfold fX4_isDownAt_J29 at hf
  obtain ⟨h2, hf⟩ := gd_s hf
  exact b_zret C hr hlocks h2 hf dX4_isDownAt_29
set_option maxRecDepth 100000 in
def fX4_isDownAt_J28 (N : Nat) (g : Gs) (x0 : Nat) (x1 : Int32) (d : Ds) : Option (Int32 × Ds) := fX4_isDownAt_J29 N g x0 x1 0 d
set_option maxHeartbeats 4000000 in
set_option maxRecDepth 100000 in
theorem tX4_isDownAt_28 {p : Program} {l : Launch} {e : Env} {s : State} {m : MethodId} {args : Array Value} {below : List Frame} {meth : Method} {c : Code} {D : va_G} {cy : Nat → ClassId} {B : Bs} (C : Cx p s m args c cX4_isDownAt 2 RX4 D cy B) (hr : meth.sig.returnType = (some .boolean)) (hlocks : meth.locks = false) {N : Nat} {g : Gs} {x0 : Nat} {x1 : Int32} {vz : Int32} {dz : Ds} {d : Ds} (hf : fX4_isDownAt_J28 N g x0 x1 d = some (vz, dz)) : WB p l e rmX4_isDownAt s m args below meth c 2 D cy B 0 0 (MQ below (QI D cy B vz g dz) args s 0 0 (wA B)) g d [(0, .ref (ad B x0)), (1, .int x1)] 28 [] := by
  unfold fX4_isDownAt_J28 at hf
  refine b_iconst C (v := 0) dX4_isDownAt_28 (by decide) ?_
  refine b_sub [(0, .ref (ad B x0)), (1, .int x1)] [0, 1] rfl ?_
  exact tX4_isDownAt_29 C hr hlocks hf
set_option maxRecDepth 100000 in
def fX4_isDownAt (N : Nat) (g : Gs) (x0 : Nat) (x1 : Int32) (d : Ds) : Option (Int32 × Ds) := if x1 < 0 then (fX4_isDownAt_J28 N g x0 x1 d) else (gd (chk g x0 4) <| if (dI d x0 1) ≤ x1 then (fX4_isDownAt_J28 N g x0 x1 d) else (ob (gR g x0 0) fun r5 => (gd (chk g r5 102) <| gd (¬ (x1 < 0 ∨ gL g r5 ≤ x1.toNatClampNeg)) <| gd (¬ (2 : Int32) = 0) <| if ((dI d r5 x1.toNatClampNeg) - (dI d r5 x1.toNatClampNeg) / 2 * 2) = (1 : Int32) then (fX4_isDownAt_J29 N g x0 x1 1 d) else (fX4_isDownAt_J28 N g x0 x1 d))))
set_option maxHeartbeats 4000000 in
set_option maxRecDepth 100000 in
theorem tX4_isDownAt_E {p : Program} {l : Launch} {e : Env} {s : State} {m : MethodId} {args : Array Value} {below : List Frame} {meth : Method} {c : Code} {D : va_G} {cy : Nat → ClassId} {B : Bs} (C : Cx p s m args c cX4_isDownAt 2 RX4 D cy B) (hr : meth.sig.returnType = (some .boolean)) (hlocks : meth.locks = false) {N : Nat} {g : Gs} {x0 : Nat} {x1 : Int32} {vz : Int32} {dz : Ds} {d : Ds} (hf : fX4_isDownAt N g x0 x1 d = some (vz, dz)) : WB p l e rmX4_isDownAt s m args below meth c 2 D cy B 0 0 (MQ below (QI D cy B vz g dz) args s 0 0 (wA B)) g d [(0, .ref (ad B x0)), (1, .int x1)] 0 [] := by
  unfold fX4_isDownAt at hf
  refine b_iload_n C dX4_isDownAt_0 1 rfl rfl ?_
  refine b_if_lt C (tgt := 28) dX4_isDownAt_1 (by decide) (fun c1 => ?_) (fun c1 => ?_)
  · have hf := it_s c1 hf
    refine b_sub [(0, .ref (ad B x0)), (1, .int x1)] [0, 1] rfl ?_
    exact tX4_isDownAt_28 C hr hlocks hf
  · have hf := if_s c1 hf
    refine b_iload_n C dX4_isDownAt_4 1 rfl rfl ?_
    refine b_aload_n C dX4_isDownAt_5 0 rfl rfl ?_
    obtain ⟨h3, hf⟩ := gd_s hf
    refine b_gI C dX4_isDownAt_6 fl_X4_15 h3 ?_
    refine b_icmp_ge C (tgt := 28) dX4_isDownAt_9 (by decide) (fun c4 => ?_) (fun c4 => ?_)
    · have hf := it_s c4 hf
      refine b_sub [(0, .ref (ad B x0)), (1, .int x1)] [0, 1] rfl ?_
      exact tX4_isDownAt_28 C hr hlocks hf
    · have hf := if_s c4 hf
      refine b_aload_n C dX4_isDownAt_12 0 rfl rfl ?_
      obtain ⟨r5, er5, hf⟩ := ob_s hf
      refine b_gR C dX4_isDownAt_13 fl_X4_11 h3 er5 ?_
      refine b_iload_n C dX4_isDownAt_16 1 rfl rfl ?_
      obtain ⟨h6, hf⟩ := gd_s hf
      obtain ⟨h7, hf⟩ := gd_s hf
      refine b_iald C h6 h7 dX4_isDownAt_17 ?_
      refine b_iconst C (v := 2) dX4_isDownAt_18 (by decide) ?_
      obtain ⟨h8, hf⟩ := gd_s hf
      refine b_irem C dX4_isDownAt_19 h8 ?_
      refine b_iconst C (v := 1) dX4_isDownAt_20 (by decide) ?_
      refine b_icmp_ne C (tgt := 28) dX4_isDownAt_21 (by decide) (fun c9 => ?_) (fun c9 => ?_)
      · have hf := if_s c9 hf
        refine b_sub [(0, .ref (ad B x0)), (1, .int x1)] [0, 1] rfl ?_
        exact tX4_isDownAt_28 C hr hlocks hf
      · have hf := it_s c9 hf
        refine b_iconst C (v := 1) dX4_isDownAt_24 (by decide) ?_
        refine b_goto C (tgt := 29) dX4_isDownAt_25 (by decide) ?_
        refine b_sub [(0, .ref (ad B x0)), (1, .int x1)] [0, 1] rfl ?_
        exact tX4_isDownAt_29 C hr hlocks hf
theorem kX4_isDownAt (l : Launch) (D : va_G) (cy : Nat → ClassId) (B : Bs) {N : Nat} {g : Gs} {x0 : Nat} {x1 : Int32} {vz : Int32} {dz : Ds} {d : Ds} (hf : fX4_isDownAt N g x0 x1 d = some (vz, dz)) : Met l yX4_isDownAt (.code yX4_isDownAt cX4_isDownAt 2 (some .boolean) :: wl) rmX4_isDownAt (PC D cy B [.ref (ad B x0), .int x1] g d) (QI D cy B vz g dz) 0 0 (wA B) :=
  met_of (by decide +kernel) (Nat.le_of_ble_eq_true rfl) (fun p e s m args below meth c C hr hlocks _ => b_sub [(0, .ref (ad B x0)), (1, .int x1)] [0, 1] rfl (tX4_isDownAt_E C hr hlocks hf))
/-! KeyMatrix$Queue.keyAt(I)I -/
theorem dX4_keyAt_0 : decode cX4_keyAt 0 = .ok (.iload_n 1, 1) := by decide +kernel
theorem dX4_keyAt_1 : decode cX4_keyAt 1 = .ok (.ifCond .lt 11, 3) := by decide +kernel
theorem dX4_keyAt_4 : decode cX4_keyAt 4 = .ok (.iload_n 1, 1) := by decide +kernel
theorem dX4_keyAt_5 : decode cX4_keyAt 5 = .ok (.aload_n 0, 1) := by decide +kernel
theorem dX4_keyAt_6 : decode cX4_keyAt 6 = .ok (.getfield 15, 3) := by decide +kernel
theorem dX4_keyAt_9 : decode cX4_keyAt 9 = .ok (.if_icmp .lt 7, 3) := by decide +kernel
theorem dX4_keyAt_12 : decode cX4_keyAt 12 = .ok (.iconst (-1), 1) := by decide +kernel
theorem dX4_keyAt_13 : decode cX4_keyAt 13 = .ok (.goto 14, 3) := by decide +kernel
theorem dX4_keyAt_16 : decode cX4_keyAt 16 = .ok (.aload_n 0, 1) := by decide +kernel
theorem dX4_keyAt_17 : decode cX4_keyAt 17 = .ok (.getfield 11, 3) := by decide +kernel
theorem dX4_keyAt_20 : decode cX4_keyAt 20 = .ok (.iload_n 1, 1) := by decide +kernel
theorem dX4_keyAt_21 : decode cX4_keyAt 21 = .ok (.iaload, 1) := by decide +kernel
theorem dX4_keyAt_22 : decode cX4_keyAt 22 = .ok (.bipush 64, 2) := by decide +kernel
theorem dX4_keyAt_24 : decode cX4_keyAt 24 = .ok (.irem, 1) := by decide +kernel
theorem dX4_keyAt_25 : decode cX4_keyAt 25 = .ok (.iconst 2, 1) := by decide +kernel
theorem dX4_keyAt_26 : decode cX4_keyAt 26 = .ok (.idiv, 1) := by decide +kernel
theorem dX4_keyAt_27 : decode cX4_keyAt 27 = .ok (.ireturn, 1) := by decide +kernel
def rmX4_keyAt : Room := { frames := 0, cells := 0, slots := 0, locals := 0 }
set_option maxRecDepth 100000 in
def fX4_keyAt_J27 (N : Nat) (g : Gs) (x0 : Nat) (x1 : Int32) (z0 : Int32) (d : Ds) : Option (Int32 × Ds) := some (z0, d)
set_option maxHeartbeats 4000000 in
set_option maxRecDepth 100000 in
theorem tX4_keyAt_27 {p : Program} {l : Launch} {e : Env} {s : State} {m : MethodId} {args : Array Value} {below : List Frame} {meth : Method} {c : Code} {D : va_G} {cy : Nat → ClassId} {B : Bs} (C : Cx p s m args c cX4_keyAt 2 RX4 D cy B) (hr : meth.sig.returnType = (some .int)) (hlocks : meth.locks = false) {N : Nat} {g : Gs} {x0 : Nat} {x1 : Int32} {vz : Int32} {dz : Ds} {z0 : Int32} {d : Ds} (hf : fX4_keyAt_J27 N g x0 x1 z0 d = some (vz, dz)) : WB p l e rmX4_keyAt s m args below meth c 2 D cy B 0 0 (MQ below (QI D cy B vz g dz) args s 0 0 (wA B)) g d [(0, .ref (ad B x0)), (1, .int x1)] 27 [.int z0] := by
  unfold fX4_keyAt_J27 at hf
  exact b_iret C hr hlocks hf dX4_keyAt_27
set_option maxRecDepth 100000 in
def fX4_keyAt_J12 (N : Nat) (g : Gs) (x0 : Nat) (x1 : Int32) (d : Ds) : Option (Int32 × Ds) := fX4_keyAt_J27 N g x0 x1 (-1) d
set_option maxHeartbeats 4000000 in
set_option maxRecDepth 100000 in
theorem tX4_keyAt_12 {p : Program} {l : Launch} {e : Env} {s : State} {m : MethodId} {args : Array Value} {below : List Frame} {meth : Method} {c : Code} {D : va_G} {cy : Nat → ClassId} {B : Bs} (C : Cx p s m args c cX4_keyAt 2 RX4 D cy B) (hr : meth.sig.returnType = (some .int)) (hlocks : meth.locks = false) {N : Nat} {g : Gs} {x0 : Nat} {x1 : Int32} {vz : Int32} {dz : Ds} {d : Ds} (hf : fX4_keyAt_J12 N g x0 x1 d = some (vz, dz)) : WB p l e rmX4_keyAt s m args below meth c 2 D cy B 0 0 (MQ below (QI D cy B vz g dz) args s 0 0 (wA B)) g d [(0, .ref (ad B x0)), (1, .int x1)] 12 [] := by
  unfold fX4_keyAt_J12 at hf
  refine b_iconst C (v := (-1)) dX4_keyAt_12 (by decide) ?_
  refine b_goto C (tgt := 27) dX4_keyAt_13 (by decide) ?_
  refine b_sub [(0, .ref (ad B x0)), (1, .int x1)] [0, 1] rfl ?_
  exact tX4_keyAt_27 C hr hlocks hf
set_option maxRecDepth 100000 in
def fX4_keyAt (N : Nat) (g : Gs) (x0 : Nat) (x1 : Int32) (d : Ds) : Option (Int32 × Ds) := if x1 < 0 then (fX4_keyAt_J12 N g x0 x1 d) else (gd (chk g x0 4) <| if x1 < (dI d x0 1) then (ob (gR g x0 0) fun r4 => (gd (chk g r4 102) <| gd (¬ (x1 < 0 ∨ gL g r4 ≤ x1.toNatClampNeg)) <| gd (¬ (64 : Int32) = 0) <| gd (¬ (2 : Int32) = 0) <| fX4_keyAt_J27 N g x0 x1 (((dI d r4 x1.toNatClampNeg) - (dI d r4 x1.toNatClampNeg) / 64 * 64) / 2) d)) else (fX4_keyAt_J12 N g x0 x1 d))
set_option maxHeartbeats 4000000 in
set_option maxRecDepth 100000 in
theorem tX4_keyAt_E {p : Program} {l : Launch} {e : Env} {s : State} {m : MethodId} {args : Array Value} {below : List Frame} {meth : Method} {c : Code} {D : va_G} {cy : Nat → ClassId} {B : Bs} (C : Cx p s m args c cX4_keyAt 2 RX4 D cy B) (hr : meth.sig.returnType = (some .int)) (hlocks : meth.locks = false) {N : Nat} {g : Gs} {x0 : Nat} {x1 : Int32} {vz : Int32} {dz : Ds} {d : Ds} (hf : fX4_keyAt N g x0 x1 d = some (vz, dz)) : WB p l e rmX4_keyAt s m args below meth c 2 D cy B 0 0 (MQ below (QI D cy B vz g dz) args s 0 0 (wA B)) g d [(0, .ref (ad B x0)), (1, .int x1)] 0 [] := by
  unfold fX4_keyAt at hf
  refine b_iload_n C dX4_keyAt_0 1 rfl rfl ?_
  refine b_if_lt C (tgt := 12) dX4_keyAt_1 (by decide) (fun c1 => ?_) (fun c1 => ?_)
  · have hf := it_s c1 hf
    refine b_sub [(0, .ref (ad B x0)), (1, .int x1)] [0, 1] rfl ?_
    exact tX4_keyAt_12 C hr hlocks hf
  · have hf := if_s c1 hf
    refine b_iload_n C dX4_keyAt_4 1 rfl rfl ?_
    refine b_aload_n C dX4_keyAt_5 0 rfl rfl ?_
    obtain ⟨h2, hf⟩ := gd_s hf
    refine b_gI C dX4_keyAt_6 fl_X4_15 h2 ?_
    refine b_icmp_lt C (tgt := 16) dX4_keyAt_9 (by decide) (fun c3 => ?_) (fun c3 => ?_)
    · have hf := it_s c3 hf
      refine b_aload_n C dX4_keyAt_16 0 rfl rfl ?_
      obtain ⟨r4, er4, hf⟩ := ob_s hf
      refine b_gR C dX4_keyAt_17 fl_X4_11 h2 er4 ?_
      refine b_iload_n C dX4_keyAt_20 1 rfl rfl ?_
      obtain ⟨h5, hf⟩ := gd_s hf
      obtain ⟨h6, hf⟩ := gd_s hf
      refine b_iald C h5 h6 dX4_keyAt_21 ?_
      refine b_bipush C (v := 64) dX4_keyAt_22 (by decide) ?_
      obtain ⟨h7, hf⟩ := gd_s hf
      refine b_irem C dX4_keyAt_24 h7 ?_
      refine b_iconst C (v := 2) dX4_keyAt_25 (by decide) ?_
      obtain ⟨h8, hf⟩ := gd_s hf
      refine b_idiv C dX4_keyAt_26 h8 ?_
      refine b_sub [(0, .ref (ad B x0)), (1, .int x1)] [0, 1] rfl ?_
      exact tX4_keyAt_27 C hr hlocks hf
    · have hf := if_s c3 hf
      refine b_sub [(0, .ref (ad B x0)), (1, .int x1)] [0, 1] rfl ?_
      exact tX4_keyAt_12 C hr hlocks hf
theorem kX4_keyAt (l : Launch) (D : va_G) (cy : Nat → ClassId) (B : Bs) {N : Nat} {g : Gs} {x0 : Nat} {x1 : Int32} {vz : Int32} {dz : Ds} {d : Ds} (hf : fX4_keyAt N g x0 x1 d = some (vz, dz)) : Met l yX4_keyAt (.code yX4_keyAt cX4_keyAt 2 (some .int) :: wl) rmX4_keyAt (PC D cy B [.ref (ad B x0), .int x1] g d) (QI D cy B vz g dz) 0 0 (wA B) :=
  met_of (by decide +kernel) (Nat.le_of_ble_eq_true rfl) (fun p e s m args below meth c C hr hlocks _ => b_sub [(0, .ref (ad B x0)), (1, .int x1)] [0, 1] rfl (tX4_keyAt_E C hr hlocks hf))
/-! KeyMatrix$Queue.tickAt(I)I -/
theorem dX4_tickAt_0 : decode cX4_tickAt 0 = .ok (.iload_n 1, 1) := by decide +kernel
theorem dX4_tickAt_1 : decode cX4_tickAt 1 = .ok (.ifCond .lt 11, 3) := by decide +kernel
theorem dX4_tickAt_4 : decode cX4_tickAt 4 = .ok (.iload_n 1, 1) := by decide +kernel
theorem dX4_tickAt_5 : decode cX4_tickAt 5 = .ok (.aload_n 0, 1) := by decide +kernel
theorem dX4_tickAt_6 : decode cX4_tickAt 6 = .ok (.getfield 15, 3) := by decide +kernel
theorem dX4_tickAt_9 : decode cX4_tickAt 9 = .ok (.if_icmp .lt 7, 3) := by decide +kernel
theorem dX4_tickAt_12 : decode cX4_tickAt 12 = .ok (.iconst (-1), 1) := by decide +kernel
theorem dX4_tickAt_13 : decode cX4_tickAt 13 = .ok (.goto 12, 3) := by decide +kernel
theorem dX4_tickAt_16 : decode cX4_tickAt 16 = .ok (.aload_n 0, 1) := by decide +kernel
theorem dX4_tickAt_17 : decode cX4_tickAt 17 = .ok (.getfield 11, 3) := by decide +kernel
theorem dX4_tickAt_20 : decode cX4_tickAt 20 = .ok (.iload_n 1, 1) := by decide +kernel
theorem dX4_tickAt_21 : decode cX4_tickAt 21 = .ok (.iaload, 1) := by decide +kernel
theorem dX4_tickAt_22 : decode cX4_tickAt 22 = .ok (.bipush 64, 2) := by decide +kernel
theorem dX4_tickAt_24 : decode cX4_tickAt 24 = .ok (.idiv, 1) := by decide +kernel
theorem dX4_tickAt_25 : decode cX4_tickAt 25 = .ok (.ireturn, 1) := by decide +kernel
def rmX4_tickAt : Room := { frames := 0, cells := 0, slots := 0, locals := 0 }
set_option maxRecDepth 100000 in
def fX4_tickAt_J25 (N : Nat) (g : Gs) (x0 : Nat) (x1 : Int32) (z0 : Int32) (d : Ds) : Option (Int32 × Ds) := some (z0, d)
set_option maxHeartbeats 4000000 in
set_option maxRecDepth 100000 in
theorem tX4_tickAt_25 {p : Program} {l : Launch} {e : Env} {s : State} {m : MethodId} {args : Array Value} {below : List Frame} {meth : Method} {c : Code} {D : va_G} {cy : Nat → ClassId} {B : Bs} (C : Cx p s m args c cX4_tickAt 2 RX4 D cy B) (hr : meth.sig.returnType = (some .int)) (hlocks : meth.locks = false) {N : Nat} {g : Gs} {x0 : Nat} {x1 : Int32} {vz : Int32} {dz : Ds} {z0 : Int32} {d : Ds} (hf : fX4_tickAt_J25 N g x0 x1 z0 d = some (vz, dz)) : WB p l e rmX4_tickAt s m args below meth c 2 D cy B 0 0 (MQ below (QI D cy B vz g dz) args s 0 0 (wA B)) g d [(0, .ref (ad B x0)), (1, .int x1)] 25 [.int z0] := by
  unfold fX4_tickAt_J25 at hf
  exact b_iret C hr hlocks hf dX4_tickAt_25
set_option maxRecDepth 100000 in
def fX4_tickAt_J12 (N : Nat) (g : Gs) (x0 : Nat) (x1 : Int32) (d : Ds) : Option (Int32 × Ds) := fX4_tickAt_J25 N g x0 x1 (-1) d
set_option maxHeartbeats 4000000 in
set_option maxRecDepth 100000 in
theorem tX4_tickAt_12 {p : Program} {l : Launch} {e : Env} {s : State} {m : MethodId} {args : Array Value} {below : List Frame} {meth : Method} {c : Code} {D : va_G} {cy : Nat → ClassId} {B : Bs} (C : Cx p s m args c cX4_tickAt 2 RX4 D cy B) (hr : meth.sig.returnType = (some .int)) (hlocks : meth.locks = false) {N : Nat} {g : Gs} {x0 : Nat} {x1 : Int32} {vz : Int32} {dz : Ds} {d : Ds} (hf : fX4_tickAt_J12 N g x0 x1 d = some (vz, dz)) : WB p l e rmX4_tickAt s m args below meth c 2 D cy B 0 0 (MQ below (QI D cy B vz g dz) args s 0 0 (wA B)) g d [(0, .ref (ad B x0)), (1, .int x1)] 12 [] := by
  unfold fX4_tickAt_J12 at hf
  refine b_iconst C (v := (-1)) dX4_tickAt_12 (by decide) ?_
  refine b_goto C (tgt := 25) dX4_tickAt_13 (by decide) ?_
  refine b_sub [(0, .ref (ad B x0)), (1, .int x1)] [0, 1] rfl ?_
  exact tX4_tickAt_25 C hr hlocks hf
set_option maxRecDepth 100000 in
def fX4_tickAt (N : Nat) (g : Gs) (x0 : Nat) (x1 : Int32) (d : Ds) : Option (Int32 × Ds) := if x1 < 0 then (fX4_tickAt_J12 N g x0 x1 d) else (gd (chk g x0 4) <| if x1 < (dI d x0 1) then (ob (gR g x0 0) fun r4 => (gd (chk g r4 102) <| gd (¬ (x1 < 0 ∨ gL g r4 ≤ x1.toNatClampNeg)) <| gd (¬ (64 : Int32) = 0) <| fX4_tickAt_J25 N g x0 x1 ((dI d r4 x1.toNatClampNeg) / 64) d)) else (fX4_tickAt_J12 N g x0 x1 d))
set_option maxHeartbeats 4000000 in
set_option maxRecDepth 100000 in
theorem tX4_tickAt_E {p : Program} {l : Launch} {e : Env} {s : State} {m : MethodId} {args : Array Value} {below : List Frame} {meth : Method} {c : Code} {D : va_G} {cy : Nat → ClassId} {B : Bs} (C : Cx p s m args c cX4_tickAt 2 RX4 D cy B) (hr : meth.sig.returnType = (some .int)) (hlocks : meth.locks = false) {N : Nat} {g : Gs} {x0 : Nat} {x1 : Int32} {vz : Int32} {dz : Ds} {d : Ds} (hf : fX4_tickAt N g x0 x1 d = some (vz, dz)) : WB p l e rmX4_tickAt s m args below meth c 2 D cy B 0 0 (MQ below (QI D cy B vz g dz) args s 0 0 (wA B)) g d [(0, .ref (ad B x0)), (1, .int x1)] 0 [] := by
  unfold fX4_tickAt at hf
  refine b_iload_n C dX4_tickAt_0 1 rfl rfl ?_
  refine b_if_lt C (tgt := 12) dX4_tickAt_1 (by decide) (fun c1 => ?_) (fun c1 => ?_)
  · have hf := it_s c1 hf
    refine b_sub [(0, .ref (ad B x0)), (1, .int x1)] [0, 1] rfl ?_
    exact tX4_tickAt_12 C hr hlocks hf
  · have hf := if_s c1 hf
    refine b_iload_n C dX4_tickAt_4 1 rfl rfl ?_
    refine b_aload_n C dX4_tickAt_5 0 rfl rfl ?_
    obtain ⟨h2, hf⟩ := gd_s hf
    refine b_gI C dX4_tickAt_6 fl_X4_15 h2 ?_
    refine b_icmp_lt C (tgt := 16) dX4_tickAt_9 (by decide) (fun c3 => ?_) (fun c3 => ?_)
    · have hf := it_s c3 hf
      refine b_aload_n C dX4_tickAt_16 0 rfl rfl ?_
      obtain ⟨r4, er4, hf⟩ := ob_s hf
      refine b_gR C dX4_tickAt_17 fl_X4_11 h2 er4 ?_
      refine b_iload_n C dX4_tickAt_20 1 rfl rfl ?_
      obtain ⟨h5, hf⟩ := gd_s hf
      obtain ⟨h6, hf⟩ := gd_s hf
      refine b_iald C h5 h6 dX4_tickAt_21 ?_
      refine b_bipush C (v := 64) dX4_tickAt_22 (by decide) ?_
      obtain ⟨h7, hf⟩ := gd_s hf
      refine b_idiv C dX4_tickAt_24 h7 ?_
      refine b_sub [(0, .ref (ad B x0)), (1, .int x1)] [0, 1] rfl ?_
      exact tX4_tickAt_25 C hr hlocks hf
    · have hf := if_s c3 hf
      refine b_sub [(0, .ref (ad B x0)), (1, .int x1)] [0, 1] rfl ?_
      exact tX4_tickAt_12 C hr hlocks hf
theorem kX4_tickAt (l : Launch) (D : va_G) (cy : Nat → ClassId) (B : Bs) {N : Nat} {g : Gs} {x0 : Nat} {x1 : Int32} {vz : Int32} {dz : Ds} {d : Ds} (hf : fX4_tickAt N g x0 x1 d = some (vz, dz)) : Met l yX4_tickAt (.code yX4_tickAt cX4_tickAt 2 (some .int) :: wl) rmX4_tickAt (PC D cy B [.ref (ad B x0), .int x1] g d) (QI D cy B vz g dz) 0 0 (wA B) :=
  met_of (by decide +kernel) (Nat.le_of_ble_eq_true rfl) (fun p e s m args below meth c C hr hlocks _ => b_sub [(0, .ref (ad B x0)), (1, .int x1)] [0, 1] rfl (tX4_tickAt_E C hr hlocks hf))
/-! KeyMatrix$Course.fateOfHold(II)I -/
theorem fl_X1_108 : FLI RX1 108 4 1 := ⟨⟨RX4, TX4, 3, rfl, by decide, inl4, Or.inr (mT2 (List.mem_of_getElem? (i := 81) (by decide +kernel)))⟩, by decide, by decide +kernel⟩
theorem yo_X4_keyAt : yX4_keyAt.cls ≠ "java/lang/invoke/MethodHandle" ∧ yX4_keyAt.cls ≠ "java/lang/invoke/VarHandle" ∧ (parseMethodDescriptor yX4_keyAt.desc).map (fun d => d.parameters.length) = some 1 := by decide +kernel
theorem co_X4_keyAt : Cond.code yX4_keyAt cX4_keyAt 2 (some .int) ∈ wl := mW (mT4 (List.mem_of_getElem? (i := 99) (by decide +kernel))) rfl
theorem in_X4_keyAt : Cond.initialized yX4_keyAt.cls ∈ wl := mW (mT1 (List.mem_of_getElem? (i := 9) (by decide +kernel))) rfl
theorem im_X4_keyAt : Cond.instanceMethod yX4_keyAt ∈ wl := mW (mT4 (List.mem_of_getElem? (i := 97) (by decide +kernel))) rfl
theorem se_X4_keyAt : Cond.selects yX4_keyAt.cls yX4_keyAt yX4_keyAt ∈ wl := mW (mT4 (List.mem_of_getElem? (i := 98) (by decide +kernel))) rfl
theorem lv_X1_131 : LV RX1 131 yX4_keyAt cX4_keyAt 2 (some .int) 1 4 := ⟨⟨(RX4, TX4, 3), rfl, rfl⟩, yo_X4_keyAt, mW (mT4 (List.mem_of_getElem? (i := 96) (by decide +kernel))) rfl, im_X4_keyAt, se_X4_keyAt, in_X4_keyAt, co_X4_keyAt⟩
theorem yo_X4_tickAt : yX4_tickAt.cls ≠ "java/lang/invoke/MethodHandle" ∧ yX4_tickAt.cls ≠ "java/lang/invoke/VarHandle" ∧ (parseMethodDescriptor yX4_tickAt.desc).map (fun d => d.parameters.length) = some 1 := by decide +kernel
theorem co_X4_tickAt : Cond.code yX4_tickAt cX4_tickAt 2 (some .int) ∈ wl := mW (mT4 (List.mem_of_getElem? (i := 104) (by decide +kernel))) rfl
theorem in_X4_tickAt : Cond.initialized yX4_tickAt.cls ∈ wl := mW (mT1 (List.mem_of_getElem? (i := 9) (by decide +kernel))) rfl
theorem im_X4_tickAt : Cond.instanceMethod yX4_tickAt ∈ wl := mW (mT4 (List.mem_of_getElem? (i := 102) (by decide +kernel))) rfl
theorem se_X4_tickAt : Cond.selects yX4_tickAt.cls yX4_tickAt yX4_tickAt ∈ wl := mW (mT4 (List.mem_of_getElem? (i := 103) (by decide +kernel))) rfl
theorem lv_X1_138 : LV RX1 138 yX4_tickAt cX4_tickAt 2 (some .int) 1 4 := ⟨⟨(RX4, TX4, 3), rfl, rfl⟩, yo_X4_tickAt, mW (mT4 (List.mem_of_getElem? (i := 101) (by decide +kernel))) rfl, im_X4_tickAt, se_X4_tickAt, in_X4_tickAt, co_X4_tickAt⟩
theorem yo_X4_isDownAt : yX4_isDownAt.cls ≠ "java/lang/invoke/MethodHandle" ∧ yX4_isDownAt.cls ≠ "java/lang/invoke/VarHandle" ∧ (parseMethodDescriptor yX4_isDownAt.desc).map (fun d => d.parameters.length) = some 1 := by decide +kernel
theorem co_X4_isDownAt : Cond.code yX4_isDownAt cX4_isDownAt 2 (some .boolean) ∈ wl := mW (mT4 (List.mem_of_getElem? (i := 95) (by decide +kernel))) rfl
theorem in_X4_isDownAt : Cond.initialized yX4_isDownAt.cls ∈ wl := mW (mT1 (List.mem_of_getElem? (i := 9) (by decide +kernel))) rfl
theorem im_X4_isDownAt : Cond.instanceMethod yX4_isDownAt ∈ wl := mW (mT4 (List.mem_of_getElem? (i := 93) (by decide +kernel))) rfl
theorem se_X4_isDownAt : Cond.selects yX4_isDownAt.cls yX4_isDownAt yX4_isDownAt ∈ wl := mW (mT4 (List.mem_of_getElem? (i := 94) (by decide +kernel))) rfl
theorem lv_X1_128 : LV RX1 128 yX4_isDownAt cX4_isDownAt 2 (some .boolean) 1 4 := ⟨⟨(RX4, TX4, 3), rfl, rfl⟩, yo_X4_isDownAt, mW (mT4 (List.mem_of_getElem? (i := 92) (by decide +kernel))) rfl, im_X4_isDownAt, se_X4_isDownAt, in_X4_isDownAt, co_X4_isDownAt⟩
theorem dX1_fateOfHold_0 : decode cX1_fateOfHold 0 = .ok (.iconst 0, 1) := by decide +kernel
theorem dX1_fateOfHold_1 : decode cX1_fateOfHold 1 = .ok (.istore_n 3, 1) := by decide +kernel
theorem dX1_fateOfHold_2 : decode cX1_fateOfHold 2 = .ok (.iconst 1, 1) := by decide +kernel
theorem dX1_fateOfHold_3 : decode cX1_fateOfHold 3 = .ok (.istore 4, 2) := by decide +kernel
theorem dX1_fateOfHold_5 : decode cX1_fateOfHold 5 = .ok (.iload 4, 2) := by decide +kernel
theorem dX1_fateOfHold_7 : decode cX1_fateOfHold 7 = .ok (.aload_n 0, 1) := by decide +kernel
theorem dX1_fateOfHold_8 : decode cX1_fateOfHold 8 = .ok (.getfield 21, 3) := by decide +kernel
theorem dX1_fateOfHold_11 : decode cX1_fateOfHold 11 = .ok (.getfield 108, 3) := by decide +kernel
theorem dX1_fateOfHold_14 : decode cX1_fateOfHold 14 = .ok (.if_icmp .ge 76, 3) := by decide +kernel
theorem dX1_fateOfHold_17 : decode cX1_fateOfHold 17 = .ok (.aload_n 0, 1) := by decide +kernel
theorem dX1_fateOfHold_18 : decode cX1_fateOfHold 18 = .ok (.getfield 21, 3) := by decide +kernel
theorem dX1_fateOfHold_21 : decode cX1_fateOfHold 21 = .ok (.iload 4, 2) := by decide +kernel
theorem dX1_fateOfHold_23 : decode cX1_fateOfHold 23 = .ok (.invokevirtual 131, 3) := by decide +kernel
theorem dX1_fateOfHold_26 : decode cX1_fateOfHold 26 = .ok (.istore 5, 2) := by decide +kernel
theorem dX1_fateOfHold_28 : decode cX1_fateOfHold 28 = .ok (.aload_n 0, 1) := by decide +kernel
theorem dX1_fateOfHold_29 : decode cX1_fateOfHold 29 = .ok (.getfield 21, 3) := by decide +kernel
theorem dX1_fateOfHold_32 : decode cX1_fateOfHold 32 = .ok (.iload 4, 2) := by decide +kernel
theorem dX1_fateOfHold_34 : decode cX1_fateOfHold 34 = .ok (.invokevirtual 138, 3) := by decide +kernel
theorem dX1_fateOfHold_37 : decode cX1_fateOfHold 37 = .ok (.iload_n 2, 1) := by decide +kernel
theorem dX1_fateOfHold_38 : decode cX1_fateOfHold 38 = .ok (.if_icmp .lt 5, 3) := by decide +kernel
theorem dX1_fateOfHold_41 : decode cX1_fateOfHold 41 = .ok (.iconst 4, 1) := by decide +kernel
theorem dX1_fateOfHold_42 : decode cX1_fateOfHold 42 = .ok (.ireturn, 1) := by decide +kernel
theorem dX1_fateOfHold_43 : decode cX1_fateOfHold 43 = .ok (.aload_n 0, 1) := by decide +kernel
theorem dX1_fateOfHold_44 : decode cX1_fateOfHold 44 = .ok (.getfield 21, 3) := by decide +kernel
theorem dX1_fateOfHold_47 : decode cX1_fateOfHold 47 = .ok (.iload 4, 2) := by decide +kernel
theorem dX1_fateOfHold_49 : decode cX1_fateOfHold 49 = .ok (.invokevirtual 128, 3) := by decide +kernel
theorem dX1_fateOfHold_52 : decode cX1_fateOfHold 52 = .ok (.ifCond .eq 13, 3) := by decide +kernel
theorem dX1_fateOfHold_55 : decode cX1_fateOfHold 55 = .ok (.iload_n 3, 1) := by decide +kernel
theorem dX1_fateOfHold_56 : decode cX1_fateOfHold 56 = .ok (.iconst 1, 1) := by decide +kernel
theorem dX1_fateOfHold_57 : decode cX1_fateOfHold 57 = .ok (.iload 5, 2) := by decide +kernel
theorem dX1_fateOfHold_59 : decode cX1_fateOfHold 59 = .ok (.ishl, 1) := by decide +kernel
theorem dX1_fateOfHold_60 : decode cX1_fateOfHold 60 = .ok (.ior, 1) := by decide +kernel
theorem dX1_fateOfHold_61 : decode cX1_fateOfHold 61 = .ok (.istore_n 3, 1) := by decide +kernel
theorem dX1_fateOfHold_62 : decode cX1_fateOfHold 62 = .ok (.goto 22, 3) := by decide +kernel
theorem dX1_fateOfHold_65 : decode cX1_fateOfHold 65 = .ok (.iload 5, 2) := by decide +kernel
theorem dX1_fateOfHold_67 : decode cX1_fateOfHold 67 = .ok (.iload_n 1, 1) := by decide +kernel
theorem dX1_fateOfHold_68 : decode cX1_fateOfHold 68 = .ok (.if_icmp .ne 5, 3) := by decide +kernel
theorem dX1_fateOfHold_71 : decode cX1_fateOfHold 71 = .ok (.iconst 5, 1) := by decide +kernel
theorem dX1_fateOfHold_72 : decode cX1_fateOfHold 72 = .ok (.ireturn, 1) := by decide +kernel
theorem dX1_fateOfHold_73 : decode cX1_fateOfHold 73 = .ok (.iload_n 3, 1) := by decide +kernel
theorem dX1_fateOfHold_74 : decode cX1_fateOfHold 74 = .ok (.iload 5, 2) := by decide +kernel
theorem dX1_fateOfHold_76 : decode cX1_fateOfHold 76 = .ok (.invokestatic 77, 3) := by decide +kernel
theorem dX1_fateOfHold_79 : decode cX1_fateOfHold 79 = .ok (.ifCond .eq 5, 3) := by decide +kernel
theorem dX1_fateOfHold_82 : decode cX1_fateOfHold 82 = .ok (.iconst 4, 1) := by decide +kernel
theorem dX1_fateOfHold_83 : decode cX1_fateOfHold 83 = .ok (.ireturn, 1) := by decide +kernel
theorem dX1_fateOfHold_84 : decode cX1_fateOfHold 84 = .ok (.iinc 4 1, 3) := by decide +kernel
theorem dX1_fateOfHold_87 : decode cX1_fateOfHold 87 = .ok (.goto (-82), 3) := by decide +kernel
theorem dX1_fateOfHold_90 : decode cX1_fateOfHold 90 = .ok (.aload_n 0, 1) := by decide +kernel
theorem dX1_fateOfHold_91 : decode cX1_fateOfHold 91 = .ok (.getfield 46, 3) := by decide +kernel
theorem dX1_fateOfHold_94 : decode cX1_fateOfHold 94 = .ok (.iload_n 2, 1) := by decide +kernel
theorem dX1_fateOfHold_95 : decode cX1_fateOfHold 95 = .ok (.if_icmp .lt 7, 3) := by decide +kernel
theorem dX1_fateOfHold_98 : decode cX1_fateOfHold 98 = .ok (.iconst 4, 1) := by decide +kernel
theorem dX1_fateOfHold_99 : decode cX1_fateOfHold 99 = .ok (.goto 4, 3) := by decide +kernel
theorem dX1_fateOfHold_102 : decode cX1_fateOfHold 102 = .ok (.iconst 0, 1) := by decide +kernel
theorem dX1_fateOfHold_103 : decode cX1_fateOfHold 103 = .ok (.ireturn, 1) := by decide +kernel
def rmX1_fateOfHold : Room := { frames := 1, cells := 0, slots := 0, locals := 21 }
set_option maxRecDepth 100000 in
def fX1_fateOfHold_J103 (N : Nat) (g : Gs) (x0 : Nat) (x1 : Int32) (x2 : Int32) (z0 : Int32) (d : Ds) : Option (Int32 × Ds) := some (z0, d)
set_option maxHeartbeats 4000000 in
set_option maxRecDepth 100000 in
theorem tX1_fateOfHold_103 {p : Program} {l : Launch} {e : Env} {s : State} {m : MethodId} {args : Array Value} {below : List Frame} {meth : Method} {c : Code} {D : va_G} {cy : Nat → ClassId} {B : Bs} (C : Cx p s m args c cX1_fateOfHold 6 RX1 D cy B) (hr : meth.sig.returnType = (some .int)) (hlocks : meth.locks = false) {N : Nat} {g : Gs} {x0 : Nat} {x1 : Int32} {x2 : Int32} {vz : Int32} {dz : Ds} {z0 : Int32} {d : Ds} (hf : fX1_fateOfHold_J103 N g x0 x1 x2 z0 d = some (vz, dz)) : WB p l e rmX1_fateOfHold s m args below meth c 6 D cy B 0 0 (MQ below (QI D cy B vz g dz) args s 0 0 (wA B)) g d [(0, .ref (ad B x0)), (1, .int x1), (2, .int x2)] 103 [.int z0] := by
  unfold fX1_fateOfHold_J103 at hf
  exact b_iret C hr hlocks hf dX1_fateOfHold_103
set_option maxRecDepth 100000 in
def fX1_fateOfHold_J84 (N : Nat) (g : Gs) (x0 : Nat) (x1 : Int32) (x2 : Int32) (K5 : Int32 × Int32 × Ds → Option (Int32 × Ds)) (y3 : Int32) (y4 : Int32) (d : Ds) : Option (Int32 × Ds) := bd (y4 + 1) fun u22 => (K5 (y3, u22, d))
set_option maxHeartbeats 4000000 in
set_option maxRecDepth 100000 in
theorem tX1_fateOfHold_84 {p : Program} {l : Launch} {e : Env} {s : State} {m : MethodId} {args : Array Value} {below : List Frame} {meth : Method} {c : Code} {D : va_G} {cy : Nat → ClassId} {B : Bs} (C : Cx p s m args c cX1_fateOfHold 6 RX1 D cy B) (hr : meth.sig.returnType = (some .int)) (hlocks : meth.locks = false) {N : Nat} {g : Gs} {x0 : Nat} {x1 : Int32} {x2 : Int32} {vz : Int32} {dz : Ds} {K5 : Int32 × Int32 × Ds → Option (Int32 × Ds)} (hK5 : ∀ a, K5 a = some (vz, dz) → WB p l e rmX1_fateOfHold s m args below meth c 6 D cy B 0 0 (MQ below (QI D cy B vz g dz) args s 0 0 (wA B)) g a.2.2 [(0, .ref (ad B x0)), (1, .int x1), (2, .int x2), (3, .int a.1), (4, .int a.2.1)] 5 []) {y3 : Int32} {y4 : Int32} {d : Ds} (hf : fX1_fateOfHold_J84 N g x0 x1 x2 K5 y3 y4 d = some (vz, dz)) : WB p l e rmX1_fateOfHold s m args below meth c 6 D cy B 0 0 (MQ below (QI D cy B vz g dz) args s 0 0 (wA B)) g d [(0, .ref (ad B x0)), (1, .int x1), (2, .int x2), (3, .int y3), (4, .int y4)] 84 [] := by
  unfold fX1_fateOfHold_J84 at hf
  obtain ⟨u22, eu22, hf⟩ := bd_s hf
  refine b_iinc C dX1_fateOfHold_84 4 rfl (by rw [eu22]; rfl) [(4, .int u22), (0, .ref (ad B x0)), (1, .int x1), (2, .int x2), (3, .int y3)] (by decide) rfl ?_
  refine b_goto C (tgt := 5) dX1_fateOfHold_87 (by decide) ?_
  refine b_sub [(0, .ref (ad B x0)), (1, .int x1), (2, .int x2), (3, .int y3), (4, .int u22)] [1, 2, 3, 4, 0] rfl ?_
  exact hK5 (y3, u22, d) hf
set_option maxRecDepth 100000 in
def fX1_fateOfHold_B5 (N : Nat) (g : Gs) (x0 : Nat) (x1 : Int32) (x2 : Int32) (K5 : Int32 × Int32 × Ds → Option (Int32 × Ds)) (y3 : Int32) (y4 : Int32) (d : Ds) : Option (Int32 × Ds) := gd (chk g x0 1) <| ob (gR g x0 2) fun r2 => (gd (chk g r2 4) <| if (dI d r2 1) ≤ y4 then (if (dI d x0 5) < x2 then (fX1_fateOfHold_J103 N g x0 x1 x2 0 d) else (fX1_fateOfHold_J103 N g x0 x1 x2 4 d)) else (cb (fX4_keyAt N g r2 y4 d) fun u8 d6 => (cb (fX4_tickAt N g r2 y4 d6) fun u11 d9 => (if u11 < x2 then (cb (fX4_isDownAt N g r2 y4 d9) fun u15 d13 => (if u15 = 0 then (if u8 = x1 then (some (5, d13)) else (cb (fX11_isIn N g y3 u8 d13) fun u20 d18 => (if u20 = 0 then (fX1_fateOfHold_J84 N g x0 x1 x2 K5 y3 y4 d18) else (some (4, d18))))) else (bd ((y3 ||| ((1 : Int32) <<< (u8 &&& 31)))) fun u23 => (fX1_fateOfHold_J84 N g x0 x1 x2 K5 u23 y4 d13)))) else (some (4, d9))))))
set_option maxHeartbeats 4000000 in
set_option maxRecDepth 100000 in
theorem tX1_fateOfHold_5 {p : Program} {l : Launch} {e : Env} {s : State} {m : MethodId} {args : Array Value} {below : List Frame} {meth : Method} {c : Code} {D : va_G} {cy : Nat → ClassId} {B : Bs} (C : Cx p s m args c cX1_fateOfHold 6 RX1 D cy B) (hr : meth.sig.returnType = (some .int)) (hlocks : meth.locks = false) {N : Nat} {g : Gs} {x0 : Nat} {x1 : Int32} {x2 : Int32} {vz : Int32} {dz : Ds} {K5 : Int32 × Int32 × Ds → Option (Int32 × Ds)} (hK5 : ∀ a, K5 a = some (vz, dz) → WB p l e rmX1_fateOfHold s m args below meth c 6 D cy B 0 0 (MQ below (QI D cy B vz g dz) args s 0 0 (wA B)) g a.2.2 [(0, .ref (ad B x0)), (1, .int x1), (2, .int x2), (3, .int a.1), (4, .int a.2.1)] 5 []) {y3 : Int32} {y4 : Int32} {d : Ds} (hf : fX1_fateOfHold_B5 N g x0 x1 x2 K5 y3 y4 d = some (vz, dz)) : WB p l e rmX1_fateOfHold s m args below meth c 6 D cy B 0 0 (MQ below (QI D cy B vz g dz) args s 0 0 (wA B)) g d [(0, .ref (ad B x0)), (1, .int x1), (2, .int x2), (3, .int y3), (4, .int y4)] 5 [] := by
  unfold fX1_fateOfHold_B5 at hf
  refine b_iload C dX1_fateOfHold_5 4 rfl ?_
  refine b_aload_n C dX1_fateOfHold_7 0 rfl rfl ?_
  obtain ⟨h1, hf⟩ := gd_s hf
  obtain ⟨r2, er2, hf⟩ := ob_s hf
  refine b_gR C dX1_fateOfHold_8 fl_X1_21 h1 er2 ?_
  obtain ⟨h3, hf⟩ := gd_s hf
  refine b_gI C dX1_fateOfHold_11 fl_X1_108 h3 ?_
  refine b_icmp_ge C (tgt := 90) dX1_fateOfHold_14 (by decide) (fun c4 => ?_) (fun c4 => ?_)
  · have hf := it_s c4 hf
    refine b_aload_n C dX1_fateOfHold_90 0 rfl rfl ?_
    refine b_gI C dX1_fateOfHold_91 fl_X1_46 h1 ?_
    refine b_iload_n C dX1_fateOfHold_94 2 rfl rfl ?_
    refine b_icmp_lt C (tgt := 102) dX1_fateOfHold_95 (by decide) (fun c5 => ?_) (fun c5 => ?_)
    · have hf := it_s c5 hf
      refine b_iconst C (v := 0) dX1_fateOfHold_102 (by decide) ?_
      refine b_sub [(0, .ref (ad B x0)), (1, .int x1), (2, .int x2)] [0, 1, 2] rfl ?_
      exact tX1_fateOfHold_103 C hr hlocks hf
    · have hf := if_s c5 hf
      refine b_iconst C (v := 4) dX1_fateOfHold_98 (by decide) ?_
      refine b_goto C (tgt := 103) dX1_fateOfHold_99 (by decide) ?_
      refine b_sub [(0, .ref (ad B x0)), (1, .int x1), (2, .int x2)] [0, 1, 2] rfl ?_
      exact tX1_fateOfHold_103 C hr hlocks hf
  · have hf := if_s c4 hf
    refine b_aload_n C dX1_fateOfHold_17 0 rfl rfl ?_
    refine b_gR C dX1_fateOfHold_18 fl_X1_21 h1 er2 ?_
    refine b_iload C dX1_fateOfHold_21 4 rfl ?_
    obtain ⟨u8, d6, k7, hf⟩ := cb_s hf
    refine b_cVI C [] dX1_fateOfHold_23 (kX4_keyAt l D cy B k7) lv_X1_131 ⟨rfl, rfl, Nat.le_of_ble_eq_true rfl, Nat.le_of_ble_eq_true rfl⟩ h3 (by decide) rfl (Nat.le_of_ble_eq_true rfl) ⟨Nat.zero_le _, Nat.zero_le _⟩ rfl ?_
    refine b_istore C dX1_fateOfHold_26 [(5, .int u8), (0, .ref (ad B x0)), (1, .int x1), (2, .int x2), (3, .int y3), (4, .int y4)] (by decide) rfl ?_
    refine b_aload_n C dX1_fateOfHold_28 1 rfl rfl ?_
    refine b_gR C dX1_fateOfHold_29 fl_X1_21 h1 er2 ?_
    refine b_iload C dX1_fateOfHold_32 5 rfl ?_
    obtain ⟨u11, d9, k10, hf⟩ := cb_s hf
    refine b_cVI C [] dX1_fateOfHold_34 (kX4_tickAt l D cy B k10) lv_X1_138 ⟨rfl, rfl, Nat.le_of_ble_eq_true rfl, Nat.le_of_ble_eq_true rfl⟩ h3 (by decide) rfl (Nat.le_of_ble_eq_true rfl) ⟨Nat.zero_le _, Nat.zero_le _⟩ rfl ?_
    refine b_iload_n C dX1_fateOfHold_37 3 rfl rfl ?_
    refine b_icmp_lt C (tgt := 43) dX1_fateOfHold_38 (by decide) (fun c12 => ?_) (fun c12 => ?_)
    · have hf := it_s c12 hf
      refine b_aload_n C dX1_fateOfHold_43 1 rfl rfl ?_
      refine b_gR C dX1_fateOfHold_44 fl_X1_21 h1 er2 ?_
      refine b_iload C dX1_fateOfHold_47 5 rfl ?_
      obtain ⟨u15, d13, k14, hf⟩ := cb_s hf
      refine b_cVI C [] dX1_fateOfHold_49 (kX4_isDownAt l D cy B k14) lv_X1_128 ⟨rfl, rfl, Nat.le_of_ble_eq_true rfl, Nat.le_of_ble_eq_true rfl⟩ h3 (by decide) rfl (Nat.le_of_ble_eq_true rfl) ⟨Nat.zero_le _, Nat.zero_le _⟩ rfl ?_
      refine b_if_eq C (tgt := 65) dX1_fateOfHold_52 (by decide) (fun c16 => ?_) (fun c16 => ?_)
      · have hf := it_s c16 hf
        refine b_iload C dX1_fateOfHold_65 0 rfl ?_
        refine b_iload_n C dX1_fateOfHold_67 2 rfl rfl ?_
        refine b_icmp_ne C (tgt := 73) dX1_fateOfHold_68 (by decide) (fun c17 => ?_) (fun c17 => ?_)
        · have hf := if_s c17 hf
          refine b_iload_n C dX1_fateOfHold_73 4 rfl rfl ?_
          refine b_iload C dX1_fateOfHold_74 0 rfl ?_
          obtain ⟨u20, d18, k19, hf⟩ := cb_s hf
          refine b_cSI C [] dX1_fateOfHold_76 (kX11_isIn l D cy B k19) lv_X1_77 ⟨rfl, rfl, Nat.le_of_ble_eq_true rfl, Nat.le_of_ble_eq_true rfl⟩ rfl (Nat.le_of_ble_eq_true rfl) ⟨Nat.zero_le _, Nat.zero_le _⟩ rfl ?_
          refine b_if_eq C (tgt := 84) dX1_fateOfHold_79 (by decide) (fun c21 => ?_) (fun c21 => ?_)
          · have hf := it_s c21 hf
            refine b_sub [(0, .ref (ad B x0)), (1, .int x1), (2, .int x2), (3, .int y3), (4, .int y4)] [1, 2, 3, 4, 5] rfl ?_
            exact tX1_fateOfHold_84 C hr hlocks hK5 hf
          · have hf := if_s c21 hf
            refine b_iconst C (v := 4) dX1_fateOfHold_82 (by decide) ?_
            exact b_iret C hr hlocks hf dX1_fateOfHold_83
        · have hf := it_s c17 hf
          refine b_iconst C (v := 5) dX1_fateOfHold_71 (by decide) ?_
          exact b_iret C hr hlocks hf dX1_fateOfHold_72
      · have hf := if_s c16 hf
        refine b_iload_n C dX1_fateOfHold_55 4 rfl rfl ?_
        refine b_iconst C (v := 1) dX1_fateOfHold_56 (by decide) ?_
        refine b_iload C dX1_fateOfHold_57 0 rfl ?_
        refine b_ishl C dX1_fateOfHold_59 ?_
        refine b_ior C dX1_fateOfHold_60 ?_
        obtain ⟨u23, eu23, hf⟩ := bd_s hf
        refine b_topI eu23 ?_
        refine b_istore_n C dX1_fateOfHold_61 rfl [(3, .int u23), (5, .int u8), (0, .ref (ad B x0)), (1, .int x1), (2, .int x2), (4, .int y4)] (by decide) rfl ?_
        refine b_goto C (tgt := 84) dX1_fateOfHold_62 (by decide) ?_
        refine b_sub [(0, .ref (ad B x0)), (1, .int x1), (2, .int x2), (3, .int u23), (4, .int y4)] [2, 3, 4, 0, 5] rfl ?_
        exact tX1_fateOfHold_84 C hr hlocks hK5 hf
    · have hf := if_s c12 hf
      refine b_iconst C (v := 4) dX1_fateOfHold_41 (by decide) ?_
      exact b_iret C hr hlocks hf dX1_fateOfHold_42
def fX1_fateOfHold_L5 (N : Nat) (g : Gs) (x0 : Nat) (x1 : Int32) (x2 : Int32) : Int32 × Int32 × Ds → Option (Int32 × Ds) := lp (fun K5 a => fX1_fateOfHold_B5 N g x0 x1 x2 K5 a.1 a.2.1 a.2.2) N
theorem tX1_fateOfHold_L5 {p : Program} {l : Launch} {e : Env} {s : State} {m : MethodId} {args : Array Value} {below : List Frame} {meth : Method} {c : Code} {D : va_G} {cy : Nat → ClassId} {B : Bs} (C : Cx p s m args c cX1_fateOfHold 6 RX1 D cy B) (hr : meth.sig.returnType = (some .int)) (hlocks : meth.locks = false) {N : Nat} {g : Gs} {x0 : Nat} {x1 : Int32} {x2 : Int32} {vz : Int32} {dz : Ds} (a : Int32 × Int32 × Ds) (hf : fX1_fateOfHold_L5 N g x0 x1 x2 a = some (vz, dz)) : WB p l e rmX1_fateOfHold s m args below meth c 6 D cy B 0 0 (MQ below (QI D cy B vz g dz) args s 0 0 (wA B)) g a.2.2 [(0, .ref (ad B x0)), (1, .int x1), (2, .int x2), (3, .int a.1), (4, .int a.2.1)] 5 [] :=
  lp_w (fun K5 hK5 a ha => tX1_fateOfHold_5 C hr hlocks hK5 ha) N a hf
set_option maxRecDepth 100000 in
def fX1_fateOfHold (N : Nat) (g : Gs) (x0 : Nat) (x1 : Int32) (x2 : Int32) (d : Ds) : Option (Int32 × Ds) := fX1_fateOfHold_L5 N g x0 x1 x2 (0, 1, d)
set_option maxHeartbeats 4000000 in
set_option maxRecDepth 100000 in
theorem tX1_fateOfHold_E {p : Program} {l : Launch} {e : Env} {s : State} {m : MethodId} {args : Array Value} {below : List Frame} {meth : Method} {c : Code} {D : va_G} {cy : Nat → ClassId} {B : Bs} (C : Cx p s m args c cX1_fateOfHold 6 RX1 D cy B) (hr : meth.sig.returnType = (some .int)) (hlocks : meth.locks = false) {N : Nat} {g : Gs} {x0 : Nat} {x1 : Int32} {x2 : Int32} {vz : Int32} {dz : Ds} {d : Ds} (hf : fX1_fateOfHold N g x0 x1 x2 d = some (vz, dz)) : WB p l e rmX1_fateOfHold s m args below meth c 6 D cy B 0 0 (MQ below (QI D cy B vz g dz) args s 0 0 (wA B)) g d [(0, .ref (ad B x0)), (1, .int x1), (2, .int x2)] 0 [] := by
  unfold fX1_fateOfHold at hf
  refine b_iconst C (v := 0) dX1_fateOfHold_0 (by decide) ?_
  refine b_istore_n C dX1_fateOfHold_1 rfl [(3, .int 0), (0, .ref (ad B x0)), (1, .int x1), (2, .int x2)] (by decide) rfl ?_
  refine b_iconst C (v := 1) dX1_fateOfHold_2 (by decide) ?_
  refine b_istore C dX1_fateOfHold_3 [(4, .int 1), (3, .int 0), (0, .ref (ad B x0)), (1, .int x1), (2, .int x2)] (by decide) rfl ?_
  refine b_sub [(0, .ref (ad B x0)), (1, .int x1), (2, .int x2), (3, .int 0), (4, .int 1)] [2, 3, 4, 1, 0] rfl ?_
  exact tX1_fateOfHold_L5 C hr hlocks (0, 1, d) hf
theorem kX1_fateOfHold (l : Launch) (D : va_G) (cy : Nat → ClassId) (B : Bs) {N : Nat} {g : Gs} {x0 : Nat} {x1 : Int32} {x2 : Int32} {vz : Int32} {dz : Ds} {d : Ds} (hf : fX1_fateOfHold N g x0 x1 x2 d = some (vz, dz)) : Met l yX1_fateOfHold (.code yX1_fateOfHold cX1_fateOfHold 6 (some .int) :: wl) rmX1_fateOfHold (PC D cy B [.ref (ad B x0), .int x1, .int x2] g d) (QI D cy B vz g dz) 0 0 (wA B) :=
  met_of (by decide +kernel) (Nat.le_of_ble_eq_true rfl) (fun p e s m args below meth c C hr hlocks _ => b_sub [(0, .ref (ad B x0)), (1, .int x1), (2, .int x2)] [0, 1, 2] rfl (tX1_fateOfHold_E C hr hlocks hf))
/-! KeyMatrix$Course.fateOfDouble(II)I -/
theorem dX1_fateOfDouble_0 : decode cX1_fateOfDouble 0 = .ok (.iconst 1, 1) := by decide +kernel
theorem dX1_fateOfDouble_1 : decode cX1_fateOfDouble 1 = .ok (.istore_n 3, 1) := by decide +kernel
theorem dX1_fateOfDouble_2 : decode cX1_fateOfDouble 2 = .ok (.iload_n 3, 1) := by decide +kernel
theorem dX1_fateOfDouble_3 : decode cX1_fateOfDouble 3 = .ok (.aload_n 0, 1) := by decide +kernel
theorem dX1_fateOfDouble_4 : decode cX1_fateOfDouble 4 = .ok (.getfield 21, 3) := by decide +kernel
theorem dX1_fateOfDouble_7 : decode cX1_fateOfDouble 7 = .ok (.getfield 108, 3) := by decide +kernel
theorem dX1_fateOfDouble_10 : decode cX1_fateOfDouble 10 = .ok (.if_icmp .ge 55, 3) := by decide +kernel
theorem dX1_fateOfDouble_13 : decode cX1_fateOfDouble 13 = .ok (.aload_n 0, 1) := by decide +kernel
theorem dX1_fateOfDouble_14 : decode cX1_fateOfDouble 14 = .ok (.getfield 21, 3) := by decide +kernel
theorem dX1_fateOfDouble_17 : decode cX1_fateOfDouble 17 = .ok (.iload_n 3, 1) := by decide +kernel
theorem dX1_fateOfDouble_18 : decode cX1_fateOfDouble 18 = .ok (.invokevirtual 138, 3) := by decide +kernel
theorem dX1_fateOfDouble_21 : decode cX1_fateOfDouble 21 = .ok (.iload_n 2, 1) := by decide +kernel
theorem dX1_fateOfDouble_22 : decode cX1_fateOfDouble 22 = .ok (.if_icmp .lt 6, 3) := by decide +kernel
theorem dX1_fateOfDouble_25 : decode cX1_fateOfDouble 25 = .ok (.bipush 6, 2) := by decide +kernel
theorem dX1_fateOfDouble_27 : decode cX1_fateOfDouble 27 = .ok (.ireturn, 1) := by decide +kernel
theorem dX1_fateOfDouble_28 : decode cX1_fateOfDouble 28 = .ok (.aload_n 0, 1) := by decide +kernel
theorem dX1_fateOfDouble_29 : decode cX1_fateOfDouble 29 = .ok (.getfield 21, 3) := by decide +kernel
theorem dX1_fateOfDouble_32 : decode cX1_fateOfDouble 32 = .ok (.iload_n 3, 1) := by decide +kernel
theorem dX1_fateOfDouble_33 : decode cX1_fateOfDouble 33 = .ok (.invokevirtual 128, 3) := by decide +kernel
theorem dX1_fateOfDouble_36 : decode cX1_fateOfDouble 36 = .ok (.ifCond .eq 23, 3) := by decide +kernel
theorem dX1_fateOfDouble_39 : decode cX1_fateOfDouble 39 = .ok (.aload_n 0, 1) := by decide +kernel
theorem dX1_fateOfDouble_40 : decode cX1_fateOfDouble 40 = .ok (.getfield 21, 3) := by decide +kernel
theorem dX1_fateOfDouble_43 : decode cX1_fateOfDouble 43 = .ok (.iload_n 3, 1) := by decide +kernel
theorem dX1_fateOfDouble_44 : decode cX1_fateOfDouble 44 = .ok (.invokevirtual 131, 3) := by decide +kernel
theorem dX1_fateOfDouble_47 : decode cX1_fateOfDouble 47 = .ok (.iload_n 1, 1) := by decide +kernel
theorem dX1_fateOfDouble_48 : decode cX1_fateOfDouble 48 = .ok (.if_icmp .ne 8, 3) := by decide +kernel
theorem dX1_fateOfDouble_51 : decode cX1_fateOfDouble 51 = .ok (.bipush 7, 2) := by decide +kernel
theorem dX1_fateOfDouble_53 : decode cX1_fateOfDouble 53 = .ok (.goto 5, 3) := by decide +kernel
theorem dX1_fateOfDouble_56 : decode cX1_fateOfDouble 56 = .ok (.bipush 6, 2) := by decide +kernel
theorem dX1_fateOfDouble_58 : decode cX1_fateOfDouble 58 = .ok (.ireturn, 1) := by decide +kernel
theorem dX1_fateOfDouble_59 : decode cX1_fateOfDouble 59 = .ok (.iinc 3 1, 3) := by decide +kernel
theorem dX1_fateOfDouble_62 : decode cX1_fateOfDouble 62 = .ok (.goto (-60), 3) := by decide +kernel
theorem dX1_fateOfDouble_65 : decode cX1_fateOfDouble 65 = .ok (.aload_n 0, 1) := by decide +kernel
theorem dX1_fateOfDouble_66 : decode cX1_fateOfDouble 66 = .ok (.getfield 46, 3) := by decide +kernel
theorem dX1_fateOfDouble_69 : decode cX1_fateOfDouble 69 = .ok (.iload_n 2, 1) := by decide +kernel
theorem dX1_fateOfDouble_70 : decode cX1_fateOfDouble 70 = .ok (.if_icmp .lt 8, 3) := by decide +kernel
theorem dX1_fateOfDouble_73 : decode cX1_fateOfDouble 73 = .ok (.bipush 6, 2) := by decide +kernel
theorem dX1_fateOfDouble_75 : decode cX1_fateOfDouble 75 = .ok (.goto 4, 3) := by decide +kernel
theorem dX1_fateOfDouble_78 : decode cX1_fateOfDouble 78 = .ok (.iconst 0, 1) := by decide +kernel
theorem dX1_fateOfDouble_79 : decode cX1_fateOfDouble 79 = .ok (.ireturn, 1) := by decide +kernel
def rmX1_fateOfDouble : Room := { frames := 1, cells := 0, slots := 0, locals := 21 }
set_option maxRecDepth 100000 in
def fX1_fateOfDouble_J79 (N : Nat) (g : Gs) (x0 : Nat) (x1 : Int32) (x2 : Int32) (z0 : Int32) (d : Ds) : Option (Int32 × Ds) := some (z0, d)
set_option maxHeartbeats 4000000 in
set_option maxRecDepth 100000 in
theorem tX1_fateOfDouble_79 {p : Program} {l : Launch} {e : Env} {s : State} {m : MethodId} {args : Array Value} {below : List Frame} {meth : Method} {c : Code} {D : va_G} {cy : Nat → ClassId} {B : Bs} (C : Cx p s m args c cX1_fateOfDouble 4 RX1 D cy B) (hr : meth.sig.returnType = (some .int)) (hlocks : meth.locks = false) {N : Nat} {g : Gs} {x0 : Nat} {x1 : Int32} {x2 : Int32} {vz : Int32} {dz : Ds} {z0 : Int32} {d : Ds} (hf : fX1_fateOfDouble_J79 N g x0 x1 x2 z0 d = some (vz, dz)) : WB p l e rmX1_fateOfDouble s m args below meth c 4 D cy B 0 0 (MQ below (QI D cy B vz g dz) args s 0 0 (wA B)) g d [(0, .ref (ad B x0)), (1, .int x1), (2, .int x2)] 79 [.int z0] := by
  unfold fX1_fateOfDouble_J79 at hf
  exact b_iret C hr hlocks hf dX1_fateOfDouble_79
set_option maxRecDepth 100000 in
def fX1_fateOfDouble_J58 (N : Nat) (g : Gs) (x0 : Nat) (x1 : Int32) (x2 : Int32) (z0 : Int32) (d : Ds) : Option (Int32 × Ds) := some (z0, d)
set_option maxHeartbeats 4000000 in
set_option maxRecDepth 100000 in
theorem tX1_fateOfDouble_58 {p : Program} {l : Launch} {e : Env} {s : State} {m : MethodId} {args : Array Value} {below : List Frame} {meth : Method} {c : Code} {D : va_G} {cy : Nat → ClassId} {B : Bs} (C : Cx p s m args c cX1_fateOfDouble 4 RX1 D cy B) (hr : meth.sig.returnType = (some .int)) (hlocks : meth.locks = false) {N : Nat} {g : Gs} {x0 : Nat} {x1 : Int32} {x2 : Int32} {vz : Int32} {dz : Ds} {z0 : Int32} {d : Ds} (hf : fX1_fateOfDouble_J58 N g x0 x1 x2 z0 d = some (vz, dz)) : WB p l e rmX1_fateOfDouble s m args below meth c 4 D cy B 0 0 (MQ below (QI D cy B vz g dz) args s 0 0 (wA B)) g d [(0, .ref (ad B x0)), (1, .int x1), (2, .int x2)] 58 [.int z0] := by
  unfold fX1_fateOfDouble_J58 at hf
  exact b_iret C hr hlocks hf dX1_fateOfDouble_58
set_option maxRecDepth 100000 in
def fX1_fateOfDouble_B2 (N : Nat) (g : Gs) (x0 : Nat) (x1 : Int32) (x2 : Int32) (K2 : Int32 × Ds → Option (Int32 × Ds)) (y3 : Int32) (d : Ds) : Option (Int32 × Ds) := gd (chk g x0 1) <| ob (gR g x0 2) fun r2 => (gd (chk g r2 4) <| if (dI d r2 1) ≤ y3 then (if (dI d x0 5) < x2 then (fX1_fateOfDouble_J79 N g x0 x1 x2 0 d) else (fX1_fateOfDouble_J79 N g x0 x1 x2 6 d)) else (cb (fX4_tickAt N g r2 y3 d) fun u8 d6 => (if u8 < x2 then (cb (fX4_isDownAt N g r2 y3 d6) fun u12 d10 => (if u12 = 0 then (bd (y3 + 1) fun u14 => (K2 (u14, d10))) else (cb (fX4_keyAt N g r2 y3 d10) fun u17 d15 => (if u17 = x1 then (fX1_fateOfDouble_J58 N g x0 x1 x2 7 d15) else (fX1_fateOfDouble_J58 N g x0 x1 x2 6 d15))))) else (some (6, d6)))))
set_option maxHeartbeats 4000000 in
set_option maxRecDepth 100000 in
theorem tX1_fateOfDouble_2 {p : Program} {l : Launch} {e : Env} {s : State} {m : MethodId} {args : Array Value} {below : List Frame} {meth : Method} {c : Code} {D : va_G} {cy : Nat → ClassId} {B : Bs} (C : Cx p s m args c cX1_fateOfDouble 4 RX1 D cy B) (hr : meth.sig.returnType = (some .int)) (hlocks : meth.locks = false) {N : Nat} {g : Gs} {x0 : Nat} {x1 : Int32} {x2 : Int32} {vz : Int32} {dz : Ds} {K2 : Int32 × Ds → Option (Int32 × Ds)} (hK2 : ∀ a, K2 a = some (vz, dz) → WB p l e rmX1_fateOfDouble s m args below meth c 4 D cy B 0 0 (MQ below (QI D cy B vz g dz) args s 0 0 (wA B)) g a.2 [(0, .ref (ad B x0)), (1, .int x1), (2, .int x2), (3, .int a.1)] 2 []) {y3 : Int32} {d : Ds} (hf : fX1_fateOfDouble_B2 N g x0 x1 x2 K2 y3 d = some (vz, dz)) : WB p l e rmX1_fateOfDouble s m args below meth c 4 D cy B 0 0 (MQ below (QI D cy B vz g dz) args s 0 0 (wA B)) g d [(0, .ref (ad B x0)), (1, .int x1), (2, .int x2), (3, .int y3)] 2 [] := by
  unfold fX1_fateOfDouble_B2 at hf
  refine b_iload_n C dX1_fateOfDouble_2 3 rfl rfl ?_
  refine b_aload_n C dX1_fateOfDouble_3 0 rfl rfl ?_
  obtain ⟨h1, hf⟩ := gd_s hf
  obtain ⟨r2, er2, hf⟩ := ob_s hf
  refine b_gR C dX1_fateOfDouble_4 fl_X1_21 h1 er2 ?_
  obtain ⟨h3, hf⟩ := gd_s hf
  refine b_gI C dX1_fateOfDouble_7 fl_X1_108 h3 ?_
  refine b_icmp_ge C (tgt := 65) dX1_fateOfDouble_10 (by decide) (fun c4 => ?_) (fun c4 => ?_)
  · have hf := it_s c4 hf
    refine b_aload_n C dX1_fateOfDouble_65 0 rfl rfl ?_
    refine b_gI C dX1_fateOfDouble_66 fl_X1_46 h1 ?_
    refine b_iload_n C dX1_fateOfDouble_69 2 rfl rfl ?_
    refine b_icmp_lt C (tgt := 78) dX1_fateOfDouble_70 (by decide) (fun c5 => ?_) (fun c5 => ?_)
    · have hf := it_s c5 hf
      refine b_iconst C (v := 0) dX1_fateOfDouble_78 (by decide) ?_
      refine b_sub [(0, .ref (ad B x0)), (1, .int x1), (2, .int x2)] [0, 1, 2] rfl ?_
      exact tX1_fateOfDouble_79 C hr hlocks hf
    · have hf := if_s c5 hf
      refine b_bipush C (v := 6) dX1_fateOfDouble_73 (by decide) ?_
      refine b_goto C (tgt := 79) dX1_fateOfDouble_75 (by decide) ?_
      refine b_sub [(0, .ref (ad B x0)), (1, .int x1), (2, .int x2)] [0, 1, 2] rfl ?_
      exact tX1_fateOfDouble_79 C hr hlocks hf
  · have hf := if_s c4 hf
    refine b_aload_n C dX1_fateOfDouble_13 0 rfl rfl ?_
    refine b_gR C dX1_fateOfDouble_14 fl_X1_21 h1 er2 ?_
    refine b_iload_n C dX1_fateOfDouble_17 3 rfl rfl ?_
    obtain ⟨u8, d6, k7, hf⟩ := cb_s hf
    refine b_cVI C [] dX1_fateOfDouble_18 (kX4_tickAt l D cy B k7) lv_X1_138 ⟨rfl, rfl, Nat.le_of_ble_eq_true rfl, Nat.le_of_ble_eq_true rfl⟩ h3 (by decide) rfl (Nat.le_of_ble_eq_true rfl) ⟨Nat.zero_le _, Nat.zero_le _⟩ rfl ?_
    refine b_iload_n C dX1_fateOfDouble_21 2 rfl rfl ?_
    refine b_icmp_lt C (tgt := 28) dX1_fateOfDouble_22 (by decide) (fun c9 => ?_) (fun c9 => ?_)
    · have hf := it_s c9 hf
      refine b_aload_n C dX1_fateOfDouble_28 0 rfl rfl ?_
      refine b_gR C dX1_fateOfDouble_29 fl_X1_21 h1 er2 ?_
      refine b_iload_n C dX1_fateOfDouble_32 3 rfl rfl ?_
      obtain ⟨u12, d10, k11, hf⟩ := cb_s hf
      refine b_cVI C [] dX1_fateOfDouble_33 (kX4_isDownAt l D cy B k11) lv_X1_128 ⟨rfl, rfl, Nat.le_of_ble_eq_true rfl, Nat.le_of_ble_eq_true rfl⟩ h3 (by decide) rfl (Nat.le_of_ble_eq_true rfl) ⟨Nat.zero_le _, Nat.zero_le _⟩ rfl ?_
      refine b_if_eq C (tgt := 59) dX1_fateOfDouble_36 (by decide) (fun c13 => ?_) (fun c13 => ?_)
      · have hf := it_s c13 hf
        obtain ⟨u14, eu14, hf⟩ := bd_s hf
        refine b_iinc C dX1_fateOfDouble_59 3 rfl (by rw [eu14]; rfl) [(3, .int u14), (0, .ref (ad B x0)), (1, .int x1), (2, .int x2)] (by decide) rfl ?_
        refine b_goto C (tgt := 2) dX1_fateOfDouble_62 (by decide) ?_
        refine b_sub [(0, .ref (ad B x0)), (1, .int x1), (2, .int x2), (3, .int u14)] [1, 2, 3, 0] rfl ?_
        exact hK2 (u14, d10) hf
      · have hf := if_s c13 hf
        refine b_aload_n C dX1_fateOfDouble_39 0 rfl rfl ?_
        refine b_gR C dX1_fateOfDouble_40 fl_X1_21 h1 er2 ?_
        refine b_iload_n C dX1_fateOfDouble_43 3 rfl rfl ?_
        obtain ⟨u17, d15, k16, hf⟩ := cb_s hf
        refine b_cVI C [] dX1_fateOfDouble_44 (kX4_keyAt l D cy B k16) lv_X1_131 ⟨rfl, rfl, Nat.le_of_ble_eq_true rfl, Nat.le_of_ble_eq_true rfl⟩ h3 (by decide) rfl (Nat.le_of_ble_eq_true rfl) ⟨Nat.zero_le _, Nat.zero_le _⟩ rfl ?_
        refine b_iload_n C dX1_fateOfDouble_47 1 rfl rfl ?_
        refine b_icmp_ne C (tgt := 56) dX1_fateOfDouble_48 (by decide) (fun c18 => ?_) (fun c18 => ?_)
        · have hf := if_s c18 hf
          refine b_bipush C (v := 6) dX1_fateOfDouble_56 (by decide) ?_
          refine b_sub [(0, .ref (ad B x0)), (1, .int x1), (2, .int x2)] [0, 1, 2] rfl ?_
          exact tX1_fateOfDouble_58 C hr hlocks hf
        · have hf := it_s c18 hf
          refine b_bipush C (v := 7) dX1_fateOfDouble_51 (by decide) ?_
          refine b_goto C (tgt := 58) dX1_fateOfDouble_53 (by decide) ?_
          refine b_sub [(0, .ref (ad B x0)), (1, .int x1), (2, .int x2)] [0, 1, 2] rfl ?_
          exact tX1_fateOfDouble_58 C hr hlocks hf
    · have hf := if_s c9 hf
      refine b_bipush C (v := 6) dX1_fateOfDouble_25 (by decide) ?_
      exact b_iret C hr hlocks hf dX1_fateOfDouble_27
def fX1_fateOfDouble_L2 (N : Nat) (g : Gs) (x0 : Nat) (x1 : Int32) (x2 : Int32) : Int32 × Ds → Option (Int32 × Ds) := lp (fun K2 a => fX1_fateOfDouble_B2 N g x0 x1 x2 K2 a.1 a.2) N
theorem tX1_fateOfDouble_L2 {p : Program} {l : Launch} {e : Env} {s : State} {m : MethodId} {args : Array Value} {below : List Frame} {meth : Method} {c : Code} {D : va_G} {cy : Nat → ClassId} {B : Bs} (C : Cx p s m args c cX1_fateOfDouble 4 RX1 D cy B) (hr : meth.sig.returnType = (some .int)) (hlocks : meth.locks = false) {N : Nat} {g : Gs} {x0 : Nat} {x1 : Int32} {x2 : Int32} {vz : Int32} {dz : Ds} (a : Int32 × Ds) (hf : fX1_fateOfDouble_L2 N g x0 x1 x2 a = some (vz, dz)) : WB p l e rmX1_fateOfDouble s m args below meth c 4 D cy B 0 0 (MQ below (QI D cy B vz g dz) args s 0 0 (wA B)) g a.2 [(0, .ref (ad B x0)), (1, .int x1), (2, .int x2), (3, .int a.1)] 2 [] :=
  lp_w (fun K2 hK2 a ha => tX1_fateOfDouble_2 C hr hlocks hK2 ha) N a hf
set_option maxRecDepth 100000 in
def fX1_fateOfDouble (N : Nat) (g : Gs) (x0 : Nat) (x1 : Int32) (x2 : Int32) (d : Ds) : Option (Int32 × Ds) := fX1_fateOfDouble_L2 N g x0 x1 x2 (1, d)
set_option maxHeartbeats 4000000 in
set_option maxRecDepth 100000 in
theorem tX1_fateOfDouble_E {p : Program} {l : Launch} {e : Env} {s : State} {m : MethodId} {args : Array Value} {below : List Frame} {meth : Method} {c : Code} {D : va_G} {cy : Nat → ClassId} {B : Bs} (C : Cx p s m args c cX1_fateOfDouble 4 RX1 D cy B) (hr : meth.sig.returnType = (some .int)) (hlocks : meth.locks = false) {N : Nat} {g : Gs} {x0 : Nat} {x1 : Int32} {x2 : Int32} {vz : Int32} {dz : Ds} {d : Ds} (hf : fX1_fateOfDouble N g x0 x1 x2 d = some (vz, dz)) : WB p l e rmX1_fateOfDouble s m args below meth c 4 D cy B 0 0 (MQ below (QI D cy B vz g dz) args s 0 0 (wA B)) g d [(0, .ref (ad B x0)), (1, .int x1), (2, .int x2)] 0 [] := by
  unfold fX1_fateOfDouble at hf
  refine b_iconst C (v := 1) dX1_fateOfDouble_0 (by decide) ?_
  refine b_istore_n C dX1_fateOfDouble_1 rfl [(3, .int 1), (0, .ref (ad B x0)), (1, .int x1), (2, .int x2)] (by decide) rfl ?_
  refine b_sub [(0, .ref (ad B x0)), (1, .int x1), (2, .int x2), (3, .int 1)] [1, 2, 3, 0] rfl ?_
  exact tX1_fateOfDouble_L2 C hr hlocks (1, d) hf
theorem kX1_fateOfDouble (l : Launch) (D : va_G) (cy : Nat → ClassId) (B : Bs) {N : Nat} {g : Gs} {x0 : Nat} {x1 : Int32} {x2 : Int32} {vz : Int32} {dz : Ds} {d : Ds} (hf : fX1_fateOfDouble N g x0 x1 x2 d = some (vz, dz)) : Met l yX1_fateOfDouble (.code yX1_fateOfDouble cX1_fateOfDouble 4 (some .int) :: wl) rmX1_fateOfDouble (PC D cy B [.ref (ad B x0), .int x1, .int x2] g d) (QI D cy B vz g dz) 0 0 (wA B) :=
  met_of (by decide +kernel) (Nat.le_of_ble_eq_true rfl) (fun p e s m args below meth c C hr hlocks _ => b_sub [(0, .ref (ad B x0)), (1, .int x1), (2, .int x2)] [0, 1, 2] rfl (tX1_fateOfDouble_E C hr hlocks hf))
