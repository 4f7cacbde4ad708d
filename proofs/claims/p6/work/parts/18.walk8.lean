/-! KeyMatrixModel.is(I)Z -/
theorem fl_X12_124 : FLI RX12 124 11 12 := ⟨⟨RX12, TX12, 33, rfl, by decide, inl11, Or.inl (mW (mT5 (List.mem_of_getElem? (i := 103) (by decide +kernel))) rfl)⟩, by decide, by decide +kernel⟩
theorem fl_X12_127 : FLI RX12 127 11 11 := ⟨⟨RX12, TX12, 33, rfl, by decide, inl11, Or.inl (mW (mT5 (List.mem_of_getElem? (i := 102) (by decide +kernel))) rfl)⟩, by decide, by decide +kernel⟩
theorem dX12_is_0 : decode cX12_is 0 = .ok (.aload_n 0, 1) := by decide +kernel
theorem dX12_is_1 : decode cX12_is 1 = .ok (.getfield 124, 3) := by decide +kernel
theorem dX12_is_4 : decode cX12_is 4 = .ok (.ifCond .ne 20, 3) := by decide +kernel
theorem dX12_is_7 : decode cX12_is 7 = .ok (.aload_n 0, 1) := by decide +kernel
theorem dX12_is_8 : decode cX12_is 8 = .ok (.getfield 20, 3) := by decide +kernel
theorem dX12_is_11 : decode cX12_is 11 = .ok (.aload_n 0, 1) := by decide +kernel
theorem dX12_is_12 : decode cX12_is 12 = .ok (.getfield 127, 3) := by decide +kernel
theorem dX12_is_15 : decode cX12_is 15 = .ok (.iaload, 1) := by decide +kernel
theorem dX12_is_16 : decode cX12_is 16 = .ok (.iload_n 1, 1) := by decide +kernel
theorem dX12_is_17 : decode cX12_is 17 = .ok (.if_icmp .ne 7, 3) := by decide +kernel
theorem dX12_is_20 : decode cX12_is 20 = .ok (.iconst 1, 1) := by decide +kernel
theorem dX12_is_21 : decode cX12_is 21 = .ok (.goto 4, 3) := by decide +kernel
theorem dX12_is_24 : decode cX12_is 24 = .ok (.iconst 0, 1) := by decide +kernel
theorem dX12_is_25 : decode cX12_is 25 = .ok (.ireturn, 1) := by decide +kernel
def rmX12_is : Room := { frames := 0, cells := 0, slots := 0, locals := 0 }
set_option maxRecDepth 100000 in
def fX12_is_J25 (N : Nat) (g : Gs) (x0 : Nat) (x1 : Int32) (z0 : Int32) (d : Ds) : Option (Int32 × Ds) := gd (z0 = 0 ∨ z0 = 1) <| some (z0, d)
set_option maxHeartbeats 4000000 in
set_option maxRecDepth 100000 in
theorem tX12_is_25 {p : Program} {l : Launch} {e : Env} {s : State} {m : MethodId} {args : Array Value} {below : List Frame} {meth : Method} {c : Code} {D : va_G} {cy : Nat → ClassId} {B : Bs} (C : Cx p s m args c cX12_is 2 RX12 D cy B) (hr : meth.sig.returnType = (some .boolean)) (hlocks : meth.locks = false) {N : Nat} {g : Gs} {x0 : Nat} {x1 : Int32} {vz : Int32} {dz : Ds} {z0 : Int32} {d : Ds} (hf : fX12_is_J25 N g x0 x1 z0 d = some (vz, dz)) : WB p l e rmX12_is s m args below meth c 2 D cy B 0 0 (MQ below (QI D cy B vz g dz) args s 0 0 (wA B)) g d [(0, .ref (ad B x0)), (1, .int x1)] 25 [.int z0] := by
  unfold fX12_is_J25 at hf
  obtain ⟨h3, hf⟩ := gd_s hf
  exact b_zret C hr hlocks h3 hf dX12_is_25
set_option maxRecDepth 100000 in
def fX12_is_J24 (N : Nat) (g : Gs) (x0 : Nat) (x1 : Int32) (d : Ds) : Option (Int32 × Ds) := fX12_is_J25 N g x0 x1 0 d
set_option maxHeartbeats 4000000 in
set_option maxRecDepth 100000 in
theorem tX12_is_24 {p : Program} {l : Launch} {e : Env} {s : State} {m : MethodId} {args : Array Value} {below : List Frame} {meth : Method} {c : Code} {D : va_G} {cy : Nat → ClassId} {B : Bs} (C : Cx p s m args c cX12_is 2 RX12 D cy B) (hr : meth.sig.returnType = (some .boolean)) (hlocks : meth.locks = false) {N : Nat} {g : Gs} {x0 : Nat} {x1 : Int32} {vz : Int32} {dz : Ds} {d : Ds} (hf : fX12_is_J24 N g x0 x1 d = some (vz, dz)) : WB p l e rmX12_is s m args below meth c 2 D cy B 0 0 (MQ below (QI D cy B vz g dz) args s 0 0 (wA B)) g d [(0, .ref (ad B x0)), (1, .int x1)] 24 [] := by
  unfold fX12_is_J24 at hf
  refine b_iconst C (v := 0) dX12_is_24 (by decide) ?_
  refine b_sub [(0, .ref (ad B x0)), (1, .int x1)] [0, 1] rfl ?_
  exact tX12_is_25 C hr hlocks hf
set_option maxRecDepth 100000 in
def fX12_is (N : Nat) (g : Gs) (x0 : Nat) (x1 : Int32) (d : Ds) : Option (Int32 × Ds) := gd (chk g x0 11) <| if (dI d x0 12) = 0 then (ob (gR g x0 5) fun r4 => (gd (chk g r4 102) <| gd (¬ ((dI d x0 11) < 0 ∨ gL g r4 ≤ (dI d x0 11).toNatClampNeg)) <| if (dI d r4 (dI d x0 11).toNatClampNeg) = x1 then (fX12_is_J25 N g x0 x1 1 d) else (fX12_is_J24 N g x0 x1 d))) else (fX12_is_J24 N g x0 x1 d)
set_option maxHeartbeats 4000000 in
set_option maxRecDepth 100000 in
theorem tX12_is_E {p : Program} {l : Launch} {e : Env} {s : State} {m : MethodId} {args : Array Value} {below : List Frame} {meth : Method} {c : Code} {D : va_G} {cy : Nat → ClassId} {B : Bs} (C : Cx p s m args c cX12_is 2 RX12 D cy B) (hr : meth.sig.returnType = (some .boolean)) (hlocks : meth.locks = false) {N : Nat} {g : Gs} {x0 : Nat} {x1 : Int32} {vz : Int32} {dz : Ds} {d : Ds} (hf : fX12_is N g x0 x1 d = some (vz, dz)) : WB p l e rmX12_is s m args below meth c 2 D cy B 0 0 (MQ below (QI D cy B vz g dz) args s 0 0 (wA B)) g d [(0, .ref (ad B x0)), (1, .int x1)] 0 [] := by
  unfold fX12_is at hf
  refine b_aload_n C dX12_is_0 0 rfl rfl ?_
  obtain ⟨h1, hf⟩ := gd_s hf
  refine b_gI C dX12_is_1 fl_X12_124 h1 ?_
  refine b_if_ne C (tgt := 24) dX12_is_4 (by decide) (fun c2 => ?_) (fun c2 => ?_)
  · have hf := if_s c2 hf
    refine b_sub [(0, .ref (ad B x0)), (1, .int x1)] [0, 1] rfl ?_
    exact tX12_is_24 C hr hlocks hf
  · have hf := it_s c2 hf
    refine b_aload_n C dX12_is_7 0 rfl rfl ?_
    obtain ⟨r4, er4, hf⟩ := ob_s hf
    refine b_gR C dX12_is_8 fl_X12_20 h1 er4 ?_
    refine b_aload_n C dX12_is_11 0 rfl rfl ?_
    refine b_gI C dX12_is_12 fl_X12_127 h1 ?_
    obtain ⟨h5, hf⟩ := gd_s hf
    obtain ⟨h6, hf⟩ := gd_s hf
    refine b_iald C h5 h6 dX12_is_15 ?_
    refine b_iload_n C dX12_is_16 1 rfl rfl ?_
    refine b_icmp_ne C (tgt := 24) dX12_is_17 (by decide) (fun c7 => ?_) (fun c7 => ?_)
    · have hf := if_s c7 hf
      refine b_sub [(0, .ref (ad B x0)), (1, .int x1)] [0, 1] rfl ?_
      exact tX12_is_24 C hr hlocks hf
    · have hf := it_s c7 hf
      refine b_iconst C (v := 1) dX12_is_20 (by decide) ?_
      refine b_goto C (tgt := 25) dX12_is_21 (by decide) ?_
      refine b_sub [(0, .ref (ad B x0)), (1, .int x1)] [0, 1] rfl ?_
      exact tX12_is_25 C hr hlocks hf
theorem kX12_is (l : Launch) (D : va_G) (cy : Nat → ClassId) (B : Bs) {N : Nat} {g : Gs} {x0 : Nat} {x1 : Int32} {vz : Int32} {dz : Ds} {d : Ds} (hf : fX12_is N g x0 x1 d = some (vz, dz)) : Met l yX12_is (.code yX12_is cX12_is 2 (some .boolean) :: wl) rmX12_is (PC D cy B [.ref (ad B x0), .int x1] g d) (QI D cy B vz g dz) 0 0 (wA B) :=
  met_of (by decide +kernel) (Nat.le_of_ble_eq_true rfl) (fun p e s m args below meth c C hr hlocks _ => b_sub [(0, .ref (ad B x0)), (1, .int x1)] [0, 1] rfl (tX12_is_E C hr hlocks hf))
/-! KeyMatrixModel.fail(I)V -/
theorem fp11_12 : FPI 11 12 := ⟨ft11, (RX12, TX12, 33), rfl, by decide +kernel, by decide +kernel⟩
theorem fl_X12_130 : FLI RX12 130 11 13 := ⟨⟨RX12, TX12, 33, rfl, by decide, inl11, Or.inl (mW (mT5 (List.mem_of_getElem? (i := 104) (by decide +kernel))) rfl)⟩, by decide, by decide +kernel⟩
theorem fp11_13 : FPI 11 13 := ⟨ft11, (RX12, TX12, 33), rfl, by decide +kernel, by decide +kernel⟩
theorem dX12_fail_0 : decode cX12_fail 0 = .ok (.aload_n 0, 1) := by decide +kernel
theorem dX12_fail_1 : decode cX12_fail 1 = .ok (.getfield 124, 3) := by decide +kernel
theorem dX12_fail_4 : decode cX12_fail 4 = .ok (.ifCond .le 4, 3) := by decide +kernel
theorem dX12_fail_7 : decode cX12_fail 7 = .ok (.return_, 1) := by decide +kernel
theorem dX12_fail_8 : decode cX12_fail 8 = .ok (.aload_n 0, 1) := by decide +kernel
theorem dX12_fail_9 : decode cX12_fail 9 = .ok (.iload_n 1, 1) := by decide +kernel
theorem dX12_fail_10 : decode cX12_fail 10 = .ok (.putfield 124, 3) := by decide +kernel
theorem dX12_fail_13 : decode cX12_fail 13 = .ok (.aload_n 0, 1) := by decide +kernel
theorem dX12_fail_14 : decode cX12_fail 14 = .ok (.aload_n 0, 1) := by decide +kernel
theorem dX12_fail_15 : decode cX12_fail 15 = .ok (.getfield 24, 3) := by decide +kernel
theorem dX12_fail_18 : decode cX12_fail 18 = .ok (.aload_n 0, 1) := by decide +kernel
theorem dX12_fail_19 : decode cX12_fail 19 = .ok (.getfield 127, 3) := by decide +kernel
theorem dX12_fail_22 : decode cX12_fail 22 = .ok (.iaload, 1) := by decide +kernel
theorem dX12_fail_23 : decode cX12_fail 23 = .ok (.putfield 130, 3) := by decide +kernel
theorem dX12_fail_26 : decode cX12_fail 26 = .ok (.return_, 1) := by decide +kernel
def rmX12_fail : Room := { frames := 0, cells := 0, slots := 0, locals := 0 }
set_option maxRecDepth 100000 in
def fX12_fail (N : Nat) (g : Gs) (x0 : Nat) (x1 : Int32) (d : Ds) : Option (Unit × Ds) := gd (chk g x0 11) <| if (dI d x0 12) ≤ 0 then (bd (sI d x0 12 x1) fun d3 => (ob (gR g x0 6) fun r4 => (gd (chk g r4 102) <| gd (¬ ((dI d3 x0 11) < 0 ∨ gL g r4 ≤ (dI d3 x0 11).toNatClampNeg)) <| bd (sI d3 x0 13 (dI d3 r4 (dI d3 x0 11).toNatClampNeg)) fun d7 => (some ((), d7))))) else (some ((), d))
set_option maxHeartbeats 4000000 in
set_option maxRecDepth 100000 in
theorem tX12_fail_E {p : Program} {l : Launch} {e : Env} {s : State} {m : MethodId} {args : Array Value} {below : List Frame} {meth : Method} {c : Code} {D : va_G} {cy : Nat → ClassId} {B : Bs} (C : Cx p s m args c cX12_fail 2 RX12 D cy B) (hr : meth.sig.returnType = none) (hlocks : meth.locks = false) {N : Nat} {g : Gs} {x0 : Nat} {x1 : Int32}  {dz : Ds} {d : Ds} (hf : fX12_fail N g x0 x1 d = some ((), dz)) : WB p l e rmX12_fail s m args below meth c 2 D cy B 0 0 (MQ below (QV D cy B g dz) args s 0 0 (wA B)) g d [(0, .ref (ad B x0)), (1, .int x1)] 0 [] := by
  unfold fX12_fail at hf
  refine b_aload_n C dX12_fail_0 0 rfl rfl ?_
  obtain ⟨h1, hf⟩ := gd_s hf
  refine b_gI C dX12_fail_1 fl_X12_124 h1 ?_
  refine b_if_le C (tgt := 8) dX12_fail_4 (by decide) (fun c2 => ?_) (fun c2 => ?_)
  · have hf := it_s c2 hf
    refine b_aload_n C dX12_fail_8 0 rfl rfl ?_
    refine b_iload_n C dX12_fail_9 1 rfl rfl ?_
    obtain ⟨d3, ed3, hf⟩ := bd_s hf
    refine b_pI C dX12_fail_10 fl_X12_124 fp11_12 h1 ed3 ?_
    refine b_aload_n C dX12_fail_13 0 rfl rfl ?_
    refine b_aload_n C dX12_fail_14 0 rfl rfl ?_
    obtain ⟨r4, er4, hf⟩ := ob_s hf
    refine b_gR C dX12_fail_15 fl_X12_24 h1 er4 ?_
    refine b_aload_n C dX12_fail_18 0 rfl rfl ?_
    refine b_gI C dX12_fail_19 fl_X12_127 h1 ?_
    obtain ⟨h5, hf⟩ := gd_s hf
    obtain ⟨h6, hf⟩ := gd_s hf
    refine b_iald C h5 h6 dX12_fail_22 ?_
    obtain ⟨d7, ed7, hf⟩ := bd_s hf
    refine b_pI C dX12_fail_23 fl_X12_130 fp11_13 h1 ed7 ?_
    exact b_vret C hr hlocks hf dX12_fail_26
  · have hf := if_s c2 hf
    exact b_vret C hr hlocks hf dX12_fail_7
theorem kX12_fail (l : Launch) (D : va_G) (cy : Nat → ClassId) (B : Bs) {N : Nat} {g : Gs} {x0 : Nat} {x1 : Int32}  {dz : Ds} {d : Ds} (hf : fX12_fail N g x0 x1 d = some ((), dz)) : Met l yX12_fail (.code yX12_fail cX12_fail 2 none :: wl) rmX12_fail (PC D cy B [.ref (ad B x0), .int x1] g d) (QV D cy B g dz) 0 0 (wA B) :=
  met_of (by decide +kernel) (Nat.le_of_ble_eq_true rfl) (fun p e s m args below meth c C hr hlocks _ => b_sub [(0, .ref (ad B x0)), (1, .int x1)] [0, 1] rfl (tX12_fail_E C hr hlocks hf))
/-! KeyMatrixModel.wrong(II)V -/
theorem fl_X12_133 : FLI RX12 133 11 14 := ⟨⟨RX12, TX12, 33, rfl, by decide, inl11, Or.inl (mW (mT5 (List.mem_of_getElem? (i := 105) (by decide +kernel))) rfl)⟩, by decide, by decide +kernel⟩
theorem fp11_14 : FPI 11 14 := ⟨ft11, (RX12, TX12, 33), rfl, by decide +kernel, by decide +kernel⟩
theorem fl_X12_136 : FLI RX12 136 11 15 := ⟨⟨RX12, TX12, 33, rfl, by decide, inl11, Or.inl (mW (mT5 (List.mem_of_getElem? (i := 106) (by decide +kernel))) rfl)⟩, by decide, by decide +kernel⟩
theorem fp11_15 : FPI 11 15 := ⟨ft11, (RX12, TX12, 33), rfl, by decide +kernel, by decide +kernel⟩
theorem dX12_wrong_0 : decode cX12_wrong 0 = .ok (.aload_n 0, 1) := by decide +kernel
theorem dX12_wrong_1 : decode cX12_wrong 1 = .ok (.getfield 24, 3) := by decide +kernel
theorem dX12_wrong_4 : decode cX12_wrong 4 = .ok (.iload_n 2, 1) := by decide +kernel
theorem dX12_wrong_5 : decode cX12_wrong 5 = .ok (.iaload, 1) := by decide +kernel
theorem dX12_wrong_6 : decode cX12_wrong 6 = .ok (.istore_n 3, 1) := by decide +kernel
theorem dX12_wrong_7 : decode cX12_wrong 7 = .ok (.aload_n 0, 1) := by decide +kernel
theorem dX12_wrong_8 : decode cX12_wrong 8 = .ok (.getfield 124, 3) := by decide +kernel
theorem dX12_wrong_11 : decode cX12_wrong 11 = .ok (.ifCond .gt 34, 3) := by decide +kernel
theorem dX12_wrong_14 : decode cX12_wrong 14 = .ok (.aload_n 0, 1) := by decide +kernel
theorem dX12_wrong_15 : decode cX12_wrong 15 = .ok (.getfield 133, 3) := by decide +kernel
theorem dX12_wrong_18 : decode cX12_wrong 18 = .ok (.ifCond .eq 28, 3) := by decide +kernel
theorem dX12_wrong_21 : decode cX12_wrong 21 = .ok (.iload_n 3, 1) := by decide +kernel
theorem dX12_wrong_22 : decode cX12_wrong 22 = .ok (.aload_n 0, 1) := by decide +kernel
theorem dX12_wrong_23 : decode cX12_wrong 23 = .ok (.getfield 136, 3) := by decide +kernel
theorem dX12_wrong_26 : decode cX12_wrong 26 = .ok (.if_icmp .gt 19, 3) := by decide +kernel
theorem dX12_wrong_29 : decode cX12_wrong 29 = .ok (.iload_n 3, 1) := by decide +kernel
theorem dX12_wrong_30 : decode cX12_wrong 30 = .ok (.aload_n 0, 1) := by decide +kernel
theorem dX12_wrong_31 : decode cX12_wrong 31 = .ok (.getfield 136, 3) := by decide +kernel
theorem dX12_wrong_34 : decode cX12_wrong 34 = .ok (.if_icmp .ne 12, 3) := by decide +kernel
theorem dX12_wrong_37 : decode cX12_wrong 37 = .ok (.iload_n 1, 1) := by decide +kernel
theorem dX12_wrong_38 : decode cX12_wrong 38 = .ok (.aload_n 0, 1) := by decide +kernel
theorem dX12_wrong_39 : decode cX12_wrong 39 = .ok (.getfield 133, 3) := by decide +kernel
theorem dX12_wrong_42 : decode cX12_wrong 42 = .ok (.if_icmp .lt 4, 3) := by decide +kernel
theorem dX12_wrong_45 : decode cX12_wrong 45 = .ok (.return_, 1) := by decide +kernel
theorem dX12_wrong_46 : decode cX12_wrong 46 = .ok (.aload_n 0, 1) := by decide +kernel
theorem dX12_wrong_47 : decode cX12_wrong 47 = .ok (.iload_n 1, 1) := by decide +kernel
theorem dX12_wrong_48 : decode cX12_wrong 48 = .ok (.putfield 133, 3) := by decide +kernel
theorem dX12_wrong_51 : decode cX12_wrong 51 = .ok (.aload_n 0, 1) := by decide +kernel
theorem dX12_wrong_52 : decode cX12_wrong 52 = .ok (.iload_n 3, 1) := by decide +kernel
theorem dX12_wrong_53 : decode cX12_wrong 53 = .ok (.putfield 136, 3) := by decide +kernel
theorem dX12_wrong_56 : decode cX12_wrong 56 = .ok (.return_, 1) := by decide +kernel
def rmX12_wrong : Room := { frames := 0, cells := 0, slots := 0, locals := 0 }
set_option maxRecDepth 100000 in
def fX12_wrong_J45 (N : Nat) (g : Gs) (x0 : Nat) (x1 : Int32) (x2 : Int32) (d : Ds) : Option (Unit × Ds) := some ((), d)
set_option maxHeartbeats 4000000 in
set_option maxRecDepth 100000 in
theorem tX12_wrong_45 {p : Program} {l : Launch} {e : Env} {s : State} {m : MethodId} {args : Array Value} {below : List Frame} {meth : Method} {c : Code} {D : va_G} {cy : Nat → ClassId} {B : Bs} (C : Cx p s m args c cX12_wrong 4 RX12 D cy B) (hr : meth.sig.returnType = none) (hlocks : meth.locks = false) {N : Nat} {g : Gs} {x0 : Nat} {x1 : Int32} {x2 : Int32}  {dz : Ds} {d : Ds} (hf : fX12_wrong_J45 N g x0 x1 x2 d = some ((), dz)) : WB p l e rmX12_wrong s m args below meth c 4 D cy B 0 0 (MQ below (QV D cy B g dz) args s 0 0 (wA B)) g d [(0, .ref (ad B x0)), (1, .int x1), (2, .int x2)] 45 [] := by
  unfold fX12_wrong_J45 at hf
  exact b_vret C hr hlocks hf dX12_wrong_45
set_option maxRecDepth 100000 in
def fX12_wrong_J46 (N : Nat) (g : Gs) (x0 : Nat) (x1 : Int32) (x2 : Int32) (y3 : Int32) (d : Ds) : Option (Unit × Ds) := gd (chk g x0 11) <| bd (sI d x0 14 x1) fun d9 => (bd (sI d9 x0 15 y3) fun d10 => (some ((), d10)))
set_option maxHeartbeats 4000000 in
set_option maxRecDepth 100000 in
theorem tX12_wrong_46 {p : Program} {l : Launch} {e : Env} {s : State} {m : MethodId} {args : Array Value} {below : List Frame} {meth : Method} {c : Code} {D : va_G} {cy : Nat → ClassId} {B : Bs} (C : Cx p s m args c cX12_wrong 4 RX12 D cy B) (hr : meth.sig.returnType = none) (hlocks : meth.locks = false) {N : Nat} {g : Gs} {x0 : Nat} {x1 : Int32} {x2 : Int32}  {dz : Ds} {y3 : Int32} {d : Ds} (hf : fX12_wrong_J46 N g x0 x1 x2 y3 d = some ((), dz)) : WB p l e rmX12_wrong s m args below meth c 4 D cy B 0 0 (MQ below (QV D cy B g dz) args s 0 0 (wA B)) g d [(0, .ref (ad B x0)), (1, .int x1), (2, .int x2), (3, .int y3)] 46 [] := by
  unfold fX12_wrong_J46 at hf
  refine b_aload_n C dX12_wrong_46 0 rfl rfl ?_
  refine b_iload_n C dX12_wrong_47 1 rfl rfl ?_
  obtain ⟨h8, hf⟩ := gd_s hf
  obtain ⟨d9, ed9, hf⟩ := bd_s hf
  refine b_pI C dX12_wrong_48 fl_X12_133 fp11_14 h8 ed9 ?_
  refine b_aload_n C dX12_wrong_51 0 rfl rfl ?_
  refine b_iload_n C dX12_wrong_52 3 rfl rfl ?_
  obtain ⟨d10, ed10, hf⟩ := bd_s hf
  refine b_pI C dX12_wrong_53 fl_X12_136 fp11_15 h8 ed10 ?_
  exact b_vret C hr hlocks hf dX12_wrong_56
set_option maxRecDepth 100000 in
def fX12_wrong (N : Nat) (g : Gs) (x0 : Nat) (x1 : Int32) (x2 : Int32) (d : Ds) : Option (Unit × Ds) := gd (chk g x0 11) <| ob (gR g x0 6) fun r2 => (gd (chk g r2 102) <| gd (¬ (x2 < 0 ∨ gL g r2 ≤ x2.toNatClampNeg)) <| bd ((dI d r2 x2.toNatClampNeg)) fun u5 => (if 0 < (dI d x0 12) then (fX12_wrong_J45 N g x0 x1 x2 d) else (if (dI d x0 14) = 0 then (fX12_wrong_J46 N g x0 x1 x2 u5 d) else (if (dI d x0 15) < u5 then (fX12_wrong_J45 N g x0 x1 x2 d) else (if u5 = (dI d x0 15) then (if x1 < (dI d x0 14) then (fX12_wrong_J46 N g x0 x1 x2 u5 d) else (fX12_wrong_J45 N g x0 x1 x2 d)) else (fX12_wrong_J46 N g x0 x1 x2 u5 d))))))
set_option maxHeartbeats 4000000 in
set_option maxRecDepth 100000 in
theorem tX12_wrong_E {p : Program} {l : Launch} {e : Env} {s : State} {m : MethodId} {args : Array Value} {below : List Frame} {meth : Method} {c : Code} {D : va_G} {cy : Nat → ClassId} {B : Bs} (C : Cx p s m args c cX12_wrong 4 RX12 D cy B) (hr : meth.sig.returnType = none) (hlocks : meth.locks = false) {N : Nat} {g : Gs} {x0 : Nat} {x1 : Int32} {x2 : Int32}  {dz : Ds} {d : Ds} (hf : fX12_wrong N g x0 x1 x2 d = some ((), dz)) : WB p l e rmX12_wrong s m args below meth c 4 D cy B 0 0 (MQ below (QV D cy B g dz) args s 0 0 (wA B)) g d [(0, .ref (ad B x0)), (1, .int x1), (2, .int x2)] 0 [] := by
  unfold fX12_wrong at hf
  refine b_aload_n C dX12_wrong_0 0 rfl rfl ?_
  obtain ⟨h1, hf⟩ := gd_s hf
  obtain ⟨r2, er2, hf⟩ := ob_s hf
  refine b_gR C dX12_wrong_1 fl_X12_24 h1 er2 ?_
  refine b_iload_n C dX12_wrong_4 2 rfl rfl ?_
  obtain ⟨h3, hf⟩ := gd_s hf
  obtain ⟨h4, hf⟩ := gd_s hf
  refine b_iald C h3 h4 dX12_wrong_5 ?_
  obtain ⟨u5, eu5, hf⟩ := bd_s hf
  refine b_topI eu5 ?_
  refine b_istore_n C dX12_wrong_6 rfl [(3, .int u5), (0, .ref (ad B x0)), (1, .int x1), (2, .int x2)] (by decide) rfl ?_
  refine b_aload_n C dX12_wrong_7 1 rfl rfl ?_
  refine b_gI C dX12_wrong_8 fl_X12_124 h1 ?_
  refine b_if_gt C (tgt := 45) dX12_wrong_11 (by decide) (fun c6 => ?_) (fun c6 => ?_)
  · have hf := it_s c6 hf
    refine b_sub [(0, .ref (ad B x0)), (1, .int x1), (2, .int x2)] [1, 2, 3] rfl ?_
    exact tX12_wrong_45 C hr hlocks hf
  · have hf := if_s c6 hf
    refine b_aload_n C dX12_wrong_14 1 rfl rfl ?_
    refine b_gI C dX12_wrong_15 fl_X12_133 h1 ?_
    refine b_if_eq C (tgt := 46) dX12_wrong_18 (by decide) (fun c7 => ?_) (fun c7 => ?_)
    · have hf := it_s c7 hf
      refine b_sub [(0, .ref (ad B x0)), (1, .int x1), (2, .int x2), (3, .int u5)] [1, 2, 3, 0] rfl ?_
      exact tX12_wrong_46 C hr hlocks hf
    · have hf := if_s c7 hf
      refine b_iload_n C dX12_wrong_21 0 rfl rfl ?_
      refine b_aload_n C dX12_wrong_22 1 rfl rfl ?_
      refine b_gI C dX12_wrong_23 fl_X12_136 h1 ?_
      refine b_icmp_gt C (tgt := 45) dX12_wrong_26 (by decide) (fun c11 => ?_) (fun c11 => ?_)
      · have hf := it_s c11 hf
        refine b_sub [(0, .ref (ad B x0)), (1, .int x1), (2, .int x2)] [1, 2, 3] rfl ?_
        exact tX12_wrong_45 C hr hlocks hf
      · have hf := if_s c11 hf
        refine b_iload_n C dX12_wrong_29 0 rfl rfl ?_
        refine b_aload_n C dX12_wrong_30 1 rfl rfl ?_
        refine b_gI C dX12_wrong_31 fl_X12_136 h1 ?_
        refine b_icmp_ne C (tgt := 46) dX12_wrong_34 (by decide) (fun c12 => ?_) (fun c12 => ?_)
        · have hf := if_s c12 hf
          refine b_sub [(0, .ref (ad B x0)), (1, .int x1), (2, .int x2), (3, .int u5)] [1, 2, 3, 0] rfl ?_
          exact tX12_wrong_46 C hr hlocks hf
        · have hf := it_s c12 hf
          refine b_iload_n C dX12_wrong_37 2 rfl rfl ?_
          refine b_aload_n C dX12_wrong_38 1 rfl rfl ?_
          refine b_gI C dX12_wrong_39 fl_X12_133 h1 ?_
          refine b_icmp_lt C (tgt := 46) dX12_wrong_42 (by decide) (fun c13 => ?_) (fun c13 => ?_)
          · have hf := it_s c13 hf
            refine b_sub [(0, .ref (ad B x0)), (1, .int x1), (2, .int x2), (3, .int u5)] [1, 2, 3, 0] rfl ?_
            exact tX12_wrong_46 C hr hlocks hf
          · have hf := if_s c13 hf
            refine b_sub [(0, .ref (ad B x0)), (1, .int x1), (2, .int x2)] [1, 2, 3] rfl ?_
            exact tX12_wrong_45 C hr hlocks hf
theorem kX12_wrong (l : Launch) (D : va_G) (cy : Nat → ClassId) (B : Bs) {N : Nat} {g : Gs} {x0 : Nat} {x1 : Int32} {x2 : Int32}  {dz : Ds} {d : Ds} (hf : fX12_wrong N g x0 x1 x2 d = some ((), dz)) : Met l yX12_wrong (.code yX12_wrong cX12_wrong 4 none :: wl) rmX12_wrong (PC D cy B [.ref (ad B x0), .int x1, .int x2] g d) (QV D cy B g dz) 0 0 (wA B) :=
  met_of (by decide +kernel) (Nat.le_of_ble_eq_true rfl) (fun p e s m args below meth c C hr hlocks _ => b_sub [(0, .ref (ad B x0)), (1, .int x1), (2, .int x2)] [0, 1, 2] rfl (tX12_wrong_E C hr hlocks hf))
/-! KeyMatrixModel.passes()V -/
theorem fp11_11 : FPI 11 11 := ⟨ft11, (RX12, TX12, 33), rfl, by decide +kernel, by decide +kernel⟩
theorem yo_X12_fail : yX12_fail.cls ≠ "java/lang/invoke/MethodHandle" ∧ yX12_fail.cls ≠ "java/lang/invoke/VarHandle" ∧ (parseMethodDescriptor yX12_fail.desc).map (fun d => d.parameters.length) = some 1 := by decide +kernel
theorem co_X12_fail : Cond.code yX12_fail cX12_fail 2 none ∈ wl := mW (mT6 (List.mem_of_getElem? (i := 6) (by decide +kernel))) rfl
theorem in_X12_fail : Cond.initialized yX12_fail.cls ∈ wl := mW (mT1 (List.mem_of_getElem? (i := 12) (by decide +kernel))) rfl
theorem im_X12_fail : Cond.instanceMethod yX12_fail ∈ wl := mW (mT6 (List.mem_of_getElem? (i := 5) (by decide +kernel))) rfl
theorem se_X12_fail : Cond.selects yX12_fail.cls yX12_fail yX12_fail ∈ wl := mW (mT0 (List.mem_of_getElem? (i := 40) (by decide +kernel))) rfl
theorem lv_X12_139 : LV RX12 139 yX12_fail cX12_fail 2 none 1 11 := ⟨⟨(RX12, TX12, 33), rfl, rfl⟩, yo_X12_fail, mW (mT6 (List.mem_of_getElem? (i := 3) (by decide +kernel))) rfl, im_X12_fail, se_X12_fail, in_X12_fail, co_X12_fail⟩
theorem dX12_passes_0 : decode cX12_passes 0 = .ok (.aload_n 0, 1) := by decide +kernel
theorem dX12_passes_1 : decode cX12_passes 1 = .ok (.getfield 127, 3) := by decide +kernel
theorem dX12_passes_4 : decode cX12_passes 4 = .ok (.sipush 400, 3) := by decide +kernel
theorem dX12_passes_7 : decode cX12_passes 7 = .ok (.if_icmp .ne 11, 3) := by decide +kernel
theorem dX12_passes_10 : decode cX12_passes 10 = .ok (.aload_n 0, 1) := by decide +kernel
theorem dX12_passes_11 : decode cX12_passes 11 = .ok (.iconst 2, 1) := by decide +kernel
theorem dX12_passes_12 : decode cX12_passes 12 = .ok (.invokevirtual 139, 3) := by decide +kernel
theorem dX12_passes_15 : decode cX12_passes 15 = .ok (.goto 13, 3) := by decide +kernel
theorem dX12_passes_18 : decode cX12_passes 18 = .ok (.aload_n 0, 1) := by decide +kernel
theorem dX12_passes_19 : decode cX12_passes 19 = .ok (.dup, 1) := by decide +kernel
theorem dX12_passes_20 : decode cX12_passes 20 = .ok (.getfield 127, 3) := by decide +kernel
theorem dX12_passes_23 : decode cX12_passes 23 = .ok (.iconst 1, 1) := by decide +kernel
theorem dX12_passes_24 : decode cX12_passes 24 = .ok (.iadd, 1) := by decide +kernel
theorem dX12_passes_25 : decode cX12_passes 25 = .ok (.putfield 127, 3) := by decide +kernel
theorem dX12_passes_28 : decode cX12_passes 28 = .ok (.return_, 1) := by decide +kernel
def rmX12_passes : Room := { frames := 1, cells := 0, slots := 0, locals := 21 }
set_option maxRecDepth 100000 in
def fX12_passes_J28 (N : Nat) (g : Gs) (x0 : Nat) (d : Ds) : Option (Unit × Ds) := some ((), d)
set_option maxHeartbeats 4000000 in
set_option maxRecDepth 100000 in
theorem tX12_passes_28 {p : Program} {l : Launch} {e : Env} {s : State} {m : MethodId} {args : Array Value} {below : List Frame} {meth : Method} {c : Code} {D : va_G} {cy : Nat → ClassId} {B : Bs} (C : Cx p s m args c cX12_passes 1 RX12 D cy B) (hr : meth.sig.returnType = none) (hlocks : meth.locks = false) {N : Nat} {g : Gs} {x0 : Nat}  {dz : Ds} {d : Ds} (hf : fX12_passes_J28 N g x0 d = some ((), dz)) : WB p l e rmX12_passes s m args below meth c 1 D cy B 0 0 (MQ below (QV D cy B g dz) args s 0 0 (wA B)) g d [(0, .ref (ad B x0))] 28 [] := by
  unfold fX12_passes_J28 at hf
  exact b_vret C hr hlocks hf dX12_passes_28
set_option maxRecDepth 100000 in
def fX12_passes (N : Nat) (g : Gs) (x0 : Nat) (d : Ds) : Option (Unit × Ds) := gd (chk g x0 11) <| if (dI d x0 11) = (400 : Int32) then (cv (fX12_fail N g x0 2 d) fun d4 => (fX12_passes_J28 N g x0 d4)) else (bd (sI d x0 11 ((dI d x0 11) + 1)) fun d3 => (fX12_passes_J28 N g x0 d3))
set_option maxHeartbeats 4000000 in
set_option maxRecDepth 100000 in
theorem tX12_passes_E {p : Program} {l : Launch} {e : Env} {s : State} {m : MethodId} {args : Array Value} {below : List Frame} {meth : Method} {c : Code} {D : va_G} {cy : Nat → ClassId} {B : Bs} (C : Cx p s m args c cX12_passes 1 RX12 D cy B) (hr : meth.sig.returnType = none) (hlocks : meth.locks = false) {N : Nat} {g : Gs} {x0 : Nat}  {dz : Ds} {d : Ds} (hf : fX12_passes N g x0 d = some ((), dz)) : WB p l e rmX12_passes s m args below meth c 1 D cy B 0 0 (MQ below (QV D cy B g dz) args s 0 0 (wA B)) g d [(0, .ref (ad B x0))] 0 [] := by
  unfold fX12_passes at hf
  refine b_aload_n C dX12_passes_0 0 rfl rfl ?_
  obtain ⟨h1, hf⟩ := gd_s hf
  refine b_gI C dX12_passes_1 fl_X12_127 h1 ?_
  refine b_sipush C (v := 400) dX12_passes_4 (by decide) ?_
  refine b_icmp_ne C (tgt := 18) dX12_passes_7 (by decide) (fun c2 => ?_) (fun c2 => ?_)
  · have hf := if_s c2 hf
    refine b_aload_n C dX12_passes_18 0 rfl rfl ?_
    refine b_dup C dX12_passes_19 rfl ?_
    refine b_gI C dX12_passes_20 fl_X12_127 h1 ?_
    refine b_iconst C (v := 1) dX12_passes_23 (by decide) ?_
    refine b_iadd C dX12_passes_24 ?_
    obtain ⟨d3, ed3, hf⟩ := bd_s hf
    refine b_pI C dX12_passes_25 fl_X12_127 fp11_11 h1 ed3 ?_
    refine b_sub [(0, .ref (ad B x0))] [0] rfl ?_
    exact tX12_passes_28 C hr hlocks hf
  · have hf := it_s c2 hf
    refine b_aload_n C dX12_passes_10 0 rfl rfl ?_
    refine b_iconst C (v := 2) dX12_passes_11 (by decide) ?_
    obtain ⟨d4, k5, hf⟩ := cv_s hf
    refine b_cVN C [] dX12_passes_12 (kX12_fail l D cy B k5) lv_X12_139 ⟨rfl, rfl, Nat.le_of_ble_eq_true rfl, Nat.le_of_ble_eq_true rfl⟩ h1 (by decide) rfl (Nat.le_of_ble_eq_true rfl) ⟨Nat.zero_le _, Nat.zero_le _⟩ rfl ?_
    refine b_goto C (tgt := 28) dX12_passes_15 (by decide) ?_
    refine b_sub [(0, .ref (ad B x0))] [0] rfl ?_
    exact tX12_passes_28 C hr hlocks hf
theorem kX12_passes (l : Launch) (D : va_G) (cy : Nat → ClassId) (B : Bs) {N : Nat} {g : Gs} {x0 : Nat}  {dz : Ds} {d : Ds} (hf : fX12_passes N g x0 d = some ((), dz)) : Met l yX12_passes (.code yX12_passes cX12_passes 1 none :: wl) rmX12_passes (PC D cy B [.ref (ad B x0)] g d) (QV D cy B g dz) 0 0 (wA B) :=
  met_of (by decide +kernel) (Nat.le_of_ble_eq_true rfl) (fun p e s m args below meth c C hr hlocks _ => b_sub [(0, .ref (ad B x0))] [0] rfl (tX12_passes_E C hr hlocks hf))
/-! KeyMatrixModel.must(I)V -/
theorem yo_X12_is : yX12_is.cls ≠ "java/lang/invoke/MethodHandle" ∧ yX12_is.cls ≠ "java/lang/invoke/VarHandle" ∧ (parseMethodDescriptor yX12_is.desc).map (fun d => d.parameters.length) = some 1 := by decide +kernel
theorem co_X12_is : Cond.code yX12_is cX12_is 2 (some .boolean) ∈ wl := mW (mT5 (List.mem_of_getElem? (i := 238) (by decide +kernel))) rfl
theorem in_X12_is : Cond.initialized yX12_is.cls ∈ wl := mW (mT1 (List.mem_of_getElem? (i := 12) (by decide +kernel))) rfl
theorem im_X12_is : Cond.instanceMethod yX12_is ∈ wl := mW (mT5 (List.mem_of_getElem? (i := 237) (by decide +kernel))) rfl
theorem se_X12_is : Cond.selects yX12_is.cls yX12_is yX12_is ∈ wl := mW (mT0 (List.mem_of_getElem? (i := 38) (by decide +kernel))) rfl
theorem lv_X12_142 : LV RX12 142 yX12_is cX12_is 2 (some .boolean) 1 11 := ⟨⟨(RX12, TX12, 33), rfl, rfl⟩, yo_X12_is, mW (mT5 (List.mem_of_getElem? (i := 235) (by decide +kernel))) rfl, im_X12_is, se_X12_is, in_X12_is, co_X12_is⟩
theorem yo_X12_passes : yX12_passes.cls ≠ "java/lang/invoke/MethodHandle" ∧ yX12_passes.cls ≠ "java/lang/invoke/VarHandle" ∧ (parseMethodDescriptor yX12_passes.desc).map (fun d => d.parameters.length) = some 0 := by decide +kernel
theorem co_X12_passes : Cond.code yX12_passes cX12_passes 1 none ∈ wl := mW (mT6 (List.mem_of_getElem? (i := 2) (by decide +kernel))) rfl
theorem in_X12_passes : Cond.initialized yX12_passes.cls ∈ wl := mW (mT1 (List.mem_of_getElem? (i := 12) (by decide +kernel))) rfl
theorem im_X12_passes : Cond.instanceMethod yX12_passes ∈ wl := mW (mT6 (List.mem_of_getElem? (i := 1) (by decide +kernel))) rfl
theorem se_X12_passes : Cond.selects yX12_passes.cls yX12_passes yX12_passes ∈ wl := mW (mT0 (List.mem_of_getElem? (i := 39) (by decide +kernel))) rfl
theorem lv_X12_145 : LV RX12 145 yX12_passes cX12_passes 1 none 0 11 := ⟨⟨(RX12, TX12, 33), rfl, rfl⟩, yo_X12_passes, mW (mT5 (List.mem_of_getElem? (i := 239) (by decide +kernel))) rfl, im_X12_passes, se_X12_passes, in_X12_passes, co_X12_passes⟩
theorem dX12_must_0 : decode cX12_must 0 = .ok (.aload_n 0, 1) := by decide +kernel
theorem dX12_must_1 : decode cX12_must 1 = .ok (.iload_n 1, 1) := by decide +kernel
theorem dX12_must_2 : decode cX12_must 2 = .ok (.invokevirtual 142, 3) := by decide +kernel
theorem dX12_must_5 : decode cX12_must 5 = .ok (.ifCond .eq 10, 3) := by decide +kernel
theorem dX12_must_8 : decode cX12_must 8 = .ok (.aload_n 0, 1) := by decide +kernel
theorem dX12_must_9 : decode cX12_must 9 = .ok (.invokevirtual 145, 3) := by decide +kernel
theorem dX12_must_12 : decode cX12_must 12 = .ok (.goto 8, 3) := by decide +kernel
theorem dX12_must_15 : decode cX12_must 15 = .ok (.aload_n 0, 1) := by decide +kernel
theorem dX12_must_16 : decode cX12_must 16 = .ok (.iconst 1, 1) := by decide +kernel
theorem dX12_must_17 : decode cX12_must 17 = .ok (.invokevirtual 139, 3) := by decide +kernel
theorem dX12_must_20 : decode cX12_must 20 = .ok (.return_, 1) := by decide +kernel
def rmX12_must : Room := { frames := 2, cells := 0, slots := 0, locals := 41 }
set_option maxRecDepth 100000 in
def fX12_must_J20 (N : Nat) (g : Gs) (x0 : Nat) (x1 : Int32) (d : Ds) : Option (Unit × Ds) := some ((), d)
set_option maxHeartbeats 4000000 in
set_option maxRecDepth 100000 in
theorem tX12_must_20 {p : Program} {l : Launch} {e : Env} {s : State} {m : MethodId} {args : Array Value} {below : List Frame} {meth : Method} {c : Code} {D : va_G} {cy : Nat → ClassId} {B : Bs} (C : Cx p s m args c cX12_must 2 RX12 D cy B) (hr : meth.sig.returnType = none) (hlocks : meth.locks = false) {N : Nat} {g : Gs} {x0 : Nat} {x1 : Int32}  {dz : Ds} {d : Ds} (hf : fX12_must_J20 N g x0 x1 d = some ((), dz)) : WB p l e rmX12_must s m args below meth c 2 D cy B 0 0 (MQ below (QV D cy B g dz) args s 0 0 (wA B)) g d [(0, .ref (ad B x0)), (1, .int x1)] 20 [] := by
  unfold fX12_must_J20 at hf
  exact b_vret C hr hlocks hf dX12_must_20
set_option maxRecDepth 100000 in
def fX12_must (N : Nat) (g : Gs) (x0 : Nat) (x1 : Int32) (d : Ds) : Option (Unit × Ds) := gd (chk g x0 11) <| cb (fX12_is N g x0 x1 d) fun u4 d2 => (if u4 = 0 then (cv (fX12_fail N g x0 1 d2) fun d6 => (fX12_must_J20 N g x0 x1 d6)) else (cv (fX12_passes N g x0 d2) fun d8 => (fX12_must_J20 N g x0 x1 d8)))
set_option maxHeartbeats 4000000 in
set_option maxRecDepth 100000 in
theorem tX12_must_E {p : Program} {l : Launch} {e : Env} {s : State} {m : MethodId} {args : Array Value} {below : List Frame} {meth : Method} {c : Code} {D : va_G} {cy : Nat → ClassId} {B : Bs} (C : Cx p s m args c cX12_must 2 RX12 D cy B) (hr : meth.sig.returnType = none) (hlocks : meth.locks = false) {N : Nat} {g : Gs} {x0 : Nat} {x1 : Int32}  {dz : Ds} {d : Ds} (hf : fX12_must N g x0 x1 d = some ((), dz)) : WB p l e rmX12_must s m args below meth c 2 D cy B 0 0 (MQ below (QV D cy B g dz) args s 0 0 (wA B)) g d [(0, .ref (ad B x0)), (1, .int x1)] 0 [] := by
  unfold fX12_must at hf
  refine b_aload_n C dX12_must_0 0 rfl rfl ?_
  refine b_iload_n C dX12_must_1 1 rfl rfl ?_
  obtain ⟨h1, hf⟩ := gd_s hf
  obtain ⟨u4, d2, k3, hf⟩ := cb_s hf
  refine b_cVI C [] dX12_must_2 (kX12_is l D cy B k3) lv_X12_142 ⟨rfl, rfl, Nat.le_of_ble_eq_true rfl, Nat.le_of_ble_eq_true rfl⟩ h1 (by decide) rfl (Nat.le_of_ble_eq_true rfl) ⟨Nat.zero_le _, Nat.zero_le _⟩ rfl ?_
  refine b_if_eq C (tgt := 15) dX12_must_5 (by decide) (fun c5 => ?_) (fun c5 => ?_)
  · have hf := it_s c5 hf
    refine b_aload_n C dX12_must_15 0 rfl rfl ?_
    refine b_iconst C (v := 1) dX12_must_16 (by decide) ?_
    obtain ⟨d6, k7, hf⟩ := cv_s hf
    refine b_cVN C [] dX12_must_17 (kX12_fail l D cy B k7) lv_X12_139 ⟨rfl, rfl, Nat.le_of_ble_eq_true rfl, Nat.le_of_ble_eq_true rfl⟩ h1 (by decide) rfl (Nat.le_of_ble_eq_true rfl) ⟨Nat.zero_le _, Nat.zero_le _⟩ rfl ?_
    refine b_sub [(0, .ref (ad B x0)), (1, .int x1)] [0, 1] rfl ?_
    exact tX12_must_20 C hr hlocks hf
  · have hf := if_s c5 hf
    refine b_aload_n C dX12_must_8 0 rfl rfl ?_
    obtain ⟨d8, k9, hf⟩ := cv_s hf
    refine b_cVN C [] dX12_must_9 (kX12_passes l D cy B k9) lv_X12_145 ⟨rfl, rfl, Nat.le_of_ble_eq_true rfl, Nat.le_of_ble_eq_true rfl⟩ h1 (by decide) rfl (Nat.le_of_ble_eq_true rfl) ⟨Nat.zero_le _, Nat.zero_le _⟩ rfl ?_
    refine b_goto C (tgt := 20) dX12_must_12 (by decide) ?_
    refine b_sub [(0, .ref (ad B x0)), (1, .int x1)] [0, 1] rfl ?_
    exact tX12_must_20 C hr hlocks hf
theorem kX12_must (l : Launch) (D : va_G) (cy : Nat → ClassId) (B : Bs) {N : Nat} {g : Gs} {x0 : Nat} {x1 : Int32}  {dz : Ds} {d : Ds} (hf : fX12_must N g x0 x1 d = some ((), dz)) : Met l yX12_must (.code yX12_must cX12_must 2 none :: wl) rmX12_must (PC D cy B [.ref (ad B x0), .int x1] g d) (QV D cy B g dz) 0 0 (wA B) :=
  met_of (by decide +kernel) (Nat.le_of_ble_eq_true rfl) (fun p e s m args below meth c C hr hlocks _ => b_sub [(0, .ref (ad B x0)), (1, .int x1)] [0, 1] rfl (tX12_must_E C hr hlocks hf))
/-! KeyMatrixModel.deedRead()V -/
theorem yo_X12_must : yX12_must.cls ≠ "java/lang/invoke/MethodHandle" ∧ yX12_must.cls ≠ "java/lang/invoke/VarHandle" ∧ (parseMethodDescriptor yX12_must.desc).map (fun d => d.parameters.length) = some 1 := by decide +kernel
theorem co_X12_must : Cond.code yX12_must cX12_must 2 none ∈ wl := mW (mT5 (List.mem_of_getElem? (i := 234) (by decide +kernel))) rfl
theorem in_X12_must : Cond.initialized yX12_must.cls ∈ wl := mW (mT1 (List.mem_of_getElem? (i := 12) (by decide +kernel))) rfl
theorem im_X12_must : Cond.instanceMethod yX12_must ∈ wl := mW (mT5 (List.mem_of_getElem? (i := 233) (by decide +kernel))) rfl
theorem se_X12_must : Cond.selects yX12_must.cls yX12_must yX12_must ∈ wl := mW (mT0 (List.mem_of_getElem? (i := 37) (by decide +kernel))) rfl
theorem lv_X12_157 : LV RX12 157 yX12_must cX12_must 2 none 1 11 := ⟨⟨(RX12, TX12, 33), rfl, rfl⟩, yo_X12_must, mW (mT5 (List.mem_of_getElem? (i := 231) (by decide +kernel))) rfl, im_X12_must, se_X12_must, in_X12_must, co_X12_must⟩
theorem dX12_deedRead_0 : decode cX12_deedRead 0 = .ok (.aload_n 0, 1) := by decide +kernel
theorem dX12_deedRead_1 : decode cX12_deedRead 1 = .ok (.getfield 124, 3) := by decide +kernel
theorem dX12_deedRead_4 : decode cX12_deedRead 4 = .ok (.ifCond .ne 15, 3) := by decide +kernel
theorem dX12_deedRead_7 : decode cX12_deedRead 7 = .ok (.aload_n 0, 1) := by decide +kernel
theorem dX12_deedRead_8 : decode cX12_deedRead 8 = .ok (.getfield 20, 3) := by decide +kernel
theorem dX12_deedRead_11 : decode cX12_deedRead 11 = .ok (.aload_n 0, 1) := by decide +kernel
theorem dX12_deedRead_12 : decode cX12_deedRead 12 = .ok (.getfield 127, 3) := by decide +kernel
theorem dX12_deedRead_15 : decode cX12_deedRead 15 = .ok (.iaload, 1) := by decide +kernel
theorem dX12_deedRead_16 : decode cX12_deedRead 16 = .ok (.goto 4, 3) := by decide +kernel
theorem dX12_deedRead_19 : decode cX12_deedRead 19 = .ok (.iconst 0, 1) := by decide +kernel
theorem dX12_deedRead_20 : decode cX12_deedRead 20 = .ok (.istore_n 1, 1) := by decide +kernel
theorem dX12_deedRead_21 : decode cX12_deedRead 21 = .ok (.iload_n 1, 1) := by decide +kernel
theorem dX12_deedRead_22 : decode cX12_deedRead 22 = .ok (.bipush 31, 2) := by decide +kernel
theorem dX12_deedRead_24 : decode cX12_deedRead 24 = .ok (.if_icmp .lt 9, 3) := by decide +kernel
theorem dX12_deedRead_27 : decode cX12_deedRead 27 = .ok (.iload_n 1, 1) := by decide +kernel
theorem dX12_deedRead_28 : decode cX12_deedRead 28 = .ok (.bipush 39, 2) := by decide +kernel
theorem dX12_deedRead_30 : decode cX12_deedRead 30 = .ok (.if_icmp .le 9, 3) := by decide +kernel
theorem dX12_deedRead_33 : decode cX12_deedRead 33 = .ok (.aload_n 0, 1) := by decide +kernel
theorem dX12_deedRead_34 : decode cX12_deedRead 34 = .ok (.iconst 1, 1) := by decide +kernel
theorem dX12_deedRead_35 : decode cX12_deedRead 35 = .ok (.invokevirtual 139, 3) := by decide +kernel
theorem dX12_deedRead_38 : decode cX12_deedRead 38 = .ok (.return_, 1) := by decide +kernel
theorem dX12_deedRead_39 : decode cX12_deedRead 39 = .ok (.aload_n 0, 1) := by decide +kernel
theorem dX12_deedRead_40 : decode cX12_deedRead 40 = .ok (.invokevirtual 145, 3) := by decide +kernel
theorem dX12_deedRead_43 : decode cX12_deedRead 43 = .ok (.iload_n 1, 1) := by decide +kernel
theorem dX12_deedRead_44 : decode cX12_deedRead 44 = .ok (.bipush 35, 2) := by decide +kernel
theorem dX12_deedRead_46 : decode cX12_deedRead 46 = .ok (.if_icmp .eq 9, 3) := by decide +kernel
theorem dX12_deedRead_49 : decode cX12_deedRead 49 = .ok (.iload_n 1, 1) := by decide +kernel
theorem dX12_deedRead_50 : decode cX12_deedRead 50 = .ok (.bipush 36, 2) := by decide +kernel
theorem dX12_deedRead_52 : decode cX12_deedRead 52 = .ok (.if_icmp .ne 4, 3) := by decide +kernel
theorem dX12_deedRead_55 : decode cX12_deedRead 55 = .ok (.return_, 1) := by decide +kernel
theorem dX12_deedRead_56 : decode cX12_deedRead 56 = .ok (.aload_n 0, 1) := by decide +kernel
theorem dX12_deedRead_57 : decode cX12_deedRead 57 = .ok (.iconst 2, 1) := by decide +kernel
theorem dX12_deedRead_58 : decode cX12_deedRead 58 = .ok (.invokevirtual 157, 3) := by decide +kernel
theorem dX12_deedRead_61 : decode cX12_deedRead 61 = .ok (.iload_n 1, 1) := by decide +kernel
theorem dX12_deedRead_62 : decode cX12_deedRead 62 = .ok (.bipush 38, 2) := by decide +kernel
theorem dX12_deedRead_64 : decode cX12_deedRead 64 = .ok (.if_icmp .ne 8, 3) := by decide +kernel
theorem dX12_deedRead_67 : decode cX12_deedRead 67 = .ok (.aload_n 0, 1) := by decide +kernel
theorem dX12_deedRead_68 : decode cX12_deedRead 68 = .ok (.iconst 2, 1) := by decide +kernel
theorem dX12_deedRead_69 : decode cX12_deedRead 69 = .ok (.invokevirtual 157, 3) := by decide +kernel
theorem dX12_deedRead_72 : decode cX12_deedRead 72 = .ok (.iload_n 1, 1) := by decide +kernel
theorem dX12_deedRead_73 : decode cX12_deedRead 73 = .ok (.bipush 37, 2) := by decide +kernel
theorem dX12_deedRead_75 : decode cX12_deedRead 75 = .ok (.if_icmp .eq 4, 3) := by decide +kernel
theorem dX12_deedRead_78 : decode cX12_deedRead 78 = .ok (.return_, 1) := by decide +kernel
theorem dX12_deedRead_79 : decode cX12_deedRead 79 = .ok (.aload_n 0, 1) := by decide +kernel
theorem dX12_deedRead_80 : decode cX12_deedRead 80 = .ok (.bipush 33, 2) := by decide +kernel
theorem dX12_deedRead_82 : decode cX12_deedRead 82 = .ok (.invokevirtual 142, 3) := by decide +kernel
theorem dX12_deedRead_85 : decode cX12_deedRead 85 = .ok (.ifCond .ne 12, 3) := by decide +kernel
theorem dX12_deedRead_88 : decode cX12_deedRead 88 = .ok (.aload_n 0, 1) := by decide +kernel
theorem dX12_deedRead_89 : decode cX12_deedRead 89 = .ok (.bipush 32, 2) := by decide +kernel
theorem dX12_deedRead_91 : decode cX12_deedRead 91 = .ok (.invokevirtual 142, 3) := by decide +kernel
theorem dX12_deedRead_94 : decode cX12_deedRead 94 = .ok (.ifCond .eq 10, 3) := by decide +kernel
theorem dX12_deedRead_97 : decode cX12_deedRead 97 = .ok (.aload_n 0, 1) := by decide +kernel
theorem dX12_deedRead_98 : decode cX12_deedRead 98 = .ok (.invokevirtual 145, 3) := by decide +kernel
theorem dX12_deedRead_101 : decode cX12_deedRead 101 = .ok (.goto 8, 3) := by decide +kernel
theorem dX12_deedRead_104 : decode cX12_deedRead 104 = .ok (.aload_n 0, 1) := by decide +kernel
theorem dX12_deedRead_105 : decode cX12_deedRead 105 = .ok (.iconst 1, 1) := by decide +kernel
theorem dX12_deedRead_106 : decode cX12_deedRead 106 = .ok (.invokevirtual 139, 3) := by decide +kernel
theorem dX12_deedRead_109 : decode cX12_deedRead 109 = .ok (.aload_n 0, 1) := by decide +kernel
theorem dX12_deedRead_110 : decode cX12_deedRead 110 = .ok (.iconst 2, 1) := by decide +kernel
theorem dX12_deedRead_111 : decode cX12_deedRead 111 = .ok (.invokevirtual 157, 3) := by decide +kernel
theorem dX12_deedRead_114 : decode cX12_deedRead 114 = .ok (.return_, 1) := by decide +kernel
def rmX12_deedRead : Room := { frames := 3, cells := 0, slots := 0, locals := 62 }
set_option maxRecDepth 100000 in
def fX12_deedRead_J33 (N : Nat) (g : Gs) (x0 : Nat) (d : Ds) : Option (Unit × Ds) := gd (chk g x0 11) <| cv (fX12_fail N g x0 1 d) fun d5 => (some ((), d5))
set_option maxHeartbeats 4000000 in
set_option maxRecDepth 100000 in
theorem tX12_deedRead_33 {p : Program} {l : Launch} {e : Env} {s : State} {m : MethodId} {args : Array Value} {below : List Frame} {meth : Method} {c : Code} {D : va_G} {cy : Nat → ClassId} {B : Bs} (C : Cx p s m args c cX12_deedRead 2 RX12 D cy B) (hr : meth.sig.returnType = none) (hlocks : meth.locks = false) {N : Nat} {g : Gs} {x0 : Nat}  {dz : Ds} {d : Ds} (hf : fX12_deedRead_J33 N g x0 d = some ((), dz)) : WB p l e rmX12_deedRead s m args below meth c 2 D cy B 0 0 (MQ below (QV D cy B g dz) args s 0 0 (wA B)) g d [(0, .ref (ad B x0))] 33 [] := by
  unfold fX12_deedRead_J33 at hf
  refine b_aload_n C dX12_deedRead_33 0 rfl rfl ?_
  refine b_iconst C (v := 1) dX12_deedRead_34 (by decide) ?_
  obtain ⟨h4, hf⟩ := gd_s hf
  obtain ⟨d5, k6, hf⟩ := cv_s hf
  refine b_cVN C [] dX12_deedRead_35 (kX12_fail l D cy B k6) lv_X12_139 ⟨rfl, rfl, Nat.le_of_ble_eq_true rfl, Nat.le_of_ble_eq_true rfl⟩ h4 (by decide) rfl (Nat.le_of_ble_eq_true rfl) ⟨Nat.zero_le _, Nat.zero_le _⟩ rfl ?_
  exact b_vret C hr hlocks hf dX12_deedRead_38
set_option maxRecDepth 100000 in
def fX12_deedRead_J55 (N : Nat) (g : Gs) (x0 : Nat) (d : Ds) : Option (Unit × Ds) := some ((), d)
set_option maxHeartbeats 4000000 in
set_option maxRecDepth 100000 in
theorem tX12_deedRead_55 {p : Program} {l : Launch} {e : Env} {s : State} {m : MethodId} {args : Array Value} {below : List Frame} {meth : Method} {c : Code} {D : va_G} {cy : Nat → ClassId} {B : Bs} (C : Cx p s m args c cX12_deedRead 2 RX12 D cy B) (hr : meth.sig.returnType = none) (hlocks : meth.locks = false) {N : Nat} {g : Gs} {x0 : Nat}  {dz : Ds} {d : Ds} (hf : fX12_deedRead_J55 N g x0 d = some ((), dz)) : WB p l e rmX12_deedRead s m args below meth c 2 D cy B 0 0 (MQ below (QV D cy B g dz) args s 0 0 (wA B)) g d [(0, .ref (ad B x0))] 55 [] := by
  unfold fX12_deedRead_J55 at hf
  exact b_vret C hr hlocks hf dX12_deedRead_55
set_option maxRecDepth 100000 in
def fX12_deedRead_J109 (N : Nat) (g : Gs) (x0 : Nat) (d : Ds) : Option (Unit × Ds) := gd (chk g x0 11) <| cv (fX12_must N g x0 2 d) fun d26 => (some ((), d26))
set_option maxHeartbeats 4000000 in
set_option maxRecDepth 100000 in
theorem tX12_deedRead_109 {p : Program} {l : Launch} {e : Env} {s : State} {m : MethodId} {args : Array Value} {below : List Frame} {meth : Method} {c : Code} {D : va_G} {cy : Nat → ClassId} {B : Bs} (C : Cx p s m args c cX12_deedRead 2 RX12 D cy B) (hr : meth.sig.returnType = none) (hlocks : meth.locks = false) {N : Nat} {g : Gs} {x0 : Nat}  {dz : Ds} {d : Ds} (hf : fX12_deedRead_J109 N g x0 d = some ((), dz)) : WB p l e rmX12_deedRead s m args below meth c 2 D cy B 0 0 (MQ below (QV D cy B g dz) args s 0 0 (wA B)) g d [(0, .ref (ad B x0))] 109 [] := by
  unfold fX12_deedRead_J109 at hf
  refine b_aload_n C dX12_deedRead_109 0 rfl rfl ?_
  refine b_iconst C (v := 2) dX12_deedRead_110 (by decide) ?_
  obtain ⟨h25, hf⟩ := gd_s hf
  obtain ⟨d26, k27, hf⟩ := cv_s hf
  refine b_cVN C [] dX12_deedRead_111 (kX12_must l D cy B k27) lv_X12_157 ⟨rfl, rfl, Nat.le_of_ble_eq_true rfl, Nat.le_of_ble_eq_true rfl⟩ h25 (by decide) rfl (Nat.le_of_ble_eq_true rfl) ⟨Nat.zero_le _, Nat.zero_le _⟩ rfl ?_
  exact b_vret C hr hlocks hf dX12_deedRead_114
set_option maxRecDepth 100000 in
def fX12_deedRead_J97 (N : Nat) (g : Gs) (x0 : Nat) (d : Ds) : Option (Unit × Ds) := gd (chk g x0 11) <| cv (fX12_passes N g x0 d) fun d23 => (fX12_deedRead_J109 N g x0 d23)
set_option maxHeartbeats 4000000 in
set_option maxRecDepth 100000 in
theorem tX12_deedRead_97 {p : Program} {l : Launch} {e : Env} {s : State} {m : MethodId} {args : Array Value} {below : List Frame} {meth : Method} {c : Code} {D : va_G} {cy : Nat → ClassId} {B : Bs} (C : Cx p s m args c cX12_deedRead 2 RX12 D cy B) (hr : meth.sig.returnType = none) (hlocks : meth.locks = false) {N : Nat} {g : Gs} {x0 : Nat}  {dz : Ds} {d : Ds} (hf : fX12_deedRead_J97 N g x0 d = some ((), dz)) : WB p l e rmX12_deedRead s m args below meth c 2 D cy B 0 0 (MQ below (QV D cy B g dz) args s 0 0 (wA B)) g d [(0, .ref (ad B x0))] 97 [] := by
  unfold fX12_deedRead_J97 at hf
  refine b_aload_n C dX12_deedRead_97 0 rfl rfl ?_
  obtain ⟨h22, hf⟩ := gd_s hf
  obtain ⟨d23, k24, hf⟩ := cv_s hf
  refine b_cVN C [] dX12_deedRead_98 (kX12_passes l D cy B k24) lv_X12_145 ⟨rfl, rfl, Nat.le_of_ble_eq_true rfl, Nat.le_of_ble_eq_true rfl⟩ h22 (by decide) rfl (Nat.le_of_ble_eq_true rfl) ⟨Nat.zero_le _, Nat.zero_le _⟩ rfl ?_
  refine b_goto C (tgt := 109) dX12_deedRead_101 (by decide) ?_
  refine b_sub [(0, .ref (ad B x0))] [0] rfl ?_
  exact tX12_deedRead_109 C hr hlocks hf
set_option maxRecDepth 100000 in
def fX12_deedRead_J72 (N : Nat) (g : Gs) (x0 : Nat) (y1 : Int32) (d : Ds) : Option (Unit × Ds) := if y1 = (37 : Int32) then (gd (chk g x0 11) <| cb (fX12_is N g x0 33 d) fun u20 d18 => (if u20 = 0 then (cb (fX12_is N g x0 32 d18) fun u30 d28 => (if u30 = 0 then (cv (fX12_fail N g x0 1 d28) fun d32 => (fX12_deedRead_J109 N g x0 d32)) else (fX12_deedRead_J97 N g x0 d28))) else (fX12_deedRead_J97 N g x0 d18))) else (some ((), d))
set_option maxHeartbeats 4000000 in
set_option maxRecDepth 100000 in
theorem tX12_deedRead_72 {p : Program} {l : Launch} {e : Env} {s : State} {m : MethodId} {args : Array Value} {below : List Frame} {meth : Method} {c : Code} {D : va_G} {cy : Nat → ClassId} {B : Bs} (C : Cx p s m args c cX12_deedRead 2 RX12 D cy B) (hr : meth.sig.returnType = none) (hlocks : meth.locks = false) {N : Nat} {g : Gs} {x0 : Nat}  {dz : Ds} {y1 : Int32} {d : Ds} (hf : fX12_deedRead_J72 N g x0 y1 d = some ((), dz)) : WB p l e rmX12_deedRead s m args below meth c 2 D cy B 0 0 (MQ below (QV D cy B g dz) args s 0 0 (wA B)) g d [(0, .ref (ad B x0)), (1, .int y1)] 72 [] := by
  unfold fX12_deedRead_J72 at hf
  refine b_iload_n C dX12_deedRead_72 1 rfl rfl ?_
  refine b_bipush C (v := 37) dX12_deedRead_73 (by decide) ?_
  refine b_icmp_eq C (tgt := 79) dX12_deedRead_75 (by decide) (fun c16 => ?_) (fun c16 => ?_)
  · have hf := it_s c16 hf
    refine b_aload_n C dX12_deedRead_79 0 rfl rfl ?_
    refine b_bipush C (v := 33) dX12_deedRead_80 (by decide) ?_
    obtain ⟨h17, hf⟩ := gd_s hf
    obtain ⟨u20, d18, k19, hf⟩ := cb_s hf
    refine b_cVI C [] dX12_deedRead_82 (kX12_is l D cy B k19) lv_X12_142 ⟨rfl, rfl, Nat.le_of_ble_eq_true rfl, Nat.le_of_ble_eq_true rfl⟩ h17 (by decide) rfl (Nat.le_of_ble_eq_true rfl) ⟨Nat.zero_le _, Nat.zero_le _⟩ rfl ?_
    refine b_if_ne C (tgt := 97) dX12_deedRead_85 (by decide) (fun c21 => ?_) (fun c21 => ?_)
    · have hf := if_s c21 hf
      refine b_sub [(0, .ref (ad B x0))] [0] rfl ?_
      exact tX12_deedRead_97 C hr hlocks hf
    · have hf := it_s c21 hf
      refine b_aload_n C dX12_deedRead_88 0 rfl rfl ?_
      refine b_bipush C (v := 32) dX12_deedRead_89 (by decide) ?_
      obtain ⟨u30, d28, k29, hf⟩ := cb_s hf
      refine b_cVI C [] dX12_deedRead_91 (kX12_is l D cy B k29) lv_X12_142 ⟨rfl, rfl, Nat.le_of_ble_eq_true rfl, Nat.le_of_ble_eq_true rfl⟩ h17 (by decide) rfl (Nat.le_of_ble_eq_true rfl) ⟨Nat.zero_le _, Nat.zero_le _⟩ rfl ?_
      refine b_if_eq C (tgt := 104) dX12_deedRead_94 (by decide) (fun c31 => ?_) (fun c31 => ?_)
      · have hf := it_s c31 hf
        refine b_aload_n C dX12_deedRead_104 0 rfl rfl ?_
        refine b_iconst C (v := 1) dX12_deedRead_105 (by decide) ?_
        obtain ⟨d32, k33, hf⟩ := cv_s hf
        refine b_cVN C [] dX12_deedRead_106 (kX12_fail l D cy B k33) lv_X12_139 ⟨rfl, rfl, Nat.le_of_ble_eq_true rfl, Nat.le_of_ble_eq_true rfl⟩ h17 (by decide) rfl (Nat.le_of_ble_eq_true rfl) ⟨Nat.zero_le _, Nat.zero_le _⟩ rfl ?_
        refine b_sub [(0, .ref (ad B x0))] [0] rfl ?_
        exact tX12_deedRead_109 C hr hlocks hf
      · have hf := if_s c31 hf
        refine b_sub [(0, .ref (ad B x0))] [0] rfl ?_
        exact tX12_deedRead_97 C hr hlocks hf
  · have hf := if_s c16 hf
    exact b_vret C hr hlocks hf dX12_deedRead_78
set_option maxRecDepth 100000 in
def fX12_deedRead_J20 (N : Nat) (g : Gs) (x0 : Nat) (z0 : Int32) (d : Ds) : Option (Unit × Ds) := if z0 < (31 : Int32) then (fX12_deedRead_J33 N g x0 d) else (if z0 ≤ (39 : Int32) then (gd (chk g x0 11) <| cv (fX12_passes N g x0 d) fun d9 => (if z0 = (35 : Int32) then (fX12_deedRead_J55 N g x0 d9) else (if z0 = (36 : Int32) then (fX12_deedRead_J55 N g x0 d9) else (cv (fX12_must N g x0 2 d9) fun d13 => (if z0 = (38 : Int32) then (cv (fX12_must N g x0 2 d13) fun d34 => (fX12_deedRead_J72 N g x0 z0 d34)) else (fX12_deedRead_J72 N g x0 z0 d13)))))) else (fX12_deedRead_J33 N g x0 d))
set_option maxHeartbeats 4000000 in
set_option maxRecDepth 100000 in
theorem tX12_deedRead_20 {p : Program} {l : Launch} {e : Env} {s : State} {m : MethodId} {args : Array Value} {below : List Frame} {meth : Method} {c : Code} {D : va_G} {cy : Nat → ClassId} {B : Bs} (C : Cx p s m args c cX12_deedRead 2 RX12 D cy B) (hr : meth.sig.returnType = none) (hlocks : meth.locks = false) {N : Nat} {g : Gs} {x0 : Nat}  {dz : Ds} {z0 : Int32} {d : Ds} (hf : fX12_deedRead_J20 N g x0 z0 d = some ((), dz)) : WB p l e rmX12_deedRead s m args below meth c 2 D cy B 0 0 (MQ below (QV D cy B g dz) args s 0 0 (wA B)) g d [(0, .ref (ad B x0))] 20 [.int z0] := by
  unfold fX12_deedRead_J20 at hf
  refine b_istore_n C dX12_deedRead_20 rfl [(1, .int z0), (0, .ref (ad B x0))] (by decide) rfl ?_
  refine b_iload_n C dX12_deedRead_21 0 rfl rfl ?_
  refine b_bipush C (v := 31) dX12_deedRead_22 (by decide) ?_
  refine b_icmp_lt C (tgt := 33) dX12_deedRead_24 (by decide) (fun c3 => ?_) (fun c3 => ?_)
  · have hf := it_s c3 hf
    refine b_sub [(0, .ref (ad B x0))] [1] rfl ?_
    exact tX12_deedRead_33 C hr hlocks hf
  · have hf := if_s c3 hf
    refine b_iload_n C dX12_deedRead_27 0 rfl rfl ?_
    refine b_bipush C (v := 39) dX12_deedRead_28 (by decide) ?_
    refine b_icmp_le C (tgt := 39) dX12_deedRead_30 (by decide) (fun c7 => ?_) (fun c7 => ?_)
    · have hf := it_s c7 hf
      refine b_aload_n C dX12_deedRead_39 1 rfl rfl ?_
      obtain ⟨h8, hf⟩ := gd_s hf
      obtain ⟨d9, k10, hf⟩ := cv_s hf
      refine b_cVN C [] dX12_deedRead_40 (kX12_passes l D cy B k10) lv_X12_145 ⟨rfl, rfl, Nat.le_of_ble_eq_true rfl, Nat.le_of_ble_eq_true rfl⟩ h8 (by decide) rfl (Nat.le_of_ble_eq_true rfl) ⟨Nat.zero_le _, Nat.zero_le _⟩ rfl ?_
      refine b_iload_n C dX12_deedRead_43 0 rfl rfl ?_
      refine b_bipush C (v := 35) dX12_deedRead_44 (by decide) ?_
      refine b_icmp_eq C (tgt := 55) dX12_deedRead_46 (by decide) (fun c11 => ?_) (fun c11 => ?_)
      · have hf := it_s c11 hf
        refine b_sub [(0, .ref (ad B x0))] [1] rfl ?_
        exact tX12_deedRead_55 C hr hlocks hf
      · have hf := if_s c11 hf
        refine b_iload_n C dX12_deedRead_49 0 rfl rfl ?_
        refine b_bipush C (v := 36) dX12_deedRead_50 (by decide) ?_
        refine b_icmp_ne C (tgt := 56) dX12_deedRead_52 (by decide) (fun c12 => ?_) (fun c12 => ?_)
        · have hf := if_s c12 hf
          refine b_aload_n C dX12_deedRead_56 1 rfl rfl ?_
          refine b_iconst C (v := 2) dX12_deedRead_57 (by decide) ?_
          obtain ⟨d13, k14, hf⟩ := cv_s hf
          refine b_cVN C [] dX12_deedRead_58 (kX12_must l D cy B k14) lv_X12_157 ⟨rfl, rfl, Nat.le_of_ble_eq_true rfl, Nat.le_of_ble_eq_true rfl⟩ h8 (by decide) rfl (Nat.le_of_ble_eq_true rfl) ⟨Nat.zero_le _, Nat.zero_le _⟩ rfl ?_
          refine b_iload_n C dX12_deedRead_61 0 rfl rfl ?_
          refine b_bipush C (v := 38) dX12_deedRead_62 (by decide) ?_
          refine b_icmp_ne C (tgt := 72) dX12_deedRead_64 (by decide) (fun c15 => ?_) (fun c15 => ?_)
          · have hf := if_s c15 hf
            refine b_sub [(0, .ref (ad B x0)), (1, .int z0)] [1, 0] rfl ?_
            exact tX12_deedRead_72 C hr hlocks hf
          · have hf := it_s c15 hf
            refine b_aload_n C dX12_deedRead_67 1 rfl rfl ?_
            refine b_iconst C (v := 2) dX12_deedRead_68 (by decide) ?_
            obtain ⟨d34, k35, hf⟩ := cv_s hf
            refine b_cVN C [] dX12_deedRead_69 (kX12_must l D cy B k35) lv_X12_157 ⟨rfl, rfl, Nat.le_of_ble_eq_true rfl, Nat.le_of_ble_eq_true rfl⟩ h8 (by decide) rfl (Nat.le_of_ble_eq_true rfl) ⟨Nat.zero_le _, Nat.zero_le _⟩ rfl ?_
            refine b_sub [(0, .ref (ad B x0)), (1, .int z0)] [1, 0] rfl ?_
            exact tX12_deedRead_72 C hr hlocks hf
        · have hf := it_s c12 hf
          refine b_sub [(0, .ref (ad B x0))] [1] rfl ?_
          exact tX12_deedRead_55 C hr hlocks hf
    · have hf := if_s c7 hf
      refine b_sub [(0, .ref (ad B x0))] [1] rfl ?_
      exact tX12_deedRead_33 C hr hlocks hf
set_option maxRecDepth 100000 in
def fX12_deedRead (N : Nat) (g : Gs) (x0 : Nat) (d : Ds) : Option (Unit × Ds) := gd (chk g x0 11) <| if (dI d x0 12) = 0 then (ob (gR g x0 5) fun r36 => (gd (chk g r36 102) <| gd (¬ ((dI d x0 11) < 0 ∨ gL g r36 ≤ (dI d x0 11).toNatClampNeg)) <| fX12_deedRead_J20 N g x0 (dI d r36 (dI d x0 11).toNatClampNeg) d)) else (fX12_deedRead_J20 N g x0 0 d)
set_option maxHeartbeats 4000000 in
set_option maxRecDepth 100000 in
theorem tX12_deedRead_E {p : Program} {l : Launch} {e : Env} {s : State} {m : MethodId} {args : Array Value} {below : List Frame} {meth : Method} {c : Code} {D : va_G} {cy : Nat → ClassId} {B : Bs} (C : Cx p s m args c cX12_deedRead 2 RX12 D cy B) (hr : meth.sig.returnType = none) (hlocks : meth.locks = false) {N : Nat} {g : Gs} {x0 : Nat}  {dz : Ds} {d : Ds} (hf : fX12_deedRead N g x0 d = some ((), dz)) : WB p l e rmX12_deedRead s m args below meth c 2 D cy B 0 0 (MQ below (QV D cy B g dz) args s 0 0 (wA B)) g d [(0, .ref (ad B x0))] 0 [] := by
  unfold fX12_deedRead at hf
  refine b_aload_n C dX12_deedRead_0 0 rfl rfl ?_
  obtain ⟨h1, hf⟩ := gd_s hf
  refine b_gI C dX12_deedRead_1 fl_X12_124 h1 ?_
  refine b_if_ne C (tgt := 19) dX12_deedRead_4 (by decide) (fun c2 => ?_) (fun c2 => ?_)
  · have hf := if_s c2 hf
    refine b_iconst C (v := 0) dX12_deedRead_19 (by decide) ?_
    refine b_sub [(0, .ref (ad B x0))] [0] rfl ?_
    exact tX12_deedRead_20 C hr hlocks hf
  · have hf := it_s c2 hf
    refine b_aload_n C dX12_deedRead_7 0 rfl rfl ?_
    obtain ⟨r36, er36, hf⟩ := ob_s hf
    refine b_gR C dX12_deedRead_8 fl_X12_20 h1 er36 ?_
    refine b_aload_n C dX12_deedRead_11 0 rfl rfl ?_
    refine b_gI C dX12_deedRead_12 fl_X12_127 h1 ?_
    obtain ⟨h37, hf⟩ := gd_s hf
    obtain ⟨h38, hf⟩ := gd_s hf
    refine b_iald C h37 h38 dX12_deedRead_15 ?_
    refine b_goto C (tgt := 20) dX12_deedRead_16 (by decide) ?_
    refine b_sub [(0, .ref (ad B x0))] [0] rfl ?_
    exact tX12_deedRead_20 C hr hlocks hf
theorem kX12_deedRead (l : Launch) (D : va_G) (cy : Nat → ClassId) (B : Bs) {N : Nat} {g : Gs} {x0 : Nat}  {dz : Ds} {d : Ds} (hf : fX12_deedRead N g x0 d = some ((), dz)) : Met l yX12_deedRead (.code yX12_deedRead cX12_deedRead 2 none :: wl) rmX12_deedRead (PC D cy B [.ref (ad B x0)] g d) (QV D cy B g dz) 0 0 (wA B) :=
  met_of (by decide +kernel) (Nat.le_of_ble_eq_true rfl) (fun p e s m args below meth c C hr hlocks _ => b_sub [(0, .ref (ad B x0))] [0] rfl (tX12_deedRead_E C hr hlocks hf))
/-! KeyMatrixModel.tell()V -/
theorem yo_X12_deedRead : yX12_deedRead.cls ≠ "java/lang/invoke/MethodHandle" ∧ yX12_deedRead.cls ≠ "java/lang/invoke/VarHandle" ∧ (parseMethodDescriptor yX12_deedRead.desc).map (fun d => d.parameters.length) = some 0 := by decide +kernel
theorem co_X12_deedRead : Cond.code yX12_deedRead cX12_deedRead 2 none ∈ wl := mW (mT6 (List.mem_of_getElem? (i := 14) (by decide +kernel))) rfl
theorem in_X12_deedRead : Cond.initialized yX12_deedRead.cls ∈ wl := mW (mT1 (List.mem_of_getElem? (i := 12) (by decide +kernel))) rfl
theorem im_X12_deedRead : Cond.instanceMethod yX12_deedRead ∈ wl := mW (mT6 (List.mem_of_getElem? (i := 13) (by decide +kernel))) rfl
theorem se_X12_deedRead : Cond.selects yX12_deedRead.cls yX12_deedRead yX12_deedRead ∈ wl := mW (mT0 (List.mem_of_getElem? (i := 42) (by decide +kernel))) rfl
theorem lv_X12_166 : LV RX12 166 yX12_deedRead cX12_deedRead 2 none 0 11 := ⟨⟨(RX12, TX12, 33), rfl, rfl⟩, yo_X12_deedRead, mW (mT6 (List.mem_of_getElem? (i := 11) (by decide +kernel))) rfl, im_X12_deedRead, se_X12_deedRead, in_X12_deedRead, co_X12_deedRead⟩
theorem fl_X12_154 : FLI RX12 154 11 21 := ⟨⟨RX12, TX12, 33, rfl, by decide, inl11, Or.inl (mW (mT5 (List.mem_of_getElem? (i := 112) (by decide +kernel))) rfl)⟩, by decide, by decide +kernel⟩
theorem fp11_21 : FPI 11 21 := ⟨ft11, (RX12, TX12, 33), rfl, by decide +kernel, by decide +kernel⟩
theorem fl_X12_151 : FLI RX12 151 11 20 := ⟨⟨RX12, TX12, 33, rfl, by decide, inl11, Or.inl (mW (mT5 (List.mem_of_getElem? (i := 111) (by decide +kernel))) rfl)⟩, by decide, by decide +kernel⟩
theorem fp11_20 : FPI 11 20 := ⟨ft11, (RX12, TX12, 33), rfl, by decide +kernel, by decide +kernel⟩
theorem dX12_tell_0 : decode cX12_tell 0 = .ok (.aload_n 0, 1) := by decide +kernel
theorem dX12_tell_1 : decode cX12_tell 1 = .ok (.getfield 20, 3) := by decide +kernel
theorem dX12_tell_4 : decode cX12_tell 4 = .ok (.aload_n 0, 1) := by decide +kernel
theorem dX12_tell_5 : decode cX12_tell 5 = .ok (.getfield 127, 3) := by decide +kernel
theorem dX12_tell_8 : decode cX12_tell 8 = .ok (.iaload, 1) := by decide +kernel
theorem dX12_tell_9 : decode cX12_tell 9 = .ok (.istore_n 1, 1) := by decide +kernel
theorem dX12_tell_10 : decode cX12_tell 10 = .ok (.iload_n 1, 1) := by decide +kernel
theorem dX12_tell_11 : decode cX12_tell 11 = .ok (.bipush 20, 2) := by decide +kernel
theorem dX12_tell_13 : decode cX12_tell 13 = .ok (.if_icmp .le 9, 3) := by decide +kernel
theorem dX12_tell_16 : decode cX12_tell 16 = .ok (.iload_n 1, 1) := by decide +kernel
theorem dX12_tell_17 : decode cX12_tell 17 = .ok (.bipush 30, 2) := by decide +kernel
theorem dX12_tell_19 : decode cX12_tell 19 = .ok (.if_icmp .le 9, 3) := by decide +kernel
theorem dX12_tell_22 : decode cX12_tell 22 = .ok (.aload_n 0, 1) := by decide +kernel
theorem dX12_tell_23 : decode cX12_tell 23 = .ok (.iconst 1, 1) := by decide +kernel
theorem dX12_tell_24 : decode cX12_tell 24 = .ok (.invokevirtual 139, 3) := by decide +kernel
theorem dX12_tell_27 : decode cX12_tell 27 = .ok (.return_, 1) := by decide +kernel
theorem dX12_tell_28 : decode cX12_tell 28 = .ok (.iload_n 1, 1) := by decide +kernel
theorem dX12_tell_29 : decode cX12_tell 29 = .ok (.bipush 29, 2) := by decide +kernel
theorem dX12_tell_31 : decode cX12_tell 31 = .ok (.if_icmp .ne 11, 3) := by decide +kernel
theorem dX12_tell_34 : decode cX12_tell 34 = .ok (.aload_n 0, 1) := by decide +kernel
theorem dX12_tell_35 : decode cX12_tell 35 = .ok (.getfield 151, 3) := by decide +kernel
theorem dX12_tell_38 : decode cX12_tell 38 = .ok (.iconst 4, 1) := by decide +kernel
theorem dX12_tell_39 : decode cX12_tell 39 = .ok (.if_icmp .eq 17, 3) := by decide +kernel
theorem dX12_tell_42 : decode cX12_tell 42 = .ok (.iload_n 1, 1) := by decide +kernel
theorem dX12_tell_43 : decode cX12_tell 43 = .ok (.bipush 30, 2) := by decide +kernel
theorem dX12_tell_45 : decode cX12_tell 45 = .ok (.if_icmp .ne 17, 3) := by decide +kernel
theorem dX12_tell_48 : decode cX12_tell 48 = .ok (.aload_n 0, 1) := by decide +kernel
theorem dX12_tell_49 : decode cX12_tell 49 = .ok (.getfield 154, 3) := by decide +kernel
theorem dX12_tell_52 : decode cX12_tell 52 = .ok (.iconst 4, 1) := by decide +kernel
theorem dX12_tell_53 : decode cX12_tell 53 = .ok (.if_icmp .ne 9, 3) := by decide +kernel
theorem dX12_tell_56 : decode cX12_tell 56 = .ok (.aload_n 0, 1) := by decide +kernel
theorem dX12_tell_57 : decode cX12_tell 57 = .ok (.iconst 2, 1) := by decide +kernel
theorem dX12_tell_58 : decode cX12_tell 58 = .ok (.invokevirtual 139, 3) := by decide +kernel
theorem dX12_tell_61 : decode cX12_tell 61 = .ok (.return_, 1) := by decide +kernel
theorem dX12_tell_62 : decode cX12_tell 62 = .ok (.aload_n 0, 1) := by decide +kernel
theorem dX12_tell_63 : decode cX12_tell 63 = .ok (.invokevirtual 145, 3) := by decide +kernel
theorem dX12_tell_66 : decode cX12_tell 66 = .ok (.iload_n 1, 1) := by decide +kernel
theorem dX12_tell_67 : decode cX12_tell 67 = .ok (.bipush 29, 2) := by decide +kernel
theorem dX12_tell_69 : decode cX12_tell 69 = .ok (.if_icmp .ne 13, 3) := by decide +kernel
theorem dX12_tell_72 : decode cX12_tell 72 = .ok (.aload_n 0, 1) := by decide +kernel
theorem dX12_tell_73 : decode cX12_tell 73 = .ok (.dup, 1) := by decide +kernel
theorem dX12_tell_74 : decode cX12_tell 74 = .ok (.getfield 151, 3) := by decide +kernel
theorem dX12_tell_77 : decode cX12_tell 77 = .ok (.iconst 1, 1) := by decide +kernel
theorem dX12_tell_78 : decode cX12_tell 78 = .ok (.iadd, 1) := by decide +kernel
theorem dX12_tell_79 : decode cX12_tell 79 = .ok (.putfield 151, 3) := by decide +kernel
theorem dX12_tell_82 : decode cX12_tell 82 = .ok (.iload_n 1, 1) := by decide +kernel
theorem dX12_tell_83 : decode cX12_tell 83 = .ok (.bipush 30, 2) := by decide +kernel
theorem dX12_tell_85 : decode cX12_tell 85 = .ok (.if_icmp .ne 13, 3) := by decide +kernel
theorem dX12_tell_88 : decode cX12_tell 88 = .ok (.aload_n 0, 1) := by decide +kernel
theorem dX12_tell_89 : decode cX12_tell 89 = .ok (.dup, 1) := by decide +kernel
theorem dX12_tell_90 : decode cX12_tell 90 = .ok (.getfield 154, 3) := by decide +kernel
theorem dX12_tell_93 : decode cX12_tell 93 = .ok (.iconst 1, 1) := by decide +kernel
theorem dX12_tell_94 : decode cX12_tell 94 = .ok (.iadd, 1) := by decide +kernel
theorem dX12_tell_95 : decode cX12_tell 95 = .ok (.putfield 154, 3) := by decide +kernel
theorem dX12_tell_98 : decode cX12_tell 98 = .ok (.iload_n 1, 1) := by decide +kernel
theorem dX12_tell_99 : decode cX12_tell 99 = .ok (.bipush 23, 2) := by decide +kernel
theorem dX12_tell_101 : decode cX12_tell 101 = .ok (.if_icmp .lt 8, 3) := by decide +kernel
theorem dX12_tell_104 : decode cX12_tell 104 = .ok (.aload_n 0, 1) := by decide +kernel
theorem dX12_tell_105 : decode cX12_tell 105 = .ok (.iconst 2, 1) := by decide +kernel
theorem dX12_tell_106 : decode cX12_tell 106 = .ok (.invokevirtual 157, 3) := by decide +kernel
theorem dX12_tell_109 : decode cX12_tell 109 = .ok (.iload_n 1, 1) := by decide +kernel
theorem dX12_tell_110 : decode cX12_tell 110 = .ok (.bipush 27, 2) := by decide +kernel
theorem dX12_tell_112 : decode cX12_tell 112 = .ok (.if_icmp .eq 15, 3) := by decide +kernel
theorem dX12_tell_115 : decode cX12_tell 115 = .ok (.iload_n 1, 1) := by decide +kernel
theorem dX12_tell_116 : decode cX12_tell 116 = .ok (.bipush 28, 2) := by decide +kernel
theorem dX12_tell_118 : decode cX12_tell 118 = .ok (.if_icmp .eq 9, 3) := by decide +kernel
theorem dX12_tell_121 : decode cX12_tell 121 = .ok (.iload_n 1, 1) := by decide +kernel
theorem dX12_tell_122 : decode cX12_tell 122 = .ok (.bipush 29, 2) := by decide +kernel
theorem dX12_tell_124 : decode cX12_tell 124 = .ok (.if_icmp .ne 8, 3) := by decide +kernel
theorem dX12_tell_127 : decode cX12_tell 127 = .ok (.aload_n 0, 1) := by decide +kernel
theorem dX12_tell_128 : decode cX12_tell 128 = .ok (.iconst 2, 1) := by decide +kernel
theorem dX12_tell_129 : decode cX12_tell 129 = .ok (.invokevirtual 157, 3) := by decide +kernel
theorem dX12_tell_132 : decode cX12_tell 132 = .ok (.iload_n 1, 1) := by decide +kernel
theorem dX12_tell_133 : decode cX12_tell 133 = .ok (.bipush 28, 2) := by decide +kernel
theorem dX12_tell_135 : decode cX12_tell 135 = .ok (.if_icmp .eq 9, 3) := by decide +kernel
theorem dX12_tell_138 : decode cX12_tell 138 = .ok (.iload_n 1, 1) := by decide +kernel
theorem dX12_tell_139 : decode cX12_tell 139 = .ok (.bipush 29, 2) := by decide +kernel
theorem dX12_tell_141 : decode cX12_tell 141 = .ok (.if_icmp .ne 7, 3) := by decide +kernel
theorem dX12_tell_144 : decode cX12_tell 144 = .ok (.aload_n 0, 1) := by decide +kernel
theorem dX12_tell_145 : decode cX12_tell 145 = .ok (.invokevirtual 166, 3) := by decide +kernel
theorem dX12_tell_148 : decode cX12_tell 148 = .ok (.iload_n 1, 1) := by decide +kernel
theorem dX12_tell_149 : decode cX12_tell 149 = .ok (.bipush 30, 2) := by decide +kernel
theorem dX12_tell_151 : decode cX12_tell 151 = .ok (.if_icmp .ne 37, 3) := by decide +kernel
theorem dX12_tell_154 : decode cX12_tell 154 = .ok (.iconst 1, 1) := by decide +kernel
theorem dX12_tell_155 : decode cX12_tell 155 = .ok (.istore_n 2, 1) := by decide +kernel
theorem dX12_tell_156 : decode cX12_tell 156 = .ok (.aload_n 0, 1) := by decide +kernel
theorem dX12_tell_157 : decode cX12_tell 157 = .ok (.iconst 2, 1) := by decide +kernel
theorem dX12_tell_158 : decode cX12_tell 158 = .ok (.invokevirtual 142, 3) := by decide +kernel
theorem dX12_tell_161 : decode cX12_tell 161 = .ok (.ifCond .eq 27, 3) := by decide +kernel
theorem dX12_tell_164 : decode cX12_tell 164 = .ok (.iload_n 2, 1) := by decide +kernel
theorem dX12_tell_165 : decode cX12_tell 165 = .ok (.bipush 8, 2) := by decide +kernel
theorem dX12_tell_167 : decode cX12_tell 167 = .ok (.if_icmp .ne 11, 3) := by decide +kernel
theorem dX12_tell_170 : decode cX12_tell 170 = .ok (.aload_n 0, 1) := by decide +kernel
theorem dX12_tell_171 : decode cX12_tell 171 = .ok (.iconst 2, 1) := by decide +kernel
theorem dX12_tell_172 : decode cX12_tell 172 = .ok (.invokevirtual 139, 3) := by decide +kernel
theorem dX12_tell_175 : decode cX12_tell 175 = .ok (.goto 7, 3) := by decide +kernel
theorem dX12_tell_178 : decode cX12_tell 178 = .ok (.aload_n 0, 1) := by decide +kernel
theorem dX12_tell_179 : decode cX12_tell 179 = .ok (.invokevirtual 145, 3) := by decide +kernel
theorem dX12_tell_182 : decode cX12_tell 182 = .ok (.iinc 2 1, 3) := by decide +kernel
theorem dX12_tell_185 : decode cX12_tell 185 = .ok (.goto (-29), 3) := by decide +kernel
theorem dX12_tell_188 : decode cX12_tell 188 = .ok (.aload_n 0, 1) := by decide +kernel
theorem dX12_tell_189 : decode cX12_tell 189 = .ok (.iconst 4, 1) := by decide +kernel
theorem dX12_tell_190 : decode cX12_tell 190 = .ok (.invokevirtual 157, 3) := by decide +kernel
theorem dX12_tell_193 : decode cX12_tell 193 = .ok (.return_, 1) := by decide +kernel
def rmX12_tell : Room := { frames := 4, cells := 0, slots := 0, locals := 83 }
set_option maxRecDepth 100000 in
def fX12_tell_J22 (N : Nat) (g : Gs) (x0 : Nat) (d : Ds) : Option (Unit × Ds) := gd (chk g x0 11) <| cv (fX12_fail N g x0 1 d) fun d8 => (some ((), d8))
set_option maxHeartbeats 4000000 in
set_option maxRecDepth 100000 in
theorem tX12_tell_22 {p : Program} {l : Launch} {e : Env} {s : State} {m : MethodId} {args : Array Value} {below : List Frame} {meth : Method} {c : Code} {D : va_G} {cy : Nat → ClassId} {B : Bs} (C : Cx p s m args c cX12_tell 3 RX12 D cy B) (hr : meth.sig.returnType = none) (hlocks : meth.locks = false) {N : Nat} {g : Gs} {x0 : Nat}  {dz : Ds} {d : Ds} (hf : fX12_tell_J22 N g x0 d = some ((), dz)) : WB p l e rmX12_tell s m args below meth c 3 D cy B 0 0 (MQ below (QV D cy B g dz) args s 0 0 (wA B)) g d [(0, .ref (ad B x0))] 22 [] := by
  unfold fX12_tell_J22 at hf
  refine b_aload_n C dX12_tell_22 0 rfl rfl ?_
  refine b_iconst C (v := 1) dX12_tell_23 (by decide) ?_
  obtain ⟨h7, hf⟩ := gd_s hf
  obtain ⟨d8, k9, hf⟩ := cv_s hf
  refine b_cVN C [] dX12_tell_24 (kX12_fail l D cy B k9) lv_X12_139 ⟨rfl, rfl, Nat.le_of_ble_eq_true rfl, Nat.le_of_ble_eq_true rfl⟩ h7 (by decide) rfl (Nat.le_of_ble_eq_true rfl) ⟨Nat.zero_le _, Nat.zero_le _⟩ rfl ?_
  exact b_vret C hr hlocks hf dX12_tell_27
set_option maxRecDepth 100000 in
def fX12_tell_J188 (N : Nat) (g : Gs) (x0 : Nat) (d : Ds) : Option (Unit × Ds) := gd (chk g x0 11) <| cv (fX12_must N g x0 4 d) fun d29 => (some ((), d29))
set_option maxHeartbeats 4000000 in
set_option maxRecDepth 100000 in
theorem tX12_tell_188 {p : Program} {l : Launch} {e : Env} {s : State} {m : MethodId} {args : Array Value} {below : List Frame} {meth : Method} {c : Code} {D : va_G} {cy : Nat → ClassId} {B : Bs} (C : Cx p s m args c cX12_tell 3 RX12 D cy B) (hr : meth.sig.returnType = none) (hlocks : meth.locks = false) {N : Nat} {g : Gs} {x0 : Nat}  {dz : Ds} {d : Ds} (hf : fX12_tell_J188 N g x0 d = some ((), dz)) : WB p l e rmX12_tell s m args below meth c 3 D cy B 0 0 (MQ below (QV D cy B g dz) args s 0 0 (wA B)) g d [(0, .ref (ad B x0))] 188 [] := by
  unfold fX12_tell_J188 at hf
  refine b_aload_n C dX12_tell_188 0 rfl rfl ?_
  refine b_iconst C (v := 4) dX12_tell_189 (by decide) ?_
  obtain ⟨h28, hf⟩ := gd_s hf
  obtain ⟨d29, k30, hf⟩ := cv_s hf
  refine b_cVN C [] dX12_tell_190 (kX12_must l D cy B k30) lv_X12_157 ⟨rfl, rfl, Nat.le_of_ble_eq_true rfl, Nat.le_of_ble_eq_true rfl⟩ h28 (by decide) rfl (Nat.le_of_ble_eq_true rfl) ⟨Nat.zero_le _, Nat.zero_le _⟩ rfl ?_
  exact b_vret C hr hlocks hf dX12_tell_193
set_option maxRecDepth 100000 in
def fX12_tell_J182 (N : Nat) (g : Gs) (x0 : Nat) (K156 : Int32 × Ds → Option (Unit × Ds)) (y2 : Int32) (d : Ds) : Option (Unit × Ds) := bd (y2 + 1) fun u39 => (K156 (u39, d))
set_option maxHeartbeats 4000000 in
set_option maxRecDepth 100000 in
theorem tX12_tell_182 {p : Program} {l : Launch} {e : Env} {s : State} {m : MethodId} {args : Array Value} {below : List Frame} {meth : Method} {c : Code} {D : va_G} {cy : Nat → ClassId} {B : Bs} (C : Cx p s m args c cX12_tell 3 RX12 D cy B) (hr : meth.sig.returnType = none) (hlocks : meth.locks = false) {N : Nat} {g : Gs} {x0 : Nat}  {dz : Ds} {K156 : Int32 × Ds → Option (Unit × Ds)} (hK156 : ∀ a, K156 a = some ((), dz) → WB p l e rmX12_tell s m args below meth c 3 D cy B 0 0 (MQ below (QV D cy B g dz) args s 0 0 (wA B)) g a.2 [(0, .ref (ad B x0)), (2, .int a.1)] 156 []) {y2 : Int32} {d : Ds} (hf : fX12_tell_J182 N g x0 K156 y2 d = some ((), dz)) : WB p l e rmX12_tell s m args below meth c 3 D cy B 0 0 (MQ below (QV D cy B g dz) args s 0 0 (wA B)) g d [(0, .ref (ad B x0)), (2, .int y2)] 182 [] := by
  unfold fX12_tell_J182 at hf
  obtain ⟨u39, eu39, hf⟩ := bd_s hf
  refine b_iinc C dX12_tell_182 1 rfl (by rw [eu39]; rfl) [(2, .int u39), (0, .ref (ad B x0))] (by decide) rfl ?_
  refine b_goto C (tgt := 156) dX12_tell_185 (by decide) ?_
  refine b_sub [(0, .ref (ad B x0)), (2, .int u39)] [1, 0] rfl ?_
  exact hK156 (u39, d) hf
set_option maxRecDepth 100000 in
def fX12_tell_B156 (N : Nat) (g : Gs) (x0 : Nat) (K156 : Int32 × Ds → Option (Unit × Ds)) (y2 : Int32) (d : Ds) : Option (Unit × Ds) := gd (chk g x0 11) <| cb (fX12_is N g x0 2 d) fun u34 d32 => (if u34 = 0 then (fX12_tell_J188 N g x0 d32) else (if y2 = (8 : Int32) then (cv (fX12_fail N g x0 2 d32) fun d40 => (fX12_tell_J182 N g x0 K156 y2 d40)) else (cv (fX12_passes N g x0 d32) fun d37 => (fX12_tell_J182 N g x0 K156 y2 d37))))
set_option maxHeartbeats 4000000 in
set_option maxRecDepth 100000 in
theorem tX12_tell_156 {p : Program} {l : Launch} {e : Env} {s : State} {m : MethodId} {args : Array Value} {below : List Frame} {meth : Method} {c : Code} {D : va_G} {cy : Nat → ClassId} {B : Bs} (C : Cx p s m args c cX12_tell 3 RX12 D cy B) (hr : meth.sig.returnType = none) (hlocks : meth.locks = false) {N : Nat} {g : Gs} {x0 : Nat}  {dz : Ds} {K156 : Int32 × Ds → Option (Unit × Ds)} (hK156 : ∀ a, K156 a = some ((), dz) → WB p l e rmX12_tell s m args below meth c 3 D cy B 0 0 (MQ below (QV D cy B g dz) args s 0 0 (wA B)) g a.2 [(0, .ref (ad B x0)), (2, .int a.1)] 156 []) {y2 : Int32} {d : Ds} (hf : fX12_tell_B156 N g x0 K156 y2 d = some ((), dz)) : WB p l e rmX12_tell s m args below meth c 3 D cy B 0 0 (MQ below (QV D cy B g dz) args s 0 0 (wA B)) g d [(0, .ref (ad B x0)), (2, .int y2)] 156 [] := by
  unfold fX12_tell_B156 at hf
  refine b_aload_n C dX12_tell_156 0 rfl rfl ?_
  refine b_iconst C (v := 2) dX12_tell_157 (by decide) ?_
  obtain ⟨h31, hf⟩ := gd_s hf
  obtain ⟨u34, d32, k33, hf⟩ := cb_s hf
  refine b_cVI C [] dX12_tell_158 (kX12_is l D cy B k33) lv_X12_142 ⟨rfl, rfl, Nat.le_of_ble_eq_true rfl, Nat.le_of_ble_eq_true rfl⟩ h31 (by decide) rfl (Nat.le_of_ble_eq_true rfl) ⟨Nat.zero_le _, Nat.zero_le _⟩ rfl ?_
  refine b_if_eq C (tgt := 188) dX12_tell_161 (by decide) (fun c35 => ?_) (fun c35 => ?_)
  · have hf := it_s c35 hf
    refine b_sub [(0, .ref (ad B x0))] [0] rfl ?_
    exact tX12_tell_188 C hr hlocks hf
  · have hf := if_s c35 hf
    refine b_iload_n C dX12_tell_164 1 rfl rfl ?_
    refine b_bipush C (v := 8) dX12_tell_165 (by decide) ?_
    refine b_icmp_ne C (tgt := 178) dX12_tell_167 (by decide) (fun c36 => ?_) (fun c36 => ?_)
    · have hf := if_s c36 hf
      refine b_aload_n C dX12_tell_178 0 rfl rfl ?_
      obtain ⟨d37, k38, hf⟩ := cv_s hf
      refine b_cVN C [] dX12_tell_179 (kX12_passes l D cy B k38) lv_X12_145 ⟨rfl, rfl, Nat.le_of_ble_eq_true rfl, Nat.le_of_ble_eq_true rfl⟩ h31 (by decide) rfl (Nat.le_of_ble_eq_true rfl) ⟨Nat.zero_le _, Nat.zero_le _⟩ rfl ?_
      refine b_sub [(0, .ref (ad B x0)), (2, .int y2)] [0, 1] rfl ?_
      exact tX12_tell_182 C hr hlocks hK156 hf
    · have hf := it_s c36 hf
      refine b_aload_n C dX12_tell_170 0 rfl rfl ?_
      refine b_iconst C (v := 2) dX12_tell_171 (by decide) ?_
      obtain ⟨d40, k41, hf⟩ := cv_s hf
      refine b_cVN C [] dX12_tell_172 (kX12_fail l D cy B k41) lv_X12_139 ⟨rfl, rfl, Nat.le_of_ble_eq_true rfl, Nat.le_of_ble_eq_true rfl⟩ h31 (by decide) rfl (Nat.le_of_ble_eq_true rfl) ⟨Nat.zero_le _, Nat.zero_le _⟩ rfl ?_
      refine b_goto C (tgt := 182) dX12_tell_175 (by decide) ?_
      refine b_sub [(0, .ref (ad B x0)), (2, .int y2)] [0, 1] rfl ?_
      exact tX12_tell_182 C hr hlocks hK156 hf
def fX12_tell_L156 (N : Nat) (g : Gs) (x0 : Nat) : Int32 × Ds → Option (Unit × Ds) := lp (fun K156 a => fX12_tell_B156 N g x0 K156 a.1 a.2) N
theorem tX12_tell_L156 {p : Program} {l : Launch} {e : Env} {s : State} {m : MethodId} {args : Array Value} {below : List Frame} {meth : Method} {c : Code} {D : va_G} {cy : Nat → ClassId} {B : Bs} (C : Cx p s m args c cX12_tell 3 RX12 D cy B) (hr : meth.sig.returnType = none) (hlocks : meth.locks = false) {N : Nat} {g : Gs} {x0 : Nat}  {dz : Ds} (a : Int32 × Ds) (hf : fX12_tell_L156 N g x0 a = some ((), dz)) : WB p l e rmX12_tell s m args below meth c 3 D cy B 0 0 (MQ below (QV D cy B g dz) args s 0 0 (wA B)) g a.2 [(0, .ref (ad B x0)), (2, .int a.1)] 156 [] :=
  lp_w (fun K156 hK156 a ha => tX12_tell_156 C hr hlocks hK156 ha) N a hf
set_option maxRecDepth 100000 in
def fX12_tell_J148 (N : Nat) (g : Gs) (x0 : Nat) (y1 : Int32) (d : Ds) : Option (Unit × Ds) := if y1 = (30 : Int32) then (fX12_tell_L156 N g x0 (1, d)) else (fX12_tell_J188 N g x0 d)
set_option maxHeartbeats 4000000 in
set_option maxRecDepth 100000 in
theorem tX12_tell_148 {p : Program} {l : Launch} {e : Env} {s : State} {m : MethodId} {args : Array Value} {below : List Frame} {meth : Method} {c : Code} {D : va_G} {cy : Nat → ClassId} {B : Bs} (C : Cx p s m args c cX12_tell 3 RX12 D cy B) (hr : meth.sig.returnType = none) (hlocks : meth.locks = false) {N : Nat} {g : Gs} {x0 : Nat}  {dz : Ds} {y1 : Int32} {d : Ds} (hf : fX12_tell_J148 N g x0 y1 d = some ((), dz)) : WB p l e rmX12_tell s m args below meth c 3 D cy B 0 0 (MQ below (QV D cy B g dz) args s 0 0 (wA B)) g d [(0, .ref (ad B x0)), (1, .int y1)] 148 [] := by
  unfold fX12_tell_J148 at hf
  refine b_iload_n C dX12_tell_148 1 rfl rfl ?_
  refine b_bipush C (v := 30) dX12_tell_149 (by decide) ?_
  refine b_icmp_ne C (tgt := 188) dX12_tell_151 (by decide) (fun c27 => ?_) (fun c27 => ?_)
  · have hf := if_s c27 hf
    refine b_sub [(0, .ref (ad B x0))] [0] rfl ?_
    exact tX12_tell_188 C hr hlocks hf
  · have hf := it_s c27 hf
    refine b_iconst C (v := 1) dX12_tell_154 (by decide) ?_
    refine b_istore_n C dX12_tell_155 rfl [(2, .int 1), (0, .ref (ad B x0)), (1, .int y1)] (by decide) rfl ?_
    refine b_sub [(0, .ref (ad B x0)), (2, .int 1)] [1, 0] rfl ?_
    exact tX12_tell_L156 C hr hlocks (1, d) hf
set_option maxRecDepth 100000 in
def fX12_tell_J144 (N : Nat) (g : Gs) (x0 : Nat) (y1 : Int32) (d : Ds) : Option (Unit × Ds) := gd (chk g x0 11) <| cv (fX12_deedRead N g x0 d) fun d25 => (fX12_tell_J148 N g x0 y1 d25)
set_option maxHeartbeats 4000000 in
set_option maxRecDepth 100000 in
theorem tX12_tell_144 {p : Program} {l : Launch} {e : Env} {s : State} {m : MethodId} {args : Array Value} {below : List Frame} {meth : Method} {c : Code} {D : va_G} {cy : Nat → ClassId} {B : Bs} (C : Cx p s m args c cX12_tell 3 RX12 D cy B) (hr : meth.sig.returnType = none) (hlocks : meth.locks = false) {N : Nat} {g : Gs} {x0 : Nat}  {dz : Ds} {y1 : Int32} {d : Ds} (hf : fX12_tell_J144 N g x0 y1 d = some ((), dz)) : WB p l e rmX12_tell s m args below meth c 3 D cy B 0 0 (MQ below (QV D cy B g dz) args s 0 0 (wA B)) g d [(0, .ref (ad B x0)), (1, .int y1)] 144 [] := by
  unfold fX12_tell_J144 at hf
  refine b_aload_n C dX12_tell_144 0 rfl rfl ?_
  obtain ⟨h24, hf⟩ := gd_s hf
  obtain ⟨d25, k26, hf⟩ := cv_s hf
  refine b_cVN C [] dX12_tell_145 (kX12_deedRead l D cy B k26) lv_X12_166 ⟨rfl, rfl, Nat.le_of_ble_eq_true rfl, Nat.le_of_ble_eq_true rfl⟩ h24 (by decide) rfl (Nat.le_of_ble_eq_true rfl) ⟨Nat.zero_le _, Nat.zero_le _⟩ rfl ?_
  refine b_sub [(0, .ref (ad B x0)), (1, .int y1)] [0, 1] rfl ?_
  exact tX12_tell_148 C hr hlocks hf
set_option maxRecDepth 100000 in
def fX12_tell_J132 (N : Nat) (g : Gs) (x0 : Nat) (y1 : Int32) (d : Ds) : Option (Unit × Ds) := if y1 = (28 : Int32) then (fX12_tell_J144 N g x0 y1 d) else (if y1 = (29 : Int32) then (fX12_tell_J144 N g x0 y1 d) else (fX12_tell_J148 N g x0 y1 d))
set_option maxHeartbeats 4000000 in
set_option maxRecDepth 100000 in
theorem tX12_tell_132 {p : Program} {l : Launch} {e : Env} {s : State} {m : MethodId} {args : Array Value} {below : List Frame} {meth : Method} {c : Code} {D : va_G} {cy : Nat → ClassId} {B : Bs} (C : Cx p s m args c cX12_tell 3 RX12 D cy B) (hr : meth.sig.returnType = none) (hlocks : meth.locks = false) {N : Nat} {g : Gs} {x0 : Nat}  {dz : Ds} {y1 : Int32} {d : Ds} (hf : fX12_tell_J132 N g x0 y1 d = some ((), dz)) : WB p l e rmX12_tell s m args below meth c 3 D cy B 0 0 (MQ below (QV D cy B g dz) args s 0 0 (wA B)) g d [(0, .ref (ad B x0)), (1, .int y1)] 132 [] := by
  unfold fX12_tell_J132 at hf
  refine b_iload_n C dX12_tell_132 1 rfl rfl ?_
  refine b_bipush C (v := 28) dX12_tell_133 (by decide) ?_
  refine b_icmp_eq C (tgt := 144) dX12_tell_135 (by decide) (fun c23 => ?_) (fun c23 => ?_)
  · have hf := it_s c23 hf
    refine b_sub [(0, .ref (ad B x0)), (1, .int y1)] [0, 1] rfl ?_
    exact tX12_tell_144 C hr hlocks hf
  · have hf := if_s c23 hf
    refine b_iload_n C dX12_tell_138 1 rfl rfl ?_
    refine b_bipush C (v := 29) dX12_tell_139 (by decide) ?_
    refine b_icmp_ne C (tgt := 148) dX12_tell_141 (by decide) (fun c42 => ?_) (fun c42 => ?_)
    · have hf := if_s c42 hf
      refine b_sub [(0, .ref (ad B x0)), (1, .int y1)] [0, 1] rfl ?_
      exact tX12_tell_148 C hr hlocks hf
    · have hf := it_s c42 hf
      refine b_sub [(0, .ref (ad B x0)), (1, .int y1)] [0, 1] rfl ?_
      exact tX12_tell_144 C hr hlocks hf
set_option maxRecDepth 100000 in
def fX12_tell_J127 (N : Nat) (g : Gs) (x0 : Nat) (y1 : Int32) (d : Ds) : Option (Unit × Ds) := gd (chk g x0 11) <| cv (fX12_must N g x0 2 d) fun d21 => (fX12_tell_J132 N g x0 y1 d21)
set_option maxHeartbeats 4000000 in
set_option maxRecDepth 100000 in
theorem tX12_tell_127 {p : Program} {l : Launch} {e : Env} {s : State} {m : MethodId} {args : Array Value} {below : List Frame} {meth : Method} {c : Code} {D : va_G} {cy : Nat → ClassId} {B : Bs} (C : Cx p s m args c cX12_tell 3 RX12 D cy B) (hr : meth.sig.returnType = none) (hlocks : meth.locks = false) {N : Nat} {g : Gs} {x0 : Nat}  {dz : Ds} {y1 : Int32} {d : Ds} (hf : fX12_tell_J127 N g x0 y1 d = some ((), dz)) : WB p l e rmX12_tell s m args below meth c 3 D cy B 0 0 (MQ below (QV D cy B g dz) args s 0 0 (wA B)) g d [(0, .ref (ad B x0)), (1, .int y1)] 127 [] := by
  unfold fX12_tell_J127 at hf
  refine b_aload_n C dX12_tell_127 0 rfl rfl ?_
  refine b_iconst C (v := 2) dX12_tell_128 (by decide) ?_
  obtain ⟨h20, hf⟩ := gd_s hf
  obtain ⟨d21, k22, hf⟩ := cv_s hf
  refine b_cVN C [] dX12_tell_129 (kX12_must l D cy B k22) lv_X12_157 ⟨rfl, rfl, Nat.le_of_ble_eq_true rfl, Nat.le_of_ble_eq_true rfl⟩ h20 (by decide) rfl (Nat.le_of_ble_eq_true rfl) ⟨Nat.zero_le _, Nat.zero_le _⟩ rfl ?_
  refine b_sub [(0, .ref (ad B x0)), (1, .int y1)] [0, 1] rfl ?_
  exact tX12_tell_132 C hr hlocks hf
set_option maxRecDepth 100000 in
def fX12_tell_J109 (N : Nat) (g : Gs) (x0 : Nat) (y1 : Int32) (d : Ds) : Option (Unit × Ds) := if y1 = (27 : Int32) then (fX12_tell_J127 N g x0 y1 d) else (if y1 = (28 : Int32) then (fX12_tell_J127 N g x0 y1 d) else (if y1 = (29 : Int32) then (fX12_tell_J127 N g x0 y1 d) else (fX12_tell_J132 N g x0 y1 d)))
set_option maxHeartbeats 4000000 in
set_option maxRecDepth 100000 in
theorem tX12_tell_109 {p : Program} {l : Launch} {e : Env} {s : State} {m : MethodId} {args : Array Value} {below : List Frame} {meth : Method} {c : Code} {D : va_G} {cy : Nat → ClassId} {B : Bs} (C : Cx p s m args c cX12_tell 3 RX12 D cy B) (hr : meth.sig.returnType = none) (hlocks : meth.locks = false) {N : Nat} {g : Gs} {x0 : Nat}  {dz : Ds} {y1 : Int32} {d : Ds} (hf : fX12_tell_J109 N g x0 y1 d = some ((), dz)) : WB p l e rmX12_tell s m args below meth c 3 D cy B 0 0 (MQ below (QV D cy B g dz) args s 0 0 (wA B)) g d [(0, .ref (ad B x0)), (1, .int y1)] 109 [] := by
  unfold fX12_tell_J109 at hf
  refine b_iload_n C dX12_tell_109 1 rfl rfl ?_
  refine b_bipush C (v := 27) dX12_tell_110 (by decide) ?_
  refine b_icmp_eq C (tgt := 127) dX12_tell_112 (by decide) (fun c19 => ?_) (fun c19 => ?_)
  · have hf := it_s c19 hf
    refine b_sub [(0, .ref (ad B x0)), (1, .int y1)] [0, 1] rfl ?_
    exact tX12_tell_127 C hr hlocks hf
  · have hf := if_s c19 hf
    refine b_iload_n C dX12_tell_115 1 rfl rfl ?_
    refine b_bipush C (v := 28) dX12_tell_116 (by decide) ?_
    refine b_icmp_eq C (tgt := 127) dX12_tell_118 (by decide) (fun c43 => ?_) (fun c43 => ?_)
    · have hf := it_s c43 hf
      refine b_sub [(0, .ref (ad B x0)), (1, .int y1)] [0, 1] rfl ?_
      exact tX12_tell_127 C hr hlocks hf
    · have hf := if_s c43 hf
      refine b_iload_n C dX12_tell_121 1 rfl rfl ?_
      refine b_bipush C (v := 29) dX12_tell_122 (by decide) ?_
      refine b_icmp_ne C (tgt := 132) dX12_tell_124 (by decide) (fun c44 => ?_) (fun c44 => ?_)
      · have hf := if_s c44 hf
        refine b_sub [(0, .ref (ad B x0)), (1, .int y1)] [0, 1] rfl ?_
        exact tX12_tell_132 C hr hlocks hf
      · have hf := it_s c44 hf
        refine b_sub [(0, .ref (ad B x0)), (1, .int y1)] [0, 1] rfl ?_
        exact tX12_tell_127 C hr hlocks hf
set_option maxRecDepth 100000 in
def fX12_tell_J98 (N : Nat) (g : Gs) (x0 : Nat) (y1 : Int32) (d : Ds) : Option (Unit × Ds) := if y1 < (23 : Int32) then (fX12_tell_J109 N g x0 y1 d) else (gd (chk g x0 11) <| cv (fX12_must N g x0 2 d) fun d46 => (fX12_tell_J109 N g x0 y1 d46))
set_option maxHeartbeats 4000000 in
set_option maxRecDepth 100000 in
theorem tX12_tell_98 {p : Program} {l : Launch} {e : Env} {s : State} {m : MethodId} {args : Array Value} {below : List Frame} {meth : Method} {c : Code} {D : va_G} {cy : Nat → ClassId} {B : Bs} (C : Cx p s m args c cX12_tell 3 RX12 D cy B) (hr : meth.sig.returnType = none) (hlocks : meth.locks = false) {N : Nat} {g : Gs} {x0 : Nat}  {dz : Ds} {y1 : Int32} {d : Ds} (hf : fX12_tell_J98 N g x0 y1 d = some ((), dz)) : WB p l e rmX12_tell s m args below meth c 3 D cy B 0 0 (MQ below (QV D cy B g dz) args s 0 0 (wA B)) g d [(0, .ref (ad B x0)), (1, .int y1)] 98 [] := by
  unfold fX12_tell_J98 at hf
  refine b_iload_n C dX12_tell_98 1 rfl rfl ?_
  refine b_bipush C (v := 23) dX12_tell_99 (by decide) ?_
  refine b_icmp_lt C (tgt := 109) dX12_tell_101 (by decide) (fun c18 => ?_) (fun c18 => ?_)
  · have hf := it_s c18 hf
    refine b_sub [(0, .ref (ad B x0)), (1, .int y1)] [0, 1] rfl ?_
    exact tX12_tell_109 C hr hlocks hf
  · have hf := if_s c18 hf
    refine b_aload_n C dX12_tell_104 0 rfl rfl ?_
    refine b_iconst C (v := 2) dX12_tell_105 (by decide) ?_
    obtain ⟨h45, hf⟩ := gd_s hf
    obtain ⟨d46, k47, hf⟩ := cv_s hf
    refine b_cVN C [] dX12_tell_106 (kX12_must l D cy B k47) lv_X12_157 ⟨rfl, rfl, Nat.le_of_ble_eq_true rfl, Nat.le_of_ble_eq_true rfl⟩ h45 (by decide) rfl (Nat.le_of_ble_eq_true rfl) ⟨Nat.zero_le _, Nat.zero_le _⟩ rfl ?_
    refine b_sub [(0, .ref (ad B x0)), (1, .int y1)] [0, 1] rfl ?_
    exact tX12_tell_109 C hr hlocks hf
set_option maxRecDepth 100000 in
def fX12_tell_J82 (N : Nat) (g : Gs) (x0 : Nat) (y1 : Int32) (d : Ds) : Option (Unit × Ds) := if y1 = (30 : Int32) then (gd (chk g x0 11) <| bd (sI d x0 21 ((dI d x0 21) + 1)) fun d49 => (fX12_tell_J98 N g x0 y1 d49)) else (fX12_tell_J98 N g x0 y1 d)
set_option maxHeartbeats 4000000 in
set_option maxRecDepth 100000 in
theorem tX12_tell_82 {p : Program} {l : Launch} {e : Env} {s : State} {m : MethodId} {args : Array Value} {below : List Frame} {meth : Method} {c : Code} {D : va_G} {cy : Nat → ClassId} {B : Bs} (C : Cx p s m args c cX12_tell 3 RX12 D cy B) (hr : meth.sig.returnType = none) (hlocks : meth.locks = false) {N : Nat} {g : Gs} {x0 : Nat}  {dz : Ds} {y1 : Int32} {d : Ds} (hf : fX12_tell_J82 N g x0 y1 d = some ((), dz)) : WB p l e rmX12_tell s m args below meth c 3 D cy B 0 0 (MQ below (QV D cy B g dz) args s 0 0 (wA B)) g d [(0, .ref (ad B x0)), (1, .int y1)] 82 [] := by
  unfold fX12_tell_J82 at hf
  refine b_iload_n C dX12_tell_82 1 rfl rfl ?_
  refine b_bipush C (v := 30) dX12_tell_83 (by decide) ?_
  refine b_icmp_ne C (tgt := 98) dX12_tell_85 (by decide) (fun c17 => ?_) (fun c17 => ?_)
  · have hf := if_s c17 hf
    refine b_sub [(0, .ref (ad B x0)), (1, .int y1)] [0, 1] rfl ?_
    exact tX12_tell_98 C hr hlocks hf
  · have hf := it_s c17 hf
    refine b_aload_n C dX12_tell_88 0 rfl rfl ?_
    refine b_dup C dX12_tell_89 rfl ?_
    obtain ⟨h48, hf⟩ := gd_s hf
    refine b_gI C dX12_tell_90 fl_X12_154 h48 ?_
    refine b_iconst C (v := 1) dX12_tell_93 (by decide) ?_
    refine b_iadd C dX12_tell_94 ?_
    obtain ⟨d49, ed49, hf⟩ := bd_s hf
    refine b_pI C dX12_tell_95 fl_X12_154 fp11_21 h48 ed49 ?_
    refine b_sub [(0, .ref (ad B x0)), (1, .int y1)] [0, 1] rfl ?_
    exact tX12_tell_98 C hr hlocks hf
set_option maxRecDepth 100000 in
def fX12_tell_J62 (N : Nat) (g : Gs) (x0 : Nat) (y1 : Int32) (d : Ds) : Option (Unit × Ds) := gd (chk g x0 11) <| cv (fX12_passes N g x0 d) fun d14 => (if y1 = (29 : Int32) then (bd (sI d14 x0 20 ((dI d14 x0 20) + 1)) fun d50 => (fX12_tell_J82 N g x0 y1 d50)) else (fX12_tell_J82 N g x0 y1 d14))
set_option maxHeartbeats 4000000 in
set_option maxRecDepth 100000 in
theorem tX12_tell_62 {p : Program} {l : Launch} {e : Env} {s : State} {m : MethodId} {args : Array Value} {below : List Frame} {meth : Method} {c : Code} {D : va_G} {cy : Nat → ClassId} {B : Bs} (C : Cx p s m args c cX12_tell 3 RX12 D cy B) (hr : meth.sig.returnType = none) (hlocks : meth.locks = false) {N : Nat} {g : Gs} {x0 : Nat}  {dz : Ds} {y1 : Int32} {d : Ds} (hf : fX12_tell_J62 N g x0 y1 d = some ((), dz)) : WB p l e rmX12_tell s m args below meth c 3 D cy B 0 0 (MQ below (QV D cy B g dz) args s 0 0 (wA B)) g d [(0, .ref (ad B x0)), (1, .int y1)] 62 [] := by
  unfold fX12_tell_J62 at hf
  refine b_aload_n C dX12_tell_62 0 rfl rfl ?_
  obtain ⟨h13, hf⟩ := gd_s hf
  obtain ⟨d14, k15, hf⟩ := cv_s hf
  refine b_cVN C [] dX12_tell_63 (kX12_passes l D cy B k15) lv_X12_145 ⟨rfl, rfl, Nat.le_of_ble_eq_true rfl, Nat.le_of_ble_eq_true rfl⟩ h13 (by decide) rfl (Nat.le_of_ble_eq_true rfl) ⟨Nat.zero_le _, Nat.zero_le _⟩ rfl ?_
  refine b_iload_n C dX12_tell_66 1 rfl rfl ?_
  refine b_bipush C (v := 29) dX12_tell_67 (by decide) ?_
  refine b_icmp_ne C (tgt := 82) dX12_tell_69 (by decide) (fun c16 => ?_) (fun c16 => ?_)
  · have hf := if_s c16 hf
    refine b_sub [(0, .ref (ad B x0)), (1, .int y1)] [0, 1] rfl ?_
    exact tX12_tell_82 C hr hlocks hf
  · have hf := it_s c16 hf
    refine b_aload_n C dX12_tell_72 0 rfl rfl ?_
    refine b_dup C dX12_tell_73 rfl ?_
    refine b_gI C dX12_tell_74 fl_X12_151 h13 ?_
    refine b_iconst C (v := 1) dX12_tell_77 (by decide) ?_
    refine b_iadd C dX12_tell_78 ?_
    obtain ⟨d50, ed50, hf⟩ := bd_s hf
    refine b_pI C dX12_tell_79 fl_X12_151 fp11_20 h13 ed50 ?_
    refine b_sub [(0, .ref (ad B x0)), (1, .int y1)] [0, 1] rfl ?_
    exact tX12_tell_82 C hr hlocks hf
set_option maxRecDepth 100000 in
def fX12_tell_J56 (N : Nat) (g : Gs) (x0 : Nat) (d : Ds) : Option (Unit × Ds) := gd (chk g x0 11) <| cv (fX12_fail N g x0 2 d) fun d54 => (some ((), d54))
set_option maxHeartbeats 4000000 in
set_option maxRecDepth 100000 in
theorem tX12_tell_56 {p : Program} {l : Launch} {e : Env} {s : State} {m : MethodId} {args : Array Value} {below : List Frame} {meth : Method} {c : Code} {D : va_G} {cy : Nat → ClassId} {B : Bs} (C : Cx p s m args c cX12_tell 3 RX12 D cy B) (hr : meth.sig.returnType = none) (hlocks : meth.locks = false) {N : Nat} {g : Gs} {x0 : Nat}  {dz : Ds} {d : Ds} (hf : fX12_tell_J56 N g x0 d = some ((), dz)) : WB p l e rmX12_tell s m args below meth c 3 D cy B 0 0 (MQ below (QV D cy B g dz) args s 0 0 (wA B)) g d [(0, .ref (ad B x0))] 56 [] := by
  unfold fX12_tell_J56 at hf
  refine b_aload_n C dX12_tell_56 0 rfl rfl ?_
  refine b_iconst C (v := 2) dX12_tell_57 (by decide) ?_
  obtain ⟨h53, hf⟩ := gd_s hf
  obtain ⟨d54, k55, hf⟩ := cv_s hf
  refine b_cVN C [] dX12_tell_58 (kX12_fail l D cy B k55) lv_X12_139 ⟨rfl, rfl, Nat.le_of_ble_eq_true rfl, Nat.le_of_ble_eq_true rfl⟩ h53 (by decide) rfl (Nat.le_of_ble_eq_true rfl) ⟨Nat.zero_le _, Nat.zero_le _⟩ rfl ?_
  exact b_vret C hr hlocks hf dX12_tell_61
set_option maxRecDepth 100000 in
def fX12_tell_J42 (N : Nat) (g : Gs) (x0 : Nat) (y1 : Int32) (d : Ds) : Option (Unit × Ds) := if y1 = (30 : Int32) then (gd (chk g x0 11) <| if (dI d x0 21) = (4 : Int32) then (fX12_tell_J56 N g x0 d) else (fX12_tell_J62 N g x0 y1 d)) else (fX12_tell_J62 N g x0 y1 d)
set_option maxHeartbeats 4000000 in
set_option maxRecDepth 100000 in
theorem tX12_tell_42 {p : Program} {l : Launch} {e : Env} {s : State} {m : MethodId} {args : Array Value} {below : List Frame} {meth : Method} {c : Code} {D : va_G} {cy : Nat → ClassId} {B : Bs} (C : Cx p s m args c cX12_tell 3 RX12 D cy B) (hr : meth.sig.returnType = none) (hlocks : meth.locks = false) {N : Nat} {g : Gs} {x0 : Nat}  {dz : Ds} {y1 : Int32} {d : Ds} (hf : fX12_tell_J42 N g x0 y1 d = some ((), dz)) : WB p l e rmX12_tell s m args below meth c 3 D cy B 0 0 (MQ below (QV D cy B g dz) args s 0 0 (wA B)) g d [(0, .ref (ad B x0)), (1, .int y1)] 42 [] := by
  unfold fX12_tell_J42 at hf
  refine b_iload_n C dX12_tell_42 1 rfl rfl ?_
  refine b_bipush C (v := 30) dX12_tell_43 (by decide) ?_
  refine b_icmp_ne C (tgt := 62) dX12_tell_45 (by decide) (fun c12 => ?_) (fun c12 => ?_)
  · have hf := if_s c12 hf
    refine b_sub [(0, .ref (ad B x0)), (1, .int y1)] [0, 1] rfl ?_
    exact tX12_tell_62 C hr hlocks hf
  · have hf := it_s c12 hf
    refine b_aload_n C dX12_tell_48 0 rfl rfl ?_
    obtain ⟨h51, hf⟩ := gd_s hf
    refine b_gI C dX12_tell_49 fl_X12_154 h51 ?_
    refine b_iconst C (v := 4) dX12_tell_52 (by decide) ?_
    refine b_icmp_ne C (tgt := 62) dX12_tell_53 (by decide) (fun c52 => ?_) (fun c52 => ?_)
    · have hf := if_s c52 hf
      refine b_sub [(0, .ref (ad B x0)), (1, .int y1)] [0, 1] rfl ?_
      exact tX12_tell_62 C hr hlocks hf
    · have hf := it_s c52 hf
      refine b_sub [(0, .ref (ad B x0))] [0] rfl ?_
      exact tX12_tell_56 C hr hlocks hf
set_option maxRecDepth 100000 in
def fX12_tell (N : Nat) (g : Gs) (x0 : Nat) (d : Ds) : Option (Unit × Ds) := gd (chk g x0 11) <| ob (gR g x0 5) fun r2 => (gd (chk g r2 102) <| gd (¬ ((dI d x0 11) < 0 ∨ gL g r2 ≤ (dI d x0 11).toNatClampNeg)) <| bd ((dI d r2 (dI d x0 11).toNatClampNeg)) fun u5 => (if u5 ≤ (20 : Int32) then (fX12_tell_J22 N g x0 d) else (if u5 ≤ (30 : Int32) then (if u5 = (29 : Int32) then (if (dI d x0 20) = (4 : Int32) then (fX12_tell_J56 N g x0 d) else (fX12_tell_J42 N g x0 u5 d)) else (fX12_tell_J42 N g x0 u5 d)) else (fX12_tell_J22 N g x0 d))))
set_option maxHeartbeats 4000000 in
set_option maxRecDepth 100000 in
theorem tX12_tell_E {p : Program} {l : Launch} {e : Env} {s : State} {m : MethodId} {args : Array Value} {below : List Frame} {meth : Method} {c : Code} {D : va_G} {cy : Nat → ClassId} {B : Bs} (C : Cx p s m args c cX12_tell 3 RX12 D cy B) (hr : meth.sig.returnType = none) (hlocks : meth.locks = false) {N : Nat} {g : Gs} {x0 : Nat}  {dz : Ds} {d : Ds} (hf : fX12_tell N g x0 d = some ((), dz)) : WB p l e rmX12_tell s m args below meth c 3 D cy B 0 0 (MQ below (QV D cy B g dz) args s 0 0 (wA B)) g d [(0, .ref (ad B x0))] 0 [] := by
  unfold fX12_tell at hf
  refine b_aload_n C dX12_tell_0 0 rfl rfl ?_
  obtain ⟨h1, hf⟩ := gd_s hf
  obtain ⟨r2, er2, hf⟩ := ob_s hf
  refine b_gR C dX12_tell_1 fl_X12_20 h1 er2 ?_
  refine b_aload_n C dX12_tell_4 0 rfl rfl ?_
  refine b_gI C dX12_tell_5 fl_X12_127 h1 ?_
  obtain ⟨h3, hf⟩ := gd_s hf
  obtain ⟨h4, hf⟩ := gd_s hf
  refine b_iald C h3 h4 dX12_tell_8 ?_
  obtain ⟨u5, eu5, hf⟩ := bd_s hf
  refine b_topI eu5 ?_
  refine b_istore_n C dX12_tell_9 rfl [(1, .int u5), (0, .ref (ad B x0))] (by decide) rfl ?_
  refine b_iload_n C dX12_tell_10 0 rfl rfl ?_
  refine b_bipush C (v := 20) dX12_tell_11 (by decide) ?_
  refine b_icmp_le C (tgt := 22) dX12_tell_13 (by decide) (fun c6 => ?_) (fun c6 => ?_)
  · have hf := it_s c6 hf
    refine b_sub [(0, .ref (ad B x0))] [1] rfl ?_
    exact tX12_tell_22 C hr hlocks hf
  · have hf := if_s c6 hf
    refine b_iload_n C dX12_tell_16 0 rfl rfl ?_
    refine b_bipush C (v := 30) dX12_tell_17 (by decide) ?_
    refine b_icmp_le C (tgt := 28) dX12_tell_19 (by decide) (fun c10 => ?_) (fun c10 => ?_)
    · have hf := it_s c10 hf
      refine b_iload_n C dX12_tell_28 0 rfl rfl ?_
      refine b_bipush C (v := 29) dX12_tell_29 (by decide) ?_
      refine b_icmp_ne C (tgt := 42) dX12_tell_31 (by decide) (fun c11 => ?_) (fun c11 => ?_)
      · have hf := if_s c11 hf
        refine b_sub [(0, .ref (ad B x0)), (1, .int u5)] [1, 0] rfl ?_
        exact tX12_tell_42 C hr hlocks hf
      · have hf := it_s c11 hf
        refine b_aload_n C dX12_tell_34 1 rfl rfl ?_
        refine b_gI C dX12_tell_35 fl_X12_151 h1 ?_
        refine b_iconst C (v := 4) dX12_tell_38 (by decide) ?_
        refine b_icmp_eq C (tgt := 56) dX12_tell_39 (by decide) (fun c56 => ?_) (fun c56 => ?_)
        · have hf := it_s c56 hf
          refine b_sub [(0, .ref (ad B x0))] [1] rfl ?_
          exact tX12_tell_56 C hr hlocks hf
        · have hf := if_s c56 hf
          refine b_sub [(0, .ref (ad B x0)), (1, .int u5)] [1, 0] rfl ?_
          exact tX12_tell_42 C hr hlocks hf
    · have hf := if_s c10 hf
      refine b_sub [(0, .ref (ad B x0))] [1] rfl ?_
      exact tX12_tell_22 C hr hlocks hf
theorem kX12_tell (l : Launch) (D : va_G) (cy : Nat → ClassId) (B : Bs) {N : Nat} {g : Gs} {x0 : Nat}  {dz : Ds} {d : Ds} (hf : fX12_tell N g x0 d = some ((), dz)) : Met l yX12_tell (.code yX12_tell cX12_tell 3 none :: wl) rmX12_tell (PC D cy B [.ref (ad B x0)] g d) (QV D cy B g dz) 0 0 (wA B) :=
  met_of (by decide +kernel) (Nat.le_of_ble_eq_true rfl) (fun p e s m args below meth c C hr hlocks _ => b_sub [(0, .ref (ad B x0))] [0] rfl (tX12_tell_E C hr hlocks hf))
/-! KeyMatrixModel.in(III)Z -/
theorem dX12_in_0 : decode cX12_in 0 = .ok (.iload_n 0, 1) := by decide +kernel
theorem dX12_in_1 : decode cX12_in 1 = .ok (.iload_n 1, 1) := by decide +kernel
theorem dX12_in_2 : decode cX12_in 2 = .ok (.if_icmp .lt 12, 3) := by decide +kernel
theorem dX12_in_5 : decode cX12_in 5 = .ok (.iload_n 0, 1) := by decide +kernel
theorem dX12_in_6 : decode cX12_in 6 = .ok (.iload_n 2, 1) := by decide +kernel
theorem dX12_in_7 : decode cX12_in 7 = .ok (.if_icmp .gt 7, 3) := by decide +kernel
theorem dX12_in_10 : decode cX12_in 10 = .ok (.iconst 1, 1) := by decide +kernel
theorem dX12_in_11 : decode cX12_in 11 = .ok (.goto 4, 3) := by decide +kernel
theorem dX12_in_14 : decode cX12_in 14 = .ok (.iconst 0, 1) := by decide +kernel
theorem dX12_in_15 : decode cX12_in 15 = .ok (.ireturn, 1) := by decide +kernel
def rmX12_in : Room := { frames := 0, cells := 0, slots := 0, locals := 0 }
set_option maxRecDepth 100000 in
def fX12_in_J15 (N : Nat) (g : Gs) (x0 : Int32) (x1 : Int32) (x2 : Int32) (z0 : Int32) (d : Ds) : Option (Int32 × Ds) := gd (z0 = 0 ∨ z0 = 1) <| some (z0, d)
set_option maxHeartbeats 4000000 in
set_option maxRecDepth 100000 in
theorem tX12_in_15 {p : Program} {l : Launch} {e : Env} {s : State} {m : MethodId} {args : Array Value} {below : List Frame} {meth : Method} {c : Code} {D : va_G} {cy : Nat → ClassId} {B : Bs} (C : Cx p s m args c cX12_in 3 RX12 D cy B) (hr : meth.sig.returnType = (some .boolean)) (hlocks : meth.locks = false) {N : Nat} {g : Gs} {x0 : Int32} {x1 : Int32} {x2 : Int32} {vz : Int32} {dz : Ds} {z0 : Int32} {d : Ds} (hf : fX12_in_J15 N g x0 x1 x2 z0 d = some (vz, dz)) : WB p l e rmX12_in s m args below meth c 3 D cy B 0 0 (MQ below (QI D cy B vz g dz) args s 0 0 (wA B)) g d [(0, .int x0), (1, .int x1), (2, .int x2)] 15 [.int z0] := by
  unfold fX12_in_J15 at hf
  obtain ⟨h2, hf⟩ := gd_s hf
  exact b_zret C hr hlocks h2 hf dX12_in_15
set_option maxRecDepth 100000 in
def fX12_in_J14 (N : Nat) (g : Gs) (x0 : Int32) (x1 : Int32) (x2 : Int32) (d : Ds) : Option (Int32 × Ds) := fX12_in_J15 N g x0 x1 x2 0 d
set_option maxHeartbeats 4000000 in
set_option maxRecDepth 100000 in
theorem tX12_in_14 {p : Program} {l : Launch} {e : Env} {s : State} {m : MethodId} {args : Array Value} {below : List Frame} {meth : Method} {c : Code} {D : va_G} {cy : Nat → ClassId} {B : Bs} (C : Cx p s m args c cX12_in 3 RX12 D cy B) (hr : meth.sig.returnType = (some .boolean)) (hlocks : meth.locks = false) {N : Nat} {g : Gs} {x0 : Int32} {x1 : Int32} {x2 : Int32} {vz : Int32} {dz : Ds} {d : Ds} (hf : fX12_in_J14 N g x0 x1 x2 d = some (vz, dz)) : WB p l e rmX12_in s m args below meth c 3 D cy B 0 0 (MQ below (QI D cy B vz g dz) args s 0 0 (wA B)) g d [(0, .int x0), (1, .int x1), (2, .int x2)] 14 [] := by
  unfold fX12_in_J14 at hf
  refine b_iconst C (v := 0) dX12_in_14 (by decide) ?_
  refine b_sub [(0, .int x0), (1, .int x1), (2, .int x2)] [0, 1, 2] rfl ?_
  exact tX12_in_15 C hr hlocks hf
set_option maxRecDepth 100000 in
def fX12_in (N : Nat) (g : Gs) (x0 : Int32) (x1 : Int32) (x2 : Int32) (d : Ds) : Option (Int32 × Ds) := if x0 < x1 then (fX12_in_J14 N g x0 x1 x2 d) else (if x2 < x0 then (fX12_in_J14 N g x0 x1 x2 d) else (fX12_in_J15 N g x0 x1 x2 1 d))
set_option maxHeartbeats 4000000 in
set_option maxRecDepth 100000 in
theorem tX12_in_E {p : Program} {l : Launch} {e : Env} {s : State} {m : MethodId} {args : Array Value} {below : List Frame} {meth : Method} {c : Code} {D : va_G} {cy : Nat → ClassId} {B : Bs} (C : Cx p s m args c cX12_in 3 RX12 D cy B) (hr : meth.sig.returnType = (some .boolean)) (hlocks : meth.locks = false) {N : Nat} {g : Gs} {x0 : Int32} {x1 : Int32} {x2 : Int32} {vz : Int32} {dz : Ds} {d : Ds} (hf : fX12_in N g x0 x1 x2 d = some (vz, dz)) : WB p l e rmX12_in s m args below meth c 3 D cy B 0 0 (MQ below (QI D cy B vz g dz) args s 0 0 (wA B)) g d [(0, .int x0), (1, .int x1), (2, .int x2)] 0 [] := by
  unfold fX12_in at hf
  refine b_iload_n C dX12_in_0 0 rfl rfl ?_
  refine b_iload_n C dX12_in_1 1 rfl rfl ?_
  refine b_icmp_lt C (tgt := 14) dX12_in_2 (by decide) (fun c1 => ?_) (fun c1 => ?_)
  · have hf := it_s c1 hf
    refine b_sub [(0, .int x0), (1, .int x1), (2, .int x2)] [0, 1, 2] rfl ?_
    exact tX12_in_14 C hr hlocks hf
  · have hf := if_s c1 hf
    refine b_iload_n C dX12_in_5 0 rfl rfl ?_
    refine b_iload_n C dX12_in_6 2 rfl rfl ?_
    refine b_icmp_gt C (tgt := 14) dX12_in_7 (by decide) (fun c3 => ?_) (fun c3 => ?_)
    · have hf := it_s c3 hf
      refine b_sub [(0, .int x0), (1, .int x1), (2, .int x2)] [0, 1, 2] rfl ?_
      exact tX12_in_14 C hr hlocks hf
    · have hf := if_s c3 hf
      refine b_iconst C (v := 1) dX12_in_10 (by decide) ?_
      refine b_goto C (tgt := 15) dX12_in_11 (by decide) ?_
      refine b_sub [(0, .int x0), (1, .int x1), (2, .int x2)] [0, 1, 2] rfl ?_
      exact tX12_in_15 C hr hlocks hf
theorem kX12_in (l : Launch) (D : va_G) (cy : Nat → ClassId) (B : Bs) {N : Nat} {g : Gs} {x0 : Int32} {x1 : Int32} {x2 : Int32} {vz : Int32} {dz : Ds} {d : Ds} (hf : fX12_in N g x0 x1 x2 d = some (vz, dz)) : Met l yX12_in (.code yX12_in cX12_in 3 (some .boolean) :: wl) rmX12_in (PC D cy B [.int x0, .int x1, .int x2] g d) (QI D cy B vz g dz) 0 0 (wA B) :=
  met_of (by decide +kernel) (Nat.le_of_ble_eq_true rfl) (fun p e s m args below meth c C hr hlocks _ => b_sub [(0, .int x0), (1, .int x1), (2, .int x2)] [0, 1, 2] rfl (tX12_in_E C hr hlocks hf))
/-! KeyMatrixModel.within(III)I -/
theorem yo_X12_in : yX12_in.cls ≠ "java/lang/invoke/MethodHandle" ∧ yX12_in.cls ≠ "java/lang/invoke/VarHandle" ∧ (parseMethodDescriptor yX12_in.desc).map (fun d => d.parameters.length) = some 3 := by decide +kernel
theorem co_X12_in : Cond.code yX12_in cX12_in 3 (some .boolean) ∈ wl := mW (mT6 (List.mem_of_getElem? (i := 25) (by decide +kernel))) rfl
theorem in_X12_in : Cond.initialized yX12_in.cls ∈ wl := mW (mT1 (List.mem_of_getElem? (i := 12) (by decide +kernel))) rfl
theorem st_X12_in : Cond.static yX12_in ∈ wl := mW (mT6 (List.mem_of_getElem? (i := 24) (by decide +kernel))) rfl
theorem lv_X12_169 : LSt RX12 169 yX12_in cX12_in 3 (some .boolean) 3 := ⟨yo_X12_in, Or.inl (mW (mT6 (List.mem_of_getElem? (i := 23) (by decide +kernel))) rfl), st_X12_in, in_X12_in, co_X12_in⟩
theorem yo_X12_wrong : yX12_wrong.cls ≠ "java/lang/invoke/MethodHandle" ∧ yX12_wrong.cls ≠ "java/lang/invoke/VarHandle" ∧ (parseMethodDescriptor yX12_wrong.desc).map (fun d => d.parameters.length) = some 2 := by decide +kernel
theorem co_X12_wrong : Cond.code yX12_wrong cX12_wrong 4 none ∈ wl := mW (mT6 (List.mem_of_getElem? (i := 29) (by decide +kernel))) rfl
theorem in_X12_wrong : Cond.initialized yX12_wrong.cls ∈ wl := mW (mT1 (List.mem_of_getElem? (i := 12) (by decide +kernel))) rfl
theorem im_X12_wrong : Cond.instanceMethod yX12_wrong ∈ wl := mW (mT6 (List.mem_of_getElem? (i := 28) (by decide +kernel))) rfl
theorem se_X12_wrong : Cond.selects yX12_wrong.cls yX12_wrong yX12_wrong ∈ wl := mW (mT0 (List.mem_of_getElem? (i := 45) (by decide +kernel))) rfl
theorem lv_X12_173 : LV RX12 173 yX12_wrong cX12_wrong 4 none 2 11 := ⟨⟨(RX12, TX12, 33), rfl, rfl⟩, yo_X12_wrong, mW (mT6 (List.mem_of_getElem? (i := 26) (by decide +kernel))) rfl, im_X12_wrong, se_X12_wrong, in_X12_wrong, co_X12_wrong⟩
theorem dX12_within_0 : decode cX12_within 0 = .ok (.aload_n 0, 1) := by decide +kernel
theorem dX12_within_1 : decode cX12_within 1 = .ok (.getfield 27, 3) := by decide +kernel
theorem dX12_within_4 : decode cX12_within 4 = .ok (.iload_n 1, 1) := by decide +kernel
theorem dX12_within_5 : decode cX12_within 5 = .ok (.iaload, 1) := by decide +kernel
theorem dX12_within_6 : decode cX12_within 6 = .ok (.iload_n 2, 1) := by decide +kernel
theorem dX12_within_7 : decode cX12_within 7 = .ok (.iload_n 3, 1) := by decide +kernel
theorem dX12_within_8 : decode cX12_within 8 = .ok (.invokestatic 169, 3) := by decide +kernel
theorem dX12_within_11 : decode cX12_within 11 = .ok (.ifCond .ne 9, 3) := by decide +kernel
theorem dX12_within_14 : decode cX12_within 14 = .ok (.aload_n 0, 1) := by decide +kernel
theorem dX12_within_15 : decode cX12_within 15 = .ok (.iconst 5, 1) := by decide +kernel
theorem dX12_within_16 : decode cX12_within 16 = .ok (.iload_n 1, 1) := by decide +kernel
theorem dX12_within_17 : decode cX12_within 17 = .ok (.invokevirtual 173, 3) := by decide +kernel
theorem dX12_within_20 : decode cX12_within 20 = .ok (.aload_n 0, 1) := by decide +kernel
theorem dX12_within_21 : decode cX12_within 21 = .ok (.getfield 27, 3) := by decide +kernel
theorem dX12_within_24 : decode cX12_within 24 = .ok (.iload_n 1, 1) := by decide +kernel
theorem dX12_within_25 : decode cX12_within 25 = .ok (.iaload, 1) := by decide +kernel
theorem dX12_within_26 : decode cX12_within 26 = .ok (.ireturn, 1) := by decide +kernel
def rmX12_within : Room := { frames := 1, cells := 0, slots := 0, locals := 23 }
set_option maxRecDepth 100000 in
def fX12_within_J20 (N : Nat) (g : Gs) (x0 : Nat) (x1 : Int32) (x2 : Int32) (x3 : Int32) (d : Ds) : Option (Int32 × Ds) := gd (chk g x0 11) <| ob (gR g x0 7) fun r10 => (gd (chk g r10 102) <| gd (¬ (x1 < 0 ∨ gL g r10 ≤ x1.toNatClampNeg)) <| some ((dI d r10 x1.toNatClampNeg), d))
set_option maxHeartbeats 4000000 in
set_option maxRecDepth 100000 in
theorem tX12_within_20 {p : Program} {l : Launch} {e : Env} {s : State} {m : MethodId} {args : Array Value} {below : List Frame} {meth : Method} {c : Code} {D : va_G} {cy : Nat → ClassId} {B : Bs} (C : Cx p s m args c cX12_within 4 RX12 D cy B) (hr : meth.sig.returnType = (some .int)) (hlocks : meth.locks = false) {N : Nat} {g : Gs} {x0 : Nat} {x1 : Int32} {x2 : Int32} {x3 : Int32} {vz : Int32} {dz : Ds} {d : Ds} (hf : fX12_within_J20 N g x0 x1 x2 x3 d = some (vz, dz)) : WB p l e rmX12_within s m args below meth c 4 D cy B 0 0 (MQ below (QI D cy B vz g dz) args s 0 0 (wA B)) g d [(0, .ref (ad B x0)), (1, .int x1), (2, .int x2), (3, .int x3)] 20 [] := by
  unfold fX12_within_J20 at hf
  refine b_aload_n C dX12_within_20 0 rfl rfl ?_
  obtain ⟨h9, hf⟩ := gd_s hf
  obtain ⟨r10, er10, hf⟩ := ob_s hf
  refine b_gR C dX12_within_21 fl_X12_27 h9 er10 ?_
  refine b_iload_n C dX12_within_24 1 rfl rfl ?_
  obtain ⟨h11, hf⟩ := gd_s hf
  obtain ⟨h12, hf⟩ := gd_s hf
  refine b_iald C h11 h12 dX12_within_25 ?_
  exact b_iret C hr hlocks hf dX12_within_26
set_option maxRecDepth 100000 in
def fX12_within (N : Nat) (g : Gs) (x0 : Nat) (x1 : Int32) (x2 : Int32) (x3 : Int32) (d : Ds) : Option (Int32 × Ds) := gd (chk g x0 11) <| ob (gR g x0 7) fun r2 => (gd (chk g r2 102) <| gd (¬ (x1 < 0 ∨ gL g r2 ≤ x1.toNatClampNeg)) <| cb (fX12_in N g (dI d r2 x1.toNatClampNeg) x2 x3 d) fun u7 d5 => (if u7 = 0 then (cv (fX12_wrong N g x0 5 x1 d5) fun d13 => (fX12_within_J20 N g x0 x1 x2 x3 d13)) else (fX12_within_J20 N g x0 x1 x2 x3 d5)))
set_option maxHeartbeats 4000000 in
set_option maxRecDepth 100000 in
theorem tX12_within_E {p : Program} {l : Launch} {e : Env} {s : State} {m : MethodId} {args : Array Value} {below : List Frame} {meth : Method} {c : Code} {D : va_G} {cy : Nat → ClassId} {B : Bs} (C : Cx p s m args c cX12_within 4 RX12 D cy B) (hr : meth.sig.returnType = (some .int)) (hlocks : meth.locks = false) {N : Nat} {g : Gs} {x0 : Nat} {x1 : Int32} {x2 : Int32} {x3 : Int32} {vz : Int32} {dz : Ds} {d : Ds} (hf : fX12_within N g x0 x1 x2 x3 d = some (vz, dz)) : WB p l e rmX12_within s m args below meth c 4 D cy B 0 0 (MQ below (QI D cy B vz g dz) args s 0 0 (wA B)) g d [(0, .ref (ad B x0)), (1, .int x1), (2, .int x2), (3, .int x3)] 0 [] := by
  unfold fX12_within at hf
  refine b_aload_n C dX12_within_0 0 rfl rfl ?_
  obtain ⟨h1, hf⟩ := gd_s hf
  obtain ⟨r2, er2, hf⟩ := ob_s hf
  refine b_gR C dX12_within_1 fl_X12_27 h1 er2 ?_
  refine b_iload_n C dX12_within_4 1 rfl rfl ?_
  obtain ⟨h3, hf⟩ := gd_s hf
  obtain ⟨h4, hf⟩ := gd_s hf
  refine b_iald C h3 h4 dX12_within_5 ?_
  refine b_iload_n C dX12_within_6 2 rfl rfl ?_
  refine b_iload_n C dX12_within_7 3 rfl rfl ?_
  obtain ⟨u7, d5, k6, hf⟩ := cb_s hf
  refine b_cSI C [] dX12_within_8 (kX12_in l D cy B k6) lv_X12_169 ⟨rfl, rfl, Nat.le_of_ble_eq_true rfl, Nat.le_of_ble_eq_true rfl⟩ rfl (Nat.le_of_ble_eq_true rfl) ⟨Nat.zero_le _, Nat.zero_le _⟩ rfl ?_
  refine b_if_ne C (tgt := 20) dX12_within_11 (by decide) (fun c8 => ?_) (fun c8 => ?_)
  · have hf := if_s c8 hf
    refine b_sub [(0, .ref (ad B x0)), (1, .int x1), (2, .int x2), (3, .int x3)] [0, 1, 2, 3] rfl ?_
    exact tX12_within_20 C hr hlocks hf
  · have hf := it_s c8 hf
    refine b_aload_n C dX12_within_14 0 rfl rfl ?_
    refine b_iconst C (v := 5) dX12_within_15 (by decide) ?_
    refine b_iload_n C dX12_within_16 1 rfl rfl ?_
    obtain ⟨d13, k14, hf⟩ := cv_s hf
    refine b_cVN C [] dX12_within_17 (kX12_wrong l D cy B k14) lv_X12_173 ⟨rfl, rfl, Nat.le_of_ble_eq_true rfl, Nat.le_of_ble_eq_true rfl⟩ h1 (by decide) rfl (Nat.le_of_ble_eq_true rfl) ⟨Nat.zero_le _, Nat.zero_le _⟩ rfl ?_
    refine b_sub [(0, .ref (ad B x0)), (1, .int x1), (2, .int x2), (3, .int x3)] [0, 1, 2, 3] rfl ?_
    exact tX12_within_20 C hr hlocks hf
theorem kX12_within (l : Launch) (D : va_G) (cy : Nat → ClassId) (B : Bs) {N : Nat} {g : Gs} {x0 : Nat} {x1 : Int32} {x2 : Int32} {x3 : Int32} {vz : Int32} {dz : Ds} {d : Ds} (hf : fX12_within N g x0 x1 x2 x3 d = some (vz, dz)) : Met l yX12_within (.code yX12_within cX12_within 4 (some .int) :: wl) rmX12_within (PC D cy B [.ref (ad B x0), .int x1, .int x2, .int x3] g d) (QI D cy B vz g dz) 0 0 (wA B) :=
  met_of (by decide +kernel) (Nat.le_of_ble_eq_true rfl) (fun p e s m args below meth c C hr hlocks _ => b_sub [(0, .ref (ad B x0)), (1, .int x1), (2, .int x2), (3, .int x3)] [0, 1, 2, 3] rfl (tX12_within_E C hr hlocks hf))
/-! KeyMatrixModel.keyTold(I)I -/
theorem fl_X12_181 : FLI RX12 181 11 22 := ⟨⟨RX12, TX12, 33, rfl, by decide, inl11, Or.inl (mW (mT5 (List.mem_of_getElem? (i := 113) (by decide +kernel))) rfl)⟩, by decide, by decide +kernel⟩
theorem fl_X12_43 : FLR RX12 43 11 18 := ⟨⟨RX12, TX12, 33, rfl, by decide, inl11, Or.inl (mW (mT5 (List.mem_of_getElem? (i := 109) (by decide +kernel))) rfl)⟩, by decide, by decide +kernel⟩
theorem yo_X12_within : yX12_within.cls ≠ "java/lang/invoke/MethodHandle" ∧ yX12_within.cls ≠ "java/lang/invoke/VarHandle" ∧ (parseMethodDescriptor yX12_within.desc).map (fun d => d.parameters.length) = some 3 := by decide +kernel
theorem co_X12_within : Cond.code yX12_within cX12_within 4 (some .int) ∈ wl := mW (mT6 (List.mem_of_getElem? (i := 22) (by decide +kernel))) rfl
theorem in_X12_within : Cond.initialized yX12_within.cls ∈ wl := mW (mT1 (List.mem_of_getElem? (i := 12) (by decide +kernel))) rfl
theorem im_X12_within : Cond.instanceMethod yX12_within ∈ wl := mW (mT6 (List.mem_of_getElem? (i := 21) (by decide +kernel))) rfl
theorem se_X12_within : Cond.selects yX12_within.cls yX12_within yX12_within ∈ wl := mW (mT0 (List.mem_of_getElem? (i := 44) (by decide +kernel))) rfl
theorem lv_X12_177 : LV RX12 177 yX12_within cX12_within 4 (some .int) 3 11 := ⟨⟨(RX12, TX12, 33), rfl, rfl⟩, yo_X12_within, mW (mT6 (List.mem_of_getElem? (i := 19) (by decide +kernel))) rfl, im_X12_within, se_X12_within, in_X12_within, co_X12_within⟩
theorem dX12_keyTold_0 : decode cX12_keyTold 0 = .ok (.aload_n 0, 1) := by decide +kernel
theorem dX12_keyTold_1 : decode cX12_keyTold 1 = .ok (.getfield 181, 3) := by decide +kernel
theorem dX12_keyTold_4 : decode cX12_keyTold 4 = .ok (.ifCond .eq 27, 3) := by decide +kernel
theorem dX12_keyTold_7 : decode cX12_keyTold 7 = .ok (.aload_n 0, 1) := by decide +kernel
theorem dX12_keyTold_8 : decode cX12_keyTold 8 = .ok (.iload_n 1, 1) := by decide +kernel
theorem dX12_keyTold_9 : decode cX12_keyTold 9 = .ok (.iconst 0, 1) := by decide +kernel
theorem dX12_keyTold_10 : decode cX12_keyTold 10 = .ok (.aload_n 0, 1) := by decide +kernel
theorem dX12_keyTold_11 : decode cX12_keyTold 11 = .ok (.getfield 43, 3) := by decide +kernel
theorem dX12_keyTold_14 : decode cX12_keyTold 14 = .ok (.iconst 0, 1) := by decide +kernel
theorem dX12_keyTold_15 : decode cX12_keyTold 15 = .ok (.iaload, 1) := by decide +kernel
theorem dX12_keyTold_16 : decode cX12_keyTold 16 = .ok (.aload_n 0, 1) := by decide +kernel
theorem dX12_keyTold_17 : decode cX12_keyTold 17 = .ok (.getfield 43, 3) := by decide +kernel
theorem dX12_keyTold_20 : decode cX12_keyTold 20 = .ok (.iconst 1, 1) := by decide +kernel
theorem dX12_keyTold_21 : decode cX12_keyTold 21 = .ok (.iaload, 1) := by decide +kernel
theorem dX12_keyTold_22 : decode cX12_keyTold 22 = .ok (.imul, 1) := by decide +kernel
theorem dX12_keyTold_23 : decode cX12_keyTold 23 = .ok (.iconst 1, 1) := by decide +kernel
theorem dX12_keyTold_24 : decode cX12_keyTold 24 = .ok (.isub, 1) := by decide +kernel
theorem dX12_keyTold_25 : decode cX12_keyTold 25 = .ok (.invokevirtual 177, 3) := by decide +kernel
theorem dX12_keyTold_28 : decode cX12_keyTold 28 = .ok (.goto 4, 3) := by decide +kernel
theorem dX12_keyTold_31 : decode cX12_keyTold 31 = .ok (.iconst 0, 1) := by decide +kernel
theorem dX12_keyTold_32 : decode cX12_keyTold 32 = .ok (.ireturn, 1) := by decide +kernel
def rmX12_keyTold : Room := { frames := 2, cells := 0, slots := 0, locals := 46 }
set_option maxRecDepth 100000 in
def fX12_keyTold_J32 (N : Nat) (g : Gs) (x0 : Nat) (x1 : Int32) (z0 : Int32) (d : Ds) : Option (Int32 × Ds) := some (z0, d)
set_option maxHeartbeats 4000000 in
set_option maxRecDepth 100000 in
theorem tX12_keyTold_32 {p : Program} {l : Launch} {e : Env} {s : State} {m : MethodId} {args : Array Value} {below : List Frame} {meth : Method} {c : Code} {D : va_G} {cy : Nat → ClassId} {B : Bs} (C : Cx p s m args c cX12_keyTold 2 RX12 D cy B) (hr : meth.sig.returnType = (some .int)) (hlocks : meth.locks = false) {N : Nat} {g : Gs} {x0 : Nat} {x1 : Int32} {vz : Int32} {dz : Ds} {z0 : Int32} {d : Ds} (hf : fX12_keyTold_J32 N g x0 x1 z0 d = some (vz, dz)) : WB p l e rmX12_keyTold s m args below meth c 2 D cy B 0 0 (MQ below (QI D cy B vz g dz) args s 0 0 (wA B)) g d [(0, .ref (ad B x0)), (1, .int x1)] 32 [.int z0] := by
  unfold fX12_keyTold_J32 at hf
  exact b_iret C hr hlocks hf dX12_keyTold_32
set_option maxRecDepth 100000 in
def fX12_keyTold (N : Nat) (g : Gs) (x0 : Nat) (x1 : Int32) (d : Ds) : Option (Int32 × Ds) := gd (chk g x0 11) <| if (dI d x0 22) = 0 then (fX12_keyTold_J32 N g x0 x1 0 d) else (ob (gR g x0 18) fun r3 => (gd (chk g r3 102) <| gd (¬ ((0 : Int32) < 0 ∨ gL g r3 ≤ (0 : Int32).toNatClampNeg)) <| gd (¬ ((1 : Int32) < 0 ∨ gL g r3 ≤ (1 : Int32).toNatClampNeg)) <| cb (fX12_within N g x0 x1 0 (((dI d r3 (0 : Int32).toNatClampNeg) * (dI d r3 (1 : Int32).toNatClampNeg)) - 1) d) fun u9 d7 => (fX12_keyTold_J32 N g x0 x1 u9 d7)))
set_option maxHeartbeats 4000000 in
set_option maxRecDepth 100000 in
theorem tX12_keyTold_E {p : Program} {l : Launch} {e : Env} {s : State} {m : MethodId} {args : Array Value} {below : List Frame} {meth : Method} {c : Code} {D : va_G} {cy : Nat → ClassId} {B : Bs} (C : Cx p s m args c cX12_keyTold 2 RX12 D cy B) (hr : meth.sig.returnType = (some .int)) (hlocks : meth.locks = false) {N : Nat} {g : Gs} {x0 : Nat} {x1 : Int32} {vz : Int32} {dz : Ds} {d : Ds} (hf : fX12_keyTold N g x0 x1 d = some (vz, dz)) : WB p l e rmX12_keyTold s m args below meth c 2 D cy B 0 0 (MQ below (QI D cy B vz g dz) args s 0 0 (wA B)) g d [(0, .ref (ad B x0)), (1, .int x1)] 0 [] := by
  unfold fX12_keyTold at hf
  refine b_aload_n C dX12_keyTold_0 0 rfl rfl ?_
  obtain ⟨h1, hf⟩ := gd_s hf
  refine b_gI C dX12_keyTold_1 fl_X12_181 h1 ?_
  refine b_if_eq C (tgt := 31) dX12_keyTold_4 (by decide) (fun c2 => ?_) (fun c2 => ?_)
  · have hf := it_s c2 hf
    refine b_iconst C (v := 0) dX12_keyTold_31 (by decide) ?_
    refine b_sub [(0, .ref (ad B x0)), (1, .int x1)] [0, 1] rfl ?_
    exact tX12_keyTold_32 C hr hlocks hf
  · have hf := if_s c2 hf
    refine b_aload_n C dX12_keyTold_7 0 rfl rfl ?_
    refine b_iload_n C dX12_keyTold_8 1 rfl rfl ?_
    refine b_iconst C (v := 0) dX12_keyTold_9 (by decide) ?_
    refine b_aload_n C dX12_keyTold_10 0 rfl rfl ?_
    obtain ⟨r3, er3, hf⟩ := ob_s hf
    refine b_gR C dX12_keyTold_11 fl_X12_43 h1 er3 ?_
    refine b_iconst C (v := 0) dX12_keyTold_14 (by decide) ?_
    obtain ⟨h4, hf⟩ := gd_s hf
    obtain ⟨h5, hf⟩ := gd_s hf
    refine b_iald C h4 h5 dX12_keyTold_15 ?_
    refine b_aload_n C dX12_keyTold_16 0 rfl rfl ?_
    refine b_gR C dX12_keyTold_17 fl_X12_43 h1 er3 ?_
    refine b_iconst C (v := 1) dX12_keyTold_20 (by decide) ?_
    obtain ⟨h6, hf⟩ := gd_s hf
    refine b_iald C h4 h6 dX12_keyTold_21 ?_
    refine b_imul C dX12_keyTold_22 ?_
    refine b_iconst C (v := 1) dX12_keyTold_23 (by decide) ?_
    refine b_isub C dX12_keyTold_24 ?_
    obtain ⟨u9, d7, k8, hf⟩ := cb_s hf
    refine b_cVI C [] dX12_keyTold_25 (kX12_within l D cy B k8) lv_X12_177 ⟨rfl, rfl, Nat.le_of_ble_eq_true rfl, Nat.le_of_ble_eq_true rfl⟩ h1 (by decide) rfl (Nat.le_of_ble_eq_true rfl) ⟨Nat.zero_le _, Nat.zero_le _⟩ rfl ?_
    refine b_goto C (tgt := 32) dX12_keyTold_28 (by decide) ?_
    refine b_sub [(0, .ref (ad B x0)), (1, .int x1)] [0, 1] rfl ?_
    exact tX12_keyTold_32 C hr hlocks hf
theorem kX12_keyTold (l : Launch) (D : va_G) (cy : Nat → ClassId) (B : Bs) {N : Nat} {g : Gs} {x0 : Nat} {x1 : Int32} {vz : Int32} {dz : Ds} {d : Ds} (hf : fX12_keyTold N g x0 x1 d = some (vz, dz)) : Met l yX12_keyTold (.code yX12_keyTold cX12_keyTold 2 (some .int) :: wl) rmX12_keyTold (PC D cy B [.ref (ad B x0), .int x1] g d) (QI D cy B vz g dz) 0 0 (wA B) :=
  met_of (by decide +kernel) (Nat.le_of_ble_eq_true rfl) (fun p e s m args below meth c C hr hlocks _ => b_sub [(0, .ref (ad B x0)), (1, .int x1)] [0, 1] rfl (tX12_keyTold_E C hr hlocks hf))
/-! KeyMatrixModel.meansDeed(I)V -/
theorem fl_X12_50 : FLR RX12 50 11 23 := ⟨⟨RX12, TX12, 33, rfl, by decide, inl11, Or.inl (mW (mT5 (List.mem_of_getElem? (i := 114) (by decide +kernel))) rfl)⟩, by decide, by decide +kernel⟩
theorem dX12_meansDeed_0 : decode cX12_meansDeed 0 = .ok (.aload_n 0, 1) := by decide +kernel
theorem dX12_meansDeed_1 : decode cX12_meansDeed 1 = .ok (.getfield 50, 3) := by decide +kernel
theorem dX12_meansDeed_4 : decode cX12_meansDeed 4 = .ok (.iconst 1, 1) := by decide +kernel
theorem dX12_meansDeed_5 : decode cX12_meansDeed 5 = .ok (.iconst (-1), 1) := by decide +kernel
theorem dX12_meansDeed_6 : decode cX12_meansDeed 6 = .ok (.iastore, 1) := by decide +kernel
theorem dX12_meansDeed_7 : decode cX12_meansDeed 7 = .ok (.aload_n 0, 1) := by decide +kernel
theorem dX12_meansDeed_8 : decode cX12_meansDeed 8 = .ok (.getfield 50, 3) := by decide +kernel
theorem dX12_meansDeed_11 : decode cX12_meansDeed 11 = .ok (.iconst 2, 1) := by decide +kernel
theorem dX12_meansDeed_12 : decode cX12_meansDeed 12 = .ok (.iconst (-1), 1) := by decide +kernel
theorem dX12_meansDeed_13 : decode cX12_meansDeed 13 = .ok (.iastore, 1) := by decide +kernel
theorem dX12_meansDeed_14 : decode cX12_meansDeed 14 = .ok (.aload_n 0, 1) := by decide +kernel
theorem dX12_meansDeed_15 : decode cX12_meansDeed 15 = .ok (.getfield 20, 3) := by decide +kernel
theorem dX12_meansDeed_18 : decode cX12_meansDeed 18 = .ok (.iload_n 1, 1) := by decide +kernel
theorem dX12_meansDeed_19 : decode cX12_meansDeed 19 = .ok (.iaload, 1) := by decide +kernel
theorem dX12_meansDeed_20 : decode cX12_meansDeed 20 = .ok (.tableswitch 304 31 38 #[48, 75, 101, 126, 151, 161, 171, 259], 48) := by decide +kernel
theorem dX12_meansDeed_68 : decode cX12_meansDeed 68 = .ok (.aload_n 0, 1) := by decide +kernel
theorem dX12_meansDeed_69 : decode cX12_meansDeed 69 = .ok (.getfield 50, 3) := by decide +kernel
theorem dX12_meansDeed_72 : decode cX12_meansDeed 72 = .ok (.iconst 0, 1) := by decide +kernel
theorem dX12_meansDeed_73 : decode cX12_meansDeed 73 = .ok (.iconst 0, 1) := by decide +kernel
theorem dX12_meansDeed_74 : decode cX12_meansDeed 74 = .ok (.iastore, 1) := by decide +kernel
theorem dX12_meansDeed_75 : decode cX12_meansDeed 75 = .ok (.aload_n 0, 1) := by decide +kernel
theorem dX12_meansDeed_76 : decode cX12_meansDeed 76 = .ok (.getfield 50, 3) := by decide +kernel
theorem dX12_meansDeed_79 : decode cX12_meansDeed 79 = .ok (.iconst 1, 1) := by decide +kernel
theorem dX12_meansDeed_80 : decode cX12_meansDeed 80 = .ok (.aload_n 0, 1) := by decide +kernel
theorem dX12_meansDeed_81 : decode cX12_meansDeed 81 = .ok (.iload_n 1, 1) := by decide +kernel
theorem dX12_meansDeed_82 : decode cX12_meansDeed 82 = .ok (.iconst 1, 1) := by decide +kernel
theorem dX12_meansDeed_83 : decode cX12_meansDeed 83 = .ok (.iadd, 1) := by decide +kernel
theorem dX12_meansDeed_84 : decode cX12_meansDeed 84 = .ok (.iconst 1, 1) := by decide +kernel
theorem dX12_meansDeed_85 : decode cX12_meansDeed 85 = .ok (.sipush 200, 3) := by decide +kernel
theorem dX12_meansDeed_88 : decode cX12_meansDeed 88 = .ok (.invokevirtual 177, 3) := by decide +kernel
theorem dX12_meansDeed_91 : decode cX12_meansDeed 91 = .ok (.iastore, 1) := by decide +kernel
theorem dX12_meansDeed_92 : decode cX12_meansDeed 92 = .ok (.goto 255, 3) := by decide +kernel
theorem dX12_meansDeed_95 : decode cX12_meansDeed 95 = .ok (.aload_n 0, 1) := by decide +kernel
theorem dX12_meansDeed_96 : decode cX12_meansDeed 96 = .ok (.getfield 50, 3) := by decide +kernel
theorem dX12_meansDeed_99 : decode cX12_meansDeed 99 = .ok (.iconst 0, 1) := by decide +kernel
theorem dX12_meansDeed_100 : decode cX12_meansDeed 100 = .ok (.iconst 1, 1) := by decide +kernel
theorem dX12_meansDeed_101 : decode cX12_meansDeed 101 = .ok (.iastore, 1) := by decide +kernel
theorem dX12_meansDeed_102 : decode cX12_meansDeed 102 = .ok (.aload_n 0, 1) := by decide +kernel
theorem dX12_meansDeed_103 : decode cX12_meansDeed 103 = .ok (.getfield 50, 3) := by decide +kernel
theorem dX12_meansDeed_106 : decode cX12_meansDeed 106 = .ok (.iconst 1, 1) := by decide +kernel
theorem dX12_meansDeed_107 : decode cX12_meansDeed 107 = .ok (.aload_n 0, 1) := by decide +kernel
theorem dX12_meansDeed_108 : decode cX12_meansDeed 108 = .ok (.iload_n 1, 1) := by decide +kernel
theorem dX12_meansDeed_109 : decode cX12_meansDeed 109 = .ok (.iconst 1, 1) := by decide +kernel
theorem dX12_meansDeed_110 : decode cX12_meansDeed 110 = .ok (.iadd, 1) := by decide +kernel
theorem dX12_meansDeed_111 : decode cX12_meansDeed 111 = .ok (.iconst 0, 1) := by decide +kernel
theorem dX12_meansDeed_112 : decode cX12_meansDeed 112 = .ok (.bipush 7, 2) := by decide +kernel
theorem dX12_meansDeed_114 : decode cX12_meansDeed 114 = .ok (.invokevirtual 177, 3) := by decide +kernel
theorem dX12_meansDeed_117 : decode cX12_meansDeed 117 = .ok (.iastore, 1) := by decide +kernel
theorem dX12_meansDeed_118 : decode cX12_meansDeed 118 = .ok (.goto 229, 3) := by decide +kernel
theorem dX12_meansDeed_121 : decode cX12_meansDeed 121 = .ok (.aload_n 0, 1) := by decide +kernel
theorem dX12_meansDeed_122 : decode cX12_meansDeed 122 = .ok (.getfield 50, 3) := by decide +kernel
theorem dX12_meansDeed_125 : decode cX12_meansDeed 125 = .ok (.iconst 0, 1) := by decide +kernel
theorem dX12_meansDeed_126 : decode cX12_meansDeed 126 = .ok (.iconst 2, 1) := by decide +kernel
theorem dX12_meansDeed_127 : decode cX12_meansDeed 127 = .ok (.iastore, 1) := by decide +kernel
theorem dX12_meansDeed_128 : decode cX12_meansDeed 128 = .ok (.aload_n 0, 1) := by decide +kernel
theorem dX12_meansDeed_129 : decode cX12_meansDeed 129 = .ok (.getfield 50, 3) := by decide +kernel
theorem dX12_meansDeed_132 : decode cX12_meansDeed 132 = .ok (.iconst 1, 1) := by decide +kernel
theorem dX12_meansDeed_133 : decode cX12_meansDeed 133 = .ok (.aload_n 0, 1) := by decide +kernel
theorem dX12_meansDeed_134 : decode cX12_meansDeed 134 = .ok (.iload_n 1, 1) := by decide +kernel
theorem dX12_meansDeed_135 : decode cX12_meansDeed 135 = .ok (.iconst 1, 1) := by decide +kernel
theorem dX12_meansDeed_136 : decode cX12_meansDeed 136 = .ok (.iadd, 1) := by decide +kernel
theorem dX12_meansDeed_137 : decode cX12_meansDeed 137 = .ok (.iconst 1, 1) := by decide +kernel
theorem dX12_meansDeed_138 : decode cX12_meansDeed 138 = .ok (.iconst 3, 1) := by decide +kernel
theorem dX12_meansDeed_139 : decode cX12_meansDeed 139 = .ok (.invokevirtual 177, 3) := by decide +kernel
theorem dX12_meansDeed_142 : decode cX12_meansDeed 142 = .ok (.iastore, 1) := by decide +kernel
theorem dX12_meansDeed_143 : decode cX12_meansDeed 143 = .ok (.goto 204, 3) := by decide +kernel
theorem dX12_meansDeed_146 : decode cX12_meansDeed 146 = .ok (.aload_n 0, 1) := by decide +kernel
theorem dX12_meansDeed_147 : decode cX12_meansDeed 147 = .ok (.getfield 50, 3) := by decide +kernel
theorem dX12_meansDeed_150 : decode cX12_meansDeed 150 = .ok (.iconst 0, 1) := by decide +kernel
theorem dX12_meansDeed_151 : decode cX12_meansDeed 151 = .ok (.iconst 3, 1) := by decide +kernel
theorem dX12_meansDeed_152 : decode cX12_meansDeed 152 = .ok (.iastore, 1) := by decide +kernel
theorem dX12_meansDeed_153 : decode cX12_meansDeed 153 = .ok (.aload_n 0, 1) := by decide +kernel
theorem dX12_meansDeed_154 : decode cX12_meansDeed 154 = .ok (.getfield 50, 3) := by decide +kernel
theorem dX12_meansDeed_157 : decode cX12_meansDeed 157 = .ok (.iconst 1, 1) := by decide +kernel
theorem dX12_meansDeed_158 : decode cX12_meansDeed 158 = .ok (.aload_n 0, 1) := by decide +kernel
theorem dX12_meansDeed_159 : decode cX12_meansDeed 159 = .ok (.iload_n 1, 1) := by decide +kernel
theorem dX12_meansDeed_160 : decode cX12_meansDeed 160 = .ok (.iconst 1, 1) := by decide +kernel
theorem dX12_meansDeed_161 : decode cX12_meansDeed 161 = .ok (.iadd, 1) := by decide +kernel
theorem dX12_meansDeed_162 : decode cX12_meansDeed 162 = .ok (.iconst 1, 1) := by decide +kernel
theorem dX12_meansDeed_163 : decode cX12_meansDeed 163 = .ok (.iconst 3, 1) := by decide +kernel
theorem dX12_meansDeed_164 : decode cX12_meansDeed 164 = .ok (.invokevirtual 177, 3) := by decide +kernel
theorem dX12_meansDeed_167 : decode cX12_meansDeed 167 = .ok (.iastore, 1) := by decide +kernel
theorem dX12_meansDeed_168 : decode cX12_meansDeed 168 = .ok (.goto 179, 3) := by decide +kernel
theorem dX12_meansDeed_171 : decode cX12_meansDeed 171 = .ok (.aload_n 0, 1) := by decide +kernel
theorem dX12_meansDeed_172 : decode cX12_meansDeed 172 = .ok (.getfield 50, 3) := by decide +kernel
theorem dX12_meansDeed_175 : decode cX12_meansDeed 175 = .ok (.iconst 0, 1) := by decide +kernel
theorem dX12_meansDeed_176 : decode cX12_meansDeed 176 = .ok (.iconst 4, 1) := by decide +kernel
theorem dX12_meansDeed_177 : decode cX12_meansDeed 177 = .ok (.iastore, 1) := by decide +kernel
theorem dX12_meansDeed_178 : decode cX12_meansDeed 178 = .ok (.goto 169, 3) := by decide +kernel
theorem dX12_meansDeed_181 : decode cX12_meansDeed 181 = .ok (.aload_n 0, 1) := by decide +kernel
theorem dX12_meansDeed_182 : decode cX12_meansDeed 182 = .ok (.getfield 50, 3) := by decide +kernel
theorem dX12_meansDeed_185 : decode cX12_meansDeed 185 = .ok (.iconst 0, 1) := by decide +kernel
theorem dX12_meansDeed_186 : decode cX12_meansDeed 186 = .ok (.iconst 5, 1) := by decide +kernel
theorem dX12_meansDeed_187 : decode cX12_meansDeed 187 = .ok (.iastore, 1) := by decide +kernel
theorem dX12_meansDeed_188 : decode cX12_meansDeed 188 = .ok (.goto 159, 3) := by decide +kernel
theorem dX12_meansDeed_191 : decode cX12_meansDeed 191 = .ok (.aload_n 0, 1) := by decide +kernel
theorem dX12_meansDeed_192 : decode cX12_meansDeed 192 = .ok (.getfield 20, 3) := by decide +kernel
theorem dX12_meansDeed_195 : decode cX12_meansDeed 195 = .ok (.iload_n 1, 1) := by decide +kernel
theorem dX12_meansDeed_196 : decode cX12_meansDeed 196 = .ok (.iconst 2, 1) := by decide +kernel
theorem dX12_meansDeed_197 : decode cX12_meansDeed 197 = .ok (.iadd, 1) := by decide +kernel
theorem dX12_meansDeed_198 : decode cX12_meansDeed 198 = .ok (.iaload, 1) := by decide +kernel
theorem dX12_meansDeed_199 : decode cX12_meansDeed 199 = .ok (.bipush 33, 2) := by decide +kernel
theorem dX12_meansDeed_201 : decode cX12_meansDeed 201 = .ok (.if_icmp .ne 7, 3) := by decide +kernel
theorem dX12_meansDeed_204 : decode cX12_meansDeed 204 = .ok (.iconst 1, 1) := by decide +kernel
theorem dX12_meansDeed_205 : decode cX12_meansDeed 205 = .ok (.goto 4, 3) := by decide +kernel
theorem dX12_meansDeed_208 : decode cX12_meansDeed 208 = .ok (.iconst 0, 1) := by decide +kernel
theorem dX12_meansDeed_209 : decode cX12_meansDeed 209 = .ok (.istore_n 2, 1) := by decide +kernel
theorem dX12_meansDeed_210 : decode cX12_meansDeed 210 = .ok (.aload_n 0, 1) := by decide +kernel
theorem dX12_meansDeed_211 : decode cX12_meansDeed 211 = .ok (.getfield 50, 3) := by decide +kernel
theorem dX12_meansDeed_214 : decode cX12_meansDeed 214 = .ok (.iconst 0, 1) := by decide +kernel
theorem dX12_meansDeed_215 : decode cX12_meansDeed 215 = .ok (.iload_n 2, 1) := by decide +kernel
theorem dX12_meansDeed_216 : decode cX12_meansDeed 216 = .ok (.ifCond .eq 8, 3) := by decide +kernel
theorem dX12_meansDeed_219 : decode cX12_meansDeed 219 = .ok (.bipush 6, 2) := by decide +kernel
theorem dX12_meansDeed_221 : decode cX12_meansDeed 221 = .ok (.goto 5, 3) := by decide +kernel
theorem dX12_meansDeed_224 : decode cX12_meansDeed 224 = .ok (.bipush 7, 2) := by decide +kernel
theorem dX12_meansDeed_226 : decode cX12_meansDeed 226 = .ok (.iastore, 1) := by decide +kernel
theorem dX12_meansDeed_227 : decode cX12_meansDeed 227 = .ok (.aload_n 0, 1) := by decide +kernel
theorem dX12_meansDeed_228 : decode cX12_meansDeed 228 = .ok (.getfield 50, 3) := by decide +kernel
theorem dX12_meansDeed_231 : decode cX12_meansDeed 231 = .ok (.iconst 1, 1) := by decide +kernel
theorem dX12_meansDeed_232 : decode cX12_meansDeed 232 = .ok (.aload_n 0, 1) := by decide +kernel
theorem dX12_meansDeed_233 : decode cX12_meansDeed 233 = .ok (.iload_n 1, 1) := by decide +kernel
theorem dX12_meansDeed_234 : decode cX12_meansDeed 234 = .ok (.iconst 1, 1) := by decide +kernel
theorem dX12_meansDeed_235 : decode cX12_meansDeed 235 = .ok (.iadd, 1) := by decide +kernel
theorem dX12_meansDeed_236 : decode cX12_meansDeed 236 = .ok (.iconst 1, 1) := by decide +kernel
theorem dX12_meansDeed_237 : decode cX12_meansDeed 237 = .ok (.sipush 200, 3) := by decide +kernel
theorem dX12_meansDeed_240 : decode cX12_meansDeed 240 = .ok (.invokevirtual 177, 3) := by decide +kernel
theorem dX12_meansDeed_243 : decode cX12_meansDeed 243 = .ok (.iastore, 1) := by decide +kernel
theorem dX12_meansDeed_244 : decode cX12_meansDeed 244 = .ok (.aload_n 0, 1) := by decide +kernel
theorem dX12_meansDeed_245 : decode cX12_meansDeed 245 = .ok (.getfield 50, 3) := by decide +kernel
theorem dX12_meansDeed_248 : decode cX12_meansDeed 248 = .ok (.iconst 2, 1) := by decide +kernel
theorem dX12_meansDeed_249 : decode cX12_meansDeed 249 = .ok (.iload_n 2, 1) := by decide +kernel
theorem dX12_meansDeed_250 : decode cX12_meansDeed 250 = .ok (.ifCond .eq 15, 3) := by decide +kernel
theorem dX12_meansDeed_253 : decode cX12_meansDeed 253 = .ok (.aload_n 0, 1) := by decide +kernel
theorem dX12_meansDeed_254 : decode cX12_meansDeed 254 = .ok (.iload_n 1, 1) := by decide +kernel
theorem dX12_meansDeed_255 : decode cX12_meansDeed 255 = .ok (.iconst 3, 1) := by decide +kernel
theorem dX12_meansDeed_256 : decode cX12_meansDeed 256 = .ok (.iadd, 1) := by decide +kernel
theorem dX12_meansDeed_257 : decode cX12_meansDeed 257 = .ok (.iconst 1, 1) := by decide +kernel
theorem dX12_meansDeed_258 : decode cX12_meansDeed 258 = .ok (.iconst 3, 1) := by decide +kernel
theorem dX12_meansDeed_259 : decode cX12_meansDeed 259 = .ok (.invokevirtual 177, 3) := by decide +kernel
theorem dX12_meansDeed_262 : decode cX12_meansDeed 262 = .ok (.goto 13, 3) := by decide +kernel
theorem dX12_meansDeed_265 : decode cX12_meansDeed 265 = .ok (.aload_n 0, 1) := by decide +kernel
theorem dX12_meansDeed_266 : decode cX12_meansDeed 266 = .ok (.iload_n 1, 1) := by decide +kernel
theorem dX12_meansDeed_267 : decode cX12_meansDeed 267 = .ok (.iconst 3, 1) := by decide +kernel
theorem dX12_meansDeed_268 : decode cX12_meansDeed 268 = .ok (.iadd, 1) := by decide +kernel
theorem dX12_meansDeed_269 : decode cX12_meansDeed 269 = .ok (.iconst 0, 1) := by decide +kernel
theorem dX12_meansDeed_270 : decode cX12_meansDeed 270 = .ok (.bipush 7, 2) := by decide +kernel
theorem dX12_meansDeed_272 : decode cX12_meansDeed 272 = .ok (.invokevirtual 177, 3) := by decide +kernel
theorem dX12_meansDeed_275 : decode cX12_meansDeed 275 = .ok (.iastore, 1) := by decide +kernel
theorem dX12_meansDeed_276 : decode cX12_meansDeed 276 = .ok (.goto 71, 3) := by decide +kernel
theorem dX12_meansDeed_279 : decode cX12_meansDeed 279 = .ok (.aload_n 0, 1) := by decide +kernel
theorem dX12_meansDeed_280 : decode cX12_meansDeed 280 = .ok (.getfield 50, 3) := by decide +kernel
theorem dX12_meansDeed_283 : decode cX12_meansDeed 283 = .ok (.iconst 0, 1) := by decide +kernel
theorem dX12_meansDeed_284 : decode cX12_meansDeed 284 = .ok (.bipush 8, 2) := by decide +kernel
theorem dX12_meansDeed_286 : decode cX12_meansDeed 286 = .ok (.iastore, 1) := by decide +kernel
theorem dX12_meansDeed_287 : decode cX12_meansDeed 287 = .ok (.aload_n 0, 1) := by decide +kernel
theorem dX12_meansDeed_288 : decode cX12_meansDeed 288 = .ok (.getfield 50, 3) := by decide +kernel
theorem dX12_meansDeed_291 : decode cX12_meansDeed 291 = .ok (.iconst 1, 1) := by decide +kernel
theorem dX12_meansDeed_292 : decode cX12_meansDeed 292 = .ok (.aload_n 0, 1) := by decide +kernel
theorem dX12_meansDeed_293 : decode cX12_meansDeed 293 = .ok (.iload_n 1, 1) := by decide +kernel
theorem dX12_meansDeed_294 : decode cX12_meansDeed 294 = .ok (.iconst 1, 1) := by decide +kernel
theorem dX12_meansDeed_295 : decode cX12_meansDeed 295 = .ok (.iadd, 1) := by decide +kernel
theorem dX12_meansDeed_296 : decode cX12_meansDeed 296 = .ok (.iconst 1, 1) := by decide +kernel
theorem dX12_meansDeed_297 : decode cX12_meansDeed 297 = .ok (.sipush 200, 3) := by decide +kernel
theorem dX12_meansDeed_300 : decode cX12_meansDeed 300 = .ok (.invokevirtual 177, 3) := by decide +kernel
theorem dX12_meansDeed_303 : decode cX12_meansDeed 303 = .ok (.iastore, 1) := by decide +kernel
theorem dX12_meansDeed_304 : decode cX12_meansDeed 304 = .ok (.aload_n 0, 1) := by decide +kernel
theorem dX12_meansDeed_305 : decode cX12_meansDeed 305 = .ok (.getfield 50, 3) := by decide +kernel
theorem dX12_meansDeed_308 : decode cX12_meansDeed 308 = .ok (.iconst 2, 1) := by decide +kernel
theorem dX12_meansDeed_309 : decode cX12_meansDeed 309 = .ok (.aload_n 0, 1) := by decide +kernel
theorem dX12_meansDeed_310 : decode cX12_meansDeed 310 = .ok (.iload_n 1, 1) := by decide +kernel
theorem dX12_meansDeed_311 : decode cX12_meansDeed 311 = .ok (.iconst 2, 1) := by decide +kernel
theorem dX12_meansDeed_312 : decode cX12_meansDeed 312 = .ok (.iadd, 1) := by decide +kernel
theorem dX12_meansDeed_313 : decode cX12_meansDeed 313 = .ok (.iconst 1, 1) := by decide +kernel
theorem dX12_meansDeed_314 : decode cX12_meansDeed 314 = .ok (.sipush 200, 3) := by decide +kernel
theorem dX12_meansDeed_317 : decode cX12_meansDeed 317 = .ok (.invokevirtual 177, 3) := by decide +kernel
theorem dX12_meansDeed_320 : decode cX12_meansDeed 320 = .ok (.iastore, 1) := by decide +kernel
theorem dX12_meansDeed_321 : decode cX12_meansDeed 321 = .ok (.goto 26, 3) := by decide +kernel
theorem dX12_meansDeed_324 : decode cX12_meansDeed 324 = .ok (.aload_n 0, 1) := by decide +kernel
theorem dX12_meansDeed_325 : decode cX12_meansDeed 325 = .ok (.getfield 50, 3) := by decide +kernel
theorem dX12_meansDeed_328 : decode cX12_meansDeed 328 = .ok (.iconst 0, 1) := by decide +kernel
theorem dX12_meansDeed_329 : decode cX12_meansDeed 329 = .ok (.bipush 9, 2) := by decide +kernel
theorem dX12_meansDeed_331 : decode cX12_meansDeed 331 = .ok (.iastore, 1) := by decide +kernel
theorem dX12_meansDeed_332 : decode cX12_meansDeed 332 = .ok (.aload_n 0, 1) := by decide +kernel
theorem dX12_meansDeed_333 : decode cX12_meansDeed 333 = .ok (.getfield 50, 3) := by decide +kernel
theorem dX12_meansDeed_336 : decode cX12_meansDeed 336 = .ok (.iconst 1, 1) := by decide +kernel
theorem dX12_meansDeed_337 : decode cX12_meansDeed 337 = .ok (.aload_n 0, 1) := by decide +kernel
theorem dX12_meansDeed_338 : decode cX12_meansDeed 338 = .ok (.iload_n 1, 1) := by decide +kernel
theorem dX12_meansDeed_339 : decode cX12_meansDeed 339 = .ok (.iconst 1, 1) := by decide +kernel
theorem dX12_meansDeed_340 : decode cX12_meansDeed 340 = .ok (.iadd, 1) := by decide +kernel
theorem dX12_meansDeed_341 : decode cX12_meansDeed 341 = .ok (.iconst 0, 1) := by decide +kernel
theorem dX12_meansDeed_342 : decode cX12_meansDeed 342 = .ok (.iconst 3, 1) := by decide +kernel
theorem dX12_meansDeed_343 : decode cX12_meansDeed 343 = .ok (.invokevirtual 177, 3) := by decide +kernel
theorem dX12_meansDeed_346 : decode cX12_meansDeed 346 = .ok (.iastore, 1) := by decide +kernel
theorem dX12_meansDeed_347 : decode cX12_meansDeed 347 = .ok (.return_, 1) := by decide +kernel
def rmX12_meansDeed : Room := { frames := 2, cells := 0, slots := 0, locals := 46 }
set_option maxRecDepth 100000 in
def fX12_meansDeed_J347 (N : Nat) (g : Gs) (x0 : Nat) (x1 : Int32) (d : Ds) : Option (Unit × Ds) := some ((), d)
set_option maxHeartbeats 4000000 in
set_option maxRecDepth 100000 in
theorem tX12_meansDeed_347 {p : Program} {l : Launch} {e : Env} {s : State} {m : MethodId} {args : Array Value} {below : List Frame} {meth : Method} {c : Code} {D : va_G} {cy : Nat → ClassId} {B : Bs} (C : Cx p s m args c cX12_meansDeed 3 RX12 D cy B) (hr : meth.sig.returnType = none) (hlocks : meth.locks = false) {N : Nat} {g : Gs} {x0 : Nat} {x1 : Int32}  {dz : Ds} {d : Ds} (hf : fX12_meansDeed_J347 N g x0 x1 d = some ((), dz)) : WB p l e rmX12_meansDeed s m args below meth c 3 D cy B 0 0 (MQ below (QV D cy B g dz) args s 0 0 (wA B)) g d [(0, .ref (ad B x0)), (1, .int x1)] 347 [] := by
  unfold fX12_meansDeed_J347 at hf
  exact b_vret C hr hlocks hf dX12_meansDeed_347
set_option maxRecDepth 100000 in
def fX12_meansDeed_J153 (N : Nat) (g : Gs) (x0 : Nat) (x1 : Int32) (d : Ds) : Option (Unit × Ds) := gd (chk g x0 11) <| ob (gR g x0 23) fun r43 => (cb (fX12_within N g x0 (x1 + 1) 1 3 d) fun u46 d44 => (gd (chk g r43 102) <| gd (¬ ((1 : Int32) < 0 ∨ gL g r43 ≤ (1 : Int32).toNatClampNeg)) <| bd (sI d44 r43 (1 : Int32).toNatClampNeg u46) fun d49 => (fX12_meansDeed_J347 N g x0 x1 d49)))
set_option maxHeartbeats 4000000 in
set_option maxRecDepth 100000 in
theorem tX12_meansDeed_153 {p : Program} {l : Launch} {e : Env} {s : State} {m : MethodId} {args : Array Value} {below : List Frame} {meth : Method} {c : Code} {D : va_G} {cy : Nat → ClassId} {B : Bs} (C : Cx p s m args c cX12_meansDeed 3 RX12 D cy B) (hr : meth.sig.returnType = none) (hlocks : meth.locks = false) {N : Nat} {g : Gs} {x0 : Nat} {x1 : Int32}  {dz : Ds} {d : Ds} (hf : fX12_meansDeed_J153 N g x0 x1 d = some ((), dz)) : WB p l e rmX12_meansDeed s m args below meth c 3 D cy B 0 0 (MQ below (QV D cy B g dz) args s 0 0 (wA B)) g d [(0, .ref (ad B x0)), (1, .int x1)] 153 [] := by
  unfold fX12_meansDeed_J153 at hf
  refine b_aload_n C dX12_meansDeed_153 0 rfl rfl ?_
  obtain ⟨h42, hf⟩ := gd_s hf
  obtain ⟨r43, er43, hf⟩ := ob_s hf
  refine b_gR C dX12_meansDeed_154 fl_X12_50 h42 er43 ?_
  refine b_iconst C (v := 1) dX12_meansDeed_157 (by decide) ?_
  refine b_aload_n C dX12_meansDeed_158 0 rfl rfl ?_
  refine b_iload_n C dX12_meansDeed_159 1 rfl rfl ?_
  refine b_iconst C (v := 1) dX12_meansDeed_160 (by decide) ?_
  refine b_iadd C dX12_meansDeed_161 ?_
  refine b_iconst C (v := 1) dX12_meansDeed_162 (by decide) ?_
  refine b_iconst C (v := 3) dX12_meansDeed_163 (by decide) ?_
  obtain ⟨u46, d44, k45, hf⟩ := cb_s hf
  refine b_cVI C [.int 1, .ref (ad B r43)] dX12_meansDeed_164 (kX12_within l D cy B k45) lv_X12_177 ⟨rfl, rfl, Nat.le_of_ble_eq_true rfl, Nat.le_of_ble_eq_true rfl⟩ h42 (by decide) rfl (Nat.le_of_ble_eq_true rfl) ⟨Nat.zero_le _, Nat.zero_le _⟩ rfl ?_
  obtain ⟨h47, hf⟩ := gd_s hf
  obtain ⟨h48, hf⟩ := gd_s hf
  obtain ⟨d49, ed49, hf⟩ := bd_s hf
  refine b_iast C h47 h48 ed49 dX12_meansDeed_167 ?_
  refine b_goto C (tgt := 347) dX12_meansDeed_168 (by decide) ?_
  refine b_sub [(0, .ref (ad B x0)), (1, .int x1)] [0, 1] rfl ?_
  exact tX12_meansDeed_347 C hr hlocks hf
set_option maxRecDepth 100000 in
def fX12_meansDeed_J275 (N : Nat) (g : Gs) (x0 : Nat) (x1 : Int32) (z0 : Int32) (z1 : Int32) (z2 : Nat) (d : Ds) : Option (Unit × Ds) := gd (chk g z2 102) <| gd (¬ (z1 < 0 ∨ gL g z2 ≤ z1.toNatClampNeg)) <| bd (sI d z2 z1.toNatClampNeg z0) fun d79 => (fX12_meansDeed_J347 N g x0 x1 d79)
set_option maxHeartbeats 4000000 in
set_option maxRecDepth 100000 in
theorem tX12_meansDeed_275 {p : Program} {l : Launch} {e : Env} {s : State} {m : MethodId} {args : Array Value} {below : List Frame} {meth : Method} {c : Code} {D : va_G} {cy : Nat → ClassId} {B : Bs} (C : Cx p s m args c cX12_meansDeed 3 RX12 D cy B) (hr : meth.sig.returnType = none) (hlocks : meth.locks = false) {N : Nat} {g : Gs} {x0 : Nat} {x1 : Int32}  {dz : Ds} {z0 : Int32} {z1 : Int32} {z2 : Nat} {d : Ds} (hf : fX12_meansDeed_J275 N g x0 x1 z0 z1 z2 d = some ((), dz)) : WB p l e rmX12_meansDeed s m args below meth c 3 D cy B 0 0 (MQ below (QV D cy B g dz) args s 0 0 (wA B)) g d [(0, .ref (ad B x0)), (1, .int x1)] 275 [.int z0, .int z1, .ref (ad B z2)] := by
  unfold fX12_meansDeed_J275 at hf
  obtain ⟨h77, hf⟩ := gd_s hf
  obtain ⟨h78, hf⟩ := gd_s hf
  obtain ⟨d79, ed79, hf⟩ := bd_s hf
  refine b_iast C h77 h78 ed79 dX12_meansDeed_275 ?_
  refine b_goto C (tgt := 347) dX12_meansDeed_276 (by decide) ?_
  refine b_sub [(0, .ref (ad B x0)), (1, .int x1)] [0, 1] rfl ?_
  exact tX12_meansDeed_347 C hr hlocks hf
set_option maxRecDepth 100000 in
def fX12_meansDeed_J226 (N : Nat) (g : Gs) (x0 : Nat) (x1 : Int32) (y2 : Int32) (z0 : Int32) (z1 : Int32) (z2 : Nat) (d : Ds) : Option (Unit × Ds) := gd (chk g z2 102) <| gd (¬ (z1 < 0 ∨ gL g z2 ≤ z1.toNatClampNeg)) <| bd (sI d z2 z1.toNatClampNeg z0) fun d64 => (gd (chk g x0 11) <| ob (gR g x0 23) fun r66 => (cb (fX12_within N g x0 (x1 + 1) 1 200 d64) fun u69 d67 => (gd (chk g r66 102) <| gd (¬ ((1 : Int32) < 0 ∨ gL g r66 ≤ (1 : Int32).toNatClampNeg)) <| bd (sI d67 r66 (1 : Int32).toNatClampNeg u69) fun d72 => (if y2 = 0 then (cb (fX12_within N g x0 (x1 + 3) 0 7 d72) fun u76 d74 => (fX12_meansDeed_J275 N g x0 x1 u76 2 r66 d74)) else (cb (fX12_within N g x0 (x1 + 3) 1 3 d72) fun u82 d80 => (fX12_meansDeed_J275 N g x0 x1 u82 2 r66 d80))))))
set_option maxHeartbeats 4000000 in
set_option maxRecDepth 100000 in
theorem tX12_meansDeed_226 {p : Program} {l : Launch} {e : Env} {s : State} {m : MethodId} {args : Array Value} {below : List Frame} {meth : Method} {c : Code} {D : va_G} {cy : Nat → ClassId} {B : Bs} (C : Cx p s m args c cX12_meansDeed 3 RX12 D cy B) (hr : meth.sig.returnType = none) (hlocks : meth.locks = false) {N : Nat} {g : Gs} {x0 : Nat} {x1 : Int32}  {dz : Ds} {y2 : Int32} {z0 : Int32} {z1 : Int32} {z2 : Nat} {d : Ds} (hf : fX12_meansDeed_J226 N g x0 x1 y2 z0 z1 z2 d = some ((), dz)) : WB p l e rmX12_meansDeed s m args below meth c 3 D cy B 0 0 (MQ below (QV D cy B g dz) args s 0 0 (wA B)) g d [(0, .ref (ad B x0)), (1, .int x1), (2, .int y2)] 226 [.int z0, .int z1, .ref (ad B z2)] := by
  unfold fX12_meansDeed_J226 at hf
  obtain ⟨h62, hf⟩ := gd_s hf
  obtain ⟨h63, hf⟩ := gd_s hf
  obtain ⟨d64, ed64, hf⟩ := bd_s hf
  refine b_iast C h62 h63 ed64 dX12_meansDeed_226 ?_
  refine b_aload_n C dX12_meansDeed_227 0 rfl rfl ?_
  obtain ⟨h65, hf⟩ := gd_s hf
  obtain ⟨r66, er66, hf⟩ := ob_s hf
  refine b_gR C dX12_meansDeed_228 fl_X12_50 h65 er66 ?_
  refine b_iconst C (v := 1) dX12_meansDeed_231 (by decide) ?_
  refine b_aload_n C dX12_meansDeed_232 0 rfl rfl ?_
  refine b_iload_n C dX12_meansDeed_233 1 rfl rfl ?_
  refine b_iconst C (v := 1) dX12_meansDeed_234 (by decide) ?_
  refine b_iadd C dX12_meansDeed_235 ?_
  refine b_iconst C (v := 1) dX12_meansDeed_236 (by decide) ?_
  refine b_sipush C (v := 200) dX12_meansDeed_237 (by decide) ?_
  obtain ⟨u69, d67, k68, hf⟩ := cb_s hf
  refine b_cVI C [.int 1, .ref (ad B r66)] dX12_meansDeed_240 (kX12_within l D cy B k68) lv_X12_177 ⟨rfl, rfl, Nat.le_of_ble_eq_true rfl, Nat.le_of_ble_eq_true rfl⟩ h65 (by decide) rfl (Nat.le_of_ble_eq_true rfl) ⟨Nat.zero_le _, Nat.zero_le _⟩ rfl ?_
  obtain ⟨h70, hf⟩ := gd_s hf
  obtain ⟨h71, hf⟩ := gd_s hf
  obtain ⟨d72, ed72, hf⟩ := bd_s hf
  refine b_iast C h70 h71 ed72 dX12_meansDeed_243 ?_
  refine b_aload_n C dX12_meansDeed_244 0 rfl rfl ?_
  refine b_gR C dX12_meansDeed_245 fl_X12_50 h65 er66 ?_
  refine b_iconst C (v := 2) dX12_meansDeed_248 (by decide) ?_
  refine b_iload_n C dX12_meansDeed_249 2 rfl rfl ?_
  refine b_if_eq C (tgt := 265) dX12_meansDeed_250 (by decide) (fun c73 => ?_) (fun c73 => ?_)
  · have hf := it_s c73 hf
    refine b_aload_n C dX12_meansDeed_265 0 rfl rfl ?_
    refine b_iload_n C dX12_meansDeed_266 1 rfl rfl ?_
    refine b_iconst C (v := 3) dX12_meansDeed_267 (by decide) ?_
    refine b_iadd C dX12_meansDeed_268 ?_
    refine b_iconst C (v := 0) dX12_meansDeed_269 (by decide) ?_
    refine b_bipush C (v := 7) dX12_meansDeed_270 (by decide) ?_
    obtain ⟨u76, d74, k75, hf⟩ := cb_s hf
    refine b_cVI C [.int 2, .ref (ad B r66)] dX12_meansDeed_272 (kX12_within l D cy B k75) lv_X12_177 ⟨rfl, rfl, Nat.le_of_ble_eq_true rfl, Nat.le_of_ble_eq_true rfl⟩ h65 (by decide) rfl (Nat.le_of_ble_eq_true rfl) ⟨Nat.zero_le _, Nat.zero_le _⟩ rfl ?_
    refine b_sub [(0, .ref (ad B x0)), (1, .int x1)] [0, 1] rfl ?_
    exact tX12_meansDeed_275 C hr hlocks hf
  · have hf := if_s c73 hf
    refine b_aload_n C dX12_meansDeed_253 0 rfl rfl ?_
    refine b_iload_n C dX12_meansDeed_254 1 rfl rfl ?_
    refine b_iconst C (v := 3) dX12_meansDeed_255 (by decide) ?_
    refine b_iadd C dX12_meansDeed_256 ?_
    refine b_iconst C (v := 1) dX12_meansDeed_257 (by decide) ?_
    refine b_iconst C (v := 3) dX12_meansDeed_258 (by decide) ?_
    obtain ⟨u82, d80, k81, hf⟩ := cb_s hf
    refine b_cVI C [.int 2, .ref (ad B r66)] dX12_meansDeed_259 (kX12_within l D cy B k81) lv_X12_177 ⟨rfl, rfl, Nat.le_of_ble_eq_true rfl, Nat.le_of_ble_eq_true rfl⟩ h65 (by decide) rfl (Nat.le_of_ble_eq_true rfl) ⟨Nat.zero_le _, Nat.zero_le _⟩ rfl ?_
    refine b_goto C (tgt := 275) dX12_meansDeed_262 (by decide) ?_
    refine b_sub [(0, .ref (ad B x0)), (1, .int x1)] [0, 1] rfl ?_
    exact tX12_meansDeed_275 C hr hlocks hf
set_option maxRecDepth 100000 in
def fX12_meansDeed_J209 (N : Nat) (g : Gs) (x0 : Nat) (x1 : Int32) (z0 : Int32) (d : Ds) : Option (Unit × Ds) := gd (chk g x0 11) <| ob (gR g x0 23) fun r60 => (if z0 = 0 then (fX12_meansDeed_J226 N g x0 x1 z0 7 0 r60 d) else (fX12_meansDeed_J226 N g x0 x1 z0 6 0 r60 d))
set_option maxHeartbeats 4000000 in
set_option maxRecDepth 100000 in
theorem tX12_meansDeed_209 {p : Program} {l : Launch} {e : Env} {s : State} {m : MethodId} {args : Array Value} {below : List Frame} {meth : Method} {c : Code} {D : va_G} {cy : Nat → ClassId} {B : Bs} (C : Cx p s m args c cX12_meansDeed 3 RX12 D cy B) (hr : meth.sig.returnType = none) (hlocks : meth.locks = false) {N : Nat} {g : Gs} {x0 : Nat} {x1 : Int32}  {dz : Ds} {z0 : Int32} {d : Ds} (hf : fX12_meansDeed_J209 N g x0 x1 z0 d = some ((), dz)) : WB p l e rmX12_meansDeed s m args below meth c 3 D cy B 0 0 (MQ below (QV D cy B g dz) args s 0 0 (wA B)) g d [(0, .ref (ad B x0)), (1, .int x1)] 209 [.int z0] := by
  unfold fX12_meansDeed_J209 at hf
  refine b_istore_n C dX12_meansDeed_209 rfl [(2, .int z0), (0, .ref (ad B x0)), (1, .int x1)] (by decide) rfl ?_
  refine b_aload_n C dX12_meansDeed_210 1 rfl rfl ?_
  obtain ⟨h59, hf⟩ := gd_s hf
  obtain ⟨r60, er60, hf⟩ := ob_s hf
  refine b_gR C dX12_meansDeed_211 fl_X12_50 h59 er60 ?_
  refine b_iconst C (v := 0) dX12_meansDeed_214 (by decide) ?_
  refine b_iload_n C dX12_meansDeed_215 0 rfl rfl ?_
  refine b_if_eq C (tgt := 224) dX12_meansDeed_216 (by decide) (fun c61 => ?_) (fun c61 => ?_)
  · have hf := it_s c61 hf
    refine b_bipush C (v := 7) dX12_meansDeed_224 (by decide) ?_
    refine b_sub [(0, .ref (ad B x0)), (1, .int x1), (2, .int z0)] [1, 2, 0] rfl ?_
    exact tX12_meansDeed_226 C hr hlocks hf
  · have hf := if_s c61 hf
    refine b_bipush C (v := 6) dX12_meansDeed_219 (by decide) ?_
    refine b_goto C (tgt := 226) dX12_meansDeed_221 (by decide) ?_
    refine b_sub [(0, .ref (ad B x0)), (1, .int x1), (2, .int z0)] [1, 2, 0] rfl ?_
    exact tX12_meansDeed_226 C hr hlocks hf
set_option maxRecDepth 100000 in
def fX12_meansDeed (N : Nat) (g : Gs) (x0 : Nat) (x1 : Int32) (d : Ds) : Option (Unit × Ds) := gd (chk g x0 11) <| ob (gR g x0 23) fun r2 => (gd (chk g r2 102) <| gd (¬ ((1 : Int32) < 0 ∨ gL g r2 ≤ (1 : Int32).toNatClampNeg)) <| bd (sI d r2 (1 : Int32).toNatClampNeg (-1)) fun d5 => (gd (¬ ((2 : Int32) < 0 ∨ gL g r2 ≤ (2 : Int32).toNatClampNeg)) <| bd (sI d5 r2 (2 : Int32).toNatClampNeg (-1)) fun d7 => (ob (gR g x0 5) fun r8 => (gd (chk g r8 102) <| gd (¬ (x1 < 0 ∨ gL g r8 ≤ x1.toNatClampNeg)) <| if (dI d7 r8 x1.toNatClampNeg).toInt < 31 ∨ 38 < (dI d7 r8 x1.toNatClampNeg).toInt then (gd (¬ ((0 : Int32) < 0 ∨ gL g r2 ≤ (0 : Int32).toNatClampNeg)) <| bd (sI d7 r2 (0 : Int32).toNatClampNeg 9) fun d13 => (cb (fX12_within N g x0 (x1 + 1) 0 3 d13) fun u16 d14 => (bd (sI d14 r2 (1 : Int32).toNatClampNeg u16) fun d17 => (fX12_meansDeed_J347 N g x0 x1 d17)))) else if (dI d7 r8 x1.toNatClampNeg) = 31 then (gd (¬ ((0 : Int32) < 0 ∨ gL g r2 ≤ (0 : Int32).toNatClampNeg)) <| bd (sI d7 r2 (0 : Int32).toNatClampNeg 0) fun d20 => (cb (fX12_within N g x0 (x1 + 1) 1 200 d20) fun u23 d21 => (bd (sI d21 r2 (1 : Int32).toNatClampNeg u23) fun d24 => (fX12_meansDeed_J347 N g x0 x1 d24)))) else if (dI d7 r8 x1.toNatClampNeg) = 32 then (gd (¬ ((0 : Int32) < 0 ∨ gL g r2 ≤ (0 : Int32).toNatClampNeg)) <| bd (sI d7 r2 (0 : Int32).toNatClampNeg 1) fun d27 => (cb (fX12_within N g x0 (x1 + 1) 0 7 d27) fun u30 d28 => (bd (sI d28 r2 (1 : Int32).toNatClampNeg u30) fun d31 => (fX12_meansDeed_J347 N g x0 x1 d31)))) else if (dI d7 r8 x1.toNatClampNeg) = 33 then (gd (¬ ((0 : Int32) < 0 ∨ gL g r2 ≤ (0 : Int32).toNatClampNeg)) <| bd (sI d7 r2 (0 : Int32).toNatClampNeg 2) fun d34 => (cb (fX12_within N g x0 (x1 + 1) 1 3 d34) fun u37 d35 => (bd (sI d35 r2 (1 : Int32).toNatClampNeg u37) fun d38 => (fX12_meansDeed_J347 N g x0 x1 d38)))) else if (dI d7 r8 x1.toNatClampNeg) = 34 then (gd (¬ ((0 : Int32) < 0 ∨ gL g r2 ≤ (0 : Int32).toNatClampNeg)) <| bd (sI d7 r2 (0 : Int32).toNatClampNeg 3) fun d41 => (fX12_meansDeed_J153 N g x0 x1 d41)) else if (dI d7 r8 x1.toNatClampNeg) = 35 then (gd (¬ ((0 : Int32) < 0 ∨ gL g r2 ≤ (0 : Int32).toNatClampNeg)) <| bd (sI d7 r2 (0 : Int32).toNatClampNeg 4) fun d52 => (fX12_meansDeed_J347 N g x0 x1 d52)) else if (dI d7 r8 x1.toNatClampNeg) = 36 then (gd (¬ ((0 : Int32) < 0 ∨ gL g r2 ≤ (0 : Int32).toNatClampNeg)) <| bd (sI d7 r2 (0 : Int32).toNatClampNeg 5) fun d55 => (fX12_meansDeed_J347 N g x0 x1 d55)) else if (dI d7 r8 x1.toNatClampNeg) = 37 then (gd (¬ ((x1 + 2) < 0 ∨ gL g r8 ≤ (x1 + 2).toNatClampNeg)) <| if (dI d7 r8 (x1 + 2).toNatClampNeg) = (33 : Int32) then (fX12_meansDeed_J209 N g x0 x1 1 d7) else (fX12_meansDeed_J209 N g x0 x1 0 d7)) else if (dI d7 r8 x1.toNatClampNeg) = 38 then (gd (¬ ((0 : Int32) < 0 ∨ gL g r2 ≤ (0 : Int32).toNatClampNeg)) <| bd (sI d7 r2 (0 : Int32).toNatClampNeg 8) fun d85 => (cb (fX12_within N g x0 (x1 + 1) 1 200 d85) fun u88 d86 => (bd (sI d86 r2 (1 : Int32).toNatClampNeg u88) fun d89 => (cb (fX12_within N g x0 (x1 + 2) 1 200 d89) fun u92 d90 => (bd (sI d90 r2 (2 : Int32).toNatClampNeg u92) fun d93 => (fX12_meansDeed_J347 N g x0 x1 d93)))))) else none))))
set_option maxHeartbeats 4000000 in
set_option maxRecDepth 100000 in
theorem tX12_meansDeed_E {p : Program} {l : Launch} {e : Env} {s : State} {m : MethodId} {args : Array Value} {below : List Frame} {meth : Method} {c : Code} {D : va_G} {cy : Nat → ClassId} {B : Bs} (C : Cx p s m args c cX12_meansDeed 3 RX12 D cy B) (hr : meth.sig.returnType = none) (hlocks : meth.locks = false) {N : Nat} {g : Gs} {x0 : Nat} {x1 : Int32}  {dz : Ds} {d : Ds} (hf : fX12_meansDeed N g x0 x1 d = some ((), dz)) : WB p l e rmX12_meansDeed s m args below meth c 3 D cy B 0 0 (MQ below (QV D cy B g dz) args s 0 0 (wA B)) g d [(0, .ref (ad B x0)), (1, .int x1)] 0 [] := by
  unfold fX12_meansDeed at hf
  refine b_aload_n C dX12_meansDeed_0 0 rfl rfl ?_
  obtain ⟨h1, hf⟩ := gd_s hf
  obtain ⟨r2, er2, hf⟩ := ob_s hf
  refine b_gR C dX12_meansDeed_1 fl_X12_50 h1 er2 ?_
  refine b_iconst C (v := 1) dX12_meansDeed_4 (by decide) ?_
  refine b_iconst C (v := (-1)) dX12_meansDeed_5 (by decide) ?_
  obtain ⟨h3, hf⟩ := gd_s hf
  obtain ⟨h4, hf⟩ := gd_s hf
  obtain ⟨d5, ed5, hf⟩ := bd_s hf
  refine b_iast C h3 h4 ed5 dX12_meansDeed_6 ?_
  refine b_aload_n C dX12_meansDeed_7 0 rfl rfl ?_
  refine b_gR C dX12_meansDeed_8 fl_X12_50 h1 er2 ?_
  refine b_iconst C (v := 2) dX12_meansDeed_11 (by decide) ?_
  refine b_iconst C (v := (-1)) dX12_meansDeed_12 (by decide) ?_
  obtain ⟨h6, hf⟩ := gd_s hf
  obtain ⟨d7, ed7, hf⟩ := bd_s hf
  refine b_iast C h3 h6 ed7 dX12_meansDeed_13 ?_
  refine b_aload_n C dX12_meansDeed_14 0 rfl rfl ?_
  obtain ⟨r8, er8, hf⟩ := ob_s hf
  refine b_gR C dX12_meansDeed_15 fl_X12_20 h1 er8 ?_
  refine b_iload_n C dX12_meansDeed_18 1 rfl rfl ?_
  obtain ⟨h9, hf⟩ := gd_s hf
  obtain ⟨h10, hf⟩ := gd_s hf
  refine b_iald C h9 h10 dX12_meansDeed_19 ?_
  by_cases c11 : (dI d7 r8 x1.toNatClampNeg).toInt < 31 ∨ 38 < (dI d7 r8 x1.toNatClampNeg).toInt
  · have hf := it_s c11 hf
    refine b_tabOut C (tgt := 324) dX12_meansDeed_20 c11 (by decide) ?_
    refine b_aload_n C dX12_meansDeed_324 0 rfl rfl ?_
    refine b_gR C dX12_meansDeed_325 fl_X12_50 h1 er2 ?_
    refine b_iconst C (v := 0) dX12_meansDeed_328 (by decide) ?_
    refine b_bipush C (v := 9) dX12_meansDeed_329 (by decide) ?_
    obtain ⟨h12, hf⟩ := gd_s hf
    obtain ⟨d13, ed13, hf⟩ := bd_s hf
    refine b_iast C h3 h12 ed13 dX12_meansDeed_331 ?_
    refine b_aload_n C dX12_meansDeed_332 0 rfl rfl ?_
    refine b_gR C dX12_meansDeed_333 fl_X12_50 h1 er2 ?_
    refine b_iconst C (v := 1) dX12_meansDeed_336 (by decide) ?_
    refine b_aload_n C dX12_meansDeed_337 0 rfl rfl ?_
    refine b_iload_n C dX12_meansDeed_338 1 rfl rfl ?_
    refine b_iconst C (v := 1) dX12_meansDeed_339 (by decide) ?_
    refine b_iadd C dX12_meansDeed_340 ?_
    refine b_iconst C (v := 0) dX12_meansDeed_341 (by decide) ?_
    refine b_iconst C (v := 3) dX12_meansDeed_342 (by decide) ?_
    obtain ⟨u16, d14, k15, hf⟩ := cb_s hf
    refine b_cVI C [.int 1, .ref (ad B r2)] dX12_meansDeed_343 (kX12_within l D cy B k15) lv_X12_177 ⟨rfl, rfl, Nat.le_of_ble_eq_true rfl, Nat.le_of_ble_eq_true rfl⟩ h1 (by decide) rfl (Nat.le_of_ble_eq_true rfl) ⟨Nat.zero_le _, Nat.zero_le _⟩ rfl ?_
    obtain ⟨d17, ed17, hf⟩ := bd_s hf
    refine b_iast C h3 h4 ed17 dX12_meansDeed_346 ?_
    refine b_sub [(0, .ref (ad B x0)), (1, .int x1)] [0, 1] rfl ?_
    exact tX12_meansDeed_347 C hr hlocks hf
  · have hf := if_s c11 hf
    by_cases c18 : (dI d7 r8 x1.toNatClampNeg) = 31
    · have hf := it_s c18 hf
      refine b_tabIn C (tgt := 68) (off := 48) dX12_meansDeed_20 c18 (by decide) (by decide) (by decide) (by decide) ?_
      refine b_aload_n C dX12_meansDeed_68 0 rfl rfl ?_
      refine b_gR C dX12_meansDeed_69 fl_X12_50 h1 er2 ?_
      refine b_iconst C (v := 0) dX12_meansDeed_72 (by decide) ?_
      refine b_iconst C (v := 0) dX12_meansDeed_73 (by decide) ?_
      obtain ⟨h19, hf⟩ := gd_s hf
      obtain ⟨d20, ed20, hf⟩ := bd_s hf
      refine b_iast C h3 h19 ed20 dX12_meansDeed_74 ?_
      refine b_aload_n C dX12_meansDeed_75 0 rfl rfl ?_
      refine b_gR C dX12_meansDeed_76 fl_X12_50 h1 er2 ?_
      refine b_iconst C (v := 1) dX12_meansDeed_79 (by decide) ?_
      refine b_aload_n C dX12_meansDeed_80 0 rfl rfl ?_
      refine b_iload_n C dX12_meansDeed_81 1 rfl rfl ?_
      refine b_iconst C (v := 1) dX12_meansDeed_82 (by decide) ?_
      refine b_iadd C dX12_meansDeed_83 ?_
      refine b_iconst C (v := 1) dX12_meansDeed_84 (by decide) ?_
      refine b_sipush C (v := 200) dX12_meansDeed_85 (by decide) ?_
      obtain ⟨u23, d21, k22, hf⟩ := cb_s hf
      refine b_cVI C [.int 1, .ref (ad B r2)] dX12_meansDeed_88 (kX12_within l D cy B k22) lv_X12_177 ⟨rfl, rfl, Nat.le_of_ble_eq_true rfl, Nat.le_of_ble_eq_true rfl⟩ h1 (by decide) rfl (Nat.le_of_ble_eq_true rfl) ⟨Nat.zero_le _, Nat.zero_le _⟩ rfl ?_
      obtain ⟨d24, ed24, hf⟩ := bd_s hf
      refine b_iast C h3 h4 ed24 dX12_meansDeed_91 ?_
      refine b_goto C (tgt := 347) dX12_meansDeed_92 (by decide) ?_
      refine b_sub [(0, .ref (ad B x0)), (1, .int x1)] [0, 1] rfl ?_
      exact tX12_meansDeed_347 C hr hlocks hf
    have hf := if_s c18 hf
    by_cases c25 : (dI d7 r8 x1.toNatClampNeg) = 32
    · have hf := it_s c25 hf
      refine b_tabIn C (tgt := 95) (off := 75) dX12_meansDeed_20 c25 (by decide) (by decide) (by decide) (by decide) ?_
      refine b_aload_n C dX12_meansDeed_95 0 rfl rfl ?_
      refine b_gR C dX12_meansDeed_96 fl_X12_50 h1 er2 ?_
      refine b_iconst C (v := 0) dX12_meansDeed_99 (by decide) ?_
      refine b_iconst C (v := 1) dX12_meansDeed_100 (by decide) ?_
      obtain ⟨h26, hf⟩ := gd_s hf
      obtain ⟨d27, ed27, hf⟩ := bd_s hf
      refine b_iast C h3 h26 ed27 dX12_meansDeed_101 ?_
      refine b_aload_n C dX12_meansDeed_102 0 rfl rfl ?_
      refine b_gR C dX12_meansDeed_103 fl_X12_50 h1 er2 ?_
      refine b_iconst C (v := 1) dX12_meansDeed_106 (by decide) ?_
      refine b_aload_n C dX12_meansDeed_107 0 rfl rfl ?_
      refine b_iload_n C dX12_meansDeed_108 1 rfl rfl ?_
      refine b_iconst C (v := 1) dX12_meansDeed_109 (by decide) ?_
      refine b_iadd C dX12_meansDeed_110 ?_
      refine b_iconst C (v := 0) dX12_meansDeed_111 (by decide) ?_
      refine b_bipush C (v := 7) dX12_meansDeed_112 (by decide) ?_
      obtain ⟨u30, d28, k29, hf⟩ := cb_s hf
      refine b_cVI C [.int 1, .ref (ad B r2)] dX12_meansDeed_114 (kX12_within l D cy B k29) lv_X12_177 ⟨rfl, rfl, Nat.le_of_ble_eq_true rfl, Nat.le_of_ble_eq_true rfl⟩ h1 (by decide) rfl (Nat.le_of_ble_eq_true rfl) ⟨Nat.zero_le _, Nat.zero_le _⟩ rfl ?_
      obtain ⟨d31, ed31, hf⟩ := bd_s hf
      refine b_iast C h3 h4 ed31 dX12_meansDeed_117 ?_
      refine b_goto C (tgt := 347) dX12_meansDeed_118 (by decide) ?_
      refine b_sub [(0, .ref (ad B x0)), (1, .int x1)] [0, 1] rfl ?_
      exact tX12_meansDeed_347 C hr hlocks hf
    have hf := if_s c25 hf
    by_cases c32 : (dI d7 r8 x1.toNatClampNeg) = 33
    · have hf := it_s c32 hf
      refine b_tabIn C (tgt := 121) (off := 101) dX12_meansDeed_20 c32 (by decide) (by decide) (by decide) (by decide) ?_
      refine b_aload_n C dX12_meansDeed_121 0 rfl rfl ?_
      refine b_gR C dX12_meansDeed_122 fl_X12_50 h1 er2 ?_
      refine b_iconst C (v := 0) dX12_meansDeed_125 (by decide) ?_
      refine b_iconst C (v := 2) dX12_meansDeed_126 (by decide) ?_
      obtain ⟨h33, hf⟩ := gd_s hf
      obtain ⟨d34, ed34, hf⟩ := bd_s hf
      refine b_iast C h3 h33 ed34 dX12_meansDeed_127 ?_
      refine b_aload_n C dX12_meansDeed_128 0 rfl rfl ?_
      refine b_gR C dX12_meansDeed_129 fl_X12_50 h1 er2 ?_
      refine b_iconst C (v := 1) dX12_meansDeed_132 (by decide) ?_
      refine b_aload_n C dX12_meansDeed_133 0 rfl rfl ?_
      refine b_iload_n C dX12_meansDeed_134 1 rfl rfl ?_
      refine b_iconst C (v := 1) dX12_meansDeed_135 (by decide) ?_
      refine b_iadd C dX12_meansDeed_136 ?_
      refine b_iconst C (v := 1) dX12_meansDeed_137 (by decide) ?_
      refine b_iconst C (v := 3) dX12_meansDeed_138 (by decide) ?_
      obtain ⟨u37, d35, k36, hf⟩ := cb_s hf
      refine b_cVI C [.int 1, .ref (ad B r2)] dX12_meansDeed_139 (kX12_within l D cy B k36) lv_X12_177 ⟨rfl, rfl, Nat.le_of_ble_eq_true rfl, Nat.le_of_ble_eq_true rfl⟩ h1 (by decide) rfl (Nat.le_of_ble_eq_true rfl) ⟨Nat.zero_le _, Nat.zero_le _⟩ rfl ?_
      obtain ⟨d38, ed38, hf⟩ := bd_s hf
      refine b_iast C h3 h4 ed38 dX12_meansDeed_142 ?_
      refine b_goto C (tgt := 347) dX12_meansDeed_143 (by decide) ?_
      refine b_sub [(0, .ref (ad B x0)), (1, .int x1)] [0, 1] rfl ?_
      exact tX12_meansDeed_347 C hr hlocks hf
    have hf := if_s c32 hf
    by_cases c39 : (dI d7 r8 x1.toNatClampNeg) = 34
    · have hf := it_s c39 hf
      refine b_tabIn C (tgt := 146) (off := 126) dX12_meansDeed_20 c39 (by decide) (by decide) (by decide) (by decide) ?_
      refine b_aload_n C dX12_meansDeed_146 0 rfl rfl ?_
      refine b_gR C dX12_meansDeed_147 fl_X12_50 h1 er2 ?_
      refine b_iconst C (v := 0) dX12_meansDeed_150 (by decide) ?_
      refine b_iconst C (v := 3) dX12_meansDeed_151 (by decide) ?_
      obtain ⟨h40, hf⟩ := gd_s hf
      obtain ⟨d41, ed41, hf⟩ := bd_s hf
      refine b_iast C h3 h40 ed41 dX12_meansDeed_152 ?_
      refine b_sub [(0, .ref (ad B x0)), (1, .int x1)] [0, 1] rfl ?_
      exact tX12_meansDeed_153 C hr hlocks hf
    have hf := if_s c39 hf
    by_cases c50 : (dI d7 r8 x1.toNatClampNeg) = 35
    · have hf := it_s c50 hf
      refine b_tabIn C (tgt := 171) (off := 151) dX12_meansDeed_20 c50 (by decide) (by decide) (by decide) (by decide) ?_
      refine b_aload_n C dX12_meansDeed_171 0 rfl rfl ?_
      refine b_gR C dX12_meansDeed_172 fl_X12_50 h1 er2 ?_
      refine b_iconst C (v := 0) dX12_meansDeed_175 (by decide) ?_
      refine b_iconst C (v := 4) dX12_meansDeed_176 (by decide) ?_
      obtain ⟨h51, hf⟩ := gd_s hf
      obtain ⟨d52, ed52, hf⟩ := bd_s hf
      refine b_iast C h3 h51 ed52 dX12_meansDeed_177 ?_
      refine b_goto C (tgt := 347) dX12_meansDeed_178 (by decide) ?_
      refine b_sub [(0, .ref (ad B x0)), (1, .int x1)] [0, 1] rfl ?_
      exact tX12_meansDeed_347 C hr hlocks hf
    have hf := if_s c50 hf
    by_cases c53 : (dI d7 r8 x1.toNatClampNeg) = 36
    · have hf := it_s c53 hf
      refine b_tabIn C (tgt := 181) (off := 161) dX12_meansDeed_20 c53 (by decide) (by decide) (by decide) (by decide) ?_
      refine b_aload_n C dX12_meansDeed_181 0 rfl rfl ?_
      refine b_gR C dX12_meansDeed_182 fl_X12_50 h1 er2 ?_
      refine b_iconst C (v := 0) dX12_meansDeed_185 (by decide) ?_
      refine b_iconst C (v := 5) dX12_meansDeed_186 (by decide) ?_
      obtain ⟨h54, hf⟩ := gd_s hf
      obtain ⟨d55, ed55, hf⟩ := bd_s hf
      refine b_iast C h3 h54 ed55 dX12_meansDeed_187 ?_
      refine b_goto C (tgt := 347) dX12_meansDeed_188 (by decide) ?_
      refine b_sub [(0, .ref (ad B x0)), (1, .int x1)] [0, 1] rfl ?_
      exact tX12_meansDeed_347 C hr hlocks hf
    have hf := if_s c53 hf
    by_cases c56 : (dI d7 r8 x1.toNatClampNeg) = 37
    · have hf := it_s c56 hf
      refine b_tabIn C (tgt := 191) (off := 171) dX12_meansDeed_20 c56 (by decide) (by decide) (by decide) (by decide) ?_
      refine b_aload_n C dX12_meansDeed_191 0 rfl rfl ?_
      refine b_gR C dX12_meansDeed_192 fl_X12_20 h1 er8 ?_
      refine b_iload_n C dX12_meansDeed_195 1 rfl rfl ?_
      refine b_iconst C (v := 2) dX12_meansDeed_196 (by decide) ?_
      refine b_iadd C dX12_meansDeed_197 ?_
      obtain ⟨h57, hf⟩ := gd_s hf
      refine b_iald C h9 h57 dX12_meansDeed_198 ?_
      refine b_bipush C (v := 33) dX12_meansDeed_199 (by decide) ?_
      refine b_icmp_ne C (tgt := 208) dX12_meansDeed_201 (by decide) (fun c58 => ?_) (fun c58 => ?_)
      · have hf := if_s c58 hf
        refine b_iconst C (v := 0) dX12_meansDeed_208 (by decide) ?_
        refine b_sub [(0, .ref (ad B x0)), (1, .int x1)] [0, 1] rfl ?_
        exact tX12_meansDeed_209 C hr hlocks hf
      · have hf := it_s c58 hf
        refine b_iconst C (v := 1) dX12_meansDeed_204 (by decide) ?_
        refine b_goto C (tgt := 209) dX12_meansDeed_205 (by decide) ?_
        refine b_sub [(0, .ref (ad B x0)), (1, .int x1)] [0, 1] rfl ?_
        exact tX12_meansDeed_209 C hr hlocks hf
    have hf := if_s c56 hf
    by_cases c83 : (dI d7 r8 x1.toNatClampNeg) = 38
    · have hf := it_s c83 hf
      refine b_tabIn C (tgt := 279) (off := 259) dX12_meansDeed_20 c83 (by decide) (by decide) (by decide) (by decide) ?_
      refine b_aload_n C dX12_meansDeed_279 0 rfl rfl ?_
      refine b_gR C dX12_meansDeed_280 fl_X12_50 h1 er2 ?_
      refine b_iconst C (v := 0) dX12_meansDeed_283 (by decide) ?_
      refine b_bipush C (v := 8) dX12_meansDeed_284 (by decide) ?_
      obtain ⟨h84, hf⟩ := gd_s hf
      obtain ⟨d85, ed85, hf⟩ := bd_s hf
      refine b_iast C h3 h84 ed85 dX12_meansDeed_286 ?_
      refine b_aload_n C dX12_meansDeed_287 0 rfl rfl ?_
      refine b_gR C dX12_meansDeed_288 fl_X12_50 h1 er2 ?_
      refine b_iconst C (v := 1) dX12_meansDeed_291 (by decide) ?_
      refine b_aload_n C dX12_meansDeed_292 0 rfl rfl ?_
      refine b_iload_n C dX12_meansDeed_293 1 rfl rfl ?_
      refine b_iconst C (v := 1) dX12_meansDeed_294 (by decide) ?_
      refine b_iadd C dX12_meansDeed_295 ?_
      refine b_iconst C (v := 1) dX12_meansDeed_296 (by decide) ?_
      refine b_sipush C (v := 200) dX12_meansDeed_297 (by decide) ?_
      obtain ⟨u88, d86, k87, hf⟩ := cb_s hf
      refine b_cVI C [.int 1, .ref (ad B r2)] dX12_meansDeed_300 (kX12_within l D cy B k87) lv_X12_177 ⟨rfl, rfl, Nat.le_of_ble_eq_true rfl, Nat.le_of_ble_eq_true rfl⟩ h1 (by decide) rfl (Nat.le_of_ble_eq_true rfl) ⟨Nat.zero_le _, Nat.zero_le _⟩ rfl ?_
      obtain ⟨d89, ed89, hf⟩ := bd_s hf
      refine b_iast C h3 h4 ed89 dX12_meansDeed_303 ?_
      refine b_aload_n C dX12_meansDeed_304 0 rfl rfl ?_
      refine b_gR C dX12_meansDeed_305 fl_X12_50 h1 er2 ?_
      refine b_iconst C (v := 2) dX12_meansDeed_308 (by decide) ?_
      refine b_aload_n C dX12_meansDeed_309 0 rfl rfl ?_
      refine b_iload_n C dX12_meansDeed_310 1 rfl rfl ?_
      refine b_iconst C (v := 2) dX12_meansDeed_311 (by decide) ?_
      refine b_iadd C dX12_meansDeed_312 ?_
      refine b_iconst C (v := 1) dX12_meansDeed_313 (by decide) ?_
      refine b_sipush C (v := 200) dX12_meansDeed_314 (by decide) ?_
      obtain ⟨u92, d90, k91, hf⟩ := cb_s hf
      refine b_cVI C [.int 2, .ref (ad B r2)] dX12_meansDeed_317 (kX12_within l D cy B k91) lv_X12_177 ⟨rfl, rfl, Nat.le_of_ble_eq_true rfl, Nat.le_of_ble_eq_true rfl⟩ h1 (by decide) rfl (Nat.le_of_ble_eq_true rfl) ⟨Nat.zero_le _, Nat.zero_le _⟩ rfl ?_
      obtain ⟨d93, ed93, hf⟩ := bd_s hf
      refine b_iast C h3 h6 ed93 dX12_meansDeed_320 ?_
      refine b_goto C (tgt := 347) dX12_meansDeed_321 (by decide) ?_
      refine b_sub [(0, .ref (ad B x0)), (1, .int x1)] [0, 1] rfl ?_
      exact tX12_meansDeed_347 C hr hlocks hf
    have hf := if_s c83 hf
    cases hf
theorem kX12_meansDeed (l : Launch) (D : va_G) (cy : Nat → ClassId) (B : Bs) {N : Nat} {g : Gs} {x0 : Nat} {x1 : Int32}  {dz : Ds} {d : Ds} (hf : fX12_meansDeed N g x0 x1 d = some ((), dz)) : Met l yX12_meansDeed (.code yX12_meansDeed cX12_meansDeed 3 none :: wl) rmX12_meansDeed (PC D cy B [.ref (ad B x0), .int x1] g d) (QV D cy B g dz) 0 0 (wA B) :=
  met_of (by decide +kernel) (Nat.le_of_ble_eq_true rfl) (fun p e s m args below meth c C hr hlocks _ => b_sub [(0, .ref (ad B x0)), (1, .int x1)] [0, 1] rfl (tX12_meansDeed_E C hr hlocks hf))
/-! KeyMatrixModel.meansKey(I)V -/
theorem yo_X12_keyTold : yX12_keyTold.cls ≠ "java/lang/invoke/MethodHandle" ∧ yX12_keyTold.cls ≠ "java/lang/invoke/VarHandle" ∧ (parseMethodDescriptor yX12_keyTold.desc).map (fun d => d.parameters.length) = some 1 := by decide +kernel
theorem co_X12_keyTold : Cond.code yX12_keyTold cX12_keyTold 2 (some .int) ∈ wl := mW (mT6 (List.mem_of_getElem? (i := 41) (by decide +kernel))) rfl
theorem in_X12_keyTold : Cond.initialized yX12_keyTold.cls ∈ wl := mW (mT1 (List.mem_of_getElem? (i := 12) (by decide +kernel))) rfl
theorem im_X12_keyTold : Cond.instanceMethod yX12_keyTold ∈ wl := mW (mT6 (List.mem_of_getElem? (i := 40) (by decide +kernel))) rfl
theorem se_X12_keyTold : Cond.selects yX12_keyTold.cls yX12_keyTold yX12_keyTold ∈ wl := mW (mT0 (List.mem_of_getElem? (i := 48) (by decide +kernel))) rfl
theorem lv_X12_197 : LV RX12 197 yX12_keyTold cX12_keyTold 2 (some .int) 1 11 := ⟨⟨(RX12, TX12, 33), rfl, rfl⟩, yo_X12_keyTold, mW (mT6 (List.mem_of_getElem? (i := 38) (by decide +kernel))) rfl, im_X12_keyTold, se_X12_keyTold, in_X12_keyTold, co_X12_keyTold⟩
theorem yo_X12_meansDeed : yX12_meansDeed.cls ≠ "java/lang/invoke/MethodHandle" ∧ yX12_meansDeed.cls ≠ "java/lang/invoke/VarHandle" ∧ (parseMethodDescriptor yX12_meansDeed.desc).map (fun d => d.parameters.length) = some 1 := by decide +kernel
theorem co_X12_meansDeed : Cond.code yX12_meansDeed cX12_meansDeed 3 none ∈ wl := mW (mT6 (List.mem_of_getElem? (i := 45) (by decide +kernel))) rfl
theorem in_X12_meansDeed : Cond.initialized yX12_meansDeed.cls ∈ wl := mW (mT1 (List.mem_of_getElem? (i := 12) (by decide +kernel))) rfl
theorem im_X12_meansDeed : Cond.instanceMethod yX12_meansDeed ∈ wl := mW (mT6 (List.mem_of_getElem? (i := 44) (by decide +kernel))) rfl
theorem se_X12_meansDeed : Cond.selects yX12_meansDeed.cls yX12_meansDeed yX12_meansDeed ∈ wl := mW (mT0 (List.mem_of_getElem? (i := 49) (by decide +kernel))) rfl
theorem lv_X12_200 : LV RX12 200 yX12_meansDeed cX12_meansDeed 3 none 1 11 := ⟨⟨(RX12, TX12, 33), rfl, rfl⟩, yo_X12_meansDeed, mW (mT6 (List.mem_of_getElem? (i := 42) (by decide +kernel))) rfl, im_X12_meansDeed, se_X12_meansDeed, in_X12_meansDeed, co_X12_meansDeed⟩
theorem dX12_meansKey_0 : decode cX12_meansKey 0 = .ok (.aload_n 0, 1) := by decide +kernel
theorem dX12_meansKey_1 : decode cX12_meansKey 1 = .ok (.iload_n 1, 1) := by decide +kernel
theorem dX12_meansKey_2 : decode cX12_meansKey 2 = .ok (.iconst 1, 1) := by decide +kernel
theorem dX12_meansKey_3 : decode cX12_meansKey 3 = .ok (.iadd, 1) := by decide +kernel
theorem dX12_meansKey_4 : decode cX12_meansKey 4 = .ok (.iconst 0, 1) := by decide +kernel
theorem dX12_meansKey_5 : decode cX12_meansKey 5 = .ok (.iconst 3, 1) := by decide +kernel
theorem dX12_meansKey_6 : decode cX12_meansKey 6 = .ok (.invokevirtual 177, 3) := by decide +kernel
theorem dX12_meansKey_9 : decode cX12_meansKey 9 = .ok (.istore_n 2, 1) := by decide +kernel
theorem dX12_meansKey_10 : decode cX12_meansKey 10 = .ok (.aload_n 0, 1) := by decide +kernel
theorem dX12_meansKey_11 : decode cX12_meansKey 11 = .ok (.iload_n 1, 1) := by decide +kernel
theorem dX12_meansKey_12 : decode cX12_meansKey 12 = .ok (.iconst 2, 1) := by decide +kernel
theorem dX12_meansKey_13 : decode cX12_meansKey 13 = .ok (.iadd, 1) := by decide +kernel
theorem dX12_meansKey_14 : decode cX12_meansKey 14 = .ok (.invokevirtual 197, 3) := by decide +kernel
theorem dX12_meansKey_17 : decode cX12_meansKey 17 = .ok (.istore_n 3, 1) := by decide +kernel
theorem dX12_meansKey_18 : decode cX12_meansKey 18 = .ok (.aload_n 0, 1) := by decide +kernel
theorem dX12_meansKey_19 : decode cX12_meansKey 19 = .ok (.iload_n 1, 1) := by decide +kernel
theorem dX12_meansKey_20 : decode cX12_meansKey 20 = .ok (.iconst 3, 1) := by decide +kernel
theorem dX12_meansKey_21 : decode cX12_meansKey 21 = .ok (.iadd, 1) := by decide +kernel
theorem dX12_meansKey_22 : decode cX12_meansKey 22 = .ok (.invokevirtual 200, 3) := by decide +kernel
theorem dX12_meansKey_25 : decode cX12_meansKey 25 = .ok (.aload_n 0, 1) := by decide +kernel
theorem dX12_meansKey_26 : decode cX12_meansKey 26 = .ok (.getfield 133, 3) := by decide +kernel
theorem dX12_meansKey_29 : decode cX12_meansKey 29 = .ok (.ifCond .le 4, 3) := by decide +kernel
theorem dX12_meansKey_32 : decode cX12_meansKey 32 = .ok (.return_, 1) := by decide +kernel
theorem dX12_meansKey_33 : decode cX12_meansKey 33 = .ok (.iconst 0, 1) := by decide +kernel
theorem dX12_meansKey_34 : decode cX12_meansKey 34 = .ok (.istore 4, 2) := by decide +kernel
theorem dX12_meansKey_36 : decode cX12_meansKey 36 = .ok (.iload 4, 2) := by decide +kernel
theorem dX12_meansKey_38 : decode cX12_meansKey 38 = .ok (.iconst 3, 1) := by decide +kernel
theorem dX12_meansKey_39 : decode cX12_meansKey 39 = .ok (.if_icmp .ge 35, 3) := by decide +kernel
theorem dX12_meansKey_42 : decode cX12_meansKey 42 = .ok (.aload_n 0, 1) := by decide +kernel
theorem dX12_meansKey_43 : decode cX12_meansKey 43 = .ok (.getfield 43, 3) := by decide +kernel
theorem dX12_meansKey_46 : decode cX12_meansKey 46 = .ok (.bipush 12, 2) := by decide +kernel
theorem dX12_meansKey_48 : decode cX12_meansKey 48 = .ok (.iconst 3, 1) := by decide +kernel
theorem dX12_meansKey_49 : decode cX12_meansKey 49 = .ok (.bipush 24, 2) := by decide +kernel
theorem dX12_meansKey_51 : decode cX12_meansKey 51 = .ok (.iload_n 2, 1) := by decide +kernel
theorem dX12_meansKey_52 : decode cX12_meansKey 52 = .ok (.imul, 1) := by decide +kernel
theorem dX12_meansKey_53 : decode cX12_meansKey 53 = .ok (.iload_n 3, 1) := by decide +kernel
theorem dX12_meansKey_54 : decode cX12_meansKey 54 = .ok (.iadd, 1) := by decide +kernel
theorem dX12_meansKey_55 : decode cX12_meansKey 55 = .ok (.imul, 1) := by decide +kernel
theorem dX12_meansKey_56 : decode cX12_meansKey 56 = .ok (.iadd, 1) := by decide +kernel
theorem dX12_meansKey_57 : decode cX12_meansKey 57 = .ok (.iload 4, 2) := by decide +kernel
theorem dX12_meansKey_59 : decode cX12_meansKey 59 = .ok (.iadd, 1) := by decide +kernel
theorem dX12_meansKey_60 : decode cX12_meansKey 60 = .ok (.aload_n 0, 1) := by decide +kernel
theorem dX12_meansKey_61 : decode cX12_meansKey 61 = .ok (.getfield 50, 3) := by decide +kernel
theorem dX12_meansKey_64 : decode cX12_meansKey 64 = .ok (.iload 4, 2) := by decide +kernel
theorem dX12_meansKey_66 : decode cX12_meansKey 66 = .ok (.iaload, 1) := by decide +kernel
theorem dX12_meansKey_67 : decode cX12_meansKey 67 = .ok (.iastore, 1) := by decide +kernel
theorem dX12_meansKey_68 : decode cX12_meansKey 68 = .ok (.iinc 4 1, 3) := by decide +kernel
theorem dX12_meansKey_71 : decode cX12_meansKey 71 = .ok (.goto (-35), 3) := by decide +kernel
theorem dX12_meansKey_74 : decode cX12_meansKey 74 = .ok (.return_, 1) := by decide +kernel
def rmX12_meansKey : Room := { frames := 3, cells := 0, slots := 0, locals := 68 }
set_option maxRecDepth 100000 in
def fX12_meansKey_B36 (N : Nat) (g : Gs) (x0 : Nat) (x1 : Int32) (K36 : Int32 × Int32 × Int32 × Ds → Option (Unit × Ds)) (y2 : Int32) (y3 : Int32) (y4 : Int32) (d : Ds) : Option (Unit × Ds) := if (3 : Int32) ≤ y4 then (some ((), d)) else (gd (chk g x0 11) <| ob (gR g x0 18) fun r13 => (ob (gR g x0 23) fun r14 => (gd (chk g r14 102) <| gd (¬ (y4 < 0 ∨ gL g r14 ≤ y4.toNatClampNeg)) <| gd (chk g r13 102) <| gd (¬ ((((12 : Int32) + ((3 : Int32) * (((24 : Int32) * y2) + y3))) + y4) < 0 ∨ gL g r13 ≤ (((12 : Int32) + ((3 : Int32) * (((24 : Int32) * y2) + y3))) + y4).toNatClampNeg)) <| bd (sI d r13 (((12 : Int32) + ((3 : Int32) * (((24 : Int32) * y2) + y3))) + y4).toNatClampNeg (dI d r14 y4.toNatClampNeg)) fun d19 => (bd (y4 + 1) fun u20 => (K36 (y2, y3, u20, d19))))))
set_option maxHeartbeats 4000000 in
set_option maxRecDepth 100000 in
theorem tX12_meansKey_36 {p : Program} {l : Launch} {e : Env} {s : State} {m : MethodId} {args : Array Value} {below : List Frame} {meth : Method} {c : Code} {D : va_G} {cy : Nat → ClassId} {B : Bs} (C : Cx p s m args c cX12_meansKey 5 RX12 D cy B) (hr : meth.sig.returnType = none) (hlocks : meth.locks = false) {N : Nat} {g : Gs} {x0 : Nat} {x1 : Int32}  {dz : Ds} {K36 : Int32 × Int32 × Int32 × Ds → Option (Unit × Ds)} (hK36 : ∀ a, K36 a = some ((), dz) → WB p l e rmX12_meansKey s m args below meth c 5 D cy B 0 0 (MQ below (QV D cy B g dz) args s 0 0 (wA B)) g a.2.2.2 [(0, .ref (ad B x0)), (1, .int x1), (2, .int a.1), (3, .int a.2.1), (4, .int a.2.2.1)] 36 []) {y2 : Int32} {y3 : Int32} {y4 : Int32} {d : Ds} (hf : fX12_meansKey_B36 N g x0 x1 K36 y2 y3 y4 d = some ((), dz)) : WB p l e rmX12_meansKey s m args below meth c 5 D cy B 0 0 (MQ below (QV D cy B g dz) args s 0 0 (wA B)) g d [(0, .ref (ad B x0)), (1, .int x1), (2, .int y2), (3, .int y3), (4, .int y4)] 36 [] := by
  unfold fX12_meansKey_B36 at hf
  refine b_iload C dX12_meansKey_36 4 rfl ?_
  refine b_iconst C (v := 3) dX12_meansKey_38 (by decide) ?_
  refine b_icmp_ge C (tgt := 74) dX12_meansKey_39 (by decide) (fun c11 => ?_) (fun c11 => ?_)
  · have hf := it_s c11 hf
    exact b_vret C hr hlocks hf dX12_meansKey_74
  · have hf := if_s c11 hf
    refine b_aload_n C dX12_meansKey_42 0 rfl rfl ?_
    obtain ⟨h12, hf⟩ := gd_s hf
    obtain ⟨r13, er13, hf⟩ := ob_s hf
    refine b_gR C dX12_meansKey_43 fl_X12_43 h12 er13 ?_
    refine b_bipush C (v := 12) dX12_meansKey_46 (by decide) ?_
    refine b_iconst C (v := 3) dX12_meansKey_48 (by decide) ?_
    refine b_bipush C (v := 24) dX12_meansKey_49 (by decide) ?_
    refine b_iload_n C dX12_meansKey_51 2 rfl rfl ?_
    refine b_imul C dX12_meansKey_52 ?_
    refine b_iload_n C dX12_meansKey_53 3 rfl rfl ?_
    refine b_iadd C dX12_meansKey_54 ?_
    refine b_imul C dX12_meansKey_55 ?_
    refine b_iadd C dX12_meansKey_56 ?_
    refine b_iload C dX12_meansKey_57 4 rfl ?_
    refine b_iadd C dX12_meansKey_59 ?_
    refine b_aload_n C dX12_meansKey_60 0 rfl rfl ?_
    obtain ⟨r14, er14, hf⟩ := ob_s hf
    refine b_gR C dX12_meansKey_61 fl_X12_50 h12 er14 ?_
    refine b_iload C dX12_meansKey_64 4 rfl ?_
    obtain ⟨h15, hf⟩ := gd_s hf
    obtain ⟨h16, hf⟩ := gd_s hf
    refine b_iald C h15 h16 dX12_meansKey_66 ?_
    obtain ⟨h17, hf⟩ := gd_s hf
    obtain ⟨h18, hf⟩ := gd_s hf
    obtain ⟨d19, ed19, hf⟩ := bd_s hf
    refine b_iast C h17 h18 ed19 dX12_meansKey_67 ?_
    obtain ⟨u20, eu20, hf⟩ := bd_s hf
    refine b_iinc C dX12_meansKey_68 4 rfl (by rw [eu20]; rfl) [(4, .int u20), (0, .ref (ad B x0)), (1, .int x1), (2, .int y2), (3, .int y3)] (by decide) rfl ?_
    refine b_goto C (tgt := 36) dX12_meansKey_71 (by decide) ?_
    refine b_sub [(0, .ref (ad B x0)), (1, .int x1), (2, .int y2), (3, .int y3), (4, .int u20)] [1, 2, 3, 4, 0] rfl ?_
    exact hK36 (y2, y3, u20, d19) hf
def fX12_meansKey_L36 (N : Nat) (g : Gs) (x0 : Nat) (x1 : Int32) : Int32 × Int32 × Int32 × Ds → Option (Unit × Ds) := lp (fun K36 a => fX12_meansKey_B36 N g x0 x1 K36 a.1 a.2.1 a.2.2.1 a.2.2.2) N
theorem tX12_meansKey_L36 {p : Program} {l : Launch} {e : Env} {s : State} {m : MethodId} {args : Array Value} {below : List Frame} {meth : Method} {c : Code} {D : va_G} {cy : Nat → ClassId} {B : Bs} (C : Cx p s m args c cX12_meansKey 5 RX12 D cy B) (hr : meth.sig.returnType = none) (hlocks : meth.locks = false) {N : Nat} {g : Gs} {x0 : Nat} {x1 : Int32}  {dz : Ds} (a : Int32 × Int32 × Int32 × Ds) (hf : fX12_meansKey_L36 N g x0 x1 a = some ((), dz)) : WB p l e rmX12_meansKey s m args below meth c 5 D cy B 0 0 (MQ below (QV D cy B g dz) args s 0 0 (wA B)) g a.2.2.2 [(0, .ref (ad B x0)), (1, .int x1), (2, .int a.1), (3, .int a.2.1), (4, .int a.2.2.1)] 36 [] :=
  lp_w (fun K36 hK36 a ha => tX12_meansKey_36 C hr hlocks hK36 ha) N a hf
set_option maxRecDepth 100000 in
def fX12_meansKey (N : Nat) (g : Gs) (x0 : Nat) (x1 : Int32) (d : Ds) : Option (Unit × Ds) := gd (chk g x0 11) <| cb (fX12_within N g x0 (x1 + 1) 0 3 d) fun u4 d2 => (cb (fX12_keyTold N g x0 (x1 + 2) d2) fun u7 d5 => (cv (fX12_meansDeed N g x0 (x1 + 3) d5) fun d8 => (if (dI d8 x0 14) ≤ 0 then (fX12_meansKey_L36 N g x0 x1 (u4, u7, 0, d8)) else (some ((), d8)))))
set_option maxHeartbeats 4000000 in
set_option maxRecDepth 100000 in
theorem tX12_meansKey_E {p : Program} {l : Launch} {e : Env} {s : State} {m : MethodId} {args : Array Value} {below : List Frame} {meth : Method} {c : Code} {D : va_G} {cy : Nat → ClassId} {B : Bs} (C : Cx p s m args c cX12_meansKey 5 RX12 D cy B) (hr : meth.sig.returnType = none) (hlocks : meth.locks = false) {N : Nat} {g : Gs} {x0 : Nat} {x1 : Int32}  {dz : Ds} {d : Ds} (hf : fX12_meansKey N g x0 x1 d = some ((), dz)) : WB p l e rmX12_meansKey s m args below meth c 5 D cy B 0 0 (MQ below (QV D cy B g dz) args s 0 0 (wA B)) g d [(0, .ref (ad B x0)), (1, .int x1)] 0 [] := by
  unfold fX12_meansKey at hf
  refine b_aload_n C dX12_meansKey_0 0 rfl rfl ?_
  refine b_iload_n C dX12_meansKey_1 1 rfl rfl ?_
  refine b_iconst C (v := 1) dX12_meansKey_2 (by decide) ?_
  refine b_iadd C dX12_meansKey_3 ?_
  refine b_iconst C (v := 0) dX12_meansKey_4 (by decide) ?_
  refine b_iconst C (v := 3) dX12_meansKey_5 (by decide) ?_
  obtain ⟨h1, hf⟩ := gd_s hf
  obtain ⟨u4, d2, k3, hf⟩ := cb_s hf
  refine b_cVI C [] dX12_meansKey_6 (kX12_within l D cy B k3) lv_X12_177 ⟨rfl, rfl, Nat.le_of_ble_eq_true rfl, Nat.le_of_ble_eq_true rfl⟩ h1 (by decide) rfl (Nat.le_of_ble_eq_true rfl) ⟨Nat.zero_le _, Nat.zero_le _⟩ rfl ?_
  refine b_istore_n C dX12_meansKey_9 rfl [(2, .int u4), (0, .ref (ad B x0)), (1, .int x1)] (by decide) rfl ?_
  refine b_aload_n C dX12_meansKey_10 1 rfl rfl ?_
  refine b_iload_n C dX12_meansKey_11 2 rfl rfl ?_
  refine b_iconst C (v := 2) dX12_meansKey_12 (by decide) ?_
  refine b_iadd C dX12_meansKey_13 ?_
  obtain ⟨u7, d5, k6, hf⟩ := cb_s hf
  refine b_cVI C [] dX12_meansKey_14 (kX12_keyTold l D cy B k6) lv_X12_197 ⟨rfl, rfl, Nat.le_of_ble_eq_true rfl, Nat.le_of_ble_eq_true rfl⟩ h1 (by decide) rfl (Nat.le_of_ble_eq_true rfl) ⟨Nat.zero_le _, Nat.zero_le _⟩ rfl ?_
  refine b_istore_n C dX12_meansKey_17 rfl [(3, .int u7), (2, .int u4), (0, .ref (ad B x0)), (1, .int x1)] (by decide) rfl ?_
  refine b_aload_n C dX12_meansKey_18 2 rfl rfl ?_
  refine b_iload_n C dX12_meansKey_19 3 rfl rfl ?_
  refine b_iconst C (v := 3) dX12_meansKey_20 (by decide) ?_
  refine b_iadd C dX12_meansKey_21 ?_
  obtain ⟨d8, k9, hf⟩ := cv_s hf
  refine b_cVN C [] dX12_meansKey_22 (kX12_meansDeed l D cy B k9) lv_X12_200 ⟨rfl, rfl, Nat.le_of_ble_eq_true rfl, Nat.le_of_ble_eq_true rfl⟩ h1 (by decide) rfl (Nat.le_of_ble_eq_true rfl) ⟨Nat.zero_le _, Nat.zero_le _⟩ rfl ?_
  refine b_aload_n C dX12_meansKey_25 2 rfl rfl ?_
  refine b_gI C dX12_meansKey_26 fl_X12_133 h1 ?_
  refine b_if_le C (tgt := 33) dX12_meansKey_29 (by decide) (fun c10 => ?_) (fun c10 => ?_)
  · have hf := it_s c10 hf
    refine b_iconst C (v := 0) dX12_meansKey_33 (by decide) ?_
    refine b_istore C dX12_meansKey_34 [(4, .int 0), (3, .int u7), (2, .int u4), (0, .ref (ad B x0)), (1, .int x1)] (by decide) rfl ?_
    refine b_sub [(0, .ref (ad B x0)), (1, .int x1), (2, .int u4), (3, .int u7), (4, .int 0)] [3, 4, 2, 1, 0] rfl ?_
    exact tX12_meansKey_L36 C hr hlocks (u4, u7, 0, d8) hf
  · have hf := if_s c10 hf
    exact b_vret C hr hlocks hf dX12_meansKey_32
theorem kX12_meansKey (l : Launch) (D : va_G) (cy : Nat → ClassId) (B : Bs) {N : Nat} {g : Gs} {x0 : Nat} {x1 : Int32}  {dz : Ds} {d : Ds} (hf : fX12_meansKey N g x0 x1 d = some ((), dz)) : Met l yX12_meansKey (.code yX12_meansKey cX12_meansKey 5 none :: wl) rmX12_meansKey (PC D cy B [.ref (ad B x0), .int x1] g d) (QV D cy B g dz) 0 0 (wA B) :=
  met_of (by decide +kernel) (Nat.le_of_ble_eq_true rfl) (fun p e s m args below meth c C hr hlocks _ => b_sub [(0, .ref (ad B x0)), (1, .int x1)] [0, 1] rfl (tX12_meansKey_E C hr hlocks hf))
/-! KeyMatrixModel.isChorded(I)Z -/
theorem dX12_isChorded_0 : decode cX12_isChorded 0 = .ok (.iconst 0, 1) := by decide +kernel
theorem dX12_isChorded_1 : decode cX12_isChorded 1 = .ok (.istore_n 2, 1) := by decide +kernel
theorem dX12_isChorded_2 : decode cX12_isChorded 2 = .ok (.iload_n 2, 1) := by decide +kernel
theorem dX12_isChorded_3 : decode cX12_isChorded 3 = .ok (.aload_n 0, 1) := by decide +kernel
theorem dX12_isChorded_4 : decode cX12_isChorded 4 = .ok (.getfield 43, 3) := by decide +kernel
theorem dX12_isChorded_7 : decode cX12_isChorded 7 = .ok (.bipush 10, 2) := by decide +kernel
theorem dX12_isChorded_9 : decode cX12_isChorded 9 = .ok (.iaload, 1) := by decide +kernel
theorem dX12_isChorded_10 : decode cX12_isChorded 10 = .ok (.if_icmp .ge 45, 3) := by decide +kernel
theorem dX12_isChorded_13 : decode cX12_isChorded 13 = .ok (.aload_n 0, 1) := by decide +kernel
theorem dX12_isChorded_14 : decode cX12_isChorded 14 = .ok (.getfield 43, 3) := by decide +kernel
theorem dX12_isChorded_17 : decode cX12_isChorded 17 = .ok (.sipush 300, 3) := by decide +kernel
theorem dX12_isChorded_20 : decode cX12_isChorded 20 = .ok (.iconst 4, 1) := by decide +kernel
theorem dX12_isChorded_21 : decode cX12_isChorded 21 = .ok (.iload_n 2, 1) := by decide +kernel
theorem dX12_isChorded_22 : decode cX12_isChorded 22 = .ok (.imul, 1) := by decide +kernel
theorem dX12_isChorded_23 : decode cX12_isChorded 23 = .ok (.iadd, 1) := by decide +kernel
theorem dX12_isChorded_24 : decode cX12_isChorded 24 = .ok (.iaload, 1) := by decide +kernel
theorem dX12_isChorded_25 : decode cX12_isChorded 25 = .ok (.iload_n 1, 1) := by decide +kernel
theorem dX12_isChorded_26 : decode cX12_isChorded 26 = .ok (.if_icmp .eq 21, 3) := by decide +kernel
theorem dX12_isChorded_29 : decode cX12_isChorded 29 = .ok (.aload_n 0, 1) := by decide +kernel
theorem dX12_isChorded_30 : decode cX12_isChorded 30 = .ok (.getfield 43, 3) := by decide +kernel
theorem dX12_isChorded_33 : decode cX12_isChorded 33 = .ok (.sipush 300, 3) := by decide +kernel
theorem dX12_isChorded_36 : decode cX12_isChorded 36 = .ok (.iconst 4, 1) := by decide +kernel
theorem dX12_isChorded_37 : decode cX12_isChorded 37 = .ok (.iload_n 2, 1) := by decide +kernel
theorem dX12_isChorded_38 : decode cX12_isChorded 38 = .ok (.imul, 1) := by decide +kernel
theorem dX12_isChorded_39 : decode cX12_isChorded 39 = .ok (.iadd, 1) := by decide +kernel
theorem dX12_isChorded_40 : decode cX12_isChorded 40 = .ok (.iconst 1, 1) := by decide +kernel
theorem dX12_isChorded_41 : decode cX12_isChorded 41 = .ok (.iadd, 1) := by decide +kernel
theorem dX12_isChorded_42 : decode cX12_isChorded 42 = .ok (.iaload, 1) := by decide +kernel
theorem dX12_isChorded_43 : decode cX12_isChorded 43 = .ok (.iload_n 1, 1) := by decide +kernel
theorem dX12_isChorded_44 : decode cX12_isChorded 44 = .ok (.if_icmp .ne 5, 3) := by decide +kernel
theorem dX12_isChorded_47 : decode cX12_isChorded 47 = .ok (.iconst 1, 1) := by decide +kernel
theorem dX12_isChorded_48 : decode cX12_isChorded 48 = .ok (.ireturn, 1) := by decide +kernel
theorem dX12_isChorded_49 : decode cX12_isChorded 49 = .ok (.iinc 2 1, 3) := by decide +kernel
theorem dX12_isChorded_52 : decode cX12_isChorded 52 = .ok (.goto (-50), 3) := by decide +kernel
theorem dX12_isChorded_55 : decode cX12_isChorded 55 = .ok (.iconst 0, 1) := by decide +kernel
theorem dX12_isChorded_56 : decode cX12_isChorded 56 = .ok (.ireturn, 1) := by decide +kernel
def rmX12_isChorded : Room := { frames := 0, cells := 0, slots := 0, locals := 0 }
set_option maxRecDepth 100000 in
def fX12_isChorded_J47 (N : Nat) (g : Gs) (x0 : Nat) (x1 : Int32) (d : Ds) : Option (Int32 × Ds) := some (1, d)
set_option maxHeartbeats 4000000 in
set_option maxRecDepth 100000 in
theorem tX12_isChorded_47 {p : Program} {l : Launch} {e : Env} {s : State} {m : MethodId} {args : Array Value} {below : List Frame} {meth : Method} {c : Code} {D : va_G} {cy : Nat → ClassId} {B : Bs} (C : Cx p s m args c cX12_isChorded 3 RX12 D cy B) (hr : meth.sig.returnType = (some .boolean)) (hlocks : meth.locks = false) {N : Nat} {g : Gs} {x0 : Nat} {x1 : Int32} {vz : Int32} {dz : Ds} {d : Ds} (hf : fX12_isChorded_J47 N g x0 x1 d = some (vz, dz)) : WB p l e rmX12_isChorded s m args below meth c 3 D cy B 0 0 (MQ below (QI D cy B vz g dz) args s 0 0 (wA B)) g d [(0, .ref (ad B x0)), (1, .int x1)] 47 [] := by
  unfold fX12_isChorded_J47 at hf
  refine b_iconst C (v := 1) dX12_isChorded_47 (by decide) ?_
  exact b_zret C hr hlocks (by decide) hf dX12_isChorded_48
set_option maxRecDepth 100000 in
def fX12_isChorded_B2 (N : Nat) (g : Gs) (x0 : Nat) (x1 : Int32) (K2 : Int32 × Ds → Option (Int32 × Ds)) (y2 : Int32) (d : Ds) : Option (Int32 × Ds) := gd (chk g x0 11) <| ob (gR g x0 18) fun r2 => (gd (chk g r2 102) <| gd (¬ ((10 : Int32) < 0 ∨ gL g r2 ≤ (10 : Int32).toNatClampNeg)) <| if (dI d r2 (10 : Int32).toNatClampNeg) ≤ y2 then (some (0, d)) else (gd (¬ (((300 : Int32) + ((4 : Int32) * y2)) < 0 ∨ gL g r2 ≤ ((300 : Int32) + ((4 : Int32) * y2)).toNatClampNeg)) <| if (dI d r2 ((300 : Int32) + ((4 : Int32) * y2)).toNatClampNeg) = x1 then (fX12_isChorded_J47 N g x0 x1 d) else (gd (¬ ((((300 : Int32) + ((4 : Int32) * y2)) + 1) < 0 ∨ gL g r2 ≤ (((300 : Int32) + ((4 : Int32) * y2)) + 1).toNatClampNeg)) <| if (dI d r2 (((300 : Int32) + ((4 : Int32) * y2)) + 1).toNatClampNeg) = x1 then (fX12_isChorded_J47 N g x0 x1 d) else (bd (y2 + 1) fun u10 => (K2 (u10, d))))))
set_option maxHeartbeats 4000000 in
set_option maxRecDepth 100000 in
theorem tX12_isChorded_2 {p : Program} {l : Launch} {e : Env} {s : State} {m : MethodId} {args : Array Value} {below : List Frame} {meth : Method} {c : Code} {D : va_G} {cy : Nat → ClassId} {B : Bs} (C : Cx p s m args c cX12_isChorded 3 RX12 D cy B) (hr : meth.sig.returnType = (some .boolean)) (hlocks : meth.locks = false) {N : Nat} {g : Gs} {x0 : Nat} {x1 : Int32} {vz : Int32} {dz : Ds} {K2 : Int32 × Ds → Option (Int32 × Ds)} (hK2 : ∀ a, K2 a = some (vz, dz) → WB p l e rmX12_isChorded s m args below meth c 3 D cy B 0 0 (MQ below (QI D cy B vz g dz) args s 0 0 (wA B)) g a.2 [(0, .ref (ad B x0)), (1, .int x1), (2, .int a.1)] 2 []) {y2 : Int32} {d : Ds} (hf : fX12_isChorded_B2 N g x0 x1 K2 y2 d = some (vz, dz)) : WB p l e rmX12_isChorded s m args below meth c 3 D cy B 0 0 (MQ below (QI D cy B vz g dz) args s 0 0 (wA B)) g d [(0, .ref (ad B x0)), (1, .int x1), (2, .int y2)] 2 [] := by
  unfold fX12_isChorded_B2 at hf
  refine b_iload_n C dX12_isChorded_2 2 rfl rfl ?_
  refine b_aload_n C dX12_isChorded_3 0 rfl rfl ?_
  obtain ⟨h1, hf⟩ := gd_s hf
  obtain ⟨r2, er2, hf⟩ := ob_s hf
  refine b_gR C dX12_isChorded_4 fl_X12_43 h1 er2 ?_
  refine b_bipush C (v := 10) dX12_isChorded_7 (by decide) ?_
  obtain ⟨h3, hf⟩ := gd_s hf
  obtain ⟨h4, hf⟩ := gd_s hf
  refine b_iald C h3 h4 dX12_isChorded_9 ?_
  refine b_icmp_ge C (tgt := 55) dX12_isChorded_10 (by decide) (fun c5 => ?_) (fun c5 => ?_)
  · have hf := it_s c5 hf
    refine b_iconst C (v := 0) dX12_isChorded_55 (by decide) ?_
    exact b_zret C hr hlocks (by decide) hf dX12_isChorded_56
  · have hf := if_s c5 hf
    refine b_aload_n C dX12_isChorded_13 0 rfl rfl ?_
    refine b_gR C dX12_isChorded_14 fl_X12_43 h1 er2 ?_
    refine b_sipush C (v := 300) dX12_isChorded_17 (by decide) ?_
    refine b_iconst C (v := 4) dX12_isChorded_20 (by decide) ?_
    refine b_iload_n C dX12_isChorded_21 2 rfl rfl ?_
    refine b_imul C dX12_isChorded_22 ?_
    refine b_iadd C dX12_isChorded_23 ?_
    obtain ⟨h6, hf⟩ := gd_s hf
    refine b_iald C h3 h6 dX12_isChorded_24 ?_
    refine b_iload_n C dX12_isChorded_25 1 rfl rfl ?_
    refine b_icmp_eq C (tgt := 47) dX12_isChorded_26 (by decide) (fun c7 => ?_) (fun c7 => ?_)
    · have hf := it_s c7 hf
      refine b_sub [(0, .ref (ad B x0)), (1, .int x1)] [0, 1] rfl ?_
      exact tX12_isChorded_47 C hr hlocks hf
    · have hf := if_s c7 hf
      refine b_aload_n C dX12_isChorded_29 0 rfl rfl ?_
      refine b_gR C dX12_isChorded_30 fl_X12_43 h1 er2 ?_
      refine b_sipush C (v := 300) dX12_isChorded_33 (by decide) ?_
      refine b_iconst C (v := 4) dX12_isChorded_36 (by decide) ?_
      refine b_iload_n C dX12_isChorded_37 2 rfl rfl ?_
      refine b_imul C dX12_isChorded_38 ?_
      refine b_iadd C dX12_isChorded_39 ?_
      refine b_iconst C (v := 1) dX12_isChorded_40 (by decide) ?_
      refine b_iadd C dX12_isChorded_41 ?_
      obtain ⟨h8, hf⟩ := gd_s hf
      refine b_iald C h3 h8 dX12_isChorded_42 ?_
      refine b_iload_n C dX12_isChorded_43 1 rfl rfl ?_
      refine b_icmp_ne C (tgt := 49) dX12_isChorded_44 (by decide) (fun c9 => ?_) (fun c9 => ?_)
      · have hf := if_s c9 hf
        obtain ⟨u10, eu10, hf⟩ := bd_s hf
        refine b_iinc C dX12_isChorded_49 2 rfl (by rw [eu10]; rfl) [(2, .int u10), (0, .ref (ad B x0)), (1, .int x1)] (by decide) rfl ?_
        refine b_goto C (tgt := 2) dX12_isChorded_52 (by decide) ?_
        refine b_sub [(0, .ref (ad B x0)), (1, .int x1), (2, .int u10)] [1, 2, 0] rfl ?_
        exact hK2 (u10, d) hf
      · have hf := it_s c9 hf
        refine b_sub [(0, .ref (ad B x0)), (1, .int x1)] [0, 1] rfl ?_
        exact tX12_isChorded_47 C hr hlocks hf
def fX12_isChorded_L2 (N : Nat) (g : Gs) (x0 : Nat) (x1 : Int32) : Int32 × Ds → Option (Int32 × Ds) := lp (fun K2 a => fX12_isChorded_B2 N g x0 x1 K2 a.1 a.2) N
theorem tX12_isChorded_L2 {p : Program} {l : Launch} {e : Env} {s : State} {m : MethodId} {args : Array Value} {below : List Frame} {meth : Method} {c : Code} {D : va_G} {cy : Nat → ClassId} {B : Bs} (C : Cx p s m args c cX12_isChorded 3 RX12 D cy B) (hr : meth.sig.returnType = (some .boolean)) (hlocks : meth.locks = false) {N : Nat} {g : Gs} {x0 : Nat} {x1 : Int32} {vz : Int32} {dz : Ds} (a : Int32 × Ds) (hf : fX12_isChorded_L2 N g x0 x1 a = some (vz, dz)) : WB p l e rmX12_isChorded s m args below meth c 3 D cy B 0 0 (MQ below (QI D cy B vz g dz) args s 0 0 (wA B)) g a.2 [(0, .ref (ad B x0)), (1, .int x1), (2, .int a.1)] 2 [] :=
  lp_w (fun K2 hK2 a ha => tX12_isChorded_2 C hr hlocks hK2 ha) N a hf
set_option maxRecDepth 100000 in
def fX12_isChorded (N : Nat) (g : Gs) (x0 : Nat) (x1 : Int32) (d : Ds) : Option (Int32 × Ds) := fX12_isChorded_L2 N g x0 x1 (0, d)
set_option maxHeartbeats 4000000 in
set_option maxRecDepth 100000 in
theorem tX12_isChorded_E {p : Program} {l : Launch} {e : Env} {s : State} {m : MethodId} {args : Array Value} {below : List Frame} {meth : Method} {c : Code} {D : va_G} {cy : Nat → ClassId} {B : Bs} (C : Cx p s m args c cX12_isChorded 3 RX12 D cy B) (hr : meth.sig.returnType = (some .boolean)) (hlocks : meth.locks = false) {N : Nat} {g : Gs} {x0 : Nat} {x1 : Int32} {vz : Int32} {dz : Ds} {d : Ds} (hf : fX12_isChorded N g x0 x1 d = some (vz, dz)) : WB p l e rmX12_isChorded s m args below meth c 3 D cy B 0 0 (MQ below (QI D cy B vz g dz) args s 0 0 (wA B)) g d [(0, .ref (ad B x0)), (1, .int x1)] 0 [] := by
  unfold fX12_isChorded at hf
  refine b_iconst C (v := 0) dX12_isChorded_0 (by decide) ?_
  refine b_istore_n C dX12_isChorded_1 rfl [(2, .int 0), (0, .ref (ad B x0)), (1, .int x1)] (by decide) rfl ?_
  refine b_sub [(0, .ref (ad B x0)), (1, .int x1), (2, .int 0)] [1, 2, 0] rfl ?_
  exact tX12_isChorded_L2 C hr hlocks (0, d) hf
theorem kX12_isChorded (l : Launch) (D : va_G) (cy : Nat → ClassId) (B : Bs) {N : Nat} {g : Gs} {x0 : Nat} {x1 : Int32} {vz : Int32} {dz : Ds} {d : Ds} (hf : fX12_isChorded N g x0 x1 d = some (vz, dz)) : Met l yX12_isChorded (.code yX12_isChorded cX12_isChorded 3 (some .boolean) :: wl) rmX12_isChorded (PC D cy B [.ref (ad B x0), .int x1] g d) (QI D cy B vz g dz) 0 0 (wA B) :=
  met_of (by decide +kernel) (Nat.le_of_ble_eq_true rfl) (fun p e s m args below meth c C hr hlocks _ => b_sub [(0, .ref (ad B x0)), (1, .int x1)] [0, 1] rfl (tX12_isChorded_E C hr hlocks hf))
/-! KeyMatrixModel.meansChord(I)V -/
theorem yo_X12_isChorded : yX12_isChorded.cls ≠ "java/lang/invoke/MethodHandle" ∧ yX12_isChorded.cls ≠ "java/lang/invoke/VarHandle" ∧ (parseMethodDescriptor yX12_isChorded.desc).map (fun d => d.parameters.length) = some 1 := by decide +kernel
theorem co_X12_isChorded : Cond.code yX12_isChorded cX12_isChorded 3 (some .boolean) ∈ wl := mW (mT6 (List.mem_of_getElem? (i := 53) (by decide +kernel))) rfl
theorem in_X12_isChorded : Cond.initialized yX12_isChorded.cls ∈ wl := mW (mT1 (List.mem_of_getElem? (i := 12) (by decide +kernel))) rfl
theorem im_X12_isChorded : Cond.instanceMethod yX12_isChorded ∈ wl := mW (mT6 (List.mem_of_getElem? (i := 52) (by decide +kernel))) rfl
theorem se_X12_isChorded : Cond.selects yX12_isChorded.cls yX12_isChorded yX12_isChorded ∈ wl := mW (mT0 (List.mem_of_getElem? (i := 51) (by decide +kernel))) rfl
theorem lv_X12_203 : LV RX12 203 yX12_isChorded cX12_isChorded 3 (some .boolean) 1 11 := ⟨⟨(RX12, TX12, 33), rfl, rfl⟩, yo_X12_isChorded, mW (mT6 (List.mem_of_getElem? (i := 50) (by decide +kernel))) rfl, im_X12_isChorded, se_X12_isChorded, in_X12_isChorded, co_X12_isChorded⟩
theorem dX12_meansChord_0 : decode cX12_meansChord 0 = .ok (.sipush 300, 3) := by decide +kernel
theorem dX12_meansChord_3 : decode cX12_meansChord 3 = .ok (.iconst 4, 1) := by decide +kernel
theorem dX12_meansChord_4 : decode cX12_meansChord 4 = .ok (.aload_n 0, 1) := by decide +kernel
theorem dX12_meansChord_5 : decode cX12_meansChord 5 = .ok (.getfield 43, 3) := by decide +kernel
theorem dX12_meansChord_8 : decode cX12_meansChord 8 = .ok (.bipush 10, 2) := by decide +kernel
theorem dX12_meansChord_10 : decode cX12_meansChord 10 = .ok (.iaload, 1) := by decide +kernel
theorem dX12_meansChord_11 : decode cX12_meansChord 11 = .ok (.imul, 1) := by decide +kernel
theorem dX12_meansChord_12 : decode cX12_meansChord 12 = .ok (.iadd, 1) := by decide +kernel
theorem dX12_meansChord_13 : decode cX12_meansChord 13 = .ok (.istore_n 2, 1) := by decide +kernel
theorem dX12_meansChord_14 : decode cX12_meansChord 14 = .ok (.iconst 1, 1) := by decide +kernel
theorem dX12_meansChord_15 : decode cX12_meansChord 15 = .ok (.istore_n 3, 1) := by decide +kernel
theorem dX12_meansChord_16 : decode cX12_meansChord 16 = .ok (.iload_n 3, 1) := by decide +kernel
theorem dX12_meansChord_17 : decode cX12_meansChord 17 = .ok (.iconst 3, 1) := by decide +kernel
theorem dX12_meansChord_18 : decode cX12_meansChord 18 = .ok (.if_icmp .ge 63, 3) := by decide +kernel
theorem dX12_meansChord_21 : decode cX12_meansChord 21 = .ok (.aload_n 0, 1) := by decide +kernel
theorem dX12_meansChord_22 : decode cX12_meansChord 22 = .ok (.getfield 27, 3) := by decide +kernel
theorem dX12_meansChord_25 : decode cX12_meansChord 25 = .ok (.iload_n 1, 1) := by decide +kernel
theorem dX12_meansChord_26 : decode cX12_meansChord 26 = .ok (.iload_n 3, 1) := by decide +kernel
theorem dX12_meansChord_27 : decode cX12_meansChord 27 = .ok (.iadd, 1) := by decide +kernel
theorem dX12_meansChord_28 : decode cX12_meansChord 28 = .ok (.iaload, 1) := by decide +kernel
theorem dX12_meansChord_29 : decode cX12_meansChord 29 = .ok (.istore 4, 2) := by decide +kernel
theorem dX12_meansChord_31 : decode cX12_meansChord 31 = .ok (.aload_n 0, 1) := by decide +kernel
theorem dX12_meansChord_32 : decode cX12_meansChord 32 = .ok (.iload 4, 2) := by decide +kernel
theorem dX12_meansChord_34 : decode cX12_meansChord 34 = .ok (.invokevirtual 203, 3) := by decide +kernel
theorem dX12_meansChord_37 : decode cX12_meansChord 37 = .ok (.ifCond .ne 21, 3) := by decide +kernel
theorem dX12_meansChord_40 : decode cX12_meansChord 40 = .ok (.iload_n 3, 1) := by decide +kernel
theorem dX12_meansChord_41 : decode cX12_meansChord 41 = .ok (.iconst 2, 1) := by decide +kernel
theorem dX12_meansChord_42 : decode cX12_meansChord 42 = .ok (.if_icmp .ne 24, 3) := by decide +kernel
theorem dX12_meansChord_45 : decode cX12_meansChord 45 = .ok (.iload 4, 2) := by decide +kernel
theorem dX12_meansChord_47 : decode cX12_meansChord 47 = .ok (.aload_n 0, 1) := by decide +kernel
theorem dX12_meansChord_48 : decode cX12_meansChord 48 = .ok (.getfield 27, 3) := by decide +kernel
theorem dX12_meansChord_51 : decode cX12_meansChord 51 = .ok (.iload_n 1, 1) := by decide +kernel
theorem dX12_meansChord_52 : decode cX12_meansChord 52 = .ok (.iconst 1, 1) := by decide +kernel
theorem dX12_meansChord_53 : decode cX12_meansChord 53 = .ok (.iadd, 1) := by decide +kernel
theorem dX12_meansChord_54 : decode cX12_meansChord 54 = .ok (.iaload, 1) := by decide +kernel
theorem dX12_meansChord_55 : decode cX12_meansChord 55 = .ok (.if_icmp .ne 11, 3) := by decide +kernel
theorem dX12_meansChord_58 : decode cX12_meansChord 58 = .ok (.aload_n 0, 1) := by decide +kernel
theorem dX12_meansChord_59 : decode cX12_meansChord 59 = .ok (.iconst 3, 1) := by decide +kernel
theorem dX12_meansChord_60 : decode cX12_meansChord 60 = .ok (.iload_n 1, 1) := by decide +kernel
theorem dX12_meansChord_61 : decode cX12_meansChord 61 = .ok (.iload_n 3, 1) := by decide +kernel
theorem dX12_meansChord_62 : decode cX12_meansChord 62 = .ok (.iadd, 1) := by decide +kernel
theorem dX12_meansChord_63 : decode cX12_meansChord 63 = .ok (.invokevirtual 173, 3) := by decide +kernel
theorem dX12_meansChord_66 : decode cX12_meansChord 66 = .ok (.aload_n 0, 1) := by decide +kernel
theorem dX12_meansChord_67 : decode cX12_meansChord 67 = .ok (.iload_n 1, 1) := by decide +kernel
theorem dX12_meansChord_68 : decode cX12_meansChord 68 = .ok (.iload_n 3, 1) := by decide +kernel
theorem dX12_meansChord_69 : decode cX12_meansChord 69 = .ok (.iadd, 1) := by decide +kernel
theorem dX12_meansChord_70 : decode cX12_meansChord 70 = .ok (.invokevirtual 197, 3) := by decide +kernel
theorem dX12_meansChord_73 : decode cX12_meansChord 73 = .ok (.istore 5, 2) := by decide +kernel
theorem dX12_meansChord_75 : decode cX12_meansChord 75 = .ok (.iinc 3 1, 3) := by decide +kernel
theorem dX12_meansChord_78 : decode cX12_meansChord 78 = .ok (.goto (-62), 3) := by decide +kernel
theorem dX12_meansChord_81 : decode cX12_meansChord 81 = .ok (.aload_n 0, 1) := by decide +kernel
theorem dX12_meansChord_82 : decode cX12_meansChord 82 = .ok (.getfield 20, 3) := by decide +kernel
theorem dX12_meansChord_85 : decode cX12_meansChord 85 = .ok (.iload_n 1, 1) := by decide +kernel
theorem dX12_meansChord_86 : decode cX12_meansChord 86 = .ok (.iconst 3, 1) := by decide +kernel
theorem dX12_meansChord_87 : decode cX12_meansChord 87 = .ok (.iadd, 1) := by decide +kernel
theorem dX12_meansChord_88 : decode cX12_meansChord 88 = .ok (.iaload, 1) := by decide +kernel
theorem dX12_meansChord_89 : decode cX12_meansChord 89 = .ok (.istore_n 3, 1) := by decide +kernel
theorem dX12_meansChord_90 : decode cX12_meansChord 90 = .ok (.iload_n 3, 1) := by decide +kernel
theorem dX12_meansChord_91 : decode cX12_meansChord 91 = .ok (.bipush 31, 2) := by decide +kernel
theorem dX12_meansChord_93 : decode cX12_meansChord 93 = .ok (.if_icmp .eq 23, 3) := by decide +kernel
theorem dX12_meansChord_96 : decode cX12_meansChord 96 = .ok (.iload_n 3, 1) := by decide +kernel
theorem dX12_meansChord_97 : decode cX12_meansChord 97 = .ok (.bipush 32, 2) := by decide +kernel
theorem dX12_meansChord_99 : decode cX12_meansChord 99 = .ok (.if_icmp .eq 17, 3) := by decide +kernel
theorem dX12_meansChord_102 : decode cX12_meansChord 102 = .ok (.iload_n 3, 1) := by decide +kernel
theorem dX12_meansChord_103 : decode cX12_meansChord 103 = .ok (.bipush 39, 2) := by decide +kernel
theorem dX12_meansChord_105 : decode cX12_meansChord 105 = .ok (.if_icmp .eq 11, 3) := by decide +kernel
theorem dX12_meansChord_108 : decode cX12_meansChord 108 = .ok (.aload_n 0, 1) := by decide +kernel
theorem dX12_meansChord_109 : decode cX12_meansChord 109 = .ok (.iconst 5, 1) := by decide +kernel
theorem dX12_meansChord_110 : decode cX12_meansChord 110 = .ok (.iload_n 1, 1) := by decide +kernel
theorem dX12_meansChord_111 : decode cX12_meansChord 111 = .ok (.iconst 3, 1) := by decide +kernel
theorem dX12_meansChord_112 : decode cX12_meansChord 112 = .ok (.iadd, 1) := by decide +kernel
theorem dX12_meansChord_113 : decode cX12_meansChord 113 = .ok (.invokevirtual 173, 3) := by decide +kernel
theorem dX12_meansChord_116 : decode cX12_meansChord 116 = .ok (.aload_n 0, 1) := by decide +kernel
theorem dX12_meansChord_117 : decode cX12_meansChord 117 = .ok (.iload_n 1, 1) := by decide +kernel
theorem dX12_meansChord_118 : decode cX12_meansChord 118 = .ok (.iconst 3, 1) := by decide +kernel
theorem dX12_meansChord_119 : decode cX12_meansChord 119 = .ok (.iadd, 1) := by decide +kernel
theorem dX12_meansChord_120 : decode cX12_meansChord 120 = .ok (.invokevirtual 200, 3) := by decide +kernel
theorem dX12_meansChord_123 : decode cX12_meansChord 123 = .ok (.aload_n 0, 1) := by decide +kernel
theorem dX12_meansChord_124 : decode cX12_meansChord 124 = .ok (.getfield 43, 3) := by decide +kernel
theorem dX12_meansChord_127 : decode cX12_meansChord 127 = .ok (.iload_n 2, 1) := by decide +kernel
theorem dX12_meansChord_128 : decode cX12_meansChord 128 = .ok (.aload_n 0, 1) := by decide +kernel
theorem dX12_meansChord_129 : decode cX12_meansChord 129 = .ok (.getfield 27, 3) := by decide +kernel
theorem dX12_meansChord_132 : decode cX12_meansChord 132 = .ok (.iload_n 1, 1) := by decide +kernel
theorem dX12_meansChord_133 : decode cX12_meansChord 133 = .ok (.iconst 1, 1) := by decide +kernel
theorem dX12_meansChord_134 : decode cX12_meansChord 134 = .ok (.iadd, 1) := by decide +kernel
theorem dX12_meansChord_135 : decode cX12_meansChord 135 = .ok (.iaload, 1) := by decide +kernel
theorem dX12_meansChord_136 : decode cX12_meansChord 136 = .ok (.iastore, 1) := by decide +kernel
theorem dX12_meansChord_137 : decode cX12_meansChord 137 = .ok (.aload_n 0, 1) := by decide +kernel
theorem dX12_meansChord_138 : decode cX12_meansChord 138 = .ok (.getfield 43, 3) := by decide +kernel
theorem dX12_meansChord_141 : decode cX12_meansChord 141 = .ok (.iload_n 2, 1) := by decide +kernel
theorem dX12_meansChord_142 : decode cX12_meansChord 142 = .ok (.iconst 1, 1) := by decide +kernel
theorem dX12_meansChord_143 : decode cX12_meansChord 143 = .ok (.iadd, 1) := by decide +kernel
theorem dX12_meansChord_144 : decode cX12_meansChord 144 = .ok (.aload_n 0, 1) := by decide +kernel
theorem dX12_meansChord_145 : decode cX12_meansChord 145 = .ok (.getfield 27, 3) := by decide +kernel
theorem dX12_meansChord_148 : decode cX12_meansChord 148 = .ok (.iload_n 1, 1) := by decide +kernel
theorem dX12_meansChord_149 : decode cX12_meansChord 149 = .ok (.iconst 2, 1) := by decide +kernel
theorem dX12_meansChord_150 : decode cX12_meansChord 150 = .ok (.iadd, 1) := by decide +kernel
theorem dX12_meansChord_151 : decode cX12_meansChord 151 = .ok (.iaload, 1) := by decide +kernel
theorem dX12_meansChord_152 : decode cX12_meansChord 152 = .ok (.iastore, 1) := by decide +kernel
theorem dX12_meansChord_153 : decode cX12_meansChord 153 = .ok (.aload_n 0, 1) := by decide +kernel
theorem dX12_meansChord_154 : decode cX12_meansChord 154 = .ok (.getfield 43, 3) := by decide +kernel
theorem dX12_meansChord_157 : decode cX12_meansChord 157 = .ok (.iload_n 2, 1) := by decide +kernel
theorem dX12_meansChord_158 : decode cX12_meansChord 158 = .ok (.iconst 2, 1) := by decide +kernel
theorem dX12_meansChord_159 : decode cX12_meansChord 159 = .ok (.iadd, 1) := by decide +kernel
theorem dX12_meansChord_160 : decode cX12_meansChord 160 = .ok (.aload_n 0, 1) := by decide +kernel
theorem dX12_meansChord_161 : decode cX12_meansChord 161 = .ok (.getfield 50, 3) := by decide +kernel
theorem dX12_meansChord_164 : decode cX12_meansChord 164 = .ok (.iconst 0, 1) := by decide +kernel
theorem dX12_meansChord_165 : decode cX12_meansChord 165 = .ok (.iaload, 1) := by decide +kernel
theorem dX12_meansChord_166 : decode cX12_meansChord 166 = .ok (.iastore, 1) := by decide +kernel
theorem dX12_meansChord_167 : decode cX12_meansChord 167 = .ok (.aload_n 0, 1) := by decide +kernel
theorem dX12_meansChord_168 : decode cX12_meansChord 168 = .ok (.getfield 43, 3) := by decide +kernel
theorem dX12_meansChord_171 : decode cX12_meansChord 171 = .ok (.iload_n 2, 1) := by decide +kernel
theorem dX12_meansChord_172 : decode cX12_meansChord 172 = .ok (.iconst 3, 1) := by decide +kernel
theorem dX12_meansChord_173 : decode cX12_meansChord 173 = .ok (.iadd, 1) := by decide +kernel
theorem dX12_meansChord_174 : decode cX12_meansChord 174 = .ok (.aload_n 0, 1) := by decide +kernel
theorem dX12_meansChord_175 : decode cX12_meansChord 175 = .ok (.getfield 50, 3) := by decide +kernel
theorem dX12_meansChord_178 : decode cX12_meansChord 178 = .ok (.iconst 1, 1) := by decide +kernel
theorem dX12_meansChord_179 : decode cX12_meansChord 179 = .ok (.iaload, 1) := by decide +kernel
theorem dX12_meansChord_180 : decode cX12_meansChord 180 = .ok (.iastore, 1) := by decide +kernel
theorem dX12_meansChord_181 : decode cX12_meansChord 181 = .ok (.aload_n 0, 1) := by decide +kernel
theorem dX12_meansChord_182 : decode cX12_meansChord 182 = .ok (.getfield 43, 3) := by decide +kernel
theorem dX12_meansChord_185 : decode cX12_meansChord 185 = .ok (.bipush 10, 2) := by decide +kernel
theorem dX12_meansChord_187 : decode cX12_meansChord 187 = .ok (.dup2, 1) := by decide +kernel
theorem dX12_meansChord_188 : decode cX12_meansChord 188 = .ok (.iaload, 1) := by decide +kernel
theorem dX12_meansChord_189 : decode cX12_meansChord 189 = .ok (.iconst 1, 1) := by decide +kernel
theorem dX12_meansChord_190 : decode cX12_meansChord 190 = .ok (.iadd, 1) := by decide +kernel
theorem dX12_meansChord_191 : decode cX12_meansChord 191 = .ok (.iastore, 1) := by decide +kernel
theorem dX12_meansChord_192 : decode cX12_meansChord 192 = .ok (.return_, 1) := by decide +kernel
def rmX12_meansChord : Room := { frames := 3, cells := 0, slots := 0, locals := 68 }
set_option maxRecDepth 100000 in
def fX12_meansChord_J116 (N : Nat) (g : Gs) (x0 : Nat) (x1 : Int32) (y2 : Int32) (d : Ds) : Option (Unit × Ds) := gd (chk g x0 11) <| cv (fX12_meansDeed N g x0 (x1 + 3) d) fun d14 => (ob (gR g x0 18) fun r16 => (ob (gR g x0 7) fun r17 => (gd (chk g r17 102) <| gd (¬ ((x1 + 1) < 0 ∨ gL g r17 ≤ (x1 + 1).toNatClampNeg)) <| gd (chk g r16 102) <| gd (¬ (y2 < 0 ∨ gL g r16 ≤ y2.toNatClampNeg)) <| bd (sI d14 r16 y2.toNatClampNeg (dI d14 r17 (x1 + 1).toNatClampNeg)) fun d22 => (gd (¬ ((x1 + 2) < 0 ∨ gL g r17 ≤ (x1 + 2).toNatClampNeg)) <| gd (¬ ((y2 + 1) < 0 ∨ gL g r16 ≤ (y2 + 1).toNatClampNeg)) <| bd (sI d22 r16 (y2 + 1).toNatClampNeg (dI d22 r17 (x1 + 2).toNatClampNeg)) fun d25 => (ob (gR g x0 23) fun r26 => (gd (chk g r26 102) <| gd (¬ ((0 : Int32) < 0 ∨ gL g r26 ≤ (0 : Int32).toNatClampNeg)) <| gd (¬ ((y2 + 2) < 0 ∨ gL g r16 ≤ (y2 + 2).toNatClampNeg)) <| bd (sI d25 r16 (y2 + 2).toNatClampNeg (dI d25 r26 (0 : Int32).toNatClampNeg)) fun d30 => (gd (¬ ((1 : Int32) < 0 ∨ gL g r26 ≤ (1 : Int32).toNatClampNeg)) <| gd (¬ ((y2 + 3) < 0 ∨ gL g r16 ≤ (y2 + 3).toNatClampNeg)) <| bd (sI d30 r16 (y2 + 3).toNatClampNeg (dI d30 r26 (1 : Int32).toNatClampNeg)) fun d33 => (gd (¬ ((10 : Int32) < 0 ∨ gL g r16 ≤ (10 : Int32).toNatClampNeg)) <| bd (sI d33 r16 (10 : Int32).toNatClampNeg ((dI d33 r16 (10 : Int32).toNatClampNeg) + 1)) fun d35 => (some ((), d35))))))))))
set_option maxHeartbeats 4000000 in
set_option maxRecDepth 100000 in
theorem tX12_meansChord_116 {p : Program} {l : Launch} {e : Env} {s : State} {m : MethodId} {args : Array Value} {below : List Frame} {meth : Method} {c : Code} {D : va_G} {cy : Nat → ClassId} {B : Bs} (C : Cx p s m args c cX12_meansChord 6 RX12 D cy B) (hr : meth.sig.returnType = none) (hlocks : meth.locks = false) {N : Nat} {g : Gs} {x0 : Nat} {x1 : Int32}  {dz : Ds} {y2 : Int32} {d : Ds} (hf : fX12_meansChord_J116 N g x0 x1 y2 d = some ((), dz)) : WB p l e rmX12_meansChord s m args below meth c 6 D cy B 0 0 (MQ below (QV D cy B g dz) args s 0 0 (wA B)) g d [(0, .ref (ad B x0)), (1, .int x1), (2, .int y2)] 116 [] := by
  unfold fX12_meansChord_J116 at hf
  refine b_aload_n C dX12_meansChord_116 0 rfl rfl ?_
  refine b_iload_n C dX12_meansChord_117 1 rfl rfl ?_
  refine b_iconst C (v := 3) dX12_meansChord_118 (by decide) ?_
  refine b_iadd C dX12_meansChord_119 ?_
  obtain ⟨h13, hf⟩ := gd_s hf
  obtain ⟨d14, k15, hf⟩ := cv_s hf
  refine b_cVN C [] dX12_meansChord_120 (kX12_meansDeed l D cy B k15) lv_X12_200 ⟨rfl, rfl, Nat.le_of_ble_eq_true rfl, Nat.le_of_ble_eq_true rfl⟩ h13 (by decide) rfl (Nat.le_of_ble_eq_true rfl) ⟨Nat.zero_le _, Nat.zero_le _⟩ rfl ?_
  refine b_aload_n C dX12_meansChord_123 0 rfl rfl ?_
  obtain ⟨r16, er16, hf⟩ := ob_s hf
  refine b_gR C dX12_meansChord_124 fl_X12_43 h13 er16 ?_
  refine b_iload_n C dX12_meansChord_127 2 rfl rfl ?_
  refine b_aload_n C dX12_meansChord_128 0 rfl rfl ?_
  obtain ⟨r17, er17, hf⟩ := ob_s hf
  refine b_gR C dX12_meansChord_129 fl_X12_27 h13 er17 ?_
  refine b_iload_n C dX12_meansChord_132 1 rfl rfl ?_
  refine b_iconst C (v := 1) dX12_meansChord_133 (by decide) ?_
  refine b_iadd C dX12_meansChord_134 ?_
  obtain ⟨h18, hf⟩ := gd_s hf
  obtain ⟨h19, hf⟩ := gd_s hf
  refine b_iald C h18 h19 dX12_meansChord_135 ?_
  obtain ⟨h20, hf⟩ := gd_s hf
  obtain ⟨h21, hf⟩ := gd_s hf
  obtain ⟨d22, ed22, hf⟩ := bd_s hf
  refine b_iast C h20 h21 ed22 dX12_meansChord_136 ?_
  refine b_aload_n C dX12_meansChord_137 0 rfl rfl ?_
  refine b_gR C dX12_meansChord_138 fl_X12_43 h13 er16 ?_
  refine b_iload_n C dX12_meansChord_141 2 rfl rfl ?_
  refine b_iconst C (v := 1) dX12_meansChord_142 (by decide) ?_
  refine b_iadd C dX12_meansChord_143 ?_
  refine b_aload_n C dX12_meansChord_144 0 rfl rfl ?_
  refine b_gR C dX12_meansChord_145 fl_X12_27 h13 er17 ?_
  refine b_iload_n C dX12_meansChord_148 1 rfl rfl ?_
  refine b_iconst C (v := 2) dX12_meansChord_149 (by decide) ?_
  refine b_iadd C dX12_meansChord_150 ?_
  obtain ⟨h23, hf⟩ := gd_s hf
  refine b_iald C h18 h23 dX12_meansChord_151 ?_
  obtain ⟨h24, hf⟩ := gd_s hf
  obtain ⟨d25, ed25, hf⟩ := bd_s hf
  refine b_iast C h20 h24 ed25 dX12_meansChord_152 ?_
  refine b_aload_n C dX12_meansChord_153 0 rfl rfl ?_
  refine b_gR C dX12_meansChord_154 fl_X12_43 h13 er16 ?_
  refine b_iload_n C dX12_meansChord_157 2 rfl rfl ?_
  refine b_iconst C (v := 2) dX12_meansChord_158 (by decide) ?_
  refine b_iadd C dX12_meansChord_159 ?_
  refine b_aload_n C dX12_meansChord_160 0 rfl rfl ?_
  obtain ⟨r26, er26, hf⟩ := ob_s hf
  refine b_gR C dX12_meansChord_161 fl_X12_50 h13 er26 ?_
  refine b_iconst C (v := 0) dX12_meansChord_164 (by decide) ?_
  obtain ⟨h27, hf⟩ := gd_s hf
  obtain ⟨h28, hf⟩ := gd_s hf
  refine b_iald C h27 h28 dX12_meansChord_165 ?_
  obtain ⟨h29, hf⟩ := gd_s hf
  obtain ⟨d30, ed30, hf⟩ := bd_s hf
  refine b_iast C h20 h29 ed30 dX12_meansChord_166 ?_
  refine b_aload_n C dX12_meansChord_167 0 rfl rfl ?_
  refine b_gR C dX12_meansChord_168 fl_X12_43 h13 er16 ?_
  refine b_iload_n C dX12_meansChord_171 2 rfl rfl ?_
  refine b_iconst C (v := 3) dX12_meansChord_172 (by decide) ?_
  refine b_iadd C dX12_meansChord_173 ?_
  refine b_aload_n C dX12_meansChord_174 0 rfl rfl ?_
  refine b_gR C dX12_meansChord_175 fl_X12_50 h13 er26 ?_
  refine b_iconst C (v := 1) dX12_meansChord_178 (by decide) ?_
  obtain ⟨h31, hf⟩ := gd_s hf
  refine b_iald C h27 h31 dX12_meansChord_179 ?_
  obtain ⟨h32, hf⟩ := gd_s hf
  obtain ⟨d33, ed33, hf⟩ := bd_s hf
  refine b_iast C h20 h32 ed33 dX12_meansChord_180 ?_
  refine b_aload_n C dX12_meansChord_181 0 rfl rfl ?_
  refine b_gR C dX12_meansChord_182 fl_X12_43 h13 er16 ?_
  refine b_bipush C (v := 10) dX12_meansChord_185 (by decide) ?_
  refine b_dup2 C dX12_meansChord_187 rfl rfl ?_
  obtain ⟨h34, hf⟩ := gd_s hf
  refine b_iald C h20 h34 dX12_meansChord_188 ?_
  refine b_iconst C (v := 1) dX12_meansChord_189 (by decide) ?_
  refine b_iadd C dX12_meansChord_190 ?_
  obtain ⟨d35, ed35, hf⟩ := bd_s hf
  refine b_iast C h20 h34 ed35 dX12_meansChord_191 ?_
  exact b_vret C hr hlocks hf dX12_meansChord_192
set_option maxRecDepth 100000 in
def fX12_meansChord_J66 (N : Nat) (g : Gs) (x0 : Nat) (x1 : Int32) (K16 : Int32 × Int32 × Ds → Option (Unit × Ds)) (y2 : Int32) (y3 : Int32) (d : Ds) : Option (Unit × Ds) := gd (chk g x0 11) <| cb (fX12_keyTold N g x0 (x1 + y3) d) fun u55 d53 => (bd (y3 + 1) fun u56 => (K16 (y2, u56, d53)))
set_option maxHeartbeats 4000000 in
set_option maxRecDepth 100000 in
theorem tX12_meansChord_66 {p : Program} {l : Launch} {e : Env} {s : State} {m : MethodId} {args : Array Value} {below : List Frame} {meth : Method} {c : Code} {D : va_G} {cy : Nat → ClassId} {B : Bs} (C : Cx p s m args c cX12_meansChord 6 RX12 D cy B) (hr : meth.sig.returnType = none) (hlocks : meth.locks = false) {N : Nat} {g : Gs} {x0 : Nat} {x1 : Int32}  {dz : Ds} {K16 : Int32 × Int32 × Ds → Option (Unit × Ds)} (hK16 : ∀ a, K16 a = some ((), dz) → WB p l e rmX12_meansChord s m args below meth c 6 D cy B 0 0 (MQ below (QV D cy B g dz) args s 0 0 (wA B)) g a.2.2 [(0, .ref (ad B x0)), (1, .int x1), (2, .int a.1), (3, .int a.2.1)] 16 []) {y2 : Int32} {y3 : Int32} {d : Ds} (hf : fX12_meansChord_J66 N g x0 x1 K16 y2 y3 d = some ((), dz)) : WB p l e rmX12_meansChord s m args below meth c 6 D cy B 0 0 (MQ below (QV D cy B g dz) args s 0 0 (wA B)) g d [(0, .ref (ad B x0)), (1, .int x1), (2, .int y2), (3, .int y3)] 66 [] := by
  unfold fX12_meansChord_J66 at hf
  refine b_aload_n C dX12_meansChord_66 0 rfl rfl ?_
  refine b_iload_n C dX12_meansChord_67 1 rfl rfl ?_
  refine b_iload_n C dX12_meansChord_68 3 rfl rfl ?_
  refine b_iadd C dX12_meansChord_69 ?_
  obtain ⟨h52, hf⟩ := gd_s hf
  obtain ⟨u55, d53, k54, hf⟩ := cb_s hf
  refine b_cVI C [] dX12_meansChord_70 (kX12_keyTold l D cy B k54) lv_X12_197 ⟨rfl, rfl, Nat.le_of_ble_eq_true rfl, Nat.le_of_ble_eq_true rfl⟩ h52 (by decide) rfl (Nat.le_of_ble_eq_true rfl) ⟨Nat.zero_le _, Nat.zero_le _⟩ rfl ?_
  refine b_istore C dX12_meansChord_73 [(5, .int u55), (0, .ref (ad B x0)), (1, .int x1), (2, .int y2), (3, .int y3)] (by decide) rfl ?_
  obtain ⟨u56, eu56, hf⟩ := bd_s hf
  refine b_iinc C dX12_meansChord_75 4 rfl (by rw [eu56]; rfl) [(3, .int u56), (5, .int u55), (0, .ref (ad B x0)), (1, .int x1), (2, .int y2)] (by decide) rfl ?_
  refine b_goto C (tgt := 16) dX12_meansChord_78 (by decide) ?_
  refine b_sub [(0, .ref (ad B x0)), (1, .int x1), (2, .int y2), (3, .int u56)] [2, 3, 4, 0] rfl ?_
  exact hK16 (y2, u56, d53) hf
set_option maxRecDepth 100000 in
def fX12_meansChord_J58 (N : Nat) (g : Gs) (x0 : Nat) (x1 : Int32) (K16 : Int32 × Int32 × Ds → Option (Unit × Ds)) (y2 : Int32) (y3 : Int32) (d : Ds) : Option (Unit × Ds) := gd (chk g x0 11) <| cv (fX12_wrong N g x0 3 (x1 + y3) d) fun d50 => (fX12_meansChord_J66 N g x0 x1 K16 y2 y3 d50)
set_option maxHeartbeats 4000000 in
set_option maxRecDepth 100000 in
theorem tX12_meansChord_58 {p : Program} {l : Launch} {e : Env} {s : State} {m : MethodId} {args : Array Value} {below : List Frame} {meth : Method} {c : Code} {D : va_G} {cy : Nat → ClassId} {B : Bs} (C : Cx p s m args c cX12_meansChord 6 RX12 D cy B) (hr : meth.sig.returnType = none) (hlocks : meth.locks = false) {N : Nat} {g : Gs} {x0 : Nat} {x1 : Int32}  {dz : Ds} {K16 : Int32 × Int32 × Ds → Option (Unit × Ds)} (hK16 : ∀ a, K16 a = some ((), dz) → WB p l e rmX12_meansChord s m args below meth c 6 D cy B 0 0 (MQ below (QV D cy B g dz) args s 0 0 (wA B)) g a.2.2 [(0, .ref (ad B x0)), (1, .int x1), (2, .int a.1), (3, .int a.2.1)] 16 []) {y2 : Int32} {y3 : Int32} {d : Ds} (hf : fX12_meansChord_J58 N g x0 x1 K16 y2 y3 d = some ((), dz)) : WB p l e rmX12_meansChord s m args below meth c 6 D cy B 0 0 (MQ below (QV D cy B g dz) args s 0 0 (wA B)) g d [(0, .ref (ad B x0)), (1, .int x1), (2, .int y2), (3, .int y3)] 58 [] := by
  unfold fX12_meansChord_J58 at hf
  refine b_aload_n C dX12_meansChord_58 0 rfl rfl ?_
  refine b_iconst C (v := 3) dX12_meansChord_59 (by decide) ?_
  refine b_iload_n C dX12_meansChord_60 1 rfl rfl ?_
  refine b_iload_n C dX12_meansChord_61 3 rfl rfl ?_
  refine b_iadd C dX12_meansChord_62 ?_
  obtain ⟨h49, hf⟩ := gd_s hf
  obtain ⟨d50, k51, hf⟩ := cv_s hf
  refine b_cVN C [] dX12_meansChord_63 (kX12_wrong l D cy B k51) lv_X12_173 ⟨rfl, rfl, Nat.le_of_ble_eq_true rfl, Nat.le_of_ble_eq_true rfl⟩ h49 (by decide) rfl (Nat.le_of_ble_eq_true rfl) ⟨Nat.zero_le _, Nat.zero_le _⟩ rfl ?_
  refine b_sub [(0, .ref (ad B x0)), (1, .int x1), (2, .int y2), (3, .int y3)] [0, 1, 2, 3] rfl ?_
  exact tX12_meansChord_66 C hr hlocks hK16 hf
set_option maxRecDepth 100000 in
def fX12_meansChord_B16 (N : Nat) (g : Gs) (x0 : Nat) (x1 : Int32) (K16 : Int32 × Int32 × Ds → Option (Unit × Ds)) (y2 : Int32) (y3 : Int32) (d : Ds) : Option (Unit × Ds) := if (3 : Int32) ≤ y3 then (gd (chk g x0 11) <| ob (gR g x0 5) fun r8 => (gd (chk g r8 102) <| gd (¬ ((x1 + 3) < 0 ∨ gL g r8 ≤ (x1 + 3).toNatClampNeg)) <| bd ((dI d r8 (x1 + 3).toNatClampNeg)) fun u11 => (if u11 = (31 : Int32) then (fX12_meansChord_J116 N g x0 x1 y2 d) else (if u11 = (32 : Int32) then (fX12_meansChord_J116 N g x0 x1 y2 d) else (if u11 = (39 : Int32) then (fX12_meansChord_J116 N g x0 x1 y2 d) else (cv (fX12_wrong N g x0 5 (x1 + 3) d) fun d38 => (fX12_meansChord_J116 N g x0 x1 y2 d38))))))) else (gd (chk g x0 11) <| ob (gR g x0 7) fun r41 => (gd (chk g r41 102) <| gd (¬ ((x1 + y3) < 0 ∨ gL g r41 ≤ (x1 + y3).toNatClampNeg)) <| bd ((dI d r41 (x1 + y3).toNatClampNeg)) fun u44 => (cb (fX12_isChorded N g x0 u44 d) fun u47 d45 => (if u47 = 0 then (if y3 = (2 : Int32) then (gd (¬ ((x1 + 1) < 0 ∨ gL g r41 ≤ (x1 + 1).toNatClampNeg)) <| if u44 = (dI d45 r41 (x1 + 1).toNatClampNeg) then (fX12_meansChord_J58 N g x0 x1 K16 y2 y3 d45) else (fX12_meansChord_J66 N g x0 x1 K16 y2 y3 d45)) else (fX12_meansChord_J66 N g x0 x1 K16 y2 y3 d45)) else (fX12_meansChord_J58 N g x0 x1 K16 y2 y3 d45)))))
set_option maxHeartbeats 4000000 in
set_option maxRecDepth 100000 in
theorem tX12_meansChord_16 {p : Program} {l : Launch} {e : Env} {s : State} {m : MethodId} {args : Array Value} {below : List Frame} {meth : Method} {c : Code} {D : va_G} {cy : Nat → ClassId} {B : Bs} (C : Cx p s m args c cX12_meansChord 6 RX12 D cy B) (hr : meth.sig.returnType = none) (hlocks : meth.locks = false) {N : Nat} {g : Gs} {x0 : Nat} {x1 : Int32}  {dz : Ds} {K16 : Int32 × Int32 × Ds → Option (Unit × Ds)} (hK16 : ∀ a, K16 a = some ((), dz) → WB p l e rmX12_meansChord s m args below meth c 6 D cy B 0 0 (MQ below (QV D cy B g dz) args s 0 0 (wA B)) g a.2.2 [(0, .ref (ad B x0)), (1, .int x1), (2, .int a.1), (3, .int a.2.1)] 16 []) {y2 : Int32} {y3 : Int32} {d : Ds} (hf : fX12_meansChord_B16 N g x0 x1 K16 y2 y3 d = some ((), dz)) : WB p l e rmX12_meansChord s m args below meth c 6 D cy B 0 0 (MQ below (QV D cy B g dz) args s 0 0 (wA B)) g d [(0, .ref (ad B x0)), (1, .int x1), (2, .int y2), (3, .int y3)] 16 [] := by
  unfold fX12_meansChord_B16 at hf
  refine b_iload_n C dX12_meansChord_16 3 rfl rfl ?_
  refine b_iconst C (v := 3) dX12_meansChord_17 (by decide) ?_
  refine b_icmp_ge C (tgt := 81) dX12_meansChord_18 (by decide) (fun c6 => ?_) (fun c6 => ?_)
  · have hf := it_s c6 hf
    refine b_aload_n C dX12_meansChord_81 0 rfl rfl ?_
    obtain ⟨h7, hf⟩ := gd_s hf
    obtain ⟨r8, er8, hf⟩ := ob_s hf
    refine b_gR C dX12_meansChord_82 fl_X12_20 h7 er8 ?_
    refine b_iload_n C dX12_meansChord_85 1 rfl rfl ?_
    refine b_iconst C (v := 3) dX12_meansChord_86 (by decide) ?_
    refine b_iadd C dX12_meansChord_87 ?_
    obtain ⟨h9, hf⟩ := gd_s hf
    obtain ⟨h10, hf⟩ := gd_s hf
    refine b_iald C h9 h10 dX12_meansChord_88 ?_
    obtain ⟨u11, eu11, hf⟩ := bd_s hf
    refine b_topI eu11 ?_
    refine b_istore_n C dX12_meansChord_89 rfl [(3, .int u11), (0, .ref (ad B x0)), (1, .int x1), (2, .int y2)] (by decide) rfl ?_
    refine b_iload_n C dX12_meansChord_90 0 rfl rfl ?_
    refine b_bipush C (v := 31) dX12_meansChord_91 (by decide) ?_
    refine b_icmp_eq C (tgt := 116) dX12_meansChord_93 (by decide) (fun c12 => ?_) (fun c12 => ?_)
    · have hf := it_s c12 hf
      refine b_sub [(0, .ref (ad B x0)), (1, .int x1), (2, .int y2)] [1, 2, 3] rfl ?_
      exact tX12_meansChord_116 C hr hlocks hf
    · have hf := if_s c12 hf
      refine b_iload_n C dX12_meansChord_96 0 rfl rfl ?_
      refine b_bipush C (v := 32) dX12_meansChord_97 (by decide) ?_
      refine b_icmp_eq C (tgt := 116) dX12_meansChord_99 (by decide) (fun c36 => ?_) (fun c36 => ?_)
      · have hf := it_s c36 hf
        refine b_sub [(0, .ref (ad B x0)), (1, .int x1), (2, .int y2)] [1, 2, 3] rfl ?_
        exact tX12_meansChord_116 C hr hlocks hf
      · have hf := if_s c36 hf
        refine b_iload_n C dX12_meansChord_102 0 rfl rfl ?_
        refine b_bipush C (v := 39) dX12_meansChord_103 (by decide) ?_
        refine b_icmp_eq C (tgt := 116) dX12_meansChord_105 (by decide) (fun c37 => ?_) (fun c37 => ?_)
        · have hf := it_s c37 hf
          refine b_sub [(0, .ref (ad B x0)), (1, .int x1), (2, .int y2)] [1, 2, 3] rfl ?_
          exact tX12_meansChord_116 C hr hlocks hf
        · have hf := if_s c37 hf
          refine b_aload_n C dX12_meansChord_108 1 rfl rfl ?_
          refine b_iconst C (v := 5) dX12_meansChord_109 (by decide) ?_
          refine b_iload_n C dX12_meansChord_110 2 rfl rfl ?_
          refine b_iconst C (v := 3) dX12_meansChord_111 (by decide) ?_
          refine b_iadd C dX12_meansChord_112 ?_
          obtain ⟨d38, k39, hf⟩ := cv_s hf
          refine b_cVN C [] dX12_meansChord_113 (kX12_wrong l D cy B k39) lv_X12_173 ⟨rfl, rfl, Nat.le_of_ble_eq_true rfl, Nat.le_of_ble_eq_true rfl⟩ h7 (by decide) rfl (Nat.le_of_ble_eq_true rfl) ⟨Nat.zero_le _, Nat.zero_le _⟩ rfl ?_
          refine b_sub [(0, .ref (ad B x0)), (1, .int x1), (2, .int y2)] [1, 2, 3] rfl ?_
          exact tX12_meansChord_116 C hr hlocks hf
  · have hf := if_s c6 hf
    refine b_aload_n C dX12_meansChord_21 0 rfl rfl ?_
    obtain ⟨h40, hf⟩ := gd_s hf
    obtain ⟨r41, er41, hf⟩ := ob_s hf
    refine b_gR C dX12_meansChord_22 fl_X12_27 h40 er41 ?_
    refine b_iload_n C dX12_meansChord_25 1 rfl rfl ?_
    refine b_iload_n C dX12_meansChord_26 3 rfl rfl ?_
    refine b_iadd C dX12_meansChord_27 ?_
    obtain ⟨h42, hf⟩ := gd_s hf
    obtain ⟨h43, hf⟩ := gd_s hf
    refine b_iald C h42 h43 dX12_meansChord_28 ?_
    obtain ⟨u44, eu44, hf⟩ := bd_s hf
    refine b_topI eu44 ?_
    refine b_istore C dX12_meansChord_29 [(4, .int u44), (0, .ref (ad B x0)), (1, .int x1), (2, .int y2), (3, .int y3)] (by decide) rfl ?_
    refine b_aload_n C dX12_meansChord_31 1 rfl rfl ?_
    refine b_iload C dX12_meansChord_32 0 rfl ?_
    obtain ⟨u47, d45, k46, hf⟩ := cb_s hf
    refine b_cVI C [] dX12_meansChord_34 (kX12_isChorded l D cy B k46) lv_X12_203 ⟨rfl, rfl, Nat.le_of_ble_eq_true rfl, Nat.le_of_ble_eq_true rfl⟩ h40 (by decide) rfl (Nat.le_of_ble_eq_true rfl) ⟨Nat.zero_le _, Nat.zero_le _⟩ rfl ?_
    refine b_if_ne C (tgt := 58) dX12_meansChord_37 (by decide) (fun c48 => ?_) (fun c48 => ?_)
    · have hf := if_s c48 hf
      refine b_sub [(0, .ref (ad B x0)), (1, .int x1), (2, .int y2), (3, .int y3)] [1, 2, 3, 4] rfl ?_
      exact tX12_meansChord_58 C hr hlocks hK16 hf
    · have hf := it_s c48 hf
      refine b_iload_n C dX12_meansChord_40 4 rfl rfl ?_
      refine b_iconst C (v := 2) dX12_meansChord_41 (by decide) ?_
      refine b_icmp_ne C (tgt := 66) dX12_meansChord_42 (by decide) (fun c57 => ?_) (fun c57 => ?_)
      · have hf := if_s c57 hf
        refine b_sub [(0, .ref (ad B x0)), (1, .int x1), (2, .int y2), (3, .int y3)] [1, 2, 3, 4] rfl ?_
        exact tX12_meansChord_66 C hr hlocks hK16 hf
      · have hf := it_s c57 hf
        refine b_iload C dX12_meansChord_45 0 rfl ?_
        refine b_aload_n C dX12_meansChord_47 1 rfl rfl ?_
        refine b_gR C dX12_meansChord_48 fl_X12_27 h40 er41 ?_
        refine b_iload_n C dX12_meansChord_51 2 rfl rfl ?_
        refine b_iconst C (v := 1) dX12_meansChord_52 (by decide) ?_
        refine b_iadd C dX12_meansChord_53 ?_
        obtain ⟨h58, hf⟩ := gd_s hf
        refine b_iald C h42 h58 dX12_meansChord_54 ?_
        refine b_icmp_ne C (tgt := 66) dX12_meansChord_55 (by decide) (fun c59 => ?_) (fun c59 => ?_)
        · have hf := if_s c59 hf
          refine b_sub [(0, .ref (ad B x0)), (1, .int x1), (2, .int y2), (3, .int y3)] [1, 2, 3, 4] rfl ?_
          exact tX12_meansChord_66 C hr hlocks hK16 hf
        · have hf := it_s c59 hf
          refine b_sub [(0, .ref (ad B x0)), (1, .int x1), (2, .int y2), (3, .int y3)] [1, 2, 3, 4] rfl ?_
          exact tX12_meansChord_58 C hr hlocks hK16 hf
def fX12_meansChord_L16 (N : Nat) (g : Gs) (x0 : Nat) (x1 : Int32) : Int32 × Int32 × Ds → Option (Unit × Ds) := lp (fun K16 a => fX12_meansChord_B16 N g x0 x1 K16 a.1 a.2.1 a.2.2) N
theorem tX12_meansChord_L16 {p : Program} {l : Launch} {e : Env} {s : State} {m : MethodId} {args : Array Value} {below : List Frame} {meth : Method} {c : Code} {D : va_G} {cy : Nat → ClassId} {B : Bs} (C : Cx p s m args c cX12_meansChord 6 RX12 D cy B) (hr : meth.sig.returnType = none) (hlocks : meth.locks = false) {N : Nat} {g : Gs} {x0 : Nat} {x1 : Int32}  {dz : Ds} (a : Int32 × Int32 × Ds) (hf : fX12_meansChord_L16 N g x0 x1 a = some ((), dz)) : WB p l e rmX12_meansChord s m args below meth c 6 D cy B 0 0 (MQ below (QV D cy B g dz) args s 0 0 (wA B)) g a.2.2 [(0, .ref (ad B x0)), (1, .int x1), (2, .int a.1), (3, .int a.2.1)] 16 [] :=
  lp_w (fun K16 hK16 a ha => tX12_meansChord_16 C hr hlocks hK16 ha) N a hf
set_option maxRecDepth 100000 in
def fX12_meansChord (N : Nat) (g : Gs) (x0 : Nat) (x1 : Int32) (d : Ds) : Option (Unit × Ds) := gd (chk g x0 11) <| ob (gR g x0 18) fun r2 => (gd (chk g r2 102) <| gd (¬ ((10 : Int32) < 0 ∨ gL g r2 ≤ (10 : Int32).toNatClampNeg)) <| bd (((300 : Int32) + ((4 : Int32) * (dI d r2 (10 : Int32).toNatClampNeg)))) fun u5 => (fX12_meansChord_L16 N g x0 x1 (u5, 1, d)))
set_option maxHeartbeats 4000000 in
set_option maxRecDepth 100000 in
theorem tX12_meansChord_E {p : Program} {l : Launch} {e : Env} {s : State} {m : MethodId} {args : Array Value} {below : List Frame} {meth : Method} {c : Code} {D : va_G} {cy : Nat → ClassId} {B : Bs} (C : Cx p s m args c cX12_meansChord 6 RX12 D cy B) (hr : meth.sig.returnType = none) (hlocks : meth.locks = false) {N : Nat} {g : Gs} {x0 : Nat} {x1 : Int32}  {dz : Ds} {d : Ds} (hf : fX12_meansChord N g x0 x1 d = some ((), dz)) : WB p l e rmX12_meansChord s m args below meth c 6 D cy B 0 0 (MQ below (QV D cy B g dz) args s 0 0 (wA B)) g d [(0, .ref (ad B x0)), (1, .int x1)] 0 [] := by
  unfold fX12_meansChord at hf
  refine b_sipush C (v := 300) dX12_meansChord_0 (by decide) ?_
  refine b_iconst C (v := 4) dX12_meansChord_3 (by decide) ?_
  refine b_aload_n C dX12_meansChord_4 0 rfl rfl ?_
  obtain ⟨h1, hf⟩ := gd_s hf
  obtain ⟨r2, er2, hf⟩ := ob_s hf
  refine b_gR C dX12_meansChord_5 fl_X12_43 h1 er2 ?_
  refine b_bipush C (v := 10) dX12_meansChord_8 (by decide) ?_
  obtain ⟨h3, hf⟩ := gd_s hf
  obtain ⟨h4, hf⟩ := gd_s hf
  refine b_iald C h3 h4 dX12_meansChord_10 ?_
  refine b_imul C dX12_meansChord_11 ?_
  refine b_iadd C dX12_meansChord_12 ?_
  obtain ⟨u5, eu5, hf⟩ := bd_s hf
  refine b_topI eu5 ?_
  refine b_istore_n C dX12_meansChord_13 rfl [(2, .int u5), (0, .ref (ad B x0)), (1, .int x1)] (by decide) rfl ?_
  refine b_iconst C (v := 1) dX12_meansChord_14 (by decide) ?_
  refine b_istore_n C dX12_meansChord_15 rfl [(3, .int 1), (2, .int u5), (0, .ref (ad B x0)), (1, .int x1)] (by decide) rfl ?_
  refine b_sub [(0, .ref (ad B x0)), (1, .int x1), (2, .int u5), (3, .int 1)] [2, 3, 1, 0] rfl ?_
  exact tX12_meansChord_L16 C hr hlocks (u5, 1, d) hf
theorem kX12_meansChord (l : Launch) (D : va_G) (cy : Nat → ClassId) (B : Bs) {N : Nat} {g : Gs} {x0 : Nat} {x1 : Int32}  {dz : Ds} {d : Ds} (hf : fX12_meansChord N g x0 x1 d = some ((), dz)) : Met l yX12_meansChord (.code yX12_meansChord cX12_meansChord 6 none :: wl) rmX12_meansChord (PC D cy B [.ref (ad B x0), .int x1] g d) (QV D cy B g dz) 0 0 (wA B) :=
  met_of (by decide +kernel) (Nat.le_of_ble_eq_true rfl) (fun p e s m args below meth c C hr hlocks _ => b_sub [(0, .ref (ad B x0)), (1, .int x1)] [0, 1] rfl (tX12_meansChord_E C hr hlocks hf))
