/-! KeyMatrixModel.place()I -/
theorem dX12_place_0 : decode cX12_place 0 = .ok (.aload_n 0, 1) := by decide +kernel
theorem dX12_place_1 : decode cX12_place 1 = .ok (.getfield 37, 3) := by decide +kernel
theorem dX12_place_4 : decode cX12_place 4 = .ok (.ireturn, 1) := by decide +kernel
def rmX12_place : Room := { frames := 0, cells := 0, slots := 0, locals := 0 }
set_option maxRecDepth 100000 in
def fX12_place (N : Nat) (g : Gs) (x0 : Nat) (d : Ds) : Option (Int32 × Ds) := gd (chk g x0 11) <| some ((dI d x0 16), d)
set_option maxHeartbeats 4000000 in
set_option maxRecDepth 100000 in
theorem tX12_place_E {p : Program} {l : Launch} {e : Env} {s : State} {m : MethodId} {args : Array Value} {below : List Frame} {meth : Method} {c : Code} {D : va_G} {cy : Nat → ClassId} {B : Bs} (C : Cx p s m args c cX12_place 1 RX12 D cy B) (hr : meth.sig.returnType = (some .int)) (hlocks : meth.locks = false) {N : Nat} {g : Gs} {x0 : Nat} {vz : Int32} {dz : Ds} {d : Ds} (hf : fX12_place N g x0 d = some (vz, dz)) : WB p l e rmX12_place s m args below meth c 1 D cy B 0 0 (MQ below (QI D cy B vz g dz) args s 0 0 (wA B)) g d [(0, .ref (ad B x0))] 0 [] := by
  unfold fX12_place at hf
  refine b_aload_n C dX12_place_0 0 rfl rfl ?_
  obtain ⟨h1, hf⟩ := gd_s hf
  refine b_gI C dX12_place_1 fl_X12_37 h1 ?_
  exact b_iret C hr hlocks hf dX12_place_4
theorem kX12_place (l : Launch) (D : va_G) (cy : Nat → ClassId) (B : Bs) {N : Nat} {g : Gs} {x0 : Nat} {vz : Int32} {dz : Ds} {d : Ds} (hf : fX12_place N g x0 d = some (vz, dz)) : Met l yX12_place (.code yX12_place cX12_place 1 (some .int) :: wl) rmX12_place (PC D cy B [.ref (ad B x0)] g d) (QI D cy B vz g dz) 0 0 (wA B) :=
  met_of (by decide +kernel) (Nat.le_of_ble_eq_true rfl) (fun p e s m args below meth c C hr hlocks _ => b_sub [(0, .ref (ad B x0))] [0] rfl (tX12_place_E C hr hlocks hf))
/-! KeyMatrixModel.has(II)Z -/
theorem dX12_has_0 : decode cX12_has 0 = .ok (.iload_n 0, 1) := by decide +kernel
theorem dX12_has_1 : decode cX12_has 1 = .ok (.iload_n 1, 1) := by decide +kernel
theorem dX12_has_2 : decode cX12_has 2 = .ok (.ishr, 1) := by decide +kernel
theorem dX12_has_3 : decode cX12_has 3 = .ok (.iconst 1, 1) := by decide +kernel
theorem dX12_has_4 : decode cX12_has 4 = .ok (.iand, 1) := by decide +kernel
theorem dX12_has_5 : decode cX12_has 5 = .ok (.iconst 1, 1) := by decide +kernel
theorem dX12_has_6 : decode cX12_has 6 = .ok (.if_icmp .ne 7, 3) := by decide +kernel
theorem dX12_has_9 : decode cX12_has 9 = .ok (.iconst 1, 1) := by decide +kernel
theorem dX12_has_10 : decode cX12_has 10 = .ok (.goto 4, 3) := by decide +kernel
theorem dX12_has_13 : decode cX12_has 13 = .ok (.iconst 0, 1) := by decide +kernel
theorem dX12_has_14 : decode cX12_has 14 = .ok (.ireturn, 1) := by decide +kernel
def rmX12_has : Room := { frames := 0, cells := 0, slots := 0, locals := 0 }
set_option maxRecDepth 100000 in
def fX12_has_J14 (N : Nat) (g : Gs) (x0 : Int32) (x1 : Int32) (z0 : Int32) (d : Ds) : Option (Int32 × Ds) := gd (z0 = 0 ∨ z0 = 1) <| some (z0, d)
set_option maxHeartbeats 4000000 in
set_option maxRecDepth 100000 in
theorem tX12_has_14 {p : Program} {l : Launch} {e : Env} {s : State} {m : MethodId} {args : Array Value} {below : List Frame} {meth : Method} {c : Code} {D : va_G} {cy : Nat → ClassId} {B : Bs} (C : Cx p s m args c cX12_has 2 RX12 D cy B) (hr : meth.sig.returnType = (some .boolean)) (hlocks : meth.locks = false) {N : Nat} {g : Gs} {x0 : Int32} {x1 : Int32} {vz : Int32} {dz : Ds} {z0 : Int32} {d : Ds} (hf : fX12_has_J14 N g x0 x1 z0 d = some (vz, dz)) : WB p l e rmX12_has s m args below meth c 2 D cy B 0 0 (MQ below (QI D cy B vz g dz) args s 0 0 (wA B)) g d [(0, .int x0), (1, .int x1)] 14 [.int z0] := by
  unfold fX12_has_J14 at hf
  obtain ⟨h2, hf⟩ := gd_s hf
  exact b_zret C hr hlocks h2 hf dX12_has_14
set_option maxRecDepth 100000 in
def fX12_has (N : Nat) (g : Gs) (x0 : Int32) (x1 : Int32) (d : Ds) : Option (Int32 × Ds) := if ((x0 >>> (x1 &&& 31)) &&& 1) = (1 : Int32) then (fX12_has_J14 N g x0 x1 1 d) else (fX12_has_J14 N g x0 x1 0 d)
set_option maxHeartbeats 4000000 in
set_option maxRecDepth 100000 in
theorem tX12_has_E {p : Program} {l : Launch} {e : Env} {s : State} {m : MethodId} {args : Array Value} {below : List Frame} {meth : Method} {c : Code} {D : va_G} {cy : Nat → ClassId} {B : Bs} (C : Cx p s m args c cX12_has 2 RX12 D cy B) (hr : meth.sig.returnType = (some .boolean)) (hlocks : meth.locks = false) {N : Nat} {g : Gs} {x0 : Int32} {x1 : Int32} {vz : Int32} {dz : Ds} {d : Ds} (hf : fX12_has N g x0 x1 d = some (vz, dz)) : WB p l e rmX12_has s m args below meth c 2 D cy B 0 0 (MQ below (QI D cy B vz g dz) args s 0 0 (wA B)) g d [(0, .int x0), (1, .int x1)] 0 [] := by
  unfold fX12_has at hf
  refine b_iload_n C dX12_has_0 0 rfl rfl ?_
  refine b_iload_n C dX12_has_1 1 rfl rfl ?_
  refine b_ishr C dX12_has_2 ?_
  refine b_iconst C (v := 1) dX12_has_3 (by decide) ?_
  refine b_iand C dX12_has_4 ?_
  refine b_iconst C (v := 1) dX12_has_5 (by decide) ?_
  refine b_icmp_ne C (tgt := 13) dX12_has_6 (by decide) (fun c1 => ?_) (fun c1 => ?_)
  · have hf := if_s c1 hf
    refine b_iconst C (v := 0) dX12_has_13 (by decide) ?_
    refine b_sub [(0, .int x0), (1, .int x1)] [0, 1] rfl ?_
    exact tX12_has_14 C hr hlocks hf
  · have hf := it_s c1 hf
    refine b_iconst C (v := 1) dX12_has_9 (by decide) ?_
    refine b_goto C (tgt := 14) dX12_has_10 (by decide) ?_
    refine b_sub [(0, .int x0), (1, .int x1)] [0, 1] rfl ?_
    exact tX12_has_14 C hr hlocks hf
theorem kX12_has (l : Launch) (D : va_G) (cy : Nat → ClassId) (B : Bs) {N : Nat} {g : Gs} {x0 : Int32} {x1 : Int32} {vz : Int32} {dz : Ds} {d : Ds} (hf : fX12_has N g x0 x1 d = some (vz, dz)) : Met l yX12_has (.code yX12_has cX12_has 2 (some .boolean) :: wl) rmX12_has (PC D cy B [.int x0, .int x1] g d) (QI D cy B vz g dz) 0 0 (wA B) :=
  met_of (by decide +kernel) (Nat.le_of_ble_eq_true rfl) (fun p e s m args below meth c C hr hlocks _ => b_sub [(0, .int x0), (1, .int x1)] [0, 1] rfl (tX12_has_E C hr hlocks hf))
/-! KeyMatrixModel.bitsOf(I)I -/
theorem dX12_bitsOf_0 : decode cX12_bitsOf 0 = .ok (.iconst 0, 1) := by decide +kernel
theorem dX12_bitsOf_1 : decode cX12_bitsOf 1 = .ok (.istore_n 1, 1) := by decide +kernel
theorem dX12_bitsOf_2 : decode cX12_bitsOf 2 = .ok (.iload_n 0, 1) := by decide +kernel
theorem dX12_bitsOf_3 : decode cX12_bitsOf 3 = .ok (.istore_n 2, 1) := by decide +kernel
theorem dX12_bitsOf_4 : decode cX12_bitsOf 4 = .ok (.iload_n 2, 1) := by decide +kernel
theorem dX12_bitsOf_5 : decode cX12_bitsOf 5 = .ok (.ifCond .le 16, 3) := by decide +kernel
theorem dX12_bitsOf_8 : decode cX12_bitsOf 8 = .ok (.iload_n 1, 1) := by decide +kernel
theorem dX12_bitsOf_9 : decode cX12_bitsOf 9 = .ok (.iload_n 2, 1) := by decide +kernel
theorem dX12_bitsOf_10 : decode cX12_bitsOf 10 = .ok (.iconst 1, 1) := by decide +kernel
theorem dX12_bitsOf_11 : decode cX12_bitsOf 11 = .ok (.iand, 1) := by decide +kernel
theorem dX12_bitsOf_12 : decode cX12_bitsOf 12 = .ok (.iadd, 1) := by decide +kernel
theorem dX12_bitsOf_13 : decode cX12_bitsOf 13 = .ok (.istore_n 1, 1) := by decide +kernel
theorem dX12_bitsOf_14 : decode cX12_bitsOf 14 = .ok (.iload_n 2, 1) := by decide +kernel
theorem dX12_bitsOf_15 : decode cX12_bitsOf 15 = .ok (.iconst 1, 1) := by decide +kernel
theorem dX12_bitsOf_16 : decode cX12_bitsOf 16 = .ok (.ishr, 1) := by decide +kernel
theorem dX12_bitsOf_17 : decode cX12_bitsOf 17 = .ok (.istore_n 2, 1) := by decide +kernel
theorem dX12_bitsOf_18 : decode cX12_bitsOf 18 = .ok (.goto (-14), 3) := by decide +kernel
theorem dX12_bitsOf_21 : decode cX12_bitsOf 21 = .ok (.iload_n 1, 1) := by decide +kernel
theorem dX12_bitsOf_22 : decode cX12_bitsOf 22 = .ok (.ireturn, 1) := by decide +kernel
def rmX12_bitsOf : Room := { frames := 0, cells := 0, slots := 0, locals := 0 }
set_option maxRecDepth 100000 in
def fX12_bitsOf_B4 (N : Nat) (g : Gs) (x0 : Int32) (K4 : Int32 × Int32 × Ds → Option (Int32 × Ds)) (y1 : Int32) (y2 : Int32) (d : Ds) : Option (Int32 × Ds) := if y2 ≤ 0 then (some (y1, d)) else (bd ((y1 + (y2 &&& 1))) fun u2 => (bd ((y2 >>> (1 &&& 31))) fun u3 => (K4 (u2, u3, d))))
set_option maxHeartbeats 4000000 in
set_option maxRecDepth 100000 in
theorem tX12_bitsOf_4 {p : Program} {l : Launch} {e : Env} {s : State} {m : MethodId} {args : Array Value} {below : List Frame} {meth : Method} {c : Code} {D : va_G} {cy : Nat → ClassId} {B : Bs} (C : Cx p s m args c cX12_bitsOf 3 RX12 D cy B) (hr : meth.sig.returnType = (some .int)) (hlocks : meth.locks = false) {N : Nat} {g : Gs} {x0 : Int32} {vz : Int32} {dz : Ds} {K4 : Int32 × Int32 × Ds → Option (Int32 × Ds)} (hK4 : ∀ a, K4 a = some (vz, dz) → WB p l e rmX12_bitsOf s m args below meth c 3 D cy B 0 0 (MQ below (QI D cy B vz g dz) args s 0 0 (wA B)) g a.2.2 [(0, .int x0), (1, .int a.1), (2, .int a.2.1)] 4 []) {y1 : Int32} {y2 : Int32} {d : Ds} (hf : fX12_bitsOf_B4 N g x0 K4 y1 y2 d = some (vz, dz)) : WB p l e rmX12_bitsOf s m args below meth c 3 D cy B 0 0 (MQ below (QI D cy B vz g dz) args s 0 0 (wA B)) g d [(0, .int x0), (1, .int y1), (2, .int y2)] 4 [] := by
  unfold fX12_bitsOf_B4 at hf
  refine b_iload_n C dX12_bitsOf_4 2 rfl rfl ?_
  refine b_if_le C (tgt := 21) dX12_bitsOf_5 (by decide) (fun c1 => ?_) (fun c1 => ?_)
  · have hf := it_s c1 hf
    refine b_iload_n C dX12_bitsOf_21 1 rfl rfl ?_
    exact b_iret C hr hlocks hf dX12_bitsOf_22
  · have hf := if_s c1 hf
    refine b_iload_n C dX12_bitsOf_8 1 rfl rfl ?_
    refine b_iload_n C dX12_bitsOf_9 2 rfl rfl ?_
    refine b_iconst C (v := 1) dX12_bitsOf_10 (by decide) ?_
    refine b_iand C dX12_bitsOf_11 ?_
    refine b_iadd C dX12_bitsOf_12 ?_
    obtain ⟨u2, eu2, hf⟩ := bd_s hf
    refine b_topI eu2 ?_
    refine b_istore_n C dX12_bitsOf_13 rfl [(1, .int u2), (0, .int x0), (2, .int y2)] (by decide) rfl ?_
    refine b_iload_n C dX12_bitsOf_14 2 rfl rfl ?_
    refine b_iconst C (v := 1) dX12_bitsOf_15 (by decide) ?_
    refine b_ishr C dX12_bitsOf_16 ?_
    obtain ⟨u3, eu3, hf⟩ := bd_s hf
    refine b_topI eu3 ?_
    refine b_istore_n C dX12_bitsOf_17 rfl [(2, .int u3), (1, .int u2), (0, .int x0)] (by decide) rfl ?_
    refine b_goto C (tgt := 4) dX12_bitsOf_18 (by decide) ?_
    refine b_sub [(0, .int x0), (1, .int u2), (2, .int u3)] [2, 1, 0] rfl ?_
    exact hK4 (u2, u3, d) hf
def fX12_bitsOf_L4 (N : Nat) (g : Gs) (x0 : Int32) : Int32 × Int32 × Ds → Option (Int32 × Ds) := lp (fun K4 a => fX12_bitsOf_B4 N g x0 K4 a.1 a.2.1 a.2.2) N
theorem tX12_bitsOf_L4 {p : Program} {l : Launch} {e : Env} {s : State} {m : MethodId} {args : Array Value} {below : List Frame} {meth : Method} {c : Code} {D : va_G} {cy : Nat → ClassId} {B : Bs} (C : Cx p s m args c cX12_bitsOf 3 RX12 D cy B) (hr : meth.sig.returnType = (some .int)) (hlocks : meth.locks = false) {N : Nat} {g : Gs} {x0 : Int32} {vz : Int32} {dz : Ds} (a : Int32 × Int32 × Ds) (hf : fX12_bitsOf_L4 N g x0 a = some (vz, dz)) : WB p l e rmX12_bitsOf s m args below meth c 3 D cy B 0 0 (MQ below (QI D cy B vz g dz) args s 0 0 (wA B)) g a.2.2 [(0, .int x0), (1, .int a.1), (2, .int a.2.1)] 4 [] :=
  lp_w (fun K4 hK4 a ha => tX12_bitsOf_4 C hr hlocks hK4 ha) N a hf
set_option maxRecDepth 100000 in
def fX12_bitsOf (N : Nat) (g : Gs) (x0 : Int32) (d : Ds) : Option (Int32 × Ds) := fX12_bitsOf_L4 N g x0 (0, x0, d)
set_option maxHeartbeats 4000000 in
set_option maxRecDepth 100000 in
theorem tX12_bitsOf_E {p : Program} {l : Launch} {e : Env} {s : State} {m : MethodId} {args : Array Value} {below : List Frame} {meth : Method} {c : Code} {D : va_G} {cy : Nat → ClassId} {B : Bs} (C : Cx p s m args c cX12_bitsOf 3 RX12 D cy B) (hr : meth.sig.returnType = (some .int)) (hlocks : meth.locks = false) {N : Nat} {g : Gs} {x0 : Int32} {vz : Int32} {dz : Ds} {d : Ds} (hf : fX12_bitsOf N g x0 d = some (vz, dz)) : WB p l e rmX12_bitsOf s m args below meth c 3 D cy B 0 0 (MQ below (QI D cy B vz g dz) args s 0 0 (wA B)) g d [(0, .int x0)] 0 [] := by
  unfold fX12_bitsOf at hf
  refine b_iconst C (v := 0) dX12_bitsOf_0 (by decide) ?_
  refine b_istore_n C dX12_bitsOf_1 rfl [(1, .int 0), (0, .int x0)] (by decide) rfl ?_
  refine b_iload_n C dX12_bitsOf_2 1 rfl rfl ?_
  refine b_istore_n C dX12_bitsOf_3 rfl [(2, .int x0), (1, .int 0), (0, .int x0)] (by decide) rfl ?_
  refine b_sub [(0, .int x0), (1, .int 0), (2, .int x0)] [2, 1, 0] rfl ?_
  exact tX12_bitsOf_L4 C hr hlocks (0, x0, d) hf
theorem kX12_bitsOf (l : Launch) (D : va_G) (cy : Nat → ClassId) (B : Bs) {N : Nat} {g : Gs} {x0 : Int32} {vz : Int32} {dz : Ds} {d : Ds} (hf : fX12_bitsOf N g x0 d = some (vz, dz)) : Met l yX12_bitsOf (.code yX12_bitsOf cX12_bitsOf 3 (some .int) :: wl) rmX12_bitsOf (PC D cy B [.int x0] g d) (QI D cy B vz g dz) 0 0 (wA B) :=
  met_of (by decide +kernel) (Nat.le_of_ble_eq_true rfl) (fun p e s m args below meth c C hr hlocks _ => b_sub [(0, .int x0)] [0] rfl (tX12_bitsOf_E C hr hlocks hf))
/-! KeyMatrixModel.keysMany()I -/
theorem dX12_keysMany_0 : decode cX12_keysMany 0 = .ok (.aload_n 0, 1) := by decide +kernel
theorem dX12_keysMany_1 : decode cX12_keysMany 1 = .ok (.getfield 40, 3) := by decide +kernel
theorem dX12_keysMany_4 : decode cX12_keysMany 4 = .ok (.iconst 0, 1) := by decide +kernel
theorem dX12_keysMany_5 : decode cX12_keysMany 5 = .ok (.iaload, 1) := by decide +kernel
theorem dX12_keysMany_6 : decode cX12_keysMany 6 = .ok (.aload_n 0, 1) := by decide +kernel
theorem dX12_keysMany_7 : decode cX12_keysMany 7 = .ok (.getfield 40, 3) := by decide +kernel
theorem dX12_keysMany_10 : decode cX12_keysMany 10 = .ok (.iconst 1, 1) := by decide +kernel
theorem dX12_keysMany_11 : decode cX12_keysMany 11 = .ok (.iaload, 1) := by decide +kernel
theorem dX12_keysMany_12 : decode cX12_keysMany 12 = .ok (.imul, 1) := by decide +kernel
theorem dX12_keysMany_13 : decode cX12_keysMany 13 = .ok (.ireturn, 1) := by decide +kernel
def rmX12_keysMany : Room := { frames := 0, cells := 0, slots := 0, locals := 0 }
set_option maxRecDepth 100000 in
def fX12_keysMany (N : Nat) (g : Gs) (x0 : Nat) (d : Ds) : Option (Int32 × Ds) := gd (chk g x0 11) <| ob (gR g x0 17) fun r2 => (gd (chk g r2 102) <| gd (¬ ((0 : Int32) < 0 ∨ gL g r2 ≤ (0 : Int32).toNatClampNeg)) <| gd (¬ ((1 : Int32) < 0 ∨ gL g r2 ≤ (1 : Int32).toNatClampNeg)) <| some (((dI d r2 (0 : Int32).toNatClampNeg) * (dI d r2 (1 : Int32).toNatClampNeg)), d))
set_option maxHeartbeats 4000000 in
set_option maxRecDepth 100000 in
theorem tX12_keysMany_E {p : Program} {l : Launch} {e : Env} {s : State} {m : MethodId} {args : Array Value} {below : List Frame} {meth : Method} {c : Code} {D : va_G} {cy : Nat → ClassId} {B : Bs} (C : Cx p s m args c cX12_keysMany 1 RX12 D cy B) (hr : meth.sig.returnType = (some .int)) (hlocks : meth.locks = false) {N : Nat} {g : Gs} {x0 : Nat} {vz : Int32} {dz : Ds} {d : Ds} (hf : fX12_keysMany N g x0 d = some (vz, dz)) : WB p l e rmX12_keysMany s m args below meth c 1 D cy B 0 0 (MQ below (QI D cy B vz g dz) args s 0 0 (wA B)) g d [(0, .ref (ad B x0))] 0 [] := by
  unfold fX12_keysMany at hf
  refine b_aload_n C dX12_keysMany_0 0 rfl rfl ?_
  obtain ⟨h1, hf⟩ := gd_s hf
  obtain ⟨r2, er2, hf⟩ := ob_s hf
  refine b_gR C dX12_keysMany_1 fl_X12_40 h1 er2 ?_
  refine b_iconst C (v := 0) dX12_keysMany_4 (by decide) ?_
  obtain ⟨h3, hf⟩ := gd_s hf
  obtain ⟨h4, hf⟩ := gd_s hf
  refine b_iald C h3 h4 dX12_keysMany_5 ?_
  refine b_aload_n C dX12_keysMany_6 0 rfl rfl ?_
  refine b_gR C dX12_keysMany_7 fl_X12_40 h1 er2 ?_
  refine b_iconst C (v := 1) dX12_keysMany_10 (by decide) ?_
  obtain ⟨h5, hf⟩ := gd_s hf
  refine b_iald C h3 h5 dX12_keysMany_11 ?_
  refine b_imul C dX12_keysMany_12 ?_
  exact b_iret C hr hlocks hf dX12_keysMany_13
theorem kX12_keysMany (l : Launch) (D : va_G) (cy : Nat → ClassId) (B : Bs) {N : Nat} {g : Gs} {x0 : Nat} {vz : Int32} {dz : Ds} {d : Ds} (hf : fX12_keysMany N g x0 d = some (vz, dz)) : Met l yX12_keysMany (.code yX12_keysMany cX12_keysMany 1 (some .int) :: wl) rmX12_keysMany (PC D cy B [.ref (ad B x0)] g d) (QI D cy B vz g dz) 0 0 (wA B) :=
  met_of (by decide +kernel) (Nat.le_of_ble_eq_true rfl) (fun p e s m args below meth c C hr hlocks _ => b_sub [(0, .ref (ad B x0))] [0] rfl (tX12_keysMany_E C hr hlocks hf))
/-! KeyMatrixModel.isKey(I)Z -/
theorem yo_X12_keysMany : yX12_keysMany.cls ≠ "java/lang/invoke/MethodHandle" ∧ yX12_keysMany.cls ≠ "java/lang/invoke/VarHandle" ∧ (parseMethodDescriptor yX12_keysMany.desc).map (fun d => d.parameters.length) = some 0 := by decide +kernel
theorem co_X12_keysMany : Cond.code yX12_keysMany cX12_keysMany 1 (some .int) ∈ wl := mW (mT6 (List.mem_of_getElem? (i := 73) (by decide +kernel))) rfl
theorem in_X12_keysMany : Cond.initialized yX12_keysMany.cls ∈ wl := mW (mT1 (List.mem_of_getElem? (i := 12) (by decide +kernel))) rfl
theorem im_X12_keysMany : Cond.instanceMethod yX12_keysMany ∈ wl := mW (mT6 (List.mem_of_getElem? (i := 72) (by decide +kernel))) rfl
theorem se_X12_keysMany : Cond.selects yX12_keysMany.cls yX12_keysMany yX12_keysMany ∈ wl := mW (mT0 (List.mem_of_getElem? (i := 54) (by decide +kernel))) rfl
theorem lv_X12_206 : LV RX12 206 yX12_keysMany cX12_keysMany 1 (some .int) 0 11 := ⟨⟨(RX12, TX12, 33), rfl, rfl⟩, yo_X12_keysMany, mW (mT6 (List.mem_of_getElem? (i := 70) (by decide +kernel))) rfl, im_X12_keysMany, se_X12_keysMany, in_X12_keysMany, co_X12_keysMany⟩
theorem dX12_isKey_0 : decode cX12_isKey 0 = .ok (.iload_n 1, 1) := by decide +kernel
theorem dX12_isKey_1 : decode cX12_isKey 1 = .ok (.iconst 0, 1) := by decide +kernel
theorem dX12_isKey_2 : decode cX12_isKey 2 = .ok (.aload_n 0, 1) := by decide +kernel
theorem dX12_isKey_3 : decode cX12_isKey 3 = .ok (.invokevirtual 206, 3) := by decide +kernel
theorem dX12_isKey_6 : decode cX12_isKey 6 = .ok (.iconst 1, 1) := by decide +kernel
theorem dX12_isKey_7 : decode cX12_isKey 7 = .ok (.isub, 1) := by decide +kernel
theorem dX12_isKey_8 : decode cX12_isKey 8 = .ok (.invokestatic 169, 3) := by decide +kernel
theorem dX12_isKey_11 : decode cX12_isKey 11 = .ok (.ireturn, 1) := by decide +kernel
def rmX12_isKey : Room := { frames := 1, cells := 0, slots := 0, locals := 22 }
set_option maxRecDepth 100000 in
def fX12_isKey (N : Nat) (g : Gs) (x0 : Nat) (x1 : Int32) (d : Ds) : Option (Int32 × Ds) := gd (chk g x0 11) <| cb (fX12_keysMany N g x0 d) fun u4 d2 => (cb (fX12_in N g x1 0 (u4 - 1) d2) fun u7 d5 => (gd (u7 = 0 ∨ u7 = 1) <| some (u7, d5)))
set_option maxHeartbeats 4000000 in
set_option maxRecDepth 100000 in
theorem tX12_isKey_E {p : Program} {l : Launch} {e : Env} {s : State} {m : MethodId} {args : Array Value} {below : List Frame} {meth : Method} {c : Code} {D : va_G} {cy : Nat → ClassId} {B : Bs} (C : Cx p s m args c cX12_isKey 2 RX12 D cy B) (hr : meth.sig.returnType = (some .boolean)) (hlocks : meth.locks = false) {N : Nat} {g : Gs} {x0 : Nat} {x1 : Int32} {vz : Int32} {dz : Ds} {d : Ds} (hf : fX12_isKey N g x0 x1 d = some (vz, dz)) : WB p l e rmX12_isKey s m args below meth c 2 D cy B 0 0 (MQ below (QI D cy B vz g dz) args s 0 0 (wA B)) g d [(0, .ref (ad B x0)), (1, .int x1)] 0 [] := by
  unfold fX12_isKey at hf
  refine b_iload_n C dX12_isKey_0 1 rfl rfl ?_
  refine b_iconst C (v := 0) dX12_isKey_1 (by decide) ?_
  refine b_aload_n C dX12_isKey_2 0 rfl rfl ?_
  obtain ⟨h1, hf⟩ := gd_s hf
  obtain ⟨u4, d2, k3, hf⟩ := cb_s hf
  refine b_cVI C [.int 0, .int x1] dX12_isKey_3 (kX12_keysMany l D cy B k3) lv_X12_206 ⟨rfl, rfl, Nat.le_of_ble_eq_true rfl, Nat.le_of_ble_eq_true rfl⟩ h1 (by decide) rfl (Nat.le_of_ble_eq_true rfl) ⟨Nat.zero_le _, Nat.zero_le _⟩ rfl ?_
  refine b_iconst C (v := 1) dX12_isKey_6 (by decide) ?_
  refine b_isub C dX12_isKey_7 ?_
  obtain ⟨u7, d5, k6, hf⟩ := cb_s hf
  refine b_cSI C [] dX12_isKey_8 (kX12_in l D cy B k6) lv_X12_169 ⟨rfl, rfl, Nat.le_of_ble_eq_true rfl, Nat.le_of_ble_eq_true rfl⟩ rfl (Nat.le_of_ble_eq_true rfl) ⟨Nat.zero_le _, Nat.zero_le _⟩ rfl ?_
  obtain ⟨h8, hf⟩ := gd_s hf
  exact b_zret C hr hlocks h8 hf dX12_isKey_11
theorem kX12_isKey (l : Launch) (D : va_G) (cy : Nat → ClassId) (B : Bs) {N : Nat} {g : Gs} {x0 : Nat} {x1 : Int32} {vz : Int32} {dz : Ds} {d : Ds} (hf : fX12_isKey N g x0 x1 d = some (vz, dz)) : Met l yX12_isKey (.code yX12_isKey cX12_isKey 2 (some .boolean) :: wl) rmX12_isKey (PC D cy B [.ref (ad B x0), .int x1] g d) (QI D cy B vz g dz) 0 0 (wA B) :=
  met_of (by decide +kernel) (Nat.le_of_ble_eq_true rfl) (fun p e s m args below meth c C hr hlocks _ => b_sub [(0, .ref (ad B x0)), (1, .int x1)] [0, 1] rfl (tX12_isKey_E C hr hlocks hf))
/-! KeyMatrixModel.laysParts(I)I -/
theorem yo_X12_has : yX12_has.cls ≠ "java/lang/invoke/MethodHandle" ∧ yX12_has.cls ≠ "java/lang/invoke/VarHandle" ∧ (parseMethodDescriptor yX12_has.desc).map (fun d => d.parameters.length) = some 2 := by decide +kernel
theorem co_X12_has : Cond.code yX12_has cX12_has 2 (some .boolean) ∈ wl := mW (mT6 (List.mem_of_getElem? (i := 76) (by decide +kernel))) rfl
theorem in_X12_has : Cond.initialized yX12_has.cls ∈ wl := mW (mT1 (List.mem_of_getElem? (i := 12) (by decide +kernel))) rfl
theorem st_X12_has : Cond.static yX12_has ∈ wl := mW (mT6 (List.mem_of_getElem? (i := 75) (by decide +kernel))) rfl
theorem lv_X12_210 : LSt RX12 210 yX12_has cX12_has 2 (some .boolean) 2 := ⟨yo_X12_has, Or.inl (mW (mT6 (List.mem_of_getElem? (i := 74) (by decide +kernel))) rfl), st_X12_has, in_X12_has, co_X12_has⟩
theorem fl_X12_53 : FLR RX12 53 11 24 := ⟨⟨RX12, TX12, 33, rfl, by decide, inl11, Or.inl (mW (mT5 (List.mem_of_getElem? (i := 115) (by decide +kernel))) rfl)⟩, by decide, by decide +kernel⟩
theorem dX12_laysParts_0 : decode cX12_laysParts 0 = .ok (.aload_n 0, 1) := by decide +kernel
theorem dX12_laysParts_1 : decode cX12_laysParts 1 = .ok (.getfield 40, 3) := by decide +kernel
theorem dX12_laysParts_4 : decode cX12_laysParts 4 = .ok (.iconst 0, 1) := by decide +kernel
theorem dX12_laysParts_5 : decode cX12_laysParts 5 = .ok (.iaload, 1) := by decide +kernel
theorem dX12_laysParts_6 : decode cX12_laysParts 6 = .ok (.aload_n 0, 1) := by decide +kernel
theorem dX12_laysParts_7 : decode cX12_laysParts 7 = .ok (.getfield 40, 3) := by decide +kernel
theorem dX12_laysParts_10 : decode cX12_laysParts 10 = .ok (.iconst 1, 1) := by decide +kernel
theorem dX12_laysParts_11 : decode cX12_laysParts 11 = .ok (.iaload, 1) := by decide +kernel
theorem dX12_laysParts_12 : decode cX12_laysParts 12 = .ok (.iadd, 1) := by decide +kernel
theorem dX12_laysParts_13 : decode cX12_laysParts 13 = .ok (.istore_n 2, 1) := by decide +kernel
theorem dX12_laysParts_14 : decode cX12_laysParts 14 = .ok (.iconst 0, 1) := by decide +kernel
theorem dX12_laysParts_15 : decode cX12_laysParts 15 = .ok (.istore_n 3, 1) := by decide +kernel
theorem dX12_laysParts_16 : decode cX12_laysParts 16 = .ok (.iload_n 3, 1) := by decide +kernel
theorem dX12_laysParts_17 : decode cX12_laysParts 17 = .ok (.iload_n 2, 1) := by decide +kernel
theorem dX12_laysParts_18 : decode cX12_laysParts 18 = .ok (.if_icmp .ge 16, 3) := by decide +kernel
theorem dX12_laysParts_21 : decode cX12_laysParts 21 = .ok (.aload_n 0, 1) := by decide +kernel
theorem dX12_laysParts_22 : decode cX12_laysParts 22 = .ok (.getfield 53, 3) := by decide +kernel
theorem dX12_laysParts_25 : decode cX12_laysParts 25 = .ok (.iload_n 3, 1) := by decide +kernel
theorem dX12_laysParts_26 : decode cX12_laysParts 26 = .ok (.iload_n 3, 1) := by decide +kernel
theorem dX12_laysParts_27 : decode cX12_laysParts 27 = .ok (.iastore, 1) := by decide +kernel
theorem dX12_laysParts_28 : decode cX12_laysParts 28 = .ok (.iinc 3 1, 3) := by decide +kernel
theorem dX12_laysParts_31 : decode cX12_laysParts 31 = .ok (.goto (-15), 3) := by decide +kernel
theorem dX12_laysParts_34 : decode cX12_laysParts 34 = .ok (.iload_n 2, 1) := by decide +kernel
theorem dX12_laysParts_35 : decode cX12_laysParts 35 = .ok (.istore_n 3, 1) := by decide +kernel
theorem dX12_laysParts_36 : decode cX12_laysParts 36 = .ok (.iconst 0, 1) := by decide +kernel
theorem dX12_laysParts_37 : decode cX12_laysParts 37 = .ok (.istore 4, 2) := by decide +kernel
theorem dX12_laysParts_39 : decode cX12_laysParts 39 = .ok (.iload 4, 2) := by decide +kernel
theorem dX12_laysParts_41 : decode cX12_laysParts 41 = .ok (.aload_n 0, 1) := by decide +kernel
theorem dX12_laysParts_42 : decode cX12_laysParts 42 = .ok (.invokevirtual 206, 3) := by decide +kernel
theorem dX12_laysParts_45 : decode cX12_laysParts 45 = .ok (.if_icmp .ge 109, 3) := by decide +kernel
theorem dX12_laysParts_48 : decode cX12_laysParts 48 = .ok (.iload_n 1, 1) := by decide +kernel
theorem dX12_laysParts_49 : decode cX12_laysParts 49 = .ok (.iload 4, 2) := by decide +kernel
theorem dX12_laysParts_51 : decode cX12_laysParts 51 = .ok (.invokestatic 210, 3) := by decide +kernel
theorem dX12_laysParts_54 : decode cX12_laysParts 54 = .ok (.ifCond .ne 6, 3) := by decide +kernel
theorem dX12_laysParts_57 : decode cX12_laysParts 57 = .ok (.goto 91, 3) := by decide +kernel
theorem dX12_laysParts_60 : decode cX12_laysParts 60 = .ok (.aload_n 0, 1) := by decide +kernel
theorem dX12_laysParts_61 : decode cX12_laysParts 61 = .ok (.getfield 53, 3) := by decide +kernel
theorem dX12_laysParts_64 : decode cX12_laysParts 64 = .ok (.iload 4, 2) := by decide +kernel
theorem dX12_laysParts_66 : decode cX12_laysParts 66 = .ok (.aload_n 0, 1) := by decide +kernel
theorem dX12_laysParts_67 : decode cX12_laysParts 67 = .ok (.getfield 40, 3) := by decide +kernel
theorem dX12_laysParts_70 : decode cX12_laysParts 70 = .ok (.iconst 1, 1) := by decide +kernel
theorem dX12_laysParts_71 : decode cX12_laysParts 71 = .ok (.iaload, 1) := by decide +kernel
theorem dX12_laysParts_72 : decode cX12_laysParts 72 = .ok (.idiv, 1) := by decide +kernel
theorem dX12_laysParts_73 : decode cX12_laysParts 73 = .ok (.iaload, 1) := by decide +kernel
theorem dX12_laysParts_74 : decode cX12_laysParts 74 = .ok (.istore 5, 2) := by decide +kernel
theorem dX12_laysParts_76 : decode cX12_laysParts 76 = .ok (.aload_n 0, 1) := by decide +kernel
theorem dX12_laysParts_77 : decode cX12_laysParts 77 = .ok (.getfield 53, 3) := by decide +kernel
theorem dX12_laysParts_80 : decode cX12_laysParts 80 = .ok (.aload_n 0, 1) := by decide +kernel
theorem dX12_laysParts_81 : decode cX12_laysParts 81 = .ok (.getfield 40, 3) := by decide +kernel
theorem dX12_laysParts_84 : decode cX12_laysParts 84 = .ok (.iconst 0, 1) := by decide +kernel
theorem dX12_laysParts_85 : decode cX12_laysParts 85 = .ok (.iaload, 1) := by decide +kernel
theorem dX12_laysParts_86 : decode cX12_laysParts 86 = .ok (.iload 4, 2) := by decide +kernel
theorem dX12_laysParts_88 : decode cX12_laysParts 88 = .ok (.aload_n 0, 1) := by decide +kernel
theorem dX12_laysParts_89 : decode cX12_laysParts 89 = .ok (.getfield 40, 3) := by decide +kernel
theorem dX12_laysParts_92 : decode cX12_laysParts 92 = .ok (.iconst 1, 1) := by decide +kernel
theorem dX12_laysParts_93 : decode cX12_laysParts 93 = .ok (.iaload, 1) := by decide +kernel
theorem dX12_laysParts_94 : decode cX12_laysParts 94 = .ok (.irem, 1) := by decide +kernel
theorem dX12_laysParts_95 : decode cX12_laysParts 95 = .ok (.iadd, 1) := by decide +kernel
theorem dX12_laysParts_96 : decode cX12_laysParts 96 = .ok (.iaload, 1) := by decide +kernel
theorem dX12_laysParts_97 : decode cX12_laysParts 97 = .ok (.istore 6, 2) := by decide +kernel
theorem dX12_laysParts_99 : decode cX12_laysParts 99 = .ok (.iload 5, 2) := by decide +kernel
theorem dX12_laysParts_101 : decode cX12_laysParts 101 = .ok (.iload 6, 2) := by decide +kernel
theorem dX12_laysParts_103 : decode cX12_laysParts 103 = .ok (.if_icmp .ne 6, 3) := by decide +kernel
theorem dX12_laysParts_106 : decode cX12_laysParts 106 = .ok (.goto 42, 3) := by decide +kernel
theorem dX12_laysParts_109 : decode cX12_laysParts 109 = .ok (.iinc 3 (-1), 3) := by decide +kernel
theorem dX12_laysParts_112 : decode cX12_laysParts 112 = .ok (.iconst 0, 1) := by decide +kernel
theorem dX12_laysParts_113 : decode cX12_laysParts 113 = .ok (.istore 7, 2) := by decide +kernel
theorem dX12_laysParts_115 : decode cX12_laysParts 115 = .ok (.iload 7, 2) := by decide +kernel
theorem dX12_laysParts_117 : decode cX12_laysParts 117 = .ok (.iload_n 2, 1) := by decide +kernel
theorem dX12_laysParts_118 : decode cX12_laysParts 118 = .ok (.if_icmp .ge 30, 3) := by decide +kernel
theorem dX12_laysParts_121 : decode cX12_laysParts 121 = .ok (.aload_n 0, 1) := by decide +kernel
theorem dX12_laysParts_122 : decode cX12_laysParts 122 = .ok (.getfield 53, 3) := by decide +kernel
theorem dX12_laysParts_125 : decode cX12_laysParts 125 = .ok (.iload 7, 2) := by decide +kernel
theorem dX12_laysParts_127 : decode cX12_laysParts 127 = .ok (.iaload, 1) := by decide +kernel
theorem dX12_laysParts_128 : decode cX12_laysParts 128 = .ok (.iload 5, 2) := by decide +kernel
theorem dX12_laysParts_130 : decode cX12_laysParts 130 = .ok (.if_icmp .ne 12, 3) := by decide +kernel
theorem dX12_laysParts_133 : decode cX12_laysParts 133 = .ok (.aload_n 0, 1) := by decide +kernel
theorem dX12_laysParts_134 : decode cX12_laysParts 134 = .ok (.getfield 53, 3) := by decide +kernel
theorem dX12_laysParts_137 : decode cX12_laysParts 137 = .ok (.iload 7, 2) := by decide +kernel
theorem dX12_laysParts_139 : decode cX12_laysParts 139 = .ok (.iload 6, 2) := by decide +kernel
theorem dX12_laysParts_141 : decode cX12_laysParts 141 = .ok (.iastore, 1) := by decide +kernel
theorem dX12_laysParts_142 : decode cX12_laysParts 142 = .ok (.iinc 7 1, 3) := by decide +kernel
theorem dX12_laysParts_145 : decode cX12_laysParts 145 = .ok (.goto (-30), 3) := by decide +kernel
theorem dX12_laysParts_148 : decode cX12_laysParts 148 = .ok (.iinc 4 1, 3) := by decide +kernel
theorem dX12_laysParts_151 : decode cX12_laysParts 151 = .ok (.goto (-112), 3) := by decide +kernel
theorem dX12_laysParts_154 : decode cX12_laysParts 154 = .ok (.iload_n 3, 1) := by decide +kernel
theorem dX12_laysParts_155 : decode cX12_laysParts 155 = .ok (.ireturn, 1) := by decide +kernel
def rmX12_laysParts : Room := { frames := 1, cells := 0, slots := 0, locals := 21 }
set_option maxRecDepth 100000 in
def fX12_laysParts_J148 (N : Nat) (g : Gs) (x0 : Nat) (x1 : Int32) (K39 : Int32 × Int32 × Int32 × Ds → Option (Int32 × Ds)) (y2 : Int32) (y3 : Int32) (y4 : Int32) (d : Ds) : Option (Int32 × Ds) := bd (y4 + 1) fun u32 => (K39 (y2, y3, u32, d))
set_option maxHeartbeats 4000000 in
set_option maxRecDepth 100000 in
theorem tX12_laysParts_148 {p : Program} {l : Launch} {e : Env} {s : State} {m : MethodId} {args : Array Value} {below : List Frame} {meth : Method} {c : Code} {D : va_G} {cy : Nat → ClassId} {B : Bs} (C : Cx p s m args c cX12_laysParts 8 RX12 D cy B) (hr : meth.sig.returnType = (some .int)) (hlocks : meth.locks = false) {N : Nat} {g : Gs} {x0 : Nat} {x1 : Int32} {vz : Int32} {dz : Ds} {K39 : Int32 × Int32 × Int32 × Ds → Option (Int32 × Ds)} (hK39 : ∀ a, K39 a = some (vz, dz) → WB p l e rmX12_laysParts s m args below meth c 8 D cy B 0 0 (MQ below (QI D cy B vz g dz) args s 0 0 (wA B)) g a.2.2.2 [(0, .ref (ad B x0)), (1, .int x1), (2, .int a.1), (3, .int a.2.1), (4, .int a.2.2.1)] 39 []) {y2 : Int32} {y3 : Int32} {y4 : Int32} {d : Ds} (hf : fX12_laysParts_J148 N g x0 x1 K39 y2 y3 y4 d = some (vz, dz)) : WB p l e rmX12_laysParts s m args below meth c 8 D cy B 0 0 (MQ below (QI D cy B vz g dz) args s 0 0 (wA B)) g d [(0, .ref (ad B x0)), (1, .int x1), (2, .int y2), (3, .int y3), (4, .int y4)] 148 [] := by
  unfold fX12_laysParts_J148 at hf
  obtain ⟨u32, eu32, hf⟩ := bd_s hf
  refine b_iinc C dX12_laysParts_148 4 rfl (by rw [eu32]; rfl) [(4, .int u32), (0, .ref (ad B x0)), (1, .int x1), (2, .int y2), (3, .int y3)] (by decide) rfl ?_
  refine b_goto C (tgt := 39) dX12_laysParts_151 (by decide) ?_
  refine b_sub [(0, .ref (ad B x0)), (1, .int x1), (2, .int y2), (3, .int y3), (4, .int u32)] [1, 2, 3, 4, 0] rfl ?_
  exact hK39 (y2, y3, u32, d) hf
set_option maxRecDepth 100000 in
def fX12_laysParts_J142 (N : Nat) (g : Gs) (x0 : Nat) (x1 : Int32) (K39 : Int32 × Int32 × Int32 × Ds → Option (Int32 × Ds)) (K115 : Int32 × Int32 × Int32 × Int32 × Int32 × Int32 × Ds → Option (Int32 × Ds)) (y2 : Int32) (y3 : Int32) (y4 : Int32) (y5 : Int32) (y6 : Int32) (y7 : Int32) (d : Ds) : Option (Int32 × Ds) := bd (y7 + 1) fun u38 => (K115 (y2, y3, y4, y5, y6, u38, d))
set_option maxHeartbeats 4000000 in
set_option maxRecDepth 100000 in
theorem tX12_laysParts_142 {p : Program} {l : Launch} {e : Env} {s : State} {m : MethodId} {args : Array Value} {below : List Frame} {meth : Method} {c : Code} {D : va_G} {cy : Nat → ClassId} {B : Bs} (C : Cx p s m args c cX12_laysParts 8 RX12 D cy B) (hr : meth.sig.returnType = (some .int)) (hlocks : meth.locks = false) {N : Nat} {g : Gs} {x0 : Nat} {x1 : Int32} {vz : Int32} {dz : Ds} {K39 : Int32 × Int32 × Int32 × Ds → Option (Int32 × Ds)} {K115 : Int32 × Int32 × Int32 × Int32 × Int32 × Int32 × Ds → Option (Int32 × Ds)} (hK39 : ∀ a, K39 a = some (vz, dz) → WB p l e rmX12_laysParts s m args below meth c 8 D cy B 0 0 (MQ below (QI D cy B vz g dz) args s 0 0 (wA B)) g a.2.2.2 [(0, .ref (ad B x0)), (1, .int x1), (2, .int a.1), (3, .int a.2.1), (4, .int a.2.2.1)] 39 []) (hK115 : ∀ a, K115 a = some (vz, dz) → WB p l e rmX12_laysParts s m args below meth c 8 D cy B 0 0 (MQ below (QI D cy B vz g dz) args s 0 0 (wA B)) g a.2.2.2.2.2.2 [(0, .ref (ad B x0)), (1, .int x1), (2, .int a.1), (3, .int a.2.1), (4, .int a.2.2.1), (5, .int a.2.2.2.1), (6, .int a.2.2.2.2.1), (7, .int a.2.2.2.2.2.1)] 115 []) {y2 : Int32} {y3 : Int32} {y4 : Int32} {y5 : Int32} {y6 : Int32} {y7 : Int32} {d : Ds} (hf : fX12_laysParts_J142 N g x0 x1 K39 K115 y2 y3 y4 y5 y6 y7 d = some (vz, dz)) : WB p l e rmX12_laysParts s m args below meth c 8 D cy B 0 0 (MQ below (QI D cy B vz g dz) args s 0 0 (wA B)) g d [(0, .ref (ad B x0)), (1, .int x1), (2, .int y2), (3, .int y3), (4, .int y4), (5, .int y5), (6, .int y6), (7, .int y7)] 142 [] := by
  unfold fX12_laysParts_J142 at hf
  obtain ⟨u38, eu38, hf⟩ := bd_s hf
  refine b_iinc C dX12_laysParts_142 7 rfl (by rw [eu38]; rfl) [(7, .int u38), (0, .ref (ad B x0)), (1, .int x1), (2, .int y2), (3, .int y3), (4, .int y4), (5, .int y5), (6, .int y6)] (by decide) rfl ?_
  refine b_goto C (tgt := 115) dX12_laysParts_145 (by decide) ?_
  refine b_sub [(0, .ref (ad B x0)), (1, .int x1), (2, .int y2), (3, .int y3), (4, .int y4), (5, .int y5), (6, .int y6), (7, .int u38)] [1, 2, 3, 4, 5, 6, 7, 0] rfl ?_
  exact hK115 (y2, y3, y4, y5, y6, u38, d) hf
set_option maxRecDepth 100000 in
def fX12_laysParts_B115 (N : Nat) (g : Gs) (x0 : Nat) (x1 : Int32) (K39 : Int32 × Int32 × Int32 × Ds → Option (Int32 × Ds)) (K115 : Int32 × Int32 × Int32 × Int32 × Int32 × Int32 × Ds → Option (Int32 × Ds)) (y2 : Int32) (y3 : Int32) (y4 : Int32) (y5 : Int32) (y6 : Int32) (y7 : Int32) (d : Ds) : Option (Int32 × Ds) := if y2 ≤ y7 then (fX12_laysParts_J148 N g x0 x1 K39 y2 y3 y4 d) else (gd (chk g x0 11) <| ob (gR g x0 24) fun r34 => (gd (chk g r34 102) <| gd (¬ (y7 < 0 ∨ gL g r34 ≤ y7.toNatClampNeg)) <| if (dI d r34 y7.toNatClampNeg) = y5 then (bd (sI d r34 y7.toNatClampNeg y6) fun d39 => (fX12_laysParts_J142 N g x0 x1 K39 K115 y2 y3 y4 y5 y6 y7 d39)) else (fX12_laysParts_J142 N g x0 x1 K39 K115 y2 y3 y4 y5 y6 y7 d)))
set_option maxHeartbeats 4000000 in
set_option maxRecDepth 100000 in
theorem tX12_laysParts_115 {p : Program} {l : Launch} {e : Env} {s : State} {m : MethodId} {args : Array Value} {below : List Frame} {meth : Method} {c : Code} {D : va_G} {cy : Nat → ClassId} {B : Bs} (C : Cx p s m args c cX12_laysParts 8 RX12 D cy B) (hr : meth.sig.returnType = (some .int)) (hlocks : meth.locks = false) {N : Nat} {g : Gs} {x0 : Nat} {x1 : Int32} {vz : Int32} {dz : Ds} {K39 : Int32 × Int32 × Int32 × Ds → Option (Int32 × Ds)} {K115 : Int32 × Int32 × Int32 × Int32 × Int32 × Int32 × Ds → Option (Int32 × Ds)} (hK39 : ∀ a, K39 a = some (vz, dz) → WB p l e rmX12_laysParts s m args below meth c 8 D cy B 0 0 (MQ below (QI D cy B vz g dz) args s 0 0 (wA B)) g a.2.2.2 [(0, .ref (ad B x0)), (1, .int x1), (2, .int a.1), (3, .int a.2.1), (4, .int a.2.2.1)] 39 []) (hK115 : ∀ a, K115 a = some (vz, dz) → WB p l e rmX12_laysParts s m args below meth c 8 D cy B 0 0 (MQ below (QI D cy B vz g dz) args s 0 0 (wA B)) g a.2.2.2.2.2.2 [(0, .ref (ad B x0)), (1, .int x1), (2, .int a.1), (3, .int a.2.1), (4, .int a.2.2.1), (5, .int a.2.2.2.1), (6, .int a.2.2.2.2.1), (7, .int a.2.2.2.2.2.1)] 115 []) {y2 : Int32} {y3 : Int32} {y4 : Int32} {y5 : Int32} {y6 : Int32} {y7 : Int32} {d : Ds} (hf : fX12_laysParts_B115 N g x0 x1 K39 K115 y2 y3 y4 y5 y6 y7 d = some (vz, dz)) : WB p l e rmX12_laysParts s m args below meth c 8 D cy B 0 0 (MQ below (QI D cy B vz g dz) args s 0 0 (wA B)) g d [(0, .ref (ad B x0)), (1, .int x1), (2, .int y2), (3, .int y3), (4, .int y4), (5, .int y5), (6, .int y6), (7, .int y7)] 115 [] := by
  unfold fX12_laysParts_B115 at hf
  refine b_iload C dX12_laysParts_115 7 rfl ?_
  refine b_iload_n C dX12_laysParts_117 2 rfl rfl ?_
  refine b_icmp_ge C (tgt := 148) dX12_laysParts_118 (by decide) (fun c31 => ?_) (fun c31 => ?_)
  · have hf := it_s c31 hf
    refine b_sub [(0, .ref (ad B x0)), (1, .int x1), (2, .int y2), (3, .int y3), (4, .int y4)] [0, 1, 2, 3, 4] rfl ?_
    exact tX12_laysParts_148 C hr hlocks hK39 hf
  · have hf := if_s c31 hf
    refine b_aload_n C dX12_laysParts_121 0 rfl rfl ?_
    obtain ⟨h33, hf⟩ := gd_s hf
    obtain ⟨r34, er34, hf⟩ := ob_s hf
    refine b_gR C dX12_laysParts_122 fl_X12_53 h33 er34 ?_
    refine b_iload C dX12_laysParts_125 7 rfl ?_
    obtain ⟨h35, hf⟩ := gd_s hf
    obtain ⟨h36, hf⟩ := gd_s hf
    refine b_iald C h35 h36 dX12_laysParts_127 ?_
    refine b_iload C dX12_laysParts_128 5 rfl ?_
    refine b_icmp_ne C (tgt := 142) dX12_laysParts_130 (by decide) (fun c37 => ?_) (fun c37 => ?_)
    · have hf := if_s c37 hf
      refine b_sub [(0, .ref (ad B x0)), (1, .int x1), (2, .int y2), (3, .int y3), (4, .int y4), (5, .int y5), (6, .int y6), (7, .int y7)] [0, 1, 2, 3, 4, 5, 6, 7] rfl ?_
      exact tX12_laysParts_142 C hr hlocks hK39 hK115 hf
    · have hf := it_s c37 hf
      refine b_aload_n C dX12_laysParts_133 0 rfl rfl ?_
      refine b_gR C dX12_laysParts_134 fl_X12_53 h33 er34 ?_
      refine b_iload C dX12_laysParts_137 7 rfl ?_
      refine b_iload C dX12_laysParts_139 6 rfl ?_
      obtain ⟨d39, ed39, hf⟩ := bd_s hf
      refine b_iast C h35 h36 ed39 dX12_laysParts_141 ?_
      refine b_sub [(0, .ref (ad B x0)), (1, .int x1), (2, .int y2), (3, .int y3), (4, .int y4), (5, .int y5), (6, .int y6), (7, .int y7)] [0, 1, 2, 3, 4, 5, 6, 7] rfl ?_
      exact tX12_laysParts_142 C hr hlocks hK39 hK115 hf
def fX12_laysParts_L115 (N : Nat) (g : Gs) (x0 : Nat) (x1 : Int32) (K39 : Int32 × Int32 × Int32 × Ds → Option (Int32 × Ds)) : Int32 × Int32 × Int32 × Int32 × Int32 × Int32 × Ds → Option (Int32 × Ds) := lp (fun K115 a => fX12_laysParts_B115 N g x0 x1 K39 K115 a.1 a.2.1 a.2.2.1 a.2.2.2.1 a.2.2.2.2.1 a.2.2.2.2.2.1 a.2.2.2.2.2.2) N
theorem tX12_laysParts_L115 {p : Program} {l : Launch} {e : Env} {s : State} {m : MethodId} {args : Array Value} {below : List Frame} {meth : Method} {c : Code} {D : va_G} {cy : Nat → ClassId} {B : Bs} (C : Cx p s m args c cX12_laysParts 8 RX12 D cy B) (hr : meth.sig.returnType = (some .int)) (hlocks : meth.locks = false) {N : Nat} {g : Gs} {x0 : Nat} {x1 : Int32} {vz : Int32} {dz : Ds} {K39 : Int32 × Int32 × Int32 × Ds → Option (Int32 × Ds)} (hK39 : ∀ a, K39 a = some (vz, dz) → WB p l e rmX12_laysParts s m args below meth c 8 D cy B 0 0 (MQ below (QI D cy B vz g dz) args s 0 0 (wA B)) g a.2.2.2 [(0, .ref (ad B x0)), (1, .int x1), (2, .int a.1), (3, .int a.2.1), (4, .int a.2.2.1)] 39 []) (a : Int32 × Int32 × Int32 × Int32 × Int32 × Int32 × Ds) (hf : fX12_laysParts_L115 N g x0 x1 K39 a = some (vz, dz)) : WB p l e rmX12_laysParts s m args below meth c 8 D cy B 0 0 (MQ below (QI D cy B vz g dz) args s 0 0 (wA B)) g a.2.2.2.2.2.2 [(0, .ref (ad B x0)), (1, .int x1), (2, .int a.1), (3, .int a.2.1), (4, .int a.2.2.1), (5, .int a.2.2.2.1), (6, .int a.2.2.2.2.1), (7, .int a.2.2.2.2.2.1)] 115 [] :=
  lp_w (fun K115 hK115 a ha => tX12_laysParts_115 C hr hlocks hK39 hK115 ha) N a hf
set_option maxRecDepth 100000 in
def fX12_laysParts_B39 (N : Nat) (g : Gs) (x0 : Nat) (x1 : Int32) (K39 : Int32 × Int32 × Int32 × Ds → Option (Int32 × Ds)) (y2 : Int32) (y3 : Int32) (y4 : Int32) (d : Ds) : Option (Int32 × Ds) := gd (chk g x0 11) <| cb (fX12_keysMany N g x0 d) fun u11 d9 => (if u11 ≤ y4 then (some (y3, d9)) else (cb (fX12_has N g x1 y4 d9) fun u15 d13 => (if u15 = 0 then (fX12_laysParts_J148 N g x0 x1 K39 y2 y3 y4 d13) else (ob (gR g x0 24) fun r17 => (ob (gR g x0 17) fun r18 => (gd (chk g r18 102) <| gd (¬ ((1 : Int32) < 0 ∨ gL g r18 ≤ (1 : Int32).toNatClampNeg)) <| gd (¬ (dI d13 r18 (1 : Int32).toNatClampNeg) = 0) <| gd (chk g r17 102) <| gd (¬ ((y4 / (dI d13 r18 (1 : Int32).toNatClampNeg)) < 0 ∨ gL g r17 ≤ (y4 / (dI d13 r18 (1 : Int32).toNatClampNeg)).toNatClampNeg)) <| bd ((dI d13 r17 (y4 / (dI d13 r18 (1 : Int32).toNatClampNeg)).toNatClampNeg)) fun u24 => (gd (¬ ((0 : Int32) < 0 ∨ gL g r18 ≤ (0 : Int32).toNatClampNeg)) <| bd ((dI d13 r18 (0 : Int32).toNatClampNeg) + (y4 - y4 / (dI d13 r18 (1 : Int32).toNatClampNeg) * (dI d13 r18 (1 : Int32).toNatClampNeg))) fun u26 => (gd (¬ (u26 < 0 ∨ gL g r17 ≤ u26.toNatClampNeg)) <| bd ((dI d13 r17 u26.toNatClampNeg)) fun u28 => (if u24 = u28 then (fX12_laysParts_J148 N g x0 x1 K39 y2 y3 y4 d13) else (bd (y3 + (-1)) fun u30 => (fX12_laysParts_L115 N g x0 x1 K39 (y2, u30, y4, u24, u28, 0, d13))))))))))))
set_option maxHeartbeats 4000000 in
set_option maxRecDepth 100000 in
theorem tX12_laysParts_39 {p : Program} {l : Launch} {e : Env} {s : State} {m : MethodId} {args : Array Value} {below : List Frame} {meth : Method} {c : Code} {D : va_G} {cy : Nat → ClassId} {B : Bs} (C : Cx p s m args c cX12_laysParts 8 RX12 D cy B) (hr : meth.sig.returnType = (some .int)) (hlocks : meth.locks = false) {N : Nat} {g : Gs} {x0 : Nat} {x1 : Int32} {vz : Int32} {dz : Ds} {K39 : Int32 × Int32 × Int32 × Ds → Option (Int32 × Ds)} (hK39 : ∀ a, K39 a = some (vz, dz) → WB p l e rmX12_laysParts s m args below meth c 8 D cy B 0 0 (MQ below (QI D cy B vz g dz) args s 0 0 (wA B)) g a.2.2.2 [(0, .ref (ad B x0)), (1, .int x1), (2, .int a.1), (3, .int a.2.1), (4, .int a.2.2.1)] 39 []) {y2 : Int32} {y3 : Int32} {y4 : Int32} {d : Ds} (hf : fX12_laysParts_B39 N g x0 x1 K39 y2 y3 y4 d = some (vz, dz)) : WB p l e rmX12_laysParts s m args below meth c 8 D cy B 0 0 (MQ below (QI D cy B vz g dz) args s 0 0 (wA B)) g d [(0, .ref (ad B x0)), (1, .int x1), (2, .int y2), (3, .int y3), (4, .int y4)] 39 [] := by
  unfold fX12_laysParts_B39 at hf
  refine b_iload C dX12_laysParts_39 4 rfl ?_
  refine b_aload_n C dX12_laysParts_41 0 rfl rfl ?_
  obtain ⟨h8, hf⟩ := gd_s hf
  obtain ⟨u11, d9, k10, hf⟩ := cb_s hf
  refine b_cVI C [.int y4] dX12_laysParts_42 (kX12_keysMany l D cy B k10) lv_X12_206 ⟨rfl, rfl, Nat.le_of_ble_eq_true rfl, Nat.le_of_ble_eq_true rfl⟩ h8 (by decide) rfl (Nat.le_of_ble_eq_true rfl) ⟨Nat.zero_le _, Nat.zero_le _⟩ rfl ?_
  refine b_icmp_ge C (tgt := 154) dX12_laysParts_45 (by decide) (fun c12 => ?_) (fun c12 => ?_)
  · have hf := it_s c12 hf
    refine b_iload_n C dX12_laysParts_154 3 rfl rfl ?_
    exact b_iret C hr hlocks hf dX12_laysParts_155
  · have hf := if_s c12 hf
    refine b_iload_n C dX12_laysParts_48 1 rfl rfl ?_
    refine b_iload C dX12_laysParts_49 4 rfl ?_
    obtain ⟨u15, d13, k14, hf⟩ := cb_s hf
    refine b_cSI C [] dX12_laysParts_51 (kX12_has l D cy B k14) lv_X12_210 ⟨rfl, rfl, Nat.le_of_ble_eq_true rfl, Nat.le_of_ble_eq_true rfl⟩ rfl (Nat.le_of_ble_eq_true rfl) ⟨Nat.zero_le _, Nat.zero_le _⟩ rfl ?_
    refine b_if_ne C (tgt := 60) dX12_laysParts_54 (by decide) (fun c16 => ?_) (fun c16 => ?_)
    · have hf := if_s c16 hf
      refine b_aload_n C dX12_laysParts_60 0 rfl rfl ?_
      obtain ⟨r17, er17, hf⟩ := ob_s hf
      refine b_gR C dX12_laysParts_61 fl_X12_53 h8 er17 ?_
      refine b_iload C dX12_laysParts_64 4 rfl ?_
      refine b_aload_n C dX12_laysParts_66 0 rfl rfl ?_
      obtain ⟨r18, er18, hf⟩ := ob_s hf
      refine b_gR C dX12_laysParts_67 fl_X12_40 h8 er18 ?_
      refine b_iconst C (v := 1) dX12_laysParts_70 (by decide) ?_
      obtain ⟨h19, hf⟩ := gd_s hf
      obtain ⟨h20, hf⟩ := gd_s hf
      refine b_iald C h19 h20 dX12_laysParts_71 ?_
      obtain ⟨h21, hf⟩ := gd_s hf
      refine b_idiv C dX12_laysParts_72 h21 ?_
      obtain ⟨h22, hf⟩ := gd_s hf
      obtain ⟨h23, hf⟩ := gd_s hf
      refine b_iald C h22 h23 dX12_laysParts_73 ?_
      obtain ⟨u24, eu24, hf⟩ := bd_s hf
      refine b_topI eu24 ?_
      refine b_istore C dX12_laysParts_74 [(5, .int u24), (0, .ref (ad B x0)), (1, .int x1), (2, .int y2), (3, .int y3), (4, .int y4)] (by decide) rfl ?_
      refine b_aload_n C dX12_laysParts_76 1 rfl rfl ?_
      refine b_gR C dX12_laysParts_77 fl_X12_53 h8 er17 ?_
      refine b_aload_n C dX12_laysParts_80 1 rfl rfl ?_
      refine b_gR C dX12_laysParts_81 fl_X12_40 h8 er18 ?_
      refine b_iconst C (v := 0) dX12_laysParts_84 (by decide) ?_
      obtain ⟨h25, hf⟩ := gd_s hf
      refine b_iald C h19 h25 dX12_laysParts_85 ?_
      refine b_iload C dX12_laysParts_86 5 rfl ?_
      refine b_aload_n C dX12_laysParts_88 1 rfl rfl ?_
      refine b_gR C dX12_laysParts_89 fl_X12_40 h8 er18 ?_
      refine b_iconst C (v := 1) dX12_laysParts_92 (by decide) ?_
      refine b_iald C h19 h20 dX12_laysParts_93 ?_
      refine b_irem C dX12_laysParts_94 h21 ?_
      refine b_iadd C dX12_laysParts_95 ?_
      obtain ⟨u26, eu26, hf⟩ := bd_s hf
      refine b_topI eu26 ?_
      obtain ⟨h27, hf⟩ := gd_s hf
      refine b_iald C h22 h27 dX12_laysParts_96 ?_
      obtain ⟨u28, eu28, hf⟩ := bd_s hf
      refine b_topI eu28 ?_
      refine b_istore C dX12_laysParts_97 [(6, .int u28), (5, .int u24), (0, .ref (ad B x0)), (1, .int x1), (2, .int y2), (3, .int y3), (4, .int y4)] (by decide) rfl ?_
      refine b_iload C dX12_laysParts_99 1 rfl ?_
      refine b_iload C dX12_laysParts_101 0 rfl ?_
      refine b_icmp_ne C (tgt := 109) dX12_laysParts_103 (by decide) (fun c29 => ?_) (fun c29 => ?_)
      · have hf := if_s c29 hf
        obtain ⟨u30, eu30, hf⟩ := bd_s hf
        refine b_iinc C dX12_laysParts_109 5 rfl (by rw [eu30]; rfl) [(3, .int u30), (6, .int u28), (5, .int u24), (0, .ref (ad B x0)), (1, .int x1), (2, .int y2), (4, .int y4)] (by decide) rfl ?_
        refine b_iconst C (v := 0) dX12_laysParts_112 (by decide) ?_
        refine b_istore C dX12_laysParts_113 [(7, .int 0), (3, .int u30), (6, .int u28), (5, .int u24), (0, .ref (ad B x0)), (1, .int x1), (2, .int y2), (4, .int y4)] (by decide) rfl ?_
        refine b_sub [(0, .ref (ad B x0)), (1, .int x1), (2, .int y2), (3, .int u30), (4, .int y4), (5, .int u24), (6, .int u28), (7, .int 0)] [4, 5, 6, 1, 7, 3, 2, 0] rfl ?_
        exact tX12_laysParts_L115 C hr hlocks hK39 (y2, u30, y4, u24, u28, 0, d13) hf
      · have hf := it_s c29 hf
        refine b_goto C (tgt := 148) dX12_laysParts_106 (by decide) ?_
        refine b_sub [(0, .ref (ad B x0)), (1, .int x1), (2, .int y2), (3, .int y3), (4, .int y4)] [2, 3, 4, 5, 6] rfl ?_
        exact tX12_laysParts_148 C hr hlocks hK39 hf
    · have hf := it_s c16 hf
      refine b_goto C (tgt := 148) dX12_laysParts_57 (by decide) ?_
      refine b_sub [(0, .ref (ad B x0)), (1, .int x1), (2, .int y2), (3, .int y3), (4, .int y4)] [0, 1, 2, 3, 4] rfl ?_
      exact tX12_laysParts_148 C hr hlocks hK39 hf
def fX12_laysParts_L39 (N : Nat) (g : Gs) (x0 : Nat) (x1 : Int32) : Int32 × Int32 × Int32 × Ds → Option (Int32 × Ds) := lp (fun K39 a => fX12_laysParts_B39 N g x0 x1 K39 a.1 a.2.1 a.2.2.1 a.2.2.2) N
theorem tX12_laysParts_L39 {p : Program} {l : Launch} {e : Env} {s : State} {m : MethodId} {args : Array Value} {below : List Frame} {meth : Method} {c : Code} {D : va_G} {cy : Nat → ClassId} {B : Bs} (C : Cx p s m args c cX12_laysParts 8 RX12 D cy B) (hr : meth.sig.returnType = (some .int)) (hlocks : meth.locks = false) {N : Nat} {g : Gs} {x0 : Nat} {x1 : Int32} {vz : Int32} {dz : Ds} (a : Int32 × Int32 × Int32 × Ds) (hf : fX12_laysParts_L39 N g x0 x1 a = some (vz, dz)) : WB p l e rmX12_laysParts s m args below meth c 8 D cy B 0 0 (MQ below (QI D cy B vz g dz) args s 0 0 (wA B)) g a.2.2.2 [(0, .ref (ad B x0)), (1, .int x1), (2, .int a.1), (3, .int a.2.1), (4, .int a.2.2.1)] 39 [] :=
  lp_w (fun K39 hK39 a ha => tX12_laysParts_39 C hr hlocks hK39 ha) N a hf
set_option maxRecDepth 100000 in
def fX12_laysParts_B16 (N : Nat) (g : Gs) (x0 : Nat) (x1 : Int32) (K16 : Int32 × Int32 × Ds → Option (Int32 × Ds)) (y2 : Int32) (y3 : Int32) (d : Ds) : Option (Int32 × Ds) := if y2 ≤ y3 then (fX12_laysParts_L39 N g x0 x1 (y2, y2, 0, d)) else (gd (chk g x0 11) <| ob (gR g x0 24) fun r41 => (gd (chk g r41 102) <| gd (¬ (y3 < 0 ∨ gL g r41 ≤ y3.toNatClampNeg)) <| bd (sI d r41 y3.toNatClampNeg y3) fun d44 => (bd (y3 + 1) fun u45 => (K16 (y2, u45, d44)))))
set_option maxHeartbeats 4000000 in
set_option maxRecDepth 100000 in
theorem tX12_laysParts_16 {p : Program} {l : Launch} {e : Env} {s : State} {m : MethodId} {args : Array Value} {below : List Frame} {meth : Method} {c : Code} {D : va_G} {cy : Nat → ClassId} {B : Bs} (C : Cx p s m args c cX12_laysParts 8 RX12 D cy B) (hr : meth.sig.returnType = (some .int)) (hlocks : meth.locks = false) {N : Nat} {g : Gs} {x0 : Nat} {x1 : Int32} {vz : Int32} {dz : Ds} {K16 : Int32 × Int32 × Ds → Option (Int32 × Ds)} (hK16 : ∀ a, K16 a = some (vz, dz) → WB p l e rmX12_laysParts s m args below meth c 8 D cy B 0 0 (MQ below (QI D cy B vz g dz) args s 0 0 (wA B)) g a.2.2 [(0, .ref (ad B x0)), (1, .int x1), (2, .int a.1), (3, .int a.2.1)] 16 []) {y2 : Int32} {y3 : Int32} {d : Ds} (hf : fX12_laysParts_B16 N g x0 x1 K16 y2 y3 d = some (vz, dz)) : WB p l e rmX12_laysParts s m args below meth c 8 D cy B 0 0 (MQ below (QI D cy B vz g dz) args s 0 0 (wA B)) g d [(0, .ref (ad B x0)), (1, .int x1), (2, .int y2), (3, .int y3)] 16 [] := by
  unfold fX12_laysParts_B16 at hf
  refine b_iload_n C dX12_laysParts_16 3 rfl rfl ?_
  refine b_iload_n C dX12_laysParts_17 2 rfl rfl ?_
  refine b_icmp_ge C (tgt := 34) dX12_laysParts_18 (by decide) (fun c7 => ?_) (fun c7 => ?_)
  · have hf := it_s c7 hf
    refine b_iload_n C dX12_laysParts_34 2 rfl rfl ?_
    refine b_istore_n C dX12_laysParts_35 rfl [(3, .int y2), (0, .ref (ad B x0)), (1, .int x1), (2, .int y2)] (by decide) rfl ?_
    refine b_iconst C (v := 0) dX12_laysParts_36 (by decide) ?_
    refine b_istore C dX12_laysParts_37 [(4, .int 0), (3, .int y2), (0, .ref (ad B x0)), (1, .int x1), (2, .int y2)] (by decide) rfl ?_
    refine b_sub [(0, .ref (ad B x0)), (1, .int x1), (2, .int y2), (3, .int y2), (4, .int 0)] [2, 3, 4, 1, 0] rfl ?_
    exact tX12_laysParts_L39 C hr hlocks (y2, y2, 0, d) hf
  · have hf := if_s c7 hf
    refine b_aload_n C dX12_laysParts_21 0 rfl rfl ?_
    obtain ⟨h40, hf⟩ := gd_s hf
    obtain ⟨r41, er41, hf⟩ := ob_s hf
    refine b_gR C dX12_laysParts_22 fl_X12_53 h40 er41 ?_
    refine b_iload_n C dX12_laysParts_25 3 rfl rfl ?_
    refine b_iload_n C dX12_laysParts_26 3 rfl rfl ?_
    obtain ⟨h42, hf⟩ := gd_s hf
    obtain ⟨h43, hf⟩ := gd_s hf
    obtain ⟨d44, ed44, hf⟩ := bd_s hf
    refine b_iast C h42 h43 ed44 dX12_laysParts_27 ?_
    obtain ⟨u45, eu45, hf⟩ := bd_s hf
    refine b_iinc C dX12_laysParts_28 3 rfl (by rw [eu45]; rfl) [(3, .int u45), (0, .ref (ad B x0)), (1, .int x1), (2, .int y2)] (by decide) rfl ?_
    refine b_goto C (tgt := 16) dX12_laysParts_31 (by decide) ?_
    refine b_sub [(0, .ref (ad B x0)), (1, .int x1), (2, .int y2), (3, .int u45)] [1, 2, 3, 0] rfl ?_
    exact hK16 (y2, u45, d44) hf
def fX12_laysParts_L16 (N : Nat) (g : Gs) (x0 : Nat) (x1 : Int32) : Int32 × Int32 × Ds → Option (Int32 × Ds) := lp (fun K16 a => fX12_laysParts_B16 N g x0 x1 K16 a.1 a.2.1 a.2.2) N
theorem tX12_laysParts_L16 {p : Program} {l : Launch} {e : Env} {s : State} {m : MethodId} {args : Array Value} {below : List Frame} {meth : Method} {c : Code} {D : va_G} {cy : Nat → ClassId} {B : Bs} (C : Cx p s m args c cX12_laysParts 8 RX12 D cy B) (hr : meth.sig.returnType = (some .int)) (hlocks : meth.locks = false) {N : Nat} {g : Gs} {x0 : Nat} {x1 : Int32} {vz : Int32} {dz : Ds} (a : Int32 × Int32 × Ds) (hf : fX12_laysParts_L16 N g x0 x1 a = some (vz, dz)) : WB p l e rmX12_laysParts s m args below meth c 8 D cy B 0 0 (MQ below (QI D cy B vz g dz) args s 0 0 (wA B)) g a.2.2 [(0, .ref (ad B x0)), (1, .int x1), (2, .int a.1), (3, .int a.2.1)] 16 [] :=
  lp_w (fun K16 hK16 a ha => tX12_laysParts_16 C hr hlocks hK16 ha) N a hf
set_option maxRecDepth 100000 in
def fX12_laysParts (N : Nat) (g : Gs) (x0 : Nat) (x1 : Int32) (d : Ds) : Option (Int32 × Ds) := gd (chk g x0 11) <| ob (gR g x0 17) fun r2 => (gd (chk g r2 102) <| gd (¬ ((0 : Int32) < 0 ∨ gL g r2 ≤ (0 : Int32).toNatClampNeg)) <| gd (¬ ((1 : Int32) < 0 ∨ gL g r2 ≤ (1 : Int32).toNatClampNeg)) <| bd (((dI d r2 (0 : Int32).toNatClampNeg) + (dI d r2 (1 : Int32).toNatClampNeg))) fun u6 => (fX12_laysParts_L16 N g x0 x1 (u6, 0, d)))
set_option maxHeartbeats 4000000 in
set_option maxRecDepth 100000 in
theorem tX12_laysParts_E {p : Program} {l : Launch} {e : Env} {s : State} {m : MethodId} {args : Array Value} {below : List Frame} {meth : Method} {c : Code} {D : va_G} {cy : Nat → ClassId} {B : Bs} (C : Cx p s m args c cX12_laysParts 8 RX12 D cy B) (hr : meth.sig.returnType = (some .int)) (hlocks : meth.locks = false) {N : Nat} {g : Gs} {x0 : Nat} {x1 : Int32} {vz : Int32} {dz : Ds} {d : Ds} (hf : fX12_laysParts N g x0 x1 d = some (vz, dz)) : WB p l e rmX12_laysParts s m args below meth c 8 D cy B 0 0 (MQ below (QI D cy B vz g dz) args s 0 0 (wA B)) g d [(0, .ref (ad B x0)), (1, .int x1)] 0 [] := by
  unfold fX12_laysParts at hf
  refine b_aload_n C dX12_laysParts_0 0 rfl rfl ?_
  obtain ⟨h1, hf⟩ := gd_s hf
  obtain ⟨r2, er2, hf⟩ := ob_s hf
  refine b_gR C dX12_laysParts_1 fl_X12_40 h1 er2 ?_
  refine b_iconst C (v := 0) dX12_laysParts_4 (by decide) ?_
  obtain ⟨h3, hf⟩ := gd_s hf
  obtain ⟨h4, hf⟩ := gd_s hf
  refine b_iald C h3 h4 dX12_laysParts_5 ?_
  refine b_aload_n C dX12_laysParts_6 0 rfl rfl ?_
  refine b_gR C dX12_laysParts_7 fl_X12_40 h1 er2 ?_
  refine b_iconst C (v := 1) dX12_laysParts_10 (by decide) ?_
  obtain ⟨h5, hf⟩ := gd_s hf
  refine b_iald C h3 h5 dX12_laysParts_11 ?_
  refine b_iadd C dX12_laysParts_12 ?_
  obtain ⟨u6, eu6, hf⟩ := bd_s hf
  refine b_topI eu6 ?_
  refine b_istore_n C dX12_laysParts_13 rfl [(2, .int u6), (0, .ref (ad B x0)), (1, .int x1)] (by decide) rfl ?_
  refine b_iconst C (v := 0) dX12_laysParts_14 (by decide) ?_
  refine b_istore_n C dX12_laysParts_15 rfl [(3, .int 0), (2, .int u6), (0, .ref (ad B x0)), (1, .int x1)] (by decide) rfl ?_
  refine b_sub [(0, .ref (ad B x0)), (1, .int x1), (2, .int u6), (3, .int 0)] [2, 3, 1, 0] rfl ?_
  exact tX12_laysParts_L16 C hr hlocks (u6, 0, d) hf
theorem kX12_laysParts (l : Launch) (D : va_G) (cy : Nat → ClassId) (B : Bs) {N : Nat} {g : Gs} {x0 : Nat} {x1 : Int32} {vz : Int32} {dz : Ds} {d : Ds} (hf : fX12_laysParts N g x0 x1 d = some (vz, dz)) : Met l yX12_laysParts (.code yX12_laysParts cX12_laysParts 8 (some .int) :: wl) rmX12_laysParts (PC D cy B [.ref (ad B x0), .int x1] g d) (QI D cy B vz g dz) 0 0 (wA B) :=
  met_of (by decide +kernel) (Nat.le_of_ble_eq_true rfl) (fun p e s m args below meth c C hr hlocks _ => b_sub [(0, .ref (ad B x0)), (1, .int x1)] [0, 1] rfl (tX12_laysParts_E C hr hlocks hf))
/-! KeyMatrixModel.seenBy(I)I -/
theorem yo_X12_laysParts : yX12_laysParts.cls ≠ "java/lang/invoke/MethodHandle" ∧ yX12_laysParts.cls ≠ "java/lang/invoke/VarHandle" ∧ (parseMethodDescriptor yX12_laysParts.desc).map (fun d => d.parameters.length) = some 1 := by decide +kernel
theorem co_X12_laysParts : Cond.code yX12_laysParts cX12_laysParts 8 (some .int) ∈ wl := mW (mT6 (List.mem_of_getElem? (i := 88) (by decide +kernel))) rfl
theorem in_X12_laysParts : Cond.initialized yX12_laysParts.cls ∈ wl := mW (mT1 (List.mem_of_getElem? (i := 12) (by decide +kernel))) rfl
theorem im_X12_laysParts : Cond.instanceMethod yX12_laysParts ∈ wl := mW (mT6 (List.mem_of_getElem? (i := 87) (by decide +kernel))) rfl
theorem se_X12_laysParts : Cond.selects yX12_laysParts.cls yX12_laysParts yX12_laysParts ∈ wl := mW (mT0 (List.mem_of_getElem? (i := 56) (by decide +kernel))) rfl
theorem lv_X12_214 : LV RX12 214 yX12_laysParts cX12_laysParts 8 (some .int) 1 11 := ⟨⟨(RX12, TX12, 33), rfl, rfl⟩, yo_X12_laysParts, mW (mT6 (List.mem_of_getElem? (i := 85) (by decide +kernel))) rfl, im_X12_laysParts, se_X12_laysParts, in_X12_laysParts, co_X12_laysParts⟩
theorem dX12_seenBy_0 : decode cX12_seenBy 0 = .ok (.aload_n 0, 1) := by decide +kernel
theorem dX12_seenBy_1 : decode cX12_seenBy 1 = .ok (.getfield 40, 3) := by decide +kernel
theorem dX12_seenBy_4 : decode cX12_seenBy 4 = .ok (.iconst 2, 1) := by decide +kernel
theorem dX12_seenBy_5 : decode cX12_seenBy 5 = .ok (.iaload, 1) := by decide +kernel
theorem dX12_seenBy_6 : decode cX12_seenBy 6 = .ok (.iconst 1, 1) := by decide +kernel
theorem dX12_seenBy_7 : decode cX12_seenBy 7 = .ok (.if_icmp .ne 5, 3) := by decide +kernel
theorem dX12_seenBy_10 : decode cX12_seenBy 10 = .ok (.iload_n 1, 1) := by decide +kernel
theorem dX12_seenBy_11 : decode cX12_seenBy 11 = .ok (.ireturn, 1) := by decide +kernel
theorem dX12_seenBy_12 : decode cX12_seenBy 12 = .ok (.aload_n 0, 1) := by decide +kernel
theorem dX12_seenBy_13 : decode cX12_seenBy 13 = .ok (.iload_n 1, 1) := by decide +kernel
theorem dX12_seenBy_14 : decode cX12_seenBy 14 = .ok (.invokevirtual 214, 3) := by decide +kernel
theorem dX12_seenBy_17 : decode cX12_seenBy 17 = .ok (.istore_n 2, 1) := by decide +kernel
theorem dX12_seenBy_18 : decode cX12_seenBy 18 = .ok (.iconst 0, 1) := by decide +kernel
theorem dX12_seenBy_19 : decode cX12_seenBy 19 = .ok (.istore_n 3, 1) := by decide +kernel
theorem dX12_seenBy_20 : decode cX12_seenBy 20 = .ok (.iconst 0, 1) := by decide +kernel
theorem dX12_seenBy_21 : decode cX12_seenBy 21 = .ok (.istore 4, 2) := by decide +kernel
theorem dX12_seenBy_23 : decode cX12_seenBy 23 = .ok (.iload 4, 2) := by decide +kernel
theorem dX12_seenBy_25 : decode cX12_seenBy 25 = .ok (.aload_n 0, 1) := by decide +kernel
theorem dX12_seenBy_26 : decode cX12_seenBy 26 = .ok (.invokevirtual 206, 3) := by decide +kernel
theorem dX12_seenBy_29 : decode cX12_seenBy 29 = .ok (.if_icmp .ge 54, 3) := by decide +kernel
theorem dX12_seenBy_32 : decode cX12_seenBy 32 = .ok (.aload_n 0, 1) := by decide +kernel
theorem dX12_seenBy_33 : decode cX12_seenBy 33 = .ok (.getfield 53, 3) := by decide +kernel
theorem dX12_seenBy_36 : decode cX12_seenBy 36 = .ok (.iload 4, 2) := by decide +kernel
theorem dX12_seenBy_38 : decode cX12_seenBy 38 = .ok (.aload_n 0, 1) := by decide +kernel
theorem dX12_seenBy_39 : decode cX12_seenBy 39 = .ok (.getfield 40, 3) := by decide +kernel
theorem dX12_seenBy_42 : decode cX12_seenBy 42 = .ok (.iconst 1, 1) := by decide +kernel
theorem dX12_seenBy_43 : decode cX12_seenBy 43 = .ok (.iaload, 1) := by decide +kernel
theorem dX12_seenBy_44 : decode cX12_seenBy 44 = .ok (.idiv, 1) := by decide +kernel
theorem dX12_seenBy_45 : decode cX12_seenBy 45 = .ok (.iaload, 1) := by decide +kernel
theorem dX12_seenBy_46 : decode cX12_seenBy 46 = .ok (.aload_n 0, 1) := by decide +kernel
theorem dX12_seenBy_47 : decode cX12_seenBy 47 = .ok (.getfield 53, 3) := by decide +kernel
theorem dX12_seenBy_50 : decode cX12_seenBy 50 = .ok (.aload_n 0, 1) := by decide +kernel
theorem dX12_seenBy_51 : decode cX12_seenBy 51 = .ok (.getfield 40, 3) := by decide +kernel
theorem dX12_seenBy_54 : decode cX12_seenBy 54 = .ok (.iconst 0, 1) := by decide +kernel
theorem dX12_seenBy_55 : decode cX12_seenBy 55 = .ok (.iaload, 1) := by decide +kernel
theorem dX12_seenBy_56 : decode cX12_seenBy 56 = .ok (.iload 4, 2) := by decide +kernel
theorem dX12_seenBy_58 : decode cX12_seenBy 58 = .ok (.aload_n 0, 1) := by decide +kernel
theorem dX12_seenBy_59 : decode cX12_seenBy 59 = .ok (.getfield 40, 3) := by decide +kernel
theorem dX12_seenBy_62 : decode cX12_seenBy 62 = .ok (.iconst 1, 1) := by decide +kernel
theorem dX12_seenBy_63 : decode cX12_seenBy 63 = .ok (.iaload, 1) := by decide +kernel
theorem dX12_seenBy_64 : decode cX12_seenBy 64 = .ok (.irem, 1) := by decide +kernel
theorem dX12_seenBy_65 : decode cX12_seenBy 65 = .ok (.iadd, 1) := by decide +kernel
theorem dX12_seenBy_66 : decode cX12_seenBy 66 = .ok (.iaload, 1) := by decide +kernel
theorem dX12_seenBy_67 : decode cX12_seenBy 67 = .ok (.if_icmp .ne 10, 3) := by decide +kernel
theorem dX12_seenBy_70 : decode cX12_seenBy 70 = .ok (.iload_n 3, 1) := by decide +kernel
theorem dX12_seenBy_71 : decode cX12_seenBy 71 = .ok (.iconst 1, 1) := by decide +kernel
theorem dX12_seenBy_72 : decode cX12_seenBy 72 = .ok (.iload 4, 2) := by decide +kernel
theorem dX12_seenBy_74 : decode cX12_seenBy 74 = .ok (.ishl, 1) := by decide +kernel
theorem dX12_seenBy_75 : decode cX12_seenBy 75 = .ok (.ior, 1) := by decide +kernel
theorem dX12_seenBy_76 : decode cX12_seenBy 76 = .ok (.istore_n 3, 1) := by decide +kernel
theorem dX12_seenBy_77 : decode cX12_seenBy 77 = .ok (.iinc 4 1, 3) := by decide +kernel
theorem dX12_seenBy_80 : decode cX12_seenBy 80 = .ok (.goto (-57), 3) := by decide +kernel
theorem dX12_seenBy_83 : decode cX12_seenBy 83 = .ok (.iload_n 3, 1) := by decide +kernel
theorem dX12_seenBy_84 : decode cX12_seenBy 84 = .ok (.ireturn, 1) := by decide +kernel
def rmX12_seenBy : Room := { frames := 2, cells := 0, slots := 0, locals := 48 }
set_option maxRecDepth 100000 in
def fX12_seenBy_J77 (N : Nat) (g : Gs) (x0 : Nat) (x1 : Int32) (K23 : Int32 × Int32 × Ds → Option (Int32 × Ds)) (y3 : Int32) (y4 : Int32) (d : Ds) : Option (Int32 × Ds) := bd (y4 + 1) fun u25 => (K23 (y3, u25, d))
set_option maxHeartbeats 4000000 in
set_option maxRecDepth 100000 in
theorem tX12_seenBy_77 {p : Program} {l : Launch} {e : Env} {s : State} {m : MethodId} {args : Array Value} {below : List Frame} {meth : Method} {c : Code} {D : va_G} {cy : Nat → ClassId} {B : Bs} (C : Cx p s m args c cX12_seenBy 5 RX12 D cy B) (hr : meth.sig.returnType = (some .int)) (hlocks : meth.locks = false) {N : Nat} {g : Gs} {x0 : Nat} {x1 : Int32} {vz : Int32} {dz : Ds} {K23 : Int32 × Int32 × Ds → Option (Int32 × Ds)} (hK23 : ∀ a, K23 a = some (vz, dz) → WB p l e rmX12_seenBy s m args below meth c 5 D cy B 0 0 (MQ below (QI D cy B vz g dz) args s 0 0 (wA B)) g a.2.2 [(0, .ref (ad B x0)), (1, .int x1), (3, .int a.1), (4, .int a.2.1)] 23 []) {y3 : Int32} {y4 : Int32} {d : Ds} (hf : fX12_seenBy_J77 N g x0 x1 K23 y3 y4 d = some (vz, dz)) : WB p l e rmX12_seenBy s m args below meth c 5 D cy B 0 0 (MQ below (QI D cy B vz g dz) args s 0 0 (wA B)) g d [(0, .ref (ad B x0)), (1, .int x1), (3, .int y3), (4, .int y4)] 77 [] := by
  unfold fX12_seenBy_J77 at hf
  obtain ⟨u25, eu25, hf⟩ := bd_s hf
  refine b_iinc C dX12_seenBy_77 3 rfl (by rw [eu25]; rfl) [(4, .int u25), (0, .ref (ad B x0)), (1, .int x1), (3, .int y3)] (by decide) rfl ?_
  refine b_goto C (tgt := 23) dX12_seenBy_80 (by decide) ?_
  refine b_sub [(0, .ref (ad B x0)), (1, .int x1), (3, .int y3), (4, .int u25)] [1, 2, 3, 0] rfl ?_
  exact hK23 (y3, u25, d) hf
set_option maxRecDepth 100000 in
def fX12_seenBy_B23 (N : Nat) (g : Gs) (x0 : Nat) (x1 : Int32) (K23 : Int32 × Int32 × Ds → Option (Int32 × Ds)) (y3 : Int32) (y4 : Int32) (d : Ds) : Option (Int32 × Ds) := gd (chk g x0 11) <| cb (fX12_keysMany N g x0 d) fun u12 d10 => (if u12 ≤ y4 then (some (y3, d10)) else (ob (gR g x0 24) fun r14 => (ob (gR g x0 17) fun r15 => (gd (chk g r15 102) <| gd (¬ ((1 : Int32) < 0 ∨ gL g r15 ≤ (1 : Int32).toNatClampNeg)) <| gd (¬ (dI d10 r15 (1 : Int32).toNatClampNeg) = 0) <| gd (chk g r14 102) <| gd (¬ ((y4 / (dI d10 r15 (1 : Int32).toNatClampNeg)) < 0 ∨ gL g r14 ≤ (y4 / (dI d10 r15 (1 : Int32).toNatClampNeg)).toNatClampNeg)) <| gd (¬ ((0 : Int32) < 0 ∨ gL g r15 ≤ (0 : Int32).toNatClampNeg)) <| bd ((dI d10 r15 (0 : Int32).toNatClampNeg) + (y4 - y4 / (dI d10 r15 (1 : Int32).toNatClampNeg) * (dI d10 r15 (1 : Int32).toNatClampNeg))) fun u22 => (gd (¬ (u22 < 0 ∨ gL g r14 ≤ u22.toNatClampNeg)) <| if (dI d10 r14 (y4 / (dI d10 r15 (1 : Int32).toNatClampNeg)).toNatClampNeg) = (dI d10 r14 u22.toNatClampNeg) then (bd ((y3 ||| ((1 : Int32) <<< (y4 &&& 31)))) fun u26 => (fX12_seenBy_J77 N g x0 x1 K23 u26 y4 d10)) else (fX12_seenBy_J77 N g x0 x1 K23 y3 y4 d10))))))
set_option maxHeartbeats 4000000 in
set_option maxRecDepth 100000 in
theorem tX12_seenBy_23 {p : Program} {l : Launch} {e : Env} {s : State} {m : MethodId} {args : Array Value} {below : List Frame} {meth : Method} {c : Code} {D : va_G} {cy : Nat → ClassId} {B : Bs} (C : Cx p s m args c cX12_seenBy 5 RX12 D cy B) (hr : meth.sig.returnType = (some .int)) (hlocks : meth.locks = false) {N : Nat} {g : Gs} {x0 : Nat} {x1 : Int32} {vz : Int32} {dz : Ds} {K23 : Int32 × Int32 × Ds → Option (Int32 × Ds)} (hK23 : ∀ a, K23 a = some (vz, dz) → WB p l e rmX12_seenBy s m args below meth c 5 D cy B 0 0 (MQ below (QI D cy B vz g dz) args s 0 0 (wA B)) g a.2.2 [(0, .ref (ad B x0)), (1, .int x1), (3, .int a.1), (4, .int a.2.1)] 23 []) {y3 : Int32} {y4 : Int32} {d : Ds} (hf : fX12_seenBy_B23 N g x0 x1 K23 y3 y4 d = some (vz, dz)) : WB p l e rmX12_seenBy s m args below meth c 5 D cy B 0 0 (MQ below (QI D cy B vz g dz) args s 0 0 (wA B)) g d [(0, .ref (ad B x0)), (1, .int x1), (3, .int y3), (4, .int y4)] 23 [] := by
  unfold fX12_seenBy_B23 at hf
  refine b_iload C dX12_seenBy_23 3 rfl ?_
  refine b_aload_n C dX12_seenBy_25 0 rfl rfl ?_
  obtain ⟨h9, hf⟩ := gd_s hf
  obtain ⟨u12, d10, k11, hf⟩ := cb_s hf
  refine b_cVI C [.int y4] dX12_seenBy_26 (kX12_keysMany l D cy B k11) lv_X12_206 ⟨rfl, rfl, Nat.le_of_ble_eq_true rfl, Nat.le_of_ble_eq_true rfl⟩ h9 (by decide) rfl (Nat.le_of_ble_eq_true rfl) ⟨Nat.zero_le _, Nat.zero_le _⟩ rfl ?_
  refine b_icmp_ge C (tgt := 83) dX12_seenBy_29 (by decide) (fun c13 => ?_) (fun c13 => ?_)
  · have hf := it_s c13 hf
    refine b_iload_n C dX12_seenBy_83 2 rfl rfl ?_
    exact b_iret C hr hlocks hf dX12_seenBy_84
  · have hf := if_s c13 hf
    refine b_aload_n C dX12_seenBy_32 0 rfl rfl ?_
    obtain ⟨r14, er14, hf⟩ := ob_s hf
    refine b_gR C dX12_seenBy_33 fl_X12_53 h9 er14 ?_
    refine b_iload C dX12_seenBy_36 3 rfl ?_
    refine b_aload_n C dX12_seenBy_38 0 rfl rfl ?_
    obtain ⟨r15, er15, hf⟩ := ob_s hf
    refine b_gR C dX12_seenBy_39 fl_X12_40 h9 er15 ?_
    refine b_iconst C (v := 1) dX12_seenBy_42 (by decide) ?_
    obtain ⟨h16, hf⟩ := gd_s hf
    obtain ⟨h17, hf⟩ := gd_s hf
    refine b_iald C h16 h17 dX12_seenBy_43 ?_
    obtain ⟨h18, hf⟩ := gd_s hf
    refine b_idiv C dX12_seenBy_44 h18 ?_
    obtain ⟨h19, hf⟩ := gd_s hf
    obtain ⟨h20, hf⟩ := gd_s hf
    refine b_iald C h19 h20 dX12_seenBy_45 ?_
    refine b_aload_n C dX12_seenBy_46 0 rfl rfl ?_
    refine b_gR C dX12_seenBy_47 fl_X12_53 h9 er14 ?_
    refine b_aload_n C dX12_seenBy_50 0 rfl rfl ?_
    refine b_gR C dX12_seenBy_51 fl_X12_40 h9 er15 ?_
    refine b_iconst C (v := 0) dX12_seenBy_54 (by decide) ?_
    obtain ⟨h21, hf⟩ := gd_s hf
    refine b_iald C h16 h21 dX12_seenBy_55 ?_
    refine b_iload C dX12_seenBy_56 3 rfl ?_
    refine b_aload_n C dX12_seenBy_58 0 rfl rfl ?_
    refine b_gR C dX12_seenBy_59 fl_X12_40 h9 er15 ?_
    refine b_iconst C (v := 1) dX12_seenBy_62 (by decide) ?_
    refine b_iald C h16 h17 dX12_seenBy_63 ?_
    refine b_irem C dX12_seenBy_64 h18 ?_
    refine b_iadd C dX12_seenBy_65 ?_
    obtain ⟨u22, eu22, hf⟩ := bd_s hf
    refine b_topI eu22 ?_
    obtain ⟨h23, hf⟩ := gd_s hf
    refine b_iald C h19 h23 dX12_seenBy_66 ?_
    refine b_icmp_ne C (tgt := 77) dX12_seenBy_67 (by decide) (fun c24 => ?_) (fun c24 => ?_)
    · have hf := if_s c24 hf
      refine b_sub [(0, .ref (ad B x0)), (1, .int x1), (3, .int y3), (4, .int y4)] [0, 1, 2, 3] rfl ?_
      exact tX12_seenBy_77 C hr hlocks hK23 hf
    · have hf := it_s c24 hf
      refine b_iload_n C dX12_seenBy_70 2 rfl rfl ?_
      refine b_iconst C (v := 1) dX12_seenBy_71 (by decide) ?_
      refine b_iload C dX12_seenBy_72 3 rfl ?_
      refine b_ishl C dX12_seenBy_74 ?_
      refine b_ior C dX12_seenBy_75 ?_
      obtain ⟨u26, eu26, hf⟩ := bd_s hf
      refine b_topI eu26 ?_
      refine b_istore_n C dX12_seenBy_76 rfl [(3, .int u26), (0, .ref (ad B x0)), (1, .int x1), (4, .int y4)] (by decide) rfl ?_
      refine b_sub [(0, .ref (ad B x0)), (1, .int x1), (3, .int u26), (4, .int y4)] [1, 2, 0, 3] rfl ?_
      exact tX12_seenBy_77 C hr hlocks hK23 hf
def fX12_seenBy_L23 (N : Nat) (g : Gs) (x0 : Nat) (x1 : Int32) : Int32 × Int32 × Ds → Option (Int32 × Ds) := lp (fun K23 a => fX12_seenBy_B23 N g x0 x1 K23 a.1 a.2.1 a.2.2) N
theorem tX12_seenBy_L23 {p : Program} {l : Launch} {e : Env} {s : State} {m : MethodId} {args : Array Value} {below : List Frame} {meth : Method} {c : Code} {D : va_G} {cy : Nat → ClassId} {B : Bs} (C : Cx p s m args c cX12_seenBy 5 RX12 D cy B) (hr : meth.sig.returnType = (some .int)) (hlocks : meth.locks = false) {N : Nat} {g : Gs} {x0 : Nat} {x1 : Int32} {vz : Int32} {dz : Ds} (a : Int32 × Int32 × Ds) (hf : fX12_seenBy_L23 N g x0 x1 a = some (vz, dz)) : WB p l e rmX12_seenBy s m args below meth c 5 D cy B 0 0 (MQ below (QI D cy B vz g dz) args s 0 0 (wA B)) g a.2.2 [(0, .ref (ad B x0)), (1, .int x1), (3, .int a.1), (4, .int a.2.1)] 23 [] :=
  lp_w (fun K23 hK23 a ha => tX12_seenBy_23 C hr hlocks hK23 ha) N a hf
set_option maxRecDepth 100000 in
def fX12_seenBy (N : Nat) (g : Gs) (x0 : Nat) (x1 : Int32) (d : Ds) : Option (Int32 × Ds) := gd (chk g x0 11) <| ob (gR g x0 17) fun r2 => (gd (chk g r2 102) <| gd (¬ ((2 : Int32) < 0 ∨ gL g r2 ≤ (2 : Int32).toNatClampNeg)) <| if (dI d r2 (2 : Int32).toNatClampNeg) = (1 : Int32) then (some (x1, d)) else (cb (fX12_laysParts N g x0 x1 d) fun u8 d6 => (fX12_seenBy_L23 N g x0 x1 (0, 0, d6))))
set_option maxHeartbeats 4000000 in
set_option maxRecDepth 100000 in
theorem tX12_seenBy_E {p : Program} {l : Launch} {e : Env} {s : State} {m : MethodId} {args : Array Value} {below : List Frame} {meth : Method} {c : Code} {D : va_G} {cy : Nat → ClassId} {B : Bs} (C : Cx p s m args c cX12_seenBy 5 RX12 D cy B) (hr : meth.sig.returnType = (some .int)) (hlocks : meth.locks = false) {N : Nat} {g : Gs} {x0 : Nat} {x1 : Int32} {vz : Int32} {dz : Ds} {d : Ds} (hf : fX12_seenBy N g x0 x1 d = some (vz, dz)) : WB p l e rmX12_seenBy s m args below meth c 5 D cy B 0 0 (MQ below (QI D cy B vz g dz) args s 0 0 (wA B)) g d [(0, .ref (ad B x0)), (1, .int x1)] 0 [] := by
  unfold fX12_seenBy at hf
  refine b_aload_n C dX12_seenBy_0 0 rfl rfl ?_
  obtain ⟨h1, hf⟩ := gd_s hf
  obtain ⟨r2, er2, hf⟩ := ob_s hf
  refine b_gR C dX12_seenBy_1 fl_X12_40 h1 er2 ?_
  refine b_iconst C (v := 2) dX12_seenBy_4 (by decide) ?_
  obtain ⟨h3, hf⟩ := gd_s hf
  obtain ⟨h4, hf⟩ := gd_s hf
  refine b_iald C h3 h4 dX12_seenBy_5 ?_
  refine b_iconst C (v := 1) dX12_seenBy_6 (by decide) ?_
  refine b_icmp_ne C (tgt := 12) dX12_seenBy_7 (by decide) (fun c5 => ?_) (fun c5 => ?_)
  · have hf := if_s c5 hf
    refine b_aload_n C dX12_seenBy_12 0 rfl rfl ?_
    refine b_iload_n C dX12_seenBy_13 1 rfl rfl ?_
    obtain ⟨u8, d6, k7, hf⟩ := cb_s hf
    refine b_cVI C [] dX12_seenBy_14 (kX12_laysParts l D cy B k7) lv_X12_214 ⟨rfl, rfl, Nat.le_of_ble_eq_true rfl, Nat.le_of_ble_eq_true rfl⟩ h1 (by decide) rfl (Nat.le_of_ble_eq_true rfl) ⟨Nat.zero_le _, Nat.zero_le _⟩ rfl ?_
    refine b_istore_n C dX12_seenBy_17 rfl [(2, .int u8), (0, .ref (ad B x0)), (1, .int x1)] (by decide) rfl ?_
    refine b_iconst C (v := 0) dX12_seenBy_18 (by decide) ?_
    refine b_istore_n C dX12_seenBy_19 rfl [(3, .int 0), (2, .int u8), (0, .ref (ad B x0)), (1, .int x1)] (by decide) rfl ?_
    refine b_iconst C (v := 0) dX12_seenBy_20 (by decide) ?_
    refine b_istore C dX12_seenBy_21 [(4, .int 0), (3, .int 0), (2, .int u8), (0, .ref (ad B x0)), (1, .int x1)] (by decide) rfl ?_
    refine b_sub [(0, .ref (ad B x0)), (1, .int x1), (3, .int 0), (4, .int 0)] [3, 4, 1, 0] rfl ?_
    exact tX12_seenBy_L23 C hr hlocks (0, 0, d6) hf
  · have hf := it_s c5 hf
    refine b_iload_n C dX12_seenBy_10 1 rfl rfl ?_
    exact b_iret C hr hlocks hf dX12_seenBy_11
theorem kX12_seenBy (l : Launch) (D : va_G) (cy : Nat → ClassId) (B : Bs) {N : Nat} {g : Gs} {x0 : Nat} {x1 : Int32} {vz : Int32} {dz : Ds} {d : Ds} (hf : fX12_seenBy N g x0 x1 d = some (vz, dz)) : Met l yX12_seenBy (.code yX12_seenBy cX12_seenBy 5 (some .int) :: wl) rmX12_seenBy (PC D cy B [.ref (ad B x0), .int x1] g d) (QI D cy B vz g dz) 0 0 (wA B) :=
  met_of (by decide +kernel) (Nat.le_of_ble_eq_true rfl) (fun p e s m args below meth c C hr hlocks _ => b_sub [(0, .ref (ad B x0)), (1, .int x1)] [0, 1] rfl (tX12_seenBy_E C hr hlocks hf))
/-! KeyMatrixModel.isCornered(III)Z -/
theorem dX12_isCornered_0 : decode cX12_isCornered 0 = .ok (.aload_n 0, 1) := by decide +kernel
theorem dX12_isCornered_1 : decode cX12_isCornered 1 = .ok (.getfield 40, 3) := by decide +kernel
theorem dX12_isCornered_4 : decode cX12_isCornered 4 = .ok (.iconst 1, 1) := by decide +kernel
theorem dX12_isCornered_5 : decode cX12_isCornered 5 = .ok (.iaload, 1) := by decide +kernel
theorem dX12_isCornered_6 : decode cX12_isCornered 6 = .ok (.istore 4, 2) := by decide +kernel
theorem dX12_isCornered_8 : decode cX12_isCornered 8 = .ok (.iconst 0, 1) := by decide +kernel
theorem dX12_isCornered_9 : decode cX12_isCornered 9 = .ok (.istore 5, 2) := by decide +kernel
theorem dX12_isCornered_11 : decode cX12_isCornered 11 = .ok (.iload 5, 2) := by decide +kernel
theorem dX12_isCornered_13 : decode cX12_isCornered 13 = .ok (.aload_n 0, 1) := by decide +kernel
theorem dX12_isCornered_14 : decode cX12_isCornered 14 = .ok (.getfield 40, 3) := by decide +kernel
theorem dX12_isCornered_17 : decode cX12_isCornered 17 = .ok (.iconst 0, 1) := by decide +kernel
theorem dX12_isCornered_18 : decode cX12_isCornered 18 = .ok (.iaload, 1) := by decide +kernel
theorem dX12_isCornered_19 : decode cX12_isCornered 19 = .ok (.if_icmp .ge 98, 3) := by decide +kernel
theorem dX12_isCornered_22 : decode cX12_isCornered 22 = .ok (.iconst 0, 1) := by decide +kernel
theorem dX12_isCornered_23 : decode cX12_isCornered 23 = .ok (.istore 6, 2) := by decide +kernel
theorem dX12_isCornered_25 : decode cX12_isCornered 25 = .ok (.iload 6, 2) := by decide +kernel
theorem dX12_isCornered_27 : decode cX12_isCornered 27 = .ok (.iload 4, 2) := by decide +kernel
theorem dX12_isCornered_29 : decode cX12_isCornered 29 = .ok (.if_icmp .ge 82, 3) := by decide +kernel
theorem dX12_isCornered_32 : decode cX12_isCornered 32 = .ok (.iload 5, 2) := by decide +kernel
theorem dX12_isCornered_34 : decode cX12_isCornered 34 = .ok (.iload_n 2, 1) := by decide +kernel
theorem dX12_isCornered_35 : decode cX12_isCornered 35 = .ok (.if_icmp .eq 70, 3) := by decide +kernel
theorem dX12_isCornered_38 : decode cX12_isCornered 38 = .ok (.iload 6, 2) := by decide +kernel
theorem dX12_isCornered_40 : decode cX12_isCornered 40 = .ok (.iload_n 3, 1) := by decide +kernel
theorem dX12_isCornered_41 : decode cX12_isCornered 41 = .ok (.if_icmp .ne 6, 3) := by decide +kernel
theorem dX12_isCornered_44 : decode cX12_isCornered 44 = .ok (.goto 61, 3) := by decide +kernel
theorem dX12_isCornered_47 : decode cX12_isCornered 47 = .ok (.iload_n 1, 1) := by decide +kernel
theorem dX12_isCornered_48 : decode cX12_isCornered 48 = .ok (.iload 4, 2) := by decide +kernel
theorem dX12_isCornered_50 : decode cX12_isCornered 50 = .ok (.iload_n 2, 1) := by decide +kernel
theorem dX12_isCornered_51 : decode cX12_isCornered 51 = .ok (.imul, 1) := by decide +kernel
theorem dX12_isCornered_52 : decode cX12_isCornered 52 = .ok (.iload_n 3, 1) := by decide +kernel
theorem dX12_isCornered_53 : decode cX12_isCornered 53 = .ok (.iadd, 1) := by decide +kernel
theorem dX12_isCornered_54 : decode cX12_isCornered 54 = .ok (.invokestatic 210, 3) := by decide +kernel
theorem dX12_isCornered_57 : decode cX12_isCornered 57 = .ok (.ifCond .eq 48, 3) := by decide +kernel
theorem dX12_isCornered_60 : decode cX12_isCornered 60 = .ok (.iload_n 1, 1) := by decide +kernel
theorem dX12_isCornered_61 : decode cX12_isCornered 61 = .ok (.iload 4, 2) := by decide +kernel
theorem dX12_isCornered_63 : decode cX12_isCornered 63 = .ok (.iload_n 2, 1) := by decide +kernel
theorem dX12_isCornered_64 : decode cX12_isCornered 64 = .ok (.imul, 1) := by decide +kernel
theorem dX12_isCornered_65 : decode cX12_isCornered 65 = .ok (.iload 6, 2) := by decide +kernel
theorem dX12_isCornered_67 : decode cX12_isCornered 67 = .ok (.iadd, 1) := by decide +kernel
theorem dX12_isCornered_68 : decode cX12_isCornered 68 = .ok (.invokestatic 210, 3) := by decide +kernel
theorem dX12_isCornered_71 : decode cX12_isCornered 71 = .ok (.ifCond .eq 34, 3) := by decide +kernel
theorem dX12_isCornered_74 : decode cX12_isCornered 74 = .ok (.iload_n 1, 1) := by decide +kernel
theorem dX12_isCornered_75 : decode cX12_isCornered 75 = .ok (.iload 4, 2) := by decide +kernel
theorem dX12_isCornered_77 : decode cX12_isCornered 77 = .ok (.iload 5, 2) := by decide +kernel
theorem dX12_isCornered_79 : decode cX12_isCornered 79 = .ok (.imul, 1) := by decide +kernel
theorem dX12_isCornered_80 : decode cX12_isCornered 80 = .ok (.iload_n 3, 1) := by decide +kernel
theorem dX12_isCornered_81 : decode cX12_isCornered 81 = .ok (.iadd, 1) := by decide +kernel
theorem dX12_isCornered_82 : decode cX12_isCornered 82 = .ok (.invokestatic 210, 3) := by decide +kernel
theorem dX12_isCornered_85 : decode cX12_isCornered 85 = .ok (.ifCond .eq 20, 3) := by decide +kernel
theorem dX12_isCornered_88 : decode cX12_isCornered 88 = .ok (.iload_n 1, 1) := by decide +kernel
theorem dX12_isCornered_89 : decode cX12_isCornered 89 = .ok (.iload 4, 2) := by decide +kernel
theorem dX12_isCornered_91 : decode cX12_isCornered 91 = .ok (.iload 5, 2) := by decide +kernel
theorem dX12_isCornered_93 : decode cX12_isCornered 93 = .ok (.imul, 1) := by decide +kernel
theorem dX12_isCornered_94 : decode cX12_isCornered 94 = .ok (.iload 6, 2) := by decide +kernel
theorem dX12_isCornered_96 : decode cX12_isCornered 96 = .ok (.iadd, 1) := by decide +kernel
theorem dX12_isCornered_97 : decode cX12_isCornered 97 = .ok (.invokestatic 210, 3) := by decide +kernel
theorem dX12_isCornered_100 : decode cX12_isCornered 100 = .ok (.ifCond .eq 5, 3) := by decide +kernel
theorem dX12_isCornered_103 : decode cX12_isCornered 103 = .ok (.iconst 1, 1) := by decide +kernel
theorem dX12_isCornered_104 : decode cX12_isCornered 104 = .ok (.ireturn, 1) := by decide +kernel
theorem dX12_isCornered_105 : decode cX12_isCornered 105 = .ok (.iinc 6 1, 3) := by decide +kernel
theorem dX12_isCornered_108 : decode cX12_isCornered 108 = .ok (.goto (-83), 3) := by decide +kernel
theorem dX12_isCornered_111 : decode cX12_isCornered 111 = .ok (.iinc 5 1, 3) := by decide +kernel
theorem dX12_isCornered_114 : decode cX12_isCornered 114 = .ok (.goto (-103), 3) := by decide +kernel
theorem dX12_isCornered_117 : decode cX12_isCornered 117 = .ok (.iconst 0, 1) := by decide +kernel
theorem dX12_isCornered_118 : decode cX12_isCornered 118 = .ok (.ireturn, 1) := by decide +kernel
def rmX12_isCornered : Room := { frames := 1, cells := 0, slots := 0, locals := 21 }
set_option maxRecDepth 100000 in
def fX12_isCornered_J105 (N : Nat) (g : Gs) (x0 : Nat) (x1 : Int32) (x2 : Int32) (x3 : Int32) (K11 : Int32 × Int32 × Ds → Option (Int32 × Ds)) (K25 : Int32 × Int32 × Int32 × Ds → Option (Int32 × Ds)) (y4 : Int32) (y5 : Int32) (y6 : Int32) (d : Ds) : Option (Int32 × Ds) := bd (y6 + 1) fun u14 => (K25 (y4, y5, u14, d))
set_option maxHeartbeats 4000000 in
set_option maxRecDepth 100000 in
theorem tX12_isCornered_105 {p : Program} {l : Launch} {e : Env} {s : State} {m : MethodId} {args : Array Value} {below : List Frame} {meth : Method} {c : Code} {D : va_G} {cy : Nat → ClassId} {B : Bs} (C : Cx p s m args c cX12_isCornered 7 RX12 D cy B) (hr : meth.sig.returnType = (some .boolean)) (hlocks : meth.locks = false) {N : Nat} {g : Gs} {x0 : Nat} {x1 : Int32} {x2 : Int32} {x3 : Int32} {vz : Int32} {dz : Ds} {K11 : Int32 × Int32 × Ds → Option (Int32 × Ds)} {K25 : Int32 × Int32 × Int32 × Ds → Option (Int32 × Ds)} (hK11 : ∀ a, K11 a = some (vz, dz) → WB p l e rmX12_isCornered s m args below meth c 7 D cy B 0 0 (MQ below (QI D cy B vz g dz) args s 0 0 (wA B)) g a.2.2 [(0, .ref (ad B x0)), (1, .int x1), (2, .int x2), (3, .int x3), (4, .int a.1), (5, .int a.2.1)] 11 []) (hK25 : ∀ a, K25 a = some (vz, dz) → WB p l e rmX12_isCornered s m args below meth c 7 D cy B 0 0 (MQ below (QI D cy B vz g dz) args s 0 0 (wA B)) g a.2.2.2 [(0, .ref (ad B x0)), (1, .int x1), (2, .int x2), (3, .int x3), (4, .int a.1), (5, .int a.2.1), (6, .int a.2.2.1)] 25 []) {y4 : Int32} {y5 : Int32} {y6 : Int32} {d : Ds} (hf : fX12_isCornered_J105 N g x0 x1 x2 x3 K11 K25 y4 y5 y6 d = some (vz, dz)) : WB p l e rmX12_isCornered s m args below meth c 7 D cy B 0 0 (MQ below (QI D cy B vz g dz) args s 0 0 (wA B)) g d [(0, .ref (ad B x0)), (1, .int x1), (2, .int x2), (3, .int x3), (4, .int y4), (5, .int y5), (6, .int y6)] 105 [] := by
  unfold fX12_isCornered_J105 at hf
  obtain ⟨u14, eu14, hf⟩ := bd_s hf
  refine b_iinc C dX12_isCornered_105 6 rfl (by rw [eu14]; rfl) [(6, .int u14), (0, .ref (ad B x0)), (1, .int x1), (2, .int x2), (3, .int x3), (4, .int y4), (5, .int y5)] (by decide) rfl ?_
  refine b_goto C (tgt := 25) dX12_isCornered_108 (by decide) ?_
  refine b_sub [(0, .ref (ad B x0)), (1, .int x1), (2, .int x2), (3, .int x3), (4, .int y4), (5, .int y5), (6, .int u14)] [1, 2, 3, 4, 5, 6, 0] rfl ?_
  exact hK25 (y4, y5, u14, d) hf
set_option maxRecDepth 100000 in
def fX12_isCornered_B25 (N : Nat) (g : Gs) (x0 : Nat) (x1 : Int32) (x2 : Int32) (x3 : Int32) (K11 : Int32 × Int32 × Ds → Option (Int32 × Ds)) (K25 : Int32 × Int32 × Int32 × Ds → Option (Int32 × Ds)) (y4 : Int32) (y5 : Int32) (y6 : Int32) (d : Ds) : Option (Int32 × Ds) := if y4 ≤ y6 then (bd (y5 + 1) fun u12 => (K11 (y4, u12, d))) else (if y5 = x2 then (fX12_isCornered_J105 N g x0 x1 x2 x3 K11 K25 y4 y5 y6 d) else (if y6 = x3 then (fX12_isCornered_J105 N g x0 x1 x2 x3 K11 K25 y4 y5 y6 d) else (cb (fX12_has N g x1 ((y4 * x2) + x3) d) fun u18 d16 => (if u18 = 0 then (fX12_isCornered_J105 N g x0 x1 x2 x3 K11 K25 y4 y5 y6 d16) else (cb (fX12_has N g x1 ((y4 * x2) + y6) d16) fun u22 d20 => (if u22 = 0 then (fX12_isCornered_J105 N g x0 x1 x2 x3 K11 K25 y4 y5 y6 d20) else (cb (fX12_has N g x1 ((y4 * y5) + x3) d20) fun u26 d24 => (if u26 = 0 then (fX12_isCornered_J105 N g x0 x1 x2 x3 K11 K25 y4 y5 y6 d24) else (cb (fX12_has N g x1 ((y4 * y5) + y6) d24) fun u30 d28 => (if u30 = 0 then (fX12_isCornered_J105 N g x0 x1 x2 x3 K11 K25 y4 y5 y6 d28) else (some (1, d28))))))))))))
set_option maxHeartbeats 4000000 in
set_option maxRecDepth 100000 in
theorem tX12_isCornered_25 {p : Program} {l : Launch} {e : Env} {s : State} {m : MethodId} {args : Array Value} {below : List Frame} {meth : Method} {c : Code} {D : va_G} {cy : Nat → ClassId} {B : Bs} (C : Cx p s m args c cX12_isCornered 7 RX12 D cy B) (hr : meth.sig.returnType = (some .boolean)) (hlocks : meth.locks = false) {N : Nat} {g : Gs} {x0 : Nat} {x1 : Int32} {x2 : Int32} {x3 : Int32} {vz : Int32} {dz : Ds} {K11 : Int32 × Int32 × Ds → Option (Int32 × Ds)} {K25 : Int32 × Int32 × Int32 × Ds → Option (Int32 × Ds)} (hK11 : ∀ a, K11 a = some (vz, dz) → WB p l e rmX12_isCornered s m args below meth c 7 D cy B 0 0 (MQ below (QI D cy B vz g dz) args s 0 0 (wA B)) g a.2.2 [(0, .ref (ad B x0)), (1, .int x1), (2, .int x2), (3, .int x3), (4, .int a.1), (5, .int a.2.1)] 11 []) (hK25 : ∀ a, K25 a = some (vz, dz) → WB p l e rmX12_isCornered s m args below meth c 7 D cy B 0 0 (MQ below (QI D cy B vz g dz) args s 0 0 (wA B)) g a.2.2.2 [(0, .ref (ad B x0)), (1, .int x1), (2, .int x2), (3, .int x3), (4, .int a.1), (5, .int a.2.1), (6, .int a.2.2.1)] 25 []) {y4 : Int32} {y5 : Int32} {y6 : Int32} {d : Ds} (hf : fX12_isCornered_B25 N g x0 x1 x2 x3 K11 K25 y4 y5 y6 d = some (vz, dz)) : WB p l e rmX12_isCornered s m args below meth c 7 D cy B 0 0 (MQ below (QI D cy B vz g dz) args s 0 0 (wA B)) g d [(0, .ref (ad B x0)), (1, .int x1), (2, .int x2), (3, .int x3), (4, .int y4), (5, .int y5), (6, .int y6)] 25 [] := by
  unfold fX12_isCornered_B25 at hf
  refine b_iload C dX12_isCornered_25 6 rfl ?_
  refine b_iload C dX12_isCornered_27 4 rfl ?_
  refine b_icmp_ge C (tgt := 111) dX12_isCornered_29 (by decide) (fun c11 => ?_) (fun c11 => ?_)
  · have hf := it_s c11 hf
    obtain ⟨u12, eu12, hf⟩ := bd_s hf
    refine b_iinc C dX12_isCornered_111 5 rfl (by rw [eu12]; rfl) [(5, .int u12), (0, .ref (ad B x0)), (1, .int x1), (2, .int x2), (3, .int x3), (4, .int y4), (6, .int y6)] (by decide) rfl ?_
    refine b_goto C (tgt := 11) dX12_isCornered_114 (by decide) ?_
    refine b_sub [(0, .ref (ad B x0)), (1, .int x1), (2, .int x2), (3, .int x3), (4, .int y4), (5, .int u12)] [1, 2, 3, 4, 5, 0] rfl ?_
    exact hK11 (y4, u12, d) hf
  · have hf := if_s c11 hf
    refine b_iload C dX12_isCornered_32 5 rfl ?_
    refine b_iload_n C dX12_isCornered_34 2 rfl rfl ?_
    refine b_icmp_eq C (tgt := 105) dX12_isCornered_35 (by decide) (fun c13 => ?_) (fun c13 => ?_)
    · have hf := it_s c13 hf
      refine b_sub [(0, .ref (ad B x0)), (1, .int x1), (2, .int x2), (3, .int x3), (4, .int y4), (5, .int y5), (6, .int y6)] [0, 1, 2, 3, 4, 5, 6] rfl ?_
      exact tX12_isCornered_105 C hr hlocks hK11 hK25 hf
    · have hf := if_s c13 hf
      refine b_iload C dX12_isCornered_38 6 rfl ?_
      refine b_iload_n C dX12_isCornered_40 3 rfl rfl ?_
      refine b_icmp_ne C (tgt := 47) dX12_isCornered_41 (by decide) (fun c15 => ?_) (fun c15 => ?_)
      · have hf := if_s c15 hf
        refine b_iload_n C dX12_isCornered_47 1 rfl rfl ?_
        refine b_iload C dX12_isCornered_48 4 rfl ?_
        refine b_iload_n C dX12_isCornered_50 2 rfl rfl ?_
        refine b_imul C dX12_isCornered_51 ?_
        refine b_iload_n C dX12_isCornered_52 3 rfl rfl ?_
        refine b_iadd C dX12_isCornered_53 ?_
        obtain ⟨u18, d16, k17, hf⟩ := cb_s hf
        refine b_cSI C [] dX12_isCornered_54 (kX12_has l D cy B k17) lv_X12_210 ⟨rfl, rfl, Nat.le_of_ble_eq_true rfl, Nat.le_of_ble_eq_true rfl⟩ rfl (Nat.le_of_ble_eq_true rfl) ⟨Nat.zero_le _, Nat.zero_le _⟩ rfl ?_
        refine b_if_eq C (tgt := 105) dX12_isCornered_57 (by decide) (fun c19 => ?_) (fun c19 => ?_)
        · have hf := it_s c19 hf
          refine b_sub [(0, .ref (ad B x0)), (1, .int x1), (2, .int x2), (3, .int x3), (4, .int y4), (5, .int y5), (6, .int y6)] [0, 1, 2, 3, 4, 5, 6] rfl ?_
          exact tX12_isCornered_105 C hr hlocks hK11 hK25 hf
        · have hf := if_s c19 hf
          refine b_iload_n C dX12_isCornered_60 1 rfl rfl ?_
          refine b_iload C dX12_isCornered_61 4 rfl ?_
          refine b_iload_n C dX12_isCornered_63 2 rfl rfl ?_
          refine b_imul C dX12_isCornered_64 ?_
          refine b_iload C dX12_isCornered_65 6 rfl ?_
          refine b_iadd C dX12_isCornered_67 ?_
          obtain ⟨u22, d20, k21, hf⟩ := cb_s hf
          refine b_cSI C [] dX12_isCornered_68 (kX12_has l D cy B k21) lv_X12_210 ⟨rfl, rfl, Nat.le_of_ble_eq_true rfl, Nat.le_of_ble_eq_true rfl⟩ rfl (Nat.le_of_ble_eq_true rfl) ⟨Nat.zero_le _, Nat.zero_le _⟩ rfl ?_
          refine b_if_eq C (tgt := 105) dX12_isCornered_71 (by decide) (fun c23 => ?_) (fun c23 => ?_)
          · have hf := it_s c23 hf
            refine b_sub [(0, .ref (ad B x0)), (1, .int x1), (2, .int x2), (3, .int x3), (4, .int y4), (5, .int y5), (6, .int y6)] [0, 1, 2, 3, 4, 5, 6] rfl ?_
            exact tX12_isCornered_105 C hr hlocks hK11 hK25 hf
          · have hf := if_s c23 hf
            refine b_iload_n C dX12_isCornered_74 1 rfl rfl ?_
            refine b_iload C dX12_isCornered_75 4 rfl ?_
            refine b_iload C dX12_isCornered_77 5 rfl ?_
            refine b_imul C dX12_isCornered_79 ?_
            refine b_iload_n C dX12_isCornered_80 3 rfl rfl ?_
            refine b_iadd C dX12_isCornered_81 ?_
            obtain ⟨u26, d24, k25, hf⟩ := cb_s hf
            refine b_cSI C [] dX12_isCornered_82 (kX12_has l D cy B k25) lv_X12_210 ⟨rfl, rfl, Nat.le_of_ble_eq_true rfl, Nat.le_of_ble_eq_true rfl⟩ rfl (Nat.le_of_ble_eq_true rfl) ⟨Nat.zero_le _, Nat.zero_le _⟩ rfl ?_
            refine b_if_eq C (tgt := 105) dX12_isCornered_85 (by decide) (fun c27 => ?_) (fun c27 => ?_)
            · have hf := it_s c27 hf
              refine b_sub [(0, .ref (ad B x0)), (1, .int x1), (2, .int x2), (3, .int x3), (4, .int y4), (5, .int y5), (6, .int y6)] [0, 1, 2, 3, 4, 5, 6] rfl ?_
              exact tX12_isCornered_105 C hr hlocks hK11 hK25 hf
            · have hf := if_s c27 hf
              refine b_iload_n C dX12_isCornered_88 1 rfl rfl ?_
              refine b_iload C dX12_isCornered_89 4 rfl ?_
              refine b_iload C dX12_isCornered_91 5 rfl ?_
              refine b_imul C dX12_isCornered_93 ?_
              refine b_iload C dX12_isCornered_94 6 rfl ?_
              refine b_iadd C dX12_isCornered_96 ?_
              obtain ⟨u30, d28, k29, hf⟩ := cb_s hf
              refine b_cSI C [] dX12_isCornered_97 (kX12_has l D cy B k29) lv_X12_210 ⟨rfl, rfl, Nat.le_of_ble_eq_true rfl, Nat.le_of_ble_eq_true rfl⟩ rfl (Nat.le_of_ble_eq_true rfl) ⟨Nat.zero_le _, Nat.zero_le _⟩ rfl ?_
              refine b_if_eq C (tgt := 105) dX12_isCornered_100 (by decide) (fun c31 => ?_) (fun c31 => ?_)
              · have hf := it_s c31 hf
                refine b_sub [(0, .ref (ad B x0)), (1, .int x1), (2, .int x2), (3, .int x3), (4, .int y4), (5, .int y5), (6, .int y6)] [0, 1, 2, 3, 4, 5, 6] rfl ?_
                exact tX12_isCornered_105 C hr hlocks hK11 hK25 hf
              · have hf := if_s c31 hf
                refine b_iconst C (v := 1) dX12_isCornered_103 (by decide) ?_
                exact b_zret C hr hlocks (by decide) hf dX12_isCornered_104
      · have hf := it_s c15 hf
        refine b_goto C (tgt := 105) dX12_isCornered_44 (by decide) ?_
        refine b_sub [(0, .ref (ad B x0)), (1, .int x1), (2, .int x2), (3, .int x3), (4, .int y4), (5, .int y5), (6, .int y6)] [0, 1, 2, 3, 4, 5, 6] rfl ?_
        exact tX12_isCornered_105 C hr hlocks hK11 hK25 hf
def fX12_isCornered_L25 (N : Nat) (g : Gs) (x0 : Nat) (x1 : Int32) (x2 : Int32) (x3 : Int32) (K11 : Int32 × Int32 × Ds → Option (Int32 × Ds)) : Int32 × Int32 × Int32 × Ds → Option (Int32 × Ds) := lp (fun K25 a => fX12_isCornered_B25 N g x0 x1 x2 x3 K11 K25 a.1 a.2.1 a.2.2.1 a.2.2.2) N
theorem tX12_isCornered_L25 {p : Program} {l : Launch} {e : Env} {s : State} {m : MethodId} {args : Array Value} {below : List Frame} {meth : Method} {c : Code} {D : va_G} {cy : Nat → ClassId} {B : Bs} (C : Cx p s m args c cX12_isCornered 7 RX12 D cy B) (hr : meth.sig.returnType = (some .boolean)) (hlocks : meth.locks = false) {N : Nat} {g : Gs} {x0 : Nat} {x1 : Int32} {x2 : Int32} {x3 : Int32} {vz : Int32} {dz : Ds} {K11 : Int32 × Int32 × Ds → Option (Int32 × Ds)} (hK11 : ∀ a, K11 a = some (vz, dz) → WB p l e rmX12_isCornered s m args below meth c 7 D cy B 0 0 (MQ below (QI D cy B vz g dz) args s 0 0 (wA B)) g a.2.2 [(0, .ref (ad B x0)), (1, .int x1), (2, .int x2), (3, .int x3), (4, .int a.1), (5, .int a.2.1)] 11 []) (a : Int32 × Int32 × Int32 × Ds) (hf : fX12_isCornered_L25 N g x0 x1 x2 x3 K11 a = some (vz, dz)) : WB p l e rmX12_isCornered s m args below meth c 7 D cy B 0 0 (MQ below (QI D cy B vz g dz) args s 0 0 (wA B)) g a.2.2.2 [(0, .ref (ad B x0)), (1, .int x1), (2, .int x2), (3, .int x3), (4, .int a.1), (5, .int a.2.1), (6, .int a.2.2.1)] 25 [] :=
  lp_w (fun K25 hK25 a ha => tX12_isCornered_25 C hr hlocks hK11 hK25 ha) N a hf
set_option maxRecDepth 100000 in
def fX12_isCornered_B11 (N : Nat) (g : Gs) (x0 : Nat) (x1 : Int32) (x2 : Int32) (x3 : Int32) (K11 : Int32 × Int32 × Ds → Option (Int32 × Ds)) (y4 : Int32) (y5 : Int32) (d : Ds) : Option (Int32 × Ds) := gd (chk g x0 11) <| ob (gR g x0 17) fun r7 => (gd (chk g r7 102) <| gd (¬ ((0 : Int32) < 0 ∨ gL g r7 ≤ (0 : Int32).toNatClampNeg)) <| if (dI d r7 (0 : Int32).toNatClampNeg) ≤ y5 then (some (0, d)) else (fX12_isCornered_L25 N g x0 x1 x2 x3 K11 (y4, y5, 0, d)))
set_option maxHeartbeats 4000000 in
set_option maxRecDepth 100000 in
theorem tX12_isCornered_11 {p : Program} {l : Launch} {e : Env} {s : State} {m : MethodId} {args : Array Value} {below : List Frame} {meth : Method} {c : Code} {D : va_G} {cy : Nat → ClassId} {B : Bs} (C : Cx p s m args c cX12_isCornered 7 RX12 D cy B) (hr : meth.sig.returnType = (some .boolean)) (hlocks : meth.locks = false) {N : Nat} {g : Gs} {x0 : Nat} {x1 : Int32} {x2 : Int32} {x3 : Int32} {vz : Int32} {dz : Ds} {K11 : Int32 × Int32 × Ds → Option (Int32 × Ds)} (hK11 : ∀ a, K11 a = some (vz, dz) → WB p l e rmX12_isCornered s m args below meth c 7 D cy B 0 0 (MQ below (QI D cy B vz g dz) args s 0 0 (wA B)) g a.2.2 [(0, .ref (ad B x0)), (1, .int x1), (2, .int x2), (3, .int x3), (4, .int a.1), (5, .int a.2.1)] 11 []) {y4 : Int32} {y5 : Int32} {d : Ds} (hf : fX12_isCornered_B11 N g x0 x1 x2 x3 K11 y4 y5 d = some (vz, dz)) : WB p l e rmX12_isCornered s m args below meth c 7 D cy B 0 0 (MQ below (QI D cy B vz g dz) args s 0 0 (wA B)) g d [(0, .ref (ad B x0)), (1, .int x1), (2, .int x2), (3, .int x3), (4, .int y4), (5, .int y5)] 11 [] := by
  unfold fX12_isCornered_B11 at hf
  refine b_iload C dX12_isCornered_11 5 rfl ?_
  refine b_aload_n C dX12_isCornered_13 0 rfl rfl ?_
  obtain ⟨h6, hf⟩ := gd_s hf
  obtain ⟨r7, er7, hf⟩ := ob_s hf
  refine b_gR C dX12_isCornered_14 fl_X12_40 h6 er7 ?_
  refine b_iconst C (v := 0) dX12_isCornered_17 (by decide) ?_
  obtain ⟨h8, hf⟩ := gd_s hf
  obtain ⟨h9, hf⟩ := gd_s hf
  refine b_iald C h8 h9 dX12_isCornered_18 ?_
  refine b_icmp_ge C (tgt := 117) dX12_isCornered_19 (by decide) (fun c10 => ?_) (fun c10 => ?_)
  · have hf := it_s c10 hf
    refine b_iconst C (v := 0) dX12_isCornered_117 (by decide) ?_
    exact b_zret C hr hlocks (by decide) hf dX12_isCornered_118
  · have hf := if_s c10 hf
    refine b_iconst C (v := 0) dX12_isCornered_22 (by decide) ?_
    refine b_istore C dX12_isCornered_23 [(6, .int 0), (0, .ref (ad B x0)), (1, .int x1), (2, .int x2), (3, .int x3), (4, .int y4), (5, .int y5)] (by decide) rfl ?_
    refine b_sub [(0, .ref (ad B x0)), (1, .int x1), (2, .int x2), (3, .int x3), (4, .int y4), (5, .int y5), (6, .int 0)] [1, 2, 3, 4, 5, 6, 0] rfl ?_
    exact tX12_isCornered_L25 C hr hlocks hK11 (y4, y5, 0, d) hf
def fX12_isCornered_L11 (N : Nat) (g : Gs) (x0 : Nat) (x1 : Int32) (x2 : Int32) (x3 : Int32) : Int32 × Int32 × Ds → Option (Int32 × Ds) := lp (fun K11 a => fX12_isCornered_B11 N g x0 x1 x2 x3 K11 a.1 a.2.1 a.2.2) N
theorem tX12_isCornered_L11 {p : Program} {l : Launch} {e : Env} {s : State} {m : MethodId} {args : Array Value} {below : List Frame} {meth : Method} {c : Code} {D : va_G} {cy : Nat → ClassId} {B : Bs} (C : Cx p s m args c cX12_isCornered 7 RX12 D cy B) (hr : meth.sig.returnType = (some .boolean)) (hlocks : meth.locks = false) {N : Nat} {g : Gs} {x0 : Nat} {x1 : Int32} {x2 : Int32} {x3 : Int32} {vz : Int32} {dz : Ds} (a : Int32 × Int32 × Ds) (hf : fX12_isCornered_L11 N g x0 x1 x2 x3 a = some (vz, dz)) : WB p l e rmX12_isCornered s m args below meth c 7 D cy B 0 0 (MQ below (QI D cy B vz g dz) args s 0 0 (wA B)) g a.2.2 [(0, .ref (ad B x0)), (1, .int x1), (2, .int x2), (3, .int x3), (4, .int a.1), (5, .int a.2.1)] 11 [] :=
  lp_w (fun K11 hK11 a ha => tX12_isCornered_11 C hr hlocks hK11 ha) N a hf
set_option maxRecDepth 100000 in
def fX12_isCornered (N : Nat) (g : Gs) (x0 : Nat) (x1 : Int32) (x2 : Int32) (x3 : Int32) (d : Ds) : Option (Int32 × Ds) := gd (chk g x0 11) <| ob (gR g x0 17) fun r2 => (gd (chk g r2 102) <| gd (¬ ((1 : Int32) < 0 ∨ gL g r2 ≤ (1 : Int32).toNatClampNeg)) <| bd ((dI d r2 (1 : Int32).toNatClampNeg)) fun u5 => (fX12_isCornered_L11 N g x0 x1 x2 x3 (u5, 0, d)))
set_option maxHeartbeats 4000000 in
set_option maxRecDepth 100000 in
theorem tX12_isCornered_E {p : Program} {l : Launch} {e : Env} {s : State} {m : MethodId} {args : Array Value} {below : List Frame} {meth : Method} {c : Code} {D : va_G} {cy : Nat → ClassId} {B : Bs} (C : Cx p s m args c cX12_isCornered 7 RX12 D cy B) (hr : meth.sig.returnType = (some .boolean)) (hlocks : meth.locks = false) {N : Nat} {g : Gs} {x0 : Nat} {x1 : Int32} {x2 : Int32} {x3 : Int32} {vz : Int32} {dz : Ds} {d : Ds} (hf : fX12_isCornered N g x0 x1 x2 x3 d = some (vz, dz)) : WB p l e rmX12_isCornered s m args below meth c 7 D cy B 0 0 (MQ below (QI D cy B vz g dz) args s 0 0 (wA B)) g d [(0, .ref (ad B x0)), (1, .int x1), (2, .int x2), (3, .int x3)] 0 [] := by
  unfold fX12_isCornered at hf
  refine b_aload_n C dX12_isCornered_0 0 rfl rfl ?_
  obtain ⟨h1, hf⟩ := gd_s hf
  obtain ⟨r2, er2, hf⟩ := ob_s hf
  refine b_gR C dX12_isCornered_1 fl_X12_40 h1 er2 ?_
  refine b_iconst C (v := 1) dX12_isCornered_4 (by decide) ?_
  obtain ⟨h3, hf⟩ := gd_s hf
  obtain ⟨h4, hf⟩ := gd_s hf
  refine b_iald C h3 h4 dX12_isCornered_5 ?_
  obtain ⟨u5, eu5, hf⟩ := bd_s hf
  refine b_topI eu5 ?_
  refine b_istore C dX12_isCornered_6 [(4, .int u5), (0, .ref (ad B x0)), (1, .int x1), (2, .int x2), (3, .int x3)] (by decide) rfl ?_
  refine b_iconst C (v := 0) dX12_isCornered_8 (by decide) ?_
  refine b_istore C dX12_isCornered_9 [(5, .int 0), (4, .int u5), (0, .ref (ad B x0)), (1, .int x1), (2, .int x2), (3, .int x3)] (by decide) rfl ?_
  refine b_sub [(0, .ref (ad B x0)), (1, .int x1), (2, .int x2), (3, .int x3), (4, .int u5), (5, .int 0)] [2, 3, 4, 5, 1, 0] rfl ?_
  exact tX12_isCornered_L11 C hr hlocks (u5, 0, d) hf
theorem kX12_isCornered (l : Launch) (D : va_G) (cy : Nat → ClassId) (B : Bs) {N : Nat} {g : Gs} {x0 : Nat} {x1 : Int32} {x2 : Int32} {x3 : Int32} {vz : Int32} {dz : Ds} {d : Ds} (hf : fX12_isCornered N g x0 x1 x2 x3 d = some (vz, dz)) : Met l yX12_isCornered (.code yX12_isCornered cX12_isCornered 7 (some .boolean) :: wl) rmX12_isCornered (PC D cy B [.ref (ad B x0), .int x1, .int x2, .int x3] g d) (QI D cy B vz g dz) 0 0 (wA B) :=
  met_of (by decide +kernel) (Nat.le_of_ble_eq_true rfl) (fun p e s m args below meth c C hr hlocks _ => b_sub [(0, .ref (ad B x0)), (1, .int x1), (2, .int x2), (3, .int x3)] [0, 1, 2, 3] rfl (tX12_isCornered_E C hr hlocks hf))
/-! KeyMatrixModel.barredBy(I)I -/
theorem yo_X12_isCornered : yX12_isCornered.cls ≠ "java/lang/invoke/MethodHandle" ∧ yX12_isCornered.cls ≠ "java/lang/invoke/VarHandle" ∧ (parseMethodDescriptor yX12_isCornered.desc).map (fun d => d.parameters.length) = some 3 := by decide +kernel
theorem co_X12_isCornered : Cond.code yX12_isCornered cX12_isCornered 7 (some .boolean) ∈ wl := mW (mT6 (List.mem_of_getElem? (i := 99) (by decide +kernel))) rfl
theorem in_X12_isCornered : Cond.initialized yX12_isCornered.cls ∈ wl := mW (mT1 (List.mem_of_getElem? (i := 12) (by decide +kernel))) rfl
theorem im_X12_isCornered : Cond.instanceMethod yX12_isCornered ∈ wl := mW (mT6 (List.mem_of_getElem? (i := 98) (by decide +kernel))) rfl
theorem se_X12_isCornered : Cond.selects yX12_isCornered.cls yX12_isCornered yX12_isCornered ∈ wl := mW (mT0 (List.mem_of_getElem? (i := 58) (by decide +kernel))) rfl
theorem lv_X12_217 : LV RX12 217 yX12_isCornered cX12_isCornered 7 (some .boolean) 3 11 := ⟨⟨(RX12, TX12, 33), rfl, rfl⟩, yo_X12_isCornered, mW (mT6 (List.mem_of_getElem? (i := 96) (by decide +kernel))) rfl, im_X12_isCornered, se_X12_isCornered, in_X12_isCornered, co_X12_isCornered⟩
theorem dX12_barredBy_0 : decode cX12_barredBy 0 = .ok (.aload_n 0, 1) := by decide +kernel
theorem dX12_barredBy_1 : decode cX12_barredBy 1 = .ok (.getfield 40, 3) := by decide +kernel
theorem dX12_barredBy_4 : decode cX12_barredBy 4 = .ok (.iconst 2, 1) := by decide +kernel
theorem dX12_barredBy_5 : decode cX12_barredBy 5 = .ok (.iaload, 1) := by decide +kernel
theorem dX12_barredBy_6 : decode cX12_barredBy 6 = .ok (.iconst 1, 1) := by decide +kernel
theorem dX12_barredBy_7 : decode cX12_barredBy 7 = .ok (.if_icmp .ne 5, 3) := by decide +kernel
theorem dX12_barredBy_10 : decode cX12_barredBy 10 = .ok (.iconst 0, 1) := by decide +kernel
theorem dX12_barredBy_11 : decode cX12_barredBy 11 = .ok (.ireturn, 1) := by decide +kernel
theorem dX12_barredBy_12 : decode cX12_barredBy 12 = .ok (.iconst 0, 1) := by decide +kernel
theorem dX12_barredBy_13 : decode cX12_barredBy 13 = .ok (.istore_n 2, 1) := by decide +kernel
theorem dX12_barredBy_14 : decode cX12_barredBy 14 = .ok (.iconst 0, 1) := by decide +kernel
theorem dX12_barredBy_15 : decode cX12_barredBy 15 = .ok (.istore_n 3, 1) := by decide +kernel
theorem dX12_barredBy_16 : decode cX12_barredBy 16 = .ok (.iload_n 3, 1) := by decide +kernel
theorem dX12_barredBy_17 : decode cX12_barredBy 17 = .ok (.aload_n 0, 1) := by decide +kernel
theorem dX12_barredBy_18 : decode cX12_barredBy 18 = .ok (.invokevirtual 206, 3) := by decide +kernel
theorem dX12_barredBy_21 : decode cX12_barredBy 21 = .ok (.if_icmp .ge 39, 3) := by decide +kernel
theorem dX12_barredBy_24 : decode cX12_barredBy 24 = .ok (.aload_n 0, 1) := by decide +kernel
theorem dX12_barredBy_25 : decode cX12_barredBy 25 = .ok (.iload_n 1, 1) := by decide +kernel
theorem dX12_barredBy_26 : decode cX12_barredBy 26 = .ok (.iload_n 3, 1) := by decide +kernel
theorem dX12_barredBy_27 : decode cX12_barredBy 27 = .ok (.aload_n 0, 1) := by decide +kernel
theorem dX12_barredBy_28 : decode cX12_barredBy 28 = .ok (.getfield 40, 3) := by decide +kernel
theorem dX12_barredBy_31 : decode cX12_barredBy 31 = .ok (.iconst 1, 1) := by decide +kernel
theorem dX12_barredBy_32 : decode cX12_barredBy 32 = .ok (.iaload, 1) := by decide +kernel
theorem dX12_barredBy_33 : decode cX12_barredBy 33 = .ok (.idiv, 1) := by decide +kernel
theorem dX12_barredBy_34 : decode cX12_barredBy 34 = .ok (.iload_n 3, 1) := by decide +kernel
theorem dX12_barredBy_35 : decode cX12_barredBy 35 = .ok (.aload_n 0, 1) := by decide +kernel
theorem dX12_barredBy_36 : decode cX12_barredBy 36 = .ok (.getfield 40, 3) := by decide +kernel
theorem dX12_barredBy_39 : decode cX12_barredBy 39 = .ok (.iconst 1, 1) := by decide +kernel
theorem dX12_barredBy_40 : decode cX12_barredBy 40 = .ok (.iaload, 1) := by decide +kernel
theorem dX12_barredBy_41 : decode cX12_barredBy 41 = .ok (.irem, 1) := by decide +kernel
theorem dX12_barredBy_42 : decode cX12_barredBy 42 = .ok (.invokevirtual 217, 3) := by decide +kernel
theorem dX12_barredBy_45 : decode cX12_barredBy 45 = .ok (.ifCond .eq 9, 3) := by decide +kernel
theorem dX12_barredBy_48 : decode cX12_barredBy 48 = .ok (.iload_n 2, 1) := by decide +kernel
theorem dX12_barredBy_49 : decode cX12_barredBy 49 = .ok (.iconst 1, 1) := by decide +kernel
theorem dX12_barredBy_50 : decode cX12_barredBy 50 = .ok (.iload_n 3, 1) := by decide +kernel
theorem dX12_barredBy_51 : decode cX12_barredBy 51 = .ok (.ishl, 1) := by decide +kernel
theorem dX12_barredBy_52 : decode cX12_barredBy 52 = .ok (.ior, 1) := by decide +kernel
theorem dX12_barredBy_53 : decode cX12_barredBy 53 = .ok (.istore_n 2, 1) := by decide +kernel
theorem dX12_barredBy_54 : decode cX12_barredBy 54 = .ok (.iinc 3 1, 3) := by decide +kernel
theorem dX12_barredBy_57 : decode cX12_barredBy 57 = .ok (.goto (-41), 3) := by decide +kernel
theorem dX12_barredBy_60 : decode cX12_barredBy 60 = .ok (.iload_n 2, 1) := by decide +kernel
theorem dX12_barredBy_61 : decode cX12_barredBy 61 = .ok (.ireturn, 1) := by decide +kernel
def rmX12_barredBy : Room := { frames := 2, cells := 0, slots := 0, locals := 47 }
set_option maxRecDepth 100000 in
def fX12_barredBy_J54 (N : Nat) (g : Gs) (x0 : Nat) (x1 : Int32) (K16 : Int32 × Int32 × Ds → Option (Int32 × Ds)) (y2 : Int32) (y3 : Int32) (d : Ds) : Option (Int32 × Ds) := bd (y3 + 1) fun u19 => (K16 (y2, u19, d))
set_option maxHeartbeats 4000000 in
set_option maxRecDepth 100000 in
theorem tX12_barredBy_54 {p : Program} {l : Launch} {e : Env} {s : State} {m : MethodId} {args : Array Value} {below : List Frame} {meth : Method} {c : Code} {D : va_G} {cy : Nat → ClassId} {B : Bs} (C : Cx p s m args c cX12_barredBy 4 RX12 D cy B) (hr : meth.sig.returnType = (some .int)) (hlocks : meth.locks = false) {N : Nat} {g : Gs} {x0 : Nat} {x1 : Int32} {vz : Int32} {dz : Ds} {K16 : Int32 × Int32 × Ds → Option (Int32 × Ds)} (hK16 : ∀ a, K16 a = some (vz, dz) → WB p l e rmX12_barredBy s m args below meth c 4 D cy B 0 0 (MQ below (QI D cy B vz g dz) args s 0 0 (wA B)) g a.2.2 [(0, .ref (ad B x0)), (1, .int x1), (2, .int a.1), (3, .int a.2.1)] 16 []) {y2 : Int32} {y3 : Int32} {d : Ds} (hf : fX12_barredBy_J54 N g x0 x1 K16 y2 y3 d = some (vz, dz)) : WB p l e rmX12_barredBy s m args below meth c 4 D cy B 0 0 (MQ below (QI D cy B vz g dz) args s 0 0 (wA B)) g d [(0, .ref (ad B x0)), (1, .int x1), (2, .int y2), (3, .int y3)] 54 [] := by
  unfold fX12_barredBy_J54 at hf
  obtain ⟨u19, eu19, hf⟩ := bd_s hf
  refine b_iinc C dX12_barredBy_54 3 rfl (by rw [eu19]; rfl) [(3, .int u19), (0, .ref (ad B x0)), (1, .int x1), (2, .int y2)] (by decide) rfl ?_
  refine b_goto C (tgt := 16) dX12_barredBy_57 (by decide) ?_
  refine b_sub [(0, .ref (ad B x0)), (1, .int x1), (2, .int y2), (3, .int u19)] [1, 2, 3, 0] rfl ?_
  exact hK16 (y2, u19, d) hf
set_option maxRecDepth 100000 in
def fX12_barredBy_B16 (N : Nat) (g : Gs) (x0 : Nat) (x1 : Int32) (K16 : Int32 × Int32 × Ds → Option (Int32 × Ds)) (y2 : Int32) (y3 : Int32) (d : Ds) : Option (Int32 × Ds) := gd (chk g x0 11) <| cb (fX12_keysMany N g x0 d) fun u9 d7 => (if u9 ≤ y3 then (some (y2, d7)) else (ob (gR g x0 17) fun r11 => (gd (chk g r11 102) <| gd (¬ ((1 : Int32) < 0 ∨ gL g r11 ≤ (1 : Int32).toNatClampNeg)) <| gd (¬ (dI d7 r11 (1 : Int32).toNatClampNeg) = 0) <| cb (fX12_isCornered N g x0 x1 (y3 / (dI d7 r11 (1 : Int32).toNatClampNeg)) (y3 - y3 / (dI d7 r11 (1 : Int32).toNatClampNeg) * (dI d7 r11 (1 : Int32).toNatClampNeg)) d7) fun u17 d15 => (if u17 = 0 then (fX12_barredBy_J54 N g x0 x1 K16 y2 y3 d15) else (bd ((y2 ||| ((1 : Int32) <<< (y3 &&& 31)))) fun u20 => (fX12_barredBy_J54 N g x0 x1 K16 u20 y3 d15))))))
set_option maxHeartbeats 4000000 in
set_option maxRecDepth 100000 in
theorem tX12_barredBy_16 {p : Program} {l : Launch} {e : Env} {s : State} {m : MethodId} {args : Array Value} {below : List Frame} {meth : Method} {c : Code} {D : va_G} {cy : Nat → ClassId} {B : Bs} (C : Cx p s m args c cX12_barredBy 4 RX12 D cy B) (hr : meth.sig.returnType = (some .int)) (hlocks : meth.locks = false) {N : Nat} {g : Gs} {x0 : Nat} {x1 : Int32} {vz : Int32} {dz : Ds} {K16 : Int32 × Int32 × Ds → Option (Int32 × Ds)} (hK16 : ∀ a, K16 a = some (vz, dz) → WB p l e rmX12_barredBy s m args below meth c 4 D cy B 0 0 (MQ below (QI D cy B vz g dz) args s 0 0 (wA B)) g a.2.2 [(0, .ref (ad B x0)), (1, .int x1), (2, .int a.1), (3, .int a.2.1)] 16 []) {y2 : Int32} {y3 : Int32} {d : Ds} (hf : fX12_barredBy_B16 N g x0 x1 K16 y2 y3 d = some (vz, dz)) : WB p l e rmX12_barredBy s m args below meth c 4 D cy B 0 0 (MQ below (QI D cy B vz g dz) args s 0 0 (wA B)) g d [(0, .ref (ad B x0)), (1, .int x1), (2, .int y2), (3, .int y3)] 16 [] := by
  unfold fX12_barredBy_B16 at hf
  refine b_iload_n C dX12_barredBy_16 3 rfl rfl ?_
  refine b_aload_n C dX12_barredBy_17 0 rfl rfl ?_
  obtain ⟨h6, hf⟩ := gd_s hf
  obtain ⟨u9, d7, k8, hf⟩ := cb_s hf
  refine b_cVI C [.int y3] dX12_barredBy_18 (kX12_keysMany l D cy B k8) lv_X12_206 ⟨rfl, rfl, Nat.le_of_ble_eq_true rfl, Nat.le_of_ble_eq_true rfl⟩ h6 (by decide) rfl (Nat.le_of_ble_eq_true rfl) ⟨Nat.zero_le _, Nat.zero_le _⟩ rfl ?_
  refine b_icmp_ge C (tgt := 60) dX12_barredBy_21 (by decide) (fun c10 => ?_) (fun c10 => ?_)
  · have hf := it_s c10 hf
    refine b_iload_n C dX12_barredBy_60 2 rfl rfl ?_
    exact b_iret C hr hlocks hf dX12_barredBy_61
  · have hf := if_s c10 hf
    refine b_aload_n C dX12_barredBy_24 0 rfl rfl ?_
    refine b_iload_n C dX12_barredBy_25 1 rfl rfl ?_
    refine b_iload_n C dX12_barredBy_26 3 rfl rfl ?_
    refine b_aload_n C dX12_barredBy_27 0 rfl rfl ?_
    obtain ⟨r11, er11, hf⟩ := ob_s hf
    refine b_gR C dX12_barredBy_28 fl_X12_40 h6 er11 ?_
    refine b_iconst C (v := 1) dX12_barredBy_31 (by decide) ?_
    obtain ⟨h12, hf⟩ := gd_s hf
    obtain ⟨h13, hf⟩ := gd_s hf
    refine b_iald C h12 h13 dX12_barredBy_32 ?_
    obtain ⟨h14, hf⟩ := gd_s hf
    refine b_idiv C dX12_barredBy_33 h14 ?_
    refine b_iload_n C dX12_barredBy_34 3 rfl rfl ?_
    refine b_aload_n C dX12_barredBy_35 0 rfl rfl ?_
    refine b_gR C dX12_barredBy_36 fl_X12_40 h6 er11 ?_
    refine b_iconst C (v := 1) dX12_barredBy_39 (by decide) ?_
    refine b_iald C h12 h13 dX12_barredBy_40 ?_
    refine b_irem C dX12_barredBy_41 h14 ?_
    obtain ⟨u17, d15, k16, hf⟩ := cb_s hf
    refine b_cVI C [] dX12_barredBy_42 (kX12_isCornered l D cy B k16) lv_X12_217 ⟨rfl, rfl, Nat.le_of_ble_eq_true rfl, Nat.le_of_ble_eq_true rfl⟩ h6 (by decide) rfl (Nat.le_of_ble_eq_true rfl) ⟨Nat.zero_le _, Nat.zero_le _⟩ rfl ?_
    refine b_if_eq C (tgt := 54) dX12_barredBy_45 (by decide) (fun c18 => ?_) (fun c18 => ?_)
    · have hf := it_s c18 hf
      refine b_sub [(0, .ref (ad B x0)), (1, .int x1), (2, .int y2), (3, .int y3)] [0, 1, 2, 3] rfl ?_
      exact tX12_barredBy_54 C hr hlocks hK16 hf
    · have hf := if_s c18 hf
      refine b_iload_n C dX12_barredBy_48 2 rfl rfl ?_
      refine b_iconst C (v := 1) dX12_barredBy_49 (by decide) ?_
      refine b_iload_n C dX12_barredBy_50 3 rfl rfl ?_
      refine b_ishl C dX12_barredBy_51 ?_
      refine b_ior C dX12_barredBy_52 ?_
      obtain ⟨u20, eu20, hf⟩ := bd_s hf
      refine b_topI eu20 ?_
      refine b_istore_n C dX12_barredBy_53 rfl [(2, .int u20), (0, .ref (ad B x0)), (1, .int x1), (3, .int y3)] (by decide) rfl ?_
      refine b_sub [(0, .ref (ad B x0)), (1, .int x1), (2, .int u20), (3, .int y3)] [1, 2, 0, 3] rfl ?_
      exact tX12_barredBy_54 C hr hlocks hK16 hf
def fX12_barredBy_L16 (N : Nat) (g : Gs) (x0 : Nat) (x1 : Int32) : Int32 × Int32 × Ds → Option (Int32 × Ds) := lp (fun K16 a => fX12_barredBy_B16 N g x0 x1 K16 a.1 a.2.1 a.2.2) N
theorem tX12_barredBy_L16 {p : Program} {l : Launch} {e : Env} {s : State} {m : MethodId} {args : Array Value} {below : List Frame} {meth : Method} {c : Code} {D : va_G} {cy : Nat → ClassId} {B : Bs} (C : Cx p s m args c cX12_barredBy 4 RX12 D cy B) (hr : meth.sig.returnType = (some .int)) (hlocks : meth.locks = false) {N : Nat} {g : Gs} {x0 : Nat} {x1 : Int32} {vz : Int32} {dz : Ds} (a : Int32 × Int32 × Ds) (hf : fX12_barredBy_L16 N g x0 x1 a = some (vz, dz)) : WB p l e rmX12_barredBy s m args below meth c 4 D cy B 0 0 (MQ below (QI D cy B vz g dz) args s 0 0 (wA B)) g a.2.2 [(0, .ref (ad B x0)), (1, .int x1), (2, .int a.1), (3, .int a.2.1)] 16 [] :=
  lp_w (fun K16 hK16 a ha => tX12_barredBy_16 C hr hlocks hK16 ha) N a hf
set_option maxRecDepth 100000 in
def fX12_barredBy (N : Nat) (g : Gs) (x0 : Nat) (x1 : Int32) (d : Ds) : Option (Int32 × Ds) := gd (chk g x0 11) <| ob (gR g x0 17) fun r2 => (gd (chk g r2 102) <| gd (¬ ((2 : Int32) < 0 ∨ gL g r2 ≤ (2 : Int32).toNatClampNeg)) <| if (dI d r2 (2 : Int32).toNatClampNeg) = (1 : Int32) then (some (0, d)) else (fX12_barredBy_L16 N g x0 x1 (0, 0, d)))
set_option maxHeartbeats 4000000 in
set_option maxRecDepth 100000 in
theorem tX12_barredBy_E {p : Program} {l : Launch} {e : Env} {s : State} {m : MethodId} {args : Array Value} {below : List Frame} {meth : Method} {c : Code} {D : va_G} {cy : Nat → ClassId} {B : Bs} (C : Cx p s m args c cX12_barredBy 4 RX12 D cy B) (hr : meth.sig.returnType = (some .int)) (hlocks : meth.locks = false) {N : Nat} {g : Gs} {x0 : Nat} {x1 : Int32} {vz : Int32} {dz : Ds} {d : Ds} (hf : fX12_barredBy N g x0 x1 d = some (vz, dz)) : WB p l e rmX12_barredBy s m args below meth c 4 D cy B 0 0 (MQ below (QI D cy B vz g dz) args s 0 0 (wA B)) g d [(0, .ref (ad B x0)), (1, .int x1)] 0 [] := by
  unfold fX12_barredBy at hf
  refine b_aload_n C dX12_barredBy_0 0 rfl rfl ?_
  obtain ⟨h1, hf⟩ := gd_s hf
  obtain ⟨r2, er2, hf⟩ := ob_s hf
  refine b_gR C dX12_barredBy_1 fl_X12_40 h1 er2 ?_
  refine b_iconst C (v := 2) dX12_barredBy_4 (by decide) ?_
  obtain ⟨h3, hf⟩ := gd_s hf
  obtain ⟨h4, hf⟩ := gd_s hf
  refine b_iald C h3 h4 dX12_barredBy_5 ?_
  refine b_iconst C (v := 1) dX12_barredBy_6 (by decide) ?_
  refine b_icmp_ne C (tgt := 12) dX12_barredBy_7 (by decide) (fun c5 => ?_) (fun c5 => ?_)
  · have hf := if_s c5 hf
    refine b_iconst C (v := 0) dX12_barredBy_12 (by decide) ?_
    refine b_istore_n C dX12_barredBy_13 rfl [(2, .int 0), (0, .ref (ad B x0)), (1, .int x1)] (by decide) rfl ?_
    refine b_iconst C (v := 0) dX12_barredBy_14 (by decide) ?_
    refine b_istore_n C dX12_barredBy_15 rfl [(3, .int 0), (2, .int 0), (0, .ref (ad B x0)), (1, .int x1)] (by decide) rfl ?_
    refine b_sub [(0, .ref (ad B x0)), (1, .int x1), (2, .int 0), (3, .int 0)] [2, 3, 1, 0] rfl ?_
    exact tX12_barredBy_L16 C hr hlocks (0, 0, d) hf
  · have hf := it_s c5 hf
    refine b_iconst C (v := 0) dX12_barredBy_10 (by decide) ?_
    exact b_iret C hr hlocks hf dX12_barredBy_11
theorem kX12_barredBy (l : Launch) (D : va_G) (cy : Nat → ClassId) (B : Bs) {N : Nat} {g : Gs} {x0 : Nat} {x1 : Int32} {vz : Int32} {dz : Ds} {d : Ds} (hf : fX12_barredBy N g x0 x1 d = some (vz, dz)) : Met l yX12_barredBy (.code yX12_barredBy cX12_barredBy 4 (some .int) :: wl) rmX12_barredBy (PC D cy B [.ref (ad B x0), .int x1] g d) (QI D cy B vz g dz) 0 0 (wA B) :=
  met_of (by decide +kernel) (Nat.le_of_ble_eq_true rfl) (fun p e s m args below meth c C hr hlocks _ => b_sub [(0, .ref (ad B x0)), (1, .int x1)] [0, 1] rfl (tX12_barredBy_E C hr hlocks hf))
/-! KeyMatrixModel.press(IZ)Z -/
theorem yo_X12_isKey : yX12_isKey.cls ≠ "java/lang/invoke/MethodHandle" ∧ yX12_isKey.cls ≠ "java/lang/invoke/VarHandle" ∧ (parseMethodDescriptor yX12_isKey.desc).map (fun d => d.parameters.length) = some 1 := by decide +kernel
theorem co_X12_isKey : Cond.code yX12_isKey cX12_isKey 2 (some .boolean) ∈ wl := mW (mT6 (List.mem_of_getElem? (i := 69) (by decide +kernel))) rfl
theorem in_X12_isKey : Cond.initialized yX12_isKey.cls ∈ wl := mW (mT1 (List.mem_of_getElem? (i := 12) (by decide +kernel))) rfl
theorem im_X12_isKey : Cond.instanceMethod yX12_isKey ∈ wl := mW (mT6 (List.mem_of_getElem? (i := 68) (by decide +kernel))) rfl
theorem se_X12_isKey : Cond.selects yX12_isKey.cls yX12_isKey yX12_isKey ∈ wl := mW (mT0 (List.mem_of_getElem? (i := 53) (by decide +kernel))) rfl
theorem lv_X12_220 : LV RX12 220 yX12_isKey cX12_isKey 2 (some .boolean) 1 11 := ⟨⟨(RX12, TX12, 33), rfl, rfl⟩, yo_X12_isKey, mW (mT6 (List.mem_of_getElem? (i := 66) (by decide +kernel))) rfl, im_X12_isKey, se_X12_isKey, in_X12_isKey, co_X12_isKey⟩
theorem dX12_press_0 : decode cX12_press 0 = .ok (.aload_n 0, 1) := by decide +kernel
theorem dX12_press_1 : decode cX12_press 1 = .ok (.iload_n 1, 1) := by decide +kernel
theorem dX12_press_2 : decode cX12_press 2 = .ok (.invokevirtual 220, 3) := by decide +kernel
theorem dX12_press_5 : decode cX12_press 5 = .ok (.ifCond .eq 19, 3) := by decide +kernel
theorem dX12_press_8 : decode cX12_press 8 = .ok (.aload_n 0, 1) := by decide +kernel
theorem dX12_press_9 : decode cX12_press 9 = .ok (.getfield 40, 3) := by decide +kernel
theorem dX12_press_12 : decode cX12_press 12 = .ok (.sipush 352, 3) := by decide +kernel
theorem dX12_press_15 : decode cX12_press 15 = .ok (.iaload, 1) := by decide +kernel
theorem dX12_press_16 : decode cX12_press 16 = .ok (.iload_n 1, 1) := by decide +kernel
theorem dX12_press_17 : decode cX12_press 17 = .ok (.invokestatic 210, 3) := by decide +kernel
theorem dX12_press_20 : decode cX12_press 20 = .ok (.iload_n 2, 1) := by decide +kernel
theorem dX12_press_21 : decode cX12_press 21 = .ok (.if_icmp .ne 5, 3) := by decide +kernel
theorem dX12_press_24 : decode cX12_press 24 = .ok (.iconst 0, 1) := by decide +kernel
theorem dX12_press_25 : decode cX12_press 25 = .ok (.ireturn, 1) := by decide +kernel
theorem dX12_press_26 : decode cX12_press 26 = .ok (.aload_n 0, 1) := by decide +kernel
theorem dX12_press_27 : decode cX12_press 27 = .ok (.getfield 40, 3) := by decide +kernel
theorem dX12_press_30 : decode cX12_press 30 = .ok (.sipush 352, 3) := by decide +kernel
theorem dX12_press_33 : decode cX12_press 33 = .ok (.dup2, 1) := by decide +kernel
theorem dX12_press_34 : decode cX12_press 34 = .ok (.iaload, 1) := by decide +kernel
theorem dX12_press_35 : decode cX12_press 35 = .ok (.iconst 1, 1) := by decide +kernel
theorem dX12_press_36 : decode cX12_press 36 = .ok (.iload_n 1, 1) := by decide +kernel
theorem dX12_press_37 : decode cX12_press 37 = .ok (.ishl, 1) := by decide +kernel
theorem dX12_press_38 : decode cX12_press 38 = .ok (.ixor, 1) := by decide +kernel
theorem dX12_press_39 : decode cX12_press 39 = .ok (.iastore, 1) := by decide +kernel
theorem dX12_press_40 : decode cX12_press 40 = .ok (.iconst 1, 1) := by decide +kernel
theorem dX12_press_41 : decode cX12_press 41 = .ok (.ireturn, 1) := by decide +kernel
def rmX12_press : Room := { frames := 2, cells := 0, slots := 0, locals := 43 }
set_option maxRecDepth 100000 in
def fX12_press_J24 (N : Nat) (g : Gs) (x0 : Nat) (x1 : Int32) (x2 : Int32) (d : Ds) : Option (Int32 × Ds) := some (0, d)
set_option maxHeartbeats 4000000 in
set_option maxRecDepth 100000 in
theorem tX12_press_24 {p : Program} {l : Launch} {e : Env} {s : State} {m : MethodId} {args : Array Value} {below : List Frame} {meth : Method} {c : Code} {D : va_G} {cy : Nat → ClassId} {B : Bs} (C : Cx p s m args c cX12_press 3 RX12 D cy B) (hr : meth.sig.returnType = (some .boolean)) (hlocks : meth.locks = false) {N : Nat} {g : Gs} {x0 : Nat} {x1 : Int32} {x2 : Int32} {vz : Int32} {dz : Ds} {d : Ds} (hf : fX12_press_J24 N g x0 x1 x2 d = some (vz, dz)) : WB p l e rmX12_press s m args below meth c 3 D cy B 0 0 (MQ below (QI D cy B vz g dz) args s 0 0 (wA B)) g d [(0, .ref (ad B x0)), (1, .int x1), (2, .int x2)] 24 [] := by
  unfold fX12_press_J24 at hf
  refine b_iconst C (v := 0) dX12_press_24 (by decide) ?_
  exact b_zret C hr hlocks (by decide) hf dX12_press_25
set_option maxRecDepth 100000 in
def fX12_press (N : Nat) (g : Gs) (x0 : Nat) (x1 : Int32) (x2 : Int32) (d : Ds) : Option (Int32 × Ds) := gd (chk g x0 11) <| cb (fX12_isKey N g x0 x1 d) fun u4 d2 => (if u4 = 0 then (fX12_press_J24 N g x0 x1 x2 d2) else (ob (gR g x0 17) fun r6 => (gd (chk g r6 102) <| gd (¬ ((352 : Int32) < 0 ∨ gL g r6 ≤ (352 : Int32).toNatClampNeg)) <| cb (fX12_has N g (dI d2 r6 (352 : Int32).toNatClampNeg) x1 d2) fun u11 d9 => (if u11 = x2 then (fX12_press_J24 N g x0 x1 x2 d9) else (bd (sI d9 r6 (352 : Int32).toNatClampNeg ((dI d9 r6 (352 : Int32).toNatClampNeg) ^^^ ((1 : Int32) <<< (x1 &&& 31)))) fun d13 => (some (1, d13)))))))
set_option maxHeartbeats 4000000 in
set_option maxRecDepth 100000 in
theorem tX12_press_E {p : Program} {l : Launch} {e : Env} {s : State} {m : MethodId} {args : Array Value} {below : List Frame} {meth : Method} {c : Code} {D : va_G} {cy : Nat → ClassId} {B : Bs} (C : Cx p s m args c cX12_press 3 RX12 D cy B) (hr : meth.sig.returnType = (some .boolean)) (hlocks : meth.locks = false) {N : Nat} {g : Gs} {x0 : Nat} {x1 : Int32} {x2 : Int32} {vz : Int32} {dz : Ds} {d : Ds} (hf : fX12_press N g x0 x1 x2 d = some (vz, dz)) : WB p l e rmX12_press s m args below meth c 3 D cy B 0 0 (MQ below (QI D cy B vz g dz) args s 0 0 (wA B)) g d [(0, .ref (ad B x0)), (1, .int x1), (2, .int x2)] 0 [] := by
  unfold fX12_press at hf
  refine b_aload_n C dX12_press_0 0 rfl rfl ?_
  refine b_iload_n C dX12_press_1 1 rfl rfl ?_
  obtain ⟨h1, hf⟩ := gd_s hf
  obtain ⟨u4, d2, k3, hf⟩ := cb_s hf
  refine b_cVI C [] dX12_press_2 (kX12_isKey l D cy B k3) lv_X12_220 ⟨rfl, rfl, Nat.le_of_ble_eq_true rfl, Nat.le_of_ble_eq_true rfl⟩ h1 (by decide) rfl (Nat.le_of_ble_eq_true rfl) ⟨Nat.zero_le _, Nat.zero_le _⟩ rfl ?_
  refine b_if_eq C (tgt := 24) dX12_press_5 (by decide) (fun c5 => ?_) (fun c5 => ?_)
  · have hf := it_s c5 hf
    refine b_sub [(0, .ref (ad B x0)), (1, .int x1), (2, .int x2)] [0, 1, 2] rfl ?_
    exact tX12_press_24 C hr hlocks hf
  · have hf := if_s c5 hf
    refine b_aload_n C dX12_press_8 0 rfl rfl ?_
    obtain ⟨r6, er6, hf⟩ := ob_s hf
    refine b_gR C dX12_press_9 fl_X12_40 h1 er6 ?_
    refine b_sipush C (v := 352) dX12_press_12 (by decide) ?_
    obtain ⟨h7, hf⟩ := gd_s hf
    obtain ⟨h8, hf⟩ := gd_s hf
    refine b_iald C h7 h8 dX12_press_15 ?_
    refine b_iload_n C dX12_press_16 1 rfl rfl ?_
    obtain ⟨u11, d9, k10, hf⟩ := cb_s hf
    refine b_cSI C [] dX12_press_17 (kX12_has l D cy B k10) lv_X12_210 ⟨rfl, rfl, Nat.le_of_ble_eq_true rfl, Nat.le_of_ble_eq_true rfl⟩ rfl (Nat.le_of_ble_eq_true rfl) ⟨Nat.zero_le _, Nat.zero_le _⟩ rfl ?_
    refine b_iload_n C dX12_press_20 2 rfl rfl ?_
    refine b_icmp_ne C (tgt := 26) dX12_press_21 (by decide) (fun c12 => ?_) (fun c12 => ?_)
    · have hf := if_s c12 hf
      refine b_aload_n C dX12_press_26 0 rfl rfl ?_
      refine b_gR C dX12_press_27 fl_X12_40 h1 er6 ?_
      refine b_sipush C (v := 352) dX12_press_30 (by decide) ?_
      refine b_dup2 C dX12_press_33 rfl rfl ?_
      refine b_iald C h7 h8 dX12_press_34 ?_
      refine b_iconst C (v := 1) dX12_press_35 (by decide) ?_
      refine b_iload_n C dX12_press_36 1 rfl rfl ?_
      refine b_ishl C dX12_press_37 ?_
      refine b_ixor C dX12_press_38 ?_
      obtain ⟨d13, ed13, hf⟩ := bd_s hf
      refine b_iast C h7 h8 ed13 dX12_press_39 ?_
      refine b_iconst C (v := 1) dX12_press_40 (by decide) ?_
      exact b_zret C hr hlocks (by decide) hf dX12_press_41
    · have hf := it_s c12 hf
      refine b_sub [(0, .ref (ad B x0)), (1, .int x1), (2, .int x2)] [0, 1, 2] rfl ?_
      exact tX12_press_24 C hr hlocks hf
theorem kX12_press (l : Launch) (D : va_G) (cy : Nat → ClassId) (B : Bs) {N : Nat} {g : Gs} {x0 : Nat} {x1 : Int32} {x2 : Int32} {vz : Int32} {dz : Ds} {d : Ds} (hf : fX12_press N g x0 x1 x2 d = some (vz, dz)) : Met l yX12_press (.code yX12_press cX12_press 3 (some .boolean) :: wl) rmX12_press (PC D cy B [.ref (ad B x0), .int x1, .int x2] g d) (QI D cy B vz g dz) 0 0 (wA B) :=
  met_of (by decide +kernel) (Nat.le_of_ble_eq_true rfl) (fun p e s m args below meth c C hr hlocks _ => b_sub [(0, .ref (ad B x0)), (1, .int x1), (2, .int x2)] [0, 1, 2] rfl (tX12_press_E C hr hlocks hf))
/-! KeyMatrixModel.ghosts(II)I -/
theorem yo_X12_seenBy : yX12_seenBy.cls ≠ "java/lang/invoke/MethodHandle" ∧ yX12_seenBy.cls ≠ "java/lang/invoke/VarHandle" ∧ (parseMethodDescriptor yX12_seenBy.desc).map (fun d => d.parameters.length) = some 1 := by decide +kernel
theorem co_X12_seenBy : Cond.code yX12_seenBy cX12_seenBy 5 (some .int) ∈ wl := mW (mT6 (List.mem_of_getElem? (i := 84) (by decide +kernel))) rfl
theorem in_X12_seenBy : Cond.initialized yX12_seenBy.cls ∈ wl := mW (mT1 (List.mem_of_getElem? (i := 12) (by decide +kernel))) rfl
theorem im_X12_seenBy : Cond.instanceMethod yX12_seenBy ∈ wl := mW (mT6 (List.mem_of_getElem? (i := 83) (by decide +kernel))) rfl
theorem se_X12_seenBy : Cond.selects yX12_seenBy.cls yX12_seenBy yX12_seenBy ∈ wl := mW (mT0 (List.mem_of_getElem? (i := 55) (by decide +kernel))) rfl
theorem lv_X12_223 : LV RX12 223 yX12_seenBy cX12_seenBy 5 (some .int) 1 11 := ⟨⟨(RX12, TX12, 33), rfl, rfl⟩, yo_X12_seenBy, mW (mT6 (List.mem_of_getElem? (i := 81) (by decide +kernel))) rfl, im_X12_seenBy, se_X12_seenBy, in_X12_seenBy, co_X12_seenBy⟩
theorem yo_X12_barredBy : yX12_barredBy.cls ≠ "java/lang/invoke/MethodHandle" ∧ yX12_barredBy.cls ≠ "java/lang/invoke/VarHandle" ∧ (parseMethodDescriptor yX12_barredBy.desc).map (fun d => d.parameters.length) = some 1 := by decide +kernel
theorem co_X12_barredBy : Cond.code yX12_barredBy cX12_barredBy 4 (some .int) ∈ wl := mW (mT6 (List.mem_of_getElem? (i := 95) (by decide +kernel))) rfl
theorem in_X12_barredBy : Cond.initialized yX12_barredBy.cls ∈ wl := mW (mT1 (List.mem_of_getElem? (i := 12) (by decide +kernel))) rfl
theorem im_X12_barredBy : Cond.instanceMethod yX12_barredBy ∈ wl := mW (mT6 (List.mem_of_getElem? (i := 94) (by decide +kernel))) rfl
theorem se_X12_barredBy : Cond.selects yX12_barredBy.cls yX12_barredBy yX12_barredBy ∈ wl := mW (mT0 (List.mem_of_getElem? (i := 57) (by decide +kernel))) rfl
theorem lv_X12_229 : LV RX12 229 yX12_barredBy cX12_barredBy 4 (some .int) 1 11 := ⟨⟨(RX12, TX12, 33), rfl, rfl⟩, yo_X12_barredBy, mW (mT6 (List.mem_of_getElem? (i := 92) (by decide +kernel))) rfl, im_X12_barredBy, se_X12_barredBy, in_X12_barredBy, co_X12_barredBy⟩
theorem yo_X12_bitsOf : yX12_bitsOf.cls ≠ "java/lang/invoke/MethodHandle" ∧ yX12_bitsOf.cls ≠ "java/lang/invoke/VarHandle" ∧ (parseMethodDescriptor yX12_bitsOf.desc).map (fun d => d.parameters.length) = some 1 := by decide +kernel
theorem co_X12_bitsOf : Cond.code yX12_bitsOf cX12_bitsOf 3 (some .int) ∈ wl := mW (mT6 (List.mem_of_getElem? (i := 91) (by decide +kernel))) rfl
theorem in_X12_bitsOf : Cond.initialized yX12_bitsOf.cls ∈ wl := mW (mT1 (List.mem_of_getElem? (i := 12) (by decide +kernel))) rfl
theorem st_X12_bitsOf : Cond.static yX12_bitsOf ∈ wl := mW (mT6 (List.mem_of_getElem? (i := 90) (by decide +kernel))) rfl
theorem lv_X12_226 : LSt RX12 226 yX12_bitsOf cX12_bitsOf 3 (some .int) 1 := ⟨yo_X12_bitsOf, Or.inl (mW (mT6 (List.mem_of_getElem? (i := 89) (by decide +kernel))) rfl), st_X12_bitsOf, in_X12_bitsOf, co_X12_bitsOf⟩
theorem dX12_ghosts_0 : decode cX12_ghosts 0 = .ok (.iload_n 1, 1) := by decide +kernel
theorem dX12_ghosts_1 : decode cX12_ghosts 1 = .ok (.iconst 0, 1) := by decide +kernel
theorem dX12_ghosts_2 : decode cX12_ghosts 2 = .ok (.iconst 1, 1) := by decide +kernel
theorem dX12_ghosts_3 : decode cX12_ghosts 3 = .ok (.aload_n 0, 1) := by decide +kernel
theorem dX12_ghosts_4 : decode cX12_ghosts 4 = .ok (.invokevirtual 206, 3) := by decide +kernel
theorem dX12_ghosts_7 : decode cX12_ghosts 7 = .ok (.ishl, 1) := by decide +kernel
theorem dX12_ghosts_8 : decode cX12_ghosts 8 = .ok (.iconst 1, 1) := by decide +kernel
theorem dX12_ghosts_9 : decode cX12_ghosts 9 = .ok (.isub, 1) := by decide +kernel
theorem dX12_ghosts_10 : decode cX12_ghosts 10 = .ok (.invokestatic 169, 3) := by decide +kernel
theorem dX12_ghosts_13 : decode cX12_ghosts 13 = .ok (.ifCond .eq 12, 3) := by decide +kernel
theorem dX12_ghosts_16 : decode cX12_ghosts 16 = .ok (.iload_n 2, 1) := by decide +kernel
theorem dX12_ghosts_17 : decode cX12_ghosts 17 = .ok (.iconst 0, 1) := by decide +kernel
theorem dX12_ghosts_18 : decode cX12_ghosts 18 = .ok (.iconst 2, 1) := by decide +kernel
theorem dX12_ghosts_19 : decode cX12_ghosts 19 = .ok (.invokestatic 169, 3) := by decide +kernel
theorem dX12_ghosts_22 : decode cX12_ghosts 22 = .ok (.ifCond .ne 5, 3) := by decide +kernel
theorem dX12_ghosts_25 : decode cX12_ghosts 25 = .ok (.iconst (-1), 1) := by decide +kernel
theorem dX12_ghosts_26 : decode cX12_ghosts 26 = .ok (.ireturn, 1) := by decide +kernel
theorem dX12_ghosts_27 : decode cX12_ghosts 27 = .ok (.aload_n 0, 1) := by decide +kernel
theorem dX12_ghosts_28 : decode cX12_ghosts 28 = .ok (.iload_n 1, 1) := by decide +kernel
theorem dX12_ghosts_29 : decode cX12_ghosts 29 = .ok (.invokevirtual 223, 3) := by decide +kernel
theorem dX12_ghosts_32 : decode cX12_ghosts 32 = .ok (.istore_n 3, 1) := by decide +kernel
theorem dX12_ghosts_33 : decode cX12_ghosts 33 = .ok (.iload_n 2, 1) := by decide +kernel
theorem dX12_ghosts_34 : decode cX12_ghosts 34 = .ok (.ifCond .ne 14, 3) := by decide +kernel
theorem dX12_ghosts_37 : decode cX12_ghosts 37 = .ok (.iload_n 3, 1) := by decide +kernel
theorem dX12_ghosts_38 : decode cX12_ghosts 38 = .ok (.iload_n 1, 1) := by decide +kernel
theorem dX12_ghosts_39 : decode cX12_ghosts 39 = .ok (.iconst (-1), 1) := by decide +kernel
theorem dX12_ghosts_40 : decode cX12_ghosts 40 = .ok (.ixor, 1) := by decide +kernel
theorem dX12_ghosts_41 : decode cX12_ghosts 41 = .ok (.iand, 1) := by decide +kernel
theorem dX12_ghosts_42 : decode cX12_ghosts 42 = .ok (.invokestatic 226, 3) := by decide +kernel
theorem dX12_ghosts_45 : decode cX12_ghosts 45 = .ok (.goto 24, 3) := by decide +kernel
theorem dX12_ghosts_48 : decode cX12_ghosts 48 = .ok (.iload_n 2, 1) := by decide +kernel
theorem dX12_ghosts_49 : decode cX12_ghosts 49 = .ok (.iconst 1, 1) := by decide +kernel
theorem dX12_ghosts_50 : decode cX12_ghosts 50 = .ok (.if_icmp .ne 14, 3) := by decide +kernel
theorem dX12_ghosts_53 : decode cX12_ghosts 53 = .ok (.aload_n 0, 1) := by decide +kernel
theorem dX12_ghosts_54 : decode cX12_ghosts 54 = .ok (.iload_n 3, 1) := by decide +kernel
theorem dX12_ghosts_55 : decode cX12_ghosts 55 = .ok (.invokevirtual 229, 3) := by decide +kernel
theorem dX12_ghosts_58 : decode cX12_ghosts 58 = .ok (.invokestatic 226, 3) := by decide +kernel
theorem dX12_ghosts_61 : decode cX12_ghosts 61 = .ok (.goto 8, 3) := by decide +kernel
theorem dX12_ghosts_64 : decode cX12_ghosts 64 = .ok (.aload_n 0, 1) := by decide +kernel
theorem dX12_ghosts_65 : decode cX12_ghosts 65 = .ok (.iload_n 1, 1) := by decide +kernel
theorem dX12_ghosts_66 : decode cX12_ghosts 66 = .ok (.invokevirtual 214, 3) := by decide +kernel
theorem dX12_ghosts_69 : decode cX12_ghosts 69 = .ok (.ireturn, 1) := by decide +kernel
def rmX12_ghosts : Room := { frames := 3, cells := 0, slots := 0, locals := 72 }
set_option maxRecDepth 100000 in
def fX12_ghosts_J25 (N : Nat) (g : Gs) (x0 : Nat) (x1 : Int32) (x2 : Int32) (d : Ds) : Option (Int32 × Ds) := some ((-1), d)
set_option maxHeartbeats 4000000 in
set_option maxRecDepth 100000 in
theorem tX12_ghosts_25 {p : Program} {l : Launch} {e : Env} {s : State} {m : MethodId} {args : Array Value} {below : List Frame} {meth : Method} {c : Code} {D : va_G} {cy : Nat → ClassId} {B : Bs} (C : Cx p s m args c cX12_ghosts 4 RX12 D cy B) (hr : meth.sig.returnType = (some .int)) (hlocks : meth.locks = false) {N : Nat} {g : Gs} {x0 : Nat} {x1 : Int32} {x2 : Int32} {vz : Int32} {dz : Ds} {d : Ds} (hf : fX12_ghosts_J25 N g x0 x1 x2 d = some (vz, dz)) : WB p l e rmX12_ghosts s m args below meth c 4 D cy B 0 0 (MQ below (QI D cy B vz g dz) args s 0 0 (wA B)) g d [(0, .ref (ad B x0)), (1, .int x1), (2, .int x2)] 25 [] := by
  unfold fX12_ghosts_J25 at hf
  refine b_iconst C (v := (-1)) dX12_ghosts_25 (by decide) ?_
  exact b_iret C hr hlocks hf dX12_ghosts_26
set_option maxRecDepth 100000 in
def fX12_ghosts_J69 (N : Nat) (g : Gs) (x0 : Nat) (x1 : Int32) (x2 : Int32) (z0 : Int32) (d : Ds) : Option (Int32 × Ds) := some (z0, d)
set_option maxHeartbeats 4000000 in
set_option maxRecDepth 100000 in
theorem tX12_ghosts_69 {p : Program} {l : Launch} {e : Env} {s : State} {m : MethodId} {args : Array Value} {below : List Frame} {meth : Method} {c : Code} {D : va_G} {cy : Nat → ClassId} {B : Bs} (C : Cx p s m args c cX12_ghosts 4 RX12 D cy B) (hr : meth.sig.returnType = (some .int)) (hlocks : meth.locks = false) {N : Nat} {g : Gs} {x0 : Nat} {x1 : Int32} {x2 : Int32} {vz : Int32} {dz : Ds} {z0 : Int32} {d : Ds} (hf : fX12_ghosts_J69 N g x0 x1 x2 z0 d = some (vz, dz)) : WB p l e rmX12_ghosts s m args below meth c 4 D cy B 0 0 (MQ below (QI D cy B vz g dz) args s 0 0 (wA B)) g d [(0, .ref (ad B x0)), (1, .int x1), (2, .int x2)] 69 [.int z0] := by
  unfold fX12_ghosts_J69 at hf
  exact b_iret C hr hlocks hf dX12_ghosts_69
set_option maxRecDepth 100000 in
def fX12_ghosts (N : Nat) (g : Gs) (x0 : Nat) (x1 : Int32) (x2 : Int32) (d : Ds) : Option (Int32 × Ds) := gd (chk g x0 11) <| cb (fX12_keysMany N g x0 d) fun u4 d2 => (cb (fX12_in N g x1 0 (((1 : Int32) <<< (u4 &&& 31)) - 1) d2) fun u7 d5 => (if u7 = 0 then (fX12_ghosts_J25 N g x0 x1 x2 d5) else (cb (fX12_in N g x2 0 2 d5) fun u11 d9 => (if u11 = 0 then (fX12_ghosts_J25 N g x0 x1 x2 d9) else (cb (fX12_seenBy N g x0 x1 d9) fun u15 d13 => (if x2 = 0 then (cb (fX12_bitsOf N g (u15 &&& (x1 ^^^ (-1))) d13) fun u29 d27 => (fX12_ghosts_J69 N g x0 x1 x2 u29 d27)) else (if x2 = (1 : Int32) then (cb (fX12_barredBy N g x0 u15 d13) fun u23 d21 => (cb (fX12_bitsOf N g u23 d21) fun u26 d24 => (fX12_ghosts_J69 N g x0 x1 x2 u26 d24))) else (cb (fX12_laysParts N g x0 x1 d13) fun u20 d18 => (fX12_ghosts_J69 N g x0 x1 x2 u20 d18)))))))))
set_option maxHeartbeats 4000000 in
set_option maxRecDepth 100000 in
theorem tX12_ghosts_E {p : Program} {l : Launch} {e : Env} {s : State} {m : MethodId} {args : Array Value} {below : List Frame} {meth : Method} {c : Code} {D : va_G} {cy : Nat → ClassId} {B : Bs} (C : Cx p s m args c cX12_ghosts 4 RX12 D cy B) (hr : meth.sig.returnType = (some .int)) (hlocks : meth.locks = false) {N : Nat} {g : Gs} {x0 : Nat} {x1 : Int32} {x2 : Int32} {vz : Int32} {dz : Ds} {d : Ds} (hf : fX12_ghosts N g x0 x1 x2 d = some (vz, dz)) : WB p l e rmX12_ghosts s m args below meth c 4 D cy B 0 0 (MQ below (QI D cy B vz g dz) args s 0 0 (wA B)) g d [(0, .ref (ad B x0)), (1, .int x1), (2, .int x2)] 0 [] := by
  unfold fX12_ghosts at hf
  refine b_iload_n C dX12_ghosts_0 1 rfl rfl ?_
  refine b_iconst C (v := 0) dX12_ghosts_1 (by decide) ?_
  refine b_iconst C (v := 1) dX12_ghosts_2 (by decide) ?_
  refine b_aload_n C dX12_ghosts_3 0 rfl rfl ?_
  obtain ⟨h1, hf⟩ := gd_s hf
  obtain ⟨u4, d2, k3, hf⟩ := cb_s hf
  refine b_cVI C [.int 1, .int 0, .int x1] dX12_ghosts_4 (kX12_keysMany l D cy B k3) lv_X12_206 ⟨rfl, rfl, Nat.le_of_ble_eq_true rfl, Nat.le_of_ble_eq_true rfl⟩ h1 (by decide) rfl (Nat.le_of_ble_eq_true rfl) ⟨Nat.zero_le _, Nat.zero_le _⟩ rfl ?_
  refine b_ishl C dX12_ghosts_7 ?_
  refine b_iconst C (v := 1) dX12_ghosts_8 (by decide) ?_
  refine b_isub C dX12_ghosts_9 ?_
  obtain ⟨u7, d5, k6, hf⟩ := cb_s hf
  refine b_cSI C [] dX12_ghosts_10 (kX12_in l D cy B k6) lv_X12_169 ⟨rfl, rfl, Nat.le_of_ble_eq_true rfl, Nat.le_of_ble_eq_true rfl⟩ rfl (Nat.le_of_ble_eq_true rfl) ⟨Nat.zero_le _, Nat.zero_le _⟩ rfl ?_
  refine b_if_eq C (tgt := 25) dX12_ghosts_13 (by decide) (fun c8 => ?_) (fun c8 => ?_)
  · have hf := it_s c8 hf
    refine b_sub [(0, .ref (ad B x0)), (1, .int x1), (2, .int x2)] [0, 1, 2] rfl ?_
    exact tX12_ghosts_25 C hr hlocks hf
  · have hf := if_s c8 hf
    refine b_iload_n C dX12_ghosts_16 2 rfl rfl ?_
    refine b_iconst C (v := 0) dX12_ghosts_17 (by decide) ?_
    refine b_iconst C (v := 2) dX12_ghosts_18 (by decide) ?_
    obtain ⟨u11, d9, k10, hf⟩ := cb_s hf
    refine b_cSI C [] dX12_ghosts_19 (kX12_in l D cy B k10) lv_X12_169 ⟨rfl, rfl, Nat.le_of_ble_eq_true rfl, Nat.le_of_ble_eq_true rfl⟩ rfl (Nat.le_of_ble_eq_true rfl) ⟨Nat.zero_le _, Nat.zero_le _⟩ rfl ?_
    refine b_if_ne C (tgt := 27) dX12_ghosts_22 (by decide) (fun c12 => ?_) (fun c12 => ?_)
    · have hf := if_s c12 hf
      refine b_aload_n C dX12_ghosts_27 0 rfl rfl ?_
      refine b_iload_n C dX12_ghosts_28 1 rfl rfl ?_
      obtain ⟨u15, d13, k14, hf⟩ := cb_s hf
      refine b_cVI C [] dX12_ghosts_29 (kX12_seenBy l D cy B k14) lv_X12_223 ⟨rfl, rfl, Nat.le_of_ble_eq_true rfl, Nat.le_of_ble_eq_true rfl⟩ h1 (by decide) rfl (Nat.le_of_ble_eq_true rfl) ⟨Nat.zero_le _, Nat.zero_le _⟩ rfl ?_
      refine b_istore_n C dX12_ghosts_32 rfl [(3, .int u15), (0, .ref (ad B x0)), (1, .int x1), (2, .int x2)] (by decide) rfl ?_
      refine b_iload_n C dX12_ghosts_33 3 rfl rfl ?_
      refine b_if_ne C (tgt := 48) dX12_ghosts_34 (by decide) (fun c16 => ?_) (fun c16 => ?_)
      · have hf := if_s c16 hf
        refine b_iload_n C dX12_ghosts_48 3 rfl rfl ?_
        refine b_iconst C (v := 1) dX12_ghosts_49 (by decide) ?_
        refine b_icmp_ne C (tgt := 64) dX12_ghosts_50 (by decide) (fun c17 => ?_) (fun c17 => ?_)
        · have hf := if_s c17 hf
          refine b_aload_n C dX12_ghosts_64 1 rfl rfl ?_
          refine b_iload_n C dX12_ghosts_65 2 rfl rfl ?_
          obtain ⟨u20, d18, k19, hf⟩ := cb_s hf
          refine b_cVI C [] dX12_ghosts_66 (kX12_laysParts l D cy B k19) lv_X12_214 ⟨rfl, rfl, Nat.le_of_ble_eq_true rfl, Nat.le_of_ble_eq_true rfl⟩ h1 (by decide) rfl (Nat.le_of_ble_eq_true rfl) ⟨Nat.zero_le _, Nat.zero_le _⟩ rfl ?_
          refine b_sub [(0, .ref (ad B x0)), (1, .int x1), (2, .int x2)] [1, 2, 3] rfl ?_
          exact tX12_ghosts_69 C hr hlocks hf
        · have hf := it_s c17 hf
          refine b_aload_n C dX12_ghosts_53 1 rfl rfl ?_
          refine b_iload_n C dX12_ghosts_54 0 rfl rfl ?_
          obtain ⟨u23, d21, k22, hf⟩ := cb_s hf
          refine b_cVI C [] dX12_ghosts_55 (kX12_barredBy l D cy B k22) lv_X12_229 ⟨rfl, rfl, Nat.le_of_ble_eq_true rfl, Nat.le_of_ble_eq_true rfl⟩ h1 (by decide) rfl (Nat.le_of_ble_eq_true rfl) ⟨Nat.zero_le _, Nat.zero_le _⟩ rfl ?_
          obtain ⟨u26, d24, k25, hf⟩ := cb_s hf
          refine b_cSI C [] dX12_ghosts_58 (kX12_bitsOf l D cy B k25) lv_X12_226 ⟨rfl, rfl, Nat.le_of_ble_eq_true rfl, Nat.le_of_ble_eq_true rfl⟩ rfl (Nat.le_of_ble_eq_true rfl) ⟨Nat.zero_le _, Nat.zero_le _⟩ rfl ?_
          refine b_goto C (tgt := 69) dX12_ghosts_61 (by decide) ?_
          refine b_sub [(0, .ref (ad B x0)), (1, .int x1), (2, .int x2)] [1, 2, 3] rfl ?_
          exact tX12_ghosts_69 C hr hlocks hf
      · have hf := it_s c16 hf
        refine b_iload_n C dX12_ghosts_37 0 rfl rfl ?_
        refine b_iload_n C dX12_ghosts_38 2 rfl rfl ?_
        refine b_iconst C (v := (-1)) dX12_ghosts_39 (by decide) ?_
        refine b_ixor C dX12_ghosts_40 ?_
        refine b_iand C dX12_ghosts_41 ?_
        obtain ⟨u29, d27, k28, hf⟩ := cb_s hf
        refine b_cSI C [] dX12_ghosts_42 (kX12_bitsOf l D cy B k28) lv_X12_226 ⟨rfl, rfl, Nat.le_of_ble_eq_true rfl, Nat.le_of_ble_eq_true rfl⟩ rfl (Nat.le_of_ble_eq_true rfl) ⟨Nat.zero_le _, Nat.zero_le _⟩ rfl ?_
        refine b_goto C (tgt := 69) dX12_ghosts_45 (by decide) ?_
        refine b_sub [(0, .ref (ad B x0)), (1, .int x1), (2, .int x2)] [1, 2, 3] rfl ?_
        exact tX12_ghosts_69 C hr hlocks hf
    · have hf := it_s c12 hf
      refine b_sub [(0, .ref (ad B x0)), (1, .int x1), (2, .int x2)] [0, 1, 2] rfl ?_
      exact tX12_ghosts_25 C hr hlocks hf
theorem kX12_ghosts (l : Launch) (D : va_G) (cy : Nat → ClassId) (B : Bs) {N : Nat} {g : Gs} {x0 : Nat} {x1 : Int32} {x2 : Int32} {vz : Int32} {dz : Ds} {d : Ds} (hf : fX12_ghosts N g x0 x1 x2 d = some (vz, dz)) : Met l yX12_ghosts (.code yX12_ghosts cX12_ghosts 4 (some .int) :: wl) rmX12_ghosts (PC D cy B [.ref (ad B x0), .int x1, .int x2] g d) (QI D cy B vz g dz) 0 0 (wA B) :=
  met_of (by decide +kernel) (Nat.le_of_ble_eq_true rfl) (fun p e s m args below meth c C hr hlocks _ => b_sub [(0, .ref (ad B x0)), (1, .int x1), (2, .int x2)] [0, 1, 2] rfl (tX12_ghosts_E C hr hlocks hf))
/-! KeyMatrixModel.changes(I)V -/
theorem dX12_changes_0 : decode cX12_changes 0 = .ok (.aload_n 0, 1) := by decide +kernel
theorem dX12_changes_1 : decode cX12_changes 1 = .ok (.getfield 40, 3) := by decide +kernel
theorem dX12_changes_4 : decode cX12_changes 4 = .ok (.sipush 355, 3) := by decide +kernel
theorem dX12_changes_7 : decode cX12_changes 7 = .ok (.iload_n 1, 1) := by decide +kernel
theorem dX12_changes_8 : decode cX12_changes 8 = .ok (.iadd, 1) := by decide +kernel
theorem dX12_changes_9 : decode cX12_changes 9 = .ok (.iconst 0, 1) := by decide +kernel
theorem dX12_changes_10 : decode cX12_changes 10 = .ok (.iastore, 1) := by decide +kernel
theorem dX12_changes_11 : decode cX12_changes 11 = .ok (.aload_n 0, 1) := by decide +kernel
theorem dX12_changes_12 : decode cX12_changes 12 = .ok (.getfield 40, 3) := by decide +kernel
theorem dX12_changes_15 : decode cX12_changes 15 = .ok (.sipush 353, 3) := by decide +kernel
theorem dX12_changes_18 : decode cX12_changes 18 = .ok (.dup2, 1) := by decide +kernel
theorem dX12_changes_19 : decode cX12_changes 19 = .ok (.iaload, 1) := by decide +kernel
theorem dX12_changes_20 : decode cX12_changes 20 = .ok (.iconst 1, 1) := by decide +kernel
theorem dX12_changes_21 : decode cX12_changes 21 = .ok (.iload_n 1, 1) := by decide +kernel
theorem dX12_changes_22 : decode cX12_changes 22 = .ok (.ishl, 1) := by decide +kernel
theorem dX12_changes_23 : decode cX12_changes 23 = .ok (.ixor, 1) := by decide +kernel
theorem dX12_changes_24 : decode cX12_changes 24 = .ok (.iastore, 1) := by decide +kernel
theorem dX12_changes_25 : decode cX12_changes 25 = .ok (.aload_n 0, 1) := by decide +kernel
theorem dX12_changes_26 : decode cX12_changes 26 = .ok (.getfield 40, 3) := by decide +kernel
theorem dX12_changes_29 : decode cX12_changes 29 = .ok (.sipush 353, 3) := by decide +kernel
theorem dX12_changes_32 : decode cX12_changes 32 = .ok (.iaload, 1) := by decide +kernel
theorem dX12_changes_33 : decode cX12_changes 33 = .ok (.iload_n 1, 1) := by decide +kernel
theorem dX12_changes_34 : decode cX12_changes 34 = .ok (.invokestatic 210, 3) := by decide +kernel
theorem dX12_changes_37 : decode cX12_changes 37 = .ok (.istore_n 2, 1) := by decide +kernel
theorem dX12_changes_38 : decode cX12_changes 38 = .ok (.sipush 1678, 3) := by decide +kernel
theorem dX12_changes_41 : decode cX12_changes 41 = .ok (.iconst 3, 1) := by decide +kernel
theorem dX12_changes_42 : decode cX12_changes 42 = .ok (.aload_n 0, 1) := by decide +kernel
theorem dX12_changes_43 : decode cX12_changes 43 = .ok (.getfield 40, 3) := by decide +kernel
theorem dX12_changes_46 : decode cX12_changes 46 = .ok (.sipush 557, 3) := by decide +kernel
theorem dX12_changes_49 : decode cX12_changes 49 = .ok (.iaload, 1) := by decide +kernel
theorem dX12_changes_50 : decode cX12_changes 50 = .ok (.imul, 1) := by decide +kernel
theorem dX12_changes_51 : decode cX12_changes 51 = .ok (.iadd, 1) := by decide +kernel
theorem dX12_changes_52 : decode cX12_changes 52 = .ok (.istore_n 3, 1) := by decide +kernel
theorem dX12_changes_53 : decode cX12_changes 53 = .ok (.aload_n 0, 1) := by decide +kernel
theorem dX12_changes_54 : decode cX12_changes 54 = .ok (.getfield 40, 3) := by decide +kernel
theorem dX12_changes_57 : decode cX12_changes 57 = .ok (.iload_n 3, 1) := by decide +kernel
theorem dX12_changes_58 : decode cX12_changes 58 = .ok (.iload_n 1, 1) := by decide +kernel
theorem dX12_changes_59 : decode cX12_changes 59 = .ok (.iastore, 1) := by decide +kernel
theorem dX12_changes_60 : decode cX12_changes 60 = .ok (.aload_n 0, 1) := by decide +kernel
theorem dX12_changes_61 : decode cX12_changes 61 = .ok (.getfield 40, 3) := by decide +kernel
theorem dX12_changes_64 : decode cX12_changes 64 = .ok (.iload_n 3, 1) := by decide +kernel
theorem dX12_changes_65 : decode cX12_changes 65 = .ok (.iconst 1, 1) := by decide +kernel
theorem dX12_changes_66 : decode cX12_changes 66 = .ok (.iadd, 1) := by decide +kernel
theorem dX12_changes_67 : decode cX12_changes 67 = .ok (.iload_n 2, 1) := by decide +kernel
theorem dX12_changes_68 : decode cX12_changes 68 = .ok (.ifCond .eq 7, 3) := by decide +kernel
theorem dX12_changes_71 : decode cX12_changes 71 = .ok (.iconst 1, 1) := by decide +kernel
theorem dX12_changes_72 : decode cX12_changes 72 = .ok (.goto 4, 3) := by decide +kernel
theorem dX12_changes_75 : decode cX12_changes 75 = .ok (.iconst 0, 1) := by decide +kernel
theorem dX12_changes_76 : decode cX12_changes 76 = .ok (.iastore, 1) := by decide +kernel
theorem dX12_changes_77 : decode cX12_changes 77 = .ok (.aload_n 0, 1) := by decide +kernel
theorem dX12_changes_78 : decode cX12_changes 78 = .ok (.getfield 40, 3) := by decide +kernel
theorem dX12_changes_81 : decode cX12_changes 81 = .ok (.iload_n 3, 1) := by decide +kernel
theorem dX12_changes_82 : decode cX12_changes 82 = .ok (.iconst 2, 1) := by decide +kernel
theorem dX12_changes_83 : decode cX12_changes 83 = .ok (.iadd, 1) := by decide +kernel
theorem dX12_changes_84 : decode cX12_changes 84 = .ok (.aload_n 0, 1) := by decide +kernel
theorem dX12_changes_85 : decode cX12_changes 85 = .ok (.getfield 40, 3) := by decide +kernel
theorem dX12_changes_88 : decode cX12_changes 88 = .ok (.sipush 354, 3) := by decide +kernel
theorem dX12_changes_91 : decode cX12_changes 91 = .ok (.iaload, 1) := by decide +kernel
theorem dX12_changes_92 : decode cX12_changes 92 = .ok (.iastore, 1) := by decide +kernel
theorem dX12_changes_93 : decode cX12_changes 93 = .ok (.aload_n 0, 1) := by decide +kernel
theorem dX12_changes_94 : decode cX12_changes 94 = .ok (.getfield 40, 3) := by decide +kernel
theorem dX12_changes_97 : decode cX12_changes 97 = .ok (.sipush 557, 3) := by decide +kernel
theorem dX12_changes_100 : decode cX12_changes 100 = .ok (.dup2, 1) := by decide +kernel
theorem dX12_changes_101 : decode cX12_changes 101 = .ok (.iaload, 1) := by decide +kernel
theorem dX12_changes_102 : decode cX12_changes 102 = .ok (.iconst 1, 1) := by decide +kernel
theorem dX12_changes_103 : decode cX12_changes 103 = .ok (.iadd, 1) := by decide +kernel
theorem dX12_changes_104 : decode cX12_changes 104 = .ok (.iastore, 1) := by decide +kernel
theorem dX12_changes_105 : decode cX12_changes 105 = .ok (.aload_n 0, 1) := by decide +kernel
theorem dX12_changes_106 : decode cX12_changes 106 = .ok (.getfield 40, 3) := by decide +kernel
theorem dX12_changes_109 : decode cX12_changes 109 = .ok (.sipush 556, 3) := by decide +kernel
theorem dX12_changes_112 : decode cX12_changes 112 = .ok (.dup2, 1) := by decide +kernel
theorem dX12_changes_113 : decode cX12_changes 113 = .ok (.iaload, 1) := by decide +kernel
theorem dX12_changes_114 : decode cX12_changes 114 = .ok (.iconst 1, 1) := by decide +kernel
theorem dX12_changes_115 : decode cX12_changes 115 = .ok (.iadd, 1) := by decide +kernel
theorem dX12_changes_116 : decode cX12_changes 116 = .ok (.iastore, 1) := by decide +kernel
theorem dX12_changes_117 : decode cX12_changes 117 = .ok (.aload_n 0, 1) := by decide +kernel
theorem dX12_changes_118 : decode cX12_changes 118 = .ok (.getfield 40, 3) := by decide +kernel
theorem dX12_changes_121 : decode cX12_changes 121 = .ok (.sipush 507, 3) := by decide +kernel
theorem dX12_changes_124 : decode cX12_changes 124 = .ok (.iload_n 1, 1) := by decide +kernel
theorem dX12_changes_125 : decode cX12_changes 125 = .ok (.iadd, 1) := by decide +kernel
theorem dX12_changes_126 : decode cX12_changes 126 = .ok (.aload_n 0, 1) := by decide +kernel
theorem dX12_changes_127 : decode cX12_changes 127 = .ok (.getfield 40, 3) := by decide +kernel
theorem dX12_changes_130 : decode cX12_changes 130 = .ok (.sipush 354, 3) := by decide +kernel
theorem dX12_changes_133 : decode cX12_changes 133 = .ok (.iaload, 1) := by decide +kernel
theorem dX12_changes_134 : decode cX12_changes 134 = .ok (.iastore, 1) := by decide +kernel
theorem dX12_changes_135 : decode cX12_changes 135 = .ok (.iload_n 2, 1) := by decide +kernel
theorem dX12_changes_136 : decode cX12_changes 136 = .ok (.ifCond .eq 38, 3) := by decide +kernel
theorem dX12_changes_139 : decode cX12_changes 139 = .ok (.aload_n 0, 1) := by decide +kernel
theorem dX12_changes_140 : decode cX12_changes 140 = .ok (.getfield 40, 3) := by decide +kernel
theorem dX12_changes_143 : decode cX12_changes 143 = .ok (.sipush 459, 3) := by decide +kernel
theorem dX12_changes_146 : decode cX12_changes 146 = .ok (.iload_n 1, 1) := by decide +kernel
theorem dX12_changes_147 : decode cX12_changes 147 = .ok (.iadd, 1) := by decide +kernel
theorem dX12_changes_148 : decode cX12_changes 148 = .ok (.dup2, 1) := by decide +kernel
theorem dX12_changes_149 : decode cX12_changes 149 = .ok (.iaload, 1) := by decide +kernel
theorem dX12_changes_150 : decode cX12_changes 150 = .ok (.iconst 1, 1) := by decide +kernel
theorem dX12_changes_151 : decode cX12_changes 151 = .ok (.iadd, 1) := by decide +kernel
theorem dX12_changes_152 : decode cX12_changes 152 = .ok (.iastore, 1) := by decide +kernel
theorem dX12_changes_153 : decode cX12_changes 153 = .ok (.aload_n 0, 1) := by decide +kernel
theorem dX12_changes_154 : decode cX12_changes 154 = .ok (.getfield 40, 3) := by decide +kernel
theorem dX12_changes_157 : decode cX12_changes 157 = .ok (.sipush 531, 3) := by decide +kernel
theorem dX12_changes_160 : decode cX12_changes 160 = .ok (.iload_n 1, 1) := by decide +kernel
theorem dX12_changes_161 : decode cX12_changes 161 = .ok (.iadd, 1) := by decide +kernel
theorem dX12_changes_162 : decode cX12_changes 162 = .ok (.aload_n 0, 1) := by decide +kernel
theorem dX12_changes_163 : decode cX12_changes 163 = .ok (.getfield 40, 3) := by decide +kernel
theorem dX12_changes_166 : decode cX12_changes 166 = .ok (.sipush 354, 3) := by decide +kernel
theorem dX12_changes_169 : decode cX12_changes 169 = .ok (.iaload, 1) := by decide +kernel
theorem dX12_changes_170 : decode cX12_changes 170 = .ok (.iastore, 1) := by decide +kernel
theorem dX12_changes_171 : decode cX12_changes 171 = .ok (.goto 51, 3) := by decide +kernel
theorem dX12_changes_174 : decode cX12_changes 174 = .ok (.aload_n 0, 1) := by decide +kernel
theorem dX12_changes_175 : decode cX12_changes 175 = .ok (.getfield 40, 3) := by decide +kernel
theorem dX12_changes_178 : decode cX12_changes 178 = .ok (.sipush 354, 3) := by decide +kernel
theorem dX12_changes_181 : decode cX12_changes 181 = .ok (.iaload, 1) := by decide +kernel
theorem dX12_changes_182 : decode cX12_changes 182 = .ok (.aload_n 0, 1) := by decide +kernel
theorem dX12_changes_183 : decode cX12_changes 183 = .ok (.getfield 40, 3) := by decide +kernel
theorem dX12_changes_186 : decode cX12_changes 186 = .ok (.sipush 531, 3) := by decide +kernel
theorem dX12_changes_189 : decode cX12_changes 189 = .ok (.iload_n 1, 1) := by decide +kernel
theorem dX12_changes_190 : decode cX12_changes 190 = .ok (.iadd, 1) := by decide +kernel
theorem dX12_changes_191 : decode cX12_changes 191 = .ok (.iaload, 1) := by decide +kernel
theorem dX12_changes_192 : decode cX12_changes 192 = .ok (.isub, 1) := by decide +kernel
theorem dX12_changes_193 : decode cX12_changes 193 = .ok (.istore 4, 2) := by decide +kernel
theorem dX12_changes_195 : decode cX12_changes 195 = .ok (.iload 4, 2) := by decide +kernel
theorem dX12_changes_197 : decode cX12_changes 197 = .ok (.aload_n 0, 1) := by decide +kernel
theorem dX12_changes_198 : decode cX12_changes 198 = .ok (.getfield 40, 3) := by decide +kernel
theorem dX12_changes_201 : decode cX12_changes 201 = .ok (.sipush 483, 3) := by decide +kernel
theorem dX12_changes_204 : decode cX12_changes 204 = .ok (.iload_n 1, 1) := by decide +kernel
theorem dX12_changes_205 : decode cX12_changes 205 = .ok (.iadd, 1) := by decide +kernel
theorem dX12_changes_206 : decode cX12_changes 206 = .ok (.iaload, 1) := by decide +kernel
theorem dX12_changes_207 : decode cX12_changes 207 = .ok (.if_icmp .le 15, 3) := by decide +kernel
theorem dX12_changes_210 : decode cX12_changes 210 = .ok (.aload_n 0, 1) := by decide +kernel
theorem dX12_changes_211 : decode cX12_changes 211 = .ok (.getfield 40, 3) := by decide +kernel
theorem dX12_changes_214 : decode cX12_changes 214 = .ok (.sipush 483, 3) := by decide +kernel
theorem dX12_changes_217 : decode cX12_changes 217 = .ok (.iload_n 1, 1) := by decide +kernel
theorem dX12_changes_218 : decode cX12_changes 218 = .ok (.iadd, 1) := by decide +kernel
theorem dX12_changes_219 : decode cX12_changes 219 = .ok (.iload 4, 2) := by decide +kernel
theorem dX12_changes_221 : decode cX12_changes 221 = .ok (.iastore, 1) := by decide +kernel
theorem dX12_changes_222 : decode cX12_changes 222 = .ok (.return_, 1) := by decide +kernel
def rmX12_changes : Room := { frames := 1, cells := 0, slots := 0, locals := 21 }
set_option maxRecDepth 100000 in
def fX12_changes_J222 (N : Nat) (g : Gs) (x0 : Nat) (x1 : Int32) (d : Ds) : Option (Unit × Ds) := some ((), d)
set_option maxHeartbeats 4000000 in
set_option maxRecDepth 100000 in
theorem tX12_changes_222 {p : Program} {l : Launch} {e : Env} {s : State} {m : MethodId} {args : Array Value} {below : List Frame} {meth : Method} {c : Code} {D : va_G} {cy : Nat → ClassId} {B : Bs} (C : Cx p s m args c cX12_changes 5 RX12 D cy B) (hr : meth.sig.returnType = none) (hlocks : meth.locks = false) {N : Nat} {g : Gs} {x0 : Nat} {x1 : Int32}  {dz : Ds} {d : Ds} (hf : fX12_changes_J222 N g x0 x1 d = some ((), dz)) : WB p l e rmX12_changes s m args below meth c 5 D cy B 0 0 (MQ below (QV D cy B g dz) args s 0 0 (wA B)) g d [(0, .ref (ad B x0)), (1, .int x1)] 222 [] := by
  unfold fX12_changes_J222 at hf
  exact b_vret C hr hlocks hf dX12_changes_222
set_option maxRecDepth 100000 in
def fX12_changes_J195 (N : Nat) (g : Gs) (x0 : Nat) (x1 : Int32) (y4 : Int32) (d : Ds) : Option (Unit × Ds) := gd (chk g x0 11) <| ob (gR g x0 17) fun r35 => (gd (chk g r35 102) <| gd (¬ (((483 : Int32) + x1) < 0 ∨ gL g r35 ≤ ((483 : Int32) + x1).toNatClampNeg)) <| if y4 ≤ (dI d r35 ((483 : Int32) + x1).toNatClampNeg) then (fX12_changes_J222 N g x0 x1 d) else (bd (sI d r35 ((483 : Int32) + x1).toNatClampNeg y4) fun d39 => (fX12_changes_J222 N g x0 x1 d39)))
set_option maxHeartbeats 4000000 in
set_option maxRecDepth 100000 in
theorem tX12_changes_195 {p : Program} {l : Launch} {e : Env} {s : State} {m : MethodId} {args : Array Value} {below : List Frame} {meth : Method} {c : Code} {D : va_G} {cy : Nat → ClassId} {B : Bs} (C : Cx p s m args c cX12_changes 5 RX12 D cy B) (hr : meth.sig.returnType = none) (hlocks : meth.locks = false) {N : Nat} {g : Gs} {x0 : Nat} {x1 : Int32}  {dz : Ds} {y4 : Int32} {d : Ds} (hf : fX12_changes_J195 N g x0 x1 y4 d = some ((), dz)) : WB p l e rmX12_changes s m args below meth c 5 D cy B 0 0 (MQ below (QV D cy B g dz) args s 0 0 (wA B)) g d [(0, .ref (ad B x0)), (1, .int x1), (4, .int y4)] 195 [] := by
  unfold fX12_changes_J195 at hf
  refine b_iload C dX12_changes_195 2 rfl ?_
  refine b_aload_n C dX12_changes_197 0 rfl rfl ?_
  obtain ⟨h34, hf⟩ := gd_s hf
  obtain ⟨r35, er35, hf⟩ := ob_s hf
  refine b_gR C dX12_changes_198 fl_X12_40 h34 er35 ?_
  refine b_sipush C (v := 483) dX12_changes_201 (by decide) ?_
  refine b_iload_n C dX12_changes_204 1 rfl rfl ?_
  refine b_iadd C dX12_changes_205 ?_
  obtain ⟨h36, hf⟩ := gd_s hf
  obtain ⟨h37, hf⟩ := gd_s hf
  refine b_iald C h36 h37 dX12_changes_206 ?_
  refine b_icmp_le C (tgt := 222) dX12_changes_207 (by decide) (fun c38 => ?_) (fun c38 => ?_)
  · have hf := it_s c38 hf
    refine b_sub [(0, .ref (ad B x0)), (1, .int x1)] [0, 1] rfl ?_
    exact tX12_changes_222 C hr hlocks hf
  · have hf := if_s c38 hf
    refine b_aload_n C dX12_changes_210 0 rfl rfl ?_
    refine b_gR C dX12_changes_211 fl_X12_40 h34 er35 ?_
    refine b_sipush C (v := 483) dX12_changes_214 (by decide) ?_
    refine b_iload_n C dX12_changes_217 1 rfl rfl ?_
    refine b_iadd C dX12_changes_218 ?_
    refine b_iload C dX12_changes_219 2 rfl ?_
    obtain ⟨d39, ed39, hf⟩ := bd_s hf
    refine b_iast C h36 h37 ed39 dX12_changes_221 ?_
    refine b_sub [(0, .ref (ad B x0)), (1, .int x1)] [0, 1] rfl ?_
    exact tX12_changes_222 C hr hlocks hf
set_option maxRecDepth 100000 in
def fX12_changes_J76 (N : Nat) (g : Gs) (x0 : Nat) (x1 : Int32) (y2 : Int32) (y3 : Int32) (z0 : Int32) (z1 : Int32) (z2 : Nat) (d : Ds) : Option (Unit × Ds) := gd (chk g z2 102) <| gd (¬ (z1 < 0 ∨ gL g z2 ≤ z1.toNatClampNeg)) <| bd (sI d z2 z1.toNatClampNeg z0) fun d18 => (gd (chk g x0 11) <| ob (gR g x0 17) fun r20 => (gd (chk g r20 102) <| gd (¬ ((354 : Int32) < 0 ∨ gL g r20 ≤ (354 : Int32).toNatClampNeg)) <| gd (¬ ((y3 + 2) < 0 ∨ gL g r20 ≤ (y3 + 2).toNatClampNeg)) <| bd (sI d18 r20 (y3 + 2).toNatClampNeg (dI d18 r20 (354 : Int32).toNatClampNeg)) fun d24 => (gd (¬ ((557 : Int32) < 0 ∨ gL g r20 ≤ (557 : Int32).toNatClampNeg)) <| bd (sI d24 r20 (557 : Int32).toNatClampNeg ((dI d24 r20 (557 : Int32).toNatClampNeg) + 1)) fun d26 => (gd (¬ ((556 : Int32) < 0 ∨ gL g r20 ≤ (556 : Int32).toNatClampNeg)) <| bd (sI d26 r20 (556 : Int32).toNatClampNeg ((dI d26 r20 (556 : Int32).toNatClampNeg) + 1)) fun d28 => (gd (¬ (((507 : Int32) + x1) < 0 ∨ gL g r20 ≤ ((507 : Int32) + x1).toNatClampNeg)) <| bd (sI d28 r20 ((507 : Int32) + x1).toNatClampNeg (dI d28 r20 (354 : Int32).toNatClampNeg)) fun d30 => (if y2 = 0 then (gd (¬ (((531 : Int32) + x1) < 0 ∨ gL g r20 ≤ ((531 : Int32) + x1).toNatClampNeg)) <| bd (((dI d30 r20 (354 : Int32).toNatClampNeg) - (dI d30 r20 ((531 : Int32) + x1).toNatClampNeg))) fun u33 => (fX12_changes_J195 N g x0 x1 u33 d30)) else (gd (¬ (((459 : Int32) + x1) < 0 ∨ gL g r20 ≤ ((459 : Int32) + x1).toNatClampNeg)) <| bd (sI d30 r20 ((459 : Int32) + x1).toNatClampNeg ((dI d30 r20 ((459 : Int32) + x1).toNatClampNeg) + 1)) fun d41 => (gd (¬ (((531 : Int32) + x1) < 0 ∨ gL g r20 ≤ ((531 : Int32) + x1).toNatClampNeg)) <| bd (sI d41 r20 ((531 : Int32) + x1).toNatClampNeg (dI d41 r20 (354 : Int32).toNatClampNeg)) fun d43 => (fX12_changes_J222 N g x0 x1 d43)))))))))
set_option maxHeartbeats 4000000 in
set_option maxRecDepth 100000 in
theorem tX12_changes_76 {p : Program} {l : Launch} {e : Env} {s : State} {m : MethodId} {args : Array Value} {below : List Frame} {meth : Method} {c : Code} {D : va_G} {cy : Nat → ClassId} {B : Bs} (C : Cx p s m args c cX12_changes 5 RX12 D cy B) (hr : meth.sig.returnType = none) (hlocks : meth.locks = false) {N : Nat} {g : Gs} {x0 : Nat} {x1 : Int32}  {dz : Ds} {y2 : Int32} {y3 : Int32} {z0 : Int32} {z1 : Int32} {z2 : Nat} {d : Ds} (hf : fX12_changes_J76 N g x0 x1 y2 y3 z0 z1 z2 d = some ((), dz)) : WB p l e rmX12_changes s m args below meth c 5 D cy B 0 0 (MQ below (QV D cy B g dz) args s 0 0 (wA B)) g d [(0, .ref (ad B x0)), (1, .int x1), (2, .int y2), (3, .int y3)] 76 [.int z0, .int z1, .ref (ad B z2)] := by
  unfold fX12_changes_J76 at hf
  obtain ⟨h16, hf⟩ := gd_s hf
  obtain ⟨h17, hf⟩ := gd_s hf
  obtain ⟨d18, ed18, hf⟩ := bd_s hf
  refine b_iast C h16 h17 ed18 dX12_changes_76 ?_
  refine b_aload_n C dX12_changes_77 0 rfl rfl ?_
  obtain ⟨h19, hf⟩ := gd_s hf
  obtain ⟨r20, er20, hf⟩ := ob_s hf
  refine b_gR C dX12_changes_78 fl_X12_40 h19 er20 ?_
  refine b_iload_n C dX12_changes_81 3 rfl rfl ?_
  refine b_iconst C (v := 2) dX12_changes_82 (by decide) ?_
  refine b_iadd C dX12_changes_83 ?_
  refine b_aload_n C dX12_changes_84 0 rfl rfl ?_
  refine b_gR C dX12_changes_85 fl_X12_40 h19 er20 ?_
  refine b_sipush C (v := 354) dX12_changes_88 (by decide) ?_
  obtain ⟨h21, hf⟩ := gd_s hf
  obtain ⟨h22, hf⟩ := gd_s hf
  refine b_iald C h21 h22 dX12_changes_91 ?_
  obtain ⟨h23, hf⟩ := gd_s hf
  obtain ⟨d24, ed24, hf⟩ := bd_s hf
  refine b_iast C h21 h23 ed24 dX12_changes_92 ?_
  refine b_aload_n C dX12_changes_93 0 rfl rfl ?_
  refine b_gR C dX12_changes_94 fl_X12_40 h19 er20 ?_
  refine b_sipush C (v := 557) dX12_changes_97 (by decide) ?_
  refine b_dup2 C dX12_changes_100 rfl rfl ?_
  obtain ⟨h25, hf⟩ := gd_s hf
  refine b_iald C h21 h25 dX12_changes_101 ?_
  refine b_iconst C (v := 1) dX12_changes_102 (by decide) ?_
  refine b_iadd C dX12_changes_103 ?_
  obtain ⟨d26, ed26, hf⟩ := bd_s hf
  refine b_iast C h21 h25 ed26 dX12_changes_104 ?_
  refine b_aload_n C dX12_changes_105 0 rfl rfl ?_
  refine b_gR C dX12_changes_106 fl_X12_40 h19 er20 ?_
  refine b_sipush C (v := 556) dX12_changes_109 (by decide) ?_
  refine b_dup2 C dX12_changes_112 rfl rfl ?_
  obtain ⟨h27, hf⟩ := gd_s hf
  refine b_iald C h21 h27 dX12_changes_113 ?_
  refine b_iconst C (v := 1) dX12_changes_114 (by decide) ?_
  refine b_iadd C dX12_changes_115 ?_
  obtain ⟨d28, ed28, hf⟩ := bd_s hf
  refine b_iast C h21 h27 ed28 dX12_changes_116 ?_
  refine b_aload_n C dX12_changes_117 0 rfl rfl ?_
  refine b_gR C dX12_changes_118 fl_X12_40 h19 er20 ?_
  refine b_sipush C (v := 507) dX12_changes_121 (by decide) ?_
  refine b_iload_n C dX12_changes_124 1 rfl rfl ?_
  refine b_iadd C dX12_changes_125 ?_
  refine b_aload_n C dX12_changes_126 0 rfl rfl ?_
  refine b_gR C dX12_changes_127 fl_X12_40 h19 er20 ?_
  refine b_sipush C (v := 354) dX12_changes_130 (by decide) ?_
  refine b_iald C h21 h22 dX12_changes_133 ?_
  obtain ⟨h29, hf⟩ := gd_s hf
  obtain ⟨d30, ed30, hf⟩ := bd_s hf
  refine b_iast C h21 h29 ed30 dX12_changes_134 ?_
  refine b_iload_n C dX12_changes_135 2 rfl rfl ?_
  refine b_if_eq C (tgt := 174) dX12_changes_136 (by decide) (fun c31 => ?_) (fun c31 => ?_)
  · have hf := it_s c31 hf
    refine b_aload_n C dX12_changes_174 0 rfl rfl ?_
    refine b_gR C dX12_changes_175 fl_X12_40 h19 er20 ?_
    refine b_sipush C (v := 354) dX12_changes_178 (by decide) ?_
    refine b_iald C h21 h22 dX12_changes_181 ?_
    refine b_aload_n C dX12_changes_182 0 rfl rfl ?_
    refine b_gR C dX12_changes_183 fl_X12_40 h19 er20 ?_
    refine b_sipush C (v := 531) dX12_changes_186 (by decide) ?_
    refine b_iload_n C dX12_changes_189 1 rfl rfl ?_
    refine b_iadd C dX12_changes_190 ?_
    obtain ⟨h32, hf⟩ := gd_s hf
    refine b_iald C h21 h32 dX12_changes_191 ?_
    refine b_isub C dX12_changes_192 ?_
    obtain ⟨u33, eu33, hf⟩ := bd_s hf
    refine b_topI eu33 ?_
    refine b_istore C dX12_changes_193 [(4, .int u33), (0, .ref (ad B x0)), (1, .int x1), (2, .int y2), (3, .int y3)] (by decide) rfl ?_
    refine b_sub [(0, .ref (ad B x0)), (1, .int x1), (4, .int u33)] [1, 2, 0] rfl ?_
    exact tX12_changes_195 C hr hlocks hf
  · have hf := if_s c31 hf
    refine b_aload_n C dX12_changes_139 0 rfl rfl ?_
    refine b_gR C dX12_changes_140 fl_X12_40 h19 er20 ?_
    refine b_sipush C (v := 459) dX12_changes_143 (by decide) ?_
    refine b_iload_n C dX12_changes_146 1 rfl rfl ?_
    refine b_iadd C dX12_changes_147 ?_
    refine b_dup2 C dX12_changes_148 rfl rfl ?_
    obtain ⟨h40, hf⟩ := gd_s hf
    refine b_iald C h21 h40 dX12_changes_149 ?_
    refine b_iconst C (v := 1) dX12_changes_150 (by decide) ?_
    refine b_iadd C dX12_changes_151 ?_
    obtain ⟨d41, ed41, hf⟩ := bd_s hf
    refine b_iast C h21 h40 ed41 dX12_changes_152 ?_
    refine b_aload_n C dX12_changes_153 0 rfl rfl ?_
    refine b_gR C dX12_changes_154 fl_X12_40 h19 er20 ?_
    refine b_sipush C (v := 531) dX12_changes_157 (by decide) ?_
    refine b_iload_n C dX12_changes_160 1 rfl rfl ?_
    refine b_iadd C dX12_changes_161 ?_
    refine b_aload_n C dX12_changes_162 0 rfl rfl ?_
    refine b_gR C dX12_changes_163 fl_X12_40 h19 er20 ?_
    refine b_sipush C (v := 354) dX12_changes_166 (by decide) ?_
    refine b_iald C h21 h22 dX12_changes_169 ?_
    obtain ⟨h42, hf⟩ := gd_s hf
    obtain ⟨d43, ed43, hf⟩ := bd_s hf
    refine b_iast C h21 h42 ed43 dX12_changes_170 ?_
    refine b_goto C (tgt := 222) dX12_changes_171 (by decide) ?_
    refine b_sub [(0, .ref (ad B x0)), (1, .int x1)] [0, 1] rfl ?_
    exact tX12_changes_222 C hr hlocks hf
set_option maxRecDepth 100000 in
def fX12_changes (N : Nat) (g : Gs) (x0 : Nat) (x1 : Int32) (d : Ds) : Option (Unit × Ds) := gd (chk g x0 11) <| ob (gR g x0 17) fun r2 => (gd (chk g r2 102) <| gd (¬ (((355 : Int32) + x1) < 0 ∨ gL g r2 ≤ ((355 : Int32) + x1).toNatClampNeg)) <| bd (sI d r2 ((355 : Int32) + x1).toNatClampNeg 0) fun d5 => (gd (¬ ((353 : Int32) < 0 ∨ gL g r2 ≤ (353 : Int32).toNatClampNeg)) <| bd (sI d5 r2 (353 : Int32).toNatClampNeg ((dI d5 r2 (353 : Int32).toNatClampNeg) ^^^ ((1 : Int32) <<< (x1 &&& 31)))) fun d7 => (cb (fX12_has N g (dI d7 r2 (353 : Int32).toNatClampNeg) x1 d7) fun u10 d8 => (gd (¬ ((557 : Int32) < 0 ∨ gL g r2 ≤ (557 : Int32).toNatClampNeg)) <| bd (((1678 : Int32) + ((3 : Int32) * (dI d8 r2 (557 : Int32).toNatClampNeg)))) fun u12 => (gd (¬ (u12 < 0 ∨ gL g r2 ≤ u12.toNatClampNeg)) <| bd (sI d8 r2 u12.toNatClampNeg x1) fun d14 => (if u10 = 0 then (fX12_changes_J76 N g x0 x1 u10 u12 0 (u12 + 1) r2 d14) else (fX12_changes_J76 N g x0 x1 u10 u12 1 (u12 + 1) r2 d14)))))))
set_option maxHeartbeats 4000000 in
set_option maxRecDepth 100000 in
theorem tX12_changes_E {p : Program} {l : Launch} {e : Env} {s : State} {m : MethodId} {args : Array Value} {below : List Frame} {meth : Method} {c : Code} {D : va_G} {cy : Nat → ClassId} {B : Bs} (C : Cx p s m args c cX12_changes 5 RX12 D cy B) (hr : meth.sig.returnType = none) (hlocks : meth.locks = false) {N : Nat} {g : Gs} {x0 : Nat} {x1 : Int32}  {dz : Ds} {d : Ds} (hf : fX12_changes N g x0 x1 d = some ((), dz)) : WB p l e rmX12_changes s m args below meth c 5 D cy B 0 0 (MQ below (QV D cy B g dz) args s 0 0 (wA B)) g d [(0, .ref (ad B x0)), (1, .int x1)] 0 [] := by
  unfold fX12_changes at hf
  refine b_aload_n C dX12_changes_0 0 rfl rfl ?_
  obtain ⟨h1, hf⟩ := gd_s hf
  obtain ⟨r2, er2, hf⟩ := ob_s hf
  refine b_gR C dX12_changes_1 fl_X12_40 h1 er2 ?_
  refine b_sipush C (v := 355) dX12_changes_4 (by decide) ?_
  refine b_iload_n C dX12_changes_7 1 rfl rfl ?_
  refine b_iadd C dX12_changes_8 ?_
  refine b_iconst C (v := 0) dX12_changes_9 (by decide) ?_
  obtain ⟨h3, hf⟩ := gd_s hf
  obtain ⟨h4, hf⟩ := gd_s hf
  obtain ⟨d5, ed5, hf⟩ := bd_s hf
  refine b_iast C h3 h4 ed5 dX12_changes_10 ?_
  refine b_aload_n C dX12_changes_11 0 rfl rfl ?_
  refine b_gR C dX12_changes_12 fl_X12_40 h1 er2 ?_
  refine b_sipush C (v := 353) dX12_changes_15 (by decide) ?_
  refine b_dup2 C dX12_changes_18 rfl rfl ?_
  obtain ⟨h6, hf⟩ := gd_s hf
  refine b_iald C h3 h6 dX12_changes_19 ?_
  refine b_iconst C (v := 1) dX12_changes_20 (by decide) ?_
  refine b_iload_n C dX12_changes_21 1 rfl rfl ?_
  refine b_ishl C dX12_changes_22 ?_
  refine b_ixor C dX12_changes_23 ?_
  obtain ⟨d7, ed7, hf⟩ := bd_s hf
  refine b_iast C h3 h6 ed7 dX12_changes_24 ?_
  refine b_aload_n C dX12_changes_25 0 rfl rfl ?_
  refine b_gR C dX12_changes_26 fl_X12_40 h1 er2 ?_
  refine b_sipush C (v := 353) dX12_changes_29 (by decide) ?_
  refine b_iald C h3 h6 dX12_changes_32 ?_
  refine b_iload_n C dX12_changes_33 1 rfl rfl ?_
  obtain ⟨u10, d8, k9, hf⟩ := cb_s hf
  refine b_cSI C [] dX12_changes_34 (kX12_has l D cy B k9) lv_X12_210 ⟨rfl, rfl, Nat.le_of_ble_eq_true rfl, Nat.le_of_ble_eq_true rfl⟩ rfl (Nat.le_of_ble_eq_true rfl) ⟨Nat.zero_le _, Nat.zero_le _⟩ rfl ?_
  refine b_istore_n C dX12_changes_37 rfl [(2, .int u10), (0, .ref (ad B x0)), (1, .int x1)] (by decide) rfl ?_
  refine b_sipush C (v := 1678) dX12_changes_38 (by decide) ?_
  refine b_iconst C (v := 3) dX12_changes_41 (by decide) ?_
  refine b_aload_n C dX12_changes_42 1 rfl rfl ?_
  refine b_gR C dX12_changes_43 fl_X12_40 h1 er2 ?_
  refine b_sipush C (v := 557) dX12_changes_46 (by decide) ?_
  obtain ⟨h11, hf⟩ := gd_s hf
  refine b_iald C h3 h11 dX12_changes_49 ?_
  refine b_imul C dX12_changes_50 ?_
  refine b_iadd C dX12_changes_51 ?_
  obtain ⟨u12, eu12, hf⟩ := bd_s hf
  refine b_topI eu12 ?_
  refine b_istore_n C dX12_changes_52 rfl [(3, .int u12), (2, .int u10), (0, .ref (ad B x0)), (1, .int x1)] (by decide) rfl ?_
  refine b_aload_n C dX12_changes_53 2 rfl rfl ?_
  refine b_gR C dX12_changes_54 fl_X12_40 h1 er2 ?_
  refine b_iload_n C dX12_changes_57 0 rfl rfl ?_
  refine b_iload_n C dX12_changes_58 3 rfl rfl ?_
  obtain ⟨h13, hf⟩ := gd_s hf
  obtain ⟨d14, ed14, hf⟩ := bd_s hf
  refine b_iast C h3 h13 ed14 dX12_changes_59 ?_
  refine b_aload_n C dX12_changes_60 2 rfl rfl ?_
  refine b_gR C dX12_changes_61 fl_X12_40 h1 er2 ?_
  refine b_iload_n C dX12_changes_64 0 rfl rfl ?_
  refine b_iconst C (v := 1) dX12_changes_65 (by decide) ?_
  refine b_iadd C dX12_changes_66 ?_
  refine b_iload_n C dX12_changes_67 1 rfl rfl ?_
  refine b_if_eq C (tgt := 75) dX12_changes_68 (by decide) (fun c15 => ?_) (fun c15 => ?_)
  · have hf := it_s c15 hf
    refine b_iconst C (v := 0) dX12_changes_75 (by decide) ?_
    refine b_sub [(0, .ref (ad B x0)), (1, .int x1), (2, .int u10), (3, .int u12)] [2, 3, 1, 0] rfl ?_
    exact tX12_changes_76 C hr hlocks hf
  · have hf := if_s c15 hf
    refine b_iconst C (v := 1) dX12_changes_71 (by decide) ?_
    refine b_goto C (tgt := 76) dX12_changes_72 (by decide) ?_
    refine b_sub [(0, .ref (ad B x0)), (1, .int x1), (2, .int u10), (3, .int u12)] [2, 3, 1, 0] rfl ?_
    exact tX12_changes_76 C hr hlocks hf
theorem kX12_changes (l : Launch) (D : va_G) (cy : Nat → ClassId) (B : Bs) {N : Nat} {g : Gs} {x0 : Nat} {x1 : Int32}  {dz : Ds} {d : Ds} (hf : fX12_changes N g x0 x1 d = some ((), dz)) : Met l yX12_changes (.code yX12_changes cX12_changes 5 none :: wl) rmX12_changes (PC D cy B [.ref (ad B x0), .int x1] g d) (QV D cy B g dz) 0 0 (wA B) :=
  met_of (by decide +kernel) (Nat.le_of_ble_eq_true rfl) (fun p e s m args below meth c C hr hlocks _ => b_sub [(0, .ref (ad B x0)), (1, .int x1)] [0, 1] rfl (tX12_changes_E C hr hlocks hf))
/-! KeyMatrixModel.keyAt(I)I -/
theorem dX12_keyAt_0 : decode cX12_keyAt 0 = .ok (.aload_n 0, 1) := by decide +kernel
theorem dX12_keyAt_1 : decode cX12_keyAt 1 = .ok (.getfield 40, 3) := by decide +kernel
theorem dX12_keyAt_4 : decode cX12_keyAt 4 = .ok (.sipush 1678, 3) := by decide +kernel
theorem dX12_keyAt_7 : decode cX12_keyAt 7 = .ok (.iconst 3, 1) := by decide +kernel
theorem dX12_keyAt_8 : decode cX12_keyAt 8 = .ok (.iload_n 1, 1) := by decide +kernel
theorem dX12_keyAt_9 : decode cX12_keyAt 9 = .ok (.imul, 1) := by decide +kernel
theorem dX12_keyAt_10 : decode cX12_keyAt 10 = .ok (.iadd, 1) := by decide +kernel
theorem dX12_keyAt_11 : decode cX12_keyAt 11 = .ok (.iaload, 1) := by decide +kernel
theorem dX12_keyAt_12 : decode cX12_keyAt 12 = .ok (.ireturn, 1) := by decide +kernel
def rmX12_keyAt : Room := { frames := 0, cells := 0, slots := 0, locals := 0 }
set_option maxRecDepth 100000 in
def fX12_keyAt (N : Nat) (g : Gs) (x0 : Nat) (x1 : Int32) (d : Ds) : Option (Int32 × Ds) := gd (chk g x0 11) <| ob (gR g x0 17) fun r2 => (gd (chk g r2 102) <| gd (¬ (((1678 : Int32) + ((3 : Int32) * x1)) < 0 ∨ gL g r2 ≤ ((1678 : Int32) + ((3 : Int32) * x1)).toNatClampNeg)) <| some ((dI d r2 ((1678 : Int32) + ((3 : Int32) * x1)).toNatClampNeg), d))
set_option maxHeartbeats 4000000 in
set_option maxRecDepth 100000 in
theorem tX12_keyAt_E {p : Program} {l : Launch} {e : Env} {s : State} {m : MethodId} {args : Array Value} {below : List Frame} {meth : Method} {c : Code} {D : va_G} {cy : Nat → ClassId} {B : Bs} (C : Cx p s m args c cX12_keyAt 2 RX12 D cy B) (hr : meth.sig.returnType = (some .int)) (hlocks : meth.locks = false) {N : Nat} {g : Gs} {x0 : Nat} {x1 : Int32} {vz : Int32} {dz : Ds} {d : Ds} (hf : fX12_keyAt N g x0 x1 d = some (vz, dz)) : WB p l e rmX12_keyAt s m args below meth c 2 D cy B 0 0 (MQ below (QI D cy B vz g dz) args s 0 0 (wA B)) g d [(0, .ref (ad B x0)), (1, .int x1)] 0 [] := by
  unfold fX12_keyAt at hf
  refine b_aload_n C dX12_keyAt_0 0 rfl rfl ?_
  obtain ⟨h1, hf⟩ := gd_s hf
  obtain ⟨r2, er2, hf⟩ := ob_s hf
  refine b_gR C dX12_keyAt_1 fl_X12_40 h1 er2 ?_
  refine b_sipush C (v := 1678) dX12_keyAt_4 (by decide) ?_
  refine b_iconst C (v := 3) dX12_keyAt_7 (by decide) ?_
  refine b_iload_n C dX12_keyAt_8 1 rfl rfl ?_
  refine b_imul C dX12_keyAt_9 ?_
  refine b_iadd C dX12_keyAt_10 ?_
  obtain ⟨h3, hf⟩ := gd_s hf
  obtain ⟨h4, hf⟩ := gd_s hf
  refine b_iald C h3 h4 dX12_keyAt_11 ?_
  exact b_iret C hr hlocks hf dX12_keyAt_12
theorem kX12_keyAt (l : Launch) (D : va_G) (cy : Nat → ClassId) (B : Bs) {N : Nat} {g : Gs} {x0 : Nat} {x1 : Int32} {vz : Int32} {dz : Ds} {d : Ds} (hf : fX12_keyAt N g x0 x1 d = some (vz, dz)) : Met l yX12_keyAt (.code yX12_keyAt cX12_keyAt 2 (some .int) :: wl) rmX12_keyAt (PC D cy B [.ref (ad B x0), .int x1] g d) (QI D cy B vz g dz) 0 0 (wA B) :=
  met_of (by decide +kernel) (Nat.le_of_ble_eq_true rfl) (fun p e s m args below meth c C hr hlocks _ => b_sub [(0, .ref (ad B x0)), (1, .int x1)] [0, 1] rfl (tX12_keyAt_E C hr hlocks hf))
/-! KeyMatrixModel.isDownAt(I)Z -/
theorem dX12_isDownAt_0 : decode cX12_isDownAt 0 = .ok (.aload_n 0, 1) := by decide +kernel
theorem dX12_isDownAt_1 : decode cX12_isDownAt 1 = .ok (.getfield 40, 3) := by decide +kernel
theorem dX12_isDownAt_4 : decode cX12_isDownAt 4 = .ok (.sipush 1678, 3) := by decide +kernel
theorem dX12_isDownAt_7 : decode cX12_isDownAt 7 = .ok (.iconst 3, 1) := by decide +kernel
theorem dX12_isDownAt_8 : decode cX12_isDownAt 8 = .ok (.iload_n 1, 1) := by decide +kernel
theorem dX12_isDownAt_9 : decode cX12_isDownAt 9 = .ok (.imul, 1) := by decide +kernel
theorem dX12_isDownAt_10 : decode cX12_isDownAt 10 = .ok (.iadd, 1) := by decide +kernel
theorem dX12_isDownAt_11 : decode cX12_isDownAt 11 = .ok (.iconst 1, 1) := by decide +kernel
theorem dX12_isDownAt_12 : decode cX12_isDownAt 12 = .ok (.iadd, 1) := by decide +kernel
theorem dX12_isDownAt_13 : decode cX12_isDownAt 13 = .ok (.iaload, 1) := by decide +kernel
theorem dX12_isDownAt_14 : decode cX12_isDownAt 14 = .ok (.iconst 1, 1) := by decide +kernel
theorem dX12_isDownAt_15 : decode cX12_isDownAt 15 = .ok (.if_icmp .ne 7, 3) := by decide +kernel
theorem dX12_isDownAt_18 : decode cX12_isDownAt 18 = .ok (.iconst 1, 1) := by decide +kernel
theorem dX12_isDownAt_19 : decode cX12_isDownAt 19 = .ok (.goto 4, 3) := by decide +kernel
theorem dX12_isDownAt_22 : decode cX12_isDownAt 22 = .ok (.iconst 0, 1) := by decide +kernel
theorem dX12_isDownAt_23 : decode cX12_isDownAt 23 = .ok (.ireturn, 1) := by decide +kernel
def rmX12_isDownAt : Room := { frames := 0, cells := 0, slots := 0, locals := 0 }
set_option maxRecDepth 100000 in
def fX12_isDownAt_J23 (N : Nat) (g : Gs) (x0 : Nat) (x1 : Int32) (z0 : Int32) (d : Ds) : Option (Int32 × Ds) := gd (z0 = 0 ∨ z0 = 1) <| some (z0, d)
set_option maxHeartbeats 4000000 in
set_option maxRecDepth 100000 in
theorem tX12_isDownAt_23 {p : Program} {l : Launch} {e : Env} {s : State} {m : MethodId} {args : Array Value} {below : List Frame} {meth : Method} {c : Code} {D : va_G} {cy : Nat → ClassId} {B : Bs} (C : Cx p s m args c cX12_isDownAt 2 RX12 D cy B) (hr : meth.sig.returnType = (some .boolean)) (hlocks : meth.locks = false) {N : Nat} {g : Gs} {x0 : Nat} {x1 : Int32} {vz : Int32} {dz : Ds} {z0 : Int32} {d : Ds} (hf : fX12_isDownAt_J23 N g x0 x1 z0 d = some (vz, dz)) : WB p l e rmX12_isDownAt s m args below meth c 2 D cy B 0 0 (MQ below (QI D cy B vz g dz) args s 0 0 (wA B)) g d [(0, .ref (ad B x0)), (1, .int x1)] 23 [.int z0] := by
  unfold fX12_isDownAt_J23 at hf
  obtain ⟨h6, hf⟩ := gd_s hf
  exact b_zret C hr hlocks h6 hf dX12_isDownAt_23
set_option maxRecDepth 100000 in
def fX12_isDownAt (N : Nat) (g : Gs) (x0 : Nat) (x1 : Int32) (d : Ds) : Option (Int32 × Ds) := gd (chk g x0 11) <| ob (gR g x0 17) fun r2 => (gd (chk g r2 102) <| gd (¬ ((((1678 : Int32) + ((3 : Int32) * x1)) + 1) < 0 ∨ gL g r2 ≤ (((1678 : Int32) + ((3 : Int32) * x1)) + 1).toNatClampNeg)) <| if (dI d r2 (((1678 : Int32) + ((3 : Int32) * x1)) + 1).toNatClampNeg) = (1 : Int32) then (fX12_isDownAt_J23 N g x0 x1 1 d) else (fX12_isDownAt_J23 N g x0 x1 0 d))
set_option maxHeartbeats 4000000 in
set_option maxRecDepth 100000 in
theorem tX12_isDownAt_E {p : Program} {l : Launch} {e : Env} {s : State} {m : MethodId} {args : Array Value} {below : List Frame} {meth : Method} {c : Code} {D : va_G} {cy : Nat → ClassId} {B : Bs} (C : Cx p s m args c cX12_isDownAt 2 RX12 D cy B) (hr : meth.sig.returnType = (some .boolean)) (hlocks : meth.locks = false) {N : Nat} {g : Gs} {x0 : Nat} {x1 : Int32} {vz : Int32} {dz : Ds} {d : Ds} (hf : fX12_isDownAt N g x0 x1 d = some (vz, dz)) : WB p l e rmX12_isDownAt s m args below meth c 2 D cy B 0 0 (MQ below (QI D cy B vz g dz) args s 0 0 (wA B)) g d [(0, .ref (ad B x0)), (1, .int x1)] 0 [] := by
  unfold fX12_isDownAt at hf
  refine b_aload_n C dX12_isDownAt_0 0 rfl rfl ?_
  obtain ⟨h1, hf⟩ := gd_s hf
  obtain ⟨r2, er2, hf⟩ := ob_s hf
  refine b_gR C dX12_isDownAt_1 fl_X12_40 h1 er2 ?_
  refine b_sipush C (v := 1678) dX12_isDownAt_4 (by decide) ?_
  refine b_iconst C (v := 3) dX12_isDownAt_7 (by decide) ?_
  refine b_iload_n C dX12_isDownAt_8 1 rfl rfl ?_
  refine b_imul C dX12_isDownAt_9 ?_
  refine b_iadd C dX12_isDownAt_10 ?_
  refine b_iconst C (v := 1) dX12_isDownAt_11 (by decide) ?_
  refine b_iadd C dX12_isDownAt_12 ?_
  obtain ⟨h3, hf⟩ := gd_s hf
  obtain ⟨h4, hf⟩ := gd_s hf
  refine b_iald C h3 h4 dX12_isDownAt_13 ?_
  refine b_iconst C (v := 1) dX12_isDownAt_14 (by decide) ?_
  refine b_icmp_ne C (tgt := 22) dX12_isDownAt_15 (by decide) (fun c5 => ?_) (fun c5 => ?_)
  · have hf := if_s c5 hf
    refine b_iconst C (v := 0) dX12_isDownAt_22 (by decide) ?_
    refine b_sub [(0, .ref (ad B x0)), (1, .int x1)] [0, 1] rfl ?_
    exact tX12_isDownAt_23 C hr hlocks hf
  · have hf := it_s c5 hf
    refine b_iconst C (v := 1) dX12_isDownAt_18 (by decide) ?_
    refine b_goto C (tgt := 23) dX12_isDownAt_19 (by decide) ?_
    refine b_sub [(0, .ref (ad B x0)), (1, .int x1)] [0, 1] rfl ?_
    exact tX12_isDownAt_23 C hr hlocks hf
theorem kX12_isDownAt (l : Launch) (D : va_G) (cy : Nat → ClassId) (B : Bs) {N : Nat} {g : Gs} {x0 : Nat} {x1 : Int32} {vz : Int32} {dz : Ds} {d : Ds} (hf : fX12_isDownAt N g x0 x1 d = some (vz, dz)) : Met l yX12_isDownAt (.code yX12_isDownAt cX12_isDownAt 2 (some .boolean) :: wl) rmX12_isDownAt (PC D cy B [.ref (ad B x0), .int x1] g d) (QI D cy B vz g dz) 0 0 (wA B) :=
  met_of (by decide +kernel) (Nat.le_of_ble_eq_true rfl) (fun p e s m args below meth c C hr hlocks _ => b_sub [(0, .ref (ad B x0)), (1, .int x1)] [0, 1] rfl (tX12_isDownAt_E C hr hlocks hf))
/-! KeyMatrixModel.drops(I)V -/
theorem dX12_drops_0 : decode cX12_drops 0 = .ok (.sipush 1678, 3) := by decide +kernel
theorem dX12_drops_3 : decode cX12_drops 3 = .ok (.iconst 3, 1) := by decide +kernel
theorem dX12_drops_4 : decode cX12_drops 4 = .ok (.iload_n 1, 1) := by decide +kernel
theorem dX12_drops_5 : decode cX12_drops 5 = .ok (.imul, 1) := by decide +kernel
theorem dX12_drops_6 : decode cX12_drops 6 = .ok (.iadd, 1) := by decide +kernel
theorem dX12_drops_7 : decode cX12_drops 7 = .ok (.istore_n 2, 1) := by decide +kernel
theorem dX12_drops_8 : decode cX12_drops 8 = .ok (.iload_n 2, 1) := by decide +kernel
theorem dX12_drops_9 : decode cX12_drops 9 = .ok (.sipush 1678, 3) := by decide +kernel
theorem dX12_drops_12 : decode cX12_drops 12 = .ok (.iconst 3, 1) := by decide +kernel
theorem dX12_drops_13 : decode cX12_drops 13 = .ok (.aload_n 0, 1) := by decide +kernel
theorem dX12_drops_14 : decode cX12_drops 14 = .ok (.getfield 40, 3) := by decide +kernel
theorem dX12_drops_17 : decode cX12_drops 17 = .ok (.sipush 557, 3) := by decide +kernel
theorem dX12_drops_20 : decode cX12_drops 20 = .ok (.iaload, 1) := by decide +kernel
theorem dX12_drops_21 : decode cX12_drops 21 = .ok (.imul, 1) := by decide +kernel
theorem dX12_drops_22 : decode cX12_drops 22 = .ok (.iadd, 1) := by decide +kernel
theorem dX12_drops_23 : decode cX12_drops 23 = .ok (.iconst 3, 1) := by decide +kernel
theorem dX12_drops_24 : decode cX12_drops 24 = .ok (.isub, 1) := by decide +kernel
theorem dX12_drops_25 : decode cX12_drops 25 = .ok (.if_icmp .ge 23, 3) := by decide +kernel
theorem dX12_drops_28 : decode cX12_drops 28 = .ok (.aload_n 0, 1) := by decide +kernel
theorem dX12_drops_29 : decode cX12_drops 29 = .ok (.getfield 40, 3) := by decide +kernel
theorem dX12_drops_32 : decode cX12_drops 32 = .ok (.iload_n 2, 1) := by decide +kernel
theorem dX12_drops_33 : decode cX12_drops 33 = .ok (.aload_n 0, 1) := by decide +kernel
theorem dX12_drops_34 : decode cX12_drops 34 = .ok (.getfield 40, 3) := by decide +kernel
theorem dX12_drops_37 : decode cX12_drops 37 = .ok (.iload_n 2, 1) := by decide +kernel
theorem dX12_drops_38 : decode cX12_drops 38 = .ok (.iconst 3, 1) := by decide +kernel
theorem dX12_drops_39 : decode cX12_drops 39 = .ok (.iadd, 1) := by decide +kernel
theorem dX12_drops_40 : decode cX12_drops 40 = .ok (.iaload, 1) := by decide +kernel
theorem dX12_drops_41 : decode cX12_drops 41 = .ok (.iastore, 1) := by decide +kernel
theorem dX12_drops_42 : decode cX12_drops 42 = .ok (.iinc 2 1, 3) := by decide +kernel
theorem dX12_drops_45 : decode cX12_drops 45 = .ok (.goto (-37), 3) := by decide +kernel
theorem dX12_drops_48 : decode cX12_drops 48 = .ok (.aload_n 0, 1) := by decide +kernel
theorem dX12_drops_49 : decode cX12_drops 49 = .ok (.getfield 40, 3) := by decide +kernel
theorem dX12_drops_52 : decode cX12_drops 52 = .ok (.sipush 557, 3) := by decide +kernel
theorem dX12_drops_55 : decode cX12_drops 55 = .ok (.dup2, 1) := by decide +kernel
theorem dX12_drops_56 : decode cX12_drops 56 = .ok (.iaload, 1) := by decide +kernel
theorem dX12_drops_57 : decode cX12_drops 57 = .ok (.iconst 1, 1) := by decide +kernel
theorem dX12_drops_58 : decode cX12_drops 58 = .ok (.isub, 1) := by decide +kernel
theorem dX12_drops_59 : decode cX12_drops 59 = .ok (.iastore, 1) := by decide +kernel
theorem dX12_drops_60 : decode cX12_drops 60 = .ok (.return_, 1) := by decide +kernel
def rmX12_drops : Room := { frames := 0, cells := 0, slots := 0, locals := 0 }
set_option maxRecDepth 100000 in
def fX12_drops_B8 (N : Nat) (g : Gs) (x0 : Nat) (x1 : Int32) (K8 : Int32 × Ds → Option (Unit × Ds)) (y2 : Int32) (d : Ds) : Option (Unit × Ds) := gd (chk g x0 11) <| ob (gR g x0 17) fun r3 => (gd (chk g r3 102) <| gd (¬ ((557 : Int32) < 0 ∨ gL g r3 ≤ (557 : Int32).toNatClampNeg)) <| if (((1678 : Int32) + ((3 : Int32) * (dI d r3 (557 : Int32).toNatClampNeg))) - 3) ≤ y2 then (bd (sI d r3 (557 : Int32).toNatClampNeg ((dI d r3 (557 : Int32).toNatClampNeg) - 1)) fun d7 => (some ((), d7))) else (gd (¬ ((y2 + 3) < 0 ∨ gL g r3 ≤ (y2 + 3).toNatClampNeg)) <| gd (¬ (y2 < 0 ∨ gL g r3 ≤ y2.toNatClampNeg)) <| bd (sI d r3 y2.toNatClampNeg (dI d r3 (y2 + 3).toNatClampNeg)) fun d10 => (bd (y2 + 1) fun u11 => (K8 (u11, d10)))))
set_option maxHeartbeats 4000000 in
set_option maxRecDepth 100000 in
theorem tX12_drops_8 {p : Program} {l : Launch} {e : Env} {s : State} {m : MethodId} {args : Array Value} {below : List Frame} {meth : Method} {c : Code} {D : va_G} {cy : Nat → ClassId} {B : Bs} (C : Cx p s m args c cX12_drops 3 RX12 D cy B) (hr : meth.sig.returnType = none) (hlocks : meth.locks = false) {N : Nat} {g : Gs} {x0 : Nat} {x1 : Int32}  {dz : Ds} {K8 : Int32 × Ds → Option (Unit × Ds)} (hK8 : ∀ a, K8 a = some ((), dz) → WB p l e rmX12_drops s m args below meth c 3 D cy B 0 0 (MQ below (QV D cy B g dz) args s 0 0 (wA B)) g a.2 [(0, .ref (ad B x0)), (1, .int x1), (2, .int a.1)] 8 []) {y2 : Int32} {d : Ds} (hf : fX12_drops_B8 N g x0 x1 K8 y2 d = some ((), dz)) : WB p l e rmX12_drops s m args below meth c 3 D cy B 0 0 (MQ below (QV D cy B g dz) args s 0 0 (wA B)) g d [(0, .ref (ad B x0)), (1, .int x1), (2, .int y2)] 8 [] := by
  unfold fX12_drops_B8 at hf
  refine b_iload_n C dX12_drops_8 2 rfl rfl ?_
  refine b_sipush C (v := 1678) dX12_drops_9 (by decide) ?_
  refine b_iconst C (v := 3) dX12_drops_12 (by decide) ?_
  refine b_aload_n C dX12_drops_13 0 rfl rfl ?_
  obtain ⟨h2, hf⟩ := gd_s hf
  obtain ⟨r3, er3, hf⟩ := ob_s hf
  refine b_gR C dX12_drops_14 fl_X12_40 h2 er3 ?_
  refine b_sipush C (v := 557) dX12_drops_17 (by decide) ?_
  obtain ⟨h4, hf⟩ := gd_s hf
  obtain ⟨h5, hf⟩ := gd_s hf
  refine b_iald C h4 h5 dX12_drops_20 ?_
  refine b_imul C dX12_drops_21 ?_
  refine b_iadd C dX12_drops_22 ?_
  refine b_iconst C (v := 3) dX12_drops_23 (by decide) ?_
  refine b_isub C dX12_drops_24 ?_
  refine b_icmp_ge C (tgt := 48) dX12_drops_25 (by decide) (fun c6 => ?_) (fun c6 => ?_)
  · have hf := it_s c6 hf
    refine b_aload_n C dX12_drops_48 0 rfl rfl ?_
    refine b_gR C dX12_drops_49 fl_X12_40 h2 er3 ?_
    refine b_sipush C (v := 557) dX12_drops_52 (by decide) ?_
    refine b_dup2 C dX12_drops_55 rfl rfl ?_
    refine b_iald C h4 h5 dX12_drops_56 ?_
    refine b_iconst C (v := 1) dX12_drops_57 (by decide) ?_
    refine b_isub C dX12_drops_58 ?_
    obtain ⟨d7, ed7, hf⟩ := bd_s hf
    refine b_iast C h4 h5 ed7 dX12_drops_59 ?_
    exact b_vret C hr hlocks hf dX12_drops_60
  · have hf := if_s c6 hf
    refine b_aload_n C dX12_drops_28 0 rfl rfl ?_
    refine b_gR C dX12_drops_29 fl_X12_40 h2 er3 ?_
    refine b_iload_n C dX12_drops_32 2 rfl rfl ?_
    refine b_aload_n C dX12_drops_33 0 rfl rfl ?_
    refine b_gR C dX12_drops_34 fl_X12_40 h2 er3 ?_
    refine b_iload_n C dX12_drops_37 2 rfl rfl ?_
    refine b_iconst C (v := 3) dX12_drops_38 (by decide) ?_
    refine b_iadd C dX12_drops_39 ?_
    obtain ⟨h8, hf⟩ := gd_s hf
    refine b_iald C h4 h8 dX12_drops_40 ?_
    obtain ⟨h9, hf⟩ := gd_s hf
    obtain ⟨d10, ed10, hf⟩ := bd_s hf
    refine b_iast C h4 h9 ed10 dX12_drops_41 ?_
    obtain ⟨u11, eu11, hf⟩ := bd_s hf
    refine b_iinc C dX12_drops_42 2 rfl (by rw [eu11]; rfl) [(2, .int u11), (0, .ref (ad B x0)), (1, .int x1)] (by decide) rfl ?_
    refine b_goto C (tgt := 8) dX12_drops_45 (by decide) ?_
    refine b_sub [(0, .ref (ad B x0)), (1, .int x1), (2, .int u11)] [1, 2, 0] rfl ?_
    exact hK8 (u11, d10) hf
def fX12_drops_L8 (N : Nat) (g : Gs) (x0 : Nat) (x1 : Int32) : Int32 × Ds → Option (Unit × Ds) := lp (fun K8 a => fX12_drops_B8 N g x0 x1 K8 a.1 a.2) N
theorem tX12_drops_L8 {p : Program} {l : Launch} {e : Env} {s : State} {m : MethodId} {args : Array Value} {below : List Frame} {meth : Method} {c : Code} {D : va_G} {cy : Nat → ClassId} {B : Bs} (C : Cx p s m args c cX12_drops 3 RX12 D cy B) (hr : meth.sig.returnType = none) (hlocks : meth.locks = false) {N : Nat} {g : Gs} {x0 : Nat} {x1 : Int32}  {dz : Ds} (a : Int32 × Ds) (hf : fX12_drops_L8 N g x0 x1 a = some ((), dz)) : WB p l e rmX12_drops s m args below meth c 3 D cy B 0 0 (MQ below (QV D cy B g dz) args s 0 0 (wA B)) g a.2 [(0, .ref (ad B x0)), (1, .int x1), (2, .int a.1)] 8 [] :=
  lp_w (fun K8 hK8 a ha => tX12_drops_8 C hr hlocks hK8 ha) N a hf
set_option maxRecDepth 100000 in
def fX12_drops (N : Nat) (g : Gs) (x0 : Nat) (x1 : Int32) (d : Ds) : Option (Unit × Ds) := bd (((1678 : Int32) + ((3 : Int32) * x1))) fun u1 => (fX12_drops_L8 N g x0 x1 (u1, d))
set_option maxHeartbeats 4000000 in
set_option maxRecDepth 100000 in
theorem tX12_drops_E {p : Program} {l : Launch} {e : Env} {s : State} {m : MethodId} {args : Array Value} {below : List Frame} {meth : Method} {c : Code} {D : va_G} {cy : Nat → ClassId} {B : Bs} (C : Cx p s m args c cX12_drops 3 RX12 D cy B) (hr : meth.sig.returnType = none) (hlocks : meth.locks = false) {N : Nat} {g : Gs} {x0 : Nat} {x1 : Int32}  {dz : Ds} {d : Ds} (hf : fX12_drops N g x0 x1 d = some ((), dz)) : WB p l e rmX12_drops s m args below meth c 3 D cy B 0 0 (MQ below (QV D cy B g dz) args s 0 0 (wA B)) g d [(0, .ref (ad B x0)), (1, .int x1)] 0 [] := by
  unfold fX12_drops at hf
  refine b_sipush C (v := 1678) dX12_drops_0 (by decide) ?_
  refine b_iconst C (v := 3) dX12_drops_3 (by decide) ?_
  refine b_iload_n C dX12_drops_4 1 rfl rfl ?_
  refine b_imul C dX12_drops_5 ?_
  refine b_iadd C dX12_drops_6 ?_
  obtain ⟨u1, eu1, hf⟩ := bd_s hf
  refine b_topI eu1 ?_
  refine b_istore_n C dX12_drops_7 rfl [(2, .int u1), (0, .ref (ad B x0)), (1, .int x1)] (by decide) rfl ?_
  refine b_sub [(0, .ref (ad B x0)), (1, .int x1), (2, .int u1)] [1, 2, 0] rfl ?_
  exact tX12_drops_L8 C hr hlocks (u1, d) hf
theorem kX12_drops (l : Launch) (D : va_G) (cy : Nat → ClassId) (B : Bs) {N : Nat} {g : Gs} {x0 : Nat} {x1 : Int32}  {dz : Ds} {d : Ds} (hf : fX12_drops N g x0 x1 d = some ((), dz)) : Met l yX12_drops (.code yX12_drops cX12_drops 3 none :: wl) rmX12_drops (PC D cy B [.ref (ad B x0), .int x1] g d) (QV D cy B g dz) 0 0 (wA B) :=
  met_of (by decide +kernel) (Nat.le_of_ble_eq_true rfl) (fun p e s m args below meth c C hr hlocks _ => b_sub [(0, .ref (ad B x0)), (1, .int x1)] [0, 1] rfl (tX12_drops_E C hr hlocks hf))
/-! KeyMatrixModel.chordOf(I)I -/
theorem dX12_chordOf_0 : decode cX12_chordOf 0 = .ok (.iconst 0, 1) := by decide +kernel
theorem dX12_chordOf_1 : decode cX12_chordOf 1 = .ok (.istore_n 2, 1) := by decide +kernel
theorem dX12_chordOf_2 : decode cX12_chordOf 2 = .ok (.iload_n 2, 1) := by decide +kernel
theorem dX12_chordOf_3 : decode cX12_chordOf 3 = .ok (.aload_n 0, 1) := by decide +kernel
theorem dX12_chordOf_4 : decode cX12_chordOf 4 = .ok (.getfield 40, 3) := by decide +kernel
theorem dX12_chordOf_7 : decode cX12_chordOf 7 = .ok (.bipush 10, 2) := by decide +kernel
theorem dX12_chordOf_9 : decode cX12_chordOf 9 = .ok (.iaload, 1) := by decide +kernel
theorem dX12_chordOf_10 : decode cX12_chordOf 10 = .ok (.if_icmp .ge 45, 3) := by decide +kernel
theorem dX12_chordOf_13 : decode cX12_chordOf 13 = .ok (.aload_n 0, 1) := by decide +kernel
theorem dX12_chordOf_14 : decode cX12_chordOf 14 = .ok (.getfield 40, 3) := by decide +kernel
theorem dX12_chordOf_17 : decode cX12_chordOf 17 = .ok (.sipush 300, 3) := by decide +kernel
theorem dX12_chordOf_20 : decode cX12_chordOf 20 = .ok (.iconst 4, 1) := by decide +kernel
theorem dX12_chordOf_21 : decode cX12_chordOf 21 = .ok (.iload_n 2, 1) := by decide +kernel
theorem dX12_chordOf_22 : decode cX12_chordOf 22 = .ok (.imul, 1) := by decide +kernel
theorem dX12_chordOf_23 : decode cX12_chordOf 23 = .ok (.iadd, 1) := by decide +kernel
theorem dX12_chordOf_24 : decode cX12_chordOf 24 = .ok (.iaload, 1) := by decide +kernel
theorem dX12_chordOf_25 : decode cX12_chordOf 25 = .ok (.iload_n 1, 1) := by decide +kernel
theorem dX12_chordOf_26 : decode cX12_chordOf 26 = .ok (.if_icmp .eq 21, 3) := by decide +kernel
theorem dX12_chordOf_29 : decode cX12_chordOf 29 = .ok (.aload_n 0, 1) := by decide +kernel
theorem dX12_chordOf_30 : decode cX12_chordOf 30 = .ok (.getfield 40, 3) := by decide +kernel
theorem dX12_chordOf_33 : decode cX12_chordOf 33 = .ok (.sipush 300, 3) := by decide +kernel
theorem dX12_chordOf_36 : decode cX12_chordOf 36 = .ok (.iconst 4, 1) := by decide +kernel
theorem dX12_chordOf_37 : decode cX12_chordOf 37 = .ok (.iload_n 2, 1) := by decide +kernel
theorem dX12_chordOf_38 : decode cX12_chordOf 38 = .ok (.imul, 1) := by decide +kernel
theorem dX12_chordOf_39 : decode cX12_chordOf 39 = .ok (.iadd, 1) := by decide +kernel
theorem dX12_chordOf_40 : decode cX12_chordOf 40 = .ok (.iconst 1, 1) := by decide +kernel
theorem dX12_chordOf_41 : decode cX12_chordOf 41 = .ok (.iadd, 1) := by decide +kernel
theorem dX12_chordOf_42 : decode cX12_chordOf 42 = .ok (.iaload, 1) := by decide +kernel
theorem dX12_chordOf_43 : decode cX12_chordOf 43 = .ok (.iload_n 1, 1) := by decide +kernel
theorem dX12_chordOf_44 : decode cX12_chordOf 44 = .ok (.if_icmp .ne 5, 3) := by decide +kernel
theorem dX12_chordOf_47 : decode cX12_chordOf 47 = .ok (.iload_n 2, 1) := by decide +kernel
theorem dX12_chordOf_48 : decode cX12_chordOf 48 = .ok (.ireturn, 1) := by decide +kernel
theorem dX12_chordOf_49 : decode cX12_chordOf 49 = .ok (.iinc 2 1, 3) := by decide +kernel
theorem dX12_chordOf_52 : decode cX12_chordOf 52 = .ok (.goto (-50), 3) := by decide +kernel
theorem dX12_chordOf_55 : decode cX12_chordOf 55 = .ok (.iconst (-1), 1) := by decide +kernel
theorem dX12_chordOf_56 : decode cX12_chordOf 56 = .ok (.ireturn, 1) := by decide +kernel
def rmX12_chordOf : Room := { frames := 0, cells := 0, slots := 0, locals := 0 }
set_option maxRecDepth 100000 in
def fX12_chordOf_J47 (N : Nat) (g : Gs) (x0 : Nat) (x1 : Int32) (y2 : Int32) (d : Ds) : Option (Int32 × Ds) := some (y2, d)
set_option maxHeartbeats 4000000 in
set_option maxRecDepth 100000 in
theorem tX12_chordOf_47 {p : Program} {l : Launch} {e : Env} {s : State} {m : MethodId} {args : Array Value} {below : List Frame} {meth : Method} {c : Code} {D : va_G} {cy : Nat → ClassId} {B : Bs} (C : Cx p s m args c cX12_chordOf 3 RX12 D cy B) (hr : meth.sig.returnType = (some .int)) (hlocks : meth.locks = false) {N : Nat} {g : Gs} {x0 : Nat} {x1 : Int32} {vz : Int32} {dz : Ds} {y2 : Int32} {d : Ds} (hf : fX12_chordOf_J47 N g x0 x1 y2 d = some (vz, dz)) : WB p l e rmX12_chordOf s m args below meth c 3 D cy B 0 0 (MQ below (QI D cy B vz g dz) args s 0 0 (wA B)) g d [(0, .ref (ad B x0)), (1, .int x1), (2, .int y2)] 47 [] := by
  unfold fX12_chordOf_J47 at hf
  refine b_iload_n C dX12_chordOf_47 2 rfl rfl ?_
  exact b_iret C hr hlocks hf dX12_chordOf_48
set_option maxRecDepth 100000 in
def fX12_chordOf_B2 (N : Nat) (g : Gs) (x0 : Nat) (x1 : Int32) (K2 : Int32 × Ds → Option (Int32 × Ds)) (y2 : Int32) (d : Ds) : Option (Int32 × Ds) := gd (chk g x0 11) <| ob (gR g x0 17) fun r2 => (gd (chk g r2 102) <| gd (¬ ((10 : Int32) < 0 ∨ gL g r2 ≤ (10 : Int32).toNatClampNeg)) <| if (dI d r2 (10 : Int32).toNatClampNeg) ≤ y2 then (some ((-1), d)) else (gd (¬ (((300 : Int32) + ((4 : Int32) * y2)) < 0 ∨ gL g r2 ≤ ((300 : Int32) + ((4 : Int32) * y2)).toNatClampNeg)) <| if (dI d r2 ((300 : Int32) + ((4 : Int32) * y2)).toNatClampNeg) = x1 then (fX12_chordOf_J47 N g x0 x1 y2 d) else (gd (¬ ((((300 : Int32) + ((4 : Int32) * y2)) + 1) < 0 ∨ gL g r2 ≤ (((300 : Int32) + ((4 : Int32) * y2)) + 1).toNatClampNeg)) <| if (dI d r2 (((300 : Int32) + ((4 : Int32) * y2)) + 1).toNatClampNeg) = x1 then (fX12_chordOf_J47 N g x0 x1 y2 d) else (bd (y2 + 1) fun u10 => (K2 (u10, d))))))
set_option maxHeartbeats 4000000 in
set_option maxRecDepth 100000 in
theorem tX12_chordOf_2 {p : Program} {l : Launch} {e : Env} {s : State} {m : MethodId} {args : Array Value} {below : List Frame} {meth : Method} {c : Code} {D : va_G} {cy : Nat → ClassId} {B : Bs} (C : Cx p s m args c cX12_chordOf 3 RX12 D cy B) (hr : meth.sig.returnType = (some .int)) (hlocks : meth.locks = false) {N : Nat} {g : Gs} {x0 : Nat} {x1 : Int32} {vz : Int32} {dz : Ds} {K2 : Int32 × Ds → Option (Int32 × Ds)} (hK2 : ∀ a, K2 a = some (vz, dz) → WB p l e rmX12_chordOf s m args below meth c 3 D cy B 0 0 (MQ below (QI D cy B vz g dz) args s 0 0 (wA B)) g a.2 [(0, .ref (ad B x0)), (1, .int x1), (2, .int a.1)] 2 []) {y2 : Int32} {d : Ds} (hf : fX12_chordOf_B2 N g x0 x1 K2 y2 d = some (vz, dz)) : WB p l e rmX12_chordOf s m args below meth c 3 D cy B 0 0 (MQ below (QI D cy B vz g dz) args s 0 0 (wA B)) g d [(0, .ref (ad B x0)), (1, .int x1), (2, .int y2)] 2 [] := by
  unfold fX12_chordOf_B2 at hf
  refine b_iload_n C dX12_chordOf_2 2 rfl rfl ?_
  refine b_aload_n C dX12_chordOf_3 0 rfl rfl ?_
  obtain ⟨h1, hf⟩ := gd_s hf
  obtain ⟨r2, er2, hf⟩ := ob_s hf
  refine b_gR C dX12_chordOf_4 fl_X12_40 h1 er2 ?_
  refine b_bipush C (v := 10) dX12_chordOf_7 (by decide) ?_
  obtain ⟨h3, hf⟩ := gd_s hf
  obtain ⟨h4, hf⟩ := gd_s hf
  refine b_iald C h3 h4 dX12_chordOf_9 ?_
  refine b_icmp_ge C (tgt := 55) dX12_chordOf_10 (by decide) (fun c5 => ?_) (fun c5 => ?_)
  · have hf := it_s c5 hf
    refine b_iconst C (v := (-1)) dX12_chordOf_55 (by decide) ?_
    exact b_iret C hr hlocks hf dX12_chordOf_56
  · have hf := if_s c5 hf
    refine b_aload_n C dX12_chordOf_13 0 rfl rfl ?_
    refine b_gR C dX12_chordOf_14 fl_X12_40 h1 er2 ?_
    refine b_sipush C (v := 300) dX12_chordOf_17 (by decide) ?_
    refine b_iconst C (v := 4) dX12_chordOf_20 (by decide) ?_
    refine b_iload_n C dX12_chordOf_21 2 rfl rfl ?_
    refine b_imul C dX12_chordOf_22 ?_
    refine b_iadd C dX12_chordOf_23 ?_
    obtain ⟨h6, hf⟩ := gd_s hf
    refine b_iald C h3 h6 dX12_chordOf_24 ?_
    refine b_iload_n C dX12_chordOf_25 1 rfl rfl ?_
    refine b_icmp_eq C (tgt := 47) dX12_chordOf_26 (by decide) (fun c7 => ?_) (fun c7 => ?_)
    · have hf := it_s c7 hf
      refine b_sub [(0, .ref (ad B x0)), (1, .int x1), (2, .int y2)] [0, 1, 2] rfl ?_
      exact tX12_chordOf_47 C hr hlocks hf
    · have hf := if_s c7 hf
      refine b_aload_n C dX12_chordOf_29 0 rfl rfl ?_
      refine b_gR C dX12_chordOf_30 fl_X12_40 h1 er2 ?_
      refine b_sipush C (v := 300) dX12_chordOf_33 (by decide) ?_
      refine b_iconst C (v := 4) dX12_chordOf_36 (by decide) ?_
      refine b_iload_n C dX12_chordOf_37 2 rfl rfl ?_
      refine b_imul C dX12_chordOf_38 ?_
      refine b_iadd C dX12_chordOf_39 ?_
      refine b_iconst C (v := 1) dX12_chordOf_40 (by decide) ?_
      refine b_iadd C dX12_chordOf_41 ?_
      obtain ⟨h8, hf⟩ := gd_s hf
      refine b_iald C h3 h8 dX12_chordOf_42 ?_
      refine b_iload_n C dX12_chordOf_43 1 rfl rfl ?_
      refine b_icmp_ne C (tgt := 49) dX12_chordOf_44 (by decide) (fun c9 => ?_) (fun c9 => ?_)
      · have hf := if_s c9 hf
        obtain ⟨u10, eu10, hf⟩ := bd_s hf
        refine b_iinc C dX12_chordOf_49 2 rfl (by rw [eu10]; rfl) [(2, .int u10), (0, .ref (ad B x0)), (1, .int x1)] (by decide) rfl ?_
        refine b_goto C (tgt := 2) dX12_chordOf_52 (by decide) ?_
        refine b_sub [(0, .ref (ad B x0)), (1, .int x1), (2, .int u10)] [1, 2, 0] rfl ?_
        exact hK2 (u10, d) hf
      · have hf := it_s c9 hf
        refine b_sub [(0, .ref (ad B x0)), (1, .int x1), (2, .int y2)] [0, 1, 2] rfl ?_
        exact tX12_chordOf_47 C hr hlocks hf
def fX12_chordOf_L2 (N : Nat) (g : Gs) (x0 : Nat) (x1 : Int32) : Int32 × Ds → Option (Int32 × Ds) := lp (fun K2 a => fX12_chordOf_B2 N g x0 x1 K2 a.1 a.2) N
theorem tX12_chordOf_L2 {p : Program} {l : Launch} {e : Env} {s : State} {m : MethodId} {args : Array Value} {below : List Frame} {meth : Method} {c : Code} {D : va_G} {cy : Nat → ClassId} {B : Bs} (C : Cx p s m args c cX12_chordOf 3 RX12 D cy B) (hr : meth.sig.returnType = (some .int)) (hlocks : meth.locks = false) {N : Nat} {g : Gs} {x0 : Nat} {x1 : Int32} {vz : Int32} {dz : Ds} (a : Int32 × Ds) (hf : fX12_chordOf_L2 N g x0 x1 a = some (vz, dz)) : WB p l e rmX12_chordOf s m args below meth c 3 D cy B 0 0 (MQ below (QI D cy B vz g dz) args s 0 0 (wA B)) g a.2 [(0, .ref (ad B x0)), (1, .int x1), (2, .int a.1)] 2 [] :=
  lp_w (fun K2 hK2 a ha => tX12_chordOf_2 C hr hlocks hK2 ha) N a hf
set_option maxRecDepth 100000 in
def fX12_chordOf (N : Nat) (g : Gs) (x0 : Nat) (x1 : Int32) (d : Ds) : Option (Int32 × Ds) := fX12_chordOf_L2 N g x0 x1 (0, d)
set_option maxHeartbeats 4000000 in
set_option maxRecDepth 100000 in
theorem tX12_chordOf_E {p : Program} {l : Launch} {e : Env} {s : State} {m : MethodId} {args : Array Value} {below : List Frame} {meth : Method} {c : Code} {D : va_G} {cy : Nat → ClassId} {B : Bs} (C : Cx p s m args c cX12_chordOf 3 RX12 D cy B) (hr : meth.sig.returnType = (some .int)) (hlocks : meth.locks = false) {N : Nat} {g : Gs} {x0 : Nat} {x1 : Int32} {vz : Int32} {dz : Ds} {d : Ds} (hf : fX12_chordOf N g x0 x1 d = some (vz, dz)) : WB p l e rmX12_chordOf s m args below meth c 3 D cy B 0 0 (MQ below (QI D cy B vz g dz) args s 0 0 (wA B)) g d [(0, .ref (ad B x0)), (1, .int x1)] 0 [] := by
  unfold fX12_chordOf at hf
  refine b_iconst C (v := 0) dX12_chordOf_0 (by decide) ?_
  refine b_istore_n C dX12_chordOf_1 rfl [(2, .int 0), (0, .ref (ad B x0)), (1, .int x1)] (by decide) rfl ?_
  refine b_sub [(0, .ref (ad B x0)), (1, .int x1), (2, .int 0)] [1, 2, 0] rfl ?_
  exact tX12_chordOf_L2 C hr hlocks (0, d) hf
theorem kX12_chordOf (l : Launch) (D : va_G) (cy : Nat → ClassId) (B : Bs) {N : Nat} {g : Gs} {x0 : Nat} {x1 : Int32} {vz : Int32} {dz : Ds} {d : Ds} (hf : fX12_chordOf N g x0 x1 d = some (vz, dz)) : Met l yX12_chordOf (.code yX12_chordOf cX12_chordOf 3 (some .int) :: wl) rmX12_chordOf (PC D cy B [.ref (ad B x0), .int x1] g d) (QI D cy B vz g dz) 0 0 (wA B) :=
  met_of (by decide +kernel) (Nat.le_of_ble_eq_true rfl) (fun p e s m args below meth c C hr hlocks _ => b_sub [(0, .ref (ad B x0)), (1, .int x1)] [0, 1] rfl (tX12_chordOf_E C hr hlocks hf))
/-! KeyMatrixModel.stops(I)V -/
theorem dX12_stops_0 : decode cX12_stops 0 = .ok (.aload_n 0, 1) := by decide +kernel
theorem dX12_stops_1 : decode cX12_stops 1 = .ok (.getfield 40, 3) := by decide +kernel
theorem dX12_stops_4 : decode cX12_stops 4 = .ok (.sipush 379, 3) := by decide +kernel
theorem dX12_stops_7 : decode cX12_stops 7 = .ok (.iconst 3, 1) := by decide +kernel
theorem dX12_stops_8 : decode cX12_stops 8 = .ok (.iload_n 1, 1) := by decide +kernel
theorem dX12_stops_9 : decode cX12_stops 9 = .ok (.imul, 1) := by decide +kernel
theorem dX12_stops_10 : decode cX12_stops 10 = .ok (.iadd, 1) := by decide +kernel
theorem dX12_stops_11 : decode cX12_stops 11 = .ok (.iconst (-1), 1) := by decide +kernel
theorem dX12_stops_12 : decode cX12_stops 12 = .ok (.iastore, 1) := by decide +kernel
theorem dX12_stops_13 : decode cX12_stops 13 = .ok (.aload_n 0, 1) := by decide +kernel
theorem dX12_stops_14 : decode cX12_stops 14 = .ok (.getfield 40, 3) := by decide +kernel
theorem dX12_stops_17 : decode cX12_stops 17 = .ok (.sipush 379, 3) := by decide +kernel
theorem dX12_stops_20 : decode cX12_stops 20 = .ok (.iconst 3, 1) := by decide +kernel
theorem dX12_stops_21 : decode cX12_stops 21 = .ok (.iload_n 1, 1) := by decide +kernel
theorem dX12_stops_22 : decode cX12_stops 22 = .ok (.imul, 1) := by decide +kernel
theorem dX12_stops_23 : decode cX12_stops 23 = .ok (.iadd, 1) := by decide +kernel
theorem dX12_stops_24 : decode cX12_stops 24 = .ok (.iconst 1, 1) := by decide +kernel
theorem dX12_stops_25 : decode cX12_stops 25 = .ok (.iadd, 1) := by decide +kernel
theorem dX12_stops_26 : decode cX12_stops 26 = .ok (.iconst (-1), 1) := by decide +kernel
theorem dX12_stops_27 : decode cX12_stops 27 = .ok (.iastore, 1) := by decide +kernel
theorem dX12_stops_28 : decode cX12_stops 28 = .ok (.return_, 1) := by decide +kernel
def rmX12_stops : Room := { frames := 0, cells := 0, slots := 0, locals := 0 }
set_option maxRecDepth 100000 in
def fX12_stops (N : Nat) (g : Gs) (x0 : Nat) (x1 : Int32) (d : Ds) : Option (Unit × Ds) := gd (chk g x0 11) <| ob (gR g x0 17) fun r2 => (gd (chk g r2 102) <| gd (¬ (((379 : Int32) + ((3 : Int32) * x1)) < 0 ∨ gL g r2 ≤ ((379 : Int32) + ((3 : Int32) * x1)).toNatClampNeg)) <| bd (sI d r2 ((379 : Int32) + ((3 : Int32) * x1)).toNatClampNeg (-1)) fun d5 => (gd (¬ ((((379 : Int32) + ((3 : Int32) * x1)) + 1) < 0 ∨ gL g r2 ≤ (((379 : Int32) + ((3 : Int32) * x1)) + 1).toNatClampNeg)) <| bd (sI d5 r2 (((379 : Int32) + ((3 : Int32) * x1)) + 1).toNatClampNeg (-1)) fun d7 => (some ((), d7))))
set_option maxHeartbeats 4000000 in
set_option maxRecDepth 100000 in
theorem tX12_stops_E {p : Program} {l : Launch} {e : Env} {s : State} {m : MethodId} {args : Array Value} {below : List Frame} {meth : Method} {c : Code} {D : va_G} {cy : Nat → ClassId} {B : Bs} (C : Cx p s m args c cX12_stops 2 RX12 D cy B) (hr : meth.sig.returnType = none) (hlocks : meth.locks = false) {N : Nat} {g : Gs} {x0 : Nat} {x1 : Int32}  {dz : Ds} {d : Ds} (hf : fX12_stops N g x0 x1 d = some ((), dz)) : WB p l e rmX12_stops s m args below meth c 2 D cy B 0 0 (MQ below (QV D cy B g dz) args s 0 0 (wA B)) g d [(0, .ref (ad B x0)), (1, .int x1)] 0 [] := by
  unfold fX12_stops at hf
  refine b_aload_n C dX12_stops_0 0 rfl rfl ?_
  obtain ⟨h1, hf⟩ := gd_s hf
  obtain ⟨r2, er2, hf⟩ := ob_s hf
  refine b_gR C dX12_stops_1 fl_X12_40 h1 er2 ?_
  refine b_sipush C (v := 379) dX12_stops_4 (by decide) ?_
  refine b_iconst C (v := 3) dX12_stops_7 (by decide) ?_
  refine b_iload_n C dX12_stops_8 1 rfl rfl ?_
  refine b_imul C dX12_stops_9 ?_
  refine b_iadd C dX12_stops_10 ?_
  refine b_iconst C (v := (-1)) dX12_stops_11 (by decide) ?_
  obtain ⟨h3, hf⟩ := gd_s hf
  obtain ⟨h4, hf⟩ := gd_s hf
  obtain ⟨d5, ed5, hf⟩ := bd_s hf
  refine b_iast C h3 h4 ed5 dX12_stops_12 ?_
  refine b_aload_n C dX12_stops_13 0 rfl rfl ?_
  refine b_gR C dX12_stops_14 fl_X12_40 h1 er2 ?_
  refine b_sipush C (v := 379) dX12_stops_17 (by decide) ?_
  refine b_iconst C (v := 3) dX12_stops_20 (by decide) ?_
  refine b_iload_n C dX12_stops_21 1 rfl rfl ?_
  refine b_imul C dX12_stops_22 ?_
  refine b_iadd C dX12_stops_23 ?_
  refine b_iconst C (v := 1) dX12_stops_24 (by decide) ?_
  refine b_iadd C dX12_stops_25 ?_
  refine b_iconst C (v := (-1)) dX12_stops_26 (by decide) ?_
  obtain ⟨h6, hf⟩ := gd_s hf
  obtain ⟨d7, ed7, hf⟩ := bd_s hf
  refine b_iast C h3 h6 ed7 dX12_stops_27 ?_
  exact b_vret C hr hlocks hf dX12_stops_28
theorem kX12_stops (l : Launch) (D : va_G) (cy : Nat → ClassId) (B : Bs) {N : Nat} {g : Gs} {x0 : Nat} {x1 : Int32}  {dz : Ds} {d : Ds} (hf : fX12_stops N g x0 x1 d = some ((), dz)) : Met l yX12_stops (.code yX12_stops cX12_stops 2 none :: wl) rmX12_stops (PC D cy B [.ref (ad B x0), .int x1] g d) (QV D cy B g dz) 0 0 (wA B) :=
  met_of (by decide +kernel) (Nat.le_of_ble_eq_true rfl) (fun p e s m args below meth c C hr hlocks _ => b_sub [(0, .ref (ad B x0)), (1, .int x1)] [0, 1] rfl (tX12_stops_E C hr hlocks hf))
/-! KeyMatrixModel.ends(I)V -/
theorem yo_X12_chordOf : yX12_chordOf.cls ≠ "java/lang/invoke/MethodHandle" ∧ yX12_chordOf.cls ≠ "java/lang/invoke/VarHandle" ∧ (parseMethodDescriptor yX12_chordOf.desc).map (fun d => d.parameters.length) = some 1 := by decide +kernel
theorem co_X12_chordOf : Cond.code yX12_chordOf cX12_chordOf 3 (some .int) ∈ wl := mW (mT6 (List.mem_of_getElem? (i := 147) (by decide +kernel))) rfl
theorem in_X12_chordOf : Cond.initialized yX12_chordOf.cls ∈ wl := mW (mT1 (List.mem_of_getElem? (i := 12) (by decide +kernel))) rfl
theorem im_X12_chordOf : Cond.instanceMethod yX12_chordOf ∈ wl := mW (mT6 (List.mem_of_getElem? (i := 146) (by decide +kernel))) rfl
theorem se_X12_chordOf : Cond.selects yX12_chordOf.cls yX12_chordOf yX12_chordOf ∈ wl := mW (mT0 (List.mem_of_getElem? (i := 68) (by decide +kernel))) rfl
theorem lv_X12_262 : LV RX12 262 yX12_chordOf cX12_chordOf 3 (some .int) 1 11 := ⟨⟨(RX12, TX12, 33), rfl, rfl⟩, yo_X12_chordOf, mW (mT6 (List.mem_of_getElem? (i := 144) (by decide +kernel))) rfl, im_X12_chordOf, se_X12_chordOf, in_X12_chordOf, co_X12_chordOf⟩
theorem yo_X12_stops : yX12_stops.cls ≠ "java/lang/invoke/MethodHandle" ∧ yX12_stops.cls ≠ "java/lang/invoke/VarHandle" ∧ (parseMethodDescriptor yX12_stops.desc).map (fun d => d.parameters.length) = some 1 := by decide +kernel
theorem co_X12_stops : Cond.code yX12_stops cX12_stops 2 none ∈ wl := mW (mT6 (List.mem_of_getElem? (i := 151) (by decide +kernel))) rfl
theorem in_X12_stops : Cond.initialized yX12_stops.cls ∈ wl := mW (mT1 (List.mem_of_getElem? (i := 12) (by decide +kernel))) rfl
theorem im_X12_stops : Cond.instanceMethod yX12_stops ∈ wl := mW (mT6 (List.mem_of_getElem? (i := 150) (by decide +kernel))) rfl
theorem se_X12_stops : Cond.selects yX12_stops.cls yX12_stops yX12_stops ∈ wl := mW (mT0 (List.mem_of_getElem? (i := 69) (by decide +kernel))) rfl
theorem lv_X12_293 : LV RX12 293 yX12_stops cX12_stops 2 none 1 11 := ⟨⟨(RX12, TX12, 33), rfl, rfl⟩, yo_X12_stops, mW (mT6 (List.mem_of_getElem? (i := 148) (by decide +kernel))) rfl, im_X12_stops, se_X12_stops, in_X12_stops, co_X12_stops⟩
theorem dX12_ends_0 : decode cX12_ends 0 = .ok (.aload_n 0, 1) := by decide +kernel
theorem dX12_ends_1 : decode cX12_ends 1 = .ok (.iload_n 1, 1) := by decide +kernel
theorem dX12_ends_2 : decode cX12_ends 2 = .ok (.invokevirtual 262, 3) := by decide +kernel
theorem dX12_ends_5 : decode cX12_ends 5 = .ok (.istore_n 2, 1) := by decide +kernel
theorem dX12_ends_6 : decode cX12_ends 6 = .ok (.iload_n 2, 1) := by decide +kernel
theorem dX12_ends_7 : decode cX12_ends 7 = .ok (.ifCond .lt 66, 3) := by decide +kernel
theorem dX12_ends_10 : decode cX12_ends 10 = .ok (.aload_n 0, 1) := by decide +kernel
theorem dX12_ends_11 : decode cX12_ends 11 = .ok (.getfield 40, 3) := by decide +kernel
theorem dX12_ends_14 : decode cX12_ends 14 = .ok (.sipush 453, 3) := by decide +kernel
theorem dX12_ends_17 : decode cX12_ends 17 = .ok (.iaload, 1) := by decide +kernel
theorem dX12_ends_18 : decode cX12_ends 18 = .ok (.iload_n 2, 1) := by decide +kernel
theorem dX12_ends_19 : decode cX12_ends 19 = .ok (.invokestatic 210, 3) := by decide +kernel
theorem dX12_ends_22 : decode cX12_ends 22 = .ok (.ifCond .eq 51, 3) := by decide +kernel
theorem dX12_ends_25 : decode cX12_ends 25 = .ok (.aload_n 0, 1) := by decide +kernel
theorem dX12_ends_26 : decode cX12_ends 26 = .ok (.getfield 40, 3) := by decide +kernel
theorem dX12_ends_29 : decode cX12_ends 29 = .ok (.sipush 453, 3) := by decide +kernel
theorem dX12_ends_32 : decode cX12_ends 32 = .ok (.dup2, 1) := by decide +kernel
theorem dX12_ends_33 : decode cX12_ends 33 = .ok (.iaload, 1) := by decide +kernel
theorem dX12_ends_34 : decode cX12_ends 34 = .ok (.iconst 1, 1) := by decide +kernel
theorem dX12_ends_35 : decode cX12_ends 35 = .ok (.iload_n 2, 1) := by decide +kernel
theorem dX12_ends_36 : decode cX12_ends 36 = .ok (.ishl, 1) := by decide +kernel
theorem dX12_ends_37 : decode cX12_ends 37 = .ok (.ixor, 1) := by decide +kernel
theorem dX12_ends_38 : decode cX12_ends 38 = .ok (.iastore, 1) := by decide +kernel
theorem dX12_ends_39 : decode cX12_ends 39 = .ok (.aload_n 0, 1) := by decide +kernel
theorem dX12_ends_40 : decode cX12_ends 40 = .ok (.aload_n 0, 1) := by decide +kernel
theorem dX12_ends_41 : decode cX12_ends 41 = .ok (.getfield 40, 3) := by decide +kernel
theorem dX12_ends_44 : decode cX12_ends 44 = .ok (.sipush 300, 3) := by decide +kernel
theorem dX12_ends_47 : decode cX12_ends 47 = .ok (.iconst 4, 1) := by decide +kernel
theorem dX12_ends_48 : decode cX12_ends 48 = .ok (.iload_n 2, 1) := by decide +kernel
theorem dX12_ends_49 : decode cX12_ends 49 = .ok (.imul, 1) := by decide +kernel
theorem dX12_ends_50 : decode cX12_ends 50 = .ok (.iadd, 1) := by decide +kernel
theorem dX12_ends_51 : decode cX12_ends 51 = .ok (.iaload, 1) := by decide +kernel
theorem dX12_ends_52 : decode cX12_ends 52 = .ok (.invokevirtual 293, 3) := by decide +kernel
theorem dX12_ends_55 : decode cX12_ends 55 = .ok (.aload_n 0, 1) := by decide +kernel
theorem dX12_ends_56 : decode cX12_ends 56 = .ok (.aload_n 0, 1) := by decide +kernel
theorem dX12_ends_57 : decode cX12_ends 57 = .ok (.getfield 40, 3) := by decide +kernel
theorem dX12_ends_60 : decode cX12_ends 60 = .ok (.sipush 300, 3) := by decide +kernel
theorem dX12_ends_63 : decode cX12_ends 63 = .ok (.iconst 4, 1) := by decide +kernel
theorem dX12_ends_64 : decode cX12_ends 64 = .ok (.iload_n 2, 1) := by decide +kernel
theorem dX12_ends_65 : decode cX12_ends 65 = .ok (.imul, 1) := by decide +kernel
theorem dX12_ends_66 : decode cX12_ends 66 = .ok (.iadd, 1) := by decide +kernel
theorem dX12_ends_67 : decode cX12_ends 67 = .ok (.iconst 1, 1) := by decide +kernel
theorem dX12_ends_68 : decode cX12_ends 68 = .ok (.iadd, 1) := by decide +kernel
theorem dX12_ends_69 : decode cX12_ends 69 = .ok (.iaload, 1) := by decide +kernel
theorem dX12_ends_70 : decode cX12_ends 70 = .ok (.invokevirtual 293, 3) := by decide +kernel
theorem dX12_ends_73 : decode cX12_ends 73 = .ok (.aload_n 0, 1) := by decide +kernel
theorem dX12_ends_74 : decode cX12_ends 74 = .ok (.iload_n 1, 1) := by decide +kernel
theorem dX12_ends_75 : decode cX12_ends 75 = .ok (.invokevirtual 293, 3) := by decide +kernel
theorem dX12_ends_78 : decode cX12_ends 78 = .ok (.return_, 1) := by decide +kernel
def rmX12_ends : Room := { frames := 1, cells := 0, slots := 0, locals := 22 }
set_option maxRecDepth 100000 in
def fX12_ends_J73 (N : Nat) (g : Gs) (x0 : Nat) (x1 : Int32) (d : Ds) : Option (Unit × Ds) := gd (chk g x0 11) <| cv (fX12_stops N g x0 x1 d) fun d7 => (some ((), d7))
set_option maxHeartbeats 4000000 in
set_option maxRecDepth 100000 in
theorem tX12_ends_73 {p : Program} {l : Launch} {e : Env} {s : State} {m : MethodId} {args : Array Value} {below : List Frame} {meth : Method} {c : Code} {D : va_G} {cy : Nat → ClassId} {B : Bs} (C : Cx p s m args c cX12_ends 3 RX12 D cy B) (hr : meth.sig.returnType = none) (hlocks : meth.locks = false) {N : Nat} {g : Gs} {x0 : Nat} {x1 : Int32}  {dz : Ds} {d : Ds} (hf : fX12_ends_J73 N g x0 x1 d = some ((), dz)) : WB p l e rmX12_ends s m args below meth c 3 D cy B 0 0 (MQ below (QV D cy B g dz) args s 0 0 (wA B)) g d [(0, .ref (ad B x0)), (1, .int x1)] 73 [] := by
  unfold fX12_ends_J73 at hf
  refine b_aload_n C dX12_ends_73 0 rfl rfl ?_
  refine b_iload_n C dX12_ends_74 1 rfl rfl ?_
  obtain ⟨h6, hf⟩ := gd_s hf
  obtain ⟨d7, k8, hf⟩ := cv_s hf
  refine b_cVN C [] dX12_ends_75 (kX12_stops l D cy B k8) lv_X12_293 ⟨rfl, rfl, Nat.le_of_ble_eq_true rfl, Nat.le_of_ble_eq_true rfl⟩ h6 (by decide) rfl (Nat.le_of_ble_eq_true rfl) ⟨Nat.zero_le _, Nat.zero_le _⟩ rfl ?_
  exact b_vret C hr hlocks hf dX12_ends_78
set_option maxRecDepth 100000 in
def fX12_ends (N : Nat) (g : Gs) (x0 : Nat) (x1 : Int32) (d : Ds) : Option (Unit × Ds) := gd (chk g x0 11) <| cb (fX12_chordOf N g x0 x1 d) fun u4 d2 => (if u4 < 0 then (fX12_ends_J73 N g x0 x1 d2) else (ob (gR g x0 17) fun r9 => (gd (chk g r9 102) <| gd (¬ ((453 : Int32) < 0 ∨ gL g r9 ≤ (453 : Int32).toNatClampNeg)) <| cb (fX12_has N g (dI d2 r9 (453 : Int32).toNatClampNeg) u4 d2) fun u14 d12 => (if u14 = 0 then (fX12_ends_J73 N g x0 x1 d12) else (bd (sI d12 r9 (453 : Int32).toNatClampNeg ((dI d12 r9 (453 : Int32).toNatClampNeg) ^^^ ((1 : Int32) <<< (u4 &&& 31)))) fun d16 => (gd (¬ (((300 : Int32) + ((4 : Int32) * u4)) < 0 ∨ gL g r9 ≤ ((300 : Int32) + ((4 : Int32) * u4)).toNatClampNeg)) <| cv (fX12_stops N g x0 (dI d16 r9 ((300 : Int32) + ((4 : Int32) * u4)).toNatClampNeg) d16) fun d18 => (gd (¬ ((((300 : Int32) + ((4 : Int32) * u4)) + 1) < 0 ∨ gL g r9 ≤ (((300 : Int32) + ((4 : Int32) * u4)) + 1).toNatClampNeg)) <| cv (fX12_stops N g x0 (dI d18 r9 (((300 : Int32) + ((4 : Int32) * u4)) + 1).toNatClampNeg) d18) fun d21 => (fX12_ends_J73 N g x0 x1 d21))))))))
set_option maxHeartbeats 4000000 in
set_option maxRecDepth 100000 in
theorem tX12_ends_E {p : Program} {l : Launch} {e : Env} {s : State} {m : MethodId} {args : Array Value} {below : List Frame} {meth : Method} {c : Code} {D : va_G} {cy : Nat → ClassId} {B : Bs} (C : Cx p s m args c cX12_ends 3 RX12 D cy B) (hr : meth.sig.returnType = none) (hlocks : meth.locks = false) {N : Nat} {g : Gs} {x0 : Nat} {x1 : Int32}  {dz : Ds} {d : Ds} (hf : fX12_ends N g x0 x1 d = some ((), dz)) : WB p l e rmX12_ends s m args below meth c 3 D cy B 0 0 (MQ below (QV D cy B g dz) args s 0 0 (wA B)) g d [(0, .ref (ad B x0)), (1, .int x1)] 0 [] := by
  unfold fX12_ends at hf
  refine b_aload_n C dX12_ends_0 0 rfl rfl ?_
  refine b_iload_n C dX12_ends_1 1 rfl rfl ?_
  obtain ⟨h1, hf⟩ := gd_s hf
  obtain ⟨u4, d2, k3, hf⟩ := cb_s hf
  refine b_cVI C [] dX12_ends_2 (kX12_chordOf l D cy B k3) lv_X12_262 ⟨rfl, rfl, Nat.le_of_ble_eq_true rfl, Nat.le_of_ble_eq_true rfl⟩ h1 (by decide) rfl (Nat.le_of_ble_eq_true rfl) ⟨Nat.zero_le _, Nat.zero_le _⟩ rfl ?_
  refine b_istore_n C dX12_ends_5 rfl [(2, .int u4), (0, .ref (ad B x0)), (1, .int x1)] (by decide) rfl ?_
  refine b_iload_n C dX12_ends_6 0 rfl rfl ?_
  refine b_if_lt C (tgt := 73) dX12_ends_7 (by decide) (fun c5 => ?_) (fun c5 => ?_)
  · have hf := it_s c5 hf
    refine b_sub [(0, .ref (ad B x0)), (1, .int x1)] [1, 2] rfl ?_
    exact tX12_ends_73 C hr hlocks hf
  · have hf := if_s c5 hf
    refine b_aload_n C dX12_ends_10 1 rfl rfl ?_
    obtain ⟨r9, er9, hf⟩ := ob_s hf
    refine b_gR C dX12_ends_11 fl_X12_40 h1 er9 ?_
    refine b_sipush C (v := 453) dX12_ends_14 (by decide) ?_
    obtain ⟨h10, hf⟩ := gd_s hf
    obtain ⟨h11, hf⟩ := gd_s hf
    refine b_iald C h10 h11 dX12_ends_17 ?_
    refine b_iload_n C dX12_ends_18 0 rfl rfl ?_
    obtain ⟨u14, d12, k13, hf⟩ := cb_s hf
    refine b_cSI C [] dX12_ends_19 (kX12_has l D cy B k13) lv_X12_210 ⟨rfl, rfl, Nat.le_of_ble_eq_true rfl, Nat.le_of_ble_eq_true rfl⟩ rfl (Nat.le_of_ble_eq_true rfl) ⟨Nat.zero_le _, Nat.zero_le _⟩ rfl ?_
    refine b_if_eq C (tgt := 73) dX12_ends_22 (by decide) (fun c15 => ?_) (fun c15 => ?_)
    · have hf := it_s c15 hf
      refine b_sub [(0, .ref (ad B x0)), (1, .int x1)] [1, 2] rfl ?_
      exact tX12_ends_73 C hr hlocks hf
    · have hf := if_s c15 hf
      refine b_aload_n C dX12_ends_25 1 rfl rfl ?_
      refine b_gR C dX12_ends_26 fl_X12_40 h1 er9 ?_
      refine b_sipush C (v := 453) dX12_ends_29 (by decide) ?_
      refine b_dup2 C dX12_ends_32 rfl rfl ?_
      refine b_iald C h10 h11 dX12_ends_33 ?_
      refine b_iconst C (v := 1) dX12_ends_34 (by decide) ?_
      refine b_iload_n C dX12_ends_35 0 rfl rfl ?_
      refine b_ishl C dX12_ends_36 ?_
      refine b_ixor C dX12_ends_37 ?_
      obtain ⟨d16, ed16, hf⟩ := bd_s hf
      refine b_iast C h10 h11 ed16 dX12_ends_38 ?_
      refine b_aload_n C dX12_ends_39 1 rfl rfl ?_
      refine b_aload_n C dX12_ends_40 1 rfl rfl ?_
      refine b_gR C dX12_ends_41 fl_X12_40 h1 er9 ?_
      refine b_sipush C (v := 300) dX12_ends_44 (by decide) ?_
      refine b_iconst C (v := 4) dX12_ends_47 (by decide) ?_
      refine b_iload_n C dX12_ends_48 0 rfl rfl ?_
      refine b_imul C dX12_ends_49 ?_
      refine b_iadd C dX12_ends_50 ?_
      obtain ⟨h17, hf⟩ := gd_s hf
      refine b_iald C h10 h17 dX12_ends_51 ?_
      obtain ⟨d18, k19, hf⟩ := cv_s hf
      refine b_cVN C [] dX12_ends_52 (kX12_stops l D cy B k19) lv_X12_293 ⟨rfl, rfl, Nat.le_of_ble_eq_true rfl, Nat.le_of_ble_eq_true rfl⟩ h1 (by decide) rfl (Nat.le_of_ble_eq_true rfl) ⟨Nat.zero_le _, Nat.zero_le _⟩ rfl ?_
      refine b_aload_n C dX12_ends_55 1 rfl rfl ?_
      refine b_aload_n C dX12_ends_56 1 rfl rfl ?_
      refine b_gR C dX12_ends_57 fl_X12_40 h1 er9 ?_
      refine b_sipush C (v := 300) dX12_ends_60 (by decide) ?_
      refine b_iconst C (v := 4) dX12_ends_63 (by decide) ?_
      refine b_iload_n C dX12_ends_64 0 rfl rfl ?_
      refine b_imul C dX12_ends_65 ?_
      refine b_iadd C dX12_ends_66 ?_
      refine b_iconst C (v := 1) dX12_ends_67 (by decide) ?_
      refine b_iadd C dX12_ends_68 ?_
      obtain ⟨h20, hf⟩ := gd_s hf
      refine b_iald C h10 h20 dX12_ends_69 ?_
      obtain ⟨d21, k22, hf⟩ := cv_s hf
      refine b_cVN C [] dX12_ends_70 (kX12_stops l D cy B k22) lv_X12_293 ⟨rfl, rfl, Nat.le_of_ble_eq_true rfl, Nat.le_of_ble_eq_true rfl⟩ h1 (by decide) rfl (Nat.le_of_ble_eq_true rfl) ⟨Nat.zero_le _, Nat.zero_le _⟩ rfl ?_
      refine b_sub [(0, .ref (ad B x0)), (1, .int x1)] [1, 2] rfl ?_
      exact tX12_ends_73 C hr hlocks hf
theorem kX12_ends (l : Launch) (D : va_G) (cy : Nat → ClassId) (B : Bs) {N : Nat} {g : Gs} {x0 : Nat} {x1 : Int32}  {dz : Ds} {d : Ds} (hf : fX12_ends N g x0 x1 d = some ((), dz)) : Met l yX12_ends (.code yX12_ends cX12_ends 3 none :: wl) rmX12_ends (PC D cy B [.ref (ad B x0), .int x1] g d) (QV D cy B g dz) 0 0 (wA B) :=
  met_of (by decide +kernel) (Nat.le_of_ble_eq_true rfl) (fun p e s m args below meth c C hr hlocks _ => b_sub [(0, .ref (ad B x0)), (1, .int x1)] [0, 1] rfl (tX12_ends_E C hr hlocks hf))
/-! KeyMatrixModel.nextBegun(I)I -/
theorem dX12_nextBegun_0 : decode cX12_nextBegun 0 = .ok (.iconst (-1), 1) := by decide +kernel
theorem dX12_nextBegun_1 : decode cX12_nextBegun 1 = .ok (.istore_n 2, 1) := by decide +kernel
theorem dX12_nextBegun_2 : decode cX12_nextBegun 2 = .ok (.iconst 0, 1) := by decide +kernel
theorem dX12_nextBegun_3 : decode cX12_nextBegun 3 = .ok (.istore_n 3, 1) := by decide +kernel
theorem dX12_nextBegun_4 : decode cX12_nextBegun 4 = .ok (.iload_n 3, 1) := by decide +kernel
theorem dX12_nextBegun_5 : decode cX12_nextBegun 5 = .ok (.bipush 24, 2) := by decide +kernel
theorem dX12_nextBegun_7 : decode cX12_nextBegun 7 = .ok (.if_icmp .ge 82, 3) := by decide +kernel
theorem dX12_nextBegun_10 : decode cX12_nextBegun 10 = .ok (.aload_n 0, 1) := by decide +kernel
theorem dX12_nextBegun_11 : decode cX12_nextBegun 11 = .ok (.getfield 40, 3) := by decide +kernel
theorem dX12_nextBegun_14 : decode cX12_nextBegun 14 = .ok (.sipush 379, 3) := by decide +kernel
theorem dX12_nextBegun_17 : decode cX12_nextBegun 17 = .ok (.iconst 3, 1) := by decide +kernel
theorem dX12_nextBegun_18 : decode cX12_nextBegun 18 = .ok (.iload_n 3, 1) := by decide +kernel
theorem dX12_nextBegun_19 : decode cX12_nextBegun 19 = .ok (.imul, 1) := by decide +kernel
theorem dX12_nextBegun_20 : decode cX12_nextBegun 20 = .ok (.iadd, 1) := by decide +kernel
theorem dX12_nextBegun_21 : decode cX12_nextBegun 21 = .ok (.iaload, 1) := by decide +kernel
theorem dX12_nextBegun_22 : decode cX12_nextBegun 22 = .ok (.ifCond .lt 61, 3) := by decide +kernel
theorem dX12_nextBegun_25 : decode cX12_nextBegun 25 = .ok (.aload_n 0, 1) := by decide +kernel
theorem dX12_nextBegun_26 : decode cX12_nextBegun 26 = .ok (.getfield 40, 3) := by decide +kernel
theorem dX12_nextBegun_29 : decode cX12_nextBegun 29 = .ok (.sipush 379, 3) := by decide +kernel
theorem dX12_nextBegun_32 : decode cX12_nextBegun 32 = .ok (.iconst 3, 1) := by decide +kernel
theorem dX12_nextBegun_33 : decode cX12_nextBegun 33 = .ok (.iload_n 3, 1) := by decide +kernel
theorem dX12_nextBegun_34 : decode cX12_nextBegun 34 = .ok (.imul, 1) := by decide +kernel
theorem dX12_nextBegun_35 : decode cX12_nextBegun 35 = .ok (.iadd, 1) := by decide +kernel
theorem dX12_nextBegun_36 : decode cX12_nextBegun 36 = .ok (.iconst 2, 1) := by decide +kernel
theorem dX12_nextBegun_37 : decode cX12_nextBegun 37 = .ok (.iadd, 1) := by decide +kernel
theorem dX12_nextBegun_38 : decode cX12_nextBegun 38 = .ok (.iaload, 1) := by decide +kernel
theorem dX12_nextBegun_39 : decode cX12_nextBegun 39 = .ok (.iload_n 1, 1) := by decide +kernel
theorem dX12_nextBegun_40 : decode cX12_nextBegun 40 = .ok (.if_icmp .gt 6, 3) := by decide +kernel
theorem dX12_nextBegun_43 : decode cX12_nextBegun 43 = .ok (.goto 40, 3) := by decide +kernel
theorem dX12_nextBegun_46 : decode cX12_nextBegun 46 = .ok (.iload_n 2, 1) := by decide +kernel
theorem dX12_nextBegun_47 : decode cX12_nextBegun 47 = .ok (.ifCond .lt 34, 3) := by decide +kernel
theorem dX12_nextBegun_50 : decode cX12_nextBegun 50 = .ok (.aload_n 0, 1) := by decide +kernel
theorem dX12_nextBegun_51 : decode cX12_nextBegun 51 = .ok (.getfield 40, 3) := by decide +kernel
theorem dX12_nextBegun_54 : decode cX12_nextBegun 54 = .ok (.sipush 379, 3) := by decide +kernel
theorem dX12_nextBegun_57 : decode cX12_nextBegun 57 = .ok (.iconst 3, 1) := by decide +kernel
theorem dX12_nextBegun_58 : decode cX12_nextBegun 58 = .ok (.iload_n 3, 1) := by decide +kernel
theorem dX12_nextBegun_59 : decode cX12_nextBegun 59 = .ok (.imul, 1) := by decide +kernel
theorem dX12_nextBegun_60 : decode cX12_nextBegun 60 = .ok (.iadd, 1) := by decide +kernel
theorem dX12_nextBegun_61 : decode cX12_nextBegun 61 = .ok (.iconst 2, 1) := by decide +kernel
theorem dX12_nextBegun_62 : decode cX12_nextBegun 62 = .ok (.iadd, 1) := by decide +kernel
theorem dX12_nextBegun_63 : decode cX12_nextBegun 63 = .ok (.iaload, 1) := by decide +kernel
theorem dX12_nextBegun_64 : decode cX12_nextBegun 64 = .ok (.aload_n 0, 1) := by decide +kernel
theorem dX12_nextBegun_65 : decode cX12_nextBegun 65 = .ok (.getfield 40, 3) := by decide +kernel
theorem dX12_nextBegun_68 : decode cX12_nextBegun 68 = .ok (.sipush 379, 3) := by decide +kernel
theorem dX12_nextBegun_71 : decode cX12_nextBegun 71 = .ok (.iconst 3, 1) := by decide +kernel
theorem dX12_nextBegun_72 : decode cX12_nextBegun 72 = .ok (.iload_n 2, 1) := by decide +kernel
theorem dX12_nextBegun_73 : decode cX12_nextBegun 73 = .ok (.imul, 1) := by decide +kernel
theorem dX12_nextBegun_74 : decode cX12_nextBegun 74 = .ok (.iadd, 1) := by decide +kernel
theorem dX12_nextBegun_75 : decode cX12_nextBegun 75 = .ok (.iconst 2, 1) := by decide +kernel
theorem dX12_nextBegun_76 : decode cX12_nextBegun 76 = .ok (.iadd, 1) := by decide +kernel
theorem dX12_nextBegun_77 : decode cX12_nextBegun 77 = .ok (.iaload, 1) := by decide +kernel
theorem dX12_nextBegun_78 : decode cX12_nextBegun 78 = .ok (.if_icmp .ge 5, 3) := by decide +kernel
theorem dX12_nextBegun_81 : decode cX12_nextBegun 81 = .ok (.iload_n 3, 1) := by decide +kernel
theorem dX12_nextBegun_82 : decode cX12_nextBegun 82 = .ok (.istore_n 2, 1) := by decide +kernel
theorem dX12_nextBegun_83 : decode cX12_nextBegun 83 = .ok (.iinc 3 1, 3) := by decide +kernel
theorem dX12_nextBegun_86 : decode cX12_nextBegun 86 = .ok (.goto (-82), 3) := by decide +kernel
theorem dX12_nextBegun_89 : decode cX12_nextBegun 89 = .ok (.iload_n 2, 1) := by decide +kernel
theorem dX12_nextBegun_90 : decode cX12_nextBegun 90 = .ok (.ireturn, 1) := by decide +kernel
def rmX12_nextBegun : Room := { frames := 0, cells := 0, slots := 0, locals := 0 }
set_option maxRecDepth 100000 in
def fX12_nextBegun_J83 (N : Nat) (g : Gs) (x0 : Nat) (x1 : Int32) (K4 : Int32 × Int32 × Ds → Option (Int32 × Ds)) (y2 : Int32) (y3 : Int32) (d : Ds) : Option (Int32 × Ds) := bd (y3 + 1) fun u7 => (K4 (y2, u7, d))
set_option maxHeartbeats 4000000 in
set_option maxRecDepth 100000 in
theorem tX12_nextBegun_83 {p : Program} {l : Launch} {e : Env} {s : State} {m : MethodId} {args : Array Value} {below : List Frame} {meth : Method} {c : Code} {D : va_G} {cy : Nat → ClassId} {B : Bs} (C : Cx p s m args c cX12_nextBegun 4 RX12 D cy B) (hr : meth.sig.returnType = (some .int)) (hlocks : meth.locks = false) {N : Nat} {g : Gs} {x0 : Nat} {x1 : Int32} {vz : Int32} {dz : Ds} {K4 : Int32 × Int32 × Ds → Option (Int32 × Ds)} (hK4 : ∀ a, K4 a = some (vz, dz) → WB p l e rmX12_nextBegun s m args below meth c 4 D cy B 0 0 (MQ below (QI D cy B vz g dz) args s 0 0 (wA B)) g a.2.2 [(0, .ref (ad B x0)), (1, .int x1), (2, .int a.1), (3, .int a.2.1)] 4 []) {y2 : Int32} {y3 : Int32} {d : Ds} (hf : fX12_nextBegun_J83 N g x0 x1 K4 y2 y3 d = some (vz, dz)) : WB p l e rmX12_nextBegun s m args below meth c 4 D cy B 0 0 (MQ below (QI D cy B vz g dz) args s 0 0 (wA B)) g d [(0, .ref (ad B x0)), (1, .int x1), (2, .int y2), (3, .int y3)] 83 [] := by
  unfold fX12_nextBegun_J83 at hf
  obtain ⟨u7, eu7, hf⟩ := bd_s hf
  refine b_iinc C dX12_nextBegun_83 3 rfl (by rw [eu7]; rfl) [(3, .int u7), (0, .ref (ad B x0)), (1, .int x1), (2, .int y2)] (by decide) rfl ?_
  refine b_goto C (tgt := 4) dX12_nextBegun_86 (by decide) ?_
  refine b_sub [(0, .ref (ad B x0)), (1, .int x1), (2, .int y2), (3, .int u7)] [1, 2, 3, 0] rfl ?_
  exact hK4 (y2, u7, d) hf
set_option maxRecDepth 100000 in
def fX12_nextBegun_J81 (N : Nat) (g : Gs) (x0 : Nat) (x1 : Int32) (K4 : Int32 × Int32 × Ds → Option (Int32 × Ds)) (y3 : Int32) (d : Ds) : Option (Int32 × Ds) := fX12_nextBegun_J83 N g x0 x1 K4 y3 y3 d
set_option maxHeartbeats 4000000 in
set_option maxRecDepth 100000 in
theorem tX12_nextBegun_81 {p : Program} {l : Launch} {e : Env} {s : State} {m : MethodId} {args : Array Value} {below : List Frame} {meth : Method} {c : Code} {D : va_G} {cy : Nat → ClassId} {B : Bs} (C : Cx p s m args c cX12_nextBegun 4 RX12 D cy B) (hr : meth.sig.returnType = (some .int)) (hlocks : meth.locks = false) {N : Nat} {g : Gs} {x0 : Nat} {x1 : Int32} {vz : Int32} {dz : Ds} {K4 : Int32 × Int32 × Ds → Option (Int32 × Ds)} (hK4 : ∀ a, K4 a = some (vz, dz) → WB p l e rmX12_nextBegun s m args below meth c 4 D cy B 0 0 (MQ below (QI D cy B vz g dz) args s 0 0 (wA B)) g a.2.2 [(0, .ref (ad B x0)), (1, .int x1), (2, .int a.1), (3, .int a.2.1)] 4 []) {y3 : Int32} {d : Ds} (hf : fX12_nextBegun_J81 N g x0 x1 K4 y3 d = some (vz, dz)) : WB p l e rmX12_nextBegun s m args below meth c 4 D cy B 0 0 (MQ below (QI D cy B vz g dz) args s 0 0 (wA B)) g d [(0, .ref (ad B x0)), (1, .int x1), (3, .int y3)] 81 [] := by
  unfold fX12_nextBegun_J81 at hf
  refine b_iload_n C dX12_nextBegun_81 2 rfl rfl ?_
  refine b_istore_n C dX12_nextBegun_82 rfl [(2, .int y3), (0, .ref (ad B x0)), (1, .int x1), (3, .int y3)] (by decide) rfl ?_
  refine b_sub [(0, .ref (ad B x0)), (1, .int x1), (2, .int y3), (3, .int y3)] [1, 2, 0, 3] rfl ?_
  exact tX12_nextBegun_83 C hr hlocks hK4 hf
set_option maxRecDepth 100000 in
def fX12_nextBegun_B4 (N : Nat) (g : Gs) (x0 : Nat) (x1 : Int32) (K4 : Int32 × Int32 × Ds → Option (Int32 × Ds)) (y2 : Int32) (y3 : Int32) (d : Ds) : Option (Int32 × Ds) := if (24 : Int32) ≤ y3 then (some (y2, d)) else (gd (chk g x0 11) <| ob (gR g x0 17) fun r3 => (gd (chk g r3 102) <| gd (¬ (((379 : Int32) + ((3 : Int32) * y3)) < 0 ∨ gL g r3 ≤ ((379 : Int32) + ((3 : Int32) * y3)).toNatClampNeg)) <| if (dI d r3 ((379 : Int32) + ((3 : Int32) * y3)).toNatClampNeg) < 0 then (fX12_nextBegun_J83 N g x0 x1 K4 y2 y3 d) else (gd (¬ ((((379 : Int32) + ((3 : Int32) * y3)) + 2) < 0 ∨ gL g r3 ≤ (((379 : Int32) + ((3 : Int32) * y3)) + 2).toNatClampNeg)) <| if x1 < (dI d r3 (((379 : Int32) + ((3 : Int32) * y3)) + 2).toNatClampNeg) then (if y2 < 0 then (fX12_nextBegun_J81 N g x0 x1 K4 y3 d) else (gd (¬ ((((379 : Int32) + ((3 : Int32) * y2)) + 2) < 0 ∨ gL g r3 ≤ (((379 : Int32) + ((3 : Int32) * y2)) + 2).toNatClampNeg)) <| if (dI d r3 (((379 : Int32) + ((3 : Int32) * y2)) + 2).toNatClampNeg) ≤ (dI d r3 (((379 : Int32) + ((3 : Int32) * y3)) + 2).toNatClampNeg) then (fX12_nextBegun_J83 N g x0 x1 K4 y2 y3 d) else (fX12_nextBegun_J81 N g x0 x1 K4 y3 d))) else (fX12_nextBegun_J83 N g x0 x1 K4 y2 y3 d))))
set_option maxHeartbeats 4000000 in
set_option maxRecDepth 100000 in
theorem tX12_nextBegun_4 {p : Program} {l : Launch} {e : Env} {s : State} {m : MethodId} {args : Array Value} {below : List Frame} {meth : Method} {c : Code} {D : va_G} {cy : Nat → ClassId} {B : Bs} (C : Cx p s m args c cX12_nextBegun 4 RX12 D cy B) (hr : meth.sig.returnType = (some .int)) (hlocks : meth.locks = false) {N : Nat} {g : Gs} {x0 : Nat} {x1 : Int32} {vz : Int32} {dz : Ds} {K4 : Int32 × Int32 × Ds → Option (Int32 × Ds)} (hK4 : ∀ a, K4 a = some (vz, dz) → WB p l e rmX12_nextBegun s m args below meth c 4 D cy B 0 0 (MQ below (QI D cy B vz g dz) args s 0 0 (wA B)) g a.2.2 [(0, .ref (ad B x0)), (1, .int x1), (2, .int a.1), (3, .int a.2.1)] 4 []) {y2 : Int32} {y3 : Int32} {d : Ds} (hf : fX12_nextBegun_B4 N g x0 x1 K4 y2 y3 d = some (vz, dz)) : WB p l e rmX12_nextBegun s m args below meth c 4 D cy B 0 0 (MQ below (QI D cy B vz g dz) args s 0 0 (wA B)) g d [(0, .ref (ad B x0)), (1, .int x1), (2, .int y2), (3, .int y3)] 4 [] := by
  unfold fX12_nextBegun_B4 at hf
  refine b_iload_n C dX12_nextBegun_4 3 rfl rfl ?_
  refine b_bipush C (v := 24) dX12_nextBegun_5 (by decide) ?_
  refine b_icmp_ge C (tgt := 89) dX12_nextBegun_7 (by decide) (fun c1 => ?_) (fun c1 => ?_)
  · have hf := it_s c1 hf
    refine b_iload_n C dX12_nextBegun_89 2 rfl rfl ?_
    exact b_iret C hr hlocks hf dX12_nextBegun_90
  · have hf := if_s c1 hf
    refine b_aload_n C dX12_nextBegun_10 0 rfl rfl ?_
    obtain ⟨h2, hf⟩ := gd_s hf
    obtain ⟨r3, er3, hf⟩ := ob_s hf
    refine b_gR C dX12_nextBegun_11 fl_X12_40 h2 er3 ?_
    refine b_sipush C (v := 379) dX12_nextBegun_14 (by decide) ?_
    refine b_iconst C (v := 3) dX12_nextBegun_17 (by decide) ?_
    refine b_iload_n C dX12_nextBegun_18 3 rfl rfl ?_
    refine b_imul C dX12_nextBegun_19 ?_
    refine b_iadd C dX12_nextBegun_20 ?_
    obtain ⟨h4, hf⟩ := gd_s hf
    obtain ⟨h5, hf⟩ := gd_s hf
    refine b_iald C h4 h5 dX12_nextBegun_21 ?_
    refine b_if_lt C (tgt := 83) dX12_nextBegun_22 (by decide) (fun c6 => ?_) (fun c6 => ?_)
    · have hf := it_s c6 hf
      refine b_sub [(0, .ref (ad B x0)), (1, .int x1), (2, .int y2), (3, .int y3)] [0, 1, 2, 3] rfl ?_
      exact tX12_nextBegun_83 C hr hlocks hK4 hf
    · have hf := if_s c6 hf
      refine b_aload_n C dX12_nextBegun_25 0 rfl rfl ?_
      refine b_gR C dX12_nextBegun_26 fl_X12_40 h2 er3 ?_
      refine b_sipush C (v := 379) dX12_nextBegun_29 (by decide) ?_
      refine b_iconst C (v := 3) dX12_nextBegun_32 (by decide) ?_
      refine b_iload_n C dX12_nextBegun_33 3 rfl rfl ?_
      refine b_imul C dX12_nextBegun_34 ?_
      refine b_iadd C dX12_nextBegun_35 ?_
      refine b_iconst C (v := 2) dX12_nextBegun_36 (by decide) ?_
      refine b_iadd C dX12_nextBegun_37 ?_
      obtain ⟨h8, hf⟩ := gd_s hf
      refine b_iald C h4 h8 dX12_nextBegun_38 ?_
      refine b_iload_n C dX12_nextBegun_39 1 rfl rfl ?_
      refine b_icmp_gt C (tgt := 46) dX12_nextBegun_40 (by decide) (fun c9 => ?_) (fun c9 => ?_)
      · have hf := it_s c9 hf
        refine b_iload_n C dX12_nextBegun_46 2 rfl rfl ?_
        refine b_if_lt C (tgt := 81) dX12_nextBegun_47 (by decide) (fun c10 => ?_) (fun c10 => ?_)
        · have hf := it_s c10 hf
          refine b_sub [(0, .ref (ad B x0)), (1, .int x1), (3, .int y3)] [0, 1, 3] rfl ?_
          exact tX12_nextBegun_81 C hr hlocks hK4 hf
        · have hf := if_s c10 hf
          refine b_aload_n C dX12_nextBegun_50 0 rfl rfl ?_
          refine b_gR C dX12_nextBegun_51 fl_X12_40 h2 er3 ?_
          refine b_sipush C (v := 379) dX12_nextBegun_54 (by decide) ?_
          refine b_iconst C (v := 3) dX12_nextBegun_57 (by decide) ?_
          refine b_iload_n C dX12_nextBegun_58 3 rfl rfl ?_
          refine b_imul C dX12_nextBegun_59 ?_
          refine b_iadd C dX12_nextBegun_60 ?_
          refine b_iconst C (v := 2) dX12_nextBegun_61 (by decide) ?_
          refine b_iadd C dX12_nextBegun_62 ?_
          refine b_iald C h4 h8 dX12_nextBegun_63 ?_
          refine b_aload_n C dX12_nextBegun_64 0 rfl rfl ?_
          refine b_gR C dX12_nextBegun_65 fl_X12_40 h2 er3 ?_
          refine b_sipush C (v := 379) dX12_nextBegun_68 (by decide) ?_
          refine b_iconst C (v := 3) dX12_nextBegun_71 (by decide) ?_
          refine b_iload_n C dX12_nextBegun_72 2 rfl rfl ?_
          refine b_imul C dX12_nextBegun_73 ?_
          refine b_iadd C dX12_nextBegun_74 ?_
          refine b_iconst C (v := 2) dX12_nextBegun_75 (by decide) ?_
          refine b_iadd C dX12_nextBegun_76 ?_
          obtain ⟨h11, hf⟩ := gd_s hf
          refine b_iald C h4 h11 dX12_nextBegun_77 ?_
          refine b_icmp_ge C (tgt := 83) dX12_nextBegun_78 (by decide) (fun c12 => ?_) (fun c12 => ?_)
          · have hf := it_s c12 hf
            refine b_sub [(0, .ref (ad B x0)), (1, .int x1), (2, .int y2), (3, .int y3)] [0, 1, 2, 3] rfl ?_
            exact tX12_nextBegun_83 C hr hlocks hK4 hf
          · have hf := if_s c12 hf
            refine b_sub [(0, .ref (ad B x0)), (1, .int x1), (3, .int y3)] [0, 1, 3] rfl ?_
            exact tX12_nextBegun_81 C hr hlocks hK4 hf
      · have hf := if_s c9 hf
        refine b_goto C (tgt := 83) dX12_nextBegun_43 (by decide) ?_
        refine b_sub [(0, .ref (ad B x0)), (1, .int x1), (2, .int y2), (3, .int y3)] [0, 1, 2, 3] rfl ?_
        exact tX12_nextBegun_83 C hr hlocks hK4 hf
def fX12_nextBegun_L4 (N : Nat) (g : Gs) (x0 : Nat) (x1 : Int32) : Int32 × Int32 × Ds → Option (Int32 × Ds) := lp (fun K4 a => fX12_nextBegun_B4 N g x0 x1 K4 a.1 a.2.1 a.2.2) N
theorem tX12_nextBegun_L4 {p : Program} {l : Launch} {e : Env} {s : State} {m : MethodId} {args : Array Value} {below : List Frame} {meth : Method} {c : Code} {D : va_G} {cy : Nat → ClassId} {B : Bs} (C : Cx p s m args c cX12_nextBegun 4 RX12 D cy B) (hr : meth.sig.returnType = (some .int)) (hlocks : meth.locks = false) {N : Nat} {g : Gs} {x0 : Nat} {x1 : Int32} {vz : Int32} {dz : Ds} (a : Int32 × Int32 × Ds) (hf : fX12_nextBegun_L4 N g x0 x1 a = some (vz, dz)) : WB p l e rmX12_nextBegun s m args below meth c 4 D cy B 0 0 (MQ below (QI D cy B vz g dz) args s 0 0 (wA B)) g a.2.2 [(0, .ref (ad B x0)), (1, .int x1), (2, .int a.1), (3, .int a.2.1)] 4 [] :=
  lp_w (fun K4 hK4 a ha => tX12_nextBegun_4 C hr hlocks hK4 ha) N a hf
set_option maxRecDepth 100000 in
def fX12_nextBegun (N : Nat) (g : Gs) (x0 : Nat) (x1 : Int32) (d : Ds) : Option (Int32 × Ds) := fX12_nextBegun_L4 N g x0 x1 ((-1), 0, d)
set_option maxHeartbeats 4000000 in
set_option maxRecDepth 100000 in
theorem tX12_nextBegun_E {p : Program} {l : Launch} {e : Env} {s : State} {m : MethodId} {args : Array Value} {below : List Frame} {meth : Method} {c : Code} {D : va_G} {cy : Nat → ClassId} {B : Bs} (C : Cx p s m args c cX12_nextBegun 4 RX12 D cy B) (hr : meth.sig.returnType = (some .int)) (hlocks : meth.locks = false) {N : Nat} {g : Gs} {x0 : Nat} {x1 : Int32} {vz : Int32} {dz : Ds} {d : Ds} (hf : fX12_nextBegun N g x0 x1 d = some (vz, dz)) : WB p l e rmX12_nextBegun s m args below meth c 4 D cy B 0 0 (MQ below (QI D cy B vz g dz) args s 0 0 (wA B)) g d [(0, .ref (ad B x0)), (1, .int x1)] 0 [] := by
  unfold fX12_nextBegun at hf
  refine b_iconst C (v := (-1)) dX12_nextBegun_0 (by decide) ?_
  refine b_istore_n C dX12_nextBegun_1 rfl [(2, .int (-1)), (0, .ref (ad B x0)), (1, .int x1)] (by decide) rfl ?_
  refine b_iconst C (v := 0) dX12_nextBegun_2 (by decide) ?_
  refine b_istore_n C dX12_nextBegun_3 rfl [(3, .int 0), (2, .int (-1)), (0, .ref (ad B x0)), (1, .int x1)] (by decide) rfl ?_
  refine b_sub [(0, .ref (ad B x0)), (1, .int x1), (2, .int (-1)), (3, .int 0)] [2, 3, 1, 0] rfl ?_
  exact tX12_nextBegun_L4 C hr hlocks ((-1), 0, d) hf
theorem kX12_nextBegun (l : Launch) (D : va_G) (cy : Nat → ClassId) (B : Bs) {N : Nat} {g : Gs} {x0 : Nat} {x1 : Int32} {vz : Int32} {dz : Ds} {d : Ds} (hf : fX12_nextBegun N g x0 x1 d = some (vz, dz)) : Met l yX12_nextBegun (.code yX12_nextBegun cX12_nextBegun 4 (some .int) :: wl) rmX12_nextBegun (PC D cy B [.ref (ad B x0), .int x1] g d) (QI D cy B vz g dz) 0 0 (wA B) :=
  met_of (by decide +kernel) (Nat.le_of_ble_eq_true rfl) (fun p e s m args below meth c C hr hlocks _ => b_sub [(0, .ref (ad B x0)), (1, .int x1)] [0, 1] rfl (tX12_nextBegun_E C hr hlocks hf))
