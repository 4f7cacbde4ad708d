/-! KeyMatrixModel.deed(III)I -/
theorem dX12_deed_0 : decode cX12_deed 0 = .ok (.iload_n 1, 1) := by decide +kernel
theorem dX12_deed_1 : decode cX12_deed 1 = .ok (.iconst (-1), 1) := by decide +kernel
theorem dX12_deed_2 : decode cX12_deed 2 = .ok (.iconst 3, 1) := by decide +kernel
theorem dX12_deed_3 : decode cX12_deed 3 = .ok (.invokestatic 169, 3) := by decide +kernel
theorem dX12_deed_6 : decode cX12_deed 6 = .ok (.ifCond .eq 20, 3) := by decide +kernel
theorem dX12_deed_9 : decode cX12_deed 9 = .ok (.aload_n 0, 1) := by decide +kernel
theorem dX12_deed_10 : decode cX12_deed 10 = .ok (.iload_n 2, 1) := by decide +kernel
theorem dX12_deed_11 : decode cX12_deed 11 = .ok (.invokevirtual 220, 3) := by decide +kernel
theorem dX12_deed_14 : decode cX12_deed 14 = .ok (.ifCond .eq 12, 3) := by decide +kernel
theorem dX12_deed_17 : decode cX12_deed 17 = .ok (.iload_n 3, 1) := by decide +kernel
theorem dX12_deed_18 : decode cX12_deed 18 = .ok (.iconst 0, 1) := by decide +kernel
theorem dX12_deed_19 : decode cX12_deed 19 = .ok (.iconst 2, 1) := by decide +kernel
theorem dX12_deed_20 : decode cX12_deed 20 = .ok (.invokestatic 169, 3) := by decide +kernel
theorem dX12_deed_23 : decode cX12_deed 23 = .ok (.ifCond .ne 5, 3) := by decide +kernel
theorem dX12_deed_26 : decode cX12_deed 26 = .ok (.iconst (-1), 1) := by decide +kernel
theorem dX12_deed_27 : decode cX12_deed 27 = .ok (.ireturn, 1) := by decide +kernel
theorem dX12_deed_28 : decode cX12_deed 28 = .ok (.aload_n 0, 1) := by decide +kernel
theorem dX12_deed_29 : decode cX12_deed 29 = .ok (.getfield 40, 3) := by decide +kernel
theorem dX12_deed_32 : decode cX12_deed 32 = .ok (.bipush 12, 2) := by decide +kernel
theorem dX12_deed_34 : decode cX12_deed 34 = .ok (.iconst 3, 1) := by decide +kernel
theorem dX12_deed_35 : decode cX12_deed 35 = .ok (.bipush 24, 2) := by decide +kernel
theorem dX12_deed_37 : decode cX12_deed 37 = .ok (.iload_n 1, 1) := by decide +kernel
theorem dX12_deed_38 : decode cX12_deed 38 = .ok (.ifCond .ge 11, 3) := by decide +kernel
theorem dX12_deed_41 : decode cX12_deed 41 = .ok (.aload_n 0, 1) := by decide +kernel
theorem dX12_deed_42 : decode cX12_deed 42 = .ok (.iload_n 2, 1) := by decide +kernel
theorem dX12_deed_43 : decode cX12_deed 43 = .ok (.invokevirtual 272, 3) := by decide +kernel
theorem dX12_deed_46 : decode cX12_deed 46 = .ok (.goto 4, 3) := by decide +kernel
theorem dX12_deed_49 : decode cX12_deed 49 = .ok (.iload_n 1, 1) := by decide +kernel
theorem dX12_deed_50 : decode cX12_deed 50 = .ok (.imul, 1) := by decide +kernel
theorem dX12_deed_51 : decode cX12_deed 51 = .ok (.iload_n 2, 1) := by decide +kernel
theorem dX12_deed_52 : decode cX12_deed 52 = .ok (.iadd, 1) := by decide +kernel
theorem dX12_deed_53 : decode cX12_deed 53 = .ok (.imul, 1) := by decide +kernel
theorem dX12_deed_54 : decode cX12_deed 54 = .ok (.iadd, 1) := by decide +kernel
theorem dX12_deed_55 : decode cX12_deed 55 = .ok (.iload_n 3, 1) := by decide +kernel
theorem dX12_deed_56 : decode cX12_deed 56 = .ok (.iadd, 1) := by decide +kernel
theorem dX12_deed_57 : decode cX12_deed 57 = .ok (.iaload, 1) := by decide +kernel
theorem dX12_deed_58 : decode cX12_deed 58 = .ok (.istore 4, 2) := by decide +kernel
theorem dX12_deed_60 : decode cX12_deed 60 = .ok (.iload_n 1, 1) := by decide +kernel
theorem dX12_deed_61 : decode cX12_deed 61 = .ok (.ifCond .ge 17, 3) := by decide +kernel
theorem dX12_deed_64 : decode cX12_deed 64 = .ok (.iload_n 3, 1) := by decide +kernel
theorem dX12_deed_65 : decode cX12_deed 65 = .ok (.ifCond .ne 13, 3) := by decide +kernel
theorem dX12_deed_68 : decode cX12_deed 68 = .ok (.iload 4, 2) := by decide +kernel
theorem dX12_deed_70 : decode cX12_deed 70 = .ok (.iconst 5, 1) := by decide +kernel
theorem dX12_deed_71 : decode cX12_deed 71 = .ok (.if_icmp .ne 7, 3) := by decide +kernel
theorem dX12_deed_74 : decode cX12_deed 74 = .ok (.iconst 4, 1) := by decide +kernel
theorem dX12_deed_75 : decode cX12_deed 75 = .ok (.goto 5, 3) := by decide +kernel
theorem dX12_deed_78 : decode cX12_deed 78 = .ok (.iload 4, 2) := by decide +kernel
theorem dX12_deed_80 : decode cX12_deed 80 = .ok (.ireturn, 1) := by decide +kernel
def rmX12_deed : Room := { frames := 2, cells := 0, slots := 0, locals := 45 }
set_option maxRecDepth 100000 in
def fX12_deed_J26 (N : Nat) (g : Gs) (x0 : Nat) (x1 : Int32) (x2 : Int32) (x3 : Int32) (d : Ds) : Option (Int32 × Ds) := some ((-1), d)
set_option maxHeartbeats 4000000 in
set_option maxRecDepth 100000 in
theorem tX12_deed_26 {p : Program} {l : Launch} {e : Env} {s : State} {m : MethodId} {args : Array Value} {below : List Frame} {meth : Method} {c : Code} {D : va_G} {cy : Nat → ClassId} {B : Bs} (C : Cx p s m args c cX12_deed 5 RX12 D cy B) (hr : meth.sig.returnType = (some .int)) (hlocks : meth.locks = false) {N : Nat} {g : Gs} {x0 : Nat} {x1 : Int32} {x2 : Int32} {x3 : Int32} {vz : Int32} {dz : Ds} {d : Ds} (hf : fX12_deed_J26 N g x0 x1 x2 x3 d = some (vz, dz)) : WB p l e rmX12_deed s m args below meth c 5 D cy B 0 0 (MQ below (QI D cy B vz g dz) args s 0 0 (wA B)) g d [(0, .ref (ad B x0)), (1, .int x1), (2, .int x2), (3, .int x3)] 26 [] := by
  unfold fX12_deed_J26 at hf
  refine b_iconst C (v := (-1)) dX12_deed_26 (by decide) ?_
  exact b_iret C hr hlocks hf dX12_deed_27
set_option maxRecDepth 100000 in
def fX12_deed_J80 (N : Nat) (g : Gs) (x0 : Nat) (x1 : Int32) (x2 : Int32) (x3 : Int32) (z0 : Int32) (d : Ds) : Option (Int32 × Ds) := some (z0, d)
set_option maxHeartbeats 4000000 in
set_option maxRecDepth 100000 in
theorem tX12_deed_80 {p : Program} {l : Launch} {e : Env} {s : State} {m : MethodId} {args : Array Value} {below : List Frame} {meth : Method} {c : Code} {D : va_G} {cy : Nat → ClassId} {B : Bs} (C : Cx p s m args c cX12_deed 5 RX12 D cy B) (hr : meth.sig.returnType = (some .int)) (hlocks : meth.locks = false) {N : Nat} {g : Gs} {x0 : Nat} {x1 : Int32} {x2 : Int32} {x3 : Int32} {vz : Int32} {dz : Ds} {z0 : Int32} {d : Ds} (hf : fX12_deed_J80 N g x0 x1 x2 x3 z0 d = some (vz, dz)) : WB p l e rmX12_deed s m args below meth c 5 D cy B 0 0 (MQ below (QI D cy B vz g dz) args s 0 0 (wA B)) g d [(0, .ref (ad B x0)), (1, .int x1), (2, .int x2), (3, .int x3)] 80 [.int z0] := by
  unfold fX12_deed_J80 at hf
  exact b_iret C hr hlocks hf dX12_deed_80
set_option maxRecDepth 100000 in
def fX12_deed_J78 (N : Nat) (g : Gs) (x0 : Nat) (x1 : Int32) (x2 : Int32) (x3 : Int32) (y4 : Int32) (d : Ds) : Option (Int32 × Ds) := fX12_deed_J80 N g x0 x1 x2 x3 y4 d
set_option maxHeartbeats 4000000 in
set_option maxRecDepth 100000 in
theorem tX12_deed_78 {p : Program} {l : Launch} {e : Env} {s : State} {m : MethodId} {args : Array Value} {below : List Frame} {meth : Method} {c : Code} {D : va_G} {cy : Nat → ClassId} {B : Bs} (C : Cx p s m args c cX12_deed 5 RX12 D cy B) (hr : meth.sig.returnType = (some .int)) (hlocks : meth.locks = false) {N : Nat} {g : Gs} {x0 : Nat} {x1 : Int32} {x2 : Int32} {x3 : Int32} {vz : Int32} {dz : Ds} {y4 : Int32} {d : Ds} (hf : fX12_deed_J78 N g x0 x1 x2 x3 y4 d = some (vz, dz)) : WB p l e rmX12_deed s m args below meth c 5 D cy B 0 0 (MQ below (QI D cy B vz g dz) args s 0 0 (wA B)) g d [(0, .ref (ad B x0)), (1, .int x1), (2, .int x2), (3, .int x3), (4, .int y4)] 78 [] := by
  unfold fX12_deed_J78 at hf
  refine b_iload C dX12_deed_78 4 rfl ?_
  refine b_sub [(0, .ref (ad B x0)), (1, .int x1), (2, .int x2), (3, .int x3)] [0, 1, 2, 3] rfl ?_
  exact tX12_deed_80 C hr hlocks hf
set_option maxRecDepth 100000 in
def fX12_deed_J50 (N : Nat) (g : Gs) (x0 : Nat) (x1 : Int32) (x2 : Int32) (x3 : Int32) (z0 : Int32) (z1 : Int32) (z2 : Int32) (z3 : Int32) (z4 : Nat) (d : Ds) : Option (Int32 × Ds) := gd (chk g z4 102) <| gd (¬ (((z3 + (z2 * ((z1 * z0) + x2))) + x3) < 0 ∨ gL g z4 ≤ ((z3 + (z2 * ((z1 * z0) + x2))) + x3).toNatClampNeg)) <| bd ((dI d z4 ((z3 + (z2 * ((z1 * z0) + x2))) + x3).toNatClampNeg)) fun u18 => (if 0 ≤ x1 then (fX12_deed_J78 N g x0 x1 x2 x3 u18 d) else (if x3 = 0 then (if u18 = (5 : Int32) then (fX12_deed_J80 N g x0 x1 x2 x3 4 d) else (fX12_deed_J78 N g x0 x1 x2 x3 u18 d)) else (fX12_deed_J78 N g x0 x1 x2 x3 u18 d)))
set_option maxHeartbeats 4000000 in
set_option maxRecDepth 100000 in
theorem tX12_deed_50 {p : Program} {l : Launch} {e : Env} {s : State} {m : MethodId} {args : Array Value} {below : List Frame} {meth : Method} {c : Code} {D : va_G} {cy : Nat → ClassId} {B : Bs} (C : Cx p s m args c cX12_deed 5 RX12 D cy B) (hr : meth.sig.returnType = (some .int)) (hlocks : meth.locks = false) {N : Nat} {g : Gs} {x0 : Nat} {x1 : Int32} {x2 : Int32} {x3 : Int32} {vz : Int32} {dz : Ds} {z0 : Int32} {z1 : Int32} {z2 : Int32} {z3 : Int32} {z4 : Nat} {d : Ds} (hf : fX12_deed_J50 N g x0 x1 x2 x3 z0 z1 z2 z3 z4 d = some (vz, dz)) : WB p l e rmX12_deed s m args below meth c 5 D cy B 0 0 (MQ below (QI D cy B vz g dz) args s 0 0 (wA B)) g d [(0, .ref (ad B x0)), (1, .int x1), (2, .int x2), (3, .int x3)] 50 [.int z0, .int z1, .int z2, .int z3, .ref (ad B z4)] := by
  unfold fX12_deed_J50 at hf
  refine b_imul C dX12_deed_50 ?_
  refine b_iload_n C dX12_deed_51 2 rfl rfl ?_
  refine b_iadd C dX12_deed_52 ?_
  refine b_imul C dX12_deed_53 ?_
  refine b_iadd C dX12_deed_54 ?_
  refine b_iload_n C dX12_deed_55 3 rfl rfl ?_
  refine b_iadd C dX12_deed_56 ?_
  obtain ⟨h16, hf⟩ := gd_s hf
  obtain ⟨h17, hf⟩ := gd_s hf
  refine b_iald C h16 h17 dX12_deed_57 ?_
  obtain ⟨u18, eu18, hf⟩ := bd_s hf
  refine b_topI eu18 ?_
  refine b_istore C dX12_deed_58 [(4, .int u18), (0, .ref (ad B x0)), (1, .int x1), (2, .int x2), (3, .int x3)] (by decide) rfl ?_
  refine b_iload_n C dX12_deed_60 2 rfl rfl ?_
  refine b_if_ge C (tgt := 78) dX12_deed_61 (by decide) (fun c19 => ?_) (fun c19 => ?_)
  · have hf := it_s c19 hf
    refine b_sub [(0, .ref (ad B x0)), (1, .int x1), (2, .int x2), (3, .int x3), (4, .int u18)] [1, 2, 3, 4, 0] rfl ?_
    exact tX12_deed_78 C hr hlocks hf
  · have hf := if_s c19 hf
    refine b_iload_n C dX12_deed_64 4 rfl rfl ?_
    refine b_if_ne C (tgt := 78) dX12_deed_65 (by decide) (fun c20 => ?_) (fun c20 => ?_)
    · have hf := if_s c20 hf
      refine b_sub [(0, .ref (ad B x0)), (1, .int x1), (2, .int x2), (3, .int x3), (4, .int u18)] [1, 2, 3, 4, 0] rfl ?_
      exact tX12_deed_78 C hr hlocks hf
    · have hf := it_s c20 hf
      refine b_iload C dX12_deed_68 0 rfl ?_
      refine b_iconst C (v := 5) dX12_deed_70 (by decide) ?_
      refine b_icmp_ne C (tgt := 78) dX12_deed_71 (by decide) (fun c21 => ?_) (fun c21 => ?_)
      · have hf := if_s c21 hf
        refine b_sub [(0, .ref (ad B x0)), (1, .int x1), (2, .int x2), (3, .int x3), (4, .int u18)] [1, 2, 3, 4, 0] rfl ?_
        exact tX12_deed_78 C hr hlocks hf
      · have hf := it_s c21 hf
        refine b_iconst C (v := 4) dX12_deed_74 (by decide) ?_
        refine b_goto C (tgt := 80) dX12_deed_75 (by decide) ?_
        refine b_sub [(0, .ref (ad B x0)), (1, .int x1), (2, .int x2), (3, .int x3)] [1, 2, 3, 4] rfl ?_
        exact tX12_deed_80 C hr hlocks hf
set_option maxRecDepth 100000 in
def fX12_deed (N : Nat) (g : Gs) (x0 : Nat) (x1 : Int32) (x2 : Int32) (x3 : Int32) (d : Ds) : Option (Int32 × Ds) := cb (fX12_in N g x1 (-1) 3 d) fun u3 d1 => (if u3 = 0 then (fX12_deed_J26 N g x0 x1 x2 x3 d1) else (gd (chk g x0 11) <| cb (fX12_isKey N g x0 x2 d1) fun u8 d6 => (if u8 = 0 then (fX12_deed_J26 N g x0 x1 x2 x3 d6) else (cb (fX12_in N g x3 0 2 d6) fun u12 d10 => (if u12 = 0 then (fX12_deed_J26 N g x0 x1 x2 x3 d10) else (ob (gR g x0 17) fun r14 => (if 0 ≤ x1 then (fX12_deed_J50 N g x0 x1 x2 x3 x1 24 3 12 r14 d10) else (cb (fX12_layerOf N g x0 x2 d10) fun u24 d22 => (fX12_deed_J50 N g x0 x1 x2 x3 u24 24 3 12 r14 d22)))))))))
set_option maxHeartbeats 4000000 in
set_option maxRecDepth 100000 in
theorem tX12_deed_E {p : Program} {l : Launch} {e : Env} {s : State} {m : MethodId} {args : Array Value} {below : List Frame} {meth : Method} {c : Code} {D : va_G} {cy : Nat → ClassId} {B : Bs} (C : Cx p s m args c cX12_deed 5 RX12 D cy B) (hr : meth.sig.returnType = (some .int)) (hlocks : meth.locks = false) {N : Nat} {g : Gs} {x0 : Nat} {x1 : Int32} {x2 : Int32} {x3 : Int32} {vz : Int32} {dz : Ds} {d : Ds} (hf : fX12_deed N g x0 x1 x2 x3 d = some (vz, dz)) : WB p l e rmX12_deed s m args below meth c 5 D cy B 0 0 (MQ below (QI D cy B vz g dz) args s 0 0 (wA B)) g d [(0, .ref (ad B x0)), (1, .int x1), (2, .int x2), (3, .int x3)] 0 [] := by
  unfold fX12_deed at hf
  refine b_iload_n C dX12_deed_0 1 rfl rfl ?_
  refine b_iconst C (v := (-1)) dX12_deed_1 (by decide) ?_
  refine b_iconst C (v := 3) dX12_deed_2 (by decide) ?_
  obtain ⟨u3, d1, k2, hf⟩ := cb_s hf
  refine b_cSI C [] dX12_deed_3 (kX12_in l D cy B k2) lv_X12_169 ⟨rfl, rfl, Nat.le_of_ble_eq_true rfl, Nat.le_of_ble_eq_true rfl⟩ rfl (Nat.le_of_ble_eq_true rfl) ⟨Nat.zero_le _, Nat.zero_le _⟩ rfl ?_
  refine b_if_eq C (tgt := 26) dX12_deed_6 (by decide) (fun c4 => ?_) (fun c4 => ?_)
  · have hf := it_s c4 hf
    refine b_sub [(0, .ref (ad B x0)), (1, .int x1), (2, .int x2), (3, .int x3)] [0, 1, 2, 3] rfl ?_
    exact tX12_deed_26 C hr hlocks hf
  · have hf := if_s c4 hf
    refine b_aload_n C dX12_deed_9 0 rfl rfl ?_
    refine b_iload_n C dX12_deed_10 2 rfl rfl ?_
    obtain ⟨h5, hf⟩ := gd_s hf
    obtain ⟨u8, d6, k7, hf⟩ := cb_s hf
    refine b_cVI C [] dX12_deed_11 (kX12_isKey l D cy B k7) lv_X12_220 ⟨rfl, rfl, Nat.le_of_ble_eq_true rfl, Nat.le_of_ble_eq_true rfl⟩ h5 (by decide) rfl (Nat.le_of_ble_eq_true rfl) ⟨Nat.zero_le _, Nat.zero_le _⟩ rfl ?_
    refine b_if_eq C (tgt := 26) dX12_deed_14 (by decide) (fun c9 => ?_) (fun c9 => ?_)
    · have hf := it_s c9 hf
      refine b_sub [(0, .ref (ad B x0)), (1, .int x1), (2, .int x2), (3, .int x3)] [0, 1, 2, 3] rfl ?_
      exact tX12_deed_26 C hr hlocks hf
    · have hf := if_s c9 hf
      refine b_iload_n C dX12_deed_17 3 rfl rfl ?_
      refine b_iconst C (v := 0) dX12_deed_18 (by decide) ?_
      refine b_iconst C (v := 2) dX12_deed_19 (by decide) ?_
      obtain ⟨u12, d10, k11, hf⟩ := cb_s hf
      refine b_cSI C [] dX12_deed_20 (kX12_in l D cy B k11) lv_X12_169 ⟨rfl, rfl, Nat.le_of_ble_eq_true rfl, Nat.le_of_ble_eq_true rfl⟩ rfl (Nat.le_of_ble_eq_true rfl) ⟨Nat.zero_le _, Nat.zero_le _⟩ rfl ?_
      refine b_if_ne C (tgt := 28) dX12_deed_23 (by decide) (fun c13 => ?_) (fun c13 => ?_)
      · have hf := if_s c13 hf
        refine b_aload_n C dX12_deed_28 0 rfl rfl ?_
        obtain ⟨r14, er14, hf⟩ := ob_s hf
        refine b_gR C dX12_deed_29 fl_X12_40 h5 er14 ?_
        refine b_bipush C (v := 12) dX12_deed_32 (by decide) ?_
        refine b_iconst C (v := 3) dX12_deed_34 (by decide) ?_
        refine b_bipush C (v := 24) dX12_deed_35 (by decide) ?_
        refine b_iload_n C dX12_deed_37 1 rfl rfl ?_
        refine b_if_ge C (tgt := 49) dX12_deed_38 (by decide) (fun c15 => ?_) (fun c15 => ?_)
        · have hf := it_s c15 hf
          refine b_iload_n C dX12_deed_49 1 rfl rfl ?_
          refine b_sub [(0, .ref (ad B x0)), (1, .int x1), (2, .int x2), (3, .int x3)] [0, 1, 2, 3] rfl ?_
          exact tX12_deed_50 C hr hlocks hf
        · have hf := if_s c15 hf
          refine b_aload_n C dX12_deed_41 0 rfl rfl ?_
          refine b_iload_n C dX12_deed_42 2 rfl rfl ?_
          obtain ⟨u24, d22, k23, hf⟩ := cb_s hf
          refine b_cVI C [.int 24, .int 3, .int 12, .ref (ad B r14)] dX12_deed_43 (kX12_layerOf l D cy B k23) lv_X12_272 ⟨rfl, rfl, Nat.le_of_ble_eq_true rfl, Nat.le_of_ble_eq_true rfl⟩ h5 (by decide) rfl (Nat.le_of_ble_eq_true rfl) ⟨Nat.zero_le _, Nat.zero_le _⟩ rfl ?_
          refine b_goto C (tgt := 50) dX12_deed_46 (by decide) ?_
          refine b_sub [(0, .ref (ad B x0)), (1, .int x1), (2, .int x2), (3, .int x3)] [0, 1, 2, 3] rfl ?_
          exact tX12_deed_50 C hr hlocks hf
      · have hf := it_s c13 hf
        refine b_sub [(0, .ref (ad B x0)), (1, .int x1), (2, .int x2), (3, .int x3)] [0, 1, 2, 3] rfl ?_
        exact tX12_deed_26 C hr hlocks hf
theorem kX12_deed (l : Launch) (D : va_G) (cy : Nat → ClassId) (B : Bs) {N : Nat} {g : Gs} {x0 : Nat} {x1 : Int32} {x2 : Int32} {x3 : Int32} {vz : Int32} {dz : Ds} {d : Ds} (hf : fX12_deed N g x0 x1 x2 x3 d = some (vz, dz)) : Met l yX12_deed (.code yX12_deed cX12_deed 5 (some .int) :: wl) rmX12_deed (PC D cy B [.ref (ad B x0), .int x1, .int x2, .int x3] g d) (QI D cy B vz g dz) 0 0 (wA B) :=
  met_of (by decide +kernel) (Nat.le_of_ble_eq_true rfl) (fun p e s m args below meth c C hr hlocks _ => b_sub [(0, .ref (ad B x0)), (1, .int x1), (2, .int x2), (3, .int x3)] [0, 1, 2, 3] rfl (tX12_deed_E C hr hlocks hf))
/-! KeyMatrixModel.tick(I)I -/
theorem yo_X12_ticks : yX12_ticks.cls ≠ "java/lang/invoke/MethodHandle" ∧ yX12_ticks.cls ≠ "java/lang/invoke/VarHandle" ∧ (parseMethodDescriptor yX12_ticks.desc).map (fun d => d.parameters.length) = some 0 := by decide +kernel
theorem co_X12_ticks : Cond.code yX12_ticks cX12_ticks 5 none ∈ wl := mW (mT6 (List.mem_of_getElem? (i := 119) (by decide +kernel))) rfl
theorem in_X12_ticks : Cond.initialized yX12_ticks.cls ∈ wl := mW (mT1 (List.mem_of_getElem? (i := 12) (by decide +kernel))) rfl
theorem im_X12_ticks : Cond.instanceMethod yX12_ticks ∈ wl := mW (mT6 (List.mem_of_getElem? (i := 118) (by decide +kernel))) rfl
theorem se_X12_ticks : Cond.selects yX12_ticks.cls yX12_ticks yX12_ticks ∈ wl := mW (mT0 (List.mem_of_getElem? (i := 61) (by decide +kernel))) rfl
theorem lv_X12_326 : LV RX12 326 yX12_ticks cX12_ticks 5 none 0 11 := ⟨⟨(RX12, TX12, 33), rfl, rfl⟩, yo_X12_ticks, mW (mT6 (List.mem_of_getElem? (i := 116) (by decide +kernel))) rfl, im_X12_ticks, se_X12_ticks, in_X12_ticks, co_X12_ticks⟩
theorem dX12_tick_0 : decode cX12_tick 0 = .ok (.iload_n 1, 1) := by decide +kernel
theorem dX12_tick_1 : decode cX12_tick 1 = .ok (.iconst 1, 1) := by decide +kernel
theorem dX12_tick_2 : decode cX12_tick 2 = .ok (.bipush 50, 2) := by decide +kernel
theorem dX12_tick_4 : decode cX12_tick 4 = .ok (.invokestatic 169, 3) := by decide +kernel
theorem dX12_tick_7 : decode cX12_tick 7 = .ok (.ifCond .eq 10, 3) := by decide +kernel
theorem dX12_tick_10 : decode cX12_tick 10 = .ok (.aload_n 0, 1) := by decide +kernel
theorem dX12_tick_11 : decode cX12_tick 11 = .ok (.invokevirtual 206, 3) := by decide +kernel
theorem dX12_tick_14 : decode cX12_tick 14 = .ok (.ifCond .ne 5, 3) := by decide +kernel
theorem dX12_tick_17 : decode cX12_tick 17 = .ok (.iconst (-1), 1) := by decide +kernel
theorem dX12_tick_18 : decode cX12_tick 18 = .ok (.ireturn, 1) := by decide +kernel
theorem dX12_tick_19 : decode cX12_tick 19 = .ok (.aload_n 0, 1) := by decide +kernel
theorem dX12_tick_20 : decode cX12_tick 20 = .ok (.getfield 40, 3) := by decide +kernel
theorem dX12_tick_23 : decode cX12_tick 23 = .ok (.sipush 555, 3) := by decide +kernel
theorem dX12_tick_26 : decode cX12_tick 26 = .ok (.iaload, 1) := by decide +kernel
theorem dX12_tick_27 : decode cX12_tick 27 = .ok (.istore_n 2, 1) := by decide +kernel
theorem dX12_tick_28 : decode cX12_tick 28 = .ok (.iconst 0, 1) := by decide +kernel
theorem dX12_tick_29 : decode cX12_tick 29 = .ok (.istore_n 3, 1) := by decide +kernel
theorem dX12_tick_30 : decode cX12_tick 30 = .ok (.iload_n 3, 1) := by decide +kernel
theorem dX12_tick_31 : decode cX12_tick 31 = .ok (.iload_n 1, 1) := by decide +kernel
theorem dX12_tick_32 : decode cX12_tick 32 = .ok (.if_icmp .ge 13, 3) := by decide +kernel
theorem dX12_tick_35 : decode cX12_tick 35 = .ok (.aload_n 0, 1) := by decide +kernel
theorem dX12_tick_36 : decode cX12_tick 36 = .ok (.invokevirtual 326, 3) := by decide +kernel
theorem dX12_tick_39 : decode cX12_tick 39 = .ok (.iinc 3 1, 3) := by decide +kernel
theorem dX12_tick_42 : decode cX12_tick 42 = .ok (.goto (-12), 3) := by decide +kernel
theorem dX12_tick_45 : decode cX12_tick 45 = .ok (.aload_n 0, 1) := by decide +kernel
theorem dX12_tick_46 : decode cX12_tick 46 = .ok (.getfield 40, 3) := by decide +kernel
theorem dX12_tick_49 : decode cX12_tick 49 = .ok (.sipush 555, 3) := by decide +kernel
theorem dX12_tick_52 : decode cX12_tick 52 = .ok (.iaload, 1) := by decide +kernel
theorem dX12_tick_53 : decode cX12_tick 53 = .ok (.iload_n 2, 1) := by decide +kernel
theorem dX12_tick_54 : decode cX12_tick 54 = .ok (.isub, 1) := by decide +kernel
theorem dX12_tick_55 : decode cX12_tick 55 = .ok (.ireturn, 1) := by decide +kernel
def rmX12_tick : Room := { frames := 8, cells := 0, slots := 0, locals := 192 }
set_option maxRecDepth 100000 in
def fX12_tick_J17 (N : Nat) (g : Gs) (x0 : Nat) (x1 : Int32) (d : Ds) : Option (Int32 × Ds) := some ((-1), d)
set_option maxHeartbeats 4000000 in
set_option maxRecDepth 100000 in
theorem tX12_tick_17 {p : Program} {l : Launch} {e : Env} {s : State} {m : MethodId} {args : Array Value} {below : List Frame} {meth : Method} {c : Code} {D : va_G} {cy : Nat → ClassId} {B : Bs} (C : Cx p s m args c cX12_tick 4 RX12 D cy B) (hr : meth.sig.returnType = (some .int)) (hlocks : meth.locks = false) {N : Nat} {g : Gs} {x0 : Nat} {x1 : Int32} {vz : Int32} {dz : Ds} {d : Ds} (hf : fX12_tick_J17 N g x0 x1 d = some (vz, dz)) : WB p l e rmX12_tick s m args below meth c 4 D cy B 0 0 (MQ below (QI D cy B vz g dz) args s 0 0 (wA B)) g d [(0, .ref (ad B x0)), (1, .int x1)] 17 [] := by
  unfold fX12_tick_J17 at hf
  refine b_iconst C (v := (-1)) dX12_tick_17 (by decide) ?_
  exact b_iret C hr hlocks hf dX12_tick_18
set_option maxRecDepth 100000 in
def fX12_tick_B30 (N : Nat) (g : Gs) (x0 : Nat) (x1 : Int32) (K30 : Int32 × Int32 × Ds → Option (Int32 × Ds)) (y2 : Int32) (y3 : Int32) (d : Ds) : Option (Int32 × Ds) := if x1 ≤ y3 then (gd (chk g x0 11) <| ob (gR g x0 17) fun r16 => (gd (chk g r16 102) <| gd (¬ ((555 : Int32) < 0 ∨ gL g r16 ≤ (555 : Int32).toNatClampNeg)) <| some (((dI d r16 (555 : Int32).toNatClampNeg) - y2), d))) else (gd (chk g x0 11) <| cv (fX12_ticks N g x0 d) fun d20 => (bd (y3 + 1) fun u22 => (K30 (y2, u22, d20))))
set_option maxHeartbeats 4000000 in
set_option maxRecDepth 100000 in
theorem tX12_tick_30 {p : Program} {l : Launch} {e : Env} {s : State} {m : MethodId} {args : Array Value} {below : List Frame} {meth : Method} {c : Code} {D : va_G} {cy : Nat → ClassId} {B : Bs} (C : Cx p s m args c cX12_tick 4 RX12 D cy B) (hr : meth.sig.returnType = (some .int)) (hlocks : meth.locks = false) {N : Nat} {g : Gs} {x0 : Nat} {x1 : Int32} {vz : Int32} {dz : Ds} {K30 : Int32 × Int32 × Ds → Option (Int32 × Ds)} (hK30 : ∀ a, K30 a = some (vz, dz) → WB p l e rmX12_tick s m args below meth c 4 D cy B 0 0 (MQ below (QI D cy B vz g dz) args s 0 0 (wA B)) g a.2.2 [(0, .ref (ad B x0)), (1, .int x1), (2, .int a.1), (3, .int a.2.1)] 30 []) {y2 : Int32} {y3 : Int32} {d : Ds} (hf : fX12_tick_B30 N g x0 x1 K30 y2 y3 d = some (vz, dz)) : WB p l e rmX12_tick s m args below meth c 4 D cy B 0 0 (MQ below (QI D cy B vz g dz) args s 0 0 (wA B)) g d [(0, .ref (ad B x0)), (1, .int x1), (2, .int y2), (3, .int y3)] 30 [] := by
  unfold fX12_tick_B30 at hf
  refine b_iload_n C dX12_tick_30 3 rfl rfl ?_
  refine b_iload_n C dX12_tick_31 1 rfl rfl ?_
  refine b_icmp_ge C (tgt := 45) dX12_tick_32 (by decide) (fun c14 => ?_) (fun c14 => ?_)
  · have hf := it_s c14 hf
    refine b_aload_n C dX12_tick_45 0 rfl rfl ?_
    obtain ⟨h15, hf⟩ := gd_s hf
    obtain ⟨r16, er16, hf⟩ := ob_s hf
    refine b_gR C dX12_tick_46 fl_X12_40 h15 er16 ?_
    refine b_sipush C (v := 555) dX12_tick_49 (by decide) ?_
    obtain ⟨h17, hf⟩ := gd_s hf
    obtain ⟨h18, hf⟩ := gd_s hf
    refine b_iald C h17 h18 dX12_tick_52 ?_
    refine b_iload_n C dX12_tick_53 2 rfl rfl ?_
    refine b_isub C dX12_tick_54 ?_
    exact b_iret C hr hlocks hf dX12_tick_55
  · have hf := if_s c14 hf
    refine b_aload_n C dX12_tick_35 0 rfl rfl ?_
    obtain ⟨h19, hf⟩ := gd_s hf
    obtain ⟨d20, k21, hf⟩ := cv_s hf
    refine b_cVN C [] dX12_tick_36 (kX12_ticks l D cy B k21) lv_X12_326 ⟨rfl, rfl, Nat.le_of_ble_eq_true rfl, Nat.le_of_ble_eq_true rfl⟩ h19 (by decide) rfl (Nat.le_of_ble_eq_true rfl) ⟨Nat.zero_le _, Nat.zero_le _⟩ rfl ?_
    obtain ⟨u22, eu22, hf⟩ := bd_s hf
    refine b_iinc C dX12_tick_39 3 rfl (by rw [eu22]; rfl) [(3, .int u22), (0, .ref (ad B x0)), (1, .int x1), (2, .int y2)] (by decide) rfl ?_
    refine b_goto C (tgt := 30) dX12_tick_42 (by decide) ?_
    refine b_sub [(0, .ref (ad B x0)), (1, .int x1), (2, .int y2), (3, .int u22)] [1, 2, 3, 0] rfl ?_
    exact hK30 (y2, u22, d20) hf
def fX12_tick_L30 (N : Nat) (g : Gs) (x0 : Nat) (x1 : Int32) : Int32 × Int32 × Ds → Option (Int32 × Ds) := lp (fun K30 a => fX12_tick_B30 N g x0 x1 K30 a.1 a.2.1 a.2.2) N
theorem tX12_tick_L30 {p : Program} {l : Launch} {e : Env} {s : State} {m : MethodId} {args : Array Value} {below : List Frame} {meth : Method} {c : Code} {D : va_G} {cy : Nat → ClassId} {B : Bs} (C : Cx p s m args c cX12_tick 4 RX12 D cy B) (hr : meth.sig.returnType = (some .int)) (hlocks : meth.locks = false) {N : Nat} {g : Gs} {x0 : Nat} {x1 : Int32} {vz : Int32} {dz : Ds} (a : Int32 × Int32 × Ds) (hf : fX12_tick_L30 N g x0 x1 a = some (vz, dz)) : WB p l e rmX12_tick s m args below meth c 4 D cy B 0 0 (MQ below (QI D cy B vz g dz) args s 0 0 (wA B)) g a.2.2 [(0, .ref (ad B x0)), (1, .int x1), (2, .int a.1), (3, .int a.2.1)] 30 [] :=
  lp_w (fun K30 hK30 a ha => tX12_tick_30 C hr hlocks hK30 ha) N a hf
set_option maxRecDepth 100000 in
def fX12_tick (N : Nat) (g : Gs) (x0 : Nat) (x1 : Int32) (d : Ds) : Option (Int32 × Ds) := cb (fX12_in N g x1 1 50 d) fun u3 d1 => (if u3 = 0 then (fX12_tick_J17 N g x0 x1 d1) else (gd (chk g x0 11) <| cb (fX12_keysMany N g x0 d1) fun u8 d6 => (if u8 = 0 then (fX12_tick_J17 N g x0 x1 d6) else (ob (gR g x0 17) fun r10 => (gd (chk g r10 102) <| gd (¬ ((555 : Int32) < 0 ∨ gL g r10 ≤ (555 : Int32).toNatClampNeg)) <| bd ((dI d6 r10 (555 : Int32).toNatClampNeg)) fun u13 => (fX12_tick_L30 N g x0 x1 (u13, 0, d6)))))))
set_option maxHeartbeats 4000000 in
set_option maxRecDepth 100000 in
theorem tX12_tick_E {p : Program} {l : Launch} {e : Env} {s : State} {m : MethodId} {args : Array Value} {below : List Frame} {meth : Method} {c : Code} {D : va_G} {cy : Nat → ClassId} {B : Bs} (C : Cx p s m args c cX12_tick 4 RX12 D cy B) (hr : meth.sig.returnType = (some .int)) (hlocks : meth.locks = false) {N : Nat} {g : Gs} {x0 : Nat} {x1 : Int32} {vz : Int32} {dz : Ds} {d : Ds} (hf : fX12_tick N g x0 x1 d = some (vz, dz)) : WB p l e rmX12_tick s m args below meth c 4 D cy B 0 0 (MQ below (QI D cy B vz g dz) args s 0 0 (wA B)) g d [(0, .ref (ad B x0)), (1, .int x1)] 0 [] := by
  unfold fX12_tick at hf
  refine b_iload_n C dX12_tick_0 1 rfl rfl ?_
  refine b_iconst C (v := 1) dX12_tick_1 (by decide) ?_
  refine b_bipush C (v := 50) dX12_tick_2 (by decide) ?_
  obtain ⟨u3, d1, k2, hf⟩ := cb_s hf
  refine b_cSI C [] dX12_tick_4 (kX12_in l D cy B k2) lv_X12_169 ⟨rfl, rfl, Nat.le_of_ble_eq_true rfl, Nat.le_of_ble_eq_true rfl⟩ rfl (Nat.le_of_ble_eq_true rfl) ⟨Nat.zero_le _, Nat.zero_le _⟩ rfl ?_
  refine b_if_eq C (tgt := 17) dX12_tick_7 (by decide) (fun c4 => ?_) (fun c4 => ?_)
  · have hf := it_s c4 hf
    refine b_sub [(0, .ref (ad B x0)), (1, .int x1)] [0, 1] rfl ?_
    exact tX12_tick_17 C hr hlocks hf
  · have hf := if_s c4 hf
    refine b_aload_n C dX12_tick_10 0 rfl rfl ?_
    obtain ⟨h5, hf⟩ := gd_s hf
    obtain ⟨u8, d6, k7, hf⟩ := cb_s hf
    refine b_cVI C [] dX12_tick_11 (kX12_keysMany l D cy B k7) lv_X12_206 ⟨rfl, rfl, Nat.le_of_ble_eq_true rfl, Nat.le_of_ble_eq_true rfl⟩ h5 (by decide) rfl (Nat.le_of_ble_eq_true rfl) ⟨Nat.zero_le _, Nat.zero_le _⟩ rfl ?_
    refine b_if_ne C (tgt := 19) dX12_tick_14 (by decide) (fun c9 => ?_) (fun c9 => ?_)
    · have hf := if_s c9 hf
      refine b_aload_n C dX12_tick_19 0 rfl rfl ?_
      obtain ⟨r10, er10, hf⟩ := ob_s hf
      refine b_gR C dX12_tick_20 fl_X12_40 h5 er10 ?_
      refine b_sipush C (v := 555) dX12_tick_23 (by decide) ?_
      obtain ⟨h11, hf⟩ := gd_s hf
      obtain ⟨h12, hf⟩ := gd_s hf
      refine b_iald C h11 h12 dX12_tick_26 ?_
      obtain ⟨u13, eu13, hf⟩ := bd_s hf
      refine b_topI eu13 ?_
      refine b_istore_n C dX12_tick_27 rfl [(2, .int u13), (0, .ref (ad B x0)), (1, .int x1)] (by decide) rfl ?_
      refine b_iconst C (v := 0) dX12_tick_28 (by decide) ?_
      refine b_istore_n C dX12_tick_29 rfl [(3, .int 0), (2, .int u13), (0, .ref (ad B x0)), (1, .int x1)] (by decide) rfl ?_
      refine b_sub [(0, .ref (ad B x0)), (1, .int x1), (2, .int u13), (3, .int 0)] [2, 3, 1, 0] rfl ?_
      exact tX12_tick_L30 C hr hlocks (u13, 0, d6) hf
    · have hf := it_s c9 hf
      refine b_sub [(0, .ref (ad B x0)), (1, .int x1)] [0, 1] rfl ?_
      exact tX12_tick_17 C hr hlocks hf
theorem kX12_tick (l : Launch) (D : va_G) (cy : Nat → ClassId) (B : Bs) {N : Nat} {g : Gs} {x0 : Nat} {x1 : Int32} {vz : Int32} {dz : Ds} {d : Ds} (hf : fX12_tick N g x0 x1 d = some (vz, dz)) : Met l yX12_tick (.code yX12_tick cX12_tick 4 (some .int) :: wl) rmX12_tick (PC D cy B [.ref (ad B x0), .int x1] g d) (QI D cy B vz g dz) 0 0 (wA B) :=
  met_of (by decide +kernel) (Nat.le_of_ble_eq_true rfl) (fun p e s m args below meth c C hr hlocks _ => b_sub [(0, .ref (ad B x0)), (1, .int x1)] [0, 1] rfl (tX12_tick_E C hr hlocks hf))
/-! KeyMatrixModel.bitsOfNumber(F)I -/
theorem ct_X12_331 : Cond.constant RX12 331 8388608 ∈ wl := mW (mT6 (List.mem_of_getElem? (i := 234) (by decide +kernel))) rfl
theorem ct_X12_329 : Cond.constantDouble RX12 329 4611686018427387904 ∈ wl := mW (mT6 (List.mem_of_getElem? (i := 233) (by decide +kernel))) rfl
theorem dX12_bitsOfNumber_0 : decode cX12_bitsOfNumber 0 = .ok (.fload_n 0, 1) := by decide +kernel
theorem dX12_bitsOfNumber_1 : decode cX12_bitsOfNumber 1 = .ok (.f2d, 1) := by decide +kernel
theorem dX12_bitsOfNumber_2 : decode cX12_bitsOfNumber 2 = .ok (.dstore_n 1, 1) := by decide +kernel
theorem dX12_bitsOfNumber_3 : decode cX12_bitsOfNumber 3 = .ok (.dload_n 1, 1) := by decide +kernel
theorem dX12_bitsOfNumber_4 : decode cX12_bitsOfNumber 4 = .ok (.dconst 0, 1) := by decide +kernel
theorem dX12_bitsOfNumber_5 : decode cX12_bitsOfNumber 5 = .ok (.dcmp .l, 1) := by decide +kernel
theorem dX12_bitsOfNumber_6 : decode cX12_bitsOfNumber 6 = .ok (.ifCond .ne 5, 3) := by decide +kernel
theorem dX12_bitsOfNumber_9 : decode cX12_bitsOfNumber 9 = .ok (.iconst 0, 1) := by decide +kernel
theorem dX12_bitsOfNumber_10 : decode cX12_bitsOfNumber 10 = .ok (.ireturn, 1) := by decide +kernel
theorem dX12_bitsOfNumber_11 : decode cX12_bitsOfNumber 11 = .ok (.bipush 127, 2) := by decide +kernel
theorem dX12_bitsOfNumber_13 : decode cX12_bitsOfNumber 13 = .ok (.istore_n 3, 1) := by decide +kernel
theorem dX12_bitsOfNumber_14 : decode cX12_bitsOfNumber 14 = .ok (.dload_n 1, 1) := by decide +kernel
theorem dX12_bitsOfNumber_15 : decode cX12_bitsOfNumber 15 = .ok (.dconst 1, 1) := by decide +kernel
theorem dX12_bitsOfNumber_16 : decode cX12_bitsOfNumber 16 = .ok (.dcmp .g, 1) := by decide +kernel
theorem dX12_bitsOfNumber_17 : decode cX12_bitsOfNumber 17 = .ok (.ifCond .ge 20, 3) := by decide +kernel
theorem dX12_bitsOfNumber_20 : decode cX12_bitsOfNumber 20 = .ok (.iload_n 3, 1) := by decide +kernel
theorem dX12_bitsOfNumber_21 : decode cX12_bitsOfNumber 21 = .ok (.iconst 1, 1) := by decide +kernel
theorem dX12_bitsOfNumber_22 : decode cX12_bitsOfNumber 22 = .ok (.if_icmp .le 15, 3) := by decide +kernel
theorem dX12_bitsOfNumber_25 : decode cX12_bitsOfNumber 25 = .ok (.dload_n 1, 1) := by decide +kernel
theorem dX12_bitsOfNumber_26 : decode cX12_bitsOfNumber 26 = .ok (.ldc2_w 329, 3) := by decide +kernel
theorem dX12_bitsOfNumber_29 : decode cX12_bitsOfNumber 29 = .ok (.dmul, 1) := by decide +kernel
theorem dX12_bitsOfNumber_30 : decode cX12_bitsOfNumber 30 = .ok (.dstore_n 1, 1) := by decide +kernel
theorem dX12_bitsOfNumber_31 : decode cX12_bitsOfNumber 31 = .ok (.iinc 3 (-1), 3) := by decide +kernel
theorem dX12_bitsOfNumber_34 : decode cX12_bitsOfNumber 34 = .ok (.goto (-20), 3) := by decide +kernel
theorem dX12_bitsOfNumber_37 : decode cX12_bitsOfNumber 37 = .ok (.iconst 0, 1) := by decide +kernel
theorem dX12_bitsOfNumber_38 : decode cX12_bitsOfNumber 38 = .ok (.istore 4, 2) := by decide +kernel
theorem dX12_bitsOfNumber_40 : decode cX12_bitsOfNumber 40 = .ok (.iload 4, 2) := by decide +kernel
theorem dX12_bitsOfNumber_42 : decode cX12_bitsOfNumber 42 = .ok (.bipush 23, 2) := by decide +kernel
theorem dX12_bitsOfNumber_44 : decode cX12_bitsOfNumber 44 = .ok (.if_icmp .ge 15, 3) := by decide +kernel
theorem dX12_bitsOfNumber_47 : decode cX12_bitsOfNumber 47 = .ok (.dload_n 1, 1) := by decide +kernel
theorem dX12_bitsOfNumber_48 : decode cX12_bitsOfNumber 48 = .ok (.ldc2_w 329, 3) := by decide +kernel
theorem dX12_bitsOfNumber_51 : decode cX12_bitsOfNumber 51 = .ok (.dmul, 1) := by decide +kernel
theorem dX12_bitsOfNumber_52 : decode cX12_bitsOfNumber 52 = .ok (.dstore_n 1, 1) := by decide +kernel
theorem dX12_bitsOfNumber_53 : decode cX12_bitsOfNumber 53 = .ok (.iinc 4 1, 3) := by decide +kernel
theorem dX12_bitsOfNumber_56 : decode cX12_bitsOfNumber 56 = .ok (.goto (-16), 3) := by decide +kernel
theorem dX12_bitsOfNumber_59 : decode cX12_bitsOfNumber 59 = .ok (.dload_n 1, 1) := by decide +kernel
theorem dX12_bitsOfNumber_60 : decode cX12_bitsOfNumber 60 = .ok (.d2i, 1) := by decide +kernel
theorem dX12_bitsOfNumber_61 : decode cX12_bitsOfNumber 61 = .ok (.istore 4, 2) := by decide +kernel
theorem dX12_bitsOfNumber_63 : decode cX12_bitsOfNumber 63 = .ok (.iload 4, 2) := by decide +kernel
theorem dX12_bitsOfNumber_65 : decode cX12_bitsOfNumber 65 = .ok (.ldc_w 331, 3) := by decide +kernel
theorem dX12_bitsOfNumber_68 : decode cX12_bitsOfNumber 68 = .ok (.if_icmp .ge 8, 3) := by decide +kernel
theorem dX12_bitsOfNumber_71 : decode cX12_bitsOfNumber 71 = .ok (.iload 4, 2) := by decide +kernel
theorem dX12_bitsOfNumber_73 : decode cX12_bitsOfNumber 73 = .ok (.goto 14, 3) := by decide +kernel
theorem dX12_bitsOfNumber_76 : decode cX12_bitsOfNumber 76 = .ok (.iload_n 3, 1) := by decide +kernel
theorem dX12_bitsOfNumber_77 : decode cX12_bitsOfNumber 77 = .ok (.bipush 23, 2) := by decide +kernel
theorem dX12_bitsOfNumber_79 : decode cX12_bitsOfNumber 79 = .ok (.ishl, 1) := by decide +kernel
theorem dX12_bitsOfNumber_80 : decode cX12_bitsOfNumber 80 = .ok (.iload 4, 2) := by decide +kernel
theorem dX12_bitsOfNumber_82 : decode cX12_bitsOfNumber 82 = .ok (.ldc_w 331, 3) := by decide +kernel
theorem dX12_bitsOfNumber_85 : decode cX12_bitsOfNumber 85 = .ok (.isub, 1) := by decide +kernel
theorem dX12_bitsOfNumber_86 : decode cX12_bitsOfNumber 86 = .ok (.ior, 1) := by decide +kernel
theorem dX12_bitsOfNumber_87 : decode cX12_bitsOfNumber 87 = .ok (.ireturn, 1) := by decide +kernel
def rmX12_bitsOfNumber : Room := { frames := 0, cells := 0, slots := 0, locals := 0 }
set_option maxRecDepth 100000 in
def fX12_bitsOfNumber_J87 (N : Nat) (g : Gs) (x0 : UInt32) (z0 : Int32) (d : Ds) : Option (Int32 × Ds) := some (z0, d)
set_option maxHeartbeats 4000000 in
set_option maxRecDepth 100000 in
theorem tX12_bitsOfNumber_87 {p : Program} {l : Launch} {e : Env} {s : State} {m : MethodId} {args : Array Value} {below : List Frame} {meth : Method} {c : Code} {D : va_G} {cy : Nat → ClassId} {B : Bs} (C : Cx p s m args c cX12_bitsOfNumber 5 RX12 D cy B) (hr : meth.sig.returnType = (some .int)) (hlocks : meth.locks = false) {N : Nat} {g : Gs} {x0 : UInt32} {vz : Int32} {dz : Ds} {z0 : Int32} {d : Ds} (hf : fX12_bitsOfNumber_J87 N g x0 z0 d = some (vz, dz)) : WB p l e rmX12_bitsOfNumber s m args below meth c 5 D cy B 0 0 (MQ below (QI D cy B vz g dz) args s 0 0 (wA B)) g d [(0, .float x0)] 87 [.int z0] := by
  unfold fX12_bitsOfNumber_J87 at hf
  exact b_iret C hr hlocks hf dX12_bitsOfNumber_87
set_option maxRecDepth 100000 in
def fX12_bitsOfNumber_B40 (N : Nat) (g : Gs) (x0 : UInt32) (K40 : UInt64 × Int32 × Int32 × Ds → Option (Int32 × Ds)) (y1 : UInt64) (y3 : Int32) (y4 : Int32) (d : Ds) : Option (Int32 × Ds) := if (23 : Int32) ≤ y4 then (bd ((FP.d2i y1)) fun u6 => (if (8388608 : Int32) ≤ u6 then (fX12_bitsOfNumber_J87 N g x0 ((y3 <<< (23 &&& 31)) ||| (u6 - 8388608)) d) else (fX12_bitsOfNumber_J87 N g x0 u6 d))) else (gd ((FP.dmul y1 4611686018427387904) &&& 0x7fffffffffffffff ≤ 0x7ff0000000000000) <| bd (FP.dmul y1 4611686018427387904) fun u9 => (bd (y4 + 1) fun u10 => (K40 (u9, y3, u10, d))))
set_option maxHeartbeats 4000000 in
set_option maxRecDepth 100000 in
theorem tX12_bitsOfNumber_40 {p : Program} {l : Launch} {e : Env} {s : State} {m : MethodId} {args : Array Value} {below : List Frame} {meth : Method} {c : Code} {D : va_G} {cy : Nat → ClassId} {B : Bs} (C : Cx p s m args c cX12_bitsOfNumber 5 RX12 D cy B) (hr : meth.sig.returnType = (some .int)) (hlocks : meth.locks = false) {N : Nat} {g : Gs} {x0 : UInt32} {vz : Int32} {dz : Ds} {K40 : UInt64 × Int32 × Int32 × Ds → Option (Int32 × Ds)} (hK40 : ∀ a, K40 a = some (vz, dz) → WB p l e rmX12_bitsOfNumber s m args below meth c 5 D cy B 0 0 (MQ below (QI D cy B vz g dz) args s 0 0 (wA B)) g a.2.2.2 [(0, .float x0), (1, .double a.1), (3, .int a.2.1), (4, .int a.2.2.1)] 40 []) {y1 : UInt64} {y3 : Int32} {y4 : Int32} {d : Ds} (hf : fX12_bitsOfNumber_B40 N g x0 K40 y1 y3 y4 d = some (vz, dz)) : WB p l e rmX12_bitsOfNumber s m args below meth c 5 D cy B 0 0 (MQ below (QI D cy B vz g dz) args s 0 0 (wA B)) g d [(0, .float x0), (1, .double y1), (3, .int y3), (4, .int y4)] 40 [] := by
  unfold fX12_bitsOfNumber_B40 at hf
  refine b_iload C dX12_bitsOfNumber_40 3 rfl ?_
  refine b_bipush C (v := 23) dX12_bitsOfNumber_42 (by decide) ?_
  refine b_icmp_ge C (tgt := 59) dX12_bitsOfNumber_44 (by decide) (fun c5 => ?_) (fun c5 => ?_)
  · have hf := it_s c5 hf
    refine b_dload_n C dX12_bitsOfNumber_59 1 rfl rfl ?_
    refine b_d2i C dX12_bitsOfNumber_60 ?_
    obtain ⟨u6, eu6, hf⟩ := bd_s hf
    refine b_topI eu6 ?_
    refine b_istore C dX12_bitsOfNumber_61 [(4, .int u6), (0, .float x0), (1, .double y1), (3, .int y3)] (by decide) rfl ?_
    refine b_iload C dX12_bitsOfNumber_63 0 rfl ?_
    refine b_ldcw C ct_X12_331 dX12_bitsOfNumber_65 ?_
    refine b_icmp_ge C (tgt := 76) dX12_bitsOfNumber_68 (by decide) (fun c7 => ?_) (fun c7 => ?_)
    · have hf := it_s c7 hf
      refine b_iload_n C dX12_bitsOfNumber_76 3 rfl rfl ?_
      refine b_bipush C (v := 23) dX12_bitsOfNumber_77 (by decide) ?_
      refine b_ishl C dX12_bitsOfNumber_79 ?_
      refine b_iload C dX12_bitsOfNumber_80 0 rfl ?_
      refine b_ldcw C ct_X12_331 dX12_bitsOfNumber_82 ?_
      refine b_isub C dX12_bitsOfNumber_85 ?_
      refine b_ior C dX12_bitsOfNumber_86 ?_
      refine b_sub [(0, .float x0)] [1] rfl ?_
      exact tX12_bitsOfNumber_87 C hr hlocks hf
    · have hf := if_s c7 hf
      refine b_iload C dX12_bitsOfNumber_71 0 rfl ?_
      refine b_goto C (tgt := 87) dX12_bitsOfNumber_73 (by decide) ?_
      refine b_sub [(0, .float x0)] [1] rfl ?_
      exact tX12_bitsOfNumber_87 C hr hlocks hf
  · have hf := if_s c5 hf
    refine b_dload_n C dX12_bitsOfNumber_47 1 rfl rfl ?_
    refine b_ldc2d C ct_X12_329 dX12_bitsOfNumber_48 ?_
    obtain ⟨h8, hf⟩ := gd_s hf
    refine b_dmul C dX12_bitsOfNumber_51 h8 ?_
    obtain ⟨u9, eu9, hf⟩ := bd_s hf
    refine b_topD eu9 ?_
    refine b_dstore_n C dX12_bitsOfNumber_52 rfl [(1, .double u9), (0, .float x0), (3, .int y3), (4, .int y4)] (by decide) rfl ?_
    obtain ⟨u10, eu10, hf⟩ := bd_s hf
    refine b_iinc C dX12_bitsOfNumber_53 3 rfl (by rw [eu10]; rfl) [(4, .int u10), (1, .double u9), (0, .float x0), (3, .int y3)] (by decide) rfl ?_
    refine b_goto C (tgt := 40) dX12_bitsOfNumber_56 (by decide) ?_
    refine b_sub [(0, .float x0), (1, .double u9), (3, .int y3), (4, .int u10)] [2, 1, 3, 0] rfl ?_
    exact hK40 (u9, y3, u10, d) hf
def fX12_bitsOfNumber_L40 (N : Nat) (g : Gs) (x0 : UInt32) : UInt64 × Int32 × Int32 × Ds → Option (Int32 × Ds) := lp (fun K40 a => fX12_bitsOfNumber_B40 N g x0 K40 a.1 a.2.1 a.2.2.1 a.2.2.2) N
theorem tX12_bitsOfNumber_L40 {p : Program} {l : Launch} {e : Env} {s : State} {m : MethodId} {args : Array Value} {below : List Frame} {meth : Method} {c : Code} {D : va_G} {cy : Nat → ClassId} {B : Bs} (C : Cx p s m args c cX12_bitsOfNumber 5 RX12 D cy B) (hr : meth.sig.returnType = (some .int)) (hlocks : meth.locks = false) {N : Nat} {g : Gs} {x0 : UInt32} {vz : Int32} {dz : Ds} (a : UInt64 × Int32 × Int32 × Ds) (hf : fX12_bitsOfNumber_L40 N g x0 a = some (vz, dz)) : WB p l e rmX12_bitsOfNumber s m args below meth c 5 D cy B 0 0 (MQ below (QI D cy B vz g dz) args s 0 0 (wA B)) g a.2.2.2 [(0, .float x0), (1, .double a.1), (3, .int a.2.1), (4, .int a.2.2.1)] 40 [] :=
  lp_w (fun K40 hK40 a ha => tX12_bitsOfNumber_40 C hr hlocks hK40 ha) N a hf
set_option maxRecDepth 100000 in
def fX12_bitsOfNumber_J37 (N : Nat) (g : Gs) (x0 : UInt32) (y1 : UInt64) (y3 : Int32) (d : Ds) : Option (Int32 × Ds) := fX12_bitsOfNumber_L40 N g x0 (y1, y3, 0, d)
set_option maxHeartbeats 4000000 in
set_option maxRecDepth 100000 in
theorem tX12_bitsOfNumber_37 {p : Program} {l : Launch} {e : Env} {s : State} {m : MethodId} {args : Array Value} {below : List Frame} {meth : Method} {c : Code} {D : va_G} {cy : Nat → ClassId} {B : Bs} (C : Cx p s m args c cX12_bitsOfNumber 5 RX12 D cy B) (hr : meth.sig.returnType = (some .int)) (hlocks : meth.locks = false) {N : Nat} {g : Gs} {x0 : UInt32} {vz : Int32} {dz : Ds} {y1 : UInt64} {y3 : Int32} {d : Ds} (hf : fX12_bitsOfNumber_J37 N g x0 y1 y3 d = some (vz, dz)) : WB p l e rmX12_bitsOfNumber s m args below meth c 5 D cy B 0 0 (MQ below (QI D cy B vz g dz) args s 0 0 (wA B)) g d [(0, .float x0), (1, .double y1), (3, .int y3)] 37 [] := by
  unfold fX12_bitsOfNumber_J37 at hf
  refine b_iconst C (v := 0) dX12_bitsOfNumber_37 (by decide) ?_
  refine b_istore C dX12_bitsOfNumber_38 [(4, .int 0), (0, .float x0), (1, .double y1), (3, .int y3)] (by decide) rfl ?_
  refine b_sub [(0, .float x0), (1, .double y1), (3, .int y3), (4, .int 0)] [1, 2, 3, 0] rfl ?_
  exact tX12_bitsOfNumber_L40 C hr hlocks (y1, y3, 0, d) hf
set_option maxRecDepth 100000 in
def fX12_bitsOfNumber_B14 (N : Nat) (g : Gs) (x0 : UInt32) (K14 : UInt64 × Int32 × Ds → Option (Int32 × Ds)) (y1 : UInt64) (y3 : Int32) (d : Ds) : Option (Int32 × Ds) := if 0 ≤ (Op.cmpValue (FP.dcmp y1 FP.dconst1) .g) then (fX12_bitsOfNumber_J37 N g x0 y1 y3 d) else (if y3 ≤ (1 : Int32) then (fX12_bitsOfNumber_J37 N g x0 y1 y3 d) else (gd ((FP.dmul y1 4611686018427387904) &&& 0x7fffffffffffffff ≤ 0x7ff0000000000000) <| bd (FP.dmul y1 4611686018427387904) fun u13 => (bd (y3 + (-1)) fun u14 => (K14 (u13, u14, d)))))
set_option maxHeartbeats 4000000 in
set_option maxRecDepth 100000 in
theorem tX12_bitsOfNumber_14 {p : Program} {l : Launch} {e : Env} {s : State} {m : MethodId} {args : Array Value} {below : List Frame} {meth : Method} {c : Code} {D : va_G} {cy : Nat → ClassId} {B : Bs} (C : Cx p s m args c cX12_bitsOfNumber 5 RX12 D cy B) (hr : meth.sig.returnType = (some .int)) (hlocks : meth.locks = false) {N : Nat} {g : Gs} {x0 : UInt32} {vz : Int32} {dz : Ds} {K14 : UInt64 × Int32 × Ds → Option (Int32 × Ds)} (hK14 : ∀ a, K14 a = some (vz, dz) → WB p l e rmX12_bitsOfNumber s m args below meth c 5 D cy B 0 0 (MQ below (QI D cy B vz g dz) args s 0 0 (wA B)) g a.2.2 [(0, .float x0), (1, .double a.1), (3, .int a.2.1)] 14 []) {y1 : UInt64} {y3 : Int32} {d : Ds} (hf : fX12_bitsOfNumber_B14 N g x0 K14 y1 y3 d = some (vz, dz)) : WB p l e rmX12_bitsOfNumber s m args below meth c 5 D cy B 0 0 (MQ below (QI D cy B vz g dz) args s 0 0 (wA B)) g d [(0, .float x0), (1, .double y1), (3, .int y3)] 14 [] := by
  unfold fX12_bitsOfNumber_B14 at hf
  refine b_dload_n C dX12_bitsOfNumber_14 1 rfl rfl ?_
  refine b_dconst1 C dX12_bitsOfNumber_15 ?_
  refine b_dcmp C dX12_bitsOfNumber_16 ?_
  refine b_if_ge C (tgt := 37) dX12_bitsOfNumber_17 (by decide) (fun c4 => ?_) (fun c4 => ?_)
  · have hf := it_s c4 hf
    refine b_sub [(0, .float x0), (1, .double y1), (3, .int y3)] [0, 1, 2] rfl ?_
    exact tX12_bitsOfNumber_37 C hr hlocks hf
  · have hf := if_s c4 hf
    refine b_iload_n C dX12_bitsOfNumber_20 2 rfl rfl ?_
    refine b_iconst C (v := 1) dX12_bitsOfNumber_21 (by decide) ?_
    refine b_icmp_le C (tgt := 37) dX12_bitsOfNumber_22 (by decide) (fun c11 => ?_) (fun c11 => ?_)
    · have hf := it_s c11 hf
      refine b_sub [(0, .float x0), (1, .double y1), (3, .int y3)] [0, 1, 2] rfl ?_
      exact tX12_bitsOfNumber_37 C hr hlocks hf
    · have hf := if_s c11 hf
      refine b_dload_n C dX12_bitsOfNumber_25 1 rfl rfl ?_
      refine b_ldc2d C ct_X12_329 dX12_bitsOfNumber_26 ?_
      obtain ⟨h12, hf⟩ := gd_s hf
      refine b_dmul C dX12_bitsOfNumber_29 h12 ?_
      obtain ⟨u13, eu13, hf⟩ := bd_s hf
      refine b_topD eu13 ?_
      refine b_dstore_n C dX12_bitsOfNumber_30 rfl [(1, .double u13), (0, .float x0), (3, .int y3)] (by decide) rfl ?_
      obtain ⟨u14, eu14, hf⟩ := bd_s hf
      refine b_iinc C dX12_bitsOfNumber_31 2 rfl (by rw [eu14]; rfl) [(3, .int u14), (1, .double u13), (0, .float x0)] (by decide) rfl ?_
      refine b_goto C (tgt := 14) dX12_bitsOfNumber_34 (by decide) ?_
      refine b_sub [(0, .float x0), (1, .double u13), (3, .int u14)] [2, 1, 0] rfl ?_
      exact hK14 (u13, u14, d) hf
def fX12_bitsOfNumber_L14 (N : Nat) (g : Gs) (x0 : UInt32) : UInt64 × Int32 × Ds → Option (Int32 × Ds) := lp (fun K14 a => fX12_bitsOfNumber_B14 N g x0 K14 a.1 a.2.1 a.2.2) N
theorem tX12_bitsOfNumber_L14 {p : Program} {l : Launch} {e : Env} {s : State} {m : MethodId} {args : Array Value} {below : List Frame} {meth : Method} {c : Code} {D : va_G} {cy : Nat → ClassId} {B : Bs} (C : Cx p s m args c cX12_bitsOfNumber 5 RX12 D cy B) (hr : meth.sig.returnType = (some .int)) (hlocks : meth.locks = false) {N : Nat} {g : Gs} {x0 : UInt32} {vz : Int32} {dz : Ds} (a : UInt64 × Int32 × Ds) (hf : fX12_bitsOfNumber_L14 N g x0 a = some (vz, dz)) : WB p l e rmX12_bitsOfNumber s m args below meth c 5 D cy B 0 0 (MQ below (QI D cy B vz g dz) args s 0 0 (wA B)) g a.2.2 [(0, .float x0), (1, .double a.1), (3, .int a.2.1)] 14 [] :=
  lp_w (fun K14 hK14 a ha => tX12_bitsOfNumber_14 C hr hlocks hK14 ha) N a hf
set_option maxRecDepth 100000 in
def fX12_bitsOfNumber (N : Nat) (g : Gs) (x0 : UInt32) (d : Ds) : Option (Int32 × Ds) := gd ((FP.f2d x0) &&& 0x7fffffffffffffff ≤ 0x7ff0000000000000) <| bd (FP.f2d x0) fun u2 => (if (Op.cmpValue (FP.dcmp u2 FP.dconst0) .l) = 0 then (some (0, d)) else (fX12_bitsOfNumber_L14 N g x0 (u2, 127, d)))
set_option maxHeartbeats 4000000 in
set_option maxRecDepth 100000 in
theorem tX12_bitsOfNumber_E {p : Program} {l : Launch} {e : Env} {s : State} {m : MethodId} {args : Array Value} {below : List Frame} {meth : Method} {c : Code} {D : va_G} {cy : Nat → ClassId} {B : Bs} (C : Cx p s m args c cX12_bitsOfNumber 5 RX12 D cy B) (hr : meth.sig.returnType = (some .int)) (hlocks : meth.locks = false) {N : Nat} {g : Gs} {x0 : UInt32} {vz : Int32} {dz : Ds} {d : Ds} (hf : fX12_bitsOfNumber N g x0 d = some (vz, dz)) : WB p l e rmX12_bitsOfNumber s m args below meth c 5 D cy B 0 0 (MQ below (QI D cy B vz g dz) args s 0 0 (wA B)) g d [(0, .float x0)] 0 [] := by
  unfold fX12_bitsOfNumber at hf
  refine b_fload_n C dX12_bitsOfNumber_0 0 rfl rfl ?_
  obtain ⟨h1, hf⟩ := gd_s hf
  refine b_f2d C dX12_bitsOfNumber_1 h1 ?_
  obtain ⟨u2, eu2, hf⟩ := bd_s hf
  refine b_topD eu2 ?_
  refine b_dstore_n C dX12_bitsOfNumber_2 rfl [(1, .double u2), (0, .float x0)] (by decide) rfl ?_
  refine b_dload_n C dX12_bitsOfNumber_3 0 rfl rfl ?_
  refine b_dconst0 C dX12_bitsOfNumber_4 ?_
  refine b_dcmp C dX12_bitsOfNumber_5 ?_
  refine b_if_ne C (tgt := 11) dX12_bitsOfNumber_6 (by decide) (fun c3 => ?_) (fun c3 => ?_)
  · have hf := if_s c3 hf
    refine b_bipush C (v := 127) dX12_bitsOfNumber_11 (by decide) ?_
    refine b_istore_n C dX12_bitsOfNumber_13 rfl [(3, .int 127), (1, .double u2), (0, .float x0)] (by decide) rfl ?_
    refine b_sub [(0, .float x0), (1, .double u2), (3, .int 127)] [2, 1, 0] rfl ?_
    exact tX12_bitsOfNumber_L14 C hr hlocks (u2, 127, d) hf
  · have hf := it_s c3 hf
    refine b_iconst C (v := 0) dX12_bitsOfNumber_9 (by decide) ?_
    exact b_iret C hr hlocks hf dX12_bitsOfNumber_10
theorem kX12_bitsOfNumber (l : Launch) (D : va_G) (cy : Nat → ClassId) (B : Bs) {N : Nat} {g : Gs} {x0 : UInt32} {vz : Int32} {dz : Ds} {d : Ds} (hf : fX12_bitsOfNumber N g x0 d = some (vz, dz)) : Met l yX12_bitsOfNumber (.code yX12_bitsOfNumber cX12_bitsOfNumber 5 (some .int) :: wl) rmX12_bitsOfNumber (PC D cy B [.float x0] g d) (QI D cy B vz g dz) 0 0 (wA B) :=
  met_of (by decide +kernel) (Nat.le_of_ble_eq_true rfl) (fun p e s m args below meth c C hr hlocks _ => b_sub [(0, .float x0)] [0] rfl (tX12_bitsOfNumber_E C hr hlocks hf))
/-! KeyMatrixModel.key(II)I -/
theorem yo_X12_bitsOfNumber : yX12_bitsOfNumber.cls ≠ "java/lang/invoke/MethodHandle" ∧ yX12_bitsOfNumber.cls ≠ "java/lang/invoke/VarHandle" ∧ (parseMethodDescriptor yX12_bitsOfNumber.desc).map (fun d => d.parameters.length) = some 1 := by decide +kernel
theorem co_X12_bitsOfNumber : Cond.code yX12_bitsOfNumber cX12_bitsOfNumber 5 (some .int) ∈ wl := mW (mT6 (List.mem_of_getElem? (i := 232) (by decide +kernel))) rfl
theorem in_X12_bitsOfNumber : Cond.initialized yX12_bitsOfNumber.cls ∈ wl := mW (mT1 (List.mem_of_getElem? (i := 12) (by decide +kernel))) rfl
theorem st_X12_bitsOfNumber : Cond.static yX12_bitsOfNumber ∈ wl := mW (mT6 (List.mem_of_getElem? (i := 231) (by decide +kernel))) rfl
theorem lv_X12_332 : LSt RX12 332 yX12_bitsOfNumber cX12_bitsOfNumber 5 (some .int) 1 := ⟨yo_X12_bitsOfNumber, Or.inl (mW (mT6 (List.mem_of_getElem? (i := 230) (by decide +kernel))) rfl), st_X12_bitsOfNumber, in_X12_bitsOfNumber, co_X12_bitsOfNumber⟩
theorem dX12_key_0 : decode cX12_key 0 = .ok (.aload_n 0, 1) := by decide +kernel
theorem dX12_key_1 : decode cX12_key 1 = .ok (.iload_n 1, 1) := by decide +kernel
theorem dX12_key_2 : decode cX12_key 2 = .ok (.invokevirtual 220, 3) := by decide +kernel
theorem dX12_key_5 : decode cX12_key 5 = .ok (.ifCond .ne 5, 3) := by decide +kernel
theorem dX12_key_8 : decode cX12_key 8 = .ok (.iconst (-1), 1) := by decide +kernel
theorem dX12_key_9 : decode cX12_key 9 = .ok (.ireturn, 1) := by decide +kernel
theorem dX12_key_10 : decode cX12_key 10 = .ok (.aload_n 0, 1) := by decide +kernel
theorem dX12_key_11 : decode cX12_key 11 = .ok (.aload_n 0, 1) := by decide +kernel
theorem dX12_key_12 : decode cX12_key 12 = .ok (.getfield 40, 3) := by decide +kernel
theorem dX12_key_15 : decode cX12_key 15 = .ok (.sipush 352, 3) := by decide +kernel
theorem dX12_key_18 : decode cX12_key 18 = .ok (.iaload, 1) := by decide +kernel
theorem dX12_key_19 : decode cX12_key 19 = .ok (.invokevirtual 223, 3) := by decide +kernel
theorem dX12_key_22 : decode cX12_key 22 = .ok (.istore_n 3, 1) := by decide +kernel
theorem dX12_key_23 : decode cX12_key 23 = .ok (.iload_n 2, 1) := by decide +kernel
theorem dX12_key_24 : decode cX12_key 24 = .ok (.tableswitch 103 0 5 #[40, 53, 59, 69, 82, 93], 40) := by decide +kernel
theorem dX12_key_64 : decode cX12_key 64 = .ok (.aload_n 0, 1) := by decide +kernel
theorem dX12_key_65 : decode cX12_key 65 = .ok (.getfield 40, 3) := by decide +kernel
theorem dX12_key_68 : decode cX12_key 68 = .ok (.sipush 352, 3) := by decide +kernel
theorem dX12_key_71 : decode cX12_key 71 = .ok (.iaload, 1) := by decide +kernel
theorem dX12_key_72 : decode cX12_key 72 = .ok (.iload_n 1, 1) := by decide +kernel
theorem dX12_key_73 : decode cX12_key 73 = .ok (.ishr, 1) := by decide +kernel
theorem dX12_key_74 : decode cX12_key 74 = .ok (.iconst 1, 1) := by decide +kernel
theorem dX12_key_75 : decode cX12_key 75 = .ok (.iand, 1) := by decide +kernel
theorem dX12_key_76 : decode cX12_key 76 = .ok (.ireturn, 1) := by decide +kernel
theorem dX12_key_77 : decode cX12_key 77 = .ok (.iload_n 3, 1) := by decide +kernel
theorem dX12_key_78 : decode cX12_key 78 = .ok (.iload_n 1, 1) := by decide +kernel
theorem dX12_key_79 : decode cX12_key 79 = .ok (.ishr, 1) := by decide +kernel
theorem dX12_key_80 : decode cX12_key 80 = .ok (.iconst 1, 1) := by decide +kernel
theorem dX12_key_81 : decode cX12_key 81 = .ok (.iand, 1) := by decide +kernel
theorem dX12_key_82 : decode cX12_key 82 = .ok (.ireturn, 1) := by decide +kernel
theorem dX12_key_83 : decode cX12_key 83 = .ok (.aload_n 0, 1) := by decide +kernel
theorem dX12_key_84 : decode cX12_key 84 = .ok (.iload_n 3, 1) := by decide +kernel
theorem dX12_key_85 : decode cX12_key 85 = .ok (.invokevirtual 229, 3) := by decide +kernel
theorem dX12_key_88 : decode cX12_key 88 = .ok (.iload_n 1, 1) := by decide +kernel
theorem dX12_key_89 : decode cX12_key 89 = .ok (.ishr, 1) := by decide +kernel
theorem dX12_key_90 : decode cX12_key 90 = .ok (.iconst 1, 1) := by decide +kernel
theorem dX12_key_91 : decode cX12_key 91 = .ok (.iand, 1) := by decide +kernel
theorem dX12_key_92 : decode cX12_key 92 = .ok (.ireturn, 1) := by decide +kernel
theorem dX12_key_93 : decode cX12_key 93 = .ok (.aload_n 0, 1) := by decide +kernel
theorem dX12_key_94 : decode cX12_key 94 = .ok (.getfield 40, 3) := by decide +kernel
theorem dX12_key_97 : decode cX12_key 97 = .ok (.sipush 353, 3) := by decide +kernel
theorem dX12_key_100 : decode cX12_key 100 = .ok (.iaload, 1) := by decide +kernel
theorem dX12_key_101 : decode cX12_key 101 = .ok (.iload_n 1, 1) := by decide +kernel
theorem dX12_key_102 : decode cX12_key 102 = .ok (.ishr, 1) := by decide +kernel
theorem dX12_key_103 : decode cX12_key 103 = .ok (.iconst 1, 1) := by decide +kernel
theorem dX12_key_104 : decode cX12_key 104 = .ok (.iand, 1) := by decide +kernel
theorem dX12_key_105 : decode cX12_key 105 = .ok (.ireturn, 1) := by decide +kernel
theorem dX12_key_106 : decode cX12_key 106 = .ok (.aload_n 0, 1) := by decide +kernel
theorem dX12_key_107 : decode cX12_key 107 = .ok (.getfield 40, 3) := by decide +kernel
theorem dX12_key_110 : decode cX12_key 110 = .ok (.sipush 355, 3) := by decide +kernel
theorem dX12_key_113 : decode cX12_key 113 = .ok (.iload_n 1, 1) := by decide +kernel
theorem dX12_key_114 : decode cX12_key 114 = .ok (.iadd, 1) := by decide +kernel
theorem dX12_key_115 : decode cX12_key 115 = .ok (.iaload, 1) := by decide +kernel
theorem dX12_key_116 : decode cX12_key 116 = .ok (.ireturn, 1) := by decide +kernel
theorem dX12_key_117 : decode cX12_key 117 = .ok (.aload_n 0, 1) := by decide +kernel
theorem dX12_key_118 : decode cX12_key 118 = .ok (.getfield 46, 3) := by decide +kernel
theorem dX12_key_121 : decode cX12_key 121 = .ok (.iload_n 1, 1) := by decide +kernel
theorem dX12_key_122 : decode cX12_key 122 = .ok (.faload, 1) := by decide +kernel
theorem dX12_key_123 : decode cX12_key 123 = .ok (.invokestatic 332, 3) := by decide +kernel
theorem dX12_key_126 : decode cX12_key 126 = .ok (.ireturn, 1) := by decide +kernel
theorem dX12_key_127 : decode cX12_key 127 = .ok (.iconst (-1), 1) := by decide +kernel
theorem dX12_key_128 : decode cX12_key 128 = .ok (.ireturn, 1) := by decide +kernel
def rmX12_key : Room := { frames := 3, cells := 0, slots := 0, locals := 72 }
set_option maxRecDepth 100000 in
def fX12_key (N : Nat) (g : Gs) (x0 : Nat) (x1 : Int32) (x2 : Int32) (d : Ds) : Option (Int32 × Ds) := gd (chk g x0 11) <| cb (fX12_isKey N g x0 x1 d) fun u4 d2 => (if u4 = 0 then (some ((-1), d2)) else (ob (gR g x0 17) fun r6 => (gd (chk g r6 102) <| gd (¬ ((352 : Int32) < 0 ∨ gL g r6 ≤ (352 : Int32).toNatClampNeg)) <| cb (fX12_seenBy N g x0 (dI d2 r6 (352 : Int32).toNatClampNeg) d2) fun u11 d9 => (if x2.toInt < 0 ∨ 5 < x2.toInt then (some ((-1), d9)) else if x2 = 0 then (some ((((dI d9 r6 (352 : Int32).toNatClampNeg) >>> (x1 &&& 31)) &&& 1), d9)) else if x2 = 1 then (some (((u11 >>> (x1 &&& 31)) &&& 1), d9)) else if x2 = 2 then (cb (fX12_barredBy N g x0 u11 d9) fun u18 d16 => (some (((u18 >>> (x1 &&& 31)) &&& 1), d16))) else if x2 = 3 then (gd (¬ ((353 : Int32) < 0 ∨ gL g r6 ≤ (353 : Int32).toNatClampNeg)) <| some ((((dI d9 r6 (353 : Int32).toNatClampNeg) >>> (x1 &&& 31)) &&& 1), d9)) else if x2 = 4 then (gd (¬ (((355 : Int32) + x1) < 0 ∨ gL g r6 ≤ ((355 : Int32) + x1).toNatClampNeg)) <| some ((dI d9 r6 ((355 : Int32) + x1).toNatClampNeg), d9)) else if x2 = 5 then (ob (gR g x0 19) fun r24 => (gd (chk g r24 101) <| gd (¬ (x1 < 0 ∨ gL g r24 ≤ x1.toNatClampNeg)) <| cb (fX12_bitsOfNumber N g (dF d9 r24 x1.toNatClampNeg) d9) fun u29 d27 => (some (u29, d27)))) else none))))
set_option maxHeartbeats 4000000 in
set_option maxRecDepth 100000 in
theorem tX12_key_E {p : Program} {l : Launch} {e : Env} {s : State} {m : MethodId} {args : Array Value} {below : List Frame} {meth : Method} {c : Code} {D : va_G} {cy : Nat → ClassId} {B : Bs} (C : Cx p s m args c cX12_key 4 RX12 D cy B) (hr : meth.sig.returnType = (some .int)) (hlocks : meth.locks = false) {N : Nat} {g : Gs} {x0 : Nat} {x1 : Int32} {x2 : Int32} {vz : Int32} {dz : Ds} {d : Ds} (hf : fX12_key N g x0 x1 x2 d = some (vz, dz)) : WB p l e rmX12_key s m args below meth c 4 D cy B 0 0 (MQ below (QI D cy B vz g dz) args s 0 0 (wA B)) g d [(0, .ref (ad B x0)), (1, .int x1), (2, .int x2)] 0 [] := by
  unfold fX12_key at hf
  refine b_aload_n C dX12_key_0 0 rfl rfl ?_
  refine b_iload_n C dX12_key_1 1 rfl rfl ?_
  obtain ⟨h1, hf⟩ := gd_s hf
  obtain ⟨u4, d2, k3, hf⟩ := cb_s hf
  refine b_cVI C [] dX12_key_2 (kX12_isKey l D cy B k3) lv_X12_220 ⟨rfl, rfl, Nat.le_of_ble_eq_true rfl, Nat.le_of_ble_eq_true rfl⟩ h1 (by decide) rfl (Nat.le_of_ble_eq_true rfl) ⟨Nat.zero_le _, Nat.zero_le _⟩ rfl ?_
  refine b_if_ne C (tgt := 10) dX12_key_5 (by decide) (fun c5 => ?_) (fun c5 => ?_)
  · have hf := if_s c5 hf
    refine b_aload_n C dX12_key_10 0 rfl rfl ?_
    refine b_aload_n C dX12_key_11 0 rfl rfl ?_
    obtain ⟨r6, er6, hf⟩ := ob_s hf
    refine b_gR C dX12_key_12 fl_X12_40 h1 er6 ?_
    refine b_sipush C (v := 352) dX12_key_15 (by decide) ?_
    obtain ⟨h7, hf⟩ := gd_s hf
    obtain ⟨h8, hf⟩ := gd_s hf
    refine b_iald C h7 h8 dX12_key_18 ?_
    obtain ⟨u11, d9, k10, hf⟩ := cb_s hf
    refine b_cVI C [] dX12_key_19 (kX12_seenBy l D cy B k10) lv_X12_223 ⟨rfl, rfl, Nat.le_of_ble_eq_true rfl, Nat.le_of_ble_eq_true rfl⟩ h1 (by decide) rfl (Nat.le_of_ble_eq_true rfl) ⟨Nat.zero_le _, Nat.zero_le _⟩ rfl ?_
    refine b_istore_n C dX12_key_22 rfl [(3, .int u11), (0, .ref (ad B x0)), (1, .int x1), (2, .int x2)] (by decide) rfl ?_
    refine b_iload_n C dX12_key_23 3 rfl rfl ?_
    by_cases c12 : x2.toInt < 0 ∨ 5 < x2.toInt
    · have hf := it_s c12 hf
      refine b_tabOut C (tgt := 127) dX12_key_24 c12 (by decide) ?_
      refine b_iconst C (v := (-1)) dX12_key_127 (by decide) ?_
      exact b_iret C hr hlocks hf dX12_key_128
    · have hf := if_s c12 hf
      by_cases c13 : x2 = 0
      · have hf := it_s c13 hf
        refine b_tabIn C (tgt := 64) (off := 40) dX12_key_24 c13 (by decide) (by decide) (by decide) (by decide) ?_
        refine b_aload_n C dX12_key_64 1 rfl rfl ?_
        refine b_gR C dX12_key_65 fl_X12_40 h1 er6 ?_
        refine b_sipush C (v := 352) dX12_key_68 (by decide) ?_
        refine b_iald C h7 h8 dX12_key_71 ?_
        refine b_iload_n C dX12_key_72 2 rfl rfl ?_
        refine b_ishr C dX12_key_73 ?_
        refine b_iconst C (v := 1) dX12_key_74 (by decide) ?_
        refine b_iand C dX12_key_75 ?_
        exact b_iret C hr hlocks hf dX12_key_76
      have hf := if_s c13 hf
      by_cases c14 : x2 = 1
      · have hf := it_s c14 hf
        refine b_tabIn C (tgt := 77) (off := 53) dX12_key_24 c14 (by decide) (by decide) (by decide) (by decide) ?_
        refine b_iload_n C dX12_key_77 0 rfl rfl ?_
        refine b_iload_n C dX12_key_78 2 rfl rfl ?_
        refine b_ishr C dX12_key_79 ?_
        refine b_iconst C (v := 1) dX12_key_80 (by decide) ?_
        refine b_iand C dX12_key_81 ?_
        exact b_iret C hr hlocks hf dX12_key_82
      have hf := if_s c14 hf
      by_cases c15 : x2 = 2
      · have hf := it_s c15 hf
        refine b_tabIn C (tgt := 83) (off := 59) dX12_key_24 c15 (by decide) (by decide) (by decide) (by decide) ?_
        refine b_aload_n C dX12_key_83 1 rfl rfl ?_
        refine b_iload_n C dX12_key_84 0 rfl rfl ?_
        obtain ⟨u18, d16, k17, hf⟩ := cb_s hf
        refine b_cVI C [] dX12_key_85 (kX12_barredBy l D cy B k17) lv_X12_229 ⟨rfl, rfl, Nat.le_of_ble_eq_true rfl, Nat.le_of_ble_eq_true rfl⟩ h1 (by decide) rfl (Nat.le_of_ble_eq_true rfl) ⟨Nat.zero_le _, Nat.zero_le _⟩ rfl ?_
        refine b_iload_n C dX12_key_88 2 rfl rfl ?_
        refine b_ishr C dX12_key_89 ?_
        refine b_iconst C (v := 1) dX12_key_90 (by decide) ?_
        refine b_iand C dX12_key_91 ?_
        exact b_iret C hr hlocks hf dX12_key_92
      have hf := if_s c15 hf
      by_cases c19 : x2 = 3
      · have hf := it_s c19 hf
        refine b_tabIn C (tgt := 93) (off := 69) dX12_key_24 c19 (by decide) (by decide) (by decide) (by decide) ?_
        refine b_aload_n C dX12_key_93 1 rfl rfl ?_
        refine b_gR C dX12_key_94 fl_X12_40 h1 er6 ?_
        refine b_sipush C (v := 353) dX12_key_97 (by decide) ?_
        obtain ⟨h20, hf⟩ := gd_s hf
        refine b_iald C h7 h20 dX12_key_100 ?_
        refine b_iload_n C dX12_key_101 2 rfl rfl ?_
        refine b_ishr C dX12_key_102 ?_
        refine b_iconst C (v := 1) dX12_key_103 (by decide) ?_
        refine b_iand C dX12_key_104 ?_
        exact b_iret C hr hlocks hf dX12_key_105
      have hf := if_s c19 hf
      by_cases c21 : x2 = 4
      · have hf := it_s c21 hf
        refine b_tabIn C (tgt := 106) (off := 82) dX12_key_24 c21 (by decide) (by decide) (by decide) (by decide) ?_
        refine b_aload_n C dX12_key_106 1 rfl rfl ?_
        refine b_gR C dX12_key_107 fl_X12_40 h1 er6 ?_
        refine b_sipush C (v := 355) dX12_key_110 (by decide) ?_
        refine b_iload_n C dX12_key_113 2 rfl rfl ?_
        refine b_iadd C dX12_key_114 ?_
        obtain ⟨h22, hf⟩ := gd_s hf
        refine b_iald C h7 h22 dX12_key_115 ?_
        exact b_iret C hr hlocks hf dX12_key_116
      have hf := if_s c21 hf
      by_cases c23 : x2 = 5
      · have hf := it_s c23 hf
        refine b_tabIn C (tgt := 117) (off := 93) dX12_key_24 c23 (by decide) (by decide) (by decide) (by decide) ?_
        refine b_aload_n C dX12_key_117 1 rfl rfl ?_
        obtain ⟨r24, er24, hf⟩ := ob_s hf
        refine b_gR C dX12_key_118 fl_X12_46 h1 er24 ?_
        refine b_iload_n C dX12_key_121 2 rfl rfl ?_
        obtain ⟨h25, hf⟩ := gd_s hf
        obtain ⟨h26, hf⟩ := gd_s hf
        refine b_fald C h25 h26 dX12_key_122 ?_
        obtain ⟨u29, d27, k28, hf⟩ := cb_s hf
        refine b_cSI C [] dX12_key_123 (kX12_bitsOfNumber l D cy B k28) lv_X12_332 ⟨rfl, rfl, Nat.le_of_ble_eq_true rfl, Nat.le_of_ble_eq_true rfl⟩ rfl (Nat.le_of_ble_eq_true rfl) ⟨Nat.zero_le _, Nat.zero_le _⟩ rfl ?_
        exact b_iret C hr hlocks hf dX12_key_126
      have hf := if_s c23 hf
      cases hf
  · have hf := it_s c5 hf
    refine b_iconst C (v := (-1)) dX12_key_8 (by decide) ?_
    exact b_iret C hr hlocks hf dX12_key_9
theorem kX12_key (l : Launch) (D : va_G) (cy : Nat → ClassId) (B : Bs) {N : Nat} {g : Gs} {x0 : Nat} {x1 : Int32} {x2 : Int32} {vz : Int32} {dz : Ds} {d : Ds} (hf : fX12_key N g x0 x1 x2 d = some (vz, dz)) : Met l yX12_key (.code yX12_key cX12_key 4 (some .int) :: wl) rmX12_key (PC D cy B [.ref (ad B x0), .int x1, .int x2] g d) (QI D cy B vz g dz) 0 0 (wA B) :=
  met_of (by decide +kernel) (Nat.le_of_ble_eq_true rfl) (fun p e s m args below meth c C hr hlocks _ => b_sub [(0, .ref (ad B x0)), (1, .int x1), (2, .int x2)] [0, 1, 2] rfl (tX12_key_E C hr hlocks hf))
/-! KeyMatrixModel.does(II)I -/
theorem dX12_does_0 : decode cX12_does 0 = .ok (.aload_n 0, 1) := by decide +kernel
theorem dX12_does_1 : decode cX12_does 1 = .ok (.iload_n 1, 1) := by decide +kernel
theorem dX12_does_2 : decode cX12_does 2 = .ok (.invokevirtual 220, 3) := by decide +kernel
theorem dX12_does_5 : decode cX12_does 5 = .ok (.ifCond .eq 29, 3) := by decide +kernel
theorem dX12_does_8 : decode cX12_does 8 = .ok (.iload_n 2, 1) := by decide +kernel
theorem dX12_does_9 : decode cX12_does 9 = .ok (.iconst 0, 1) := by decide +kernel
theorem dX12_does_10 : decode cX12_does 10 = .ok (.iconst 1, 1) := by decide +kernel
theorem dX12_does_11 : decode cX12_does 11 = .ok (.invokestatic 169, 3) := by decide +kernel
theorem dX12_does_14 : decode cX12_does 14 = .ok (.ifCond .eq 20, 3) := by decide +kernel
theorem dX12_does_17 : decode cX12_does 17 = .ok (.aload_n 0, 1) := by decide +kernel
theorem dX12_does_18 : decode cX12_does 18 = .ok (.getfield 40, 3) := by decide +kernel
theorem dX12_does_21 : decode cX12_does 21 = .ok (.sipush 379, 3) := by decide +kernel
theorem dX12_does_24 : decode cX12_does 24 = .ok (.iconst 3, 1) := by decide +kernel
theorem dX12_does_25 : decode cX12_does 25 = .ok (.iload_n 1, 1) := by decide +kernel
theorem dX12_does_26 : decode cX12_does 26 = .ok (.imul, 1) := by decide +kernel
theorem dX12_does_27 : decode cX12_does 27 = .ok (.iadd, 1) := by decide +kernel
theorem dX12_does_28 : decode cX12_does 28 = .ok (.iload_n 2, 1) := by decide +kernel
theorem dX12_does_29 : decode cX12_does 29 = .ok (.iadd, 1) := by decide +kernel
theorem dX12_does_30 : decode cX12_does 30 = .ok (.iaload, 1) := by decide +kernel
theorem dX12_does_31 : decode cX12_does 31 = .ok (.goto 5, 3) := by decide +kernel
theorem dX12_does_34 : decode cX12_does 34 = .ok (.bipush (-2), 2) := by decide +kernel
theorem dX12_does_36 : decode cX12_does 36 = .ok (.ireturn, 1) := by decide +kernel
def rmX12_does : Room := { frames := 2, cells := 0, slots := 0, locals := 43 }
set_option maxRecDepth 100000 in
def fX12_does_J36 (N : Nat) (g : Gs) (x0 : Nat) (x1 : Int32) (x2 : Int32) (z0 : Int32) (d : Ds) : Option (Int32 × Ds) := some (z0, d)
set_option maxHeartbeats 4000000 in
set_option maxRecDepth 100000 in
theorem tX12_does_36 {p : Program} {l : Launch} {e : Env} {s : State} {m : MethodId} {args : Array Value} {below : List Frame} {meth : Method} {c : Code} {D : va_G} {cy : Nat → ClassId} {B : Bs} (C : Cx p s m args c cX12_does 3 RX12 D cy B) (hr : meth.sig.returnType = (some .int)) (hlocks : meth.locks = false) {N : Nat} {g : Gs} {x0 : Nat} {x1 : Int32} {x2 : Int32} {vz : Int32} {dz : Ds} {z0 : Int32} {d : Ds} (hf : fX12_does_J36 N g x0 x1 x2 z0 d = some (vz, dz)) : WB p l e rmX12_does s m args below meth c 3 D cy B 0 0 (MQ below (QI D cy B vz g dz) args s 0 0 (wA B)) g d [(0, .ref (ad B x0)), (1, .int x1), (2, .int x2)] 36 [.int z0] := by
  unfold fX12_does_J36 at hf
  exact b_iret C hr hlocks hf dX12_does_36
set_option maxRecDepth 100000 in
def fX12_does_J34 (N : Nat) (g : Gs) (x0 : Nat) (x1 : Int32) (x2 : Int32) (d : Ds) : Option (Int32 × Ds) := fX12_does_J36 N g x0 x1 x2 (-2) d
set_option maxHeartbeats 4000000 in
set_option maxRecDepth 100000 in
theorem tX12_does_34 {p : Program} {l : Launch} {e : Env} {s : State} {m : MethodId} {args : Array Value} {below : List Frame} {meth : Method} {c : Code} {D : va_G} {cy : Nat → ClassId} {B : Bs} (C : Cx p s m args c cX12_does 3 RX12 D cy B) (hr : meth.sig.returnType = (some .int)) (hlocks : meth.locks = false) {N : Nat} {g : Gs} {x0 : Nat} {x1 : Int32} {x2 : Int32} {vz : Int32} {dz : Ds} {d : Ds} (hf : fX12_does_J34 N g x0 x1 x2 d = some (vz, dz)) : WB p l e rmX12_does s m args below meth c 3 D cy B 0 0 (MQ below (QI D cy B vz g dz) args s 0 0 (wA B)) g d [(0, .ref (ad B x0)), (1, .int x1), (2, .int x2)] 34 [] := by
  unfold fX12_does_J34 at hf
  refine b_bipush C (v := (-2)) dX12_does_34 (by decide) ?_
  refine b_sub [(0, .ref (ad B x0)), (1, .int x1), (2, .int x2)] [0, 1, 2] rfl ?_
  exact tX12_does_36 C hr hlocks hf
set_option maxRecDepth 100000 in
def fX12_does (N : Nat) (g : Gs) (x0 : Nat) (x1 : Int32) (x2 : Int32) (d : Ds) : Option (Int32 × Ds) := gd (chk g x0 11) <| cb (fX12_isKey N g x0 x1 d) fun u4 d2 => (if u4 = 0 then (fX12_does_J34 N g x0 x1 x2 d2) else (cb (fX12_in N g x2 0 1 d2) fun u8 d6 => (if u8 = 0 then (fX12_does_J34 N g x0 x1 x2 d6) else (ob (gR g x0 17) fun r10 => (gd (chk g r10 102) <| gd (¬ ((((379 : Int32) + ((3 : Int32) * x1)) + x2) < 0 ∨ gL g r10 ≤ (((379 : Int32) + ((3 : Int32) * x1)) + x2).toNatClampNeg)) <| fX12_does_J36 N g x0 x1 x2 (dI d6 r10 (((379 : Int32) + ((3 : Int32) * x1)) + x2).toNatClampNeg) d6)))))
set_option maxHeartbeats 4000000 in
set_option maxRecDepth 100000 in
theorem tX12_does_E {p : Program} {l : Launch} {e : Env} {s : State} {m : MethodId} {args : Array Value} {below : List Frame} {meth : Method} {c : Code} {D : va_G} {cy : Nat → ClassId} {B : Bs} (C : Cx p s m args c cX12_does 3 RX12 D cy B) (hr : meth.sig.returnType = (some .int)) (hlocks : meth.locks = false) {N : Nat} {g : Gs} {x0 : Nat} {x1 : Int32} {x2 : Int32} {vz : Int32} {dz : Ds} {d : Ds} (hf : fX12_does N g x0 x1 x2 d = some (vz, dz)) : WB p l e rmX12_does s m args below meth c 3 D cy B 0 0 (MQ below (QI D cy B vz g dz) args s 0 0 (wA B)) g d [(0, .ref (ad B x0)), (1, .int x1), (2, .int x2)] 0 [] := by
  unfold fX12_does at hf
  refine b_aload_n C dX12_does_0 0 rfl rfl ?_
  refine b_iload_n C dX12_does_1 1 rfl rfl ?_
  obtain ⟨h1, hf⟩ := gd_s hf
  obtain ⟨u4, d2, k3, hf⟩ := cb_s hf
  refine b_cVI C [] dX12_does_2 (kX12_isKey l D cy B k3) lv_X12_220 ⟨rfl, rfl, Nat.le_of_ble_eq_true rfl, Nat.le_of_ble_eq_true rfl⟩ h1 (by decide) rfl (Nat.le_of_ble_eq_true rfl) ⟨Nat.zero_le _, Nat.zero_le _⟩ rfl ?_
  refine b_if_eq C (tgt := 34) dX12_does_5 (by decide) (fun c5 => ?_) (fun c5 => ?_)
  · have hf := it_s c5 hf
    refine b_sub [(0, .ref (ad B x0)), (1, .int x1), (2, .int x2)] [0, 1, 2] rfl ?_
    exact tX12_does_34 C hr hlocks hf
  · have hf := if_s c5 hf
    refine b_iload_n C dX12_does_8 2 rfl rfl ?_
    refine b_iconst C (v := 0) dX12_does_9 (by decide) ?_
    refine b_iconst C (v := 1) dX12_does_10 (by decide) ?_
    obtain ⟨u8, d6, k7, hf⟩ := cb_s hf
    refine b_cSI C [] dX12_does_11 (kX12_in l D cy B k7) lv_X12_169 ⟨rfl, rfl, Nat.le_of_ble_eq_true rfl, Nat.le_of_ble_eq_true rfl⟩ rfl (Nat.le_of_ble_eq_true rfl) ⟨Nat.zero_le _, Nat.zero_le _⟩ rfl ?_
    refine b_if_eq C (tgt := 34) dX12_does_14 (by decide) (fun c9 => ?_) (fun c9 => ?_)
    · have hf := it_s c9 hf
      refine b_sub [(0, .ref (ad B x0)), (1, .int x1), (2, .int x2)] [0, 1, 2] rfl ?_
      exact tX12_does_34 C hr hlocks hf
    · have hf := if_s c9 hf
      refine b_aload_n C dX12_does_17 0 rfl rfl ?_
      obtain ⟨r10, er10, hf⟩ := ob_s hf
      refine b_gR C dX12_does_18 fl_X12_40 h1 er10 ?_
      refine b_sipush C (v := 379) dX12_does_21 (by decide) ?_
      refine b_iconst C (v := 3) dX12_does_24 (by decide) ?_
      refine b_iload_n C dX12_does_25 1 rfl rfl ?_
      refine b_imul C dX12_does_26 ?_
      refine b_iadd C dX12_does_27 ?_
      refine b_iload_n C dX12_does_28 2 rfl rfl ?_
      refine b_iadd C dX12_does_29 ?_
      obtain ⟨h11, hf⟩ := gd_s hf
      obtain ⟨h12, hf⟩ := gd_s hf
      refine b_iald C h11 h12 dX12_does_30 ?_
      refine b_goto C (tgt := 36) dX12_does_31 (by decide) ?_
      refine b_sub [(0, .ref (ad B x0)), (1, .int x1), (2, .int x2)] [0, 1, 2] rfl ?_
      exact tX12_does_36 C hr hlocks hf
theorem kX12_does (l : Launch) (D : va_G) (cy : Nat → ClassId) (B : Bs) {N : Nat} {g : Gs} {x0 : Nat} {x1 : Int32} {x2 : Int32} {vz : Int32} {dz : Ds} {d : Ds} (hf : fX12_does N g x0 x1 x2 d = some (vz, dz)) : Met l yX12_does (.code yX12_does cX12_does 3 (some .int) :: wl) rmX12_does (PC D cy B [.ref (ad B x0), .int x1, .int x2] g d) (QI D cy B vz g dz) 0 0 (wA B) :=
  met_of (by decide +kernel) (Nat.le_of_ble_eq_true rfl) (fun p e s m args below meth c C hr hlocks _ => b_sub [(0, .ref (ad B x0)), (1, .int x1), (2, .int x2)] [0, 1, 2] rfl (tX12_does_E C hr hlocks hf))
/-! KeyMatrixModel.event(II)I -/
theorem dX12_event_0 : decode cX12_event 0 = .ok (.iload_n 1, 1) := by decide +kernel
theorem dX12_event_1 : decode cX12_event 1 = .ok (.iconst (-1), 1) := by decide +kernel
theorem dX12_event_2 : decode cX12_event 2 = .ok (.if_icmp .ne 12, 3) := by decide +kernel
theorem dX12_event_5 : decode cX12_event 5 = .ok (.aload_n 0, 1) := by decide +kernel
theorem dX12_event_6 : decode cX12_event 6 = .ok (.getfield 40, 3) := by decide +kernel
theorem dX12_event_9 : decode cX12_event 9 = .ok (.sipush 557, 3) := by decide +kernel
theorem dX12_event_12 : decode cX12_event 12 = .ok (.iaload, 1) := by decide +kernel
theorem dX12_event_13 : decode cX12_event 13 = .ok (.ireturn, 1) := by decide +kernel
theorem dX12_event_14 : decode cX12_event 14 = .ok (.iload_n 1, 1) := by decide +kernel
theorem dX12_event_15 : decode cX12_event 15 = .ok (.iconst 0, 1) := by decide +kernel
theorem dX12_event_16 : decode cX12_event 16 = .ok (.aload_n 0, 1) := by decide +kernel
theorem dX12_event_17 : decode cX12_event 17 = .ok (.getfield 40, 3) := by decide +kernel
theorem dX12_event_20 : decode cX12_event 20 = .ok (.sipush 557, 3) := by decide +kernel
theorem dX12_event_23 : decode cX12_event 23 = .ok (.iaload, 1) := by decide +kernel
theorem dX12_event_24 : decode cX12_event 24 = .ok (.iconst 1, 1) := by decide +kernel
theorem dX12_event_25 : decode cX12_event 25 = .ok (.isub, 1) := by decide +kernel
theorem dX12_event_26 : decode cX12_event 26 = .ok (.invokestatic 169, 3) := by decide +kernel
theorem dX12_event_29 : decode cX12_event 29 = .ok (.ifCond .eq 29, 3) := by decide +kernel
theorem dX12_event_32 : decode cX12_event 32 = .ok (.iload_n 2, 1) := by decide +kernel
theorem dX12_event_33 : decode cX12_event 33 = .ok (.iconst 0, 1) := by decide +kernel
theorem dX12_event_34 : decode cX12_event 34 = .ok (.iconst 2, 1) := by decide +kernel
theorem dX12_event_35 : decode cX12_event 35 = .ok (.invokestatic 169, 3) := by decide +kernel
theorem dX12_event_38 : decode cX12_event 38 = .ok (.ifCond .eq 20, 3) := by decide +kernel
theorem dX12_event_41 : decode cX12_event 41 = .ok (.aload_n 0, 1) := by decide +kernel
theorem dX12_event_42 : decode cX12_event 42 = .ok (.getfield 40, 3) := by decide +kernel
theorem dX12_event_45 : decode cX12_event 45 = .ok (.sipush 1678, 3) := by decide +kernel
theorem dX12_event_48 : decode cX12_event 48 = .ok (.iconst 3, 1) := by decide +kernel
theorem dX12_event_49 : decode cX12_event 49 = .ok (.iload_n 1, 1) := by decide +kernel
theorem dX12_event_50 : decode cX12_event 50 = .ok (.imul, 1) := by decide +kernel
theorem dX12_event_51 : decode cX12_event 51 = .ok (.iadd, 1) := by decide +kernel
theorem dX12_event_52 : decode cX12_event 52 = .ok (.iload_n 2, 1) := by decide +kernel
theorem dX12_event_53 : decode cX12_event 53 = .ok (.iadd, 1) := by decide +kernel
theorem dX12_event_54 : decode cX12_event 54 = .ok (.iaload, 1) := by decide +kernel
theorem dX12_event_55 : decode cX12_event 55 = .ok (.goto 4, 3) := by decide +kernel
theorem dX12_event_58 : decode cX12_event 58 = .ok (.iconst (-1), 1) := by decide +kernel
theorem dX12_event_59 : decode cX12_event 59 = .ok (.ireturn, 1) := by decide +kernel
def rmX12_event : Room := { frames := 1, cells := 0, slots := 0, locals := 22 }
set_option maxRecDepth 100000 in
def fX12_event_J59 (N : Nat) (g : Gs) (x0 : Nat) (x1 : Int32) (x2 : Int32) (z0 : Int32) (d : Ds) : Option (Int32 × Ds) := some (z0, d)
set_option maxHeartbeats 4000000 in
set_option maxRecDepth 100000 in
theorem tX12_event_59 {p : Program} {l : Launch} {e : Env} {s : State} {m : MethodId} {args : Array Value} {below : List Frame} {meth : Method} {c : Code} {D : va_G} {cy : Nat → ClassId} {B : Bs} (C : Cx p s m args c cX12_event 3 RX12 D cy B) (hr : meth.sig.returnType = (some .int)) (hlocks : meth.locks = false) {N : Nat} {g : Gs} {x0 : Nat} {x1 : Int32} {x2 : Int32} {vz : Int32} {dz : Ds} {z0 : Int32} {d : Ds} (hf : fX12_event_J59 N g x0 x1 x2 z0 d = some (vz, dz)) : WB p l e rmX12_event s m args below meth c 3 D cy B 0 0 (MQ below (QI D cy B vz g dz) args s 0 0 (wA B)) g d [(0, .ref (ad B x0)), (1, .int x1), (2, .int x2)] 59 [.int z0] := by
  unfold fX12_event_J59 at hf
  exact b_iret C hr hlocks hf dX12_event_59
set_option maxRecDepth 100000 in
def fX12_event_J58 (N : Nat) (g : Gs) (x0 : Nat) (x1 : Int32) (x2 : Int32) (d : Ds) : Option (Int32 × Ds) := fX12_event_J59 N g x0 x1 x2 (-1) d
set_option maxHeartbeats 4000000 in
set_option maxRecDepth 100000 in
theorem tX12_event_58 {p : Program} {l : Launch} {e : Env} {s : State} {m : MethodId} {args : Array Value} {below : List Frame} {meth : Method} {c : Code} {D : va_G} {cy : Nat → ClassId} {B : Bs} (C : Cx p s m args c cX12_event 3 RX12 D cy B) (hr : meth.sig.returnType = (some .int)) (hlocks : meth.locks = false) {N : Nat} {g : Gs} {x0 : Nat} {x1 : Int32} {x2 : Int32} {vz : Int32} {dz : Ds} {d : Ds} (hf : fX12_event_J58 N g x0 x1 x2 d = some (vz, dz)) : WB p l e rmX12_event s m args below meth c 3 D cy B 0 0 (MQ below (QI D cy B vz g dz) args s 0 0 (wA B)) g d [(0, .ref (ad B x0)), (1, .int x1), (2, .int x2)] 58 [] := by
  unfold fX12_event_J58 at hf
  refine b_iconst C (v := (-1)) dX12_event_58 (by decide) ?_
  refine b_sub [(0, .ref (ad B x0)), (1, .int x1), (2, .int x2)] [0, 1, 2] rfl ?_
  exact tX12_event_59 C hr hlocks hf
set_option maxRecDepth 100000 in
def fX12_event (N : Nat) (g : Gs) (x0 : Nat) (x1 : Int32) (x2 : Int32) (d : Ds) : Option (Int32 × Ds) := if x1 = (-1 : Int32) then (gd (chk g x0 11) <| ob (gR g x0 17) fun r16 => (gd (chk g r16 102) <| gd (¬ ((557 : Int32) < 0 ∨ gL g r16 ≤ (557 : Int32).toNatClampNeg)) <| some ((dI d r16 (557 : Int32).toNatClampNeg), d))) else (gd (chk g x0 11) <| ob (gR g x0 17) fun r3 => (gd (chk g r3 102) <| gd (¬ ((557 : Int32) < 0 ∨ gL g r3 ≤ (557 : Int32).toNatClampNeg)) <| cb (fX12_in N g x1 0 ((dI d r3 (557 : Int32).toNatClampNeg) - 1) d) fun u8 d6 => (if u8 = 0 then (fX12_event_J58 N g x0 x1 x2 d6) else (cb (fX12_in N g x2 0 2 d6) fun u12 d10 => (if u12 = 0 then (fX12_event_J58 N g x0 x1 x2 d10) else (gd (¬ ((((1678 : Int32) + ((3 : Int32) * x1)) + x2) < 0 ∨ gL g r3 ≤ (((1678 : Int32) + ((3 : Int32) * x1)) + x2).toNatClampNeg)) <| fX12_event_J59 N g x0 x1 x2 (dI d10 r3 (((1678 : Int32) + ((3 : Int32) * x1)) + x2).toNatClampNeg) d10))))))
set_option maxHeartbeats 4000000 in
set_option maxRecDepth 100000 in
theorem tX12_event_E {p : Program} {l : Launch} {e : Env} {s : State} {m : MethodId} {args : Array Value} {below : List Frame} {meth : Method} {c : Code} {D : va_G} {cy : Nat → ClassId} {B : Bs} (C : Cx p s m args c cX12_event 3 RX12 D cy B) (hr : meth.sig.returnType = (some .int)) (hlocks : meth.locks = false) {N : Nat} {g : Gs} {x0 : Nat} {x1 : Int32} {x2 : Int32} {vz : Int32} {dz : Ds} {d : Ds} (hf : fX12_event N g x0 x1 x2 d = some (vz, dz)) : WB p l e rmX12_event s m args below meth c 3 D cy B 0 0 (MQ below (QI D cy B vz g dz) args s 0 0 (wA B)) g d [(0, .ref (ad B x0)), (1, .int x1), (2, .int x2)] 0 [] := by
  unfold fX12_event at hf
  refine b_iload_n C dX12_event_0 1 rfl rfl ?_
  refine b_iconst C (v := (-1)) dX12_event_1 (by decide) ?_
  refine b_icmp_ne C (tgt := 14) dX12_event_2 (by decide) (fun c1 => ?_) (fun c1 => ?_)
  · have hf := if_s c1 hf
    refine b_iload_n C dX12_event_14 1 rfl rfl ?_
    refine b_iconst C (v := 0) dX12_event_15 (by decide) ?_
    refine b_aload_n C dX12_event_16 0 rfl rfl ?_
    obtain ⟨h2, hf⟩ := gd_s hf
    obtain ⟨r3, er3, hf⟩ := ob_s hf
    refine b_gR C dX12_event_17 fl_X12_40 h2 er3 ?_
    refine b_sipush C (v := 557) dX12_event_20 (by decide) ?_
    obtain ⟨h4, hf⟩ := gd_s hf
    obtain ⟨h5, hf⟩ := gd_s hf
    refine b_iald C h4 h5 dX12_event_23 ?_
    refine b_iconst C (v := 1) dX12_event_24 (by decide) ?_
    refine b_isub C dX12_event_25 ?_
    obtain ⟨u8, d6, k7, hf⟩ := cb_s hf
    refine b_cSI C [] dX12_event_26 (kX12_in l D cy B k7) lv_X12_169 ⟨rfl, rfl, Nat.le_of_ble_eq_true rfl, Nat.le_of_ble_eq_true rfl⟩ rfl (Nat.le_of_ble_eq_true rfl) ⟨Nat.zero_le _, Nat.zero_le _⟩ rfl ?_
    refine b_if_eq C (tgt := 58) dX12_event_29 (by decide) (fun c9 => ?_) (fun c9 => ?_)
    · have hf := it_s c9 hf
      refine b_sub [(0, .ref (ad B x0)), (1, .int x1), (2, .int x2)] [0, 1, 2] rfl ?_
      exact tX12_event_58 C hr hlocks hf
    · have hf := if_s c9 hf
      refine b_iload_n C dX12_event_32 2 rfl rfl ?_
      refine b_iconst C (v := 0) dX12_event_33 (by decide) ?_
      refine b_iconst C (v := 2) dX12_event_34 (by decide) ?_
      obtain ⟨u12, d10, k11, hf⟩ := cb_s hf
      refine b_cSI C [] dX12_event_35 (kX12_in l D cy B k11) lv_X12_169 ⟨rfl, rfl, Nat.le_of_ble_eq_true rfl, Nat.le_of_ble_eq_true rfl⟩ rfl (Nat.le_of_ble_eq_true rfl) ⟨Nat.zero_le _, Nat.zero_le _⟩ rfl ?_
      refine b_if_eq C (tgt := 58) dX12_event_38 (by decide) (fun c13 => ?_) (fun c13 => ?_)
      · have hf := it_s c13 hf
        refine b_sub [(0, .ref (ad B x0)), (1, .int x1), (2, .int x2)] [0, 1, 2] rfl ?_
        exact tX12_event_58 C hr hlocks hf
      · have hf := if_s c13 hf
        refine b_aload_n C dX12_event_41 0 rfl rfl ?_
        refine b_gR C dX12_event_42 fl_X12_40 h2 er3 ?_
        refine b_sipush C (v := 1678) dX12_event_45 (by decide) ?_
        refine b_iconst C (v := 3) dX12_event_48 (by decide) ?_
        refine b_iload_n C dX12_event_49 1 rfl rfl ?_
        refine b_imul C dX12_event_50 ?_
        refine b_iadd C dX12_event_51 ?_
        refine b_iload_n C dX12_event_52 2 rfl rfl ?_
        refine b_iadd C dX12_event_53 ?_
        obtain ⟨h14, hf⟩ := gd_s hf
        refine b_iald C h4 h14 dX12_event_54 ?_
        refine b_goto C (tgt := 59) dX12_event_55 (by decide) ?_
        refine b_sub [(0, .ref (ad B x0)), (1, .int x1), (2, .int x2)] [0, 1, 2] rfl ?_
        exact tX12_event_59 C hr hlocks hf
  · have hf := it_s c1 hf
    refine b_aload_n C dX12_event_5 0 rfl rfl ?_
    obtain ⟨h15, hf⟩ := gd_s hf
    obtain ⟨r16, er16, hf⟩ := ob_s hf
    refine b_gR C dX12_event_6 fl_X12_40 h15 er16 ?_
    refine b_sipush C (v := 557) dX12_event_9 (by decide) ?_
    obtain ⟨h17, hf⟩ := gd_s hf
    obtain ⟨h18, hf⟩ := gd_s hf
    refine b_iald C h17 h18 dX12_event_12 ?_
    exact b_iret C hr hlocks hf dX12_event_13
theorem kX12_event (l : Launch) (D : va_G) (cy : Nat → ClassId) (B : Bs) {N : Nat} {g : Gs} {x0 : Nat} {x1 : Int32} {x2 : Int32} {vz : Int32} {dz : Ds} {d : Ds} (hf : fX12_event N g x0 x1 x2 d = some (vz, dz)) : Met l yX12_event (.code yX12_event cX12_event 3 (some .int) :: wl) rmX12_event (PC D cy B [.ref (ad B x0), .int x1, .int x2] g d) (QI D cy B vz g dz) 0 0 (wA B) :=
  met_of (by decide +kernel) (Nat.le_of_ble_eq_true rfl) (fun p e s m args below meth c C hr hlocks _ => b_sub [(0, .ref (ad B x0)), (1, .int x1), (2, .int x2)] [0, 1, 2] rfl (tX12_event_E C hr hlocks hf))
/-! KeyMatrixModel.reportsKept()I -/
theorem dX12_reportsKept_0 : decode cX12_reportsKept 0 = .ok (.aload_n 0, 1) := by decide +kernel
theorem dX12_reportsKept_1 : decode cX12_reportsKept 1 = .ok (.getfield 40, 3) := by decide +kernel
theorem dX12_reportsKept_4 : decode cX12_reportsKept 4 = .ok (.sipush 555, 3) := by decide +kernel
theorem dX12_reportsKept_7 : decode cX12_reportsKept 7 = .ok (.iaload, 1) := by decide +kernel
theorem dX12_reportsKept_8 : decode cX12_reportsKept 8 = .ok (.bipush 40, 2) := by decide +kernel
theorem dX12_reportsKept_10 : decode cX12_reportsKept 10 = .ok (.if_icmp .ge 14, 3) := by decide +kernel
theorem dX12_reportsKept_13 : decode cX12_reportsKept 13 = .ok (.aload_n 0, 1) := by decide +kernel
theorem dX12_reportsKept_14 : decode cX12_reportsKept 14 = .ok (.getfield 40, 3) := by decide +kernel
theorem dX12_reportsKept_17 : decode cX12_reportsKept 17 = .ok (.sipush 555, 3) := by decide +kernel
theorem dX12_reportsKept_20 : decode cX12_reportsKept 20 = .ok (.iaload, 1) := by decide +kernel
theorem dX12_reportsKept_21 : decode cX12_reportsKept 21 = .ok (.goto 5, 3) := by decide +kernel
theorem dX12_reportsKept_24 : decode cX12_reportsKept 24 = .ok (.bipush 40, 2) := by decide +kernel
theorem dX12_reportsKept_26 : decode cX12_reportsKept 26 = .ok (.ireturn, 1) := by decide +kernel
def rmX12_reportsKept : Room := { frames := 0, cells := 0, slots := 0, locals := 0 }
set_option maxRecDepth 100000 in
def fX12_reportsKept_J26 (N : Nat) (g : Gs) (x0 : Nat) (z0 : Int32) (d : Ds) : Option (Int32 × Ds) := some (z0, d)
set_option maxHeartbeats 4000000 in
set_option maxRecDepth 100000 in
theorem tX12_reportsKept_26 {p : Program} {l : Launch} {e : Env} {s : State} {m : MethodId} {args : Array Value} {below : List Frame} {meth : Method} {c : Code} {D : va_G} {cy : Nat → ClassId} {B : Bs} (C : Cx p s m args c cX12_reportsKept 1 RX12 D cy B) (hr : meth.sig.returnType = (some .int)) (hlocks : meth.locks = false) {N : Nat} {g : Gs} {x0 : Nat} {vz : Int32} {dz : Ds} {z0 : Int32} {d : Ds} (hf : fX12_reportsKept_J26 N g x0 z0 d = some (vz, dz)) : WB p l e rmX12_reportsKept s m args below meth c 1 D cy B 0 0 (MQ below (QI D cy B vz g dz) args s 0 0 (wA B)) g d [(0, .ref (ad B x0))] 26 [.int z0] := by
  unfold fX12_reportsKept_J26 at hf
  exact b_iret C hr hlocks hf dX12_reportsKept_26
set_option maxRecDepth 100000 in
def fX12_reportsKept (N : Nat) (g : Gs) (x0 : Nat) (d : Ds) : Option (Int32 × Ds) := gd (chk g x0 11) <| ob (gR g x0 17) fun r2 => (gd (chk g r2 102) <| gd (¬ ((555 : Int32) < 0 ∨ gL g r2 ≤ (555 : Int32).toNatClampNeg)) <| if (40 : Int32) ≤ (dI d r2 (555 : Int32).toNatClampNeg) then (fX12_reportsKept_J26 N g x0 40 d) else (fX12_reportsKept_J26 N g x0 (dI d r2 (555 : Int32).toNatClampNeg) d))
set_option maxHeartbeats 4000000 in
set_option maxRecDepth 100000 in
theorem tX12_reportsKept_E {p : Program} {l : Launch} {e : Env} {s : State} {m : MethodId} {args : Array Value} {below : List Frame} {meth : Method} {c : Code} {D : va_G} {cy : Nat → ClassId} {B : Bs} (C : Cx p s m args c cX12_reportsKept 1 RX12 D cy B) (hr : meth.sig.returnType = (some .int)) (hlocks : meth.locks = false) {N : Nat} {g : Gs} {x0 : Nat} {vz : Int32} {dz : Ds} {d : Ds} (hf : fX12_reportsKept N g x0 d = some (vz, dz)) : WB p l e rmX12_reportsKept s m args below meth c 1 D cy B 0 0 (MQ below (QI D cy B vz g dz) args s 0 0 (wA B)) g d [(0, .ref (ad B x0))] 0 [] := by
  unfold fX12_reportsKept at hf
  refine b_aload_n C dX12_reportsKept_0 0 rfl rfl ?_
  obtain ⟨h1, hf⟩ := gd_s hf
  obtain ⟨r2, er2, hf⟩ := ob_s hf
  refine b_gR C dX12_reportsKept_1 fl_X12_40 h1 er2 ?_
  refine b_sipush C (v := 555) dX12_reportsKept_4 (by decide) ?_
  obtain ⟨h3, hf⟩ := gd_s hf
  obtain ⟨h4, hf⟩ := gd_s hf
  refine b_iald C h3 h4 dX12_reportsKept_7 ?_
  refine b_bipush C (v := 40) dX12_reportsKept_8 (by decide) ?_
  refine b_icmp_ge C (tgt := 24) dX12_reportsKept_10 (by decide) (fun c5 => ?_) (fun c5 => ?_)
  · have hf := it_s c5 hf
    refine b_bipush C (v := 40) dX12_reportsKept_24 (by decide) ?_
    refine b_sub [(0, .ref (ad B x0))] [0] rfl ?_
    exact tX12_reportsKept_26 C hr hlocks hf
  · have hf := if_s c5 hf
    refine b_aload_n C dX12_reportsKept_13 0 rfl rfl ?_
    refine b_gR C dX12_reportsKept_14 fl_X12_40 h1 er2 ?_
    refine b_sipush C (v := 555) dX12_reportsKept_17 (by decide) ?_
    refine b_iald C h3 h4 dX12_reportsKept_20 ?_
    refine b_goto C (tgt := 26) dX12_reportsKept_21 (by decide) ?_
    refine b_sub [(0, .ref (ad B x0))] [0] rfl ?_
    exact tX12_reportsKept_26 C hr hlocks hf
theorem kX12_reportsKept (l : Launch) (D : va_G) (cy : Nat → ClassId) (B : Bs) {N : Nat} {g : Gs} {x0 : Nat} {vz : Int32} {dz : Ds} {d : Ds} (hf : fX12_reportsKept N g x0 d = some (vz, dz)) : Met l yX12_reportsKept (.code yX12_reportsKept cX12_reportsKept 1 (some .int) :: wl) rmX12_reportsKept (PC D cy B [.ref (ad B x0)] g d) (QI D cy B vz g dz) 0 0 (wA B) :=
  met_of (by decide +kernel) (Nat.le_of_ble_eq_true rfl) (fun p e s m args below meth c C hr hlocks _ => b_sub [(0, .ref (ad B x0))] [0] rfl (tX12_reportsKept_E C hr hlocks hf))
/-! KeyMatrixModel.report(II)I -/
theorem yo_X12_reportsKept : yX12_reportsKept.cls ≠ "java/lang/invoke/MethodHandle" ∧ yX12_reportsKept.cls ≠ "java/lang/invoke/VarHandle" ∧ (parseMethodDescriptor yX12_reportsKept.desc).map (fun d => d.parameters.length) = some 0 := by decide +kernel
theorem co_X12_reportsKept : Cond.code yX12_reportsKept cX12_reportsKept 1 (some .int) ∈ wl := mW (mT7 (List.mem_of_getElem? (i := 10) (by decide +kernel))) rfl
theorem in_X12_reportsKept : Cond.initialized yX12_reportsKept.cls ∈ wl := mW (mT1 (List.mem_of_getElem? (i := 12) (by decide +kernel))) rfl
theorem im_X12_reportsKept : Cond.instanceMethod yX12_reportsKept ∈ wl := mW (mT7 (List.mem_of_getElem? (i := 9) (by decide +kernel))) rfl
theorem se_X12_reportsKept : Cond.selects yX12_reportsKept.cls yX12_reportsKept yX12_reportsKept ∈ wl := mW (mT0 (List.mem_of_getElem? (i := 88) (by decide +kernel))) rfl
theorem lv_X12_336 : LV RX12 336 yX12_reportsKept cX12_reportsKept 1 (some .int) 0 11 := ⟨⟨(RX12, TX12, 33), rfl, rfl⟩, yo_X12_reportsKept, mW (mT7 (List.mem_of_getElem? (i := 7) (by decide +kernel))) rfl, im_X12_reportsKept, se_X12_reportsKept, in_X12_reportsKept, co_X12_reportsKept⟩
theorem dX12_report_0 : decode cX12_report 0 = .ok (.iload_n 1, 1) := by decide +kernel
theorem dX12_report_1 : decode cX12_report 1 = .ok (.iconst 0, 1) := by decide +kernel
theorem dX12_report_2 : decode cX12_report 2 = .ok (.aload_n 0, 1) := by decide +kernel
theorem dX12_report_3 : decode cX12_report 3 = .ok (.invokevirtual 336, 3) := by decide +kernel
theorem dX12_report_6 : decode cX12_report 6 = .ok (.iconst 1, 1) := by decide +kernel
theorem dX12_report_7 : decode cX12_report 7 = .ok (.isub, 1) := by decide +kernel
theorem dX12_report_8 : decode cX12_report 8 = .ok (.invokestatic 169, 3) := by decide +kernel
theorem dX12_report_11 : decode cX12_report 11 = .ok (.ifCond .eq 7, 3) := by decide +kernel
theorem dX12_report_14 : decode cX12_report 14 = .ok (.iload_n 2, 1) := by decide +kernel
theorem dX12_report_15 : decode cX12_report 15 = .ok (.ifCond .ge 5, 3) := by decide +kernel
theorem dX12_report_18 : decode cX12_report 18 = .ok (.iconst (-1), 1) := by decide +kernel
theorem dX12_report_19 : decode cX12_report 19 = .ok (.ireturn, 1) := by decide +kernel
theorem dX12_report_20 : decode cX12_report 20 = .ok (.aload_n 0, 1) := by decide +kernel
theorem dX12_report_21 : decode cX12_report 21 = .ok (.iload_n 1, 1) := by decide +kernel
theorem dX12_report_22 : decode cX12_report 22 = .ok (.invokevirtual 311, 3) := by decide +kernel
theorem dX12_report_25 : decode cX12_report 25 = .ok (.istore_n 3, 1) := by decide +kernel
theorem dX12_report_26 : decode cX12_report 26 = .ok (.iload_n 2, 1) := by decide +kernel
theorem dX12_report_27 : decode cX12_report 27 = .ok (.iconst 3, 1) := by decide +kernel
theorem dX12_report_28 : decode cX12_report 28 = .ok (.if_icmp .ge 14, 3) := by decide +kernel
theorem dX12_report_31 : decode cX12_report 31 = .ok (.aload_n 0, 1) := by decide +kernel
theorem dX12_report_32 : decode cX12_report 32 = .ok (.getfield 40, 3) := by decide +kernel
theorem dX12_report_35 : decode cX12_report 35 = .ok (.iload_n 3, 1) := by decide +kernel
theorem dX12_report_36 : decode cX12_report 36 = .ok (.iload_n 2, 1) := by decide +kernel
theorem dX12_report_37 : decode cX12_report 37 = .ok (.iadd, 1) := by decide +kernel
theorem dX12_report_38 : decode cX12_report 38 = .ok (.iaload, 1) := by decide +kernel
theorem dX12_report_39 : decode cX12_report 39 = .ok (.goto 29, 3) := by decide +kernel
theorem dX12_report_42 : decode cX12_report 42 = .ok (.iload_n 2, 1) := by decide +kernel
theorem dX12_report_43 : decode cX12_report 43 = .ok (.iconst 3, 1) := by decide +kernel
theorem dX12_report_44 : decode cX12_report 44 = .ok (.isub, 1) := by decide +kernel
theorem dX12_report_45 : decode cX12_report 45 = .ok (.aload_n 0, 1) := by decide +kernel
theorem dX12_report_46 : decode cX12_report 46 = .ok (.getfield 40, 3) := by decide +kernel
theorem dX12_report_49 : decode cX12_report 49 = .ok (.iload_n 3, 1) := by decide +kernel
theorem dX12_report_50 : decode cX12_report 50 = .ok (.iconst 2, 1) := by decide +kernel
theorem dX12_report_51 : decode cX12_report 51 = .ok (.iadd, 1) := by decide +kernel
theorem dX12_report_52 : decode cX12_report 52 = .ok (.iaload, 1) := by decide +kernel
theorem dX12_report_53 : decode cX12_report 53 = .ok (.if_icmp .ge 14, 3) := by decide +kernel
theorem dX12_report_56 : decode cX12_report 56 = .ok (.aload_n 0, 1) := by decide +kernel
theorem dX12_report_57 : decode cX12_report 57 = .ok (.getfield 40, 3) := by decide +kernel
theorem dX12_report_60 : decode cX12_report 60 = .ok (.iload_n 3, 1) := by decide +kernel
theorem dX12_report_61 : decode cX12_report 61 = .ok (.iload_n 2, 1) := by decide +kernel
theorem dX12_report_62 : decode cX12_report 62 = .ok (.iadd, 1) := by decide +kernel
theorem dX12_report_63 : decode cX12_report 63 = .ok (.iaload, 1) := by decide +kernel
theorem dX12_report_64 : decode cX12_report 64 = .ok (.goto 4, 3) := by decide +kernel
theorem dX12_report_67 : decode cX12_report 67 = .ok (.iconst (-1), 1) := by decide +kernel
theorem dX12_report_68 : decode cX12_report 68 = .ok (.ireturn, 1) := by decide +kernel
def rmX12_report : Room := { frames := 1, cells := 0, slots := 0, locals := 22 }
set_option maxRecDepth 100000 in
def fX12_report_J18 (N : Nat) (g : Gs) (x0 : Nat) (x1 : Int32) (x2 : Int32) (d : Ds) : Option (Int32 × Ds) := some ((-1), d)
set_option maxHeartbeats 4000000 in
set_option maxRecDepth 100000 in
theorem tX12_report_18 {p : Program} {l : Launch} {e : Env} {s : State} {m : MethodId} {args : Array Value} {below : List Frame} {meth : Method} {c : Code} {D : va_G} {cy : Nat → ClassId} {B : Bs} (C : Cx p s m args c cX12_report 4 RX12 D cy B) (hr : meth.sig.returnType = (some .int)) (hlocks : meth.locks = false) {N : Nat} {g : Gs} {x0 : Nat} {x1 : Int32} {x2 : Int32} {vz : Int32} {dz : Ds} {d : Ds} (hf : fX12_report_J18 N g x0 x1 x2 d = some (vz, dz)) : WB p l e rmX12_report s m args below meth c 4 D cy B 0 0 (MQ below (QI D cy B vz g dz) args s 0 0 (wA B)) g d [(0, .ref (ad B x0)), (1, .int x1), (2, .int x2)] 18 [] := by
  unfold fX12_report_J18 at hf
  refine b_iconst C (v := (-1)) dX12_report_18 (by decide) ?_
  exact b_iret C hr hlocks hf dX12_report_19
set_option maxRecDepth 100000 in
def fX12_report_J68 (N : Nat) (g : Gs) (x0 : Nat) (x1 : Int32) (x2 : Int32) (z0 : Int32) (d : Ds) : Option (Int32 × Ds) := some (z0, d)
set_option maxHeartbeats 4000000 in
set_option maxRecDepth 100000 in
theorem tX12_report_68 {p : Program} {l : Launch} {e : Env} {s : State} {m : MethodId} {args : Array Value} {below : List Frame} {meth : Method} {c : Code} {D : va_G} {cy : Nat → ClassId} {B : Bs} (C : Cx p s m args c cX12_report 4 RX12 D cy B) (hr : meth.sig.returnType = (some .int)) (hlocks : meth.locks = false) {N : Nat} {g : Gs} {x0 : Nat} {x1 : Int32} {x2 : Int32} {vz : Int32} {dz : Ds} {z0 : Int32} {d : Ds} (hf : fX12_report_J68 N g x0 x1 x2 z0 d = some (vz, dz)) : WB p l e rmX12_report s m args below meth c 4 D cy B 0 0 (MQ below (QI D cy B vz g dz) args s 0 0 (wA B)) g d [(0, .ref (ad B x0)), (1, .int x1), (2, .int x2)] 68 [.int z0] := by
  unfold fX12_report_J68 at hf
  exact b_iret C hr hlocks hf dX12_report_68
set_option maxRecDepth 100000 in
def fX12_report (N : Nat) (g : Gs) (x0 : Nat) (x1 : Int32) (x2 : Int32) (d : Ds) : Option (Int32 × Ds) := gd (chk g x0 11) <| cb (fX12_reportsKept N g x0 d) fun u4 d2 => (cb (fX12_in N g x1 0 (u4 - 1) d2) fun u7 d5 => (if u7 = 0 then (fX12_report_J18 N g x0 x1 x2 d5) else (if 0 ≤ x2 then (cb (fX12_reportAt N g x0 x1 d5) fun u12 d10 => (if (3 : Int32) ≤ x2 then (ob (gR g x0 17) fun r14 => (gd (chk g r14 102) <| gd (¬ ((u12 + 2) < 0 ∨ gL g r14 ≤ (u12 + 2).toNatClampNeg)) <| if (dI d10 r14 (u12 + 2).toNatClampNeg) ≤ (x2 - 3) then (fX12_report_J68 N g x0 x1 x2 (-1) d10) else (gd (¬ ((u12 + x2) < 0 ∨ gL g r14 ≤ (u12 + x2).toNatClampNeg)) <| fX12_report_J68 N g x0 x1 x2 (dI d10 r14 (u12 + x2).toNatClampNeg) d10))) else (ob (gR g x0 17) fun r19 => (gd (chk g r19 102) <| gd (¬ ((u12 + x2) < 0 ∨ gL g r19 ≤ (u12 + x2).toNatClampNeg)) <| fX12_report_J68 N g x0 x1 x2 (dI d10 r19 (u12 + x2).toNatClampNeg) d10)))) else (fX12_report_J18 N g x0 x1 x2 d5))))
set_option maxHeartbeats 4000000 in
set_option maxRecDepth 100000 in
theorem tX12_report_E {p : Program} {l : Launch} {e : Env} {s : State} {m : MethodId} {args : Array Value} {below : List Frame} {meth : Method} {c : Code} {D : va_G} {cy : Nat → ClassId} {B : Bs} (C : Cx p s m args c cX12_report 4 RX12 D cy B) (hr : meth.sig.returnType = (some .int)) (hlocks : meth.locks = false) {N : Nat} {g : Gs} {x0 : Nat} {x1 : Int32} {x2 : Int32} {vz : Int32} {dz : Ds} {d : Ds} (hf : fX12_report N g x0 x1 x2 d = some (vz, dz)) : WB p l e rmX12_report s m args below meth c 4 D cy B 0 0 (MQ below (QI D cy B vz g dz) args s 0 0 (wA B)) g d [(0, .ref (ad B x0)), (1, .int x1), (2, .int x2)] 0 [] := by
  unfold fX12_report at hf
  refine b_iload_n C dX12_report_0 1 rfl rfl ?_
  refine b_iconst C (v := 0) dX12_report_1 (by decide) ?_
  refine b_aload_n C dX12_report_2 0 rfl rfl ?_
  obtain ⟨h1, hf⟩ := gd_s hf
  obtain ⟨u4, d2, k3, hf⟩ := cb_s hf
  refine b_cVI C [.int 0, .int x1] dX12_report_3 (kX12_reportsKept l D cy B k3) lv_X12_336 ⟨rfl, rfl, Nat.le_of_ble_eq_true rfl, Nat.le_of_ble_eq_true rfl⟩ h1 (by decide) rfl (Nat.le_of_ble_eq_true rfl) ⟨Nat.zero_le _, Nat.zero_le _⟩ rfl ?_
  refine b_iconst C (v := 1) dX12_report_6 (by decide) ?_
  refine b_isub C dX12_report_7 ?_
  obtain ⟨u7, d5, k6, hf⟩ := cb_s hf
  refine b_cSI C [] dX12_report_8 (kX12_in l D cy B k6) lv_X12_169 ⟨rfl, rfl, Nat.le_of_ble_eq_true rfl, Nat.le_of_ble_eq_true rfl⟩ rfl (Nat.le_of_ble_eq_true rfl) ⟨Nat.zero_le _, Nat.zero_le _⟩ rfl ?_
  refine b_if_eq C (tgt := 18) dX12_report_11 (by decide) (fun c8 => ?_) (fun c8 => ?_)
  · have hf := it_s c8 hf
    refine b_sub [(0, .ref (ad B x0)), (1, .int x1), (2, .int x2)] [0, 1, 2] rfl ?_
    exact tX12_report_18 C hr hlocks hf
  · have hf := if_s c8 hf
    refine b_iload_n C dX12_report_14 2 rfl rfl ?_
    refine b_if_ge C (tgt := 20) dX12_report_15 (by decide) (fun c9 => ?_) (fun c9 => ?_)
    · have hf := it_s c9 hf
      refine b_aload_n C dX12_report_20 0 rfl rfl ?_
      refine b_iload_n C dX12_report_21 1 rfl rfl ?_
      obtain ⟨u12, d10, k11, hf⟩ := cb_s hf
      refine b_cVI C [] dX12_report_22 (kX12_reportAt l D cy B k11) lv_X12_311 ⟨rfl, rfl, Nat.le_of_ble_eq_true rfl, Nat.le_of_ble_eq_true rfl⟩ h1 (by decide) rfl (Nat.le_of_ble_eq_true rfl) ⟨Nat.zero_le _, Nat.zero_le _⟩ rfl ?_
      refine b_istore_n C dX12_report_25 rfl [(3, .int u12), (0, .ref (ad B x0)), (1, .int x1), (2, .int x2)] (by decide) rfl ?_
      refine b_iload_n C dX12_report_26 3 rfl rfl ?_
      refine b_iconst C (v := 3) dX12_report_27 (by decide) ?_
      refine b_icmp_ge C (tgt := 42) dX12_report_28 (by decide) (fun c13 => ?_) (fun c13 => ?_)
      · have hf := it_s c13 hf
        refine b_iload_n C dX12_report_42 3 rfl rfl ?_
        refine b_iconst C (v := 3) dX12_report_43 (by decide) ?_
        refine b_isub C dX12_report_44 ?_
        refine b_aload_n C dX12_report_45 1 rfl rfl ?_
        obtain ⟨r14, er14, hf⟩ := ob_s hf
        refine b_gR C dX12_report_46 fl_X12_40 h1 er14 ?_
        refine b_iload_n C dX12_report_49 0 rfl rfl ?_
        refine b_iconst C (v := 2) dX12_report_50 (by decide) ?_
        refine b_iadd C dX12_report_51 ?_
        obtain ⟨h15, hf⟩ := gd_s hf
        obtain ⟨h16, hf⟩ := gd_s hf
        refine b_iald C h15 h16 dX12_report_52 ?_
        refine b_icmp_ge C (tgt := 67) dX12_report_53 (by decide) (fun c17 => ?_) (fun c17 => ?_)
        · have hf := it_s c17 hf
          refine b_iconst C (v := (-1)) dX12_report_67 (by decide) ?_
          refine b_sub [(0, .ref (ad B x0)), (1, .int x1), (2, .int x2)] [1, 2, 3] rfl ?_
          exact tX12_report_68 C hr hlocks hf
        · have hf := if_s c17 hf
          refine b_aload_n C dX12_report_56 1 rfl rfl ?_
          refine b_gR C dX12_report_57 fl_X12_40 h1 er14 ?_
          refine b_iload_n C dX12_report_60 0 rfl rfl ?_
          refine b_iload_n C dX12_report_61 3 rfl rfl ?_
          refine b_iadd C dX12_report_62 ?_
          obtain ⟨h18, hf⟩ := gd_s hf
          refine b_iald C h15 h18 dX12_report_63 ?_
          refine b_goto C (tgt := 68) dX12_report_64 (by decide) ?_
          refine b_sub [(0, .ref (ad B x0)), (1, .int x1), (2, .int x2)] [1, 2, 3] rfl ?_
          exact tX12_report_68 C hr hlocks hf
      · have hf := if_s c13 hf
        refine b_aload_n C dX12_report_31 1 rfl rfl ?_
        obtain ⟨r19, er19, hf⟩ := ob_s hf
        refine b_gR C dX12_report_32 fl_X12_40 h1 er19 ?_
        refine b_iload_n C dX12_report_35 0 rfl rfl ?_
        refine b_iload_n C dX12_report_36 3 rfl rfl ?_
        refine b_iadd C dX12_report_37 ?_
        obtain ⟨h20, hf⟩ := gd_s hf
        obtain ⟨h21, hf⟩ := gd_s hf
        refine b_iald C h20 h21 dX12_report_38 ?_
        refine b_goto C (tgt := 68) dX12_report_39 (by decide) ?_
        refine b_sub [(0, .ref (ad B x0)), (1, .int x1), (2, .int x2)] [1, 2, 3] rfl ?_
        exact tX12_report_68 C hr hlocks hf
    · have hf := if_s c9 hf
      refine b_sub [(0, .ref (ad B x0)), (1, .int x1), (2, .int x2)] [0, 1, 2] rfl ?_
      exact tX12_report_18 C hr hlocks hf
theorem kX12_report (l : Launch) (D : va_G) (cy : Nat → ClassId) (B : Bs) {N : Nat} {g : Gs} {x0 : Nat} {x1 : Int32} {x2 : Int32} {vz : Int32} {dz : Ds} {d : Ds} (hf : fX12_report N g x0 x1 x2 d = some (vz, dz)) : Met l yX12_report (.code yX12_report cX12_report 4 (some .int) :: wl) rmX12_report (PC D cy B [.ref (ad B x0), .int x1, .int x2] g d) (QI D cy B vz g dz) 0 0 (wA B) :=
  met_of (by decide +kernel) (Nat.le_of_ble_eq_true rfl) (fun p e s m args below meth c C hr hlocks _ => b_sub [(0, .ref (ad B x0)), (1, .int x1), (2, .int x2)] [0, 1, 2] rfl (tX12_report_E C hr hlocks hf))
/-! KeyMatrixModel.sent(I)I -/
theorem dX12_sent_0 : decode cX12_sent 0 = .ok (.aload_n 0, 1) := by decide +kernel
theorem dX12_sent_1 : decode cX12_sent 1 = .ok (.invokevirtual 314, 3) := by decide +kernel
theorem dX12_sent_4 : decode cX12_sent 4 = .ok (.iload_n 1, 1) := by decide +kernel
theorem dX12_sent_5 : decode cX12_sent 5 = .ok (.ifCond .ne 10, 3) := by decide +kernel
theorem dX12_sent_8 : decode cX12_sent 8 = .ok (.aload_n 0, 1) := by decide +kernel
theorem dX12_sent_9 : decode cX12_sent 9 = .ok (.getfield 302, 3) := by decide +kernel
theorem dX12_sent_12 : decode cX12_sent 12 = .ok (.goto 47, 3) := by decide +kernel
theorem dX12_sent_15 : decode cX12_sent 15 = .ok (.iload_n 1, 1) := by decide +kernel
theorem dX12_sent_16 : decode cX12_sent 16 = .ok (.iconst 1, 1) := by decide +kernel
theorem dX12_sent_17 : decode cX12_sent 17 = .ok (.if_icmp .ne 10, 3) := by decide +kernel
theorem dX12_sent_20 : decode cX12_sent 20 = .ok (.aload_n 0, 1) := by decide +kernel
theorem dX12_sent_21 : decode cX12_sent 21 = .ok (.getfield 299, 3) := by decide +kernel
theorem dX12_sent_24 : decode cX12_sent 24 = .ok (.goto 35, 3) := by decide +kernel
theorem dX12_sent_27 : decode cX12_sent 27 = .ok (.iload_n 1, 1) := by decide +kernel
theorem dX12_sent_28 : decode cX12_sent 28 = .ok (.iconst 2, 1) := by decide +kernel
theorem dX12_sent_29 : decode cX12_sent 29 = .ok (.isub, 1) := by decide +kernel
theorem dX12_sent_30 : decode cX12_sent 30 = .ok (.iconst 0, 1) := by decide +kernel
theorem dX12_sent_31 : decode cX12_sent 31 = .ok (.aload_n 0, 1) := by decide +kernel
theorem dX12_sent_32 : decode cX12_sent 32 = .ok (.getfield 299, 3) := by decide +kernel
theorem dX12_sent_35 : decode cX12_sent 35 = .ok (.iconst 1, 1) := by decide +kernel
theorem dX12_sent_36 : decode cX12_sent 36 = .ok (.isub, 1) := by decide +kernel
theorem dX12_sent_37 : decode cX12_sent 37 = .ok (.invokestatic 169, 3) := by decide +kernel
theorem dX12_sent_40 : decode cX12_sent 40 = .ok (.ifCond .eq 18, 3) := by decide +kernel
theorem dX12_sent_43 : decode cX12_sent 43 = .ok (.iload_n 1, 1) := by decide +kernel
theorem dX12_sent_44 : decode cX12_sent 44 = .ok (.ifCond .le 14, 3) := by decide +kernel
theorem dX12_sent_47 : decode cX12_sent 47 = .ok (.aload_n 0, 1) := by decide +kernel
theorem dX12_sent_48 : decode cX12_sent 48 = .ok (.getfield 56, 3) := by decide +kernel
theorem dX12_sent_51 : decode cX12_sent 51 = .ok (.iload_n 1, 1) := by decide +kernel
theorem dX12_sent_52 : decode cX12_sent 52 = .ok (.iconst 2, 1) := by decide +kernel
theorem dX12_sent_53 : decode cX12_sent 53 = .ok (.isub, 1) := by decide +kernel
theorem dX12_sent_54 : decode cX12_sent 54 = .ok (.iaload, 1) := by decide +kernel
theorem dX12_sent_55 : decode cX12_sent 55 = .ok (.goto 4, 3) := by decide +kernel
theorem dX12_sent_58 : decode cX12_sent 58 = .ok (.iconst (-1), 1) := by decide +kernel
theorem dX12_sent_59 : decode cX12_sent 59 = .ok (.ireturn, 1) := by decide +kernel
def rmX12_sent : Room := { frames := 2, cells := 0, slots := 0, locals := 46 }
set_option maxRecDepth 100000 in
def fX12_sent_J59 (N : Nat) (g : Gs) (x0 : Nat) (x1 : Int32) (z0 : Int32) (d : Ds) : Option (Int32 × Ds) := some (z0, d)
set_option maxHeartbeats 4000000 in
set_option maxRecDepth 100000 in
theorem tX12_sent_59 {p : Program} {l : Launch} {e : Env} {s : State} {m : MethodId} {args : Array Value} {below : List Frame} {meth : Method} {c : Code} {D : va_G} {cy : Nat → ClassId} {B : Bs} (C : Cx p s m args c cX12_sent 2 RX12 D cy B) (hr : meth.sig.returnType = (some .int)) (hlocks : meth.locks = false) {N : Nat} {g : Gs} {x0 : Nat} {x1 : Int32} {vz : Int32} {dz : Ds} {z0 : Int32} {d : Ds} (hf : fX12_sent_J59 N g x0 x1 z0 d = some (vz, dz)) : WB p l e rmX12_sent s m args below meth c 2 D cy B 0 0 (MQ below (QI D cy B vz g dz) args s 0 0 (wA B)) g d [(0, .ref (ad B x0)), (1, .int x1)] 59 [.int z0] := by
  unfold fX12_sent_J59 at hf
  exact b_iret C hr hlocks hf dX12_sent_59
set_option maxRecDepth 100000 in
def fX12_sent_J58 (N : Nat) (g : Gs) (x0 : Nat) (x1 : Int32) (d : Ds) : Option (Int32 × Ds) := fX12_sent_J59 N g x0 x1 (-1) d
set_option maxHeartbeats 4000000 in
set_option maxRecDepth 100000 in
theorem tX12_sent_58 {p : Program} {l : Launch} {e : Env} {s : State} {m : MethodId} {args : Array Value} {below : List Frame} {meth : Method} {c : Code} {D : va_G} {cy : Nat → ClassId} {B : Bs} (C : Cx p s m args c cX12_sent 2 RX12 D cy B) (hr : meth.sig.returnType = (some .int)) (hlocks : meth.locks = false) {N : Nat} {g : Gs} {x0 : Nat} {x1 : Int32} {vz : Int32} {dz : Ds} {d : Ds} (hf : fX12_sent_J58 N g x0 x1 d = some (vz, dz)) : WB p l e rmX12_sent s m args below meth c 2 D cy B 0 0 (MQ below (QI D cy B vz g dz) args s 0 0 (wA B)) g d [(0, .ref (ad B x0)), (1, .int x1)] 58 [] := by
  unfold fX12_sent_J58 at hf
  refine b_iconst C (v := (-1)) dX12_sent_58 (by decide) ?_
  refine b_sub [(0, .ref (ad B x0)), (1, .int x1)] [0, 1] rfl ?_
  exact tX12_sent_59 C hr hlocks hf
set_option maxRecDepth 100000 in
def fX12_sent (N : Nat) (g : Gs) (x0 : Nat) (x1 : Int32) (d : Ds) : Option (Int32 × Ds) := gd (chk g x0 11) <| cv (fX12_laysSent N g x0 d) fun d2 => (if x1 = 0 then (fX12_sent_J59 N g x0 x1 (dI d2 x0 25) d2) else (if x1 = (1 : Int32) then (fX12_sent_J59 N g x0 x1 (dI d2 x0 26) d2) else (cb (fX12_in N g (x1 - 2) 0 ((dI d2 x0 26) - 1) d2) fun u8 d6 => (if u8 = 0 then (fX12_sent_J58 N g x0 x1 d6) else (if x1 ≤ 0 then (fX12_sent_J58 N g x0 x1 d6) else (ob (gR g x0 27) fun r11 => (gd (chk g r11 102) <| gd (¬ ((x1 - 2) < 0 ∨ gL g r11 ≤ (x1 - 2).toNatClampNeg)) <| fX12_sent_J59 N g x0 x1 (dI d6 r11 (x1 - 2).toNatClampNeg) d6)))))))
set_option maxHeartbeats 4000000 in
set_option maxRecDepth 100000 in
theorem tX12_sent_E {p : Program} {l : Launch} {e : Env} {s : State} {m : MethodId} {args : Array Value} {below : List Frame} {meth : Method} {c : Code} {D : va_G} {cy : Nat → ClassId} {B : Bs} (C : Cx p s m args c cX12_sent 2 RX12 D cy B) (hr : meth.sig.returnType = (some .int)) (hlocks : meth.locks = false) {N : Nat} {g : Gs} {x0 : Nat} {x1 : Int32} {vz : Int32} {dz : Ds} {d : Ds} (hf : fX12_sent N g x0 x1 d = some (vz, dz)) : WB p l e rmX12_sent s m args below meth c 2 D cy B 0 0 (MQ below (QI D cy B vz g dz) args s 0 0 (wA B)) g d [(0, .ref (ad B x0)), (1, .int x1)] 0 [] := by
  unfold fX12_sent at hf
  refine b_aload_n C dX12_sent_0 0 rfl rfl ?_
  obtain ⟨h1, hf⟩ := gd_s hf
  obtain ⟨d2, k3, hf⟩ := cv_s hf
  refine b_cVN C [] dX12_sent_1 (kX12_laysSent l D cy B k3) lv_X12_314 ⟨rfl, rfl, Nat.le_of_ble_eq_true rfl, Nat.le_of_ble_eq_true rfl⟩ h1 (by decide) rfl (Nat.le_of_ble_eq_true rfl) ⟨Nat.zero_le _, Nat.zero_le _⟩ rfl ?_
  refine b_iload_n C dX12_sent_4 1 rfl rfl ?_
  refine b_if_ne C (tgt := 15) dX12_sent_5 (by decide) (fun c4 => ?_) (fun c4 => ?_)
  · have hf := if_s c4 hf
    refine b_iload_n C dX12_sent_15 1 rfl rfl ?_
    refine b_iconst C (v := 1) dX12_sent_16 (by decide) ?_
    refine b_icmp_ne C (tgt := 27) dX12_sent_17 (by decide) (fun c5 => ?_) (fun c5 => ?_)
    · have hf := if_s c5 hf
      refine b_iload_n C dX12_sent_27 1 rfl rfl ?_
      refine b_iconst C (v := 2) dX12_sent_28 (by decide) ?_
      refine b_isub C dX12_sent_29 ?_
      refine b_iconst C (v := 0) dX12_sent_30 (by decide) ?_
      refine b_aload_n C dX12_sent_31 0 rfl rfl ?_
      refine b_gI C dX12_sent_32 fl_X12_299 h1 ?_
      refine b_iconst C (v := 1) dX12_sent_35 (by decide) ?_
      refine b_isub C dX12_sent_36 ?_
      obtain ⟨u8, d6, k7, hf⟩ := cb_s hf
      refine b_cSI C [] dX12_sent_37 (kX12_in l D cy B k7) lv_X12_169 ⟨rfl, rfl, Nat.le_of_ble_eq_true rfl, Nat.le_of_ble_eq_true rfl⟩ rfl (Nat.le_of_ble_eq_true rfl) ⟨Nat.zero_le _, Nat.zero_le _⟩ rfl ?_
      refine b_if_eq C (tgt := 58) dX12_sent_40 (by decide) (fun c9 => ?_) (fun c9 => ?_)
      · have hf := it_s c9 hf
        refine b_sub [(0, .ref (ad B x0)), (1, .int x1)] [0, 1] rfl ?_
        exact tX12_sent_58 C hr hlocks hf
      · have hf := if_s c9 hf
        refine b_iload_n C dX12_sent_43 1 rfl rfl ?_
        refine b_if_le C (tgt := 58) dX12_sent_44 (by decide) (fun c10 => ?_) (fun c10 => ?_)
        · have hf := it_s c10 hf
          refine b_sub [(0, .ref (ad B x0)), (1, .int x1)] [0, 1] rfl ?_
          exact tX12_sent_58 C hr hlocks hf
        · have hf := if_s c10 hf
          refine b_aload_n C dX12_sent_47 0 rfl rfl ?_
          obtain ⟨r11, er11, hf⟩ := ob_s hf
          refine b_gR C dX12_sent_48 fl_X12_56 h1 er11 ?_
          refine b_iload_n C dX12_sent_51 1 rfl rfl ?_
          refine b_iconst C (v := 2) dX12_sent_52 (by decide) ?_
          refine b_isub C dX12_sent_53 ?_
          obtain ⟨h12, hf⟩ := gd_s hf
          obtain ⟨h13, hf⟩ := gd_s hf
          refine b_iald C h12 h13 dX12_sent_54 ?_
          refine b_goto C (tgt := 59) dX12_sent_55 (by decide) ?_
          refine b_sub [(0, .ref (ad B x0)), (1, .int x1)] [0, 1] rfl ?_
          exact tX12_sent_59 C hr hlocks hf
    · have hf := it_s c5 hf
      refine b_aload_n C dX12_sent_20 0 rfl rfl ?_
      refine b_gI C dX12_sent_21 fl_X12_299 h1 ?_
      refine b_goto C (tgt := 59) dX12_sent_24 (by decide) ?_
      refine b_sub [(0, .ref (ad B x0)), (1, .int x1)] [0, 1] rfl ?_
      exact tX12_sent_59 C hr hlocks hf
  · have hf := it_s c4 hf
    refine b_aload_n C dX12_sent_8 0 rfl rfl ?_
    refine b_gI C dX12_sent_9 fl_X12_302 h1 ?_
    refine b_goto C (tgt := 59) dX12_sent_12 (by decide) ?_
    refine b_sub [(0, .ref (ad B x0)), (1, .int x1)] [0, 1] rfl ?_
    exact tX12_sent_59 C hr hlocks hf
theorem kX12_sent (l : Launch) (D : va_G) (cy : Nat → ClassId) (B : Bs) {N : Nat} {g : Gs} {x0 : Nat} {x1 : Int32} {vz : Int32} {dz : Ds} {d : Ds} (hf : fX12_sent N g x0 x1 d = some (vz, dz)) : Met l yX12_sent (.code yX12_sent cX12_sent 2 (some .int) :: wl) rmX12_sent (PC D cy B [.ref (ad B x0), .int x1] g d) (QI D cy B vz g dz) 0 0 (wA B) :=
  met_of (by decide +kernel) (Nat.le_of_ble_eq_true rfl) (fun p e s m args below meth c C hr hlocks _ => b_sub [(0, .ref (ad B x0)), (1, .int x1)] [0, 1] rfl (tX12_sent_E C hr hlocks hf))
/-! KeyMatrixModel.host(I)I -/
theorem dX12_host_0 : decode cX12_host 0 = .ok (.iload_n 1, 1) := by decide +kernel
theorem dX12_host_1 : decode cX12_host 1 = .ok (.tableswitch 67 0 3 #[31, 40, 49, 58], 31) := by decide +kernel
theorem dX12_host_32 : decode cX12_host 32 = .ok (.aload_n 0, 1) := by decide +kernel
theorem dX12_host_33 : decode cX12_host 33 = .ok (.getfield 40, 3) := by decide +kernel
theorem dX12_host_36 : decode cX12_host 36 = .ok (.sipush 455, 3) := by decide +kernel
theorem dX12_host_39 : decode cX12_host 39 = .ok (.iaload, 1) := by decide +kernel
theorem dX12_host_40 : decode cX12_host 40 = .ok (.ireturn, 1) := by decide +kernel
theorem dX12_host_41 : decode cX12_host 41 = .ok (.aload_n 0, 1) := by decide +kernel
theorem dX12_host_42 : decode cX12_host 42 = .ok (.getfield 40, 3) := by decide +kernel
theorem dX12_host_45 : decode cX12_host 45 = .ok (.sipush 456, 3) := by decide +kernel
theorem dX12_host_48 : decode cX12_host 48 = .ok (.iaload, 1) := by decide +kernel
theorem dX12_host_49 : decode cX12_host 49 = .ok (.ireturn, 1) := by decide +kernel
theorem dX12_host_50 : decode cX12_host 50 = .ok (.aload_n 0, 1) := by decide +kernel
theorem dX12_host_51 : decode cX12_host 51 = .ok (.getfield 40, 3) := by decide +kernel
theorem dX12_host_54 : decode cX12_host 54 = .ok (.sipush 457, 3) := by decide +kernel
theorem dX12_host_57 : decode cX12_host 57 = .ok (.iaload, 1) := by decide +kernel
theorem dX12_host_58 : decode cX12_host 58 = .ok (.ireturn, 1) := by decide +kernel
theorem dX12_host_59 : decode cX12_host 59 = .ok (.aload_n 0, 1) := by decide +kernel
theorem dX12_host_60 : decode cX12_host 60 = .ok (.getfield 40, 3) := by decide +kernel
theorem dX12_host_63 : decode cX12_host 63 = .ok (.sipush 458, 3) := by decide +kernel
theorem dX12_host_66 : decode cX12_host 66 = .ok (.iaload, 1) := by decide +kernel
theorem dX12_host_67 : decode cX12_host 67 = .ok (.ireturn, 1) := by decide +kernel
theorem dX12_host_68 : decode cX12_host 68 = .ok (.bipush (-2), 2) := by decide +kernel
theorem dX12_host_70 : decode cX12_host 70 = .ok (.ireturn, 1) := by decide +kernel
def rmX12_host : Room := { frames := 0, cells := 0, slots := 0, locals := 0 }
set_option maxRecDepth 100000 in
def fX12_host (N : Nat) (g : Gs) (x0 : Nat) (x1 : Int32) (d : Ds) : Option (Int32 × Ds) := if x1.toInt < 0 ∨ 3 < x1.toInt then (some ((-2), d)) else if x1 = 0 then (gd (chk g x0 11) <| ob (gR g x0 17) fun r4 => (gd (chk g r4 102) <| gd (¬ ((455 : Int32) < 0 ∨ gL g r4 ≤ (455 : Int32).toNatClampNeg)) <| some ((dI d r4 (455 : Int32).toNatClampNeg), d))) else if x1 = 1 then (gd (chk g x0 11) <| ob (gR g x0 17) fun r9 => (gd (chk g r9 102) <| gd (¬ ((456 : Int32) < 0 ∨ gL g r9 ≤ (456 : Int32).toNatClampNeg)) <| some ((dI d r9 (456 : Int32).toNatClampNeg), d))) else if x1 = 2 then (gd (chk g x0 11) <| ob (gR g x0 17) fun r14 => (gd (chk g r14 102) <| gd (¬ ((457 : Int32) < 0 ∨ gL g r14 ≤ (457 : Int32).toNatClampNeg)) <| some ((dI d r14 (457 : Int32).toNatClampNeg), d))) else if x1 = 3 then (gd (chk g x0 11) <| ob (gR g x0 17) fun r19 => (gd (chk g r19 102) <| gd (¬ ((458 : Int32) < 0 ∨ gL g r19 ≤ (458 : Int32).toNatClampNeg)) <| some ((dI d r19 (458 : Int32).toNatClampNeg), d))) else none
set_option maxHeartbeats 4000000 in
set_option maxRecDepth 100000 in
theorem tX12_host_E {p : Program} {l : Launch} {e : Env} {s : State} {m : MethodId} {args : Array Value} {below : List Frame} {meth : Method} {c : Code} {D : va_G} {cy : Nat → ClassId} {B : Bs} (C : Cx p s m args c cX12_host 2 RX12 D cy B) (hr : meth.sig.returnType = (some .int)) (hlocks : meth.locks = false) {N : Nat} {g : Gs} {x0 : Nat} {x1 : Int32} {vz : Int32} {dz : Ds} {d : Ds} (hf : fX12_host N g x0 x1 d = some (vz, dz)) : WB p l e rmX12_host s m args below meth c 2 D cy B 0 0 (MQ below (QI D cy B vz g dz) args s 0 0 (wA B)) g d [(0, .ref (ad B x0)), (1, .int x1)] 0 [] := by
  unfold fX12_host at hf
  refine b_iload_n C dX12_host_0 1 rfl rfl ?_
  by_cases c1 : x1.toInt < 0 ∨ 3 < x1.toInt
  · have hf := it_s c1 hf
    refine b_tabOut C (tgt := 68) dX12_host_1 c1 (by decide) ?_
    refine b_bipush C (v := (-2)) dX12_host_68 (by decide) ?_
    exact b_iret C hr hlocks hf dX12_host_70
  · have hf := if_s c1 hf
    by_cases c2 : x1 = 0
    · have hf := it_s c2 hf
      refine b_tabIn C (tgt := 32) (off := 31) dX12_host_1 c2 (by decide) (by decide) (by decide) (by decide) ?_
      refine b_aload_n C dX12_host_32 0 rfl rfl ?_
      obtain ⟨h3, hf⟩ := gd_s hf
      obtain ⟨r4, er4, hf⟩ := ob_s hf
      refine b_gR C dX12_host_33 fl_X12_40 h3 er4 ?_
      refine b_sipush C (v := 455) dX12_host_36 (by decide) ?_
      obtain ⟨h5, hf⟩ := gd_s hf
      obtain ⟨h6, hf⟩ := gd_s hf
      refine b_iald C h5 h6 dX12_host_39 ?_
      exact b_iret C hr hlocks hf dX12_host_40
    have hf := if_s c2 hf
    by_cases c7 : x1 = 1
    · have hf := it_s c7 hf
      refine b_tabIn C (tgt := 41) (off := 40) dX12_host_1 c7 (by decide) (by decide) (by decide) (by decide) ?_
      refine b_aload_n C dX12_host_41 0 rfl rfl ?_
      obtain ⟨h8, hf⟩ := gd_s hf
      obtain ⟨r9, er9, hf⟩ := ob_s hf
      refine b_gR C dX12_host_42 fl_X12_40 h8 er9 ?_
      refine b_sipush C (v := 456) dX12_host_45 (by decide) ?_
      obtain ⟨h10, hf⟩ := gd_s hf
      obtain ⟨h11, hf⟩ := gd_s hf
      refine b_iald C h10 h11 dX12_host_48 ?_
      exact b_iret C hr hlocks hf dX12_host_49
    have hf := if_s c7 hf
    by_cases c12 : x1 = 2
    · have hf := it_s c12 hf
      refine b_tabIn C (tgt := 50) (off := 49) dX12_host_1 c12 (by decide) (by decide) (by decide) (by decide) ?_
      refine b_aload_n C dX12_host_50 0 rfl rfl ?_
      obtain ⟨h13, hf⟩ := gd_s hf
      obtain ⟨r14, er14, hf⟩ := ob_s hf
      refine b_gR C dX12_host_51 fl_X12_40 h13 er14 ?_
      refine b_sipush C (v := 457) dX12_host_54 (by decide) ?_
      obtain ⟨h15, hf⟩ := gd_s hf
      obtain ⟨h16, hf⟩ := gd_s hf
      refine b_iald C h15 h16 dX12_host_57 ?_
      exact b_iret C hr hlocks hf dX12_host_58
    have hf := if_s c12 hf
    by_cases c17 : x1 = 3
    · have hf := it_s c17 hf
      refine b_tabIn C (tgt := 59) (off := 58) dX12_host_1 c17 (by decide) (by decide) (by decide) (by decide) ?_
      refine b_aload_n C dX12_host_59 0 rfl rfl ?_
      obtain ⟨h18, hf⟩ := gd_s hf
      obtain ⟨r19, er19, hf⟩ := ob_s hf
      refine b_gR C dX12_host_60 fl_X12_40 h18 er19 ?_
      refine b_sipush C (v := 458) dX12_host_63 (by decide) ?_
      obtain ⟨h20, hf⟩ := gd_s hf
      obtain ⟨h21, hf⟩ := gd_s hf
      refine b_iald C h20 h21 dX12_host_66 ?_
      exact b_iret C hr hlocks hf dX12_host_67
    have hf := if_s c17 hf
    cases hf
theorem kX12_host (l : Launch) (D : va_G) (cy : Nat → ClassId) (B : Bs) {N : Nat} {g : Gs} {x0 : Nat} {x1 : Int32} {vz : Int32} {dz : Ds} {d : Ds} (hf : fX12_host N g x0 x1 d = some (vz, dz)) : Met l yX12_host (.code yX12_host cX12_host 2 (some .int) :: wl) rmX12_host (PC D cy B [.ref (ad B x0), .int x1] g d) (QI D cy B vz g dz) 0 0 (wA B) :=
  met_of (by decide +kernel) (Nat.le_of_ble_eq_true rfl) (fun p e s m args below meth c C hr hlocks _ => b_sub [(0, .ref (ad B x0)), (1, .int x1)] [0, 1] rfl (tX12_host_E C hr hlocks hf))
/-! KeyMatrixModel.strokes(II)I -/
theorem dX12_strokes_0 : decode cX12_strokes 0 = .ok (.aload_n 0, 1) := by decide +kernel
theorem dX12_strokes_1 : decode cX12_strokes 1 = .ok (.iload_n 1, 1) := by decide +kernel
theorem dX12_strokes_2 : decode cX12_strokes 2 = .ok (.invokevirtual 220, 3) := by decide +kernel
theorem dX12_strokes_5 : decode cX12_strokes 5 = .ok (.ifCond .ne 6, 3) := by decide +kernel
theorem dX12_strokes_8 : decode cX12_strokes 8 = .ok (.bipush (-2), 2) := by decide +kernel
theorem dX12_strokes_10 : decode cX12_strokes 10 = .ok (.ireturn, 1) := by decide +kernel
theorem dX12_strokes_11 : decode cX12_strokes 11 = .ok (.iload_n 2, 1) := by decide +kernel
theorem dX12_strokes_12 : decode cX12_strokes 12 = .ok (.ifCond .ne 16, 3) := by decide +kernel
theorem dX12_strokes_15 : decode cX12_strokes 15 = .ok (.aload_n 0, 1) := by decide +kernel
theorem dX12_strokes_16 : decode cX12_strokes 16 = .ok (.getfield 40, 3) := by decide +kernel
theorem dX12_strokes_19 : decode cX12_strokes 19 = .ok (.sipush 459, 3) := by decide +kernel
theorem dX12_strokes_22 : decode cX12_strokes 22 = .ok (.iload_n 1, 1) := by decide +kernel
theorem dX12_strokes_23 : decode cX12_strokes 23 = .ok (.iadd, 1) := by decide +kernel
theorem dX12_strokes_24 : decode cX12_strokes 24 = .ok (.iaload, 1) := by decide +kernel
theorem dX12_strokes_25 : decode cX12_strokes 25 = .ok (.goto 41, 3) := by decide +kernel
theorem dX12_strokes_28 : decode cX12_strokes 28 = .ok (.iload_n 2, 1) := by decide +kernel
theorem dX12_strokes_29 : decode cX12_strokes 29 = .ok (.iconst 1, 1) := by decide +kernel
theorem dX12_strokes_30 : decode cX12_strokes 30 = .ok (.if_icmp .ne 16, 3) := by decide +kernel
theorem dX12_strokes_33 : decode cX12_strokes 33 = .ok (.aload_n 0, 1) := by decide +kernel
theorem dX12_strokes_34 : decode cX12_strokes 34 = .ok (.getfield 40, 3) := by decide +kernel
theorem dX12_strokes_37 : decode cX12_strokes 37 = .ok (.sipush 483, 3) := by decide +kernel
theorem dX12_strokes_40 : decode cX12_strokes 40 = .ok (.iload_n 1, 1) := by decide +kernel
theorem dX12_strokes_41 : decode cX12_strokes 41 = .ok (.iadd, 1) := by decide +kernel
theorem dX12_strokes_42 : decode cX12_strokes 42 = .ok (.iaload, 1) := by decide +kernel
theorem dX12_strokes_43 : decode cX12_strokes 43 = .ok (.goto 23, 3) := by decide +kernel
theorem dX12_strokes_46 : decode cX12_strokes 46 = .ok (.iload_n 2, 1) := by decide +kernel
theorem dX12_strokes_47 : decode cX12_strokes 47 = .ok (.iconst 2, 1) := by decide +kernel
theorem dX12_strokes_48 : decode cX12_strokes 48 = .ok (.if_icmp .ne 16, 3) := by decide +kernel
theorem dX12_strokes_51 : decode cX12_strokes 51 = .ok (.aload_n 0, 1) := by decide +kernel
theorem dX12_strokes_52 : decode cX12_strokes 52 = .ok (.getfield 40, 3) := by decide +kernel
theorem dX12_strokes_55 : decode cX12_strokes 55 = .ok (.sipush 507, 3) := by decide +kernel
theorem dX12_strokes_58 : decode cX12_strokes 58 = .ok (.iload_n 1, 1) := by decide +kernel
theorem dX12_strokes_59 : decode cX12_strokes 59 = .ok (.iadd, 1) := by decide +kernel
theorem dX12_strokes_60 : decode cX12_strokes 60 = .ok (.iaload, 1) := by decide +kernel
theorem dX12_strokes_61 : decode cX12_strokes 61 = .ok (.goto 5, 3) := by decide +kernel
theorem dX12_strokes_64 : decode cX12_strokes 64 = .ok (.bipush (-2), 2) := by decide +kernel
theorem dX12_strokes_66 : decode cX12_strokes 66 = .ok (.ireturn, 1) := by decide +kernel
def rmX12_strokes : Room := { frames := 2, cells := 0, slots := 0, locals := 43 }
set_option maxRecDepth 100000 in
def fX12_strokes_J66 (N : Nat) (g : Gs) (x0 : Nat) (x1 : Int32) (x2 : Int32) (z0 : Int32) (d : Ds) : Option (Int32 × Ds) := some (z0, d)
set_option maxHeartbeats 4000000 in
set_option maxRecDepth 100000 in
theorem tX12_strokes_66 {p : Program} {l : Launch} {e : Env} {s : State} {m : MethodId} {args : Array Value} {below : List Frame} {meth : Method} {c : Code} {D : va_G} {cy : Nat → ClassId} {B : Bs} (C : Cx p s m args c cX12_strokes 3 RX12 D cy B) (hr : meth.sig.returnType = (some .int)) (hlocks : meth.locks = false) {N : Nat} {g : Gs} {x0 : Nat} {x1 : Int32} {x2 : Int32} {vz : Int32} {dz : Ds} {z0 : Int32} {d : Ds} (hf : fX12_strokes_J66 N g x0 x1 x2 z0 d = some (vz, dz)) : WB p l e rmX12_strokes s m args below meth c 3 D cy B 0 0 (MQ below (QI D cy B vz g dz) args s 0 0 (wA B)) g d [(0, .ref (ad B x0)), (1, .int x1), (2, .int x2)] 66 [.int z0] := by
  unfold fX12_strokes_J66 at hf
  exact b_iret C hr hlocks hf dX12_strokes_66
set_option maxRecDepth 100000 in
def fX12_strokes (N : Nat) (g : Gs) (x0 : Nat) (x1 : Int32) (x2 : Int32) (d : Ds) : Option (Int32 × Ds) := gd (chk g x0 11) <| cb (fX12_isKey N g x0 x1 d) fun u4 d2 => (if u4 = 0 then (some ((-2), d2)) else (if x2 = 0 then (ob (gR g x0 17) fun r15 => (gd (chk g r15 102) <| gd (¬ (((459 : Int32) + x1) < 0 ∨ gL g r15 ≤ ((459 : Int32) + x1).toNatClampNeg)) <| fX12_strokes_J66 N g x0 x1 x2 (dI d2 r15 ((459 : Int32) + x1).toNatClampNeg) d2)) else (if x2 = (1 : Int32) then (ob (gR g x0 17) fun r12 => (gd (chk g r12 102) <| gd (¬ (((483 : Int32) + x1) < 0 ∨ gL g r12 ≤ ((483 : Int32) + x1).toNatClampNeg)) <| fX12_strokes_J66 N g x0 x1 x2 (dI d2 r12 ((483 : Int32) + x1).toNatClampNeg) d2)) else (if x2 = (2 : Int32) then (ob (gR g x0 17) fun r9 => (gd (chk g r9 102) <| gd (¬ (((507 : Int32) + x1) < 0 ∨ gL g r9 ≤ ((507 : Int32) + x1).toNatClampNeg)) <| fX12_strokes_J66 N g x0 x1 x2 (dI d2 r9 ((507 : Int32) + x1).toNatClampNeg) d2)) else (fX12_strokes_J66 N g x0 x1 x2 (-2) d2)))))
set_option maxHeartbeats 4000000 in
set_option maxRecDepth 100000 in
theorem tX12_strokes_E {p : Program} {l : Launch} {e : Env} {s : State} {m : MethodId} {args : Array Value} {below : List Frame} {meth : Method} {c : Code} {D : va_G} {cy : Nat → ClassId} {B : Bs} (C : Cx p s m args c cX12_strokes 3 RX12 D cy B) (hr : meth.sig.returnType = (some .int)) (hlocks : meth.locks = false) {N : Nat} {g : Gs} {x0 : Nat} {x1 : Int32} {x2 : Int32} {vz : Int32} {dz : Ds} {d : Ds} (hf : fX12_strokes N g x0 x1 x2 d = some (vz, dz)) : WB p l e rmX12_strokes s m args below meth c 3 D cy B 0 0 (MQ below (QI D cy B vz g dz) args s 0 0 (wA B)) g d [(0, .ref (ad B x0)), (1, .int x1), (2, .int x2)] 0 [] := by
  unfold fX12_strokes at hf
  refine b_aload_n C dX12_strokes_0 0 rfl rfl ?_
  refine b_iload_n C dX12_strokes_1 1 rfl rfl ?_
  obtain ⟨h1, hf⟩ := gd_s hf
  obtain ⟨u4, d2, k3, hf⟩ := cb_s hf
  refine b_cVI C [] dX12_strokes_2 (kX12_isKey l D cy B k3) lv_X12_220 ⟨rfl, rfl, Nat.le_of_ble_eq_true rfl, Nat.le_of_ble_eq_true rfl⟩ h1 (by decide) rfl (Nat.le_of_ble_eq_true rfl) ⟨Nat.zero_le _, Nat.zero_le _⟩ rfl ?_
  refine b_if_ne C (tgt := 11) dX12_strokes_5 (by decide) (fun c5 => ?_) (fun c5 => ?_)
  · have hf := if_s c5 hf
    refine b_iload_n C dX12_strokes_11 2 rfl rfl ?_
    refine b_if_ne C (tgt := 28) dX12_strokes_12 (by decide) (fun c6 => ?_) (fun c6 => ?_)
    · have hf := if_s c6 hf
      refine b_iload_n C dX12_strokes_28 2 rfl rfl ?_
      refine b_iconst C (v := 1) dX12_strokes_29 (by decide) ?_
      refine b_icmp_ne C (tgt := 46) dX12_strokes_30 (by decide) (fun c7 => ?_) (fun c7 => ?_)
      · have hf := if_s c7 hf
        refine b_iload_n C dX12_strokes_46 2 rfl rfl ?_
        refine b_iconst C (v := 2) dX12_strokes_47 (by decide) ?_
        refine b_icmp_ne C (tgt := 64) dX12_strokes_48 (by decide) (fun c8 => ?_) (fun c8 => ?_)
        · have hf := if_s c8 hf
          refine b_bipush C (v := (-2)) dX12_strokes_64 (by decide) ?_
          refine b_sub [(0, .ref (ad B x0)), (1, .int x1), (2, .int x2)] [0, 1, 2] rfl ?_
          exact tX12_strokes_66 C hr hlocks hf
        · have hf := it_s c8 hf
          refine b_aload_n C dX12_strokes_51 0 rfl rfl ?_
          obtain ⟨r9, er9, hf⟩ := ob_s hf
          refine b_gR C dX12_strokes_52 fl_X12_40 h1 er9 ?_
          refine b_sipush C (v := 507) dX12_strokes_55 (by decide) ?_
          refine b_iload_n C dX12_strokes_58 1 rfl rfl ?_
          refine b_iadd C dX12_strokes_59 ?_
          obtain ⟨h10, hf⟩ := gd_s hf
          obtain ⟨h11, hf⟩ := gd_s hf
          refine b_iald C h10 h11 dX12_strokes_60 ?_
          refine b_goto C (tgt := 66) dX12_strokes_61 (by decide) ?_
          refine b_sub [(0, .ref (ad B x0)), (1, .int x1), (2, .int x2)] [0, 1, 2] rfl ?_
          exact tX12_strokes_66 C hr hlocks hf
      · have hf := it_s c7 hf
        refine b_aload_n C dX12_strokes_33 0 rfl rfl ?_
        obtain ⟨r12, er12, hf⟩ := ob_s hf
        refine b_gR C dX12_strokes_34 fl_X12_40 h1 er12 ?_
        refine b_sipush C (v := 483) dX12_strokes_37 (by decide) ?_
        refine b_iload_n C dX12_strokes_40 1 rfl rfl ?_
        refine b_iadd C dX12_strokes_41 ?_
        obtain ⟨h13, hf⟩ := gd_s hf
        obtain ⟨h14, hf⟩ := gd_s hf
        refine b_iald C h13 h14 dX12_strokes_42 ?_
        refine b_goto C (tgt := 66) dX12_strokes_43 (by decide) ?_
        refine b_sub [(0, .ref (ad B x0)), (1, .int x1), (2, .int x2)] [0, 1, 2] rfl ?_
        exact tX12_strokes_66 C hr hlocks hf
    · have hf := it_s c6 hf
      refine b_aload_n C dX12_strokes_15 0 rfl rfl ?_
      obtain ⟨r15, er15, hf⟩ := ob_s hf
      refine b_gR C dX12_strokes_16 fl_X12_40 h1 er15 ?_
      refine b_sipush C (v := 459) dX12_strokes_19 (by decide) ?_
      refine b_iload_n C dX12_strokes_22 1 rfl rfl ?_
      refine b_iadd C dX12_strokes_23 ?_
      obtain ⟨h16, hf⟩ := gd_s hf
      obtain ⟨h17, hf⟩ := gd_s hf
      refine b_iald C h16 h17 dX12_strokes_24 ?_
      refine b_goto C (tgt := 66) dX12_strokes_25 (by decide) ?_
      refine b_sub [(0, .ref (ad B x0)), (1, .int x1), (2, .int x2)] [0, 1, 2] rfl ?_
      exact tX12_strokes_66 C hr hlocks hf
  · have hf := it_s c5 hf
    refine b_bipush C (v := (-2)) dX12_strokes_8 (by decide) ?_
    exact b_iret C hr hlocks hf dX12_strokes_10
theorem kX12_strokes (l : Launch) (D : va_G) (cy : Nat → ClassId) (B : Bs) {N : Nat} {g : Gs} {x0 : Nat} {x1 : Int32} {x2 : Int32} {vz : Int32} {dz : Ds} {d : Ds} (hf : fX12_strokes N g x0 x1 x2 d = some (vz, dz)) : Met l yX12_strokes (.code yX12_strokes cX12_strokes 3 (some .int) :: wl) rmX12_strokes (PC D cy B [.ref (ad B x0), .int x1, .int x2] g d) (QI D cy B vz g dz) 0 0 (wA B) :=
  met_of (by decide +kernel) (Nat.le_of_ble_eq_true rfl) (fun p e s m args below meth c C hr hlocks _ => b_sub [(0, .ref (ad B x0)), (1, .int x1), (2, .int x2)] [0, 1, 2] rfl (tX12_strokes_E C hr hlocks hf))
/-! KeyMatrixModel.chord(II)I -/
theorem dX12_chord_0 : decode cX12_chord 0 = .ok (.iload_n 1, 1) := by decide +kernel
theorem dX12_chord_1 : decode cX12_chord 1 = .ok (.iconst (-1), 1) := by decide +kernel
theorem dX12_chord_2 : decode cX12_chord 2 = .ok (.if_icmp .ne 11, 3) := by decide +kernel
theorem dX12_chord_5 : decode cX12_chord 5 = .ok (.aload_n 0, 1) := by decide +kernel
theorem dX12_chord_6 : decode cX12_chord 6 = .ok (.getfield 40, 3) := by decide +kernel
theorem dX12_chord_9 : decode cX12_chord 9 = .ok (.bipush 10, 2) := by decide +kernel
theorem dX12_chord_11 : decode cX12_chord 11 = .ok (.iaload, 1) := by decide +kernel
theorem dX12_chord_12 : decode cX12_chord 12 = .ok (.ireturn, 1) := by decide +kernel
theorem dX12_chord_13 : decode cX12_chord 13 = .ok (.iload_n 1, 1) := by decide +kernel
theorem dX12_chord_14 : decode cX12_chord 14 = .ok (.iconst 0, 1) := by decide +kernel
theorem dX12_chord_15 : decode cX12_chord 15 = .ok (.aload_n 0, 1) := by decide +kernel
theorem dX12_chord_16 : decode cX12_chord 16 = .ok (.getfield 40, 3) := by decide +kernel
theorem dX12_chord_19 : decode cX12_chord 19 = .ok (.bipush 10, 2) := by decide +kernel
theorem dX12_chord_21 : decode cX12_chord 21 = .ok (.iaload, 1) := by decide +kernel
theorem dX12_chord_22 : decode cX12_chord 22 = .ok (.iconst 1, 1) := by decide +kernel
theorem dX12_chord_23 : decode cX12_chord 23 = .ok (.isub, 1) := by decide +kernel
theorem dX12_chord_24 : decode cX12_chord 24 = .ok (.invokestatic 169, 3) := by decide +kernel
theorem dX12_chord_27 : decode cX12_chord 27 = .ok (.ifCond .eq 12, 3) := by decide +kernel
theorem dX12_chord_30 : decode cX12_chord 30 = .ok (.iload_n 2, 1) := by decide +kernel
theorem dX12_chord_31 : decode cX12_chord 31 = .ok (.iconst 0, 1) := by decide +kernel
theorem dX12_chord_32 : decode cX12_chord 32 = .ok (.iconst 2, 1) := by decide +kernel
theorem dX12_chord_33 : decode cX12_chord 33 = .ok (.invokestatic 169, 3) := by decide +kernel
theorem dX12_chord_36 : decode cX12_chord 36 = .ok (.ifCond .ne 5, 3) := by decide +kernel
theorem dX12_chord_39 : decode cX12_chord 39 = .ok (.iconst (-1), 1) := by decide +kernel
theorem dX12_chord_40 : decode cX12_chord 40 = .ok (.ireturn, 1) := by decide +kernel
theorem dX12_chord_41 : decode cX12_chord 41 = .ok (.iload_n 2, 1) := by decide +kernel
theorem dX12_chord_42 : decode cX12_chord 42 = .ok (.iconst 2, 1) := by decide +kernel
theorem dX12_chord_43 : decode cX12_chord 43 = .ok (.if_icmp .ge 20, 3) := by decide +kernel
theorem dX12_chord_46 : decode cX12_chord 46 = .ok (.aload_n 0, 1) := by decide +kernel
theorem dX12_chord_47 : decode cX12_chord 47 = .ok (.getfield 40, 3) := by decide +kernel
theorem dX12_chord_50 : decode cX12_chord 50 = .ok (.sipush 300, 3) := by decide +kernel
theorem dX12_chord_53 : decode cX12_chord 53 = .ok (.iconst 4, 1) := by decide +kernel
theorem dX12_chord_54 : decode cX12_chord 54 = .ok (.iload_n 1, 1) := by decide +kernel
theorem dX12_chord_55 : decode cX12_chord 55 = .ok (.imul, 1) := by decide +kernel
theorem dX12_chord_56 : decode cX12_chord 56 = .ok (.iadd, 1) := by decide +kernel
theorem dX12_chord_57 : decode cX12_chord 57 = .ok (.iload_n 2, 1) := by decide +kernel
theorem dX12_chord_58 : decode cX12_chord 58 = .ok (.iadd, 1) := by decide +kernel
theorem dX12_chord_59 : decode cX12_chord 59 = .ok (.iaload, 1) := by decide +kernel
theorem dX12_chord_60 : decode cX12_chord 60 = .ok (.goto 15, 3) := by decide +kernel
theorem dX12_chord_63 : decode cX12_chord 63 = .ok (.aload_n 0, 1) := by decide +kernel
theorem dX12_chord_64 : decode cX12_chord 64 = .ok (.getfield 40, 3) := by decide +kernel
theorem dX12_chord_67 : decode cX12_chord 67 = .ok (.sipush 453, 3) := by decide +kernel
theorem dX12_chord_70 : decode cX12_chord 70 = .ok (.iaload, 1) := by decide +kernel
theorem dX12_chord_71 : decode cX12_chord 71 = .ok (.iload_n 1, 1) := by decide +kernel
theorem dX12_chord_72 : decode cX12_chord 72 = .ok (.ishr, 1) := by decide +kernel
theorem dX12_chord_73 : decode cX12_chord 73 = .ok (.iconst 1, 1) := by decide +kernel
theorem dX12_chord_74 : decode cX12_chord 74 = .ok (.iand, 1) := by decide +kernel
theorem dX12_chord_75 : decode cX12_chord 75 = .ok (.ireturn, 1) := by decide +kernel
def rmX12_chord : Room := { frames := 1, cells := 0, slots := 0, locals := 22 }
set_option maxRecDepth 100000 in
def fX12_chord_J39 (N : Nat) (g : Gs) (x0 : Nat) (x1 : Int32) (x2 : Int32) (d : Ds) : Option (Int32 × Ds) := some ((-1), d)
set_option maxHeartbeats 4000000 in
set_option maxRecDepth 100000 in
theorem tX12_chord_39 {p : Program} {l : Launch} {e : Env} {s : State} {m : MethodId} {args : Array Value} {below : List Frame} {meth : Method} {c : Code} {D : va_G} {cy : Nat → ClassId} {B : Bs} (C : Cx p s m args c cX12_chord 3 RX12 D cy B) (hr : meth.sig.returnType = (some .int)) (hlocks : meth.locks = false) {N : Nat} {g : Gs} {x0 : Nat} {x1 : Int32} {x2 : Int32} {vz : Int32} {dz : Ds} {d : Ds} (hf : fX12_chord_J39 N g x0 x1 x2 d = some (vz, dz)) : WB p l e rmX12_chord s m args below meth c 3 D cy B 0 0 (MQ below (QI D cy B vz g dz) args s 0 0 (wA B)) g d [(0, .ref (ad B x0)), (1, .int x1), (2, .int x2)] 39 [] := by
  unfold fX12_chord_J39 at hf
  refine b_iconst C (v := (-1)) dX12_chord_39 (by decide) ?_
  exact b_iret C hr hlocks hf dX12_chord_40
set_option maxRecDepth 100000 in
def fX12_chord_J75 (N : Nat) (g : Gs) (x0 : Nat) (x1 : Int32) (x2 : Int32) (z0 : Int32) (d : Ds) : Option (Int32 × Ds) := some (z0, d)
set_option maxHeartbeats 4000000 in
set_option maxRecDepth 100000 in
theorem tX12_chord_75 {p : Program} {l : Launch} {e : Env} {s : State} {m : MethodId} {args : Array Value} {below : List Frame} {meth : Method} {c : Code} {D : va_G} {cy : Nat → ClassId} {B : Bs} (C : Cx p s m args c cX12_chord 3 RX12 D cy B) (hr : meth.sig.returnType = (some .int)) (hlocks : meth.locks = false) {N : Nat} {g : Gs} {x0 : Nat} {x1 : Int32} {x2 : Int32} {vz : Int32} {dz : Ds} {z0 : Int32} {d : Ds} (hf : fX12_chord_J75 N g x0 x1 x2 z0 d = some (vz, dz)) : WB p l e rmX12_chord s m args below meth c 3 D cy B 0 0 (MQ below (QI D cy B vz g dz) args s 0 0 (wA B)) g d [(0, .ref (ad B x0)), (1, .int x1), (2, .int x2)] 75 [.int z0] := by
  unfold fX12_chord_J75 at hf
  exact b_iret C hr hlocks hf dX12_chord_75
set_option maxRecDepth 100000 in
def fX12_chord (N : Nat) (g : Gs) (x0 : Nat) (x1 : Int32) (x2 : Int32) (d : Ds) : Option (Int32 × Ds) := if x1 = (-1 : Int32) then (gd (chk g x0 11) <| ob (gR g x0 17) fun r18 => (gd (chk g r18 102) <| gd (¬ ((10 : Int32) < 0 ∨ gL g r18 ≤ (10 : Int32).toNatClampNeg)) <| some ((dI d r18 (10 : Int32).toNatClampNeg), d))) else (gd (chk g x0 11) <| ob (gR g x0 17) fun r3 => (gd (chk g r3 102) <| gd (¬ ((10 : Int32) < 0 ∨ gL g r3 ≤ (10 : Int32).toNatClampNeg)) <| cb (fX12_in N g x1 0 ((dI d r3 (10 : Int32).toNatClampNeg) - 1) d) fun u8 d6 => (if u8 = 0 then (fX12_chord_J39 N g x0 x1 x2 d6) else (cb (fX12_in N g x2 0 2 d6) fun u12 d10 => (if u12 = 0 then (fX12_chord_J39 N g x0 x1 x2 d10) else (if (2 : Int32) ≤ x2 then (gd (¬ ((453 : Int32) < 0 ∨ gL g r3 ≤ (453 : Int32).toNatClampNeg)) <| fX12_chord_J75 N g x0 x1 x2 (((dI d10 r3 (453 : Int32).toNatClampNeg) >>> (x1 &&& 31)) &&& 1) d10) else (gd (¬ ((((300 : Int32) + ((4 : Int32) * x1)) + x2) < 0 ∨ gL g r3 ≤ (((300 : Int32) + ((4 : Int32) * x1)) + x2).toNatClampNeg)) <| fX12_chord_J75 N g x0 x1 x2 (dI d10 r3 (((300 : Int32) + ((4 : Int32) * x1)) + x2).toNatClampNeg) d10)))))))
set_option maxHeartbeats 4000000 in
set_option maxRecDepth 100000 in
theorem tX12_chord_E {p : Program} {l : Launch} {e : Env} {s : State} {m : MethodId} {args : Array Value} {below : List Frame} {meth : Method} {c : Code} {D : va_G} {cy : Nat → ClassId} {B : Bs} (C : Cx p s m args c cX12_chord 3 RX12 D cy B) (hr : meth.sig.returnType = (some .int)) (hlocks : meth.locks = false) {N : Nat} {g : Gs} {x0 : Nat} {x1 : Int32} {x2 : Int32} {vz : Int32} {dz : Ds} {d : Ds} (hf : fX12_chord N g x0 x1 x2 d = some (vz, dz)) : WB p l e rmX12_chord s m args below meth c 3 D cy B 0 0 (MQ below (QI D cy B vz g dz) args s 0 0 (wA B)) g d [(0, .ref (ad B x0)), (1, .int x1), (2, .int x2)] 0 [] := by
  unfold fX12_chord at hf
  refine b_iload_n C dX12_chord_0 1 rfl rfl ?_
  refine b_iconst C (v := (-1)) dX12_chord_1 (by decide) ?_
  refine b_icmp_ne C (tgt := 13) dX12_chord_2 (by decide) (fun c1 => ?_) (fun c1 => ?_)
  · have hf := if_s c1 hf
    refine b_iload_n C dX12_chord_13 1 rfl rfl ?_
    refine b_iconst C (v := 0) dX12_chord_14 (by decide) ?_
    refine b_aload_n C dX12_chord_15 0 rfl rfl ?_
    obtain ⟨h2, hf⟩ := gd_s hf
    obtain ⟨r3, er3, hf⟩ := ob_s hf
    refine b_gR C dX12_chord_16 fl_X12_40 h2 er3 ?_
    refine b_bipush C (v := 10) dX12_chord_19 (by decide) ?_
    obtain ⟨h4, hf⟩ := gd_s hf
    obtain ⟨h5, hf⟩ := gd_s hf
    refine b_iald C h4 h5 dX12_chord_21 ?_
    refine b_iconst C (v := 1) dX12_chord_22 (by decide) ?_
    refine b_isub C dX12_chord_23 ?_
    obtain ⟨u8, d6, k7, hf⟩ := cb_s hf
    refine b_cSI C [] dX12_chord_24 (kX12_in l D cy B k7) lv_X12_169 ⟨rfl, rfl, Nat.le_of_ble_eq_true rfl, Nat.le_of_ble_eq_true rfl⟩ rfl (Nat.le_of_ble_eq_true rfl) ⟨Nat.zero_le _, Nat.zero_le _⟩ rfl ?_
    refine b_if_eq C (tgt := 39) dX12_chord_27 (by decide) (fun c9 => ?_) (fun c9 => ?_)
    · have hf := it_s c9 hf
      refine b_sub [(0, .ref (ad B x0)), (1, .int x1), (2, .int x2)] [0, 1, 2] rfl ?_
      exact tX12_chord_39 C hr hlocks hf
    · have hf := if_s c9 hf
      refine b_iload_n C dX12_chord_30 2 rfl rfl ?_
      refine b_iconst C (v := 0) dX12_chord_31 (by decide) ?_
      refine b_iconst C (v := 2) dX12_chord_32 (by decide) ?_
      obtain ⟨u12, d10, k11, hf⟩ := cb_s hf
      refine b_cSI C [] dX12_chord_33 (kX12_in l D cy B k11) lv_X12_169 ⟨rfl, rfl, Nat.le_of_ble_eq_true rfl, Nat.le_of_ble_eq_true rfl⟩ rfl (Nat.le_of_ble_eq_true rfl) ⟨Nat.zero_le _, Nat.zero_le _⟩ rfl ?_
      refine b_if_ne C (tgt := 41) dX12_chord_36 (by decide) (fun c13 => ?_) (fun c13 => ?_)
      · have hf := if_s c13 hf
        refine b_iload_n C dX12_chord_41 2 rfl rfl ?_
        refine b_iconst C (v := 2) dX12_chord_42 (by decide) ?_
        refine b_icmp_ge C (tgt := 63) dX12_chord_43 (by decide) (fun c14 => ?_) (fun c14 => ?_)
        · have hf := it_s c14 hf
          refine b_aload_n C dX12_chord_63 0 rfl rfl ?_
          refine b_gR C dX12_chord_64 fl_X12_40 h2 er3 ?_
          refine b_sipush C (v := 453) dX12_chord_67 (by decide) ?_
          obtain ⟨h15, hf⟩ := gd_s hf
          refine b_iald C h4 h15 dX12_chord_70 ?_
          refine b_iload_n C dX12_chord_71 1 rfl rfl ?_
          refine b_ishr C dX12_chord_72 ?_
          refine b_iconst C (v := 1) dX12_chord_73 (by decide) ?_
          refine b_iand C dX12_chord_74 ?_
          refine b_sub [(0, .ref (ad B x0)), (1, .int x1), (2, .int x2)] [0, 1, 2] rfl ?_
          exact tX12_chord_75 C hr hlocks hf
        · have hf := if_s c14 hf
          refine b_aload_n C dX12_chord_46 0 rfl rfl ?_
          refine b_gR C dX12_chord_47 fl_X12_40 h2 er3 ?_
          refine b_sipush C (v := 300) dX12_chord_50 (by decide) ?_
          refine b_iconst C (v := 4) dX12_chord_53 (by decide) ?_
          refine b_iload_n C dX12_chord_54 1 rfl rfl ?_
          refine b_imul C dX12_chord_55 ?_
          refine b_iadd C dX12_chord_56 ?_
          refine b_iload_n C dX12_chord_57 2 rfl rfl ?_
          refine b_iadd C dX12_chord_58 ?_
          obtain ⟨h16, hf⟩ := gd_s hf
          refine b_iald C h4 h16 dX12_chord_59 ?_
          refine b_goto C (tgt := 75) dX12_chord_60 (by decide) ?_
          refine b_sub [(0, .ref (ad B x0)), (1, .int x1), (2, .int x2)] [0, 1, 2] rfl ?_
          exact tX12_chord_75 C hr hlocks hf
      · have hf := it_s c13 hf
        refine b_sub [(0, .ref (ad B x0)), (1, .int x1), (2, .int x2)] [0, 1, 2] rfl ?_
        exact tX12_chord_39 C hr hlocks hf
  · have hf := it_s c1 hf
    refine b_aload_n C dX12_chord_5 0 rfl rfl ?_
    obtain ⟨h17, hf⟩ := gd_s hf
    obtain ⟨r18, er18, hf⟩ := ob_s hf
    refine b_gR C dX12_chord_6 fl_X12_40 h17 er18 ?_
    refine b_bipush C (v := 10) dX12_chord_9 (by decide) ?_
    obtain ⟨h19, hf⟩ := gd_s hf
    obtain ⟨h20, hf⟩ := gd_s hf
    refine b_iald C h19 h20 dX12_chord_11 ?_
    exact b_iret C hr hlocks hf dX12_chord_12
theorem kX12_chord (l : Launch) (D : va_G) (cy : Nat → ClassId) (B : Bs) {N : Nat} {g : Gs} {x0 : Nat} {x1 : Int32} {x2 : Int32} {vz : Int32} {dz : Ds} {d : Ds} (hf : fX12_chord N g x0 x1 x2 d = some (vz, dz)) : Met l yX12_chord (.code yX12_chord cX12_chord 3 (some .int) :: wl) rmX12_chord (PC D cy B [.ref (ad B x0), .int x1, .int x2] g d) (QI D cy B vz g dz) 0 0 (wA B) :=
  met_of (by decide +kernel) (Nat.le_of_ble_eq_true rfl) (fun p e s m args below meth c C hr hlocks _ => b_sub [(0, .ref (ad B x0)), (1, .int x1), (2, .int x2)] [0, 1, 2] rfl (tX12_chord_E C hr hlocks hf))
/-! KeyMatrixModel.macro(II)I -/
theorem dX12_macro_0 : decode cX12_macro 0 = .ok (.iload_n 1, 1) := by decide +kernel
theorem dX12_macro_1 : decode cX12_macro 1 = .ok (.iconst 0, 1) := by decide +kernel
theorem dX12_macro_2 : decode cX12_macro 2 = .ok (.aload_n 0, 1) := by decide +kernel
theorem dX12_macro_3 : decode cX12_macro 3 = .ok (.getfield 40, 3) := by decide +kernel
theorem dX12_macro_6 : decode cX12_macro 6 = .ok (.bipush 11, 2) := by decide +kernel
theorem dX12_macro_8 : decode cX12_macro 8 = .ok (.iaload, 1) := by decide +kernel
theorem dX12_macro_9 : decode cX12_macro 9 = .ok (.iconst 1, 1) := by decide +kernel
theorem dX12_macro_10 : decode cX12_macro 10 = .ok (.isub, 1) := by decide +kernel
theorem dX12_macro_11 : decode cX12_macro 11 = .ok (.invokestatic 169, 3) := by decide +kernel
theorem dX12_macro_14 : decode cX12_macro 14 = .ok (.ifCond .ne 5, 3) := by decide +kernel
theorem dX12_macro_17 : decode cX12_macro 17 = .ok (.iconst (-1), 1) := by decide +kernel
theorem dX12_macro_18 : decode cX12_macro 18 = .ok (.ireturn, 1) := by decide +kernel
theorem dX12_macro_19 : decode cX12_macro 19 = .ok (.aload_n 0, 1) := by decide +kernel
theorem dX12_macro_20 : decode cX12_macro 20 = .ok (.getfield 40, 3) := by decide +kernel
theorem dX12_macro_23 : decode cX12_macro 23 = .ok (.sipush 316, 3) := by decide +kernel
theorem dX12_macro_26 : decode cX12_macro 26 = .ok (.bipush 9, 2) := by decide +kernel
theorem dX12_macro_28 : decode cX12_macro 28 = .ok (.iload_n 1, 1) := by decide +kernel
theorem dX12_macro_29 : decode cX12_macro 29 = .ok (.imul, 1) := by decide +kernel
theorem dX12_macro_30 : decode cX12_macro 30 = .ok (.iadd, 1) := by decide +kernel
theorem dX12_macro_31 : decode cX12_macro 31 = .ok (.iaload, 1) := by decide +kernel
theorem dX12_macro_32 : decode cX12_macro 32 = .ok (.istore_n 3, 1) := by decide +kernel
theorem dX12_macro_33 : decode cX12_macro 33 = .ok (.iload_n 2, 1) := by decide +kernel
theorem dX12_macro_34 : decode cX12_macro 34 = .ok (.iconst (-1), 1) := by decide +kernel
theorem dX12_macro_35 : decode cX12_macro 35 = .ok (.if_icmp .ne 7, 3) := by decide +kernel
theorem dX12_macro_38 : decode cX12_macro 38 = .ok (.iload_n 3, 1) := by decide +kernel
theorem dX12_macro_39 : decode cX12_macro 39 = .ok (.goto 35, 3) := by decide +kernel
theorem dX12_macro_42 : decode cX12_macro 42 = .ok (.iload_n 2, 1) := by decide +kernel
theorem dX12_macro_43 : decode cX12_macro 43 = .ok (.iconst 0, 1) := by decide +kernel
theorem dX12_macro_44 : decode cX12_macro 44 = .ok (.iload_n 3, 1) := by decide +kernel
theorem dX12_macro_45 : decode cX12_macro 45 = .ok (.iconst 1, 1) := by decide +kernel
theorem dX12_macro_46 : decode cX12_macro 46 = .ok (.isub, 1) := by decide +kernel
theorem dX12_macro_47 : decode cX12_macro 47 = .ok (.invokestatic 169, 3) := by decide +kernel
theorem dX12_macro_50 : decode cX12_macro 50 = .ok (.ifCond .eq 23, 3) := by decide +kernel
theorem dX12_macro_53 : decode cX12_macro 53 = .ok (.aload_n 0, 1) := by decide +kernel
theorem dX12_macro_54 : decode cX12_macro 54 = .ok (.getfield 40, 3) := by decide +kernel
theorem dX12_macro_57 : decode cX12_macro 57 = .ok (.sipush 316, 3) := by decide +kernel
theorem dX12_macro_60 : decode cX12_macro 60 = .ok (.bipush 9, 2) := by decide +kernel
theorem dX12_macro_62 : decode cX12_macro 62 = .ok (.iload_n 1, 1) := by decide +kernel
theorem dX12_macro_63 : decode cX12_macro 63 = .ok (.imul, 1) := by decide +kernel
theorem dX12_macro_64 : decode cX12_macro 64 = .ok (.iadd, 1) := by decide +kernel
theorem dX12_macro_65 : decode cX12_macro 65 = .ok (.iconst 1, 1) := by decide +kernel
theorem dX12_macro_66 : decode cX12_macro 66 = .ok (.iadd, 1) := by decide +kernel
theorem dX12_macro_67 : decode cX12_macro 67 = .ok (.iload_n 2, 1) := by decide +kernel
theorem dX12_macro_68 : decode cX12_macro 68 = .ok (.iadd, 1) := by decide +kernel
theorem dX12_macro_69 : decode cX12_macro 69 = .ok (.iaload, 1) := by decide +kernel
theorem dX12_macro_70 : decode cX12_macro 70 = .ok (.goto 4, 3) := by decide +kernel
theorem dX12_macro_73 : decode cX12_macro 73 = .ok (.iconst (-1), 1) := by decide +kernel
theorem dX12_macro_74 : decode cX12_macro 74 = .ok (.ireturn, 1) := by decide +kernel
def rmX12_macro : Room := { frames := 1, cells := 0, slots := 0, locals := 22 }
set_option maxRecDepth 100000 in
def fX12_macro_J74 (N : Nat) (g : Gs) (x0 : Nat) (x1 : Int32) (x2 : Int32) (z0 : Int32) (d : Ds) : Option (Int32 × Ds) := some (z0, d)
set_option maxHeartbeats 4000000 in
set_option maxRecDepth 100000 in
theorem tX12_macro_74 {p : Program} {l : Launch} {e : Env} {s : State} {m : MethodId} {args : Array Value} {below : List Frame} {meth : Method} {c : Code} {D : va_G} {cy : Nat → ClassId} {B : Bs} (C : Cx p s m args c cX12_macro 4 RX12 D cy B) (hr : meth.sig.returnType = (some .int)) (hlocks : meth.locks = false) {N : Nat} {g : Gs} {x0 : Nat} {x1 : Int32} {x2 : Int32} {vz : Int32} {dz : Ds} {z0 : Int32} {d : Ds} (hf : fX12_macro_J74 N g x0 x1 x2 z0 d = some (vz, dz)) : WB p l e rmX12_macro s m args below meth c 4 D cy B 0 0 (MQ below (QI D cy B vz g dz) args s 0 0 (wA B)) g d [(0, .ref (ad B x0)), (1, .int x1), (2, .int x2)] 74 [.int z0] := by
  unfold fX12_macro_J74 at hf
  exact b_iret C hr hlocks hf dX12_macro_74
set_option maxRecDepth 100000 in
def fX12_macro (N : Nat) (g : Gs) (x0 : Nat) (x1 : Int32) (x2 : Int32) (d : Ds) : Option (Int32 × Ds) := gd (chk g x0 11) <| ob (gR g x0 17) fun r2 => (gd (chk g r2 102) <| gd (¬ ((11 : Int32) < 0 ∨ gL g r2 ≤ (11 : Int32).toNatClampNeg)) <| cb (fX12_in N g x1 0 ((dI d r2 (11 : Int32).toNatClampNeg) - 1) d) fun u7 d5 => (if u7 = 0 then (some ((-1), d5)) else (gd (¬ (((316 : Int32) + ((9 : Int32) * x1)) < 0 ∨ gL g r2 ≤ ((316 : Int32) + ((9 : Int32) * x1)).toNatClampNeg)) <| bd ((dI d5 r2 ((316 : Int32) + ((9 : Int32) * x1)).toNatClampNeg)) fun u10 => (if x2 = (-1 : Int32) then (fX12_macro_J74 N g x0 x1 x2 u10 d5) else (cb (fX12_in N g x2 0 (u10 - 1) d5) fun u14 d12 => (if u14 = 0 then (fX12_macro_J74 N g x0 x1 x2 (-1) d12) else (gd (¬ (((((316 : Int32) + ((9 : Int32) * x1)) + 1) + x2) < 0 ∨ gL g r2 ≤ ((((316 : Int32) + ((9 : Int32) * x1)) + 1) + x2).toNatClampNeg)) <| fX12_macro_J74 N g x0 x1 x2 (dI d12 r2 ((((316 : Int32) + ((9 : Int32) * x1)) + 1) + x2).toNatClampNeg) d12)))))))
set_option maxHeartbeats 4000000 in
set_option maxRecDepth 100000 in
theorem tX12_macro_E {p : Program} {l : Launch} {e : Env} {s : State} {m : MethodId} {args : Array Value} {below : List Frame} {meth : Method} {c : Code} {D : va_G} {cy : Nat → ClassId} {B : Bs} (C : Cx p s m args c cX12_macro 4 RX12 D cy B) (hr : meth.sig.returnType = (some .int)) (hlocks : meth.locks = false) {N : Nat} {g : Gs} {x0 : Nat} {x1 : Int32} {x2 : Int32} {vz : Int32} {dz : Ds} {d : Ds} (hf : fX12_macro N g x0 x1 x2 d = some (vz, dz)) : WB p l e rmX12_macro s m args below meth c 4 D cy B 0 0 (MQ below (QI D cy B vz g dz) args s 0 0 (wA B)) g d [(0, .ref (ad B x0)), (1, .int x1), (2, .int x2)] 0 [] := by
  unfold fX12_macro at hf
  refine b_iload_n C dX12_macro_0 1 rfl rfl ?_
  refine b_iconst C (v := 0) dX12_macro_1 (by decide) ?_
  refine b_aload_n C dX12_macro_2 0 rfl rfl ?_
  obtain ⟨h1, hf⟩ := gd_s hf
  obtain ⟨r2, er2, hf⟩ := ob_s hf
  refine b_gR C dX12_macro_3 fl_X12_40 h1 er2 ?_
  refine b_bipush C (v := 11) dX12_macro_6 (by decide) ?_
  obtain ⟨h3, hf⟩ := gd_s hf
  obtain ⟨h4, hf⟩ := gd_s hf
  refine b_iald C h3 h4 dX12_macro_8 ?_
  refine b_iconst C (v := 1) dX12_macro_9 (by decide) ?_
  refine b_isub C dX12_macro_10 ?_
  obtain ⟨u7, d5, k6, hf⟩ := cb_s hf
  refine b_cSI C [] dX12_macro_11 (kX12_in l D cy B k6) lv_X12_169 ⟨rfl, rfl, Nat.le_of_ble_eq_true rfl, Nat.le_of_ble_eq_true rfl⟩ rfl (Nat.le_of_ble_eq_true rfl) ⟨Nat.zero_le _, Nat.zero_le _⟩ rfl ?_
  refine b_if_ne C (tgt := 19) dX12_macro_14 (by decide) (fun c8 => ?_) (fun c8 => ?_)
  · have hf := if_s c8 hf
    refine b_aload_n C dX12_macro_19 0 rfl rfl ?_
    refine b_gR C dX12_macro_20 fl_X12_40 h1 er2 ?_
    refine b_sipush C (v := 316) dX12_macro_23 (by decide) ?_
    refine b_bipush C (v := 9) dX12_macro_26 (by decide) ?_
    refine b_iload_n C dX12_macro_28 1 rfl rfl ?_
    refine b_imul C dX12_macro_29 ?_
    refine b_iadd C dX12_macro_30 ?_
    obtain ⟨h9, hf⟩ := gd_s hf
    refine b_iald C h3 h9 dX12_macro_31 ?_
    obtain ⟨u10, eu10, hf⟩ := bd_s hf
    refine b_topI eu10 ?_
    refine b_istore_n C dX12_macro_32 rfl [(3, .int u10), (0, .ref (ad B x0)), (1, .int x1), (2, .int x2)] (by decide) rfl ?_
    refine b_iload_n C dX12_macro_33 3 rfl rfl ?_
    refine b_iconst C (v := (-1)) dX12_macro_34 (by decide) ?_
    refine b_icmp_ne C (tgt := 42) dX12_macro_35 (by decide) (fun c11 => ?_) (fun c11 => ?_)
    · have hf := if_s c11 hf
      refine b_iload_n C dX12_macro_42 3 rfl rfl ?_
      refine b_iconst C (v := 0) dX12_macro_43 (by decide) ?_
      refine b_iload_n C dX12_macro_44 0 rfl rfl ?_
      refine b_iconst C (v := 1) dX12_macro_45 (by decide) ?_
      refine b_isub C dX12_macro_46 ?_
      obtain ⟨u14, d12, k13, hf⟩ := cb_s hf
      refine b_cSI C [] dX12_macro_47 (kX12_in l D cy B k13) lv_X12_169 ⟨rfl, rfl, Nat.le_of_ble_eq_true rfl, Nat.le_of_ble_eq_true rfl⟩ rfl (Nat.le_of_ble_eq_true rfl) ⟨Nat.zero_le _, Nat.zero_le _⟩ rfl ?_
      refine b_if_eq C (tgt := 73) dX12_macro_50 (by decide) (fun c15 => ?_) (fun c15 => ?_)
      · have hf := it_s c15 hf
        refine b_iconst C (v := (-1)) dX12_macro_73 (by decide) ?_
        refine b_sub [(0, .ref (ad B x0)), (1, .int x1), (2, .int x2)] [1, 2, 3] rfl ?_
        exact tX12_macro_74 C hr hlocks hf
      · have hf := if_s c15 hf
        refine b_aload_n C dX12_macro_53 1 rfl rfl ?_
        refine b_gR C dX12_macro_54 fl_X12_40 h1 er2 ?_
        refine b_sipush C (v := 316) dX12_macro_57 (by decide) ?_
        refine b_bipush C (v := 9) dX12_macro_60 (by decide) ?_
        refine b_iload_n C dX12_macro_62 2 rfl rfl ?_
        refine b_imul C dX12_macro_63 ?_
        refine b_iadd C dX12_macro_64 ?_
        refine b_iconst C (v := 1) dX12_macro_65 (by decide) ?_
        refine b_iadd C dX12_macro_66 ?_
        refine b_iload_n C dX12_macro_67 3 rfl rfl ?_
        refine b_iadd C dX12_macro_68 ?_
        obtain ⟨h16, hf⟩ := gd_s hf
        refine b_iald C h3 h16 dX12_macro_69 ?_
        refine b_goto C (tgt := 74) dX12_macro_70 (by decide) ?_
        refine b_sub [(0, .ref (ad B x0)), (1, .int x1), (2, .int x2)] [1, 2, 3] rfl ?_
        exact tX12_macro_74 C hr hlocks hf
    · have hf := it_s c11 hf
      refine b_iload_n C dX12_macro_38 0 rfl rfl ?_
      refine b_goto C (tgt := 74) dX12_macro_39 (by decide) ?_
      refine b_sub [(0, .ref (ad B x0)), (1, .int x1), (2, .int x2)] [1, 2, 3] rfl ?_
      exact tX12_macro_74 C hr hlocks hf
  · have hf := it_s c8 hf
    refine b_iconst C (v := (-1)) dX12_macro_17 (by decide) ?_
    exact b_iret C hr hlocks hf dX12_macro_18
theorem kX12_macro (l : Launch) (D : va_G) (cy : Nat → ClassId) (B : Bs) {N : Nat} {g : Gs} {x0 : Nat} {x1 : Int32} {x2 : Int32} {vz : Int32} {dz : Ds} {d : Ds} (hf : fX12_macro N g x0 x1 x2 d = some (vz, dz)) : Met l yX12_macro (.code yX12_macro cX12_macro 4 (some .int) :: wl) rmX12_macro (PC D cy B [.ref (ad B x0), .int x1, .int x2] g d) (QI D cy B vz g dz) 0 0 (wA B) :=
  met_of (by decide +kernel) (Nat.le_of_ble_eq_true rfl) (fun p e s m args below meth c C hr hlocks _ => b_sub [(0, .ref (ad B x0)), (1, .int x1), (2, .int x2)] [0, 1, 2] rfl (tX12_macro_E C hr hlocks hf))
/-! KeyMatrixModel.ahead(II)I -/
theorem fl_X12_62 : FLR RX12 62 11 29 := ⟨⟨RX12, TX12, 33, rfl, by decide, inl11, Or.inl (mW (mT5 (List.mem_of_getElem? (i := 120) (by decide +kernel))) rfl)⟩, by decide, by decide +kernel⟩
theorem fl_X12_59 : FLR RX12 59 11 28 := ⟨⟨RX12, TX12, 33, rfl, by decide, inl11, Or.inl (mW (mT5 (List.mem_of_getElem? (i := 119) (by decide +kernel))) rfl)⟩, by decide, by decide +kernel⟩
theorem dX12_ahead_0 : decode cX12_ahead 0 = .ok (.iload_n 1, 1) := by decide +kernel
theorem dX12_ahead_1 : decode cX12_ahead 1 = .ok (.iconst 1, 1) := by decide +kernel
theorem dX12_ahead_2 : decode cX12_ahead 2 = .ok (.bipush 120, 2) := by decide +kernel
theorem dX12_ahead_4 : decode cX12_ahead 4 = .ok (.invokestatic 169, 3) := by decide +kernel
theorem dX12_ahead_7 : decode cX12_ahead 7 = .ok (.ifCond .eq 19, 3) := by decide +kernel
theorem dX12_ahead_10 : decode cX12_ahead 10 = .ok (.iload_n 2, 1) := by decide +kernel
theorem dX12_ahead_11 : decode cX12_ahead 11 = .ok (.iconst 0, 1) := by decide +kernel
theorem dX12_ahead_12 : decode cX12_ahead 12 = .ok (.iconst 4, 1) := by decide +kernel
theorem dX12_ahead_13 : decode cX12_ahead 13 = .ok (.invokestatic 169, 3) := by decide +kernel
theorem dX12_ahead_16 : decode cX12_ahead 16 = .ok (.ifCond .eq 10, 3) := by decide +kernel
theorem dX12_ahead_19 : decode cX12_ahead 19 = .ok (.aload_n 0, 1) := by decide +kernel
theorem dX12_ahead_20 : decode cX12_ahead 20 = .ok (.invokevirtual 206, 3) := by decide +kernel
theorem dX12_ahead_23 : decode cX12_ahead 23 = .ok (.ifCond .ne 5, 3) := by decide +kernel
theorem dX12_ahead_26 : decode cX12_ahead 26 = .ok (.iconst (-1), 1) := by decide +kernel
theorem dX12_ahead_27 : decode cX12_ahead 27 = .ok (.ireturn, 1) := by decide +kernel
theorem dX12_ahead_28 : decode cX12_ahead 28 = .ok (.iconst 0, 1) := by decide +kernel
theorem dX12_ahead_29 : decode cX12_ahead 29 = .ok (.istore_n 3, 1) := by decide +kernel
theorem dX12_ahead_30 : decode cX12_ahead 30 = .ok (.iload_n 3, 1) := by decide +kernel
theorem dX12_ahead_31 : decode cX12_ahead 31 = .ok (.sipush 9178, 3) := by decide +kernel
theorem dX12_ahead_34 : decode cX12_ahead 34 = .ok (.if_icmp .ge 21, 3) := by decide +kernel
theorem dX12_ahead_37 : decode cX12_ahead 37 = .ok (.aload_n 0, 1) := by decide +kernel
theorem dX12_ahead_38 : decode cX12_ahead 38 = .ok (.getfield 59, 3) := by decide +kernel
theorem dX12_ahead_41 : decode cX12_ahead 41 = .ok (.iload_n 3, 1) := by decide +kernel
theorem dX12_ahead_42 : decode cX12_ahead 42 = .ok (.aload_n 0, 1) := by decide +kernel
theorem dX12_ahead_43 : decode cX12_ahead 43 = .ok (.getfield 40, 3) := by decide +kernel
theorem dX12_ahead_46 : decode cX12_ahead 46 = .ok (.iload_n 3, 1) := by decide +kernel
theorem dX12_ahead_47 : decode cX12_ahead 47 = .ok (.iaload, 1) := by decide +kernel
theorem dX12_ahead_48 : decode cX12_ahead 48 = .ok (.iastore, 1) := by decide +kernel
theorem dX12_ahead_49 : decode cX12_ahead 49 = .ok (.iinc 3 1, 3) := by decide +kernel
theorem dX12_ahead_52 : decode cX12_ahead 52 = .ok (.goto (-22), 3) := by decide +kernel
theorem dX12_ahead_55 : decode cX12_ahead 55 = .ok (.iconst 0, 1) := by decide +kernel
theorem dX12_ahead_56 : decode cX12_ahead 56 = .ok (.istore_n 3, 1) := by decide +kernel
theorem dX12_ahead_57 : decode cX12_ahead 57 = .ok (.iload_n 3, 1) := by decide +kernel
theorem dX12_ahead_58 : decode cX12_ahead 58 = .ok (.bipush 24, 2) := by decide +kernel
theorem dX12_ahead_60 : decode cX12_ahead 60 = .ok (.if_icmp .ge 21, 3) := by decide +kernel
theorem dX12_ahead_63 : decode cX12_ahead 63 = .ok (.aload_n 0, 1) := by decide +kernel
theorem dX12_ahead_64 : decode cX12_ahead 64 = .ok (.getfield 62, 3) := by decide +kernel
theorem dX12_ahead_67 : decode cX12_ahead 67 = .ok (.iload_n 3, 1) := by decide +kernel
theorem dX12_ahead_68 : decode cX12_ahead 68 = .ok (.aload_n 0, 1) := by decide +kernel
theorem dX12_ahead_69 : decode cX12_ahead 69 = .ok (.getfield 46, 3) := by decide +kernel
theorem dX12_ahead_72 : decode cX12_ahead 72 = .ok (.iload_n 3, 1) := by decide +kernel
theorem dX12_ahead_73 : decode cX12_ahead 73 = .ok (.faload, 1) := by decide +kernel
theorem dX12_ahead_74 : decode cX12_ahead 74 = .ok (.fastore, 1) := by decide +kernel
theorem dX12_ahead_75 : decode cX12_ahead 75 = .ok (.iinc 3 1, 3) := by decide +kernel
theorem dX12_ahead_78 : decode cX12_ahead 78 = .ok (.goto (-21), 3) := by decide +kernel
theorem dX12_ahead_81 : decode cX12_ahead 81 = .ok (.iconst 0, 1) := by decide +kernel
theorem dX12_ahead_82 : decode cX12_ahead 82 = .ok (.istore_n 3, 1) := by decide +kernel
theorem dX12_ahead_83 : decode cX12_ahead 83 = .ok (.iload_n 3, 1) := by decide +kernel
theorem dX12_ahead_84 : decode cX12_ahead 84 = .ok (.iload_n 1, 1) := by decide +kernel
theorem dX12_ahead_85 : decode cX12_ahead 85 = .ok (.if_icmp .ge 13, 3) := by decide +kernel
theorem dX12_ahead_88 : decode cX12_ahead 88 = .ok (.aload_n 0, 1) := by decide +kernel
theorem dX12_ahead_89 : decode cX12_ahead 89 = .ok (.invokevirtual 326, 3) := by decide +kernel
theorem dX12_ahead_92 : decode cX12_ahead 92 = .ok (.iinc 3 1, 3) := by decide +kernel
theorem dX12_ahead_95 : decode cX12_ahead 95 = .ok (.goto (-12), 3) := by decide +kernel
theorem dX12_ahead_98 : decode cX12_ahead 98 = .ok (.aload_n 0, 1) := by decide +kernel
theorem dX12_ahead_99 : decode cX12_ahead 99 = .ok (.invokevirtual 314, 3) := by decide +kernel
theorem dX12_ahead_102 : decode cX12_ahead 102 = .ok (.iload_n 2, 1) := by decide +kernel
theorem dX12_ahead_103 : decode cX12_ahead 103 = .ok (.ifCond .ne 23, 3) := by decide +kernel
theorem dX12_ahead_106 : decode cX12_ahead 106 = .ok (.aload_n 0, 1) := by decide +kernel
theorem dX12_ahead_107 : decode cX12_ahead 107 = .ok (.getfield 40, 3) := by decide +kernel
theorem dX12_ahead_110 : decode cX12_ahead 110 = .ok (.sipush 555, 3) := by decide +kernel
theorem dX12_ahead_113 : decode cX12_ahead 113 = .ok (.iaload, 1) := by decide +kernel
theorem dX12_ahead_114 : decode cX12_ahead 114 = .ok (.aload_n 0, 1) := by decide +kernel
theorem dX12_ahead_115 : decode cX12_ahead 115 = .ok (.getfield 59, 3) := by decide +kernel
theorem dX12_ahead_118 : decode cX12_ahead 118 = .ok (.sipush 555, 3) := by decide +kernel
theorem dX12_ahead_121 : decode cX12_ahead 121 = .ok (.iaload, 1) := by decide +kernel
theorem dX12_ahead_122 : decode cX12_ahead 122 = .ok (.isub, 1) := by decide +kernel
theorem dX12_ahead_123 : decode cX12_ahead 123 = .ok (.goto 47, 3) := by decide +kernel
theorem dX12_ahead_126 : decode cX12_ahead 126 = .ok (.iload_n 2, 1) := by decide +kernel
theorem dX12_ahead_127 : decode cX12_ahead 127 = .ok (.iconst 1, 1) := by decide +kernel
theorem dX12_ahead_128 : decode cX12_ahead 128 = .ok (.if_icmp .ne 10, 3) := by decide +kernel
theorem dX12_ahead_131 : decode cX12_ahead 131 = .ok (.aload_n 0, 1) := by decide +kernel
theorem dX12_ahead_132 : decode cX12_ahead 132 = .ok (.getfield 302, 3) := by decide +kernel
theorem dX12_ahead_135 : decode cX12_ahead 135 = .ok (.goto 35, 3) := by decide +kernel
theorem dX12_ahead_138 : decode cX12_ahead 138 = .ok (.iload_n 2, 1) := by decide +kernel
theorem dX12_ahead_139 : decode cX12_ahead 139 = .ok (.iconst 2, 1) := by decide +kernel
theorem dX12_ahead_140 : decode cX12_ahead 140 = .ok (.if_icmp .ne 10, 3) := by decide +kernel
theorem dX12_ahead_143 : decode cX12_ahead 143 = .ok (.aload_n 0, 1) := by decide +kernel
theorem dX12_ahead_144 : decode cX12_ahead 144 = .ok (.getfield 299, 3) := by decide +kernel
theorem dX12_ahead_147 : decode cX12_ahead 147 = .ok (.goto 23, 3) := by decide +kernel
theorem dX12_ahead_150 : decode cX12_ahead 150 = .ok (.iload_n 2, 1) := by decide +kernel
theorem dX12_ahead_151 : decode cX12_ahead 151 = .ok (.iconst 3, 1) := by decide +kernel
theorem dX12_ahead_152 : decode cX12_ahead 152 = .ok (.if_icmp .ne 10, 3) := by decide +kernel
theorem dX12_ahead_155 : decode cX12_ahead 155 = .ok (.aload_n 0, 1) := by decide +kernel
theorem dX12_ahead_156 : decode cX12_ahead 156 = .ok (.invokevirtual 296, 3) := by decide +kernel
theorem dX12_ahead_159 : decode cX12_ahead 159 = .ok (.goto 11, 3) := by decide +kernel
theorem dX12_ahead_162 : decode cX12_ahead 162 = .ok (.aload_n 0, 1) := by decide +kernel
theorem dX12_ahead_163 : decode cX12_ahead 163 = .ok (.getfield 40, 3) := by decide +kernel
theorem dX12_ahead_166 : decode cX12_ahead 166 = .ok (.sipush 557, 3) := by decide +kernel
theorem dX12_ahead_169 : decode cX12_ahead 169 = .ok (.iaload, 1) := by decide +kernel
theorem dX12_ahead_170 : decode cX12_ahead 170 = .ok (.istore_n 3, 1) := by decide +kernel
theorem dX12_ahead_171 : decode cX12_ahead 171 = .ok (.iconst 0, 1) := by decide +kernel
theorem dX12_ahead_172 : decode cX12_ahead 172 = .ok (.istore 4, 2) := by decide +kernel
theorem dX12_ahead_174 : decode cX12_ahead 174 = .ok (.iload 4, 2) := by decide +kernel
theorem dX12_ahead_176 : decode cX12_ahead 176 = .ok (.sipush 9178, 3) := by decide +kernel
theorem dX12_ahead_179 : decode cX12_ahead 179 = .ok (.if_icmp .ge 23, 3) := by decide +kernel
theorem dX12_ahead_182 : decode cX12_ahead 182 = .ok (.aload_n 0, 1) := by decide +kernel
theorem dX12_ahead_183 : decode cX12_ahead 183 = .ok (.getfield 40, 3) := by decide +kernel
theorem dX12_ahead_186 : decode cX12_ahead 186 = .ok (.iload 4, 2) := by decide +kernel
theorem dX12_ahead_188 : decode cX12_ahead 188 = .ok (.aload_n 0, 1) := by decide +kernel
theorem dX12_ahead_189 : decode cX12_ahead 189 = .ok (.getfield 59, 3) := by decide +kernel
theorem dX12_ahead_192 : decode cX12_ahead 192 = .ok (.iload 4, 2) := by decide +kernel
theorem dX12_ahead_194 : decode cX12_ahead 194 = .ok (.iaload, 1) := by decide +kernel
theorem dX12_ahead_195 : decode cX12_ahead 195 = .ok (.iastore, 1) := by decide +kernel
theorem dX12_ahead_196 : decode cX12_ahead 196 = .ok (.iinc 4 1, 3) := by decide +kernel
theorem dX12_ahead_199 : decode cX12_ahead 199 = .ok (.goto (-25), 3) := by decide +kernel
theorem dX12_ahead_202 : decode cX12_ahead 202 = .ok (.iconst 0, 1) := by decide +kernel
theorem dX12_ahead_203 : decode cX12_ahead 203 = .ok (.istore 4, 2) := by decide +kernel
theorem dX12_ahead_205 : decode cX12_ahead 205 = .ok (.iload 4, 2) := by decide +kernel
theorem dX12_ahead_207 : decode cX12_ahead 207 = .ok (.bipush 24, 2) := by decide +kernel
theorem dX12_ahead_209 : decode cX12_ahead 209 = .ok (.if_icmp .ge 23, 3) := by decide +kernel
theorem dX12_ahead_212 : decode cX12_ahead 212 = .ok (.aload_n 0, 1) := by decide +kernel
theorem dX12_ahead_213 : decode cX12_ahead 213 = .ok (.getfield 46, 3) := by decide +kernel
theorem dX12_ahead_216 : decode cX12_ahead 216 = .ok (.iload 4, 2) := by decide +kernel
theorem dX12_ahead_218 : decode cX12_ahead 218 = .ok (.aload_n 0, 1) := by decide +kernel
theorem dX12_ahead_219 : decode cX12_ahead 219 = .ok (.getfield 62, 3) := by decide +kernel
theorem dX12_ahead_222 : decode cX12_ahead 222 = .ok (.iload 4, 2) := by decide +kernel
theorem dX12_ahead_224 : decode cX12_ahead 224 = .ok (.faload, 1) := by decide +kernel
theorem dX12_ahead_225 : decode cX12_ahead 225 = .ok (.fastore, 1) := by decide +kernel
theorem dX12_ahead_226 : decode cX12_ahead 226 = .ok (.iinc 4 1, 3) := by decide +kernel
theorem dX12_ahead_229 : decode cX12_ahead 229 = .ok (.goto (-24), 3) := by decide +kernel
theorem dX12_ahead_232 : decode cX12_ahead 232 = .ok (.iload_n 3, 1) := by decide +kernel
theorem dX12_ahead_233 : decode cX12_ahead 233 = .ok (.ireturn, 1) := by decide +kernel
def rmX12_ahead : Room := { frames := 8, cells := 0, slots := 0, locals := 192 }
set_option maxRecDepth 100000 in
def fX12_ahead_J26 (N : Nat) (g : Gs) (x0 : Nat) (x1 : Int32) (x2 : Int32) (d : Ds) : Option (Int32 × Ds) := some ((-1), d)
set_option maxHeartbeats 4000000 in
set_option maxRecDepth 100000 in
theorem tX12_ahead_26 {p : Program} {l : Launch} {e : Env} {s : State} {m : MethodId} {args : Array Value} {below : List Frame} {meth : Method} {c : Code} {D : va_G} {cy : Nat → ClassId} {B : Bs} (C : Cx p s m args c cX12_ahead 5 RX12 D cy B) (hr : meth.sig.returnType = (some .int)) (hlocks : meth.locks = false) {N : Nat} {g : Gs} {x0 : Nat} {x1 : Int32} {x2 : Int32} {vz : Int32} {dz : Ds} {d : Ds} (hf : fX12_ahead_J26 N g x0 x1 x2 d = some (vz, dz)) : WB p l e rmX12_ahead s m args below meth c 5 D cy B 0 0 (MQ below (QI D cy B vz g dz) args s 0 0 (wA B)) g d [(0, .ref (ad B x0)), (1, .int x1), (2, .int x2)] 26 [] := by
  unfold fX12_ahead_J26 at hf
  refine b_iconst C (v := (-1)) dX12_ahead_26 (by decide) ?_
  exact b_iret C hr hlocks hf dX12_ahead_27
set_option maxRecDepth 100000 in
def fX12_ahead_B205 (N : Nat) (g : Gs) (x0 : Nat) (x1 : Int32) (x2 : Int32) (K205 : Int32 × Int32 × Ds → Option (Int32 × Ds)) (y3 : Int32) (y4 : Int32) (d : Ds) : Option (Int32 × Ds) := if (24 : Int32) ≤ y4 then (some (y3, d)) else (gd (chk g x0 11) <| ob (gR g x0 19) fun r30 => (ob (gR g x0 29) fun r31 => (gd (chk g r31 101) <| gd (¬ (y4 < 0 ∨ gL g r31 ≤ y4.toNatClampNeg)) <| gd (chk g r30 101) <| gd (¬ (y4 < 0 ∨ gL g r30 ≤ y4.toNatClampNeg)) <| bd (sF d r30 y4.toNatClampNeg (dF d r31 y4.toNatClampNeg)) fun d36 => (bd (y4 + 1) fun u37 => (K205 (y3, u37, d36))))))
set_option maxHeartbeats 4000000 in
set_option maxRecDepth 100000 in
theorem tX12_ahead_205 {p : Program} {l : Launch} {e : Env} {s : State} {m : MethodId} {args : Array Value} {below : List Frame} {meth : Method} {c : Code} {D : va_G} {cy : Nat → ClassId} {B : Bs} (C : Cx p s m args c cX12_ahead 5 RX12 D cy B) (hr : meth.sig.returnType = (some .int)) (hlocks : meth.locks = false) {N : Nat} {g : Gs} {x0 : Nat} {x1 : Int32} {x2 : Int32} {vz : Int32} {dz : Ds} {K205 : Int32 × Int32 × Ds → Option (Int32 × Ds)} (hK205 : ∀ a, K205 a = some (vz, dz) → WB p l e rmX12_ahead s m args below meth c 5 D cy B 0 0 (MQ below (QI D cy B vz g dz) args s 0 0 (wA B)) g a.2.2 [(0, .ref (ad B x0)), (1, .int x1), (2, .int x2), (3, .int a.1), (4, .int a.2.1)] 205 []) {y3 : Int32} {y4 : Int32} {d : Ds} (hf : fX12_ahead_B205 N g x0 x1 x2 K205 y3 y4 d = some (vz, dz)) : WB p l e rmX12_ahead s m args below meth c 5 D cy B 0 0 (MQ below (QI D cy B vz g dz) args s 0 0 (wA B)) g d [(0, .ref (ad B x0)), (1, .int x1), (2, .int x2), (3, .int y3), (4, .int y4)] 205 [] := by
  unfold fX12_ahead_B205 at hf
  refine b_iload C dX12_ahead_205 4 rfl ?_
  refine b_bipush C (v := 24) dX12_ahead_207 (by decide) ?_
  refine b_icmp_ge C (tgt := 232) dX12_ahead_209 (by decide) (fun c28 => ?_) (fun c28 => ?_)
  · have hf := it_s c28 hf
    refine b_iload_n C dX12_ahead_232 3 rfl rfl ?_
    exact b_iret C hr hlocks hf dX12_ahead_233
  · have hf := if_s c28 hf
    refine b_aload_n C dX12_ahead_212 0 rfl rfl ?_
    obtain ⟨h29, hf⟩ := gd_s hf
    obtain ⟨r30, er30, hf⟩ := ob_s hf
    refine b_gR C dX12_ahead_213 fl_X12_46 h29 er30 ?_
    refine b_iload C dX12_ahead_216 4 rfl ?_
    refine b_aload_n C dX12_ahead_218 0 rfl rfl ?_
    obtain ⟨r31, er31, hf⟩ := ob_s hf
    refine b_gR C dX12_ahead_219 fl_X12_62 h29 er31 ?_
    refine b_iload C dX12_ahead_222 4 rfl ?_
    obtain ⟨h32, hf⟩ := gd_s hf
    obtain ⟨h33, hf⟩ := gd_s hf
    refine b_fald C h32 h33 dX12_ahead_224 ?_
    obtain ⟨h34, hf⟩ := gd_s hf
    obtain ⟨h35, hf⟩ := gd_s hf
    obtain ⟨d36, ed36, hf⟩ := bd_s hf
    refine b_fast C h34 h35 ed36 dX12_ahead_225 ?_
    obtain ⟨u37, eu37, hf⟩ := bd_s hf
    refine b_iinc C dX12_ahead_226 4 rfl (by rw [eu37]; rfl) [(4, .int u37), (0, .ref (ad B x0)), (1, .int x1), (2, .int x2), (3, .int y3)] (by decide) rfl ?_
    refine b_goto C (tgt := 205) dX12_ahead_229 (by decide) ?_
    refine b_sub [(0, .ref (ad B x0)), (1, .int x1), (2, .int x2), (3, .int y3), (4, .int u37)] [1, 2, 3, 4, 0] rfl ?_
    exact hK205 (y3, u37, d36) hf
def fX12_ahead_L205 (N : Nat) (g : Gs) (x0 : Nat) (x1 : Int32) (x2 : Int32) : Int32 × Int32 × Ds → Option (Int32 × Ds) := lp (fun K205 a => fX12_ahead_B205 N g x0 x1 x2 K205 a.1 a.2.1 a.2.2) N
theorem tX12_ahead_L205 {p : Program} {l : Launch} {e : Env} {s : State} {m : MethodId} {args : Array Value} {below : List Frame} {meth : Method} {c : Code} {D : va_G} {cy : Nat → ClassId} {B : Bs} (C : Cx p s m args c cX12_ahead 5 RX12 D cy B) (hr : meth.sig.returnType = (some .int)) (hlocks : meth.locks = false) {N : Nat} {g : Gs} {x0 : Nat} {x1 : Int32} {x2 : Int32} {vz : Int32} {dz : Ds} (a : Int32 × Int32 × Ds) (hf : fX12_ahead_L205 N g x0 x1 x2 a = some (vz, dz)) : WB p l e rmX12_ahead s m args below meth c 5 D cy B 0 0 (MQ below (QI D cy B vz g dz) args s 0 0 (wA B)) g a.2.2 [(0, .ref (ad B x0)), (1, .int x1), (2, .int x2), (3, .int a.1), (4, .int a.2.1)] 205 [] :=
  lp_w (fun K205 hK205 a ha => tX12_ahead_205 C hr hlocks hK205 ha) N a hf
set_option maxRecDepth 100000 in
def fX12_ahead_B174 (N : Nat) (g : Gs) (x0 : Nat) (x1 : Int32) (x2 : Int32) (K174 : Int32 × Int32 × Ds → Option (Int32 × Ds)) (y3 : Int32) (y4 : Int32) (d : Ds) : Option (Int32 × Ds) := if (9178 : Int32) ≤ y4 then (fX12_ahead_L205 N g x0 x1 x2 (y3, 0, d)) else (gd (chk g x0 11) <| ob (gR g x0 17) fun r39 => (ob (gR g x0 28) fun r40 => (gd (chk g r40 102) <| gd (¬ (y4 < 0 ∨ gL g r40 ≤ y4.toNatClampNeg)) <| gd (chk g r39 102) <| gd (¬ (y4 < 0 ∨ gL g r39 ≤ y4.toNatClampNeg)) <| bd (sI d r39 y4.toNatClampNeg (dI d r40 y4.toNatClampNeg)) fun d45 => (bd (y4 + 1) fun u46 => (K174 (y3, u46, d45))))))
set_option maxHeartbeats 4000000 in
set_option maxRecDepth 100000 in
theorem tX12_ahead_174 {p : Program} {l : Launch} {e : Env} {s : State} {m : MethodId} {args : Array Value} {below : List Frame} {meth : Method} {c : Code} {D : va_G} {cy : Nat → ClassId} {B : Bs} (C : Cx p s m args c cX12_ahead 5 RX12 D cy B) (hr : meth.sig.returnType = (some .int)) (hlocks : meth.locks = false) {N : Nat} {g : Gs} {x0 : Nat} {x1 : Int32} {x2 : Int32} {vz : Int32} {dz : Ds} {K174 : Int32 × Int32 × Ds → Option (Int32 × Ds)} (hK174 : ∀ a, K174 a = some (vz, dz) → WB p l e rmX12_ahead s m args below meth c 5 D cy B 0 0 (MQ below (QI D cy B vz g dz) args s 0 0 (wA B)) g a.2.2 [(0, .ref (ad B x0)), (1, .int x1), (2, .int x2), (3, .int a.1), (4, .int a.2.1)] 174 []) {y3 : Int32} {y4 : Int32} {d : Ds} (hf : fX12_ahead_B174 N g x0 x1 x2 K174 y3 y4 d = some (vz, dz)) : WB p l e rmX12_ahead s m args below meth c 5 D cy B 0 0 (MQ below (QI D cy B vz g dz) args s 0 0 (wA B)) g d [(0, .ref (ad B x0)), (1, .int x1), (2, .int x2), (3, .int y3), (4, .int y4)] 174 [] := by
  unfold fX12_ahead_B174 at hf
  refine b_iload C dX12_ahead_174 4 rfl ?_
  refine b_sipush C (v := 9178) dX12_ahead_176 (by decide) ?_
  refine b_icmp_ge C (tgt := 202) dX12_ahead_179 (by decide) (fun c27 => ?_) (fun c27 => ?_)
  · have hf := it_s c27 hf
    refine b_iconst C (v := 0) dX12_ahead_202 (by decide) ?_
    refine b_istore C dX12_ahead_203 [(4, .int 0), (0, .ref (ad B x0)), (1, .int x1), (2, .int x2), (3, .int y3)] (by decide) rfl ?_
    refine b_sub [(0, .ref (ad B x0)), (1, .int x1), (2, .int x2), (3, .int y3), (4, .int 0)] [1, 2, 3, 4, 0] rfl ?_
    exact tX12_ahead_L205 C hr hlocks (y3, 0, d) hf
  · have hf := if_s c27 hf
    refine b_aload_n C dX12_ahead_182 0 rfl rfl ?_
    obtain ⟨h38, hf⟩ := gd_s hf
    obtain ⟨r39, er39, hf⟩ := ob_s hf
    refine b_gR C dX12_ahead_183 fl_X12_40 h38 er39 ?_
    refine b_iload C dX12_ahead_186 4 rfl ?_
    refine b_aload_n C dX12_ahead_188 0 rfl rfl ?_
    obtain ⟨r40, er40, hf⟩ := ob_s hf
    refine b_gR C dX12_ahead_189 fl_X12_59 h38 er40 ?_
    refine b_iload C dX12_ahead_192 4 rfl ?_
    obtain ⟨h41, hf⟩ := gd_s hf
    obtain ⟨h42, hf⟩ := gd_s hf
    refine b_iald C h41 h42 dX12_ahead_194 ?_
    obtain ⟨h43, hf⟩ := gd_s hf
    obtain ⟨h44, hf⟩ := gd_s hf
    obtain ⟨d45, ed45, hf⟩ := bd_s hf
    refine b_iast C h43 h44 ed45 dX12_ahead_195 ?_
    obtain ⟨u46, eu46, hf⟩ := bd_s hf
    refine b_iinc C dX12_ahead_196 4 rfl (by rw [eu46]; rfl) [(4, .int u46), (0, .ref (ad B x0)), (1, .int x1), (2, .int x2), (3, .int y3)] (by decide) rfl ?_
    refine b_goto C (tgt := 174) dX12_ahead_199 (by decide) ?_
    refine b_sub [(0, .ref (ad B x0)), (1, .int x1), (2, .int x2), (3, .int y3), (4, .int u46)] [1, 2, 3, 4, 0] rfl ?_
    exact hK174 (y3, u46, d45) hf
def fX12_ahead_L174 (N : Nat) (g : Gs) (x0 : Nat) (x1 : Int32) (x2 : Int32) : Int32 × Int32 × Ds → Option (Int32 × Ds) := lp (fun K174 a => fX12_ahead_B174 N g x0 x1 x2 K174 a.1 a.2.1 a.2.2) N
theorem tX12_ahead_L174 {p : Program} {l : Launch} {e : Env} {s : State} {m : MethodId} {args : Array Value} {below : List Frame} {meth : Method} {c : Code} {D : va_G} {cy : Nat → ClassId} {B : Bs} (C : Cx p s m args c cX12_ahead 5 RX12 D cy B) (hr : meth.sig.returnType = (some .int)) (hlocks : meth.locks = false) {N : Nat} {g : Gs} {x0 : Nat} {x1 : Int32} {x2 : Int32} {vz : Int32} {dz : Ds} (a : Int32 × Int32 × Ds) (hf : fX12_ahead_L174 N g x0 x1 x2 a = some (vz, dz)) : WB p l e rmX12_ahead s m args below meth c 5 D cy B 0 0 (MQ below (QI D cy B vz g dz) args s 0 0 (wA B)) g a.2.2 [(0, .ref (ad B x0)), (1, .int x1), (2, .int x2), (3, .int a.1), (4, .int a.2.1)] 174 [] :=
  lp_w (fun K174 hK174 a ha => tX12_ahead_174 C hr hlocks hK174 ha) N a hf
set_option maxRecDepth 100000 in
def fX12_ahead_J170 (N : Nat) (g : Gs) (x0 : Nat) (x1 : Int32) (x2 : Int32) (z0 : Int32) (d : Ds) : Option (Int32 × Ds) := fX12_ahead_L174 N g x0 x1 x2 (z0, 0, d)
set_option maxHeartbeats 4000000 in
set_option maxRecDepth 100000 in
theorem tX12_ahead_170 {p : Program} {l : Launch} {e : Env} {s : State} {m : MethodId} {args : Array Value} {below : List Frame} {meth : Method} {c : Code} {D : va_G} {cy : Nat → ClassId} {B : Bs} (C : Cx p s m args c cX12_ahead 5 RX12 D cy B) (hr : meth.sig.returnType = (some .int)) (hlocks : meth.locks = false) {N : Nat} {g : Gs} {x0 : Nat} {x1 : Int32} {x2 : Int32} {vz : Int32} {dz : Ds} {z0 : Int32} {d : Ds} (hf : fX12_ahead_J170 N g x0 x1 x2 z0 d = some (vz, dz)) : WB p l e rmX12_ahead s m args below meth c 5 D cy B 0 0 (MQ below (QI D cy B vz g dz) args s 0 0 (wA B)) g d [(0, .ref (ad B x0)), (1, .int x1), (2, .int x2)] 170 [.int z0] := by
  unfold fX12_ahead_J170 at hf
  refine b_istore_n C dX12_ahead_170 rfl [(3, .int z0), (0, .ref (ad B x0)), (1, .int x1), (2, .int x2)] (by decide) rfl ?_
  refine b_iconst C (v := 0) dX12_ahead_171 (by decide) ?_
  refine b_istore C dX12_ahead_172 [(4, .int 0), (3, .int z0), (0, .ref (ad B x0)), (1, .int x1), (2, .int x2)] (by decide) rfl ?_
  refine b_sub [(0, .ref (ad B x0)), (1, .int x1), (2, .int x2), (3, .int z0), (4, .int 0)] [2, 3, 4, 1, 0] rfl ?_
  exact tX12_ahead_L174 C hr hlocks (z0, 0, d) hf
set_option maxRecDepth 100000 in
def fX12_ahead_B83 (N : Nat) (g : Gs) (x0 : Nat) (x1 : Int32) (x2 : Int32) (K83 : Int32 × Ds → Option (Int32 × Ds)) (y3 : Int32) (d : Ds) : Option (Int32 × Ds) := if x1 ≤ y3 then (gd (chk g x0 11) <| cv (fX12_laysSent N g x0 d) fun d18 => (if x2 = 0 then (ob (gR g x0 17) fun r50 => (gd (chk g r50 102) <| gd (¬ ((555 : Int32) < 0 ∨ gL g r50 ≤ (555 : Int32).toNatClampNeg)) <| ob (gR g x0 28) fun r53 => (gd (chk g r53 102) <| gd (¬ ((555 : Int32) < 0 ∨ gL g r53 ≤ (555 : Int32).toNatClampNeg)) <| fX12_ahead_J170 N g x0 x1 x2 ((dI d18 r50 (555 : Int32).toNatClampNeg) - (dI d18 r53 (555 : Int32).toNatClampNeg)) d18))) else (if x2 = (1 : Int32) then (fX12_ahead_J170 N g x0 x1 x2 (dI d18 x0 25) d18) else (if x2 = (2 : Int32) then (fX12_ahead_J170 N g x0 x1 x2 (dI d18 x0 26) d18) else (if x2 = (3 : Int32) then (cb (fX12_activeLayers N g x0 d18) fun u49 d47 => (fX12_ahead_J170 N g x0 x1 x2 u49 d47)) else (ob (gR g x0 17) fun r24 => (gd (chk g r24 102) <| gd (¬ ((557 : Int32) < 0 ∨ gL g r24 ≤ (557 : Int32).toNatClampNeg)) <| fX12_ahead_J170 N g x0 x1 x2 (dI d18 r24 (557 : Int32).toNatClampNeg) d18))))))) else (gd (chk g x0 11) <| cv (fX12_ticks N g x0 d) fun d57 => (bd (y3 + 1) fun u59 => (K83 (u59, d57))))
set_option maxHeartbeats 4000000 in
set_option maxRecDepth 100000 in
theorem tX12_ahead_83 {p : Program} {l : Launch} {e : Env} {s : State} {m : MethodId} {args : Array Value} {below : List Frame} {meth : Method} {c : Code} {D : va_G} {cy : Nat → ClassId} {B : Bs} (C : Cx p s m args c cX12_ahead 5 RX12 D cy B) (hr : meth.sig.returnType = (some .int)) (hlocks : meth.locks = false) {N : Nat} {g : Gs} {x0 : Nat} {x1 : Int32} {x2 : Int32} {vz : Int32} {dz : Ds} {K83 : Int32 × Ds → Option (Int32 × Ds)} (hK83 : ∀ a, K83 a = some (vz, dz) → WB p l e rmX12_ahead s m args below meth c 5 D cy B 0 0 (MQ below (QI D cy B vz g dz) args s 0 0 (wA B)) g a.2 [(0, .ref (ad B x0)), (1, .int x1), (2, .int x2), (3, .int a.1)] 83 []) {y3 : Int32} {d : Ds} (hf : fX12_ahead_B83 N g x0 x1 x2 K83 y3 d = some (vz, dz)) : WB p l e rmX12_ahead s m args below meth c 5 D cy B 0 0 (MQ below (QI D cy B vz g dz) args s 0 0 (wA B)) g d [(0, .ref (ad B x0)), (1, .int x1), (2, .int x2), (3, .int y3)] 83 [] := by
  unfold fX12_ahead_B83 at hf
  refine b_iload_n C dX12_ahead_83 3 rfl rfl ?_
  refine b_iload_n C dX12_ahead_84 1 rfl rfl ?_
  refine b_icmp_ge C (tgt := 98) dX12_ahead_85 (by decide) (fun c16 => ?_) (fun c16 => ?_)
  · have hf := it_s c16 hf
    refine b_aload_n C dX12_ahead_98 0 rfl rfl ?_
    obtain ⟨h17, hf⟩ := gd_s hf
    obtain ⟨d18, k19, hf⟩ := cv_s hf
    refine b_cVN C [] dX12_ahead_99 (kX12_laysSent l D cy B k19) lv_X12_314 ⟨rfl, rfl, Nat.le_of_ble_eq_true rfl, Nat.le_of_ble_eq_true rfl⟩ h17 (by decide) rfl (Nat.le_of_ble_eq_true rfl) ⟨Nat.zero_le _, Nat.zero_le _⟩ rfl ?_
    refine b_iload_n C dX12_ahead_102 2 rfl rfl ?_
    refine b_if_ne C (tgt := 126) dX12_ahead_103 (by decide) (fun c20 => ?_) (fun c20 => ?_)
    · have hf := if_s c20 hf
      refine b_iload_n C dX12_ahead_126 2 rfl rfl ?_
      refine b_iconst C (v := 1) dX12_ahead_127 (by decide) ?_
      refine b_icmp_ne C (tgt := 138) dX12_ahead_128 (by decide) (fun c21 => ?_) (fun c21 => ?_)
      · have hf := if_s c21 hf
        refine b_iload_n C dX12_ahead_138 2 rfl rfl ?_
        refine b_iconst C (v := 2) dX12_ahead_139 (by decide) ?_
        refine b_icmp_ne C (tgt := 150) dX12_ahead_140 (by decide) (fun c22 => ?_) (fun c22 => ?_)
        · have hf := if_s c22 hf
          refine b_iload_n C dX12_ahead_150 2 rfl rfl ?_
          refine b_iconst C (v := 3) dX12_ahead_151 (by decide) ?_
          refine b_icmp_ne C (tgt := 162) dX12_ahead_152 (by decide) (fun c23 => ?_) (fun c23 => ?_)
          · have hf := if_s c23 hf
            refine b_aload_n C dX12_ahead_162 0 rfl rfl ?_
            obtain ⟨r24, er24, hf⟩ := ob_s hf
            refine b_gR C dX12_ahead_163 fl_X12_40 h17 er24 ?_
            refine b_sipush C (v := 557) dX12_ahead_166 (by decide) ?_
            obtain ⟨h25, hf⟩ := gd_s hf
            obtain ⟨h26, hf⟩ := gd_s hf
            refine b_iald C h25 h26 dX12_ahead_169 ?_
            refine b_sub [(0, .ref (ad B x0)), (1, .int x1), (2, .int x2)] [0, 1, 2] rfl ?_
            exact tX12_ahead_170 C hr hlocks hf
          · have hf := it_s c23 hf
            refine b_aload_n C dX12_ahead_155 0 rfl rfl ?_
            obtain ⟨u49, d47, k48, hf⟩ := cb_s hf
            refine b_cVI C [] dX12_ahead_156 (kX12_activeLayers l D cy B k48) lv_X12_296 ⟨rfl, rfl, Nat.le_of_ble_eq_true rfl, Nat.le_of_ble_eq_true rfl⟩ h17 (by decide) rfl (Nat.le_of_ble_eq_true rfl) ⟨Nat.zero_le _, Nat.zero_le _⟩ rfl ?_
            refine b_goto C (tgt := 170) dX12_ahead_159 (by decide) ?_
            refine b_sub [(0, .ref (ad B x0)), (1, .int x1), (2, .int x2)] [0, 1, 2] rfl ?_
            exact tX12_ahead_170 C hr hlocks hf
        · have hf := it_s c22 hf
          refine b_aload_n C dX12_ahead_143 0 rfl rfl ?_
          refine b_gI C dX12_ahead_144 fl_X12_299 h17 ?_
          refine b_goto C (tgt := 170) dX12_ahead_147 (by decide) ?_
          refine b_sub [(0, .ref (ad B x0)), (1, .int x1), (2, .int x2)] [0, 1, 2] rfl ?_
          exact tX12_ahead_170 C hr hlocks hf
      · have hf := it_s c21 hf
        refine b_aload_n C dX12_ahead_131 0 rfl rfl ?_
        refine b_gI C dX12_ahead_132 fl_X12_302 h17 ?_
        refine b_goto C (tgt := 170) dX12_ahead_135 (by decide) ?_
        refine b_sub [(0, .ref (ad B x0)), (1, .int x1), (2, .int x2)] [0, 1, 2] rfl ?_
        exact tX12_ahead_170 C hr hlocks hf
    · have hf := it_s c20 hf
      refine b_aload_n C dX12_ahead_106 0 rfl rfl ?_
      obtain ⟨r50, er50, hf⟩ := ob_s hf
      refine b_gR C dX12_ahead_107 fl_X12_40 h17 er50 ?_
      refine b_sipush C (v := 555) dX12_ahead_110 (by decide) ?_
      obtain ⟨h51, hf⟩ := gd_s hf
      obtain ⟨h52, hf⟩ := gd_s hf
      refine b_iald C h51 h52 dX12_ahead_113 ?_
      refine b_aload_n C dX12_ahead_114 0 rfl rfl ?_
      obtain ⟨r53, er53, hf⟩ := ob_s hf
      refine b_gR C dX12_ahead_115 fl_X12_59 h17 er53 ?_
      refine b_sipush C (v := 555) dX12_ahead_118 (by decide) ?_
      obtain ⟨h54, hf⟩ := gd_s hf
      obtain ⟨h55, hf⟩ := gd_s hf
      refine b_iald C h54 h55 dX12_ahead_121 ?_
      refine b_isub C dX12_ahead_122 ?_
      refine b_goto C (tgt := 170) dX12_ahead_123 (by decide) ?_
      refine b_sub [(0, .ref (ad B x0)), (1, .int x1), (2, .int x2)] [0, 1, 2] rfl ?_
      exact tX12_ahead_170 C hr hlocks hf
  · have hf := if_s c16 hf
    refine b_aload_n C dX12_ahead_88 0 rfl rfl ?_
    obtain ⟨h56, hf⟩ := gd_s hf
    obtain ⟨d57, k58, hf⟩ := cv_s hf
    refine b_cVN C [] dX12_ahead_89 (kX12_ticks l D cy B k58) lv_X12_326 ⟨rfl, rfl, Nat.le_of_ble_eq_true rfl, Nat.le_of_ble_eq_true rfl⟩ h56 (by decide) rfl (Nat.le_of_ble_eq_true rfl) ⟨Nat.zero_le _, Nat.zero_le _⟩ rfl ?_
    obtain ⟨u59, eu59, hf⟩ := bd_s hf
    refine b_iinc C dX12_ahead_92 3 rfl (by rw [eu59]; rfl) [(3, .int u59), (0, .ref (ad B x0)), (1, .int x1), (2, .int x2)] (by decide) rfl ?_
    refine b_goto C (tgt := 83) dX12_ahead_95 (by decide) ?_
    refine b_sub [(0, .ref (ad B x0)), (1, .int x1), (2, .int x2), (3, .int u59)] [1, 2, 3, 0] rfl ?_
    exact hK83 (u59, d57) hf
def fX12_ahead_L83 (N : Nat) (g : Gs) (x0 : Nat) (x1 : Int32) (x2 : Int32) : Int32 × Ds → Option (Int32 × Ds) := lp (fun K83 a => fX12_ahead_B83 N g x0 x1 x2 K83 a.1 a.2) N
theorem tX12_ahead_L83 {p : Program} {l : Launch} {e : Env} {s : State} {m : MethodId} {args : Array Value} {below : List Frame} {meth : Method} {c : Code} {D : va_G} {cy : Nat → ClassId} {B : Bs} (C : Cx p s m args c cX12_ahead 5 RX12 D cy B) (hr : meth.sig.returnType = (some .int)) (hlocks : meth.locks = false) {N : Nat} {g : Gs} {x0 : Nat} {x1 : Int32} {x2 : Int32} {vz : Int32} {dz : Ds} (a : Int32 × Ds) (hf : fX12_ahead_L83 N g x0 x1 x2 a = some (vz, dz)) : WB p l e rmX12_ahead s m args below meth c 5 D cy B 0 0 (MQ below (QI D cy B vz g dz) args s 0 0 (wA B)) g a.2 [(0, .ref (ad B x0)), (1, .int x1), (2, .int x2), (3, .int a.1)] 83 [] :=
  lp_w (fun K83 hK83 a ha => tX12_ahead_83 C hr hlocks hK83 ha) N a hf
set_option maxRecDepth 100000 in
def fX12_ahead_B57 (N : Nat) (g : Gs) (x0 : Nat) (x1 : Int32) (x2 : Int32) (K57 : Int32 × Ds → Option (Int32 × Ds)) (y3 : Int32) (d : Ds) : Option (Int32 × Ds) := if (24 : Int32) ≤ y3 then (fX12_ahead_L83 N g x0 x1 x2 (0, d)) else (gd (chk g x0 11) <| ob (gR g x0 29) fun r61 => (ob (gR g x0 19) fun r62 => (gd (chk g r62 101) <| gd (¬ (y3 < 0 ∨ gL g r62 ≤ y3.toNatClampNeg)) <| gd (chk g r61 101) <| gd (¬ (y3 < 0 ∨ gL g r61 ≤ y3.toNatClampNeg)) <| bd (sF d r61 y3.toNatClampNeg (dF d r62 y3.toNatClampNeg)) fun d67 => (bd (y3 + 1) fun u68 => (K57 (u68, d67))))))
set_option maxHeartbeats 4000000 in
set_option maxRecDepth 100000 in
theorem tX12_ahead_57 {p : Program} {l : Launch} {e : Env} {s : State} {m : MethodId} {args : Array Value} {below : List Frame} {meth : Method} {c : Code} {D : va_G} {cy : Nat → ClassId} {B : Bs} (C : Cx p s m args c cX12_ahead 5 RX12 D cy B) (hr : meth.sig.returnType = (some .int)) (hlocks : meth.locks = false) {N : Nat} {g : Gs} {x0 : Nat} {x1 : Int32} {x2 : Int32} {vz : Int32} {dz : Ds} {K57 : Int32 × Ds → Option (Int32 × Ds)} (hK57 : ∀ a, K57 a = some (vz, dz) → WB p l e rmX12_ahead s m args below meth c 5 D cy B 0 0 (MQ below (QI D cy B vz g dz) args s 0 0 (wA B)) g a.2 [(0, .ref (ad B x0)), (1, .int x1), (2, .int x2), (3, .int a.1)] 57 []) {y3 : Int32} {d : Ds} (hf : fX12_ahead_B57 N g x0 x1 x2 K57 y3 d = some (vz, dz)) : WB p l e rmX12_ahead s m args below meth c 5 D cy B 0 0 (MQ below (QI D cy B vz g dz) args s 0 0 (wA B)) g d [(0, .ref (ad B x0)), (1, .int x1), (2, .int x2), (3, .int y3)] 57 [] := by
  unfold fX12_ahead_B57 at hf
  refine b_iload_n C dX12_ahead_57 3 rfl rfl ?_
  refine b_bipush C (v := 24) dX12_ahead_58 (by decide) ?_
  refine b_icmp_ge C (tgt := 81) dX12_ahead_60 (by decide) (fun c15 => ?_) (fun c15 => ?_)
  · have hf := it_s c15 hf
    refine b_iconst C (v := 0) dX12_ahead_81 (by decide) ?_
    refine b_istore_n C dX12_ahead_82 rfl [(3, .int 0), (0, .ref (ad B x0)), (1, .int x1), (2, .int x2)] (by decide) rfl ?_
    refine b_sub [(0, .ref (ad B x0)), (1, .int x1), (2, .int x2), (3, .int 0)] [1, 2, 3, 0] rfl ?_
    exact tX12_ahead_L83 C hr hlocks (0, d) hf
  · have hf := if_s c15 hf
    refine b_aload_n C dX12_ahead_63 0 rfl rfl ?_
    obtain ⟨h60, hf⟩ := gd_s hf
    obtain ⟨r61, er61, hf⟩ := ob_s hf
    refine b_gR C dX12_ahead_64 fl_X12_62 h60 er61 ?_
    refine b_iload_n C dX12_ahead_67 3 rfl rfl ?_
    refine b_aload_n C dX12_ahead_68 0 rfl rfl ?_
    obtain ⟨r62, er62, hf⟩ := ob_s hf
    refine b_gR C dX12_ahead_69 fl_X12_46 h60 er62 ?_
    refine b_iload_n C dX12_ahead_72 3 rfl rfl ?_
    obtain ⟨h63, hf⟩ := gd_s hf
    obtain ⟨h64, hf⟩ := gd_s hf
    refine b_fald C h63 h64 dX12_ahead_73 ?_
    obtain ⟨h65, hf⟩ := gd_s hf
    obtain ⟨h66, hf⟩ := gd_s hf
    obtain ⟨d67, ed67, hf⟩ := bd_s hf
    refine b_fast C h65 h66 ed67 dX12_ahead_74 ?_
    obtain ⟨u68, eu68, hf⟩ := bd_s hf
    refine b_iinc C dX12_ahead_75 3 rfl (by rw [eu68]; rfl) [(3, .int u68), (0, .ref (ad B x0)), (1, .int x1), (2, .int x2)] (by decide) rfl ?_
    refine b_goto C (tgt := 57) dX12_ahead_78 (by decide) ?_
    refine b_sub [(0, .ref (ad B x0)), (1, .int x1), (2, .int x2), (3, .int u68)] [1, 2, 3, 0] rfl ?_
    exact hK57 (u68, d67) hf
def fX12_ahead_L57 (N : Nat) (g : Gs) (x0 : Nat) (x1 : Int32) (x2 : Int32) : Int32 × Ds → Option (Int32 × Ds) := lp (fun K57 a => fX12_ahead_B57 N g x0 x1 x2 K57 a.1 a.2) N
theorem tX12_ahead_L57 {p : Program} {l : Launch} {e : Env} {s : State} {m : MethodId} {args : Array Value} {below : List Frame} {meth : Method} {c : Code} {D : va_G} {cy : Nat → ClassId} {B : Bs} (C : Cx p s m args c cX12_ahead 5 RX12 D cy B) (hr : meth.sig.returnType = (some .int)) (hlocks : meth.locks = false) {N : Nat} {g : Gs} {x0 : Nat} {x1 : Int32} {x2 : Int32} {vz : Int32} {dz : Ds} (a : Int32 × Ds) (hf : fX12_ahead_L57 N g x0 x1 x2 a = some (vz, dz)) : WB p l e rmX12_ahead s m args below meth c 5 D cy B 0 0 (MQ below (QI D cy B vz g dz) args s 0 0 (wA B)) g a.2 [(0, .ref (ad B x0)), (1, .int x1), (2, .int x2), (3, .int a.1)] 57 [] :=
  lp_w (fun K57 hK57 a ha => tX12_ahead_57 C hr hlocks hK57 ha) N a hf
set_option maxRecDepth 100000 in
def fX12_ahead_B30 (N : Nat) (g : Gs) (x0 : Nat) (x1 : Int32) (x2 : Int32) (K30 : Int32 × Ds → Option (Int32 × Ds)) (y3 : Int32) (d : Ds) : Option (Int32 × Ds) := if (9178 : Int32) ≤ y3 then (fX12_ahead_L57 N g x0 x1 x2 (0, d)) else (gd (chk g x0 11) <| ob (gR g x0 28) fun r70 => (ob (gR g x0 17) fun r71 => (gd (chk g r71 102) <| gd (¬ (y3 < 0 ∨ gL g r71 ≤ y3.toNatClampNeg)) <| gd (chk g r70 102) <| gd (¬ (y3 < 0 ∨ gL g r70 ≤ y3.toNatClampNeg)) <| bd (sI d r70 y3.toNatClampNeg (dI d r71 y3.toNatClampNeg)) fun d76 => (bd (y3 + 1) fun u77 => (K30 (u77, d76))))))
set_option maxHeartbeats 4000000 in
set_option maxRecDepth 100000 in
theorem tX12_ahead_30 {p : Program} {l : Launch} {e : Env} {s : State} {m : MethodId} {args : Array Value} {below : List Frame} {meth : Method} {c : Code} {D : va_G} {cy : Nat → ClassId} {B : Bs} (C : Cx p s m args c cX12_ahead 5 RX12 D cy B) (hr : meth.sig.returnType = (some .int)) (hlocks : meth.locks = false) {N : Nat} {g : Gs} {x0 : Nat} {x1 : Int32} {x2 : Int32} {vz : Int32} {dz : Ds} {K30 : Int32 × Ds → Option (Int32 × Ds)} (hK30 : ∀ a, K30 a = some (vz, dz) → WB p l e rmX12_ahead s m args below meth c 5 D cy B 0 0 (MQ below (QI D cy B vz g dz) args s 0 0 (wA B)) g a.2 [(0, .ref (ad B x0)), (1, .int x1), (2, .int x2), (3, .int a.1)] 30 []) {y3 : Int32} {d : Ds} (hf : fX12_ahead_B30 N g x0 x1 x2 K30 y3 d = some (vz, dz)) : WB p l e rmX12_ahead s m args below meth c 5 D cy B 0 0 (MQ below (QI D cy B vz g dz) args s 0 0 (wA B)) g d [(0, .ref (ad B x0)), (1, .int x1), (2, .int x2), (3, .int y3)] 30 [] := by
  unfold fX12_ahead_B30 at hf
  refine b_iload_n C dX12_ahead_30 3 rfl rfl ?_
  refine b_sipush C (v := 9178) dX12_ahead_31 (by decide) ?_
  refine b_icmp_ge C (tgt := 55) dX12_ahead_34 (by decide) (fun c14 => ?_) (fun c14 => ?_)
  · have hf := it_s c14 hf
    refine b_iconst C (v := 0) dX12_ahead_55 (by decide) ?_
    refine b_istore_n C dX12_ahead_56 rfl [(3, .int 0), (0, .ref (ad B x0)), (1, .int x1), (2, .int x2)] (by decide) rfl ?_
    refine b_sub [(0, .ref (ad B x0)), (1, .int x1), (2, .int x2), (3, .int 0)] [1, 2, 3, 0] rfl ?_
    exact tX12_ahead_L57 C hr hlocks (0, d) hf
  · have hf := if_s c14 hf
    refine b_aload_n C dX12_ahead_37 0 rfl rfl ?_
    obtain ⟨h69, hf⟩ := gd_s hf
    obtain ⟨r70, er70, hf⟩ := ob_s hf
    refine b_gR C dX12_ahead_38 fl_X12_59 h69 er70 ?_
    refine b_iload_n C dX12_ahead_41 3 rfl rfl ?_
    refine b_aload_n C dX12_ahead_42 0 rfl rfl ?_
    obtain ⟨r71, er71, hf⟩ := ob_s hf
    refine b_gR C dX12_ahead_43 fl_X12_40 h69 er71 ?_
    refine b_iload_n C dX12_ahead_46 3 rfl rfl ?_
    obtain ⟨h72, hf⟩ := gd_s hf
    obtain ⟨h73, hf⟩ := gd_s hf
    refine b_iald C h72 h73 dX12_ahead_47 ?_
    obtain ⟨h74, hf⟩ := gd_s hf
    obtain ⟨h75, hf⟩ := gd_s hf
    obtain ⟨d76, ed76, hf⟩ := bd_s hf
    refine b_iast C h74 h75 ed76 dX12_ahead_48 ?_
    obtain ⟨u77, eu77, hf⟩ := bd_s hf
    refine b_iinc C dX12_ahead_49 3 rfl (by rw [eu77]; rfl) [(3, .int u77), (0, .ref (ad B x0)), (1, .int x1), (2, .int x2)] (by decide) rfl ?_
    refine b_goto C (tgt := 30) dX12_ahead_52 (by decide) ?_
    refine b_sub [(0, .ref (ad B x0)), (1, .int x1), (2, .int x2), (3, .int u77)] [1, 2, 3, 0] rfl ?_
    exact hK30 (u77, d76) hf
def fX12_ahead_L30 (N : Nat) (g : Gs) (x0 : Nat) (x1 : Int32) (x2 : Int32) : Int32 × Ds → Option (Int32 × Ds) := lp (fun K30 a => fX12_ahead_B30 N g x0 x1 x2 K30 a.1 a.2) N
theorem tX12_ahead_L30 {p : Program} {l : Launch} {e : Env} {s : State} {m : MethodId} {args : Array Value} {below : List Frame} {meth : Method} {c : Code} {D : va_G} {cy : Nat → ClassId} {B : Bs} (C : Cx p s m args c cX12_ahead 5 RX12 D cy B) (hr : meth.sig.returnType = (some .int)) (hlocks : meth.locks = false) {N : Nat} {g : Gs} {x0 : Nat} {x1 : Int32} {x2 : Int32} {vz : Int32} {dz : Ds} (a : Int32 × Ds) (hf : fX12_ahead_L30 N g x0 x1 x2 a = some (vz, dz)) : WB p l e rmX12_ahead s m args below meth c 5 D cy B 0 0 (MQ below (QI D cy B vz g dz) args s 0 0 (wA B)) g a.2 [(0, .ref (ad B x0)), (1, .int x1), (2, .int x2), (3, .int a.1)] 30 [] :=
  lp_w (fun K30 hK30 a ha => tX12_ahead_30 C hr hlocks hK30 ha) N a hf
set_option maxRecDepth 100000 in
def fX12_ahead (N : Nat) (g : Gs) (x0 : Nat) (x1 : Int32) (x2 : Int32) (d : Ds) : Option (Int32 × Ds) := cb (fX12_in N g x1 1 120 d) fun u3 d1 => (if u3 = 0 then (fX12_ahead_J26 N g x0 x1 x2 d1) else (cb (fX12_in N g x2 0 4 d1) fun u7 d5 => (if u7 = 0 then (fX12_ahead_J26 N g x0 x1 x2 d5) else (gd (chk g x0 11) <| cb (fX12_keysMany N g x0 d5) fun u12 d10 => (if u12 = 0 then (fX12_ahead_J26 N g x0 x1 x2 d10) else (fX12_ahead_L30 N g x0 x1 x2 (0, d10)))))))
set_option maxHeartbeats 4000000 in
set_option maxRecDepth 100000 in
theorem tX12_ahead_E {p : Program} {l : Launch} {e : Env} {s : State} {m : MethodId} {args : Array Value} {below : List Frame} {meth : Method} {c : Code} {D : va_G} {cy : Nat → ClassId} {B : Bs} (C : Cx p s m args c cX12_ahead 5 RX12 D cy B) (hr : meth.sig.returnType = (some .int)) (hlocks : meth.locks = false) {N : Nat} {g : Gs} {x0 : Nat} {x1 : Int32} {x2 : Int32} {vz : Int32} {dz : Ds} {d : Ds} (hf : fX12_ahead N g x0 x1 x2 d = some (vz, dz)) : WB p l e rmX12_ahead s m args below meth c 5 D cy B 0 0 (MQ below (QI D cy B vz g dz) args s 0 0 (wA B)) g d [(0, .ref (ad B x0)), (1, .int x1), (2, .int x2)] 0 [] := by
  unfold fX12_ahead at hf
  refine b_iload_n C dX12_ahead_0 1 rfl rfl ?_
  refine b_iconst C (v := 1) dX12_ahead_1 (by decide) ?_
  refine b_bipush C (v := 120) dX12_ahead_2 (by decide) ?_
  obtain ⟨u3, d1, k2, hf⟩ := cb_s hf
  refine b_cSI C [] dX12_ahead_4 (kX12_in l D cy B k2) lv_X12_169 ⟨rfl, rfl, Nat.le_of_ble_eq_true rfl, Nat.le_of_ble_eq_true rfl⟩ rfl (Nat.le_of_ble_eq_true rfl) ⟨Nat.zero_le _, Nat.zero_le _⟩ rfl ?_
  refine b_if_eq C (tgt := 26) dX12_ahead_7 (by decide) (fun c4 => ?_) (fun c4 => ?_)
  · have hf := it_s c4 hf
    refine b_sub [(0, .ref (ad B x0)), (1, .int x1), (2, .int x2)] [0, 1, 2] rfl ?_
    exact tX12_ahead_26 C hr hlocks hf
  · have hf := if_s c4 hf
    refine b_iload_n C dX12_ahead_10 2 rfl rfl ?_
    refine b_iconst C (v := 0) dX12_ahead_11 (by decide) ?_
    refine b_iconst C (v := 4) dX12_ahead_12 (by decide) ?_
    obtain ⟨u7, d5, k6, hf⟩ := cb_s hf
    refine b_cSI C [] dX12_ahead_13 (kX12_in l D cy B k6) lv_X12_169 ⟨rfl, rfl, Nat.le_of_ble_eq_true rfl, Nat.le_of_ble_eq_true rfl⟩ rfl (Nat.le_of_ble_eq_true rfl) ⟨Nat.zero_le _, Nat.zero_le _⟩ rfl ?_
    refine b_if_eq C (tgt := 26) dX12_ahead_16 (by decide) (fun c8 => ?_) (fun c8 => ?_)
    · have hf := it_s c8 hf
      refine b_sub [(0, .ref (ad B x0)), (1, .int x1), (2, .int x2)] [0, 1, 2] rfl ?_
      exact tX12_ahead_26 C hr hlocks hf
    · have hf := if_s c8 hf
      refine b_aload_n C dX12_ahead_19 0 rfl rfl ?_
      obtain ⟨h9, hf⟩ := gd_s hf
      obtain ⟨u12, d10, k11, hf⟩ := cb_s hf
      refine b_cVI C [] dX12_ahead_20 (kX12_keysMany l D cy B k11) lv_X12_206 ⟨rfl, rfl, Nat.le_of_ble_eq_true rfl, Nat.le_of_ble_eq_true rfl⟩ h9 (by decide) rfl (Nat.le_of_ble_eq_true rfl) ⟨Nat.zero_le _, Nat.zero_le _⟩ rfl ?_
      refine b_if_ne C (tgt := 28) dX12_ahead_23 (by decide) (fun c13 => ?_) (fun c13 => ?_)
      · have hf := if_s c13 hf
        refine b_iconst C (v := 0) dX12_ahead_28 (by decide) ?_
        refine b_istore_n C dX12_ahead_29 rfl [(3, .int 0), (0, .ref (ad B x0)), (1, .int x1), (2, .int x2)] (by decide) rfl ?_
        refine b_sub [(0, .ref (ad B x0)), (1, .int x1), (2, .int x2), (3, .int 0)] [1, 2, 3, 0] rfl ?_
        exact tX12_ahead_L30 C hr hlocks (0, d10) hf
      · have hf := it_s c13 hf
        refine b_sub [(0, .ref (ad B x0)), (1, .int x1), (2, .int x2)] [0, 1, 2] rfl ?_
        exact tX12_ahead_26 C hr hlocks hf
theorem kX12_ahead (l : Launch) (D : va_G) (cy : Nat → ClassId) (B : Bs) {N : Nat} {g : Gs} {x0 : Nat} {x1 : Int32} {x2 : Int32} {vz : Int32} {dz : Ds} {d : Ds} (hf : fX12_ahead N g x0 x1 x2 d = some (vz, dz)) : Met l yX12_ahead (.code yX12_ahead cX12_ahead 5 (some .int) :: wl) rmX12_ahead (PC D cy B [.ref (ad B x0), .int x1, .int x2] g d) (QI D cy B vz g dz) 0 0 (wA B) :=
  met_of (by decide +kernel) (Nat.le_of_ble_eq_true rfl) (fun p e s m args below meth c C hr hlocks _ => b_sub [(0, .ref (ad B x0)), (1, .int x1), (2, .int x2)] [0, 1, 2] rfl (tX12_ahead_E C hr hlocks hf))
/-! KeyMatrixModel.hold(I)Z -/
theorem fl_X12_68 : FLR RX12 68 11 31 := ⟨⟨RX12, TX12, 33, rfl, by decide, inl11, Or.inl (mW (mT5 (List.mem_of_getElem? (i := 122) (by decide +kernel))) rfl)⟩, by decide, by decide +kernel⟩
theorem fl_X12_65 : FLR RX12 65 11 30 := ⟨⟨RX12, TX12, 33, rfl, by decide, inl11, Or.inl (mW (mT5 (List.mem_of_getElem? (i := 121) (by decide +kernel))) rfl)⟩, by decide, by decide +kernel⟩
theorem dX12_hold_0 : decode cX12_hold 0 = .ok (.iload_n 1, 1) := by decide +kernel
theorem dX12_hold_1 : decode cX12_hold 1 = .ok (.iconst 0, 1) := by decide +kernel
theorem dX12_hold_2 : decode cX12_hold 2 = .ok (.iconst 2, 1) := by decide +kernel
theorem dX12_hold_3 : decode cX12_hold 3 = .ok (.invokestatic 169, 3) := by decide +kernel
theorem dX12_hold_6 : decode cX12_hold 6 = .ok (.ifCond .ne 5, 3) := by decide +kernel
theorem dX12_hold_9 : decode cX12_hold 9 = .ok (.iconst 0, 1) := by decide +kernel
theorem dX12_hold_10 : decode cX12_hold 10 = .ok (.ireturn, 1) := by decide +kernel
theorem dX12_hold_11 : decode cX12_hold 11 = .ok (.iconst 0, 1) := by decide +kernel
theorem dX12_hold_12 : decode cX12_hold 12 = .ok (.istore_n 2, 1) := by decide +kernel
theorem dX12_hold_13 : decode cX12_hold 13 = .ok (.iload_n 2, 1) := by decide +kernel
theorem dX12_hold_14 : decode cX12_hold 14 = .ok (.sipush 9178, 3) := by decide +kernel
theorem dX12_hold_17 : decode cX12_hold 17 = .ok (.if_icmp .ge 27, 3) := by decide +kernel
theorem dX12_hold_20 : decode cX12_hold 20 = .ok (.aload_n 0, 1) := by decide +kernel
theorem dX12_hold_21 : decode cX12_hold 21 = .ok (.getfield 65, 3) := by decide +kernel
theorem dX12_hold_24 : decode cX12_hold 24 = .ok (.sipush 9178, 3) := by decide +kernel
theorem dX12_hold_27 : decode cX12_hold 27 = .ok (.iload_n 1, 1) := by decide +kernel
theorem dX12_hold_28 : decode cX12_hold 28 = .ok (.imul, 1) := by decide +kernel
theorem dX12_hold_29 : decode cX12_hold 29 = .ok (.iload_n 2, 1) := by decide +kernel
theorem dX12_hold_30 : decode cX12_hold 30 = .ok (.iadd, 1) := by decide +kernel
theorem dX12_hold_31 : decode cX12_hold 31 = .ok (.aload_n 0, 1) := by decide +kernel
theorem dX12_hold_32 : decode cX12_hold 32 = .ok (.getfield 40, 3) := by decide +kernel
theorem dX12_hold_35 : decode cX12_hold 35 = .ok (.iload_n 2, 1) := by decide +kernel
theorem dX12_hold_36 : decode cX12_hold 36 = .ok (.iaload, 1) := by decide +kernel
theorem dX12_hold_37 : decode cX12_hold 37 = .ok (.iastore, 1) := by decide +kernel
theorem dX12_hold_38 : decode cX12_hold 38 = .ok (.iinc 2 1, 3) := by decide +kernel
theorem dX12_hold_41 : decode cX12_hold 41 = .ok (.goto (-28), 3) := by decide +kernel
theorem dX12_hold_44 : decode cX12_hold 44 = .ok (.iconst 0, 1) := by decide +kernel
theorem dX12_hold_45 : decode cX12_hold 45 = .ok (.istore_n 2, 1) := by decide +kernel
theorem dX12_hold_46 : decode cX12_hold 46 = .ok (.iload_n 2, 1) := by decide +kernel
theorem dX12_hold_47 : decode cX12_hold 47 = .ok (.bipush 24, 2) := by decide +kernel
theorem dX12_hold_49 : decode cX12_hold 49 = .ok (.if_icmp .ge 26, 3) := by decide +kernel
theorem dX12_hold_52 : decode cX12_hold 52 = .ok (.aload_n 0, 1) := by decide +kernel
theorem dX12_hold_53 : decode cX12_hold 53 = .ok (.getfield 68, 3) := by decide +kernel
theorem dX12_hold_56 : decode cX12_hold 56 = .ok (.bipush 24, 2) := by decide +kernel
theorem dX12_hold_58 : decode cX12_hold 58 = .ok (.iload_n 1, 1) := by decide +kernel
theorem dX12_hold_59 : decode cX12_hold 59 = .ok (.imul, 1) := by decide +kernel
theorem dX12_hold_60 : decode cX12_hold 60 = .ok (.iload_n 2, 1) := by decide +kernel
theorem dX12_hold_61 : decode cX12_hold 61 = .ok (.iadd, 1) := by decide +kernel
theorem dX12_hold_62 : decode cX12_hold 62 = .ok (.aload_n 0, 1) := by decide +kernel
theorem dX12_hold_63 : decode cX12_hold 63 = .ok (.getfield 46, 3) := by decide +kernel
theorem dX12_hold_66 : decode cX12_hold 66 = .ok (.iload_n 2, 1) := by decide +kernel
theorem dX12_hold_67 : decode cX12_hold 67 = .ok (.faload, 1) := by decide +kernel
theorem dX12_hold_68 : decode cX12_hold 68 = .ok (.fastore, 1) := by decide +kernel
theorem dX12_hold_69 : decode cX12_hold 69 = .ok (.iinc 2 1, 3) := by decide +kernel
theorem dX12_hold_72 : decode cX12_hold 72 = .ok (.goto (-26), 3) := by decide +kernel
theorem dX12_hold_75 : decode cX12_hold 75 = .ok (.aload_n 0, 1) := by decide +kernel
theorem dX12_hold_76 : decode cX12_hold 76 = .ok (.getfield 71, 3) := by decide +kernel
theorem dX12_hold_79 : decode cX12_hold 79 = .ok (.iload_n 1, 1) := by decide +kernel
theorem dX12_hold_80 : decode cX12_hold 80 = .ok (.iconst 1, 1) := by decide +kernel
theorem dX12_hold_81 : decode cX12_hold 81 = .ok (.bastore, 1) := by decide +kernel
theorem dX12_hold_82 : decode cX12_hold 82 = .ok (.iconst 1, 1) := by decide +kernel
theorem dX12_hold_83 : decode cX12_hold 83 = .ok (.ireturn, 1) := by decide +kernel
def rmX12_hold : Room := { frames := 1, cells := 0, slots := 0, locals := 22 }
set_option maxRecDepth 100000 in
def fX12_hold_B46 (N : Nat) (g : Gs) (x0 : Nat) (x1 : Int32) (K46 : Int32 × Ds → Option (Int32 × Ds)) (y2 : Int32) (d : Ds) : Option (Int32 × Ds) := if (24 : Int32) ≤ y2 then (gd (chk g x0 11) <| ob (gR g x0 32) fun r8 => (gd (chk g r8 104) <| gd (¬ (x1 < 0 ∨ gL g r8 ≤ x1.toNatClampNeg)) <| bd (sI d r8 x1.toNatClampNeg (vp_nar .boolean 1)) fun d11 => (some (1, d11)))) else (gd (chk g x0 11) <| ob (gR g x0 31) fun r13 => (ob (gR g x0 19) fun r14 => (gd (chk g r14 101) <| gd (¬ (y2 < 0 ∨ gL g r14 ≤ y2.toNatClampNeg)) <| gd (chk g r13 101) <| gd (¬ ((((24 : Int32) * x1) + y2) < 0 ∨ gL g r13 ≤ (((24 : Int32) * x1) + y2).toNatClampNeg)) <| bd (sF d r13 (((24 : Int32) * x1) + y2).toNatClampNeg (dF d r14 y2.toNatClampNeg)) fun d19 => (bd (y2 + 1) fun u20 => (K46 (u20, d19))))))
set_option maxHeartbeats 4000000 in
set_option maxRecDepth 100000 in
theorem tX12_hold_46 {p : Program} {l : Launch} {e : Env} {s : State} {m : MethodId} {args : Array Value} {below : List Frame} {meth : Method} {c : Code} {D : va_G} {cy : Nat → ClassId} {B : Bs} (C : Cx p s m args c cX12_hold 3 RX12 D cy B) (hr : meth.sig.returnType = (some .boolean)) (hlocks : meth.locks = false) {N : Nat} {g : Gs} {x0 : Nat} {x1 : Int32} {vz : Int32} {dz : Ds} {K46 : Int32 × Ds → Option (Int32 × Ds)} (hK46 : ∀ a, K46 a = some (vz, dz) → WB p l e rmX12_hold s m args below meth c 3 D cy B 0 0 (MQ below (QI D cy B vz g dz) args s 0 0 (wA B)) g a.2 [(0, .ref (ad B x0)), (1, .int x1), (2, .int a.1)] 46 []) {y2 : Int32} {d : Ds} (hf : fX12_hold_B46 N g x0 x1 K46 y2 d = some (vz, dz)) : WB p l e rmX12_hold s m args below meth c 3 D cy B 0 0 (MQ below (QI D cy B vz g dz) args s 0 0 (wA B)) g d [(0, .ref (ad B x0)), (1, .int x1), (2, .int y2)] 46 [] := by
  unfold fX12_hold_B46 at hf
  refine b_iload_n C dX12_hold_46 2 rfl rfl ?_
  refine b_bipush C (v := 24) dX12_hold_47 (by decide) ?_
  refine b_icmp_ge C (tgt := 75) dX12_hold_49 (by decide) (fun c6 => ?_) (fun c6 => ?_)
  · have hf := it_s c6 hf
    refine b_aload_n C dX12_hold_75 0 rfl rfl ?_
    obtain ⟨h7, hf⟩ := gd_s hf
    obtain ⟨r8, er8, hf⟩ := ob_s hf
    refine b_gR C dX12_hold_76 fl_X12_71 h7 er8 ?_
    refine b_iload_n C dX12_hold_79 1 rfl rfl ?_
    refine b_iconst C (v := 1) dX12_hold_80 (by decide) ?_
    obtain ⟨h9, hf⟩ := gd_s hf
    obtain ⟨h10, hf⟩ := gd_s hf
    obtain ⟨d11, ed11, hf⟩ := bd_s hf
    refine b_zast C h9 h10 ed11 dX12_hold_81 ?_
    refine b_iconst C (v := 1) dX12_hold_82 (by decide) ?_
    exact b_zret C hr hlocks (by decide) hf dX12_hold_83
  · have hf := if_s c6 hf
    refine b_aload_n C dX12_hold_52 0 rfl rfl ?_
    obtain ⟨h12, hf⟩ := gd_s hf
    obtain ⟨r13, er13, hf⟩ := ob_s hf
    refine b_gR C dX12_hold_53 fl_X12_68 h12 er13 ?_
    refine b_bipush C (v := 24) dX12_hold_56 (by decide) ?_
    refine b_iload_n C dX12_hold_58 1 rfl rfl ?_
    refine b_imul C dX12_hold_59 ?_
    refine b_iload_n C dX12_hold_60 2 rfl rfl ?_
    refine b_iadd C dX12_hold_61 ?_
    refine b_aload_n C dX12_hold_62 0 rfl rfl ?_
    obtain ⟨r14, er14, hf⟩ := ob_s hf
    refine b_gR C dX12_hold_63 fl_X12_46 h12 er14 ?_
    refine b_iload_n C dX12_hold_66 2 rfl rfl ?_
    obtain ⟨h15, hf⟩ := gd_s hf
    obtain ⟨h16, hf⟩ := gd_s hf
    refine b_fald C h15 h16 dX12_hold_67 ?_
    obtain ⟨h17, hf⟩ := gd_s hf
    obtain ⟨h18, hf⟩ := gd_s hf
    obtain ⟨d19, ed19, hf⟩ := bd_s hf
    refine b_fast C h17 h18 ed19 dX12_hold_68 ?_
    obtain ⟨u20, eu20, hf⟩ := bd_s hf
    refine b_iinc C dX12_hold_69 2 rfl (by rw [eu20]; rfl) [(2, .int u20), (0, .ref (ad B x0)), (1, .int x1)] (by decide) rfl ?_
    refine b_goto C (tgt := 46) dX12_hold_72 (by decide) ?_
    refine b_sub [(0, .ref (ad B x0)), (1, .int x1), (2, .int u20)] [1, 2, 0] rfl ?_
    exact hK46 (u20, d19) hf
def fX12_hold_L46 (N : Nat) (g : Gs) (x0 : Nat) (x1 : Int32) : Int32 × Ds → Option (Int32 × Ds) := lp (fun K46 a => fX12_hold_B46 N g x0 x1 K46 a.1 a.2) N
theorem tX12_hold_L46 {p : Program} {l : Launch} {e : Env} {s : State} {m : MethodId} {args : Array Value} {below : List Frame} {meth : Method} {c : Code} {D : va_G} {cy : Nat → ClassId} {B : Bs} (C : Cx p s m args c cX12_hold 3 RX12 D cy B) (hr : meth.sig.returnType = (some .boolean)) (hlocks : meth.locks = false) {N : Nat} {g : Gs} {x0 : Nat} {x1 : Int32} {vz : Int32} {dz : Ds} (a : Int32 × Ds) (hf : fX12_hold_L46 N g x0 x1 a = some (vz, dz)) : WB p l e rmX12_hold s m args below meth c 3 D cy B 0 0 (MQ below (QI D cy B vz g dz) args s 0 0 (wA B)) g a.2 [(0, .ref (ad B x0)), (1, .int x1), (2, .int a.1)] 46 [] :=
  lp_w (fun K46 hK46 a ha => tX12_hold_46 C hr hlocks hK46 ha) N a hf
set_option maxRecDepth 100000 in
def fX12_hold_B13 (N : Nat) (g : Gs) (x0 : Nat) (x1 : Int32) (K13 : Int32 × Ds → Option (Int32 × Ds)) (y2 : Int32) (d : Ds) : Option (Int32 × Ds) := if (9178 : Int32) ≤ y2 then (fX12_hold_L46 N g x0 x1 (0, d)) else (gd (chk g x0 11) <| ob (gR g x0 30) fun r22 => (ob (gR g x0 17) fun r23 => (gd (chk g r23 102) <| gd (¬ (y2 < 0 ∨ gL g r23 ≤ y2.toNatClampNeg)) <| gd (chk g r22 102) <| gd (¬ ((((9178 : Int32) * x1) + y2) < 0 ∨ gL g r22 ≤ (((9178 : Int32) * x1) + y2).toNatClampNeg)) <| bd (sI d r22 (((9178 : Int32) * x1) + y2).toNatClampNeg (dI d r23 y2.toNatClampNeg)) fun d28 => (bd (y2 + 1) fun u29 => (K13 (u29, d28))))))
set_option maxHeartbeats 4000000 in
set_option maxRecDepth 100000 in
theorem tX12_hold_13 {p : Program} {l : Launch} {e : Env} {s : State} {m : MethodId} {args : Array Value} {below : List Frame} {meth : Method} {c : Code} {D : va_G} {cy : Nat → ClassId} {B : Bs} (C : Cx p s m args c cX12_hold 3 RX12 D cy B) (hr : meth.sig.returnType = (some .boolean)) (hlocks : meth.locks = false) {N : Nat} {g : Gs} {x0 : Nat} {x1 : Int32} {vz : Int32} {dz : Ds} {K13 : Int32 × Ds → Option (Int32 × Ds)} (hK13 : ∀ a, K13 a = some (vz, dz) → WB p l e rmX12_hold s m args below meth c 3 D cy B 0 0 (MQ below (QI D cy B vz g dz) args s 0 0 (wA B)) g a.2 [(0, .ref (ad B x0)), (1, .int x1), (2, .int a.1)] 13 []) {y2 : Int32} {d : Ds} (hf : fX12_hold_B13 N g x0 x1 K13 y2 d = some (vz, dz)) : WB p l e rmX12_hold s m args below meth c 3 D cy B 0 0 (MQ below (QI D cy B vz g dz) args s 0 0 (wA B)) g d [(0, .ref (ad B x0)), (1, .int x1), (2, .int y2)] 13 [] := by
  unfold fX12_hold_B13 at hf
  refine b_iload_n C dX12_hold_13 2 rfl rfl ?_
  refine b_sipush C (v := 9178) dX12_hold_14 (by decide) ?_
  refine b_icmp_ge C (tgt := 44) dX12_hold_17 (by decide) (fun c5 => ?_) (fun c5 => ?_)
  · have hf := it_s c5 hf
    refine b_iconst C (v := 0) dX12_hold_44 (by decide) ?_
    refine b_istore_n C dX12_hold_45 rfl [(2, .int 0), (0, .ref (ad B x0)), (1, .int x1)] (by decide) rfl ?_
    refine b_sub [(0, .ref (ad B x0)), (1, .int x1), (2, .int 0)] [1, 2, 0] rfl ?_
    exact tX12_hold_L46 C hr hlocks (0, d) hf
  · have hf := if_s c5 hf
    refine b_aload_n C dX12_hold_20 0 rfl rfl ?_
    obtain ⟨h21, hf⟩ := gd_s hf
    obtain ⟨r22, er22, hf⟩ := ob_s hf
    refine b_gR C dX12_hold_21 fl_X12_65 h21 er22 ?_
    refine b_sipush C (v := 9178) dX12_hold_24 (by decide) ?_
    refine b_iload_n C dX12_hold_27 1 rfl rfl ?_
    refine b_imul C dX12_hold_28 ?_
    refine b_iload_n C dX12_hold_29 2 rfl rfl ?_
    refine b_iadd C dX12_hold_30 ?_
    refine b_aload_n C dX12_hold_31 0 rfl rfl ?_
    obtain ⟨r23, er23, hf⟩ := ob_s hf
    refine b_gR C dX12_hold_32 fl_X12_40 h21 er23 ?_
    refine b_iload_n C dX12_hold_35 2 rfl rfl ?_
    obtain ⟨h24, hf⟩ := gd_s hf
    obtain ⟨h25, hf⟩ := gd_s hf
    refine b_iald C h24 h25 dX12_hold_36 ?_
    obtain ⟨h26, hf⟩ := gd_s hf
    obtain ⟨h27, hf⟩ := gd_s hf
    obtain ⟨d28, ed28, hf⟩ := bd_s hf
    refine b_iast C h26 h27 ed28 dX12_hold_37 ?_
    obtain ⟨u29, eu29, hf⟩ := bd_s hf
    refine b_iinc C dX12_hold_38 2 rfl (by rw [eu29]; rfl) [(2, .int u29), (0, .ref (ad B x0)), (1, .int x1)] (by decide) rfl ?_
    refine b_goto C (tgt := 13) dX12_hold_41 (by decide) ?_
    refine b_sub [(0, .ref (ad B x0)), (1, .int x1), (2, .int u29)] [1, 2, 0] rfl ?_
    exact hK13 (u29, d28) hf
def fX12_hold_L13 (N : Nat) (g : Gs) (x0 : Nat) (x1 : Int32) : Int32 × Ds → Option (Int32 × Ds) := lp (fun K13 a => fX12_hold_B13 N g x0 x1 K13 a.1 a.2) N
theorem tX12_hold_L13 {p : Program} {l : Launch} {e : Env} {s : State} {m : MethodId} {args : Array Value} {below : List Frame} {meth : Method} {c : Code} {D : va_G} {cy : Nat → ClassId} {B : Bs} (C : Cx p s m args c cX12_hold 3 RX12 D cy B) (hr : meth.sig.returnType = (some .boolean)) (hlocks : meth.locks = false) {N : Nat} {g : Gs} {x0 : Nat} {x1 : Int32} {vz : Int32} {dz : Ds} (a : Int32 × Ds) (hf : fX12_hold_L13 N g x0 x1 a = some (vz, dz)) : WB p l e rmX12_hold s m args below meth c 3 D cy B 0 0 (MQ below (QI D cy B vz g dz) args s 0 0 (wA B)) g a.2 [(0, .ref (ad B x0)), (1, .int x1), (2, .int a.1)] 13 [] :=
  lp_w (fun K13 hK13 a ha => tX12_hold_13 C hr hlocks hK13 ha) N a hf
set_option maxRecDepth 100000 in
def fX12_hold (N : Nat) (g : Gs) (x0 : Nat) (x1 : Int32) (d : Ds) : Option (Int32 × Ds) := cb (fX12_in N g x1 0 2 d) fun u3 d1 => (if u3 = 0 then (some (0, d1)) else (fX12_hold_L13 N g x0 x1 (0, d1)))
set_option maxHeartbeats 4000000 in
set_option maxRecDepth 100000 in
theorem tX12_hold_E {p : Program} {l : Launch} {e : Env} {s : State} {m : MethodId} {args : Array Value} {below : List Frame} {meth : Method} {c : Code} {D : va_G} {cy : Nat → ClassId} {B : Bs} (C : Cx p s m args c cX12_hold 3 RX12 D cy B) (hr : meth.sig.returnType = (some .boolean)) (hlocks : meth.locks = false) {N : Nat} {g : Gs} {x0 : Nat} {x1 : Int32} {vz : Int32} {dz : Ds} {d : Ds} (hf : fX12_hold N g x0 x1 d = some (vz, dz)) : WB p l e rmX12_hold s m args below meth c 3 D cy B 0 0 (MQ below (QI D cy B vz g dz) args s 0 0 (wA B)) g d [(0, .ref (ad B x0)), (1, .int x1)] 0 [] := by
  unfold fX12_hold at hf
  refine b_iload_n C dX12_hold_0 1 rfl rfl ?_
  refine b_iconst C (v := 0) dX12_hold_1 (by decide) ?_
  refine b_iconst C (v := 2) dX12_hold_2 (by decide) ?_
  obtain ⟨u3, d1, k2, hf⟩ := cb_s hf
  refine b_cSI C [] dX12_hold_3 (kX12_in l D cy B k2) lv_X12_169 ⟨rfl, rfl, Nat.le_of_ble_eq_true rfl, Nat.le_of_ble_eq_true rfl⟩ rfl (Nat.le_of_ble_eq_true rfl) ⟨Nat.zero_le _, Nat.zero_le _⟩ rfl ?_
  refine b_if_ne C (tgt := 11) dX12_hold_6 (by decide) (fun c4 => ?_) (fun c4 => ?_)
  · have hf := if_s c4 hf
    refine b_iconst C (v := 0) dX12_hold_11 (by decide) ?_
    refine b_istore_n C dX12_hold_12 rfl [(2, .int 0), (0, .ref (ad B x0)), (1, .int x1)] (by decide) rfl ?_
    refine b_sub [(0, .ref (ad B x0)), (1, .int x1), (2, .int 0)] [1, 2, 0] rfl ?_
    exact tX12_hold_L13 C hr hlocks (0, d1) hf
  · have hf := it_s c4 hf
    refine b_iconst C (v := 0) dX12_hold_9 (by decide) ?_
    exact b_zret C hr hlocks (by decide) hf dX12_hold_10
theorem kX12_hold (l : Launch) (D : va_G) (cy : Nat → ClassId) (B : Bs) {N : Nat} {g : Gs} {x0 : Nat} {x1 : Int32} {vz : Int32} {dz : Ds} {d : Ds} (hf : fX12_hold N g x0 x1 d = some (vz, dz)) : Met l yX12_hold (.code yX12_hold cX12_hold 3 (some .boolean) :: wl) rmX12_hold (PC D cy B [.ref (ad B x0), .int x1] g d) (QI D cy B vz g dz) 0 0 (wA B) :=
  met_of (by decide +kernel) (Nat.le_of_ble_eq_true rfl) (fun p e s m args below meth c C hr hlocks _ => b_sub [(0, .ref (ad B x0)), (1, .int x1)] [0, 1] rfl (tX12_hold_E C hr hlocks hf))
/-! KeyMatrixModel.restore(I)Z -/
theorem dX12_restore_0 : decode cX12_restore 0 = .ok (.iload_n 1, 1) := by decide +kernel
theorem dX12_restore_1 : decode cX12_restore 1 = .ok (.iconst 0, 1) := by decide +kernel
theorem dX12_restore_2 : decode cX12_restore 2 = .ok (.iconst 2, 1) := by decide +kernel
theorem dX12_restore_3 : decode cX12_restore 3 = .ok (.invokestatic 169, 3) := by decide +kernel
theorem dX12_restore_6 : decode cX12_restore 6 = .ok (.ifCond .eq 12, 3) := by decide +kernel
theorem dX12_restore_9 : decode cX12_restore 9 = .ok (.aload_n 0, 1) := by decide +kernel
theorem dX12_restore_10 : decode cX12_restore 10 = .ok (.getfield 71, 3) := by decide +kernel
theorem dX12_restore_13 : decode cX12_restore 13 = .ok (.iload_n 1, 1) := by decide +kernel
theorem dX12_restore_14 : decode cX12_restore 14 = .ok (.baload, 1) := by decide +kernel
theorem dX12_restore_15 : decode cX12_restore 15 = .ok (.ifCond .ne 5, 3) := by decide +kernel
theorem dX12_restore_18 : decode cX12_restore 18 = .ok (.iconst 0, 1) := by decide +kernel
theorem dX12_restore_19 : decode cX12_restore 19 = .ok (.ireturn, 1) := by decide +kernel
theorem dX12_restore_20 : decode cX12_restore 20 = .ok (.iconst 0, 1) := by decide +kernel
theorem dX12_restore_21 : decode cX12_restore 21 = .ok (.istore_n 2, 1) := by decide +kernel
theorem dX12_restore_22 : decode cX12_restore 22 = .ok (.iload_n 2, 1) := by decide +kernel
theorem dX12_restore_23 : decode cX12_restore 23 = .ok (.sipush 9178, 3) := by decide +kernel
theorem dX12_restore_26 : decode cX12_restore 26 = .ok (.if_icmp .ge 27, 3) := by decide +kernel
theorem dX12_restore_29 : decode cX12_restore 29 = .ok (.aload_n 0, 1) := by decide +kernel
theorem dX12_restore_30 : decode cX12_restore 30 = .ok (.getfield 40, 3) := by decide +kernel
theorem dX12_restore_33 : decode cX12_restore 33 = .ok (.iload_n 2, 1) := by decide +kernel
theorem dX12_restore_34 : decode cX12_restore 34 = .ok (.aload_n 0, 1) := by decide +kernel
theorem dX12_restore_35 : decode cX12_restore 35 = .ok (.getfield 65, 3) := by decide +kernel
theorem dX12_restore_38 : decode cX12_restore 38 = .ok (.sipush 9178, 3) := by decide +kernel
theorem dX12_restore_41 : decode cX12_restore 41 = .ok (.iload_n 1, 1) := by decide +kernel
theorem dX12_restore_42 : decode cX12_restore 42 = .ok (.imul, 1) := by decide +kernel
theorem dX12_restore_43 : decode cX12_restore 43 = .ok (.iload_n 2, 1) := by decide +kernel
theorem dX12_restore_44 : decode cX12_restore 44 = .ok (.iadd, 1) := by decide +kernel
theorem dX12_restore_45 : decode cX12_restore 45 = .ok (.iaload, 1) := by decide +kernel
theorem dX12_restore_46 : decode cX12_restore 46 = .ok (.iastore, 1) := by decide +kernel
theorem dX12_restore_47 : decode cX12_restore 47 = .ok (.iinc 2 1, 3) := by decide +kernel
theorem dX12_restore_50 : decode cX12_restore 50 = .ok (.goto (-28), 3) := by decide +kernel
theorem dX12_restore_53 : decode cX12_restore 53 = .ok (.iconst 0, 1) := by decide +kernel
theorem dX12_restore_54 : decode cX12_restore 54 = .ok (.istore_n 2, 1) := by decide +kernel
theorem dX12_restore_55 : decode cX12_restore 55 = .ok (.iload_n 2, 1) := by decide +kernel
theorem dX12_restore_56 : decode cX12_restore 56 = .ok (.bipush 24, 2) := by decide +kernel
theorem dX12_restore_58 : decode cX12_restore 58 = .ok (.if_icmp .ge 26, 3) := by decide +kernel
theorem dX12_restore_61 : decode cX12_restore 61 = .ok (.aload_n 0, 1) := by decide +kernel
theorem dX12_restore_62 : decode cX12_restore 62 = .ok (.getfield 46, 3) := by decide +kernel
theorem dX12_restore_65 : decode cX12_restore 65 = .ok (.iload_n 2, 1) := by decide +kernel
theorem dX12_restore_66 : decode cX12_restore 66 = .ok (.aload_n 0, 1) := by decide +kernel
theorem dX12_restore_67 : decode cX12_restore 67 = .ok (.getfield 68, 3) := by decide +kernel
theorem dX12_restore_70 : decode cX12_restore 70 = .ok (.bipush 24, 2) := by decide +kernel
theorem dX12_restore_72 : decode cX12_restore 72 = .ok (.iload_n 1, 1) := by decide +kernel
theorem dX12_restore_73 : decode cX12_restore 73 = .ok (.imul, 1) := by decide +kernel
theorem dX12_restore_74 : decode cX12_restore 74 = .ok (.iload_n 2, 1) := by decide +kernel
theorem dX12_restore_75 : decode cX12_restore 75 = .ok (.iadd, 1) := by decide +kernel
theorem dX12_restore_76 : decode cX12_restore 76 = .ok (.faload, 1) := by decide +kernel
theorem dX12_restore_77 : decode cX12_restore 77 = .ok (.fastore, 1) := by decide +kernel
theorem dX12_restore_78 : decode cX12_restore 78 = .ok (.iinc 2 1, 3) := by decide +kernel
theorem dX12_restore_81 : decode cX12_restore 81 = .ok (.goto (-26), 3) := by decide +kernel
theorem dX12_restore_84 : decode cX12_restore 84 = .ok (.iconst 1, 1) := by decide +kernel
theorem dX12_restore_85 : decode cX12_restore 85 = .ok (.ireturn, 1) := by decide +kernel
def rmX12_restore : Room := { frames := 1, cells := 0, slots := 0, locals := 22 }
set_option maxRecDepth 100000 in
def fX12_restore_J18 (N : Nat) (g : Gs) (x0 : Nat) (x1 : Int32) (d : Ds) : Option (Int32 × Ds) := some (0, d)
set_option maxHeartbeats 4000000 in
set_option maxRecDepth 100000 in
theorem tX12_restore_18 {p : Program} {l : Launch} {e : Env} {s : State} {m : MethodId} {args : Array Value} {below : List Frame} {meth : Method} {c : Code} {D : va_G} {cy : Nat → ClassId} {B : Bs} (C : Cx p s m args c cX12_restore 3 RX12 D cy B) (hr : meth.sig.returnType = (some .boolean)) (hlocks : meth.locks = false) {N : Nat} {g : Gs} {x0 : Nat} {x1 : Int32} {vz : Int32} {dz : Ds} {d : Ds} (hf : fX12_restore_J18 N g x0 x1 d = some (vz, dz)) : WB p l e rmX12_restore s m args below meth c 3 D cy B 0 0 (MQ below (QI D cy B vz g dz) args s 0 0 (wA B)) g d [(0, .ref (ad B x0)), (1, .int x1)] 18 [] := by
  unfold fX12_restore_J18 at hf
  refine b_iconst C (v := 0) dX12_restore_18 (by decide) ?_
  exact b_zret C hr hlocks (by decide) hf dX12_restore_19
set_option maxRecDepth 100000 in
def fX12_restore_B55 (N : Nat) (g : Gs) (x0 : Nat) (x1 : Int32) (K55 : Int32 × Ds → Option (Int32 × Ds)) (y2 : Int32) (d : Ds) : Option (Int32 × Ds) := if (24 : Int32) ≤ y2 then (some (1, d)) else (gd (chk g x0 11) <| ob (gR g x0 19) fun r13 => (ob (gR g x0 31) fun r14 => (gd (chk g r14 101) <| gd (¬ ((((24 : Int32) * x1) + y2) < 0 ∨ gL g r14 ≤ (((24 : Int32) * x1) + y2).toNatClampNeg)) <| gd (chk g r13 101) <| gd (¬ (y2 < 0 ∨ gL g r13 ≤ y2.toNatClampNeg)) <| bd (sF d r13 y2.toNatClampNeg (dF d r14 (((24 : Int32) * x1) + y2).toNatClampNeg)) fun d19 => (bd (y2 + 1) fun u20 => (K55 (u20, d19))))))
set_option maxHeartbeats 4000000 in
set_option maxRecDepth 100000 in
theorem tX12_restore_55 {p : Program} {l : Launch} {e : Env} {s : State} {m : MethodId} {args : Array Value} {below : List Frame} {meth : Method} {c : Code} {D : va_G} {cy : Nat → ClassId} {B : Bs} (C : Cx p s m args c cX12_restore 3 RX12 D cy B) (hr : meth.sig.returnType = (some .boolean)) (hlocks : meth.locks = false) {N : Nat} {g : Gs} {x0 : Nat} {x1 : Int32} {vz : Int32} {dz : Ds} {K55 : Int32 × Ds → Option (Int32 × Ds)} (hK55 : ∀ a, K55 a = some (vz, dz) → WB p l e rmX12_restore s m args below meth c 3 D cy B 0 0 (MQ below (QI D cy B vz g dz) args s 0 0 (wA B)) g a.2 [(0, .ref (ad B x0)), (1, .int x1), (2, .int a.1)] 55 []) {y2 : Int32} {d : Ds} (hf : fX12_restore_B55 N g x0 x1 K55 y2 d = some (vz, dz)) : WB p l e rmX12_restore s m args below meth c 3 D cy B 0 0 (MQ below (QI D cy B vz g dz) args s 0 0 (wA B)) g d [(0, .ref (ad B x0)), (1, .int x1), (2, .int y2)] 55 [] := by
  unfold fX12_restore_B55 at hf
  refine b_iload_n C dX12_restore_55 2 rfl rfl ?_
  refine b_bipush C (v := 24) dX12_restore_56 (by decide) ?_
  refine b_icmp_ge C (tgt := 84) dX12_restore_58 (by decide) (fun c11 => ?_) (fun c11 => ?_)
  · have hf := it_s c11 hf
    refine b_iconst C (v := 1) dX12_restore_84 (by decide) ?_
    exact b_zret C hr hlocks (by decide) hf dX12_restore_85
  · have hf := if_s c11 hf
    refine b_aload_n C dX12_restore_61 0 rfl rfl ?_
    obtain ⟨h12, hf⟩ := gd_s hf
    obtain ⟨r13, er13, hf⟩ := ob_s hf
    refine b_gR C dX12_restore_62 fl_X12_46 h12 er13 ?_
    refine b_iload_n C dX12_restore_65 2 rfl rfl ?_
    refine b_aload_n C dX12_restore_66 0 rfl rfl ?_
    obtain ⟨r14, er14, hf⟩ := ob_s hf
    refine b_gR C dX12_restore_67 fl_X12_68 h12 er14 ?_
    refine b_bipush C (v := 24) dX12_restore_70 (by decide) ?_
    refine b_iload_n C dX12_restore_72 1 rfl rfl ?_
    refine b_imul C dX12_restore_73 ?_
    refine b_iload_n C dX12_restore_74 2 rfl rfl ?_
    refine b_iadd C dX12_restore_75 ?_
    obtain ⟨h15, hf⟩ := gd_s hf
    obtain ⟨h16, hf⟩ := gd_s hf
    refine b_fald C h15 h16 dX12_restore_76 ?_
    obtain ⟨h17, hf⟩ := gd_s hf
    obtain ⟨h18, hf⟩ := gd_s hf
    obtain ⟨d19, ed19, hf⟩ := bd_s hf
    refine b_fast C h17 h18 ed19 dX12_restore_77 ?_
    obtain ⟨u20, eu20, hf⟩ := bd_s hf
    refine b_iinc C dX12_restore_78 2 rfl (by rw [eu20]; rfl) [(2, .int u20), (0, .ref (ad B x0)), (1, .int x1)] (by decide) rfl ?_
    refine b_goto C (tgt := 55) dX12_restore_81 (by decide) ?_
    refine b_sub [(0, .ref (ad B x0)), (1, .int x1), (2, .int u20)] [1, 2, 0] rfl ?_
    exact hK55 (u20, d19) hf
def fX12_restore_L55 (N : Nat) (g : Gs) (x0 : Nat) (x1 : Int32) : Int32 × Ds → Option (Int32 × Ds) := lp (fun K55 a => fX12_restore_B55 N g x0 x1 K55 a.1 a.2) N
theorem tX12_restore_L55 {p : Program} {l : Launch} {e : Env} {s : State} {m : MethodId} {args : Array Value} {below : List Frame} {meth : Method} {c : Code} {D : va_G} {cy : Nat → ClassId} {B : Bs} (C : Cx p s m args c cX12_restore 3 RX12 D cy B) (hr : meth.sig.returnType = (some .boolean)) (hlocks : meth.locks = false) {N : Nat} {g : Gs} {x0 : Nat} {x1 : Int32} {vz : Int32} {dz : Ds} (a : Int32 × Ds) (hf : fX12_restore_L55 N g x0 x1 a = some (vz, dz)) : WB p l e rmX12_restore s m args below meth c 3 D cy B 0 0 (MQ below (QI D cy B vz g dz) args s 0 0 (wA B)) g a.2 [(0, .ref (ad B x0)), (1, .int x1), (2, .int a.1)] 55 [] :=
  lp_w (fun K55 hK55 a ha => tX12_restore_55 C hr hlocks hK55 ha) N a hf
set_option maxRecDepth 100000 in
def fX12_restore_B22 (N : Nat) (g : Gs) (x0 : Nat) (x1 : Int32) (K22 : Int32 × Ds → Option (Int32 × Ds)) (y2 : Int32) (d : Ds) : Option (Int32 × Ds) := if (9178 : Int32) ≤ y2 then (fX12_restore_L55 N g x0 x1 (0, d)) else (gd (chk g x0 11) <| ob (gR g x0 17) fun r22 => (ob (gR g x0 30) fun r23 => (gd (chk g r23 102) <| gd (¬ ((((9178 : Int32) * x1) + y2) < 0 ∨ gL g r23 ≤ (((9178 : Int32) * x1) + y2).toNatClampNeg)) <| gd (chk g r22 102) <| gd (¬ (y2 < 0 ∨ gL g r22 ≤ y2.toNatClampNeg)) <| bd (sI d r22 y2.toNatClampNeg (dI d r23 (((9178 : Int32) * x1) + y2).toNatClampNeg)) fun d28 => (bd (y2 + 1) fun u29 => (K22 (u29, d28))))))
set_option maxHeartbeats 4000000 in
set_option maxRecDepth 100000 in
theorem tX12_restore_22 {p : Program} {l : Launch} {e : Env} {s : State} {m : MethodId} {args : Array Value} {below : List Frame} {meth : Method} {c : Code} {D : va_G} {cy : Nat → ClassId} {B : Bs} (C : Cx p s m args c cX12_restore 3 RX12 D cy B) (hr : meth.sig.returnType = (some .boolean)) (hlocks : meth.locks = false) {N : Nat} {g : Gs} {x0 : Nat} {x1 : Int32} {vz : Int32} {dz : Ds} {K22 : Int32 × Ds → Option (Int32 × Ds)} (hK22 : ∀ a, K22 a = some (vz, dz) → WB p l e rmX12_restore s m args below meth c 3 D cy B 0 0 (MQ below (QI D cy B vz g dz) args s 0 0 (wA B)) g a.2 [(0, .ref (ad B x0)), (1, .int x1), (2, .int a.1)] 22 []) {y2 : Int32} {d : Ds} (hf : fX12_restore_B22 N g x0 x1 K22 y2 d = some (vz, dz)) : WB p l e rmX12_restore s m args below meth c 3 D cy B 0 0 (MQ below (QI D cy B vz g dz) args s 0 0 (wA B)) g d [(0, .ref (ad B x0)), (1, .int x1), (2, .int y2)] 22 [] := by
  unfold fX12_restore_B22 at hf
  refine b_iload_n C dX12_restore_22 2 rfl rfl ?_
  refine b_sipush C (v := 9178) dX12_restore_23 (by decide) ?_
  refine b_icmp_ge C (tgt := 53) dX12_restore_26 (by decide) (fun c10 => ?_) (fun c10 => ?_)
  · have hf := it_s c10 hf
    refine b_iconst C (v := 0) dX12_restore_53 (by decide) ?_
    refine b_istore_n C dX12_restore_54 rfl [(2, .int 0), (0, .ref (ad B x0)), (1, .int x1)] (by decide) rfl ?_
    refine b_sub [(0, .ref (ad B x0)), (1, .int x1), (2, .int 0)] [1, 2, 0] rfl ?_
    exact tX12_restore_L55 C hr hlocks (0, d) hf
  · have hf := if_s c10 hf
    refine b_aload_n C dX12_restore_29 0 rfl rfl ?_
    obtain ⟨h21, hf⟩ := gd_s hf
    obtain ⟨r22, er22, hf⟩ := ob_s hf
    refine b_gR C dX12_restore_30 fl_X12_40 h21 er22 ?_
    refine b_iload_n C dX12_restore_33 2 rfl rfl ?_
    refine b_aload_n C dX12_restore_34 0 rfl rfl ?_
    obtain ⟨r23, er23, hf⟩ := ob_s hf
    refine b_gR C dX12_restore_35 fl_X12_65 h21 er23 ?_
    refine b_sipush C (v := 9178) dX12_restore_38 (by decide) ?_
    refine b_iload_n C dX12_restore_41 1 rfl rfl ?_
    refine b_imul C dX12_restore_42 ?_
    refine b_iload_n C dX12_restore_43 2 rfl rfl ?_
    refine b_iadd C dX12_restore_44 ?_
    obtain ⟨h24, hf⟩ := gd_s hf
    obtain ⟨h25, hf⟩ := gd_s hf
    refine b_iald C h24 h25 dX12_restore_45 ?_
    obtain ⟨h26, hf⟩ := gd_s hf
    obtain ⟨h27, hf⟩ := gd_s hf
    obtain ⟨d28, ed28, hf⟩ := bd_s hf
    refine b_iast C h26 h27 ed28 dX12_restore_46 ?_
    obtain ⟨u29, eu29, hf⟩ := bd_s hf
    refine b_iinc C dX12_restore_47 2 rfl (by rw [eu29]; rfl) [(2, .int u29), (0, .ref (ad B x0)), (1, .int x1)] (by decide) rfl ?_
    refine b_goto C (tgt := 22) dX12_restore_50 (by decide) ?_
    refine b_sub [(0, .ref (ad B x0)), (1, .int x1), (2, .int u29)] [1, 2, 0] rfl ?_
    exact hK22 (u29, d28) hf
def fX12_restore_L22 (N : Nat) (g : Gs) (x0 : Nat) (x1 : Int32) : Int32 × Ds → Option (Int32 × Ds) := lp (fun K22 a => fX12_restore_B22 N g x0 x1 K22 a.1 a.2) N
theorem tX12_restore_L22 {p : Program} {l : Launch} {e : Env} {s : State} {m : MethodId} {args : Array Value} {below : List Frame} {meth : Method} {c : Code} {D : va_G} {cy : Nat → ClassId} {B : Bs} (C : Cx p s m args c cX12_restore 3 RX12 D cy B) (hr : meth.sig.returnType = (some .boolean)) (hlocks : meth.locks = false) {N : Nat} {g : Gs} {x0 : Nat} {x1 : Int32} {vz : Int32} {dz : Ds} (a : Int32 × Ds) (hf : fX12_restore_L22 N g x0 x1 a = some (vz, dz)) : WB p l e rmX12_restore s m args below meth c 3 D cy B 0 0 (MQ below (QI D cy B vz g dz) args s 0 0 (wA B)) g a.2 [(0, .ref (ad B x0)), (1, .int x1), (2, .int a.1)] 22 [] :=
  lp_w (fun K22 hK22 a ha => tX12_restore_22 C hr hlocks hK22 ha) N a hf
set_option maxRecDepth 100000 in
def fX12_restore (N : Nat) (g : Gs) (x0 : Nat) (x1 : Int32) (d : Ds) : Option (Int32 × Ds) := cb (fX12_in N g x1 0 2 d) fun u3 d1 => (if u3 = 0 then (fX12_restore_J18 N g x0 x1 d1) else (gd (chk g x0 11) <| ob (gR g x0 32) fun r6 => (gd (chk g r6 104) <| gd (¬ (x1 < 0 ∨ gL g r6 ≤ x1.toNatClampNeg)) <| if (dI d1 r6 x1.toNatClampNeg) = 0 then (fX12_restore_J18 N g x0 x1 d1) else (fX12_restore_L22 N g x0 x1 (0, d1)))))
set_option maxHeartbeats 4000000 in
set_option maxRecDepth 100000 in
theorem tX12_restore_E {p : Program} {l : Launch} {e : Env} {s : State} {m : MethodId} {args : Array Value} {below : List Frame} {meth : Method} {c : Code} {D : va_G} {cy : Nat → ClassId} {B : Bs} (C : Cx p s m args c cX12_restore 3 RX12 D cy B) (hr : meth.sig.returnType = (some .boolean)) (hlocks : meth.locks = false) {N : Nat} {g : Gs} {x0 : Nat} {x1 : Int32} {vz : Int32} {dz : Ds} {d : Ds} (hf : fX12_restore N g x0 x1 d = some (vz, dz)) : WB p l e rmX12_restore s m args below meth c 3 D cy B 0 0 (MQ below (QI D cy B vz g dz) args s 0 0 (wA B)) g d [(0, .ref (ad B x0)), (1, .int x1)] 0 [] := by
  unfold fX12_restore at hf
  refine b_iload_n C dX12_restore_0 1 rfl rfl ?_
  refine b_iconst C (v := 0) dX12_restore_1 (by decide) ?_
  refine b_iconst C (v := 2) dX12_restore_2 (by decide) ?_
  obtain ⟨u3, d1, k2, hf⟩ := cb_s hf
  refine b_cSI C [] dX12_restore_3 (kX12_in l D cy B k2) lv_X12_169 ⟨rfl, rfl, Nat.le_of_ble_eq_true rfl, Nat.le_of_ble_eq_true rfl⟩ rfl (Nat.le_of_ble_eq_true rfl) ⟨Nat.zero_le _, Nat.zero_le _⟩ rfl ?_
  refine b_if_eq C (tgt := 18) dX12_restore_6 (by decide) (fun c4 => ?_) (fun c4 => ?_)
  · have hf := it_s c4 hf
    refine b_sub [(0, .ref (ad B x0)), (1, .int x1)] [0, 1] rfl ?_
    exact tX12_restore_18 C hr hlocks hf
  · have hf := if_s c4 hf
    refine b_aload_n C dX12_restore_9 0 rfl rfl ?_
    obtain ⟨h5, hf⟩ := gd_s hf
    obtain ⟨r6, er6, hf⟩ := ob_s hf
    refine b_gR C dX12_restore_10 fl_X12_71 h5 er6 ?_
    refine b_iload_n C dX12_restore_13 1 rfl rfl ?_
    obtain ⟨h7, hf⟩ := gd_s hf
    obtain ⟨h8, hf⟩ := gd_s hf
    refine b_zald C h7 h8 dX12_restore_14 ?_
    refine b_if_ne C (tgt := 20) dX12_restore_15 (by decide) (fun c9 => ?_) (fun c9 => ?_)
    · have hf := if_s c9 hf
      refine b_iconst C (v := 0) dX12_restore_20 (by decide) ?_
      refine b_istore_n C dX12_restore_21 rfl [(2, .int 0), (0, .ref (ad B x0)), (1, .int x1)] (by decide) rfl ?_
      refine b_sub [(0, .ref (ad B x0)), (1, .int x1), (2, .int 0)] [1, 2, 0] rfl ?_
      exact tX12_restore_L22 C hr hlocks (0, d1) hf
    · have hf := it_s c9 hf
      refine b_sub [(0, .ref (ad B x0)), (1, .int x1)] [0, 1] rfl ?_
      exact tX12_restore_18 C hr hlocks hf
theorem kX12_restore (l : Launch) (D : va_G) (cy : Nat → ClassId) (B : Bs) {N : Nat} {g : Gs} {x0 : Nat} {x1 : Int32} {vz : Int32} {dz : Ds} {d : Ds} (hf : fX12_restore N g x0 x1 d = some (vz, dz)) : Met l yX12_restore (.code yX12_restore cX12_restore 3 (some .boolean) :: wl) rmX12_restore (PC D cy B [.ref (ad B x0), .int x1] g d) (QI D cy B vz g dz) 0 0 (wA B) :=
  met_of (by decide +kernel) (Nat.le_of_ble_eq_true rfl) (fun p e s m args below meth c C hr hlocks _ => b_sub [(0, .ref (ad B x0)), (1, .int x1)] [0, 1] rfl (tX12_restore_E C hr hlocks hf))
