/-! KeyMatrixModel.event(II)I -/
theorem dX12_event_0 : decode cX12_event 0 = .ok (.iload_n 1, 1) := by decide +kernel
theorem dX12_event_1 : decode cX12_event 1 = .ok (.iconst (-1), 1) := by decide +kernel
theorem dX12_event_2 : decode cX12_event 2 = .ok (.if_icmp .ne 12, 3) := by decide +kernel
theorem dX12_event_5 : decode cX12_event 5 = .ok (.aload_n 0, 1) := by decide +kernel
theorem dX12_event_6 : decode cX12_event 6 = .ok (.getfield 40, 3) := by decide +kernel
theorem dX12_event_9 : decode cX12_event 9 = .ok (.sipush 557, 3) := by decide +kernel
theorem dX12_event_12 : decode cX12_event 12 = .ok (.iaload, 1) := by decide +kernel
theorem dX12_event_13 : decode cX12_event 13 = .ok (.ireturn, 1) := by decide +kernel
theorem dX12_event_14 : decode cX12_event 14 = .ok (.iload_n 1, 1) := by decide +kernel
theorem dX12_event_15 : decode cX12_event 15 = .ok (.iconst 0, 1) := by decide +kernel
theorem dX12_event_16 : decode cX12_event 16 = .ok (.aload_n 0, 1) := by decide +kernel
theorem dX12_event_17 : decode cX12_event 17 = .ok (.getfield 40, 3) := by decide +kernel
theorem dX12_event_20 : decode cX12_event 20 = .ok (.sipush 557, 3) := by decide +kernel
theorem dX12_event_23 : decode cX12_event 23 = .ok (.iaload, 1) := by decide +kernel
theorem dX12_event_24 : decode cX12_event 24 = .ok (.iconst 1, 1) := by decide +kernel
theorem dX12_event_25 : decode cX12_event 25 = .ok (.isub, 1) := by decide +kernel
theorem dX12_event_26 : decode cX12_event 26 = .ok (.invokestatic 169, 3) := by decide +kernel
theorem dX12_event_29 : decode cX12_event 29 = .ok (.ifCond .eq 29, 3) := by decide +kernel
theorem dX12_event_32 : decode cX12_event 32 = .ok (.iload_n 2, 1) := by decide +kernel
theorem dX12_event_33 : decode cX12_event 33 = .ok (.iconst 0, 1) := by decide +kernel
theorem dX12_event_34 : decode cX12_event 34 = .ok (.iconst 2, 1) := by decide +kernel
theorem dX12_event_35 : decode cX12_event 35 = .ok (.invokestatic 169, 3) := by decide +kernel
theorem dX12_event_38 : decode cX12_event 38 = .ok (.ifCond .eq 20, 3) := by decide +kernel
theorem dX12_event_41 : decode cX12_event 41 = .ok (.aload_n 0, 1) := by decide +kernel
theorem dX12_event_42 : decode cX12_event 42 = .ok (.getfield 40, 3) := by decide +kernel
theorem dX12_event_45 : decode cX12_event 45 = .ok (.sipush 1678, 3) := by decide +kernel
theorem dX12_event_48 : decode cX12_event 48 = .ok (.iconst 3, 1) := by decide +kernel
theorem dX12_event_49 : decode cX12_event 49 = .ok (.iload_n 1, 1) := by decide +kernel
theorem dX12_event_50 : decode cX12_event 50 = .ok (.imul, 1) := by decide +kernel
theorem dX12_event_51 : decode cX12_event 51 = .ok (.iadd, 1) := by decide +kernel
theorem dX12_event_52 : decode cX12_event 52 = .ok (.iload_n 2, 1) := by decide +kernel
theorem dX12_event_53 : decode cX12_event 53 = .ok (.iadd, 1) := by decide +kernel
theorem dX12_event_54 : decode cX12_event 54 = .ok (.iaload, 1) := by decide +kernel
theorem dX12_event_55 : decode cX12_event 55 = .ok (.goto 4, 3) := by decide +kernel
theorem dX12_event_58 : decode cX12_event 58 = .ok (.iconst (-1), 1) := by decide +kernel
theorem dX12_event_59 : decode cX12_event 59 = .ok (.ireturn, 1) := by decide +kernel
def rmX12_event : Room := { frames := 1, cells := 0, slots := 0, locals := 22 }
set_option maxRecDepth 100000 in
def fX12_event_J59 (N : Nat) (g : Gs) (x0 : Nat) (x1 : Int32) (x2 : Int32) (z0 : Int32) (d : Ds) : Option (Int32 × Ds) := some (z0, d)
set_option maxHeartbeats 4000000 in
set_option maxRecDepth 100000 in
theorem tX12_event_59 {p : Program} {l : Launch} {e : Env} {s : State} {m : MethodId} {args : Array Value} {below : List Frame} {meth : Method} {c : Code} {D : va_G} {cy : Nat → ClassId} {B : Bs} (C : Cx p s m args c cX12_event 3 RX12 D cy B) (hr : meth.sig.returnType = (some .int)) (hlocks : meth.locks = false) {N : Nat} {g : Gs} {x0 : Nat} {x1 : Int32} {x2 : Int32} {vz : Int32} {dz : Ds} {z0 : Int32} {d : Ds} (hf : fX12_event_J59 N g x0 x1 x2 z0 d = some (vz, dz)) : WB p l e rmX12_event s m args below meth c 3 D cy B 0 0 (MQ below (QI D cy B vz g dz) args s 0 0 (wA B)) g d [(0, .ref (ad B x0)), (1, .int x1), (2, .int x2)] 59 [.int z0] := by
  unfold fX12_event_J59 at hf
  exact b_iret C hr hlocks hf dX12_event_59
set_option maxRecDepth 100000 in
def fX12_event_J58 (N : Nat) (g : Gs) (x0 : Nat) (x1 : Int32) (x2 : Int32) (d : Ds) : Option (Int32 × Ds) := fX12_event_J59 N g x0 x1 x2 (-1) d
set_option maxHeartbeats 4000000 in
set_option maxRecDepth 100000 in
theorem tX12_event_58 {p : Program} {l : Launch} {e : Env} {s : State} {m : MethodId} {args : Array Value} {below : List Frame} {meth : Method} {c : Code} {D : va_G} {cy : Nat → ClassId} {B : Bs} (C : Cx p s m args c cX12_event 3 RX12 D cy B) (hr : meth.sig.returnType = (some .int)) (hlocks : meth.locks = false) {N : Nat} {g : Gs} {x0 : Nat} {x1 : Int32} {x2 : Int32} {vz : Int32} {dz : Ds} {d : Ds} (hf : fX12_event_J58 N g x0 x1 x2 d = some (vz, dz)) : WB p l e rmX12_event s m args below meth c 3 D cy B 0 0 (MQ below (QI D cy B vz g dz) args s 0 0 (wA B)) g d [(0, .ref (ad B x0)), (1, .int x1), (2, .int x2)] 58 [] := by
  unfold fX12_event_J58 at hf
  refine b_iconst C (v := (-1)) dX12_event_58 (by decide) ?_
  refine b_sub [(0, .ref (ad B x0)), (1, .int x1), (2, .int x2)] [0, 1, 2] rfl ?_
  exact tX12_event_59 C hr hlocks hf
set_option maxRecDepth 100000 in
def fX12_event (N : Nat) (g : Gs) (x0 : Nat) (x1 : Int32) (x2 : Int32) (d : Ds) : Option (Int32 × Ds) := if x1 = (-1 : Int32) then (gd (chk g x0 11) <| ob (gR g x0 17) fun r16 => (gd (chk g r16 102) <| gd (¬ ((557 : Int32) < 0 ∨ gL g r16 ≤ (557 : Int32).toNatClampNeg)) <| some ((dI d r16 (557 : Int32).toNatClampNeg), d))) else (gd (chk g x0 11) <| ob (gR g x0 17) fun r3 => (gd (chk g r3 102) <| gd (¬ ((557 : Int32) < 0 ∨ gL g r3 ≤ (557 : Int32).toNatClampNeg)) <| cb (fX12_in N g x1 0 ((dI d r3 (557 : Int32).toNatClampNeg) - 1) d) fun u8 d6 => (if u8 = 0 then (fX12_event_J58 N g x0 x1 x2 d6) else (cb (fX12_in N g x2 0 2 d6) fun u12 d10 => (if u12 = 0 then (fX12_event_J58 N g x0 x1 x2 d10) else (gd (¬ ((((1678 : Int32) + ((3 : Int32) * x1)) + x2) < 0 ∨ gL g r3 ≤ (((1678 : Int32) + ((3 : Int32) * x1)) + x2).toNatClampNeg)) <| fX12_event_J59 N g x0 x1 x2 (dI d10 r3 (((1678 : Int32) + ((3 : Int32) * x1)) + x2).toNatClampNeg) d10))))))
set_option maxHeartbeats 4000000 in
set_option maxRecDepth 100000 in
theorem tX12_event_E {p : Program} {l : Launch} {e : Env} {s : State} {m : MethodId} {args : Array Value} {below : List Frame} {meth : Method} {c : Code} {D : va_G} {cy : Nat → ClassId} {B : Bs} (C : Cx p s m args c cX12_event 3 RX12 D cy B) (hr : meth.sig.returnType = (some .int)) (hlocks : meth.locks = false) {N : Nat} {g : Gs} {x0 : Nat} {x1 : Int32} {x2 : Int32} {vz : Int32} {dz : Ds} {d : Ds} (hf : fX12_event N g x0 x1 x2 d = some (vz, dz)) : WB p l e rmX12_event s m args below meth c 3 D cy B 0 0 (MQ below (QI D cy B vz g dz) args s 0 0 (wA B)) g d [(0, .ref (ad B x0)), (1, .int x1), (2, .int x2)] 0 [] := by
  unfold fX12_event at hf
  refine b_iload_n C dX12_event_0 1 rfl rfl ?_
  refine b_iconst C (v := (-1)) dX12_event_1 (by decide) ?_
  refine b_icmp_ne C (tgt := 14) dX12_event_2 (by decide) (fun c1 => ?_) (fun c1 => ?_)
  · have hf := if_s c1 hf
    refine b_iload_n C dX12_event_14 1 rfl rfl ?_
    refine b_iconst C (v := 0) dX12_event_15 (by decide) ?_
    refine b_aload_n C dX12_event_16 0 rfl rfl ?_
    obtain ⟨h2, hf⟩ := gd_s hf
    obtain ⟨r3, er3, hf⟩ := ob_s hf
    refine b_gR C dX12_event_17 fl_X12_40 h2 er3 ?_
    refine b_sipush C (v := 557) dX12_event_20 (by decide) ?_
    obtain ⟨h4, hf⟩ := gd_s hf
    obtain ⟨h5, hf⟩ := gd_s hf
    refine b_iald C h4 h5 dX12_event_23 ?_
    refine b_iconst C (v := 1) dX12_event_24 (by decide) ?_
    refine b_isub C dX12_event_25 ?_
    obtain ⟨u8, d6, k7, hf⟩ := cb_s hf
    refine b_cSI C [] dX12_event_26 (kX12_in l D cy B k7) lv_X12_169 ⟨rfl, rfl, Nat.le_of_ble_eq_true rfl, Nat.le_of_ble_eq_true rfl⟩ rfl (Nat.le_of_ble_eq_true rfl) ⟨Nat.zero_le _, Nat.zero_le _⟩ rfl ?_
    refine b_if_eq C (tgt := 58) dX12_event_29 (by decide) (fun c9 => ?_) (fun c9 => ?_)
    · have hf := it_s c9 hf
      refine b_sub [(0, .ref (ad B x0)), (1, .int x1), (2, .int x2)] [0, 1, 2] rfl ?_
      exact tX12_event_58 C hr hlocks hf
    · have hf := if_s c9 hf
      refine b_iload_n C dX12_event_32 2 rfl rfl ?_
      refine b_iconst C (v := 0) dX12_event_33 (by decide) ?_
      refine b_iconst C (v := 2) dX12_event_34 (by decide) ?_
      obtain ⟨u12, d10, k11, hf⟩ := cb_s hf
      refine b_cSI C [] dX12_event_35 (kX12_in l D cy B k11) lv_X12_169 ⟨rfl, rfl, Nat.le_of_ble_eq_true rfl, Nat.le_of_ble_eq_true rfl⟩ rfl (Nat.le_of_ble_eq_true rfl) ⟨Nat.zero_le _, Nat.zero_le _⟩ rfl ?_
      refine b_if_eq C (tgt := 58) dX12_event_38 (by decide) (fun c13 => ?_) (fun c13 => ?_)
      · have hf := it_s c13 hf
        refine b_sub [(0, .ref (ad B x0)), (1, .int x1), (2, .int x2)] [0, 1, 2] rfl ?_
        exact tX12_event_58 C hr hlocks hf
      · have hf := if_s c13 hf
        refine b_aload_n C dX12_event_41 0 rfl rfl ?_
        refine b_gR C dX12_event_42 fl_X12_40 h2 er3 ?_
        refine b_sipush C (v := 1678) dX12_event_45 (by decide) ?_
        refine b_iconst C (v := 3) dX12_event_48 (by decide) ?_
        refine b_iload_n C dX12_event_49 1 rfl rfl ?_
        refine b_imul C dX12_event_50 ?_
        refine b_iadd C dX12_event_51 ?_
        refine b_iload_n C dX12_event_52 2 rfl rfl ?_
        refine b_iadd C dX12_event_53 ?_
        obtain ⟨h14, hf⟩ := gd_s hf
        refine b_iald C h4 h14 dX12_event_54 ?_
        refine b_goto C (tgt := 59) dX12_event_55 (by decide) ?_
        refine b_sub [(0, .ref (ad B x0)), (1, .int x1), (2, .int x2)] [0, 1, 2] rfl ?_
        exact tX12_event_59 C hr hlocks hf
  · have hf := it_s c1 hf
    refine b_aload_n C dX12_event_5 0 rfl rfl ?_
    obtain ⟨h15, hf⟩ := gd_s hf
    obtain ⟨r16, er16, hf⟩ := ob_s hf
    refine b_gR C dX12_event_6 fl_X12_40 h15 er16 ?_
    refine b_sipush C (v := 557) dX12_event_9 (by decide) ?_
    obtain ⟨h17, hf⟩ := gd_s hf
    obtain ⟨h18, hf⟩ := gd_s hf
    refine b_iald C h17 h18 dX12_event_12 ?_
    exact b_iret C hr hlocks hf dX12_event_13
theorem kX12_event (l : Launch) (D : va_G) (cy : Nat → ClassId) (B : Bs) {N : Nat} {g : Gs} {x0 : Nat} {x1 : Int32} {x2 : Int32} {vz : Int32} {dz : Ds} {d : Ds} (hf : fX12_event N g x0 x1 x2 d = some (vz, dz)) : Met l yX12_event (.code yX12_event cX12_event 3 (some .int) :: wl) rmX12_event (PC D cy B [.ref (ad B x0), .int x1, .int x2] g d) (QI D cy B vz g dz) 0 0 (wA B) :=
  met_of (by decide +kernel) (Nat.le_of_ble_eq_true rfl) (fun p e s m args below meth c C hr hlocks _ => b_sub [(0, .ref (ad B x0)), (1, .int x1), (2, .int x2)] [0, 1, 2] rfl (tX12_event_E C hr hlocks hf))
/-! KeyMatrixModel.reportsKept()I -/
theorem dX12_reportsKept_0 : decode cX12_reportsKept 0 = .ok (.aload_n 0, 1) := by decide +kernel
theorem dX12_reportsKept_1 : decode cX12_reportsKept 1 = .ok (.getfield 40, 3) := by decide +kernel
theorem dX12_reportsKept_4 : decode cX12_reportsKept 4 = .ok (.sipush 555, 3) := by decide +kernel
theorem dX12_reportsKept_7 : decode cX12_reportsKept 7 = .ok (.iaload, 1) := by decide +kernel
theorem dX12_reportsKept_8 : decode cX12_reportsKept 8 = .ok (.bipush 40, 2) := by decide +kernel
theorem dX12_reportsKept_10 : decode cX12_reportsKept 10 = .ok (.if_icmp .ge 14, 3) := by decide +kernel
theorem dX12_reportsKept_13 : decode cX12_reportsKept 13 = .ok (.aload_n 0, 1) := by decide +kernel
theorem dX12_reportsKept_14 : decode cX12_reportsKept 14 = .ok (.getfield 40, 3) := by decide +kernel
theorem dX12_reportsKept_17 : decode cX12_reportsKept 17 = .ok (.sipush 555, 3) := by decide +kernel
theorem dX12_reportsKept_20 : decode cX12_reportsKept 20 = .ok (.iaload, 1) := by decide +kernel
theorem dX12_reportsKept_21 : decode cX12_reportsKept 21 = .ok (.goto 5, 3) := by decide +kernel
theorem dX12_reportsKept_24 : decode cX12_reportsKept 24 = .ok (.bipush 40, 2) := by decide +kernel
theorem dX12_reportsKept_26 : decode cX12_reportsKept 26 = .ok (.ireturn, 1) := by decide +kernel
def rmX12_reportsKept : Room := { frames := 0, cells := 0, slots := 0, locals := 0 }
set_option maxRecDepth 100000 in
def fX12_reportsKept_J26 (N : Nat) (g : Gs) (x0 : Nat) (z0 : Int32) (d : Ds) : Option (Int32 × Ds) := some (z0, d)
set_option maxHeartbeats 4000000 in
set_option maxRecDepth 100000 in
theorem tX12_reportsKept_26 {p : Program} {l : Launch} {e : Env} {s : State} {m : MethodId} {args : Array Value} {below : List Frame} {meth : Method} {c : Code} {D : va_G} {cy : Nat → ClassId} {B : Bs} (C : Cx p s m args c cX12_reportsKept 1 RX12 D cy B) (hr : meth.sig.returnType = (some .int)) (hlocks : meth.locks = false) {N : Nat} {g : Gs} {x0 : Nat} {vz : Int32} {dz : Ds} {z0 : Int32} {d : Ds} (hf : fX12_reportsKept_J26 N g x0 z0 d = some (vz, dz)) : WB p l e rmX12_reportsKept s m args below meth c 1 D cy B 0 0 (MQ below (QI D cy B vz g dz) args s 0 0 (wA B)) g d [(0, .ref (ad B x0))] 26 [.int z0] := by
  unfold fX12_reportsKept_J26 at hf
  exact b_iret C hr hlocks hf dX12_reportsKept_26
set_option maxRecDepth 100000 in
def fX12_reportsKept (N : Nat) (g : Gs) (x0 : Nat) (d : Ds) : Option (Int32 × Ds) := gd (chk g x0 11) <| ob (gR g x0 17) fun r2 => (gd (chk g r2 102) <| gd (¬ ((555 : Int32) < 0 ∨ gL g r2 ≤ (555 : Int32).toNatClampNeg)) <| if (40 : Int32) ≤ (dI d r2 (555 : Int32).toNatClampNeg) then (fX12_reportsKept_J26 N g x0 40 d) else (fX12_reportsKept_J26 N g x0 (dI d r2 (555 : Int32).toNatClampNeg) d))
set_option maxHeartbeats 4000000 in
set_option maxRecDepth 100000 in
theorem tX12_reportsKept_E {p : Program} {l : Launch} {e : Env} {s : State} {m : MethodId} {args : Array Value} {below : List Frame} {meth : Method} {c : Code} {D : va_G} {cy : Nat → ClassId} {B : Bs} (C : Cx p s m args c cX12_reportsKept 1 RX12 D cy B) (hr : meth.sig.returnType = (some .int)) (hlocks : meth.locks = false) {N : Nat} {g : Gs} {x0 : Nat} {vz : Int32} {dz : Ds} {d : Ds} (hf : fX12_reportsKept N g x0 d = some (vz, dz)) : WB p l e rmX12_reportsKept s m args below meth c 1 D cy B 0 0 (MQ below (QI D cy B vz g dz) args s 0 0 (wA B)) g d [(0, .ref (ad B x0))] 0 [] := by
  unfold fX12_reportsKept at hf
  refine b_aload_n C dX12_reportsKept_0 0 rfl rfl ?_
  obtain ⟨h1, hf⟩ := gd_s hf
  obtain ⟨r2, er2, hf⟩ := ob_s hf
  refine b_gR C dX12_reportsKept_1 fl_X12_40 h1 er2 ?_
  refine b_sipush C (v := 555) dX12_reportsKept_4 (by decide) ?_
  obtain ⟨h3, hf⟩ := gd_s hf
  obtain ⟨h4, hf⟩ := gd_s hf
  refine b_iald C h3 h4 dX12_reportsKept_7 ?_
  refine b_bipush C (v := 40) dX12_reportsKept_8 (by decide) ?_
  refine b_icmp_ge C (tgt := 24) dX12_reportsKept_10 (by decide) (fun c5 => ?_) (fun c5 => ?_)
  · have hf := it_s c5 hf
    refine b_bipush C (v := 40) dX12_reportsKept_24 (by decide) ?_
    refine b_sub [(0, .ref (ad B x0))] [0] rfl ?_
    exact tX12_reportsKept_26 C hr hlocks hf
  · have hf := if_s c5 hf
    refine b_aload_n C dX12_reportsKept_13 0 rfl rfl ?_
    refine b_gR C dX12_reportsKept_14 fl_X12_40 h1 er2 ?_
    refine b_sipush C (v := 555) dX12_reportsKept_17 (by decide) ?_
    refine b_iald C h3 h4 dX12_reportsKept_20 ?_
    refine b_goto C (tgt := 26) dX12_reportsKept_21 (by decide) ?_
    refine b_sub [(0, .ref (ad B x0))] [0] rfl ?_
    exact tX12_reportsKept_26 C hr hlocks hf
theorem kX12_reportsKept (l : Launch) (D : va_G) (cy : Nat → ClassId) (B : Bs) {N : Nat} {g : Gs} {x0 : Nat} {vz : Int32} {dz : Ds} {d : Ds} (hf : fX12_reportsKept N g x0 d = some (vz, dz)) : Met l yX12_reportsKept (.code yX12_reportsKept cX12_reportsKept 1 (some .int) :: wl) rmX12_reportsKept (PC D cy B [.ref (ad B x0)] g d) (QI D cy B vz g dz) 0 0 (wA B) :=
  met_of (by decide +kernel) (Nat.le_of_ble_eq_true rfl) (fun p e s m args below meth c C hr hlocks _ => b_sub [(0, .ref (ad B x0))] [0] rfl (tX12_reportsKept_E C hr hlocks hf))
/-! KeyMatrixModel.report(II)I -/
theorem yo_X12_reportsKept : yX12_reportsKept.cls ≠ "java/lang/invoke/MethodHandle" ∧ yX12_reportsKept.cls ≠ "java/lang/invoke/VarHandle" ∧ (parseMethodDescriptor yX12_reportsKept.desc).map (fun d => d.parameters.length) = some 0 := by decide +kernel
theorem co_X12_reportsKept : Cond.code yX12_reportsKept cX12_reportsKept 1 (some .int) ∈ wl := mW (mT7 (List.mem_of_getElem? (i := 10) (by decide +kernel))) rfl
theorem in_X12_reportsKept : Cond.initialized yX12_reportsKept.cls ∈ wl := mW (mT1 (List.mem_of_getElem? (i := 12) (by decide +kernel))) rfl
theorem im_X12_reportsKept : Cond.instanceMethod yX12_reportsKept ∈ wl := mW (mT7 (List.mem_of_getElem? (i := 9) (by decide +kernel))) rfl
theorem se_X12_reportsKept : Cond.selects yX12_reportsKept.cls yX12_reportsKept yX12_reportsKept ∈ wl := mW (mT0 (List.mem_of_getElem? (i := 88) (by decide +kernel))) rfl
theorem lv_X12_336 : LV RX12 336 yX12_reportsKept cX12_reportsKept 1 (some .int) 0 11 := ⟨⟨(RX12, TX12, 33), rfl, rfl⟩, yo_X12_reportsKept, mW (mT7 (List.mem_of_getElem? (i := 7) (by decide +kernel))) rfl, im_X12_reportsKept, se_X12_reportsKept, in_X12_reportsKept, co_X12_reportsKept⟩
theorem dX12_report_0 : decode cX12_report 0 = .ok (.iload_n 1, 1) := by decide +kernel
theorem dX12_report_1 : decode cX12_report 1 = .ok (.iconst 0, 1) := by decide +kernel
theorem dX12_report_2 : decode cX12_report 2 = .ok (.aload_n 0, 1) := by decide +kernel
theorem dX12_report_3 : decode cX12_report 3 = .ok (.invokevirtual 336, 3) := by decide +kernel
theorem dX12_report_6 : decode cX12_report 6 = .ok (.iconst 1, 1) := by decide +kernel
theorem dX12_report_7 : decode cX12_report 7 = .ok (.isub, 1) := by decide +kernel
theorem dX12_report_8 : decode cX12_report 8 = .ok (.invokestatic 169, 3) := by decide +kernel
theorem dX12_report_11 : decode cX12_report 11 = .ok (.ifCond .eq 7, 3) := by decide +kernel
theorem dX12_report_14 : decode cX12_report 14 = .ok (.iload_n 2, 1) := by decide +kernel
theorem dX12_report_15 : decode cX12_report 15 = .ok (.ifCond .ge 5, 3) := by decide +kernel
theorem dX12_report_18 : decode cX12_report 18 = .ok (.iconst (-1), 1) := by decide +kernel
theorem dX12_report_19 : decode cX12_report 19 = .ok (.ireturn, 1) := by decide +kernel
theorem dX12_report_20 : decode cX12_report 20 = .ok (.aload_n 0, 1) := by decide +kernel
theorem dX12_report_21 : decode cX12_report 21 = .ok (.iload_n 1, 1) := by decide +kernel
theorem dX12_report_22 : decode cX12_report 22 = .ok (.invokevirtual 311, 3) := by decide +kernel
theorem dX12_report_25 : decode cX12_report 25 = .ok (.istore_n 3, 1) := by decide +kernel
theorem dX12_report_26 : decode cX12_report 26 = .ok (.iload_n 2, 1) := by decide +kernel
theorem dX12_report_27 : decode cX12_report 27 = .ok (.iconst 3, 1) := by decide +kernel
theorem dX12_report_28 : decode cX12_report 28 = .ok (.if_icmp .ge 14, 3) := by decide +kernel
theorem dX12_report_31 : decode cX12_report 31 = .ok (.aload_n 0, 1) := by decide +kernel
theorem dX12_report_32 : decode cX12_report 32 = .ok (.getfield 40, 3) := by decide +kernel
theorem dX12_report_35 : decode cX12_report 35 = .ok (.iload_n 3, 1) := by decide +kernel
theorem dX12_report_36 : decode cX12_report 36 = .ok (.iload_n 2, 1) := by decide +kernel
theorem dX12_report_37 : decode cX12_report 37 = .ok (.iadd, 1) := by decide +kernel
theorem dX12_report_38 : decode cX12_report 38 = .ok (.iaload, 1) := by decide +kernel
theorem dX12_report_39 : decode cX12_report 39 = .ok (.goto 29, 3) := by decide +kernel
theorem dX12_report_42 : decode cX12_report 42 = .ok (.iload_n 2, 1) := by decide +kernel
theorem dX12_report_43 : decode cX12_report 43 = .ok (.iconst 3, 1) := by decide +kernel
theorem dX12_report_44 : decode cX12_report 44 = .ok (.isub, 1) := by decide +kernel
theorem dX12_report_45 : decode cX12_report 45 = .ok (.aload_n 0, 1) := by decide +kernel
theorem dX12_report_46 : decode cX12_report 46 = .ok (.getfield 40, 3) := by decide +kernel
theorem dX12_report_49 : decode cX12_report 49 = .ok (.iload_n 3, 1) := by decide +kernel
theorem dX12_report_50 : decode cX12_report 50 = .ok (.iconst 2, 1) := by decide +kernel
theorem dX12_report_51 : decode cX12_report 51 = .ok (.iadd, 1) := by decide +kernel
theorem dX12_report_52 : decode cX12_report 52 = .ok (.iaload, 1) := by decide +kernel
theorem dX12_report_53 : decode cX12_report 53 = .ok (.if_icmp .ge 14, 3) := by decide +kernel
theorem dX12_report_56 : decode cX12_report 56 = .ok (.aload_n 0, 1) := by decide +kernel
theorem dX12_report_57 : decode cX12_report 57 = .ok (.getfield 40, 3) := by decide +kernel
theorem dX12_report_60 : decode cX12_report 60 = .ok (.iload_n 3, 1) := by decide +kernel
theorem dX12_report_61 : decode cX12_report 61 = .ok (.iload_n 2, 1) := by decide +kernel
theorem dX12_report_62 : decode cX12_report 62 = .ok (.iadd, 1) := by decide +kernel
theorem dX12_report_63 : decode cX12_report 63 = .ok (.iaload, 1) := by decide +kernel
theorem dX12_report_64 : decode cX12_report 64 = .ok (.goto 4, 3) := by decide +kernel
theorem dX12_report_67 : decode cX12_report 67 = .ok (.iconst (-1), 1) := by decide +kernel
theorem dX12_report_68 : decode cX12_report 68 = .ok (.ireturn, 1) := by decide +kernel
def rmX12_report : Room := { frames := 1, cells := 0, slots := 0, locals := 22 }
set_option maxRecDepth 100000 in
def fX12_report_J18 (N : Nat) (g : Gs) (x0 : Nat) (x1 : Int32) (x2 : Int32) (d : Ds) : Option (Int32 × Ds) := some ((-1), d)
set_option maxHeartbeats 4000000 in
set_option maxRecDepth 100000 in
theorem tX12_report_18 {p : Program} {l : Launch} {e : Env} {s : State} {m : MethodId} {args : Array Value} {below : List Frame} {meth : Method} {c : Code} {D : va_G} {cy : Nat → ClassId} {B : Bs} (C : Cx p s m args c cX12_report 4 RX12 D cy B) (hr : meth.sig.returnType = (some .int)) (hlocks : meth.locks = false) {N : Nat} {g : Gs} {x0 : Nat} {x1 : Int32} {x2 : Int32} {vz : Int32} {dz : Ds} {d : Ds} (hf : fX12_report_J18 N g x0 x1 x2 d = some (vz, dz)) : WB p l e rmX12_report s m args below meth c 4 D cy B 0 0 (MQ below (QI D cy B vz g dz) args s 0 0 (wA B)) g d [(0, .ref (ad B x0)), (1, .int x1), (2, .int x2)] 18 [] := by
  unfold fX12_report_J18 at hf
  refine b_iconst C (v := (-1)) dX12_report_18 (by decide) ?_
  exact b_iret C hr hlocks hf dX12_report_19
set_option maxRecDepth 100000 in
def fX12_report_J68 (N : Nat) (g : Gs) (x0 : Nat) (x1 : Int32) (x2 : Int32) (z0 : Int32) (d : Ds) : Option (Int32 × Ds) := some (z0, d)
set_option maxHeartbeats 4000000 in
set_option maxRecDepth 100000 in
theorem tX12_report_68 {p : Program} {l : Launch} {e : Env} {s : State} {m : MethodId} {args : Array Value} {below : List Frame} {meth : Method} {c : Code} {D : va_G} {cy : Nat → ClassId} {B : Bs} (C : Cx p s m args c cX12_report 4 RX12 D cy B) (hr : meth.sig.returnType = (some .int)) (hlocks : meth.locks = false) {N : Nat} {g : Gs} {x0 : Nat} {x1 : Int32} {x2 : Int32} {vz : Int32} {dz : Ds} {z0 : Int32} {d : Ds} (hf : fX12_report_J68 N g x0 x1 x2 z0 d = some (vz, dz)) : WB p l e rmX12_report s m args below meth c 4 D cy B 0 0 (MQ below (QI D cy B vz g dz) args s 0 0 (wA B)) g d [(0, .ref (ad B x0)), (1, .int x1), (2, .int x2)] 68 [.int z0] := by
  unfold fX12_report_J68 at hf
  exact b_iret C hr hlocks hf dX12_report_68
set_option maxRecDepth 100000 in
def fX12_report (N : Nat) (g : Gs) (x0 : Nat) (x1 : Int32) (x2 : Int32) (d : Ds) : Option (Int32 × Ds) := gd (chk g x0 11) <| cb (fX12_reportsKept N g x0 d) fun u4 d2 => (cb (fX12_in N g x1 0 (u4 - 1) d2) fun u7 d5 => (if u7 = 0 then (fX12_report_J18 N g x0 x1 x2 d5) else (if 0 ≤ x2 then (cb (fX12_reportAt N g x0 x1 d5) fun u12 d10 => (if (3 : Int32) ≤ x2 then (ob (gR g x0 17) fun r14 => (gd (chk g r14 102) <| gd (¬ ((u12 + 2) < 0 ∨ gL g r14 ≤ (u12 + 2).toNatClampNeg)) <| if (dI d10 r14 (u12 + 2).toNatClampNeg) ≤ (x2 - 3) then (fX12_report_J68 N g x0 x1 x2 (-1) d10) else (gd (¬ ((u12 + x2) < 0 ∨ gL g r14 ≤ (u12 + x2).toNatClampNeg)) <| fX12_report_J68 N g x0 x1 x2 (dI d10 r14 (u12 + x2).toNatClampNeg) d10))) else (ob (gR g x0 17) fun r19 => (gd (chk g r19 102) <| gd (¬ ((u12 + x2) < 0 ∨ gL g r19 ≤ (u12 + x2).toNatClampNeg)) <| fX12_report_J68 N g x0 x1 x2 (dI d10 r19 (u12 + x2).toNatClampNeg) d10)))) else (fX12_report_J18 N g x0 x1 x2 d5))))
set_option maxHeartbeats 4000000 in
set_option maxRecDepth 100000 in
theorem tX12_report_E {p : Program} {l : Launch} {e : Env} {s : State} {m : MethodId} {args : Array Value} {below : List Frame} {meth : Method} {c : Code} {D : va_G} {cy : Nat → ClassId} {B : Bs} (C : Cx p s m args c cX12_report 4 RX12 D cy B) (hr : meth.sig.returnType = (some .int)) (hlocks : meth.locks = false) {N : Nat} {g : Gs} {x0 : Nat} {x1 : Int32} {x2 : Int32} {vz : Int32} {dz : Ds} {d : Ds} (hf : fX12_report N g x0 x1 x2 d = some (vz, dz)) : WB p l e rmX12_report s m args below meth c 4 D cy B 0 0 (MQ below (QI D cy B vz g dz) args s 0 0 (wA B)) g d [(0, .ref (ad B x0)), (1, .int x1), (2, .int x2)] 0 [] := by
  unfold fX12_report at hf
  refine b_iload_n C dX12_report_0 1 rfl rfl ?_
  refine b_iconst C (v := 0) dX12_report_1 (by decide) ?_
  refine b_aload_n C dX12_report_2 0 rfl rfl ?_
  obtain ⟨h1, hf⟩ := gd_s hf
  obtain ⟨u4, d2, k3, hf⟩ := cb_s hf
  refine b_cVI C [.int 0, .int x1] dX12_report_3 (kX12_reportsKept l D cy B k3) lv_X12_336 ⟨rfl, rfl, Nat.le_of_ble_eq_true rfl, Nat.le_of_ble_eq_true rfl⟩ h1 (by decide) rfl (Nat.le_of_ble_eq_true rfl) ⟨Nat.zero_le _, Nat.zero_le _⟩ rfl ?_
  refine b_iconst C (v := 1) dX12_report_6 (by decide) ?_
  refine b_isub C dX12_report_7 ?_
  obtain ⟨u7, d5, k6, hf⟩ := cb_s hf
  refine b_cSI C [] dX12_report_8 (kX12_in l D cy B k6) lv_X12_169 ⟨rfl, rfl, Nat.le_of_ble_eq_true rfl, Nat.le_of_ble_eq_true rfl⟩ rfl (Nat.le_of_ble_eq_true rfl) ⟨Nat.zero_le _, Nat.zero_le _⟩ rfl ?_
  refine b_if_eq C (tgt := 18) dX12_report_11 (by decide) (fun c8 => ?_) (fun c8 => ?_)
  · have hf := it_s c8 hf
    refine b_sub [(0, .ref (ad B x0)), (1, .int x1), (2, .int x2)] [0, 1, 2] rfl ?_
    exact tX12_report_18 C hr hlocks hf
  · have hf := if_s c8 hf
    refine b_iload_n C dX12_report_14 2 rfl rfl ?_
    refine b_if_ge C (tgt := 20) dX12_report_15 (by decide) (fun c9 => ?_) (fun c9 => ?_)
    · have hf := it_s c9 hf
      refine b_aload_n C dX12_report_20 0 rfl rfl ?_
      refine b_iload_n C dX12_report_21 1 rfl rfl ?_
      obtain ⟨u12, d10, k11, hf⟩ := cb_s hf
      refine b_cVI C [] dX12_report_22 (kX12_reportAt l D cy B k11) lv_X12_311 ⟨rfl, rfl, Nat.le_of_ble_eq_true rfl, Nat.le_of_ble_eq_true rfl⟩ h1 (by decide) rfl (Nat.le_of_ble_eq_true rfl) ⟨Nat.zero_le _, Nat.zero_le _⟩ rfl ?_
      refine b_istore_n C dX12_report_25 rfl [(3, .int u12), (0, .ref (ad B x0)), (1, .int x1), (2, .int x2)] (by decide) rfl ?_
      refine b_iload_n C dX12_report_26 3 rfl rfl ?_
      refine b_iconst C (v := 3) dX12_report_27 (by decide) ?_
      refine b_icmp_ge C (tgt := 42) dX12_report_28 (by decide) (fun c13 => ?_) (fun c13 => ?_)
      · have hf := it_s c13 hf
        refine b_iload_n C dX12_report_42 3 rfl rfl ?_
        refine b_iconst C (v := 3) dX12_report_43 (by decide) ?_
        refine b_isub C dX12_report_44 ?_
        refine b_aload_n C dX12_report_45 1 rfl rfl ?_
        obtain ⟨r14, er14, hf⟩ := ob_s hf
        refine b_gR C dX12_report_46 fl_X12_40 h1 er14 ?_
        refine b_iload_n C dX12_report_49 0 rfl rfl ?_
        refine b_iconst C (v := 2) dX12_report_50 (by decide) ?_
        refine b_iadd C dX12_report_51 ?_
        obtain ⟨h15, hf⟩ := gd_s hf
        obtain ⟨h16, hf⟩ := gd_s hf
        refine b_iald C h15 h16 dX12_report_52 ?_
        refine b_icmp_ge C (tgt := 67) dX12_report_53 (by decide) (fun c17 => ?_) (fun c17 => ?_)
        · have hf := it_s c17 hf
          refine b_iconst C (v := (-1)) dX12_report_67 (by decide) ?_
          refine b_sub [(0, .ref (ad B x0)), (1, .int x1), (2, .int x2)] [1, 2, 3] rfl ?_
          exact tX12_report_68 C hr hlocks hf
        · have hf := if_s c17 hf
          refine b_aload_n C dX12_report_56 1 rfl rfl ?_
          refine b_gR C dX12_report_57 fl_X12_40 h1 er14 ?_
          refine b_iload_n C dX12_report_60 0 rfl rfl ?_
          refine b_iload_n C dX12_report_61 3 rfl rfl ?_
          refine b_iadd C dX12_report_62 ?_
          obtain ⟨h18, hf⟩ := gd_s hf
          refine b_iald C h15 h18 dX12_report_63 ?_
          refine b_goto C (tgt := 68) dX12_report_64 (by decide) ?_
          refine b_sub [(0, .ref (ad B x0)), (1, .int x1), (2, .int x2)] [1, 2, 3] rfl ?_
          exact tX12_report_68 C hr hlocks hf
      · have hf := if_s c13 hf
        refine b_aload_n C dX12_report_31 1 rfl rfl ?_
        obtain ⟨r19, er19, hf⟩ := ob_s hf
        refine b_gR C dX12_report_32 fl_X12_40 h1 er19 ?_
        refine b_iload_n C dX12_report_35 0 rfl rfl ?_
        refine b_iload_n C dX12_report_36 3 rfl rfl ?_
        refine b_iadd C dX12_report_37 ?_
        obtain ⟨h20, hf⟩ := gd_s hf
        obtain ⟨h21, hf⟩ := gd_s hf
        refine b_iald C h20 h21 dX12_report_38 ?_
        refine b_goto C (tgt := 68) dX12_report_39 (by decide) ?_
        refine b_sub [(0, .ref (ad B x0)), (1, .int x1), (2, .int x2)] [1, 2, 3] rfl ?_
        exact tX12_report_68 C hr hlocks hf
    · have hf := if_s c9 hf
      refine b_sub [(0, .ref (ad B x0)), (1, .int x1), (2, .int x2)] [0, 1, 2] rfl ?_
      exact tX12_report_18 C hr hlocks hf
theorem kX12_report (l : Launch) (D : va_G) (cy : Nat → ClassId) (B : Bs) {N : Nat} {g : Gs} {x0 : Nat} {x1 : Int32} {x2 : Int32} {vz : Int32} {dz : Ds} {d : Ds} (hf : fX12_report N g x0 x1 x2 d = some (vz, dz)) : Met l yX12_report (.code yX12_report cX12_report 4 (some .int) :: wl) rmX12_report (PC D cy B [.ref (ad B x0), .int x1, .int x2] g d) (QI D cy B vz g dz) 0 0 (wA B) :=
  met_of (by decide +kernel) (Nat.le_of_ble_eq_true rfl) (fun p e s m args below meth c C hr hlocks _ => b_sub [(0, .ref (ad B x0)), (1, .int x1), (2, .int x2)] [0, 1, 2] rfl (tX12_report_E C hr hlocks hf))
/-! KeyMatrixModel.sent(I)I -/
theorem dX12_sent_0 : decode cX12_sent 0 = .ok (.aload_n 0, 1) := by decide +kernel
theorem dX12_sent_1 : decode cX12_sent 1 = .ok (.invokevirtual 314, 3) := by decide +kernel
theorem dX12_sent_4 : decode cX12_sent 4 = .ok (.iload_n 1, 1) := by decide +kernel
theorem dX12_sent_5 : decode cX12_sent 5 = .ok (.ifCond .ne 10, 3) := by decide +kernel
theorem dX12_sent_8 : decode cX12_sent 8 = .ok (.aload_n 0, 1) := by decide +kernel
theorem dX12_sent_9 : decode cX12_sent 9 = .ok (.getfield 302, 3) := by decide +kernel
theorem dX12_sent_12 : decode cX12_sent 12 = .ok (.goto 47, 3) := by decide +kernel
theorem dX12_sent_15 : decode cX12_sent 15 = .ok (.iload_n 1, 1) := by decide +kernel
theorem dX12_sent_16 : decode cX12_sent 16 = .ok (.iconst 1, 1) := by decide +kernel
theorem dX12_sent_17 : decode cX12_sent 17 = .ok (.if_icmp .ne 10, 3) := by decide +kernel
theorem dX12_sent_20 : decode cX12_sent 20 = .ok (.aload_n 0, 1) := by decide +kernel
theorem dX12_sent_21 : decode cX12_sent 21 = .ok (.getfield 299, 3) := by decide +kernel
theorem dX12_sent_24 : decode cX12_sent 24 = .ok (.goto 35, 3) := by decide +kernel
theorem dX12_sent_27 : decode cX12_sent 27 = .ok (.iload_n 1, 1) := by decide +kernel
theorem dX12_sent_28 : decode cX12_sent 28 = .ok (.iconst 2, 1) := by decide +kernel
theorem dX12_sent_29 : decode cX12_sent 29 = .ok (.isub, 1) := by decide +kernel
theorem dX12_sent_30 : decode cX12_sent 30 = .ok (.iconst 0, 1) := by decide +kernel
theorem dX12_sent_31 : decode cX12_sent 31 = .ok (.aload_n 0, 1) := by decide +kernel
theorem dX12_sent_32 : decode cX12_sent 32 = .ok (.getfield 299, 3) := by decide +kernel
theorem dX12_sent_35 : decode cX12_sent 35 = .ok (.iconst 1, 1) := by decide +kernel
theorem dX12_sent_36 : decode cX12_sent 36 = .ok (.isub, 1) := by decide +kernel
theorem dX12_sent_37 : decode cX12_sent 37 = .ok (.invokestatic 169, 3) := by decide +kernel
theorem dX12_sent_40 : decode cX12_sent 40 = .ok (.ifCond .eq 18, 3) := by decide +kernel
theorem dX12_sent_43 : decode cX12_sent 43 = .ok (.iload_n 1, 1) := by decide +kernel
theorem dX12_sent_44 : decode cX12_sent 44 = .ok (.ifCond .le 14, 3) := by decide +kernel
theorem dX12_sent_47 : decode cX12_sent 47 = .ok (.aload_n 0, 1) := by decide +kernel
theorem dX12_sent_48 : decode cX12_sent 48 = .ok (.getfield 56, 3) := by decide +kernel
theorem dX12_sent_51 : decode cX12_sent 51 = .ok (.iload_n 1, 1) := by decide +kernel
theorem dX12_sent_52 : decode cX12_sent 52 = .ok (.iconst 2, 1) := by decide +kernel
theorem dX12_sent_53 : decode cX12_sent 53 = .ok (.isub, 1) := by decide +kernel
theorem dX12_sent_54 : decode cX12_sent 54 = .ok (.iaload, 1) := by decide +kernel
theorem dX12_sent_55 : decode cX12_sent 55 = .ok (.goto 4, 3) := by decide +kernel
theorem dX12_sent_58 : decode cX12_sent 58 = .ok (.iconst (-1), 1) := by decide +kernel
theorem dX12_sent_59 : decode cX12_sent 59 = .ok (.ireturn, 1) := by decide +kernel
def rmX12_sent : Room := { frames := 2, cells := 0, slots := 0, locals := 46 }
set_option maxRecDepth 100000 in
def fX12_sent_J59 (N : Nat) (g : Gs) (x0 : Nat) (x1 : Int32) (z0 : Int32) (d : Ds) : Option (Int32 × Ds) := some (z0, d)
set_option maxHeartbeats 4000000 in
set_option maxRecDepth 100000 in
theorem tX12_sent_59 {p : Program} {l : Launch} {e : Env} {s : State} {m : MethodId} {args : Array Value} {below : List Frame} {meth : Method} {c : Code} {D : va_G} {cy : Nat → ClassId} {B : Bs} (C : Cx p s m args c cX12_sent 2 RX12 D cy B) (hr : meth.sig.returnType = (some .int)) (hlocks : meth.locks = false) {N : Nat} {g : Gs} {x0 : Nat} {x1 : Int32} {vz : Int32} {dz : Ds} {z0 : Int32} {d : Ds} (hf : fX12_sent_J59 N g x0 x1 z0 d = some (vz, dz)) : WB p l e rmX12_sent s m args below meth c 2 D cy B 0 0 (MQ below (QI D cy B vz g dz) args s 0 0 (wA B)) g d [(0, .ref (ad B x0)), (1, .int x1)] 59 [.int z0] := by
  unfold fX12_sent_J59 at hf
  exact b_iret C hr hlocks hf dX12_sent_59
set_option maxRecDepth 100000 in
def fX12_sent_J58 (N : Nat) (g : Gs) (x0 : Nat) (x1 : Int32) (d : Ds) : Option (Int32 × Ds) := fX12_sent_J59 N g x0 x1 (-1) d
set_option maxHeartbeats 4000000 in
set_option maxRecDepth 100000 in
theorem tX12_sent_58 {p : Program} {l : Launch} {e : Env} {s : State} {m : MethodId} {args : Array Value} {below : List Frame} {meth : Method} {c : Code} {D : va_G} {cy : Nat → ClassId} {B : Bs} (C : Cx p s m args c cX12_sent 2 RX12 D cy B) (hr : meth.sig.returnType = (some .int)) (hlocks : meth.locks = false) {N : Nat} {g : Gs} {x0 : Nat} {x1 : Int32} {vz : Int32} {dz : Ds} {d : Ds} (hf : fX12_sent_J58 N g x0 x1 d = some (vz, dz)) : WB p l e rmX12_sent s m args below meth c 2 D cy B 0 0 (MQ below (QI D cy B vz g dz) args s 0 0 (wA B)) g d [(0, .ref (ad B x0)), (1, .int x1)] 58 [] := by
  unfold fX12_sent_J58 at hf
  refine b_iconst C (v := (-1)) dX12_sent_58 (by decide) ?_
  refine b_sub [(0, .ref (ad B x0)), (1, .int x1)] [0, 1] rfl ?_
  exact tX12_sent_59 C hr hlocks hf
set_option maxRecDepth 100000 in
def fX12_sent (N : Nat) (g : Gs) (x0 : Nat) (x1 : Int32) (d : Ds) : Option (Int32 × Ds) := gd (chk g x0 11) <| cv (fX12_laysSent N g x0 d) fun d2 => (if x1 = 0 then (fX12_sent_J59 N g x0 x1 (dI d2 x0 25) d2) else (if x1 = (1 : Int32) then (fX12_sent_J59 N g x0 x1 (dI d2 x0 26) d2) else (cb (fX12_in N g (x1 - 2) 0 ((dI d2 x0 26) - 1) d2) fun u8 d6 => (if u8 = 0 then (fX12_sent_J58 N g x0 x1 d6) else (if x1 ≤ 0 then (fX12_sent_J58 N g x0 x1 d6) else (ob (gR g x0 27) fun r11 => (gd (chk g r11 102) <| gd (¬ ((x1 - 2) < 0 ∨ gL g r11 ≤ (x1 - 2).toNatClampNeg)) <| fX12_sent_J59 N g x0 x1 (dI d6 r11 (x1 - 2).toNatClampNeg) d6)))))))
set_option maxHeartbeats 4000000 in
set_option maxRecDepth 100000 in
theorem tX12_sent_E {p : Program} {l : Launch} {e : Env} {s : State} {m : MethodId} {args : Array Value} {below : List Frame} {meth : Method} {c : Code} {D : va_G} {cy : Nat → ClassId} {B : Bs} (C : Cx p s m args c cX12_sent 2 RX12 D cy B) (hr : meth.sig.returnType = (some .int)) (hlocks : meth.locks = false) {N : Nat} {g : Gs} {x0 : Nat} {x1 : Int32} {vz : Int32} {dz : Ds} {d : Ds} (hf : fX12_sent N g x0 x1 d = some (vz, dz)) : WB p l e rmX12_sent s m args below meth c 2 D cy B 0 0 (MQ below (QI D cy B vz g dz) args s 0 0 (wA B)) g d [(0, .ref (ad B x0)), (1, .int x1)] 0 [] := by
  unfold fX12_sent at hf
  refine b_aload_n C dX12_sent_0 0 rfl rfl ?_
  obtain ⟨h1, hf⟩ := gd_s hf
  obtain ⟨d2, k3, hf⟩ := cv_s hf
  refine b_cVN C [] dX12_sent_1 (kX12_laysSent l D cy B k3) lv_X12_314 ⟨rfl, rfl, Nat.le_of_ble_eq_true rfl, Nat.le_of_ble_eq_true rfl⟩ h1 (by decide) rfl (Nat.le_of_ble_eq_true rfl) ⟨Nat.zero_le _, Nat.zero_le _⟩ rfl ?_
  refine b_iload_n C dX12_sent_4 1 rfl rfl ?_
  refine b_if_ne C (tgt := 15) dX12_sent_5 (by decide) (fun c4 => ?_) (fun c4 => ?_)
  · have hf := if_s c4 hf
    refine b_iload_n C dX12_sent_15 1 rfl rfl ?_
    refine b_iconst C (v := 1) dX12_sent_16 (by decide) ?_
    refine b_icmp_ne C (tgt := 27) dX12_sent_17 (by decide) (fun c5 => ?_) (fun c5 => ?_)
    · have hf := if_s c5 hf
      refine b_iload_n C dX12_sent_27 1 rfl rfl ?_
      refine b_iconst C (v := 2) dX12_sent_28 (by decide) ?_
      refine b_isub C dX12_sent_29 ?_
      refine b_iconst C (v := 0) dX12_sent_30 (by decide) ?_
      refine b_aload_n C dX12_sent_31 0 rfl rfl ?_
      refine b_gI C dX12_sent_32 fl_X12_299 h1 ?_
      refine b_iconst C (v := 1) dX12_sent_35 (by decide) ?_
      refine b_isub C dX12_sent_36 ?_
      obtain ⟨u8, d6, k7, hf⟩ := cb_s hf
      refine b_cSI C [] dX12_sent_37 (kX12_in l D cy B k7) lv_X12_169 ⟨rfl, rfl, Nat.le_of_ble_eq_true rfl, Nat.le_of_ble_eq_true rfl⟩ rfl (Nat.le_of_ble_eq_true rfl) ⟨Nat.zero_le _, Nat.zero_le _⟩ rfl ?_
      refine b_if_eq C (tgt := 58) dX12_sent_40 (by decide) (fun c9 => ?_) (fun c9 => ?_)
      · have hf := it_s c9 hf
        refine b_sub [(0, .ref (ad B x0)), (1, .int x1)] [0, 1] rfl ?_
        exact tX12_sent_58 C hr hlocks hf
      · have hf := if_s c9 hf
        refine b_iload_n C dX12_sent_43 1 rfl rfl ?_
        refine b_if_le C (tgt := 58) dX12_sent_44 (by decide) (fun c10 => ?_) (fun c10 => ?_)
        · have hf := it_s c10 hf
          refine b_sub [(0, .ref (ad B x0)), (1, .int x1)] [0, 1] rfl ?_
          exact tX12_sent_58 C hr hlocks hf
        · have hf := if_s c10 hf
          refine b_aload_n C dX12_sent_47 0 rfl rfl ?_
          obtain ⟨r11, er11, hf⟩ := ob_s hf
          refine b_gR C dX12_sent_48 fl_X12_56 h1 er11 ?_
          refine b_iload_n C dX12_sent_51 1 rfl rfl ?_
          refine b_iconst C (v := 2) dX12_sent_52 (by decide) ?_
          refine b_isub C dX12_sent_53 ?_
          obtain ⟨h12, hf⟩ := gd_s hf
          obtain ⟨h13, hf⟩ := gd_s hf
          refine b_iald C h12 h13 dX12_sent_54 ?_
          refine b_goto C (tgt := 59) dX12_sent_55 (by decide) ?_
          refine b_sub [(0, .ref (ad B x0)), (1, .int x1)] [0, 1] rfl ?_
          exact tX12_sent_59 C hr hlocks hf
    · have hf := it_s c5 hf
      refine b_aload_n C dX12_sent_20 0 rfl rfl ?_
      refine b_gI C dX12_sent_21 fl_X12_299 h1 ?_
      refine b_goto C (tgt := 59) dX12_sent_24 (by decide) ?_
      refine b_sub [(0, .ref (ad B x0)), (1, .int x1)] [0, 1] rfl ?_
      exact tX12_sent_59 C hr hlocks hf
  · have hf := it_s c4 hf
    refine b_aload_n C dX12_sent_8 0 rfl rfl ?_
    refine b_gI C dX12_sent_9 fl_X12_302 h1 ?_
    refine b_goto C (tgt := 59) dX12_sent_12 (by decide) ?_
    refine b_sub [(0, .ref (ad B x0)), (1, .int x1)] [0, 1] rfl ?_
    exact tX12_sent_59 C hr hlocks hf
theorem kX12_sent (l : Launch) (D : va_G) (cy : Nat → ClassId) (B : Bs) {N : Nat} {g : Gs} {x0 : Nat} {x1 : Int32} {vz : Int32} {dz : Ds} {d : Ds} (hf : fX12_sent N g x0 x1 d = some (vz, dz)) : Met l yX12_sent (.code yX12_sent cX12_sent 2 (some .int) :: wl) rmX12_sent (PC D cy B [.ref (ad B x0), .int x1] g d) (QI D cy B vz g dz) 0 0 (wA B) :=
  met_of (by decide +kernel) (Nat.le_of_ble_eq_true rfl) (fun p e s m args below meth c C hr hlocks _ => b_sub [(0, .ref (ad B x0)), (1, .int x1)] [0, 1] rfl (tX12_sent_E C hr hlocks hf))
/-! KeyMatrixModel.host(I)I -/
theorem dX12_host_0 : decode cX12_host 0 = .ok (.iload_n 1, 1) := by decide +kernel
theorem dX12_host_1 : decode cX12_host 1 = .ok (.tableswitch 67 0 3 #[31, 40, 49, 58], 31) := by decide +kernel
theorem dX12_host_32 : decode cX12_host 32 = .ok (.aload_n 0, 1) := by decide +kernel
theorem dX12_host_33 : decode cX12_host 33 = .ok (.getfield 40, 3) := by decide +kernel
theorem dX12_host_36 : decode cX12_host 36 = .ok (.sipush 455, 3) := by decide +kernel
theorem dX12_host_39 : decode cX12_host 39 = .ok (.iaload, 1) := by decide +kernel
theorem dX12_host_40 : decode cX12_host 40 = .ok (.ireturn, 1) := by decide +kernel
theorem dX12_host_41 : decode cX12_host 41 = .ok (.aload_n 0, 1) := by decide +kernel
theorem dX12_host_42 : decode cX12_host 42 = .ok (.getfield 40, 3) := by decide +kernel
theorem dX12_host_45 : decode cX12_host 45 = .ok (.sipush 456, 3) := by decide +kernel
theorem dX12_host_48 : decode cX12_host 48 = .ok (.iaload, 1) := by decide +kernel
theorem dX12_host_49 : decode cX12_host 49 = .ok (.ireturn, 1) := by decide +kernel
theorem dX12_host_50 : decode cX12_host 50 = .ok (.aload_n 0, 1) := by decide +kernel
theorem dX12_host_51 : decode cX12_host 51 = .ok (.getfield 40, 3) := by decide +kernel
theorem dX12_host_54 : decode cX12_host 54 = .ok (.sipush 457, 3) := by decide +kernel
theorem dX12_host_57 : decode cX12_host 57 = .ok (.iaload, 1) := by decide +kernel
theorem dX12_host_58 : decode cX12_host 58 = .ok (.ireturn, 1) := by decide +kernel
theorem dX12_host_59 : decode cX12_host 59 = .ok (.aload_n 0, 1) := by decide +kernel
theorem dX12_host_60 : decode cX12_host 60 = .ok (.getfield 40, 3) := by decide +kernel
theorem dX12_host_63 : decode cX12_host 63 = .ok (.sipush 458, 3) := by decide +kernel
theorem dX12_host_66 : decode cX12_host 66 = .ok (.iaload, 1) := by decide +kernel
theorem dX12_host_67 : decode cX12_host 67 = .ok (.ireturn, 1) := by decide +kernel
theorem dX12_host_68 : decode cX12_host 68 = .ok (.bipush (-2), 2) := by decide +kernel
theorem dX12_host_70 : decode cX12_host 70 = .ok (.ireturn, 1) := by decide +kernel
def rmX12_host : Room := { frames := 0, cells := 0, slots := 0, locals := 0 }
set_option maxRecDepth 100000 in
def fX12_host (N : Nat) (g : Gs) (x0 : Nat) (x1 : Int32) (d : Ds) : Option (Int32 × Ds) := if x1.toInt < 0 ∨ 3 < x1.toInt then (some ((-2), d)) else if x1 = 0 then (gd (chk g x0 11) <| ob (gR g x0 17) fun r4 => (gd (chk g r4 102) <| gd (¬ ((455 : Int32) < 0 ∨ gL g r4 ≤ (455 : Int32).toNatClampNeg)) <| some ((dI d r4 (455 : Int32).toNatClampNeg), d))) else if x1 = 1 then (gd (chk g x0 11) <| ob (gR g x0 17) fun r9 => (gd (chk g r9 102) <| gd (¬ ((456 : Int32) < 0 ∨ gL g r9 ≤ (456 : Int32).toNatClampNeg)) <| some ((dI d r9 (456 : Int32).toNatClampNeg), d))) else if x1 = 2 then (gd (chk g x0 11) <| ob (gR g x0 17) fun r14 => (gd (chk g r14 102) <| gd (¬ ((457 : Int32) < 0 ∨ gL g r14 ≤ (457 : Int32).toNatClampNeg)) <| some ((dI d r14 (457 : Int32).toNatClampNeg), d))) else if x1 = 3 then (gd (chk g x0 11) <| ob (gR g x0 17) fun r19 => (gd (chk g r19 102) <| gd (¬ ((458 : Int32) < 0 ∨ gL g r19 ≤ (458 : Int32).toNatClampNeg)) <| some ((dI d r19 (458 : Int32).toNatClampNeg), d))) else none
set_option maxHeartbeats 4000000 in
set_option maxRecDepth 100000 in
theorem tX12_host_E {p : Program} {l : Launch} {e : Env} {s : State} {m : MethodId} {args : Array Value} {below : List Frame} {meth : Method} {c : Code} {D : va_G} {cy : Nat → ClassId} {B : Bs} (C : Cx p s m args c cX12_host 2 RX12 D cy B) (hr : meth.sig.returnType = (some .int)) (hlocks : meth.locks = false) {N : Nat} {g : Gs} {x0 : Nat} {x1 : Int32} {vz : Int32} {dz : Ds} {d : Ds} (hf : fX12_host N g x0 x1 d = some (vz, dz)) : WB p l e rmX12_host s m args below meth c 2 D cy B 0 0 (MQ below (QI D cy B vz g dz) args s 0 0 (wA B)) g d [(0, .ref (ad B x0)), (1, .int x1)] 0 [] := by
  unfold fX12_host at hf
  refine b_iload_n C dX12_host_0 1 rfl rfl ?_
  by_cases c1 : x1.toInt < 0 ∨ 3 < x1.toInt
  · have hf := it_s c1 hf
    refine b_tabOut C (tgt := 68) dX12_host_1 c1 (by decide) ?_
    refine b_bipush C (v := (-2)) dX12_host_68 (by decide) ?_
    exact b_iret C hr hlocks hf dX12_host_70
  · have hf := if_s c1 hf
    by_cases c2 : x1 = 0
    · have hf := it_s c2 hf
      refine b_tabIn C (tgt := 32) (off := 31) dX12_host_1 c2 (by decide) (by decide) (by decide) (by decide) ?_
      refine b_aload_n C dX12_host_32 0 rfl rfl ?_
      obtain ⟨h3, hf⟩ := gd_s hf
      obtain ⟨r4, er4, hf⟩ := ob_s hf
      refine b_gR C dX12_host_33 fl_X12_40 h3 er4 ?_
      refine b_sipush C (v := 455) dX12_host_36 (by decide) ?_
      obtain ⟨h5, hf⟩ := gd_s hf
      obtain ⟨h6, hf⟩ := gd_s hf
      refine b_iald C h5 h6 dX12_host_39 ?_
      exact b_iret C hr hlocks hf dX12_host_40
    have hf := if_s c2 hf
    by_cases c7 : x1 = 1
    · have hf := it_s c7 hf
      refine b_tabIn C (tgt := 41) (off := 40) dX12_host_1 c7 (by decide) (by decide) (by decide) (by decide) ?_
      refine b_aload_n C dX12_host_41 0 rfl rfl ?_
      obtain ⟨h8, hf⟩ := gd_s hf
      obtain ⟨r9, er9, hf⟩ := ob_s hf
      refine b_gR C dX12_host_42 fl_X12_40 h8 er9 ?_
      refine b_sipush C (v := 456) dX12_host_45 (by decide) ?_
      obtain ⟨h10, hf⟩ := gd_s hf
      obtain ⟨h11, hf⟩ := gd_s hf
      refine b_iald C h10 h11 dX12_host_48 ?_
      exact b_iret C hr hlocks hf dX12_host_49
    have hf := if_s c7 hf
    by_cases c12 : x1 = 2
    · have hf := it_s c12 hf
      refine b_tabIn C (tgt := 50) (off := 49) dX12_host_1 c12 (by decide) (by decide) (by decide) (by decide) ?_
      refine b_aload_n C dX12_host_50 0 rfl rfl ?_
      obtain ⟨h13, hf⟩ := gd_s hf
      obtain ⟨r14, er14, hf⟩ := ob_s hf
      refine b_gR C dX12_host_51 fl_X12_40 h13 er14 ?_
      refine b_sipush C (v := 457) dX12_host_54 (by decide) ?_
      obtain ⟨h15, hf⟩ := gd_s hf
      obtain ⟨h16, hf⟩ := gd_s hf
      refine b_iald C h15 h16 dX12_host_57 ?_
      exact b_iret C hr hlocks hf dX12_host_58
    have hf := if_s c12 hf
    by_cases c17 : x1 = 3
    · have hf := it_s c17 hf
      refine b_tabIn C (tgt := 59) (off := 58) dX12_host_1 c17 (by decide) (by decide) (by decide) (by decide) ?_
      refine b_aload_n C dX12_host_59 0 rfl rfl ?_
      obtain ⟨h18, hf⟩ := gd_s hf
      obtain ⟨r19, er19, hf⟩ := ob_s hf
      refine b_gR C dX12_host_60 fl_X12_40 h18 er19 ?_
      refine b_sipush C (v := 458) dX12_host_63 (by decide) ?_
      obtain ⟨h20, hf⟩ := gd_s hf
      obtain ⟨h21, hf⟩ := gd_s hf
      refine b_iald C h20 h21 dX12_host_66 ?_
      exact b_iret C hr hlocks hf dX12_host_67
    have hf := if_s c17 hf
    cases hf
theorem kX12_host (l : Launch) (D : va_G) (cy : Nat → ClassId) (B : Bs) {N : Nat} {g : Gs} {x0 : Nat} {x1 : Int32} {vz : Int32} {dz : Ds} {d : Ds} (hf : fX12_host N g x0 x1 d = some (vz, dz)) : Met l yX12_host (.code yX12_host cX12_host 2 (some .int) :: wl) rmX12_host (PC D cy B [.ref (ad B x0), .int x1] g d) (QI D cy B vz g dz) 0 0 (wA B) :=
  met_of (by decide +kernel) (Nat.le_of_ble_eq_true rfl) (fun p e s m args below meth c C hr hlocks _ => b_sub [(0, .ref (ad B x0)), (1, .int x1)] [0, 1] rfl (tX12_host_E C hr hlocks hf))
/-! KeyMatrixModel.strokes(II)I -/
theorem dX12_strokes_0 : decode cX12_strokes 0 = .ok (.aload_n 0, 1) := by decide +kernel
theorem dX12_strokes_1 : decode cX12_strokes 1 = .ok (.iload_n 1, 1) := by decide +kernel
theorem dX12_strokes_2 : decode cX12_strokes 2 = .ok (.invokevirtual 220, 3) := by decide +kernel
theorem dX12_strokes_5 : decode cX12_strokes 5 = .ok (.ifCond .ne 6, 3) := by decide +kernel
theorem dX12_strokes_8 : decode cX12_strokes 8 = .ok (.bipush (-2), 2) := by decide +kernel
theorem dX12_strokes_10 : decode cX12_strokes 10 = .ok (.ireturn, 1) := by decide +kernel
theorem dX12_strokes_11 : decode cX12_strokes 11 = .ok (.iload_n 2, 1) := by decide +kernel
theorem dX12_strokes_12 : decode cX12_strokes 12 = .ok (.ifCond .ne 16, 3) := by decide +kernel
theorem dX12_strokes_15 : decode cX12_strokes 15 = .ok (.aload_n 0, 1) := by decide +kernel
theorem dX12_strokes_16 : decode cX12_strokes 16 = .ok (.getfield 40, 3) := by decide +kernel
theorem dX12_strokes_19 : decode cX12_strokes 19 = .ok (.sipush 459, 3) := by decide +kernel
theorem dX12_strokes_22 : decode cX12_strokes 22 = .ok (.iload_n 1, 1) := by decide +kernel
theorem dX12_strokes_23 : decode cX12_strokes 23 = .ok (.iadd, 1) := by decide +kernel
theorem dX12_strokes_24 : decode cX12_strokes 24 = .ok (.iaload, 1) := by decide +kernel
theorem dX12_strokes_25 : decode cX12_strokes 25 = .ok (.goto 41, 3) := by decide +kernel
theorem dX12_strokes_28 : decode cX12_strokes 28 = .ok (.iload_n 2, 1) := by decide +kernel
theorem dX12_strokes_29 : decode cX12_strokes 29 = .ok (.iconst 1, 1) := by decide +kernel
theorem dX12_strokes_30 : decode cX12_strokes 30 = .ok (.if_icmp .ne 16, 3) := by decide +kernel
theorem dX12_strokes_33 : decode cX12_strokes 33 = .ok (.aload_n 0, 1) := by decide +kernel
theorem dX12_strokes_34 : decode cX12_strokes 34 = .ok (.getfield 40, 3) := by decide +kernel
theorem dX12_strokes_37 : decode cX12_strokes 37 = .ok (.sipush 483, 3) := by decide +kernel
theorem dX12_strokes_40 : decode cX12_strokes 40 = .ok (.iload_n 1, 1) := by decide +kernel
theorem dX12_strokes_41 : decode cX12_strokes 41 = .ok (.iadd, 1) := by decide +kernel
theorem dX12_strokes_42 : decode cX12_strokes 42 = .ok (.iaload, 1) := by decide +kernel
theorem dX12_strokes_43 : decode cX12_strokes 43 = .ok (.goto 23, 3) := by decide +kernel
theorem dX12_strokes_46 : decode cX12_strokes 46 = .ok (.iload_n 2, 1) := by decide +kernel
theorem dX12_strokes_47 : decode cX12_strokes 47 = .ok (.iconst 2, 1) := by decide +kernel
theorem dX12_strokes_48 : decode cX12_strokes 48 = .ok (.if_icmp .ne 16, 3) := by decide +kernel
theorem dX12_strokes_51 : decode cX12_strokes 51 = .ok (.aload_n 0, 1) := by decide +kernel
theorem dX12_strokes_52 : decode cX12_strokes 52 = .ok (.getfield 40, 3) := by decide +kernel
theorem dX12_strokes_55 : decode cX12_strokes 55 = .ok (.sipush 507, 3) := by decide +kernel
theorem dX12_strokes_58 : decode cX12_strokes 58 = .ok (.iload_n 1, 1) := by decide +kernel
theorem dX12_strokes_59 : decode cX12_strokes 59 = .ok (.iadd, 1) := by decide +kernel
theorem dX12_strokes_60 : decode cX12_strokes 60 = .ok (.iaload, 1) := by decide +kernel
theorem dX12_strokes_61 : decode cX12_strokes 61 = .ok (.goto 5, 3) := by decide +kernel
theorem dX12_strokes_64 : decode cX12_strokes 64 = .ok (.bipush (-2), 2) := by decide +kernel
theorem dX12_strokes_66 : decode cX12_strokes 66 = .ok (.ireturn, 1) := by decide +kernel
def rmX12_strokes : Room := { frames := 2, cells := 0, slots := 0, locals := 43 }
set_option maxRecDepth 100000 in
def fX12_strokes_J66 (N : Nat) (g : Gs) (x0 : Nat) (x1 : Int32) (x2 : Int32) (z0 : Int32) (d : Ds) : Option (Int32 × Ds) := some (z0, d)
set_option maxHeartbeats 4000000 in
set_option maxRecDepth 100000 in
theorem tX12_strokes_66 {p : Program} {l : Launch} {e : Env} {s : State} {m : MethodId} {args : Array Value} {below : List Frame} {meth : Method} {c : Code} {D : va_G} {cy : Nat → ClassId} {B : Bs} (C : Cx p s m args c cX12_strokes 3 RX12 D cy B) (hr : meth.sig.returnType = (some .int)) (hlocks : meth.locks = false) {N : Nat} {g : Gs} {x0 : Nat} {x1 : Int32} {x2 : Int32} {vz : Int32} {dz : Ds} {z0 : Int32} {d : Ds} (hf : fX12_strokes_J66 N g x0 x1 x2 z0 d = some (vz, dz)) : WB p l e rmX12_strokes s m args below meth c 3 D cy B 0 0 (MQ below (QI D cy B vz g dz) args s 0 0 (wA B)) g d [(0, .ref (ad B x0)), (1, .int x1), (2, .int x2)] 66 [.int z0] := by
  unfold fX12_strokes_J66 at hf
  exact b_iret C hr hlocks hf dX12_strokes_66
set_option maxRecDepth 100000 in
def fX12_strokes (N : Nat) (g : Gs) (x0 : Nat) (x1 : Int32) (x2 : Int32) (d : Ds) : Option (Int32 × Ds) := gd (chk g x0 11) <| cb (fX12_isKey N g x0 x1 d) fun u4 d2 => (if u4 = 0 then (some ((-2), d2)) else (if x2 = 0 then (ob (gR g x0 17) fun r15 => (gd (chk g r15 102) <| gd (¬ (((459 : Int32) + x1) < 0 ∨ gL g r15 ≤ ((459 : Int32) + x1).toNatClampNeg)) <| fX12_strokes_J66 N g x0 x1 x2 (dI d2 r15 ((459 : Int32) + x1).toNatClampNeg) d2)) else (if x2 = (1 : Int32) then (ob (gR g x0 17) fun r12 => (gd (chk g r12 102) <| gd (¬ (((483 : Int32) + x1) < 0 ∨ gL g r12 ≤ ((483 : Int32) + x1).toNatClampNeg)) <| fX12_strokes_J66 N g x0 x1 x2 (dI d2 r12 ((483 : Int32) + x1).toNatClampNeg) d2)) else (if x2 = (2 : Int32) then (ob (gR g x0 17) fun r9 => (gd (chk g r9 102) <| gd (¬ (((507 : Int32) + x1) < 0 ∨ gL g r9 ≤ ((507 : Int32) + x1).toNatClampNeg)) <| fX12_strokes_J66 N g x0 x1 x2 (dI d2 r9 ((507 : Int32) + x1).toNatClampNeg) d2)) else (fX12_strokes_J66 N g x0 x1 x2 (-2) d2)))))
set_option maxHeartbeats 4000000 in
set_option maxRecDepth 100000 in
theorem tX12_strokes_E {p : Program} {l : Launch} {e : Env} {s : State} {m : MethodId} {args : Array Value} {below : List Frame} {meth : Method} {c : Code} {D : va_G} {cy : Nat → ClassId} {B : Bs} (C : Cx p s m args c cX12_strokes 3 RX12 D cy B) (hr : meth.sig.returnType = (some .int)) (hlocks : meth.locks = false) {N : Nat} {g : Gs} {x0 : Nat} {x1 : Int32} {x2 : Int32} {vz : Int32} {dz : Ds} {d : Ds} (hf : fX12_strokes N g x0 x1 x2 d = some (vz, dz)) : WB p l e rmX12_strokes s m args below meth c 3 D cy B 0 0 (MQ below (QI D cy B vz g dz) args s 0 0 (wA B)) g d [(0, .ref (ad B x0)), (1, .int x1), (2, .int x2)] 0 [] := by
  unfold fX12_strokes at hf
  refine b_aload_n C dX12_strokes_0 0 rfl rfl ?_
  refine b_iload_n C dX12_strokes_1 1 rfl rfl ?_
  obtain ⟨h1, hf⟩ := gd_s hf
  obtain ⟨u4, d2, k3, hf⟩ := cb_s hf
  refine b_cVI C [] dX12_strokes_2 (kX12_isKey l D cy B k3) lv_X12_220 ⟨rfl, rfl, Nat.le_of_ble_eq_true rfl, Nat.le_of_ble_eq_true rfl⟩ h1 (by decide) rfl (Nat.le_of_ble_eq_true rfl) ⟨Nat.zero_le _, Nat.zero_le _⟩ rfl ?_
  refine b_if_ne C (tgt := 11) dX12_strokes_5 (by decide) (fun c5 => ?_) (fun c5 => ?_)
  · have hf := if_s c5 hf
    refine b_iload_n C dX12_strokes_11 2 rfl rfl ?_
    refine b_if_ne C (tgt := 28) dX12_strokes_12 (by decide) (fun c6 => ?_) (fun c6 => ?_)
    · have hf := if_s c6 hf
      refine b_iload_n C dX12_strokes_28 2 rfl rfl ?_
      refine b_iconst C (v := 1) dX12_strokes_29 (by decide) ?_
      refine b_icmp_ne C (tgt := 46) dX12_strokes_30 (by decide) (fun c7 => ?_) (fun c7 => ?_)
      · have hf := if_s c7 hf
        refine b_iload_n C dX12_strokes_46 2 rfl rfl ?_
        refine b_iconst C (v := 2) dX12_strokes_47 (by decide) ?_
        refine b_icmp_ne C (tgt := 64) dX12_strokes_48 (by decide) (fun c8 => ?_) (fun c8 => ?_)
        · have hf := if_s c8 hf
          refine b_bipush C (v := (-2)) dX12_strokes_64 (by decide) ?_
          refine b_sub [(0, .ref (ad B x0)), (1, .int x1), (2, .int x2)] [0, 1, 2] rfl ?_
          exact tX12_strokes_66 C hr hlocks hf
        · have hf := it_s c8 hf
          refine b_aload_n C dX12_strokes_51 0 rfl rfl ?_
          obtain ⟨r9, er9, hf⟩ := ob_s hf
          refine b_gR C dX12_strokes_52 fl_X12_40 h1 er9 ?_
          refine b_sipush C (v := 507) dX12_strokes_55 (by decide) ?_
          refine b_iload_n C dX12_strokes_58 1 rfl rfl ?_
          refine b_iadd C dX12_strokes_59 ?_
          obtain ⟨h10, hf⟩ := gd_s hf
          obtain ⟨h11, hf⟩ := gd_s hf
          refine b_iald C h10 h11 dX12_strokes_60 ?_
          refine b_goto C (tgt := 66) dX12_strokes_61 (by decide) ?_
          refine b_sub [(0, .ref (ad B x0)), (1, .int x1), (2, .int x2)] [0, 1, 2] rfl ?_
          exact tX12_strokes_66 C hr hlocks hf
      · have hf := it_s c7 hf
        refine b_aload_n C dX12_strokes_33 0 rfl rfl ?_
        obtain ⟨r12, er12, hf⟩ := ob_s hf
        refine b_gR C dX12_strokes_34 fl_X12_40 h1 er12 ?_
        refine b_sipush C (v := 483) dX12_strokes_37 (by decide) ?_
        refine b_iload_n C dX12_strokes_40 1 rfl rfl ?_
        refine b_iadd C dX12_strokes_41 ?_
        obtain ⟨h13, hf⟩ := gd_s hf
        obtain ⟨h14, hf⟩ := gd_s hf
        refine b_iald C h13 h14 dX12_strokes_42 ?_
        refine b_goto C (tgt := 66) dX12_strokes_43 (by decide) ?_
        refine b_sub [(0, .ref (ad B x0)), (1, .int x1), (2, .int x2)] [0, 1, 2] rfl ?_
        exact tX12_strokes_66 C hr hlocks hf
    · have hf := it_s c6 hf
      refine b_aload_n C dX12_strokes_15 0 rfl rfl ?_
      obtain ⟨r15, er15, hf⟩ := ob_s hf
      refine b_gR C dX12_strokes_16 fl_X12_40 h1 er15 ?_
      refine b_sipush C (v := 459) dX12_strokes_19 (by decide) ?_
      refine b_iload_n C dX12_strokes_22 1 rfl rfl ?_
      refine b_iadd C dX12_strokes_23 ?_
      obtain ⟨h16, hf⟩ := gd_s hf
      obtain ⟨h17, hf⟩ := gd_s hf
      refine b_iald C h16 h17 dX12_strokes_24 ?_
      refine b_goto C (tgt := 66) dX12_strokes_25 (by decide) ?_
      refine b_sub [(0, .ref (ad B x0)), (1, .int x1), (2, .int x2)] [0, 1, 2] rfl ?_
      exact tX12_strokes_66 C hr hlocks hf
  · have hf := it_s c5 hf
    refine b_bipush C (v := (-2)) dX12_strokes_8 (by decide) ?_
    exact b_iret C hr hlocks hf dX12_strokes_10
theorem kX12_strokes (l : Launch) (D : va_G) (cy : Nat → ClassId) (B : Bs) {N : Nat} {g : Gs} {x0 : Nat} {x1 : Int32} {x2 : Int32} {vz : Int32} {dz : Ds} {d : Ds} (hf : fX12_strokes N g x0 x1 x2 d = some (vz, dz)) : Met l yX12_strokes (.code yX12_strokes cX12_strokes 3 (some .int) :: wl) rmX12_strokes (PC D cy B [.ref (ad B x0), .int x1, .int x2] g d) (QI D cy B vz g dz) 0 0 (wA B) :=
  met_of (by decide +kernel) (Nat.le_of_ble_eq_true rfl) (fun p e s m args below meth c C hr hlocks _ => b_sub [(0, .ref (ad B x0)), (1, .int x1), (2, .int x2)] [0, 1, 2] rfl (tX12_strokes_E C hr hlocks hf))
/-! KeyMatrixModel.chord(II)I -/
theorem dX12_chord_0 : decode cX12_chord 0 = .ok (.iload_n 1, 1) := by decide +kernel
theorem dX12_chord_1 : decode cX12_chord 1 = .ok (.iconst (-1), 1) := by decide +kernel
theorem dX12_chord_2 : decode cX12_chord 2 = .ok (.if_icmp .ne 11, 3) := by decide +kernel
theorem dX12_chord_5 : decode cX12_chord 5 = .ok (.aload_n 0, 1) := by decide +kernel
theorem dX12_chord_6 : decode cX12_chord 6 = .ok (.getfield 40, 3) := by decide +kernel
theorem dX12_chord_9 : decode cX12_chord 9 = .ok (.bipush 10, 2) := by decide +kernel
theorem dX12_chord_11 : decode cX12_chord 11 = .ok (.iaload, 1) := by decide +kernel
theorem dX12_chord_12 : decode cX12_chord 12 = .ok (.ireturn, 1) := by decide +kernel
theorem dX12_chord_13 : decode cX12_chord 13 = .ok (.iload_n 1, 1) := by decide +kernel
theorem dX12_chord_14 : decode cX12_chord 14 = .ok (.iconst 0, 1) := by decide +kernel
theorem dX12_chord_15 : decode cX12_chord 15 = .ok (.aload_n 0, 1) := by decide +kernel
theorem dX12_chord_16 : decode cX12_chord 16 = .ok (.getfield 40, 3) := by decide +kernel
theorem dX12_chord_19 : decode cX12_chord 19 = .ok (.bipush 10, 2) := by decide +kernel
theorem dX12_chord_21 : decode cX12_chord 21 = .ok (.iaload, 1) := by decide +kernel
theorem dX12_chord_22 : decode cX12_chord 22 = .ok (.iconst 1, 1) := by decide +kernel
theorem dX12_chord_23 : decode cX12_chord 23 = .ok (.isub, 1) := by decide +kernel
theorem dX12_chord_24 : decode cX12_chord 24 = .ok (.invokestatic 169, 3) := by decide +kernel
theorem dX12_chord_27 : decode cX12_chord 27 = .ok (.ifCond .eq 12, 3) := by decide +kernel
theorem dX12_chord_30 : decode cX12_chord 30 = .ok (.iload_n 2, 1) := by decide +kernel
theorem dX12_chord_31 : decode cX12_chord 31 = .ok (.iconst 0, 1) := by decide +kernel
theorem dX12_chord_32 : decode cX12_chord 32 = .ok (.iconst 2, 1) := by decide +kernel
theorem dX12_chord_33 : decode cX12_chord 33 = .ok (.invokestatic 169, 3) := by decide +kernel
theorem dX12_chord_36 : decode cX12_chord 36 = .ok (.ifCond .ne 5, 3) := by decide +kernel
theorem dX12_chord_39 : decode cX12_chord 39 = .ok (.iconst (-1), 1) := by decide +kernel
theorem dX12_chord_40 : decode cX12_chord 40 = .ok (.ireturn, 1) := by decide +kernel
theorem dX12_chord_41 : decode cX12_chord 41 = .ok (.iload_n 2, 1) := by decide +kernel
theorem dX12_chord_42 : decode cX12_chord 42 = .ok (.iconst 2, 1) := by decide +kernel
theorem dX12_chord_43 : decode cX12_chord 43 = .ok (.if_icmp .ge 20, 3) := by decide +kernel
theorem dX12_chord_46 : decode cX12_chord 46 = .ok (.aload_n 0, 1) := by decide +kernel
theorem dX12_chord_47 : decode cX12_chord 47 = .ok (.getfield 40, 3) := by decide +kernel
theorem dX12_chord_50 : decode cX12_chord 50 = .ok (.sipush 300, 3) := by decide +kernel
theorem dX12_chord_53 : decode cX12_chord 53 = .ok (.iconst 4, 1) := by decide +kernel
theorem dX12_chord_54 : decode cX12_chord 54 = .ok (.iload_n 1, 1) := by decide +kernel
theorem dX12_chord_55 : decode cX12_chord 55 = .ok (.imul, 1) := by decide +kernel
theorem dX12_chord_56 : decode cX12_chord 56 = .ok (.iadd, 1) := by decide +kernel
theorem dX12_chord_57 : decode cX12_chord 57 = .ok (.iload_n 2, 1) := by decide +kernel
theorem dX12_chord_58 : decode cX12_chord 58 = .ok (.iadd, 1) := by decide +kernel
theorem dX12_chord_59 : decode cX12_chord 59 = .ok (.iaload, 1) := by decide +kernel
theorem dX12_chord_60 : decode cX12_chord 60 = .ok (.goto 15, 3) := by decide +kernel
theorem dX12_chord_63 : decode cX12_chord 63 = .ok (.aload_n 0, 1) := by decide +kernel
theorem dX12_chord_64 : decode cX12_chord 64 = .ok (.getfield 40, 3) := by decide +kernel
theorem dX12_chord_67 : decode cX12_chord 67 = .ok (.sipush 453, 3) := by decide +kernel
theorem dX12_chord_70 : decode cX12_chord 70 = .ok (.iaload, 1) := by decide +kernel
theorem dX12_chord_71 : decode cX12_chord 71 = .ok (.iload_n 1, 1) := by decide +kernel
theorem dX12_chord_72 : decode cX12_chord 72 = .ok (.ishr, 1) := by decide +kernel
theorem dX12_chord_73 : decode cX12_chord 73 = .ok (.iconst 1, 1) := by decide +kernel
theorem dX12_chord_74 : decode cX12_chord 74 = .ok (.iand, 1) := by decide +kernel
theorem dX12_chord_75 : decode cX12_chord 75 = .ok (.ireturn, 1) := by decide +kernel
def rmX12_chord : Room := { frames := 1, cells := 0, slots := 0, locals := 22 }
set_option maxRecDepth 100000 in
def fX12_chord_J39 (N : Nat) (g : Gs) (x0 : Nat) (x1 : Int32) (x2 : Int32) (d : Ds) : Option (Int32 × Ds) := some ((-1), d)
set_option maxHeartbeats 4000000 in
set_option maxRecDepth 100000 in
theorem tX12_chord_39 {p : Program} {l : Launch} {e : Env} {s : State} {m : MethodId} {args : Array Value} {below : List Frame} {meth : Method} {c : Code} {D : va_G} {cy : Nat → ClassId} {B : Bs} (C : Cx p s m args c cX12_chord 3 RX12 D cy B) (hr : meth.sig.returnType = (some .int)) (hlocks : meth.locks = false) {N : Nat} {g : Gs} {x0 : Nat} {x1 : Int32} {x2 : Int32} {vz : Int32} {dz : Ds} {d : Ds} (hf : fX12_chord_J39 N g x0 x1 x2 d = some (vz, dz)) : WB p l e rmX12_chord s m args below meth c 3 D cy B 0 0 (MQ below (QI D cy B vz g dz) args s 0 0 (wA B)) g d [(0, .ref (ad B x0)), (1, .int x1), (2, .int x2)] 39 [] := by
  unfold fX12_chord_J39 at hf
  refine b_iconst C (v := (-1)) dX12_chord_39 (by decide) ?_
  exact b_iret C hr hlocks hf dX12_chord_40
set_option maxRecDepth 100000 in
def fX12_chord_J75 (N : Nat) (g : Gs) (x0 : Nat) (x1 : Int32) (x2 : Int32) (z0 : Int32) (d : Ds) : Option (Int32 × Ds) := some (z0, d)
set_option maxHeartbeats 4000000 in
set_option maxRecDepth 100000 in
theorem tX12_chord_75 {p : Program} {l : Launch} {e : Env} {s : State} {m : MethodId} {args : Array Value} {below : List Frame} {meth : Method} {c : Code} {D : va_G} {cy : Nat → ClassId} {B : Bs} (C : Cx p s m args c cX12_chord 3 RX12 D cy B) (hr : meth.sig.returnType = (some .int)) (hlocks : meth.locks = false) {N : Nat} {g : Gs} {x0 : Nat} {x1 : Int32} {x2 : Int32} {vz : Int32} {dz : Ds} {z0 : Int32} {d : Ds} (hf : fX12_chord_J75 N g x0 x1 x2 z0 d = some (vz, dz)) : WB p l e rmX12_chord s m args below meth c 3 D cy B 0 0 (MQ below (QI D cy B vz g dz) args s 0 0 (wA B)) g d [(0, .ref (ad B x0)), (1, .int x1), (2, .int x2)] 75 [.int z0] := by
  unfold fX12_chord_J75 at hf
  exact b_iret C hr hlocks hf dX12_chord_75
set_option maxRecDepth 100000 in
def fX12_chord (N : Nat) (g : Gs) (x0 : Nat) (x1 : Int32) (x2 : Int32) (d : Ds) : Option (Int32 × Ds) := if x1 = (-1 : Int32) then (gd (chk g x0 11) <| ob (gR g x0 17) fun r18 => (gd (chk g r18 102) <| gd (¬ ((10 : Int32) < 0 ∨ gL g r18 ≤ (10 : Int32).toNatClampNeg)) <| some ((dI d r18 (10 : Int32).toNatClampNeg), d))) else (gd (chk g x0 11) <| ob (gR g x0 17) fun r3 => (gd (chk g r3 102) <| gd (¬ ((10 : Int32) < 0 ∨ gL g r3 ≤ (10 : Int32).toNatClampNeg)) <| cb (fX12_in N g x1 0 ((dI d r3 (10 : Int32).toNatClampNeg) - 1) d) fun u8 d6 => (if u8 = 0 then (fX12_chord_J39 N g x0 x1 x2 d6) else (cb (fX12_in N g x2 0 2 d6) fun u12 d10 => (if u12 = 0 then (fX12_chord_J39 N g x0 x1 x2 d10) else (if (2 : Int32) ≤ x2 then (gd (¬ ((453 : Int32) < 0 ∨ gL g r3 ≤ (453 : Int32).toNatClampNeg)) <| fX12_chord_J75 N g x0 x1 x2 (((dI d10 r3 (453 : Int32).toNatClampNeg) >>> (x1 &&& 31)) &&& 1) d10) else (gd (¬ ((((300 : Int32) + ((4 : Int32) * x1)) + x2) < 0 ∨ gL g r3 ≤ (((300 : Int32) + ((4 : Int32) * x1)) + x2).toNatClampNeg)) <| fX12_chord_J75 N g x0 x1 x2 (dI d10 r3 (((300 : Int32) + ((4 : Int32) * x1)) + x2).toNatClampNeg) d10)))))))
set_option maxHeartbeats 4000000 in
set_option maxRecDepth 100000 in
theorem tX12_chord_E {p : Program} {l : Launch} {e : Env} {s : State} {m : MethodId} {args : Array Value} {below : List Frame} {meth : Method} {c : Code} {D : va_G} {cy : Nat → ClassId} {B : Bs} (C : Cx p s m args c cX12_chord 3 RX12 D cy B) (hr : meth.sig.returnType = (some .int)) (hlocks : meth.locks = false) {N : Nat} {g : Gs} {x0 : Nat} {x1 : Int32} {x2 : Int32} {vz : Int32} {dz : Ds} {d : Ds} (hf : fX12_chord N g x0 x1 x2 d = some (vz, dz)) : WB p l e rmX12_chord s m args below meth c 3 D cy B 0 0 (MQ below (QI D cy B vz g dz) args s 0 0 (wA B)) g d [(0, .ref (ad B x0)), (1, .int x1), (2, .int x2)] 0 [] := by
  unfold fX12_chord at hf
  refine b_iload_n C dX12_chord_0 1 rfl rfl ?_
  refine b_iconst C (v := (-1)) dX12_chord_1 (by decide) ?_
  refine b_icmp_ne C (tgt := 13) dX12_chord_2 (by decide) (fun c1 => ?_) (fun c1 => ?_)
  · have hf := if_s c1 hf
    refine b_iload_n C dX12_chord_13 1 rfl rfl ?_
    refine b_iconst C (v := 0) dX12_chord_14 (by decide) ?_
    refine b_aload_n C dX12_chord_15 0 rfl rfl ?_
    obtain ⟨h2, hf⟩ := gd_s hf
    obtain ⟨r3, er3, hf⟩ := ob_s hf
    refine b_gR C dX12_chord_16 fl_X12_40 h2 er3 ?_
    refine b_bipush C (v := 10) dX12_chord_19 (by decide) ?_
    obtain ⟨h4, hf⟩ := gd_s hf
    obtain ⟨h5, hf⟩ := gd_s hf
    refine b_iald C h4 h5 dX12_chord_21 ?_
    refine b_iconst C (v := 1) dX12_chord_22 (by decide) ?_
    refine b_isub C dX12_chord_23 ?_
    obtain ⟨u8, d6, k7, hf⟩ := cb_s hf
    refine b_cSI C [] dX12_chord_24 (kX12_in l D cy B k7) lv_X12_169 ⟨rfl, rfl, Nat.le_of_ble_eq_true rfl, Nat.le_of_ble_eq_true rfl⟩ rfl (Nat.le_of_ble_eq_true rfl) ⟨Nat.zero_le _, Nat.zero_le _⟩ rfl ?_
    refine b_if_eq C (tgt := 39) dX12_chord_27 (by decide) (fun c9 => ?_) (fun c9 => ?_)
    · have hf := it_s c9 hf
      refine b_sub [(0, .ref (ad B x0)), (1, .int x1), (2, .int x2)] [0, 1, 2] rfl ?_
      exact tX12_chord_39 C hr hlocks hf
    · have hf := if_s c9 hf
      refine b_iload_n C dX12_chord_30 2 rfl rfl ?_
      refine b_iconst C (v := 0) dX12_chord_31 (by decide) ?_
      refine b_iconst C (v := 2) dX12_chord_32 (by decide) ?_
      obtain ⟨u12, d10, k11, hf⟩ := cb_s hf
      refine b_cSI C [] dX12_chord_33 (kX12_in l D cy B k11) lv_X12_169 ⟨rfl, rfl, Nat.le_of_ble_eq_true rfl, Nat.le_of_ble_eq_true rfl⟩ rfl (Nat.le_of_ble_eq_true rfl) ⟨Nat.zero_le _, Nat.zero_le _⟩ rfl ?_
      refine b_if_ne C (tgt := 41) dX12_chord_36 (by decide) (fun c13 => ?_) (fun c13 => ?_)
      · have hf := if_s c13 hf
        refine b_iload_n C dX12_chord_41 2 rfl rfl ?_
        refine b_iconst C (v := 2) dX12_chord_42 (by decide) ?_
        refine b_icmp_ge C (tgt := 63) dX12_chord_43 (by decide) (fun c14 => ?_) (fun c14 => ?_)
        · have hf := it_s c14 hf
          refine b_aload_n C dX12_chord_63 0 rfl rfl ?_
          refine b_gR C dX12_chord_64 fl_X12_40 h2 er3 ?_
          refine b_sipush C (v := 453) dX12_chord_67 (by decide) ?_
          obtain ⟨h15, hf⟩ := gd_s hf
          refine b_iald C h4 h15 dX12_chord_70 ?_
          refine b_iload_n C dX12_chord_71 1 rfl rfl ?_
          refine b_ishr C dX12_chord_72 ?_
          refine b_iconst C (v := 1) dX12_chord_73 (by decide) ?_
          refine b_iand C dX12_chord_74 ?_
          refine b_sub [(0, .ref (ad B x0)), (1, .int x1), (2, .int x2)] [0, 1, 2] rfl ?_
          exact tX12_chord_75 C hr hlocks hf
        · have hf := if_s c14 hf
          refine b_aload_n C dX12_chord_46 0 rfl rfl ?_
          refine b_gR C dX12_chord_47 fl_X12_40 h2 er3 ?_
          refine b_sipush C (v := 300) dX12_chord_50 (by decide) ?_
          refine b_iconst C (v := 4) dX12_chord_53 (by decide) ?_
          refine b_iload_n C dX12_chord_54 1 rfl rfl ?_
          refine b_imul C dX12_chord_55 ?_
          refine b_iadd C dX12_chord_56 ?_
          refine b_iload_n C dX12_chord_57 2 rfl rfl ?_
          refine b_iadd C dX12_chord_58 ?_
          obtain ⟨h16, hf⟩ := gd_s hf
          refine b_iald C h4 h16 dX12_chord_59 ?_
          refine b_goto C (tgt := 75) dX12_chord_60 (by decide) ?_
          refine b_sub [(0, .ref (ad B x0)), (1, .int x1), (2, .int x2)] [0, 1, 2] rfl ?_
          exact tX12_chord_75 C hr hlocks hf
      · have hf := it_s c13 hf
        refine b_sub [(0, .ref (ad B x0)), (1, .int x1), (2, .int x2)] [0, 1, 2] rfl ?_
        exact tX12_chord_39 C hr hlocks hf
  · have hf := it_s c1 hf
    refine b_aload_n C dX12_chord_5 0 rfl rfl ?_
    obtain ⟨h17, hf⟩ := gd_s hf
    obtain ⟨r18, er18, hf⟩ := ob_s hf
    refine b_gR C dX12_chord_6 fl_X12_40 h17 er18 ?_
    refine b_bipush C (v := 10) dX12_chord_9 (by decide) ?_
    obtain ⟨h19, hf⟩ := gd_s hf
    obtain ⟨h20, hf⟩ := gd_s hf
    refine b_iald C h19 h20 dX12_chord_11 ?_
    exact b_iret C hr hlocks hf dX12_chord_12
theorem kX12_chord (l : Launch) (D : va_G) (cy : Nat → ClassId) (B : Bs) {N : Nat} {g : Gs} {x0 : Nat} {x1 : Int32} {x2 : Int32} {vz : Int32} {dz : Ds} {d : Ds} (hf : fX12_chord N g x0 x1 x2 d = some (vz, dz)) : Met l yX12_chord (.code yX12_chord cX12_chord 3 (some .int) :: wl) rmX12_chord (PC D cy B [.ref (ad B x0), .int x1, .int x2] g d) (QI D cy B vz g dz) 0 0 (wA B) :=
  met_of (by decide +kernel) (Nat.le_of_ble_eq_true rfl) (fun p e s m args below meth c C hr hlocks _ => b_sub [(0, .ref (ad B x0)), (1, .int x1), (2, .int x2)] [0, 1, 2] rfl (tX12_chord_E C hr hlocks hf))
/-! KeyMatrixModel.macro(II)I -/
theorem dX12_macro_0 : decode cX12_macro 0 = .ok (.iload_n 1, 1) := by decide +kernel
theorem dX12_macro_1 : decode cX12_macro 1 = .ok (.iconst 0, 1) := by decide +kernel
theorem dX12_macro_2 : decode cX12_macro 2 = .ok (.aload_n 0, 1) := by decide +kernel
theorem dX12_macro_3 : decode cX12_macro 3 = .ok (.getfield 40, 3) := by decide +kernel
theorem dX12_macro_6 : decode cX12_macro 6 = .ok (.bipush 11, 2) := by decide +kernel
theorem dX12_macro_8 : decode cX12_macro 8 = .ok (.iaload, 1) := by decide +kernel
theorem dX12_macro_9 : decode cX12_macro 9 = .ok (.iconst 1, 1) := by decide +kernel
theorem dX12_macro_10 : decode cX12_macro 10 = .ok (.isub, 1) := by decide +kernel
theorem dX12_macro_11 : decode cX12_macro 11 = .ok (.invokestatic 169, 3) := by decide +kernel
theorem dX12_macro_14 : decode cX12_macro 14 = .ok (.ifCond .ne 5, 3) := by decide +kernel
theorem dX12_macro_17 : decode cX12_macro 17 = .ok (.iconst (-1), 1) := by decide +kernel
theorem dX12_macro_18 : decode cX12_macro 18 = .ok (.ireturn, 1) := by decide +kernel
theorem dX12_macro_19 : decode cX12_macro 19 = .ok (.aload_n 0, 1) := by decide +kernel
theorem dX12_macro_20 : decode cX12_macro 20 = .ok (.getfield 40, 3) := by decide +kernel
theorem dX12_macro_23 : decode cX12_macro 23 = .ok (.sipush 316, 3) := by decide +kernel
theorem dX12_macro_26 : decode cX12_macro 26 = .ok (.bipush 9, 2) := by decide +kernel
theorem dX12_macro_28 : decode cX12_macro 28 = .ok (.iload_n 1, 1) := by decide +kernel
theorem dX12_macro_29 : decode cX12_macro 29 = .ok (.imul, 1) := by decide +kernel
theorem dX12_macro_30 : decode cX12_macro 30 = .ok (.iadd, 1) := by decide +kernel
theorem dX12_macro_31 : decode cX12_macro 31 = .ok (.iaload, 1) := by decide +kernel
theorem dX12_macro_32 : decode cX12_macro 32 = .ok (.istore_n 3, 1) := by decide +kernel
theorem dX12_macro_33 : decode cX12_macro 33 = .ok (.iload_n 2, 1) := by decide +kernel
theorem dX12_macro_34 : decode cX12_macro 34 = .ok (.iconst (-1), 1) := by decide +kernel
theorem dX12_macro_35 : decode cX12_macro 35 = .ok (.if_icmp .ne 7, 3) := by decide +kernel
theorem dX12_macro_38 : decode cX12_macro 38 = .ok (.iload_n 3, 1) := by decide +kernel
theorem dX12_macro_39 : decode cX12_macro 39 = .ok (.goto 35, 3) := by decide +kernel
theorem dX12_macro_42 : decode cX12_macro 42 = .ok (.iload_n 2, 1) := by decide +kernel
theorem dX12_macro_43 : decode cX12_macro 43 = .ok (.iconst 0, 1) := by decide +kernel
theorem dX12_macro_44 : decode cX12_macro 44 = .ok (.iload_n 3, 1) := by decide +kernel
theorem dX12_macro_45 : decode cX12_macro 45 = .ok (.iconst 1, 1) := by decide +kernel
theorem dX12_macro_46 : decode cX12_macro 46 = .ok (.isub, 1) := by decide +kernel
theorem dX12_macro_47 : decode cX12_macro 47 = .ok (.invokestatic 169, 3) := by decide +kernel
theorem dX12_macro_50 : decode cX12_macro 50 = .ok (.ifCond .eq 23, 3) := by decide +kernel
theorem dX12_macro_53 : decode cX12_macro 53 = .ok (.aload_n 0, 1) := by decide +kernel
theorem dX12_macro_54 : decode cX12_macro 54 = .ok (.getfield 40, 3) := by decide +kernel
theorem dX12_macro_57 : decode cX12_macro 57 = .ok (.sipush 316, 3) := by decide +kernel
theorem dX12_macro_60 : decode cX12_macro 60 = .ok (.bipush 9, 2) := by decide +kernel
theorem dX12_macro_62 : decode cX12_macro 62 = .ok (.iload_n 1, 1) := by decide +kernel
theorem dX12_macro_63 : decode cX12_macro 63 = .ok (.imul, 1) := by decide +kernel
theorem dX12_macro_64 : decode cX12_macro 64 = .ok (.iadd, 1) := by decide +kernel
theorem dX12_macro_65 : decode cX12_macro 65 = .ok (.iconst 1, 1) := by decide +kernel
theorem dX12_macro_66 : decode cX12_macro 66 = .ok (.iadd, 1) := by decide +kernel
theorem dX12_macro_67 : decode cX12_macro 67 = .ok (.iload_n 2, 1) := by decide +kernel
theorem dX12_macro_68 : decode cX12_macro 68 = .ok (.iadd, 1) := by decide +kernel
theorem dX12_macro_69 : decode cX12_macro 69 = .ok (.iaload, 1) := by decide +kernel
theorem dX12_macro_70 : decode cX12_macro 70 = .ok (.goto 4, 3) := by decide +kernel
theorem dX12_macro_73 : decode cX12_macro 73 = .ok (.iconst (-1), 1) := by decide +kernel
theorem dX12_macro_74 : decode cX12_macro 74 = .ok (.ireturn, 1) := by decide +kernel
def rmX12_macro : Room := { frames := 1, cells := 0, slots := 0, locals := 22 }
set_option maxRecDepth 100000 in
def fX12_macro_J74 (N : Nat) (g : Gs) (x0 : Nat) (x1 : Int32) (x2 : Int32) (z0 : Int32) (d : Ds) : Option (Int32 × Ds) := some (z0, d)
set_option maxHeartbeats 4000000 in
set_option maxRecDepth 100000 in
theorem tX12_macro_74 {p : Program} {l : Launch} {e : Env} {s : State} {m : MethodId} {args : Array Value} {below : List Frame} {meth : Method} {c : Code} {D : va_G} {cy : Nat → ClassId} {B : Bs} (C : Cx p s m args c cX12_macro 4 RX12 D cy B) (hr : meth.sig.returnType = (some .int)) (hlocks : meth.locks = false) {N : Nat} {g : Gs} {x0 : Nat} {x1 : Int32} {x2 : Int32} {vz : Int32} {dz : Ds} {z0 : Int32} {d : Ds} (hf : fX12_macro_J74 N g x0 x1 x2 z0 d = some (vz, dz)) : WB p l e rmX12_macro s m args below meth c 4 D cy B 0 0 (MQ below (QI D cy B vz g dz) args s 0 0 (wA B)) g d [(0, .ref (ad B x0)), (1, .int x1), (2, .int x2)] 74 [.int z0] := by
  unfold fX12_macro_J74 at hf
  exact b_iret C hr hlocks hf dX12_macro_74
set_option maxRecDepth 100000 in
def fX12_macro (N : Nat) (g : Gs) (x0 : Nat) (x1 : Int32) (x2 : Int32) (d : Ds) : Option (Int32 × Ds) := gd (chk g x0 11) <| ob (gR g x0 17) fun r2 => (gd (chk g r2 102) <| gd (¬ ((11 : Int32) < 0 ∨ gL g r2 ≤ (11 : Int32).toNatClampNeg)) <| cb (fX12_in N g x1 0 ((dI d r2 (11 : Int32).toNatClampNeg) - 1) d) fun u7 d5 => (if u7 = 0 then (some ((-1), d5)) else (gd (¬ (((316 : Int32) + ((9 : Int32) * x1)) < 0 ∨ gL g r2 ≤ ((316 : Int32) + ((9 : Int32) * x1)).toNatClampNeg)) <| bd ((dI d5 r2 ((316 : Int32) + ((9 : Int32) * x1)).toNatClampNeg)) fun u10 => (if x2 = (-1 : Int32) then (fX12_macro_J74 N g x0 x1 x2 u10 d5) else (cb (fX12_in N g x2 0 (u10 - 1) d5) fun u14 d12 => (if u14 = 0 then (fX12_macro_J74 N g x0 x1 x2 (-1) d12) else (gd (¬ (((((316 : Int32) + ((9 : Int32) * x1)) + 1) + x2) < 0 ∨ gL g r2 ≤ ((((316 : Int32) + ((9 : Int32) * x1)) + 1) + x2).toNatClampNeg)) <| fX12_macro_J74 N g x0 x1 x2 (dI d12 r2 ((((316 : Int32) + ((9 : Int32) * x1)) + 1) + x2).toNatClampNeg) d12)))))))
set_option maxHeartbeats 4000000 in
set_option maxRecDepth 100000 in
theorem tX12_macro_E {p : Program} {l : Launch} {e : Env} {s : State} {m : MethodId} {args : Array Value} {below : List Frame} {meth : Method} {c : Code} {D : va_G} {cy : Nat → ClassId} {B : Bs} (C : Cx p s m args c cX12_macro 4 RX12 D cy B) (hr : meth.sig.returnType = (some .int)) (hlocks : meth.locks = false) {N : Nat} {g : Gs} {x0 : Nat} {x1 : Int32} {x2 : Int32} {vz : Int32} {dz : Ds} {d : Ds} (hf : fX12_macro N g x0 x1 x2 d = some (vz, dz)) : WB p l e rmX12_macro s m args below meth c 4 D cy B 0 0 (MQ below (QI D cy B vz g dz) args s 0 0 (wA B)) g d [(0, .ref (ad B x0)), (1, .int x1), (2, .int x2)] 0 [] := by
  unfold fX12_macro at hf
  refine b_iload_n C dX12_macro_0 1 rfl rfl ?_
  refine b_iconst C (v := 0) dX12_macro_1 (by decide) ?_
  refine b_aload_n C dX12_macro_2 0 rfl rfl ?_
  obtain ⟨h1, hf⟩ := gd_s hf
  obtain ⟨r2, er2, hf⟩ := ob_s hf
  refine b_gR C dX12_macro_3 fl_X12_40 h1 er2 ?_
  refine b_bipush C (v := 11) dX12_macro_6 (by decide) ?_
  obtain ⟨h3, hf⟩ := gd_s hf
  obtain ⟨h4, hf⟩ := gd_s hf
  refine b_iald C h3 h4 dX12_macro_8 ?_
  refine b_iconst C (v := 1) dX12_macro_9 (by decide) ?_
  refine b_isub C dX12_macro_10 ?_
  obtain ⟨u7, d5, k6, hf⟩ := cb_s hf
  refine b_cSI C [] dX12_macro_11 (kX12_in l D cy B k6) lv_X12_169 ⟨rfl, rfl, Nat.le_of_ble_eq_true rfl, Nat.le_of_ble_eq_true rfl⟩ rfl (Nat.le_of_ble_eq_true rfl) ⟨Nat.zero_le _, Nat.zero_le _⟩ rfl ?_
  refine b_if_ne C (tgt := 19) dX12_macro_14 (by decide) (fun c8 => ?_) (fun c8 => ?_)
  · have hf := if_s c8 hf
    refine b_aload_n C dX12_macro_19 0 rfl rfl ?_
    refine b_gR C dX12_macro_20 fl_X12_40 h1 er2 ?_
    refine b_sipush C (v := 316) dX12_macro_23 (by decide) ?_
    refine b_bipush C (v := 9) dX12_macro_26 (by decide) ?_
    refine b_iload_n C dX12_macro_28 1 rfl rfl ?_
    refine b_imul C dX12_macro_29 ?_
    refine b_iadd C dX12_macro_30 ?_
    obtain ⟨h9, hf⟩ := gd_s hf
    refine b_iald C h3 h9 dX12_macro_31 ?_
    obtain ⟨u10, eu10, hf⟩ := bd_s hf
    refine b_topI eu10 ?_
    refine b_istore_n C dX12_macro_32 rfl [(3, .int u10), (0, .ref (ad B x0)), (1, .int x1), (2, .int x2)] (by decide) rfl ?_
    refine b_iload_n C dX12_macro_33 3 rfl rfl ?_
    refine b_iconst C (v := (-1)) dX12_macro_34 (by decide) ?_
    refine b_icmp_ne C (tgt := 42) dX12_macro_35 (by decide) (fun c11 => ?_) (fun c11 => ?_)
    · have hf := if_s c11 hf
      refine b_iload_n C dX12_macro_42 3 rfl rfl ?_
      refine b_iconst C (v := 0) dX12_macro_43 (by decide) ?_
      refine b_iload_n C dX12_macro_44 0 rfl rfl ?_
      refine b_iconst C (v := 1) dX12_macro_45 (by decide) ?_
      refine b_isub C dX12_macro_46 ?_
      obtain ⟨u14, d12, k13, hf⟩ := cb_s hf
      refine b_cSI C [] dX12_macro_47 (kX12_in l D cy B k13) lv_X12_169 ⟨rfl, rfl, Nat.le_of_ble_eq_true rfl, Nat.le_of_ble_eq_true rfl⟩ rfl (Nat.le_of_ble_eq_true rfl) ⟨Nat.zero_le _, Nat.zero_le _⟩ rfl ?_
      refine b_if_eq C (tgt := 73) dX12_macro_50 (by decide) (fun c15 => ?_) (fun c15 => ?_)
      · have hf := it_s c15 hf
        refine b_iconst C (v := (-1)) dX12_macro_73 (by decide) ?_
        refine b_sub [(0, .ref (ad B x0)), (1, .int x1), (2, .int x2)] [1, 2, 3] rfl ?_
        exact tX12_macro_74 C hr hlocks hf
      · have hf := if_s c15 hf
        refine b_aload_n C dX12_macro_53 1 rfl rfl ?_
        refine b_gR C dX12_macro_54 fl_X12_40 h1 er2 ?_
        refine b_sipush C (v := 316) dX12_macro_57 (by decide) ?_
        refine b_bipush C (v := 9) dX12_macro_60 (by decide) ?_
        refine b_iload_n C dX12_macro_62 2 rfl rfl ?_
        refine b_imul C dX12_macro_63 ?_
        refine b_iadd C dX12_macro_64 ?_
        refine b_iconst C (v := 1) dX12_macro_65 (by decide) ?_
        refine b_iadd C dX12_macro_66 ?_
        refine b_iload_n C dX12_macro_67 3 rfl rfl ?_
        refine b_iadd C dX12_macro_68 ?_
        obtain ⟨h16, hf⟩ := gd_s hf
        refine b_iald C h3 h16 dX12_macro_69 ?_
        refine b_goto C (tgt := 74) dX12_macro_70 (by decide) ?_
        refine b_sub [(0, .ref (ad B x0)), (1, .int x1), (2, .int x2)] [1, 2, 3] rfl ?_
        exact tX12_macro_74 C hr hlocks hf
    · have hf := it_s c11 hf
      refine b_iload_n C dX12_macro_38 0 rfl rfl ?_
      refine b_goto C (tgt := 74) dX12_macro_39 (by decide) ?_
      refine b_sub [(0, .ref (ad B x0)), (1, .int x1), (2, .int x2)] [1, 2, 3] rfl ?_
      exact tX12_macro_74 C hr hlocks hf
  · have hf := it_s c8 hf
    refine b_iconst C (v := (-1)) dX12_macro_17 (by decide) ?_
    exact b_iret C hr hlocks hf dX12_macro_18
theorem kX12_macro (l : Launch) (D : va_G) (cy : Nat → ClassId) (B : Bs) {N : Nat} {g : Gs} {x0 : Nat} {x1 : Int32} {x2 : Int32} {vz : Int32} {dz : Ds} {d : Ds} (hf : fX12_macro N g x0 x1 x2 d = some (vz, dz)) : Met l yX12_macro (.code yX12_macro cX12_macro 4 (some .int) :: wl) rmX12_macro (PC D cy B [.ref (ad B x0), .int x1, .int x2] g d) (QI D cy B vz g dz) 0 0 (wA B) :=
  met_of (by decide +kernel) (Nat.le_of_ble_eq_true rfl) (fun p e s m args below meth c C hr hlocks _ => b_sub [(0, .ref (ad B x0)), (1, .int x1), (2, .int x2)] [0, 1, 2] rfl (tX12_macro_E C hr hlocks hf))
/-! KeyMatrixModel.ahead(II)I -/
theorem fl_X12_62 : FLR RX12 62 11 29 := ⟨⟨RX12, TX12, 33, rfl, by decide, inl11, Or.inl (mW (mT5 (List.mem_of_getElem? (i := 120) (by decide +kernel))) rfl)⟩, by decide, by decide +kernel⟩
theorem fl_X12_59 : FLR RX12 59 11 28 := ⟨⟨RX12, TX12, 33, rfl, by decide, inl11, Or.inl (mW (mT5 (List.mem_of_getElem? (i := 119) (by decide +kernel))) rfl)⟩, by decide, by decide +kernel⟩
theorem dX12_ahead_0 : decode cX12_ahead 0 = .ok (.iload_n 1, 1) := by decide +kernel
theorem dX12_ahead_1 : decode cX12_ahead 1 = .ok (.iconst 1, 1) := by decide +kernel
theorem dX12_ahead_2 : decode cX12_ahead 2 = .ok (.bipush 120, 2) := by decide +kernel
theorem dX12_ahead_4 : decode cX12_ahead 4 = .ok (.invokestatic 169, 3) := by decide +kernel
theorem dX12_ahead_7 : decode cX12_ahead 7 = .ok (.ifCond .eq 19, 3) := by decide +kernel
theorem dX12_ahead_10 : decode cX12_ahead 10 = .ok (.iload_n 2, 1) := by decide +kernel
theorem dX12_ahead_11 : decode cX12_ahead 11 = .ok (.iconst 0, 1) := by decide +kernel
theorem dX12_ahead_12 : decode cX12_ahead 12 = .ok (.iconst 4, 1) := by decide +kernel
theorem dX12_ahead_13 : decode cX12_ahead 13 = .ok (.invokestatic 169, 3) := by decide +kernel
theorem dX12_ahead_16 : decode cX12_ahead 16 = .ok (.ifCond .eq 10, 3) := by decide +kernel
theorem dX12_ahead_19 : decode cX12_ahead 19 = .ok (.aload_n 0, 1) := by decide +kernel
theorem dX12_ahead_20 : decode cX12_ahead 20 = .ok (.invokevirtual 206, 3) := by decide +kernel
theorem dX12_ahead_23 : decode cX12_ahead 23 = .ok (.ifCond .ne 5, 3) := by decide +kernel
theorem dX12_ahead_26 : decode cX12_ahead 26 = .ok (.iconst (-1), 1) := by decide +kernel
theorem dX12_ahead_27 : decode cX12_ahead 27 = .ok (.ireturn, 1) := by decide +kernel
theorem dX12_ahead_28 : decode cX12_ahead 28 = .ok (.iconst 0, 1) := by decide +kernel
theorem dX12_ahead_29 : decode cX12_ahead 29 = .ok (.istore_n 3, 1) := by decide +kernel
theorem dX12_ahead_30 : decode cX12_ahead 30 = .ok (.iload_n 3, 1) := by decide +kernel
theorem dX12_ahead_31 : decode cX12_ahead 31 = .ok (.sipush 9178, 3) := by decide +kernel
theorem dX12_ahead_34 : decode cX12_ahead 34 = .ok (.if_icmp .ge 21, 3) := by decide +kernel
theorem dX12_ahead_37 : decode cX12_ahead 37 = .ok (.aload_n 0, 1) := by decide +kernel
theorem dX12_ahead_38 : decode cX12_ahead 38 = .ok (.getfield 59, 3) := by decide +kernel
theorem dX12_ahead_41 : decode cX12_ahead 41 = .ok (.iload_n 3, 1) := by decide +kernel
theorem dX12_ahead_42 : decode cX12_ahead 42 = .ok (.aload_n 0, 1) := by decide +kernel
theorem dX12_ahead_43 : decode cX12_ahead 43 = .ok (.getfield 40, 3) := by decide +kernel
theorem dX12_ahead_46 : decode cX12_ahead 46 = .ok (.iload_n 3, 1) := by decide +kernel
theorem dX12_ahead_47 : decode cX12_ahead 47 = .ok (.iaload, 1) := by decide +kernel
theorem dX12_ahead_48 : decode cX12_ahead 48 = .ok (.iastore, 1) := by decide +kernel
theorem dX12_ahead_49 : decode cX12_ahead 49 = .ok (.iinc 3 1, 3) := by decide +kernel
theorem dX12_ahead_52 : decode cX12_ahead 52 = .ok (.goto (-22), 3) := by decide +kernel
theorem dX12_ahead_55 : decode cX12_ahead 55 = .ok (.iconst 0, 1) := by decide +kernel
theorem dX12_ahead_56 : decode cX12_ahead 56 = .ok (.istore_n 3, 1) := by decide +kernel
theorem dX12_ahead_57 : decode cX12_ahead 57 = .ok (.iload_n 3, 1) := by decide +kernel
theorem dX12_ahead_58 : decode cX12_ahead 58 = .ok (.bipush 24, 2) := by decide +kernel
theorem dX12_ahead_60 : decode cX12_ahead 60 = .ok (.if_icmp .ge 21, 3) := by decide +kernel
theorem dX12_ahead_63 : decode cX12_ahead 63 = .ok (.aload_n 0, 1) := by decide +kernel
theorem dX12_ahead_64 : decode cX12_ahead 64 = .ok (.getfield 62, 3) := by decide +kernel
theorem dX12_ahead_67 : decode cX12_ahead 67 = .ok (.iload_n 3, 1) := by decide +kernel
theorem dX12_ahead_68 : decode cX12_ahead 68 = .ok (.aload_n 0, 1) := by decide +kernel
theorem dX12_ahead_69 : decode cX12_ahead 69 = .ok (.getfield 46, 3) := by decide +kernel
theorem dX12_ahead_72 : decode cX12_ahead 72 = .ok (.iload_n 3, 1) := by decide +kernel
theorem dX12_ahead_73 : decode cX12_ahead 73 = .ok (.faload, 1) := by decide +kernel
theorem dX12_ahead_74 : decode cX12_ahead 74 = .ok (.fastore, 1) := by decide +kernel
theorem dX12_ahead_75 : decode cX12_ahead 75 = .ok (.iinc 3 1, 3) := by decide +kernel
theorem dX12_ahead_78 : decode cX12_ahead 78 = .ok (.goto (-21), 3) := by decide +kernel
theorem dX12_ahead_81 : decode cX12_ahead 81 = .ok (.iconst 0, 1) := by decide +kernel
theorem dX12_ahead_82 : decode cX12_ahead 82 = .ok (.istore_n 3, 1) := by decide +kernel
theorem dX12_ahead_83 : decode cX12_ahead 83 = .ok (.iload_n 3, 1) := by decide +kernel
theorem dX12_ahead_84 : decode cX12_ahead 84 = .ok (.iload_n 1, 1) := by decide +kernel
theorem dX12_ahead_85 : decode cX12_ahead 85 = .ok (.if_icmp .ge 13, 3) := by decide +kernel
theorem dX12_ahead_88 : decode cX12_ahead 88 = .ok (.aload_n 0, 1) := by decide +kernel
theorem dX12_ahead_89 : decode cX12_ahead 89 = .ok (.invokevirtual 326, 3) := by decide +kernel
theorem dX12_ahead_92 : decode cX12_ahead 92 = .ok (.iinc 3 1, 3) := by decide +kernel
theorem dX12_ahead_95 : decode cX12_ahead 95 = .ok (.goto (-12), 3) := by decide +kernel
theorem dX12_ahead_98 : decode cX12_ahead 98 = .ok (.aload_n 0, 1) := by decide +kernel
theorem dX12_ahead_99 : decode cX12_ahead 99 = .ok (.invokevirtual 314, 3) := by decide +kernel
theorem dX12_ahead_102 : decode cX12_ahead 102 = .ok (.iload_n 2, 1) := by decide +kernel
theorem dX12_ahead_103 : decode cX12_ahead 103 = .ok (.ifCond .ne 23, 3) := by decide +kernel
theorem dX12_ahead_106 : decode cX12_ahead 106 = .ok (.aload_n 0, 1) := by decide +kernel
theorem dX12_ahead_107 : decode cX12_ahead 107 = .ok (.getfield 40, 3) := by decide +kernel
theorem dX12_ahead_110 : decode cX12_ahead 110 = .ok (.sipush 555, 3) := by decide +kernel
theorem dX12_ahead_113 : decode cX12_ahead 113 = .ok (.iaload, 1) := by decide +kernel
theorem dX12_ahead_114 : decode cX12_ahead 114 = .ok (.aload_n 0, 1) := by decide +kernel
theorem dX12_ahead_115 : decode cX12_ahead 115 = .ok (.getfield 59, 3) := by decide +kernel
theorem dX12_ahead_118 : decode cX12_ahead 118 = .ok (.sipush 555, 3) := by decide +kernel
theorem dX12_ahead_121 : decode cX12_ahead 121 = .ok (.iaload, 1) := by decide +kernel
theorem dX12_ahead_122 : decode cX12_ahead 122 = .ok (.isub, 1) := by decide +kernel
theorem dX12_ahead_123 : decode cX12_ahead 123 = .ok (.goto 47, 3) := by decide +kernel
theorem dX12_ahead_126 : decode cX12_ahead 126 = .ok (.iload_n 2, 1) := by decide +kernel
theorem dX12_ahead_127 : decode cX12_ahead 127 = .ok (.iconst 1, 1) := by decide +kernel
theorem dX12_ahead_128 : decode cX12_ahead 128 = .ok (.if_icmp .ne 10, 3) := by decide +kernel
theorem dX12_ahead_131 : decode cX12_ahead 131 = .ok (.aload_n 0, 1) := by decide +kernel
theorem dX12_ahead_132 : decode cX12_ahead 132 = .ok (.getfield 302, 3) := by decide +kernel
theorem dX12_ahead_135 : decode cX12_ahead 135 = .ok (.goto 35, 3) := by decide +kernel
theorem dX12_ahead_138 : decode cX12_ahead 138 = .ok (.iload_n 2, 1) := by decide +kernel
theorem dX12_ahead_139 : decode cX12_ahead 139 = .ok (.iconst 2, 1) := by decide +kernel
theorem dX12_ahead_140 : decode cX12_ahead 140 = .ok (.if_icmp .ne 10, 3) := by decide +kernel
theorem dX12_ahead_143 : decode cX12_ahead 143 = .ok (.aload_n 0, 1) := by decide +kernel
theorem dX12_ahead_144 : decode cX12_ahead 144 = .ok (.getfield 299, 3) := by decide +kernel
theorem dX12_ahead_147 : decode cX12_ahead 147 = .ok (.goto 23, 3) := by decide +kernel
theorem dX12_ahead_150 : decode cX12_ahead 150 = .ok (.iload_n 2, 1) := by decide +kernel
theorem dX12_ahead_151 : decode cX12_ahead 151 = .ok (.iconst 3, 1) := by decide +kernel
theorem dX12_ahead_152 : decode cX12_ahead 152 = .ok (.if_icmp .ne 10, 3) := by decide +kernel
theorem dX12_ahead_155 : decode cX12_ahead 155 = .ok (.aload_n 0, 1) := by decide +kernel
theorem dX12_ahead_156 : decode cX12_ahead 156 = .ok (.invokevirtual 296, 3) := by decide +kernel
theorem dX12_ahead_159 : decode cX12_ahead 159 = .ok (.goto 11, 3) := by decide +kernel
theorem dX12_ahead_162 : decode cX12_ahead 162 = .ok (.aload_n 0, 1) := by decide +kernel
theorem dX12_ahead_163 : decode cX12_ahead 163 = .ok (.getfield 40, 3) := by decide +kernel
theorem dX12_ahead_166 : decode cX12_ahead 166 = .ok (.sipush 557, 3) := by decide +kernel
theorem dX12_ahead_169 : decode cX12_ahead 169 = .ok (.iaload, 1) := by decide +kernel
theorem dX12_ahead_170 : decode cX12_ahead 170 = .ok (.istore_n 3, 1) := by decide +kernel
theorem dX12_ahead_171 : decode cX12_ahead 171 = .ok (.iconst 0, 1) := by decide +kernel
theorem dX12_ahead_172 : decode cX12_ahead 172 = .ok (.istore 4, 2) := by decide +kernel
theorem dX12_ahead_174 : decode cX12_ahead 174 = .ok (.iload 4, 2) := by decide +kernel
theorem dX12_ahead_176 : decode cX12_ahead 176 = .ok (.sipush 9178, 3) := by decide +kernel
theorem dX12_ahead_179 : decode cX12_ahead 179 = .ok (.if_icmp .ge 23, 3) := by decide +kernel
theorem dX12_ahead_182 : decode cX12_ahead 182 = .ok (.aload_n 0, 1) := by decide +kernel
theorem dX12_ahead_183 : decode cX12_ahead 183 = .ok (.getfield 40, 3) := by decide +kernel
theorem dX12_ahead_186 : decode cX12_ahead 186 = .ok (.iload 4, 2) := by decide +kernel
theorem dX12_ahead_188 : decode cX12_ahead 188 = .ok (.aload_n 0, 1) := by decide +kernel
theorem dX12_ahead_189 : decode cX12_ahead 189 = .ok (.getfield 59, 3) := by decide +kernel
theorem dX12_ahead_192 : decode cX12_ahead 192 = .ok (.iload 4, 2) := by decide +kernel
theorem dX12_ahead_194 : decode cX12_ahead 194 = .ok (.iaload, 1) := by decide +kernel
theorem dX12_ahead_195 : decode cX12_ahead 195 = .ok (.iastore, 1) := by decide +kernel
theorem dX12_ahead_196 : decode cX12_ahead 196 = .ok (.iinc 4 1, 3) := by decide +kernel
theorem dX12_ahead_199 : decode cX12_ahead 199 = .ok (.goto (-25), 3) := by decide +kernel
theorem dX12_ahead_202 : decode cX12_ahead 202 = .ok (.iconst 0, 1) := by decide +kernel
theorem dX12_ahead_203 : decode cX12_ahead 203 = .ok (.istore 4, 2) := by decide +kernel
theorem dX12_ahead_205 : decode cX12_ahead 205 = .ok (.iload 4, 2) := by decide +kernel
theorem dX12_ahead_207 : decode cX12_ahead 207 = .ok (.bipush 24, 2) := by decide +kernel
theorem dX12_ahead_209 : decode cX12_ahead 209 = .ok (.if_icmp .ge 23, 3) := by decide +kernel
theorem dX12_ahead_212 : decode cX12_ahead 212 = .ok (.aload_n 0, 1) := by decide +kernel
theorem dX12_ahead_213 : decode cX12_ahead 213 = .ok (.getfield 46, 3) := by decide +kernel
theorem dX12_ahead_216 : decode cX12_ahead 216 = .ok (.iload 4, 2) := by decide +kernel
theorem dX12_ahead_218 : decode cX12_ahead 218 = .ok (.aload_n 0, 1) := by decide +kernel
theorem dX12_ahead_219 : decode cX12_ahead 219 = .ok (.getfield 62, 3) := by decide +kernel
theorem dX12_ahead_222 : decode cX12_ahead 222 = .ok (.iload 4, 2) := by decide +kernel
theorem dX12_ahead_224 : decode cX12_ahead 224 = .ok (.faload, 1) := by decide +kernel
theorem dX12_ahead_225 : decode cX12_ahead 225 = .ok (.fastore, 1) := by decide +kernel
theorem dX12_ahead_226 : decode cX12_ahead 226 = .ok (.iinc 4 1, 3) := by decide +kernel
theorem dX12_ahead_229 : decode cX12_ahead 229 = .ok (.goto (-24), 3) := by decide +kernel
theorem dX12_ahead_232 : decode cX12_ahead 232 = .ok (.iload_n 3, 1) := by decide +kernel
theorem dX12_ahead_233 : decode cX12_ahead 233 = .ok (.ireturn, 1) := by decide +kernel
def rmX12_ahead : Room := { frames := 8, cells := 0, slots := 0, locals := 192 }
set_option maxRecDepth 100000 in
def fX12_ahead_J26 (N : Nat) (g : Gs) (x0 : Nat) (x1 : Int32) (x2 : Int32) (d : Ds) : Option (Int32 × Ds) := some ((-1), d)
set_option maxHeartbeats 4000000 in
set_option maxRecDepth 100000 in
theorem tX12_ahead_26 {p : Program} {l : Launch} {e : Env} {s : State} {m : MethodId} {args : Array Value} {below : List Frame} {meth : Method} {c : Code} {D : va_G} {cy : Nat → ClassId} {B : Bs} (C : Cx p s m args c cX12_ahead 5 RX12 D cy B) (hr : meth.sig.returnType = (some .int)) (hlocks : meth.locks = false) {N : Nat} {g : Gs} {x0 : Nat} {x1 : Int32} {x2 : Int32} {vz : Int32} {dz : Ds} {d : Ds} (hf : fX12_ahead_J26 N g x0 x1 x2 d = some (vz, dz)) : WB p l e rmX12_ahead s m args below meth c 5 D cy B 0 0 (MQ below (QI D cy B vz g dz) args s 0 0 (wA B)) g d [(0, .ref (ad B x0)), (1, .int x1), (2, .int x2)] 26 [] := by
  unfold fX12_ahead_J26 at hf
  refine b_iconst C (v := (-1)) dX12_ahead_26 (by decide) ?_
  exact b_iret C hr hlocks hf dX12_ahead_27
set_option maxRecDepth 100000 in
def fX12_ahead_B205 (N : Nat) (g : Gs) (x0 : Nat) (x1 : Int32) (x2 : Int32) (K205 : Int32 × Int32 × Ds → Option (Int32 × Ds)) (y3 : Int32) (y4 : Int32) (d : Ds) : Option (Int32 × Ds) := if (24 : Int32) ≤ y4 then (some (y3, d)) else (gd (chk g x0 11) <| ob (gR g x0 19) fun r30 => (ob (gR g x0 29) fun r31 => (gd (chk g r31 101) <| gd (¬ (y4 < 0 ∨ gL g r31 ≤ y4.toNatClampNeg)) <| gd (chk g r30 101) <| gd (¬ (y4 < 0 ∨ gL g r30 ≤ y4.toNatClampNeg)) <| bd (sF d r30 y4.toNatClampNeg (dF d r31 y4.toNatClampNeg)) fun d36 => (bd (y4 + 1) fun u37 => (K205 (y3, u37, d36))))))
set_option maxHeartbeats 4000000 in
set_option maxRecDepth 100000 in
theorem tX12_ahead_205 {p : Program} {l : Launch} {e : Env} {s : State} {m : MethodId} {args : Array Value} {below : List Frame} {meth : Method} {c : Code} {D : va_G} {cy : Nat → ClassId} {B : Bs} (C : Cx p s m args c cX12_ahead 5 RX12 D cy B) (hr : meth.sig.returnType = (some .int)) (hlocks : meth.locks = false) {N : Nat} {g : Gs} {x0 : Nat} {x1 : Int32} {x2 : Int32} {vz : Int32} {dz : Ds} {K205 : Int32 × Int32 × Ds → Option (Int32 × Ds)} (hK205 : ∀ a, K205 a = some (vz, dz) → WB p l e rmX12_ahead s m args below meth c 5 D cy B 0 0 (MQ below (QI D cy B vz g dz) args s 0 0 (wA B)) g a.2.2 [(0, .ref (ad B x0)), (1, .int x1), (2, .int x2), (3, .int a.1), (4, .int a.2.1)] 205 []) {y3 : Int32} {y4 : Int32} {d : Ds} (hf : fX12_ahead_B205 N g x0 x1 x2 K205 y3 y4 d = some (vz, dz)) : WB p l e rmX12_ahead s m args below meth c 5 D cy B 0 0 (MQ below (QI D cy B vz g dz) args s 0 0 (wA B)) g d [(0, .ref (ad B x0)), (1, .int x1), (2, .int x2), (3, .int y3), (4, .int y4)] 205 [] := by
  unfold fX12_ahead_B205 at hf
  refine b_iload C dX12_ahead_205 4 rfl ?_
  refine b_bipush C (v := 24) dX12_ahead_207 (by decide) ?_
  refine b_icmp_ge C (tgt := 232) dX12_ahead_209 (by decide) (fun c28 => ?_) (fun c28 => ?_)
  · have hf := it_s c28 hf
    refine b_iload_n C dX12_ahead_232 3 rfl rfl ?_
    exact b_iret C hr hlocks hf dX12_ahead_233
  · have hf := if_s c28 hf
    refine b_aload_n C dX12_ahead_212 0 rfl rfl ?_
    obtain ⟨h29, hf⟩ := gd_s hf
    obtain ⟨r30, er30, hf⟩ := ob_s hf
    refine b_gR C dX12_ahead_213 fl_X12_46 h29 er30 ?_
    refine b_iload C dX12_ahead_216 4 rfl ?_
    refine b_aload_n C dX12_ahead_218 0 rfl rfl ?_
    obtain ⟨r31, er31, hf⟩ := ob_s hf
    refine b_gR C dX12_ahead_219 fl_X12_62 h29 er31 ?_
    refine b_iload C dX12_ahead_222 4 rfl ?_
    obtain ⟨h32, hf⟩ := gd_s hf
    obtain ⟨h33, hf⟩ := gd_s hf
    refine b_fald C h32 h33 dX12_ahead_224 ?_
    obtain ⟨h34, hf⟩ := gd_s hf
    obtain ⟨h35, hf⟩ := gd_s hf
    obtain ⟨d36, ed36, hf⟩ := bd_s hf
    refine b_fast C h34 h35 ed36 dX12_ahead_225 ?_
    obtain ⟨u37, eu37, hf⟩ := bd_s hf
    refine b_iinc C dX12_ahead_226 4 rfl (by rw [eu37]; rfl) [(4, .int u37), (0, .ref (ad B x0)), (1, .int x1), (2, .int x2), (3, .int y3)] (by decide) rfl ?_
    refine b_goto C (tgt := 205) dX12_ahead_229 (by decide) ?_
    refine b_sub [(0, .ref (ad B x0)), (1, .int x1), (2, .int x2), (3, .int y3), (4, .int u37)] [1, 2, 3, 4, 0] rfl ?_
    exact hK205 (y3, u37, d36) hf
def fX12_ahead_L205 (N : Nat) (g : Gs) (x0 : Nat) (x1 : Int32) (x2 : Int32) : Int32 × Int32 × Ds → Option (Int32 × Ds) := lp (fun K205 a => fX12_ahead_B205 N g x0 x1 x2 K205 a.1 a.2.1 a.2.2) N
theorem tX12_ahead_L205 {p : Program} {l : Launch} {e : Env} {s : State} {m : MethodId} {args : Array Value} {below : List Frame} {meth : Method} {c : Code} {D : va_G} {cy : Nat → ClassId} {B : Bs} (C : Cx p s m args c cX12_ahead 5 RX12 D cy B) (hr : meth.sig.returnType = (some .int)) (hlocks : meth.locks = false) {N : Nat} {g : Gs} {x0 : Nat} {x1 : Int32} {x2 : Int32} {vz : Int32} {dz : Ds} (a : Int32 × Int32 × Ds) (hf : fX12_ahead_L205 N g x0 x1 x2 a = some (vz, dz)) : WB p l e rmX12_ahead s m args below meth c 5 D cy B 0 0 (MQ below (QI D cy B vz g dz) args s 0 0 (wA B)) g a.2.2 [(0, .ref (ad B x0)), (1, .int x1), (2, .int x2), (3, .int a.1), (4, .int a.2.1)] 205 [] :=
  lp_w (fun K205 hK205 a ha => tX12_ahead_205 C hr hlocks hK205 ha) N a hf
set_option maxRecDepth 100000 in
def fX12_ahead_B174 (N : Nat) (g : Gs) (x0 : Nat) (x1 : Int32) (x2 : Int32) (K174 : Int32 × Int32 × Ds → Option (Int32 × Ds)) (y3 : Int32) (y4 : Int32) (d : Ds) : Option (Int32 × Ds) := if (9178 : Int32) ≤ y4 then (fX12_ahead_L205 N g x0 x1 x2 (y3, 0, d)) else (gd (chk g x0 11) <| ob (gR g x0 17) fun r39 => (ob (gR g x0 28) fun r40 => (gd (chk g r40 102) <| gd (¬ (y4 < 0 ∨ gL g r40 ≤ y4.toNatClampNeg)) <| gd (chk g r39 102) <| gd (¬ (y4 < 0 ∨ gL g r39 ≤ y4.toNatClampNeg)) <| bd (sI d r39 y4.toNatClampNeg (dI d r40 y4.toNatClampNeg)) fun d45 => (bd (y4 + 1) fun u46 => (K174 (y3, u46, d45))))))
set_option maxHeartbeats 4000000 in
set_option maxRecDepth 100000 in
theorem tX12_ahead_174 {p : Program} {l : Launch} {e : Env} {s : State} {m : MethodId} {args : Array Value} {below : List Frame} {meth : Method} {c : Code} {D : va_G} {cy : Nat → ClassId} {B : Bs} (C : Cx p s m args c cX12_ahead 5 RX12 D cy B) (hr : meth.sig.returnType = (some .int)) (hlocks : meth.locks = false) {N : Nat} {g : Gs} {x0 : Nat} {x1 : Int32} {x2 : Int32} {vz : Int32} {dz : Ds} {K174 : Int32 × Int32 × Ds → Option (Int32 × Ds)} (hK174 : ∀ a, K174 a = some (vz, dz) → WB p l e rmX12_ahead s m args below meth c 5 D cy B 0 0 (MQ below (QI D cy B vz g dz) args s 0 0 (wA B)) g a.2.2 [(0, .ref (ad B x0)), (1, .int x1), (2, .int x2), (3, .int a.1), (4, .int a.2.1)] 174 []) {y3 : Int32} {y4 : Int32} {d : Ds} (hf : fX12_ahead_B174 N g x0 x1 x2 K174 y3 y4 d = some (vz, dz)) : WB p l e rmX12_ahead s m args below meth c 5 D cy B 0 0 (MQ below (QI D cy B vz g dz) args s 0 0 (wA B)) g d [(0, .ref (ad B x0)), (1, .int x1), (2, .int x2), (3, .int y3), (4, .int y4)] 174 [] := by
  unfold fX12_ahead_B174 at hf
  refine b_iload C dX12_ahead_174 4 rfl ?_
  refine b_sipush C (v := 9178) dX12_ahead_176 (by decide) ?_
  refine b_icmp_ge C (tgt := 202) dX12_ahead_179 (by decide) (fun c27 => ?_) (fun c27 => ?_)
  · have hf := it_s c27 hf
    refine b_iconst C (v := 0) dX12_ahead_202 (by decide) ?_
    refine b_istore C dX12_ahead_203 [(4, .int 0), (0, .ref (ad B x0)), (1, .int x1), (2, .int x2), (3, .int y3)] (by decide) rfl ?_
    refine b_sub [(0, .ref (ad B x0)), (1, .int x1), (2, .int x2), (3, .int y3), (4, .int 0)] [1, 2, 3, 4, 0] rfl ?_
    exact tX12_ahead_L205 C hr hlocks (y3, 0, d) hf
  · have hf := if_s c27 hf
    refine b_aload_n C dX12_ahead_182 0 rfl rfl ?_
    obtain ⟨h38, hf⟩ := gd_s hf
    obtain ⟨r39, er39, hf⟩ := ob_s hf
    refine b_gR C dX12_ahead_183 fl_X12_40 h38 er39 ?_
    refine b_iload C dX12_ahead_186 4 rfl ?_
    refine b_aload_n C dX12_ahead_188 0 rfl rfl ?_
    obtain ⟨r40, er40, hf⟩ := ob_s hf
    refine b_gR C dX12_ahead_189 fl_X12_59 h38 er40 ?_
    refine b_iload C dX12_ahead_192 4 rfl ?_
    obtain ⟨h41, hf⟩ := gd_s hf
    obtain ⟨h42, hf⟩ := gd_s hf
    refine b_iald C h41 h42 dX12_ahead_194 ?_
    obtain ⟨h43, hf⟩ := gd_s hf
    obtain ⟨h44, hf⟩ := gd_s hf
    obtain ⟨d45, ed45, hf⟩ := bd_s hf
    refine b_iast C h43 h44 ed45 dX12_ahead_195 ?_
    obtain ⟨u46, eu46, hf⟩ := bd_s hf
    refine b_iinc C dX12_ahead_196 4 rfl (by rw [eu46]; rfl) [(4, .int u46), (0, .ref (ad B x0)), (1, .int x1), (2, .int x2), (3, .int y3)] (by decide) rfl ?_
    refine b_goto C (tgt := 174) dX12_ahead_199 (by decide) ?_
    refine b_sub [(0, .ref (ad B x0)), (1, .int x1), (2, .int x2), (3, .int y3), (4, .int u46)] [1, 2, 3, 4, 0] rfl ?_
    exact hK174 (y3, u46, d45) hf
def fX12_ahead_L174 (N : Nat) (g : Gs) (x0 : Nat) (x1 : Int32) (x2 : Int32) : Int32 × Int32 × Ds → Option (Int32 × Ds) := lp (fun K174 a => fX12_ahead_B174 N g x0 x1 x2 K174 a.1 a.2.1 a.2.2) N
theorem tX12_ahead_L174 {p : Program} {l : Launch} {e : Env} {s : State} {m : MethodId} {args : Array Value} {below : List Frame} {meth : Method} {c : Code} {D : va_G} {cy : Nat → ClassId} {B : Bs} (C : Cx p s m args c cX12_ahead 5 RX12 D cy B) (hr : meth.sig.returnType = (some .int)) (hlocks : meth.locks = false) {N : Nat} {g : Gs} {x0 : Nat} {x1 : Int32} {x2 : Int32} {vz : Int32} {dz : Ds} (a : Int32 × Int32 × Ds) (hf : fX12_ahead_L174 N g x0 x1 x2 a = some (vz, dz)) : WB p l e rmX12_ahead s m args below meth c 5 D cy B 0 0 (MQ below (QI D cy B vz g dz) args s 0 0 (wA B)) g a.2.2 [(0, .ref (ad B x0)), (1, .int x1), (2, .int x2), (3, .int a.1), (4, .int a.2.1)] 174 [] :=
  lp_w (fun K174 hK174 a ha => tX12_ahead_174 C hr hlocks hK174 ha) N a hf
set_option maxRecDepth 100000 in
def fX12_ahead_J170 (N : Nat) (g : Gs) (x0 : Nat) (x1 : Int32) (x2 : Int32) (z0 : Int32) (d : Ds) : Option (Int32 × Ds) := fX12_ahead_L174 N g x0 x1 x2 (z0, 0, d)
set_option maxHeartbeats 4000000 in
set_option maxRecDepth 100000 in
theorem tX12_ahead_170 {p : Program} {l : Launch} {e : Env} {s : State} {m : MethodId} {args : Array Value} {below : List Frame} {meth : Method} {c : Code} {D : va_G} {cy : Nat → ClassId} {B : Bs} (C : Cx p s m args c cX12_ahead 5 RX12 D cy B) (hr : meth.sig.returnType = (some .int)) (hlocks : meth.locks = false) {N : Nat} {g : Gs} {x0 : Nat} {x1 : Int32} {x2 : Int32} {vz : Int32} {dz : Ds} {z0 : Int32} {d : Ds} (hf : fX12_ahead_J170 N g x0 x1 x2 z0 d = some (vz, dz)) : WB p l e rmX12_ahead s m args below meth c 5 D cy B 0 0 (MQ below (QI D cy B vz g dz) args s 0 0 (wA B)) g d [(0, .ref (ad B x0)), (1, .int x1), (2, .int x2)] 170 [.int z0] := by
  unfold fX12_ahead_J170 at hf
  refine b_istore_n C dX12_ahead_170 rfl [(3, .int z0), (0, .ref (ad B x0)), (1, .int x1), (2, .int x2)] (by decide) rfl ?_
  refine b_iconst C (v := 0) dX12_ahead_171 (by decide) ?_
  refine b_istore C dX12_ahead_172 [(4, .int 0), (3, .int z0), (0, .ref (ad B x0)), (1, .int x1), (2, .int x2)] (by decide) rfl ?_
  refine b_sub [(0, .ref (ad B x0)), (1, .int x1), (2, .int x2), (3, .int z0), (4, .int 0)] [2, 3, 4, 1, 0] rfl ?_
  exact tX12_ahead_L174 C hr hlocks (z0, 0, d) hf
set_option maxRecDepth 100000 in
def fX12_ahead_B83 (N : Nat) (g : Gs) (x0 : Nat) (x1 : Int32) (x2 : Int32) (K83 : Int32 × Ds → Option (Int32 × Ds)) (y3 : Int32) (d : Ds) : Option (Int32 × Ds) := if x1 ≤ y3 then (gd (chk g x0 11) <| cv (fX12_laysSent N g x0 d) fun d18 => (if x2 = 0 then (ob (gR g x0 17) fun r50 => (gd (chk g r50 102) <| gd (¬ ((555 : Int32) < 0 ∨ gL g r50 ≤ (555 : Int32).toNatClampNeg)) <| ob (gR g x0 28) fun r53 => (gd (chk g r53 102) <| gd (¬ ((555 : Int32) < 0 ∨ gL g r53 ≤ (555 : Int32).toNatClampNeg)) <| fX12_ahead_J170 N g x0 x1 x2 ((dI d18 r50 (555 : Int32).toNatClampNeg) - (dI d18 r53 (555 : Int32).toNatClampNeg)) d18))) else (if x2 = (1 : Int32) then (fX12_ahead_J170 N g x0 x1 x2 (dI d18 x0 25) d18) else (if x2 = (2 : Int32) then (fX12_ahead_J170 N g x0 x1 x2 (dI d18 x0 26) d18) else (if x2 = (3 : Int32) then (cb (fX12_activeLayers N g x0 d18) fun u49 d47 => (fX12_ahead_J170 N g x0 x1 x2 u49 d47)) else (ob (gR g x0 17) fun r24 => (gd (chk g r24 102) <| gd (¬ ((557 : Int32) < 0 ∨ gL g r24 ≤ (557 : Int32).toNatClampNeg)) <| fX12_ahead_J170 N g x0 x1 x2 (dI d18 r24 (557 : Int32).toNatClampNeg) d18))))))) else (gd (chk g x0 11) <| cv (fX12_ticks N g x0 d) fun d57 => (bd (y3 + 1) fun u59 => (K83 (u59, d57))))
set_option maxHeartbeats 4000000 in
set_option maxRecDepth 100000 in
theorem tX12_ahead_83 {p : Program} {l : Launch} {e : Env} {s : State} {m : MethodId} {args : Array Value} {below : List Frame} {meth : Method} {c : Code} {D : va_G} {cy : Nat → ClassId} {B : Bs} (C : Cx p s m args c cX12_ahead 5 RX12 D cy B) (hr : meth.sig.returnType = (some .int)) (hlocks : meth.locks = false) {N : Nat} {g : Gs} {x0 : Nat} {x1 : Int32} {x2 : Int32} {vz : Int32} {dz : Ds} {K83 : Int32 × Ds → Option (Int32 × Ds)} (hK83 : ∀ a, K83 a = some (vz, dz) → WB p l e rmX12_ahead s m args below meth c 5 D cy B 0 0 (MQ below (QI D cy B vz g dz) args s 0 0 (wA B)) g a.2 [(0, .ref (ad B x0)), (1, .int x1), (2, .int x2), (3, .int a.1)] 83 []) {y3 : Int32} {d : Ds} (hf : fX12_ahead_B83 N g x0 x1 x2 K83 y3 d = some (vz, dz)) : WB p l e rmX12_ahead s m args below meth c 5 D cy B 0 0 (MQ below (QI D cy B vz g dz) args s 0 0 (wA B)) g d [(0, .ref (ad B x0)), (1, .int x1), (2, .int x2), (3, .int y3)] 83 [] := by
  unfold fX12_ahead_B83 at hf
  refine b_iload_n C dX12_ahead_83 3 rfl rfl ?_
  refine b_iload_n C dX12_ahead_84 1 rfl rfl ?_
  refine b_icmp_ge C (tgt := 98) dX12_ahead_85 (by decide) (fun c16 => ?_) (fun c16 => ?_)
  · have hf := it_s c16 hf
    refine b_aload_n C dX12_ahead_98 0 rfl rfl ?_
    obtain ⟨h17, hf⟩ := gd_s hf
    obtain ⟨d18, k19, hf⟩ := cv_s hf
    refine b_cVN C [] dX12_ahead_99 (kX12_laysSent l D cy B k19) lv_X12_314 ⟨rfl, rfl, Nat.le_of_ble_eq_true rfl, Nat.le_of_ble_eq_true rfl⟩ h17 (by decide) rfl (Nat.le_of_ble_eq_true rfl) ⟨Nat.zero_le _, Nat.zero_le _⟩ rfl ?_
    refine b_iload_n C dX12_ahead_102 2 rfl rfl ?_
    refine b_if_ne C (tgt := 126) dX12_ahead_103 (by decide) (fun c20 => ?_) (fun c20 => ?_)
    · have hf := if_s c20 hf
      refine b_iload_n C dX12_ahead_126 2 rfl rfl ?_
      refine b_iconst C (v := 1) dX12_ahead_127 (by decide) ?_
      refine b_icmp_ne C (tgt := 138) dX12_ahead_128 (by decide) (fun c21 => ?_) (fun c21 => ?_)
      · have hf := if_s c21 hf
        refine b_iload_n C dX12_ahead_138 2 rfl rfl ?_
        refine b_iconst C (v := 2) dX12_ahead_139 (by decide) ?_
        refine b_icmp_ne C (tgt := 150) dX12_ahead_140 (by decide) (fun c22 => ?_) (fun c22 => ?_)
        · have hf := if_s c22 hf
          refine b_iload_n C dX12_ahead_150 2 rfl rfl ?_
          refine b_iconst C (v := 3) dX12_ahead_151 (by decide) ?_
          refine b_icmp_ne C (tgt := 162) dX12_ahead_152 (by decide) (fun c23 => ?_) (fun c23 => ?_)
          · have hf := if_s c23 hf
            refine b_aload_n C dX12_ahead_162 0 rfl rfl ?_
            obtain ⟨r24, er24, hf⟩ := ob_s hf
            refine b_gR C dX12_ahead_163 fl_X12_40 h17 er24 ?_
            refine b_sipush C (v := 557) dX12_ahead_166 (by decide) ?_
            obtain ⟨h25, hf⟩ := gd_s hf
            obtain ⟨h26, hf⟩ := gd_s hf
            refine b_iald C h25 h26 dX12_ahead_169 ?_
            refine b_sub [(0, .ref (ad B x0)), (1, .int x1), (2, .int x2)] [0, 1, 2] rfl ?_
            exact tX12_ahead_170 C hr hlocks hf
          · have hf := it_s c23 hf
            refine b_aload_n C dX12_ahead_155 0 rfl rfl ?_
            obtain ⟨u49, d47, k48, hf⟩ := cb_s hf
            refine b_cVI C [] dX12_ahead_156 (kX12_activeLayers l D cy B k48) lv_X12_296 ⟨rfl, rfl, Nat.le_of_ble_eq_true rfl, Nat.le_of_ble_eq_true rfl⟩ h17 (by decide) rfl (Nat.le_of_ble_eq_true rfl) ⟨Nat.zero_le _, Nat.zero_le _⟩ rfl ?_
            refine b_goto C (tgt := 170) dX12_ahead_159 (by decide) ?_
            refine b_sub [(0, .ref (ad B x0)), (1, .int x1), (2, .int x2)] [0, 1, 2] rfl ?_
            exact tX12_ahead_170 C hr hlocks hf
        · have hf := it_s c22 hf
          refine b_aload_n C dX12_ahead_143 0 rfl rfl ?_
          refine b_gI C dX12_ahead_144 fl_X12_299 h17 ?_
          refine b_goto C (tgt := 170) dX12_ahead_147 (by decide) ?_
          refine b_sub [(0, .ref (ad B x0)), (1, .int x1), (2, .int x2)] [0, 1, 2] rfl ?_
          exact tX12_ahead_170 C hr hlocks hf
      · have hf := it_s c21 hf
        refine b_aload_n C dX12_ahead_131 0 rfl rfl ?_
        refine b_gI C dX12_ahead_132 fl_X12_302 h17 ?_
        refine b_goto C (tgt := 170) dX12_ahead_135 (by decide) ?_
        refine b_sub [(0, .ref (ad B x0)), (1, .int x1), (2, .int x2)] [0, 1, 2] rfl ?_
        exact tX12_ahead_170 C hr hlocks hf
    · have hf := it_s c20 hf
      refine b_aload_n C dX12_ahead_106 0 rfl rfl ?_
      obtain ⟨r50, er50, hf⟩ := ob_s hf
      refine b_gR C dX12_ahead_107 fl_X12_40 h17 er50 ?_
      refine b_sipush C (v := 555) dX12_ahead_110 (by decide) ?_
      obtain ⟨h51, hf⟩ := gd_s hf
      obtain ⟨h52, hf⟩ := gd_s hf
      refine b_iald C h51 h52 dX12_ahead_113 ?_
      refine b_aload_n C dX12_ahead_114 0 rfl rfl ?_
      obtain ⟨r53, er53, hf⟩ := ob_s hf
      refine b_gR C dX12_ahead_115 fl_X12_59 h17 er53 ?_
      refine b_sipush C (v := 555) dX12_ahead_118 (by decide) ?_
      obtain ⟨h54, hf⟩ := gd_s hf
      obtain ⟨h55, hf⟩ := gd_s hf
      refine b_iald C h54 h55 dX12_ahead_121 ?_
      refine b_isub C dX12_ahead_122 ?_
      refine b_goto C (tgt := 170) dX12_ahead_123 (by decide) ?_
      refine b_sub [(0, .ref (ad B x0)), (1, .int x1), (2, .int x2)] [0, 1, 2] rfl ?_
      exact tX12_ahead_170 C hr hlocks hf
  · have hf := if_s c16 hf
    refine b_aload_n C dX12_ahead_88 0 rfl rfl ?_
    obtain ⟨h56, hf⟩ := gd_s hf
    obtain ⟨d57, k58, hf⟩ := cv_s hf
    refine b_cVN C [] dX12_ahead_89 (kX12_ticks l D cy B k58) lv_X12_326 ⟨rfl, rfl, Nat.le_of_ble_eq_true rfl, Nat.le_of_ble_eq_true rfl⟩ h56 (by decide) rfl (Nat.le_of_ble_eq_true rfl) ⟨Nat.zero_le _, Nat.zero_le _⟩ rfl ?_
    obtain ⟨u59, eu59, hf⟩ := bd_s hf
    refine b_iinc C dX12_ahead_92 3 rfl (by rw [eu59]; rfl) [(3, .int u59), (0, .ref (ad B x0)), (1, .int x1), (2, .int x2)] (by decide) rfl ?_
    refine b_goto C (tgt := 83) dX12_ahead_95 (by decide) ?_
    refine b_sub [(0, .ref (ad B x0)), (1, .int x1), (2, .int x2), (3, .int u59)] [1, 2, 3, 0] rfl ?_
    exact hK83 (u59, d57) hf
def fX12_ahead_L83 (N : Nat) (g : Gs) (x0 : Nat) (x1 : Int32) (x2 : Int32) : Int32 × Ds → Option (Int32 × Ds) := lp (fun K83 a => fX12_ahead_B83 N g x0 x1 x2 K83 a.1 a.2) N
theorem tX12_ahead_L83 {p : Program} {l : Launch} {e : Env} {s : State} {m : MethodId} {args : Array Value} {below : List Frame} {meth : Method} {c : Code} {D : va_G} {cy : Nat → ClassId} {B : Bs} (C : Cx p s m args c cX12_ahead 5 RX12 D cy B) (hr : meth.sig.returnType = (some .int)) (hlocks : meth.locks = false) {N : Nat} {g : Gs} {x0 : Nat} {x1 : Int32} {x2 : Int32} {vz : Int32} {dz : Ds} (a : Int32 × Ds) (hf : fX12_ahead_L83 N g x0 x1 x2 a = some (vz, dz)) : WB p l e rmX12_ahead s m args below meth c 5 D cy B 0 0 (MQ below (QI D cy B vz g dz) args s 0 0 (wA B)) g a.2 [(0, .ref (ad B x0)), (1, .int x1), (2, .int x2), (3, .int a.1)] 83 [] :=
  lp_w (fun K83 hK83 a ha => tX12_ahead_83 C hr hlocks hK83 ha) N a hf
set_option maxRecDepth 100000 in
def fX12_ahead_B57 (N : Nat) (g : Gs) (x0 : Nat) (x1 : Int32) (x2 : Int32) (K57 : Int32 × Ds → Option (Int32 × Ds)) (y3 : Int32) (d : Ds) : Option (Int32 × Ds) := if (24 : Int32) ≤ y3 then (fX12_ahead_L83 N g x0 x1 x2 (0, d)) else (gd (chk g x0 11) <| ob (gR g x0 29) fun r61 => (ob (gR g x0 19) fun r62 => (gd (chk g r62 101) <| gd (¬ (y3 < 0 ∨ gL g r62 ≤ y3.toNatClampNeg)) <| gd (chk g r61 101) <| gd (¬ (y3 < 0 ∨ gL g r61 ≤ y3.toNatClampNeg)) <| bd (sF d r61 y3.toNatClampNeg (dF d r62 y3.toNatClampNeg)) fun d67 => (bd (y3 + 1) fun u68 => (K57 (u68, d67))))))
set_option maxHeartbeats 4000000 in
set_option maxRecDepth 100000 in
theorem tX12_ahead_57 {p : Program} {l : Launch} {e : Env} {s : State} {m : MethodId} {args : Array Value} {below : List Frame} {meth : Method} {c : Code} {D : va_G} {cy : Nat → ClassId} {B : Bs} (C : Cx p s m args c cX12_ahead 5 RX12 D cy B) (hr : meth.sig.returnType = (some .int)) (hlocks : meth.locks = false) {N : Nat} {g : Gs} {x0 : Nat} {x1 : Int32} {x2 : Int32} {vz : Int32} {dz : Ds} {K57 : Int32 × Ds → Option (Int32 × Ds)} (hK57 : ∀ a, K57 a = some (vz, dz) → WB p l e rmX12_ahead s m args below meth c 5 D cy B 0 0 (MQ below (QI D cy B vz g dz) args s 0 0 (wA B)) g a.2 [(0, .ref (ad B x0)), (1, .int x1), (2, .int x2), (3, .int a.1)] 57 []) {y3 : Int32} {d : Ds} (hf : fX12_ahead_B57 N g x0 x1 x2 K57 y3 d = some (vz, dz)) : WB p l e rmX12_ahead s m args below meth c 5 D cy B 0 0 (MQ below (QI D cy B vz g dz) args s 0 0 (wA B)) g d [(0, .ref (ad B x0)), (1, .int x1), (2, .int x2), (3, .int y3)] 57 [] := by
  unfold fX12_ahead_B57 at hf
  refine b_iload_n C dX12_ahead_57 3 rfl rfl ?_
  refine b_bipush C (v := 24) dX12_ahead_58 (by decide) ?_
  refine b_icmp_ge C (tgt := 81) dX12_ahead_60 (by decide) (fun c15 => ?_) (fun c15 => ?_)
  · have hf := it_s c15 hf
    refine b_iconst C (v := 0) dX12_ahead_81 (by decide) ?_
    refine b_istore_n C dX12_ahead_82 rfl [(3, .int 0), (0, .ref (ad B x0)), (1, .int x1), (2, .int x2)] (by decide) rfl ?_
    refine b_sub [(0, .ref (ad B x0)), (1, .int x1), (2, .int x2), (3, .int 0)] [1, 2, 3, 0] rfl ?_
    exact tX12_ahead_L83 C hr hlocks (0, d) hf
  · have hf := if_s c15 hf
    refine b_aload_n C dX12_ahead_63 0 rfl rfl ?_
    obtain ⟨h60, hf⟩ := gd_s hf
    obtain ⟨r61, er61, hf⟩ := ob_s hf
    refine b_gR C dX12_ahead_64 fl_X12_62 h60 er61 ?_
    refine b_iload_n C dX12_ahead_67 3 rfl rfl ?_
    refine b_aload_n C dX12_ahead_68 0 rfl rfl ?_
    obtain ⟨r62, er62, hf⟩ := ob_s hf
    refine b_gR C dX12_ahead_69 fl_X12_46 h60 er62 ?_
    refine b_iload_n C dX12_ahead_72 3 rfl rfl ?_
    obtain ⟨h63, hf⟩ := gd_s hf
    obtain ⟨h64, hf⟩ := gd_s hf
    refine b_fald C h63 h64 dX12_ahead_73 ?_
    obtain ⟨h65, hf⟩ := gd_s hf
    obtain ⟨h66, hf⟩ := gd_s hf
    obtain ⟨d67, ed67, hf⟩ := bd_s hf
    refine b_fast C h65 h66 ed67 dX12_ahead_74 ?_
    obtain ⟨u68, eu68, hf⟩ := bd_s hf
    refine b_iinc C dX12_ahead_75 3 rfl (by rw [eu68]; rfl) [(3, .int u68), (0, .ref (ad B x0)), (1, .int x1), (2, .int x2)] (by decide) rfl ?_
    refine b_goto C (tgt := 57) dX12_ahead_78 (by decide) ?_
    refine b_sub [(0, .ref (ad B x0)), (1, .int x1), (2, .int x2), (3, .int u68)] [1, 2, 3, 0] rfl ?_
    exact hK57 (u68, d67) hf
def fX12_ahead_L57 (N : Nat) (g : Gs) (x0 : Nat) (x1 : Int32) (x2 : Int32) : Int32 × Ds → Option (Int32 × Ds) := lp (fun K57 a => fX12_ahead_B57 N g x0 x1 x2 K57 a.1 a.2) N
theorem tX12_ahead_L57 {p : Program} {l : Launch} {e : Env} {s : State} {m : MethodId} {args : Array Value} {below : List Frame} {meth : Method} {c : Code} {D : va_G} {cy : Nat → ClassId} {B : Bs} (C : Cx p s m args c cX12_ahead 5 RX12 D cy B) (hr : meth.sig.returnType = (some .int)) (hlocks : meth.locks = false) {N : Nat} {g : Gs} {x0 : Nat} {x1 : Int32} {x2 : Int32} {vz : Int32} {dz : Ds} (a : Int32 × Ds) (hf : fX12_ahead_L57 N g x0 x1 x2 a = some (vz, dz)) : WB p l e rmX12_ahead s m args below meth c 5 D cy B 0 0 (MQ below (QI D cy B vz g dz) args s 0 0 (wA B)) g a.2 [(0, .ref (ad B x0)), (1, .int x1), (2, .int x2), (3, .int a.1)] 57 [] :=
  lp_w (fun K57 hK57 a ha => tX12_ahead_57 C hr hlocks hK57 ha) N a hf
set_option maxRecDepth 100000 in
def fX12_ahead_B30 (N : Nat) (g : Gs) (x0 : Nat) (x1 : Int32) (x2 : Int32) (K30 : Int32 × Ds → Option (Int32 × Ds)) (y3 : Int32) (d : Ds) : Option (Int32 × Ds) := if (9178 : Int32) ≤ y3 then (fX12_ahead_L57 N g x0 x1 x2 (0, d)) else (gd (chk g x0 11) <| ob (gR g x0 28) fun r70 => (ob (gR g x0 17) fun r71 => (gd (chk g r71 102) <| gd (¬ (y3 < 0 ∨ gL g r71 ≤ y3.toNatClampNeg)) <| gd (chk g r70 102) <| gd (¬ (y3 < 0 ∨ gL g r70 ≤ y3.toNatClampNeg)) <| bd (sI d r70 y3.toNatClampNeg (dI d r71 y3.toNatClampNeg)) fun d76 => (bd (y3 + 1) fun u77 => (K30 (u77, d76))))))
set_option maxHeartbeats 4000000 in
set_option maxRecDepth 100000 in
theorem tX12_ahead_30 {p : Program} {l : Launch} {e : Env} {s : State} {m : MethodId} {args : Array Value} {below : List Frame} {meth : Method} {c : Code} {D : va_G} {cy : Nat → ClassId} {B : Bs} (C : Cx p s m args c cX12_ahead 5 RX12 D cy B) (hr : meth.sig.returnType = (some .int)) (hlocks : meth.locks = false) {N : Nat} {g : Gs} {x0 : Nat} {x1 : Int32} {x2 : Int32} {vz : Int32} {dz : Ds} {K30 : Int32 × Ds → Option (Int32 × Ds)} (hK30 : ∀ a, K30 a = some (vz, dz) → WB p l e rmX12_ahead s m args below meth c 5 D cy B 0 0 (MQ below (QI D cy B vz g dz) args s 0 0 (wA B)) g a.2 [(0, .ref (ad B x0)), (1, .int x1), (2, .int x2), (3, .int a.1)] 30 []) {y3 : Int32} {d : Ds} (hf : fX12_ahead_B30 N g x0 x1 x2 K30 y3 d = some (vz, dz)) : WB p l e rmX12_ahead s m args below meth c 5 D cy B 0 0 (MQ below (QI D cy B vz g dz) args s 0 0 (wA B)) g d [(0, .ref (ad B x0)), (1, .int x1), (2, .int x2), (3, .int y3)] 30 [] := by
  unfold fX12_ahead_B30 at hf
  refine b_iload_n C dX12_ahead_30 3 rfl rfl ?_
  refine b_sipush C (v := 9178) dX12_ahead_31 (by decide) ?_
  refine b_icmp_ge C (tgt := 55) dX12_ahead_34 (by decide) (fun c14 => ?_) (fun c14 => ?_)
  · have hf := it_s c14 hf
    refine b_iconst C (v := 0) dX12_ahead_55 (by decide) ?_
    refine b_istore_n C dX12_ahead_56 rfl [(3, .int 0), (0, .ref (ad B x0)), (1, .int x1), (2, .int x2)] (by decide) rfl ?_
    refine b_sub [(0, .ref (ad B x0)), (1, .int x1), (2, .int x2), (3, .int 0)] [1, 2, 3, 0] rfl ?_
    exact tX12_ahead_L57 C hr hlocks (0, d) hf
  · have hf := if_s c14 hf
    refine b_aload_n C dX12_ahead_37 0 rfl rfl ?_
    obtain ⟨h69, hf⟩ := gd_s hf
    obtain ⟨r70, er70, hf⟩ := ob_s hf
    refine b_gR C dX12_ahead_38 fl_X12_59 h69 er70 ?_
    refine b_iload_n C dX12_ahead_41 3 rfl rfl ?_
    refine b_aload_n C dX12_ahead_42 0 rfl rfl ?_
    obtain ⟨r71, er71, hf⟩ := ob_s hf
    refine b_gR C dX12_ahead_43 fl_X12_40 h69 er71 ?_
    refine b_iload_n C dX12_ahead_46 3 rfl rfl ?_
    obtain ⟨h72, hf⟩ := gd_s hf
    obtain ⟨h73, hf⟩ := gd_s hf
    refine b_iald C h72 h73 dX12_ahead_47 ?_
    obtain ⟨h74, hf⟩ := gd_s hf
    obtain ⟨h75, hf⟩ := gd_s hf
    obtain ⟨d76, ed76, hf⟩ := bd_s hf
    refine b_iast C h74 h75 ed76 dX12_ahead_48 ?_
    obtain ⟨u77, eu77, hf⟩ := bd_s hf
    refine b_iinc C dX12_ahead_49 3 rfl (by rw [eu77]; rfl) [(3, .int u77), (0, .ref (ad B x0)), (1, .int x1), (2, .int x2)] (by decide) rfl ?_
    refine b_goto C (tgt := 30) dX12_ahead_52 (by decide) ?_
    refine b_sub [(0, .ref (ad B x0)), (1, .int x1), (2, .int x2), (3, .int u77)] [1, 2, 3, 0] rfl ?_
    exact hK30 (u77, d76) hf
def fX12_ahead_L30 (N : Nat) (g : Gs) (x0 : Nat) (x1 : Int32) (x2 : Int32) : Int32 × Ds → Option (Int32 × Ds) := lp (fun K30 a => fX12_ahead_B30 N g x0 x1 x2 K30 a.1 a.2) N
theorem tX12_ahead_L30 {p : Program} {l : Launch} {e : Env} {s : State} {m : MethodId} {args : Array Value} {below : List Frame} {meth : Method} {c : Code} {D : va_G} {cy : Nat → ClassId} {B : Bs} (C : Cx p s m args c cX12_ahead 5 RX12 D cy B) (hr : meth.sig.returnType = (some .int)) (hlocks : meth.locks = false) {N : Nat} {g : Gs} {x0 : Nat} {x1 : Int32} {x2 : Int32} {vz : Int32} {dz : Ds} (a : Int32 × Ds) (hf : fX12_ahead_L30 N g x0 x1 x2 a = some (vz, dz)) : WB p l e rmX12_ahead s m args below meth c 5 D cy B 0 0 (MQ below (QI D cy B vz g dz) args s 0 0 (wA B)) g a.2 [(0, .ref (ad B x0)), (1, .int x1), (2, .int x2), (3, .int a.1)] 30 [] :=
  lp_w (fun K30 hK30 a ha => tX12_ahead_30 C hr hlocks hK30 ha) N a hf
set_option maxRecDepth 100000 in
def fX12_ahead (N : Nat) (g : Gs) (x0 : Nat) (x1 : Int32) (x2 : Int32) (d : Ds) : Option (Int32 × Ds) := cb (fX12_in N g x1 1 120 d) fun u3 d1 => (if u3 = 0 then (fX12_ahead_J26 N g x0 x1 x2 d1) else (cb (fX12_in N g x2 0 4 d1) fun u7 d5 => (if u7 = 0 then (fX12_ahead_J26 N g x0 x1 x2 d5) else (gd (chk g x0 11) <| cb (fX12_keysMany N g x0 d5) fun u12 d10 => (if u12 = 0 then (fX12_ahead_J26 N g x0 x1 x2 d10) else (fX12_ahead_L30 N g x0 x1 x2 (0, d10)))))))
set_option maxHeartbeats 4000000 in
set_option maxRecDepth 100000 in
theorem tX12_ahead_E {p : Program} {l : Launch} {e : Env} {s : State} {m : MethodId} {args : Array Value} {below : List Frame} {meth : Method} {c : Code} {D : va_G} {cy : Nat → ClassId} {B : Bs} (C : Cx p s m args c cX12_ahead 5 RX12 D cy B) (hr : meth.sig.returnType = (some .int)) (hlocks : meth.locks = false) {N : Nat} {g : Gs} {x0 : Nat} {x1 : Int32} {x2 : Int32} {vz : Int32} {dz : Ds} {d : Ds} (hf : fX12_ahead N g x0 x1 x2 d = some (vz, dz)) : WB p l e rmX12_ahead s m args below meth c 5 D cy B 0 0 (MQ below (QI D cy B vz g dz) args s 0 0 (wA B)) g d [(0, .ref (ad B x0)), (1, .int x1), (2, .int x2)] 0 [] := by
  unfold fX12_ahead at hf
  refine b_iload_n C dX12_ahead_0 1 rfl rfl ?_
  refine b_iconst C (v := 1) dX12_ahead_1 (by decide) ?_
  refine b_bipush C (v := 120) dX12_ahead_2 (by decide) ?_
  obtain ⟨u3, d1, k2, hf⟩ := cb_s hf
  refine b_cSI C [] dX12_ahead_4 (kX12_in l D cy B k2) lv_X12_169 ⟨rfl, rfl, Nat.le_of_ble_eq_true rfl, Nat.le_of_ble_eq_true rfl⟩ rfl (Nat.le_of_ble_eq_true rfl) ⟨Nat.zero_le _, Nat.zero_le _⟩ rfl ?_
  refine b_if_eq C (tgt := 26) dX12_ahead_7 (by decide) (fun c4 => ?_) (fun c4 => ?_)
  · have hf := it_s c4 hf
    refine b_sub [(0, .ref (ad B x0)), (1, .int x1), (2, .int x2)] [0, 1, 2] rfl ?_
    exact tX12_ahead_26 C hr hlocks hf
  · have hf := if_s c4 hf
    refine b_iload_n C dX12_ahead_10 2 rfl rfl ?_
    refine b_iconst C (v := 0) dX12_ahead_11 (by decide) ?_
    refine b_iconst C (v := 4) dX12_ahead_12 (by decide) ?_
    obtain ⟨u7, d5, k6, hf⟩ := cb_s hf
    refine b_cSI C [] dX12_ahead_13 (kX12_in l D cy B k6) lv_X12_169 ⟨rfl, rfl, Nat.le_of_ble_eq_true rfl, Nat.le_of_ble_eq_true rfl⟩ rfl (Nat.le_of_ble_eq_true rfl) ⟨Nat.zero_le _, Nat.zero_le _⟩ rfl ?_
    refine b_if_eq C (tgt := 26) dX12_ahead_16 (by decide) (fun c8 => ?_) (fun c8 => ?_)
    · have hf := it_s c8 hf
      refine b_sub [(0, .ref (ad B x0)), (1, .int x1), (2, .int x2)] [0, 1, 2] rfl ?_
      exact tX12_ahead_26 C hr hlocks hf
    · have hf := if_s c8 hf
      refine b_aload_n C dX12_ahead_19 0 rfl rfl ?_
      obtain ⟨h9, hf⟩ := gd_s hf
      obtain ⟨u12, d10, k11, hf⟩ := cb_s hf
      refine b_cVI C [] dX12_ahead_20 (kX12_keysMany l D cy B k11) lv_X12_206 ⟨rfl, rfl, Nat.le_of_ble_eq_true rfl, Nat.le_of_ble_eq_true rfl⟩ h9 (by decide) rfl (Nat.le_of_ble_eq_true rfl) ⟨Nat.zero_le _, Nat.zero_le _⟩ rfl ?_
      refine b_if_ne C (tgt := 28) dX12_ahead_23 (by decide) (fun c13 => ?_) (fun c13 => ?_)
      · have hf := if_s c13 hf
        refine b_iconst C (v := 0) dX12_ahead_28 (by decide) ?_
        refine b_istore_n C dX12_ahead_29 rfl [(3, .int 0), (0, .ref (ad B x0)), (1, .int x1), (2, .int x2)] (by decide) rfl ?_
        refine b_sub [(0, .ref (ad B x0)), (1, .int x1), (2, .int x2), (3, .int 0)] [1, 2, 3, 0] rfl ?_
        exact tX12_ahead_L30 C hr hlocks (0, d10) hf
      · have hf := it_s c13 hf
        refine b_sub [(0, .ref (ad B x0)), (1, .int x1), (2, .int x2)] [0, 1, 2] rfl ?_
        exact tX12_ahead_26 C hr hlocks hf
theorem kX12_ahead (l : Launch) (D : va_G) (cy : Nat → ClassId) (B : Bs) {N : Nat} {g : Gs} {x0 : Nat} {x1 : Int32} {x2 : Int32} {vz : Int32} {dz : Ds} {d : Ds} (hf : fX12_ahead N g x0 x1 x2 d = some (vz, dz)) : Met l yX12_ahead (.code yX12_ahead cX12_ahead 5 (some .int) :: wl) rmX12_ahead (PC D cy B [.ref (ad B x0), .int x1, .int x2] g d) (QI D cy B vz g dz) 0 0 (wA B) :=
  met_of (by decide +kernel) (Nat.le_of_ble_eq_true rfl) (fun p e s m args below meth c C hr hlocks _ => b_sub [(0, .ref (ad B x0)), (1, .int x1), (2, .int x2)] [0, 1, 2] rfl (tX12_ahead_E C hr hlocks hf))
/-! KeyMatrixModel.hold(I)Z -/
theorem fl_X12_68 : FLR RX12 68 11 31 := ⟨⟨RX12, TX12, 33, rfl, by decide, inl11, Or.inl (mW (mT5 (List.mem_of_getElem? (i := 122) (by decide +kernel))) rfl)⟩, by decide, by decide +kernel⟩
theorem fl_X12_65 : FLR RX12 65 11 30 := ⟨⟨RX12, TX12, 33, rfl, by decide, inl11, Or.inl (mW (mT5 (List.mem_of_getElem? (i := 121) (by decide +kernel))) rfl)⟩, by decide, by decide +kernel⟩
theorem dX12_hold_0 : decode cX12_hold 0 = .ok (.iload_n 1, 1) := by decide +kernel
theorem dX12_hold_1 : decode cX12_hold 1 = .ok (.iconst 0, 1) := by decide +kernel
theorem dX12_hold_2 : decode cX12_hold 2 = .ok (.iconst 2, 1) := by decide +kernel
theorem dX12_hold_3 : decode cX12_hold 3 = .ok (.invokestatic 169, 3) := by decide +kernel
theorem dX12_hold_6 : decode cX12_hold 6 = .ok (.ifCond .ne 5, 3) := by decide +kernel
theorem dX12_hold_9 : decode cX12_hold 9 = .ok (.iconst 0, 1) := by decide +kernel
theorem dX12_hold_10 : decode cX12_hold 10 = .ok (.ireturn, 1) := by decide +kernel
theorem dX12_hold_11 : decode cX12_hold 11 = .ok (.iconst 0, 1) := by decide +kernel
theorem dX12_hold_12 : decode cX12_hold 12 = .ok (.istore_n 2, 1) := by decide +kernel
theorem dX12_hold_13 : decode cX12_hold 13 = .ok (.iload_n 2, 1) := by decide +kernel
theorem dX12_hold_14 : decode cX12_hold 14 = .ok (.sipush 9178, 3) := by decide +kernel
theorem dX12_hold_17 : decode cX12_hold 17 = .ok (.if_icmp .ge 27, 3) := by decide +kernel
theorem dX12_hold_20 : decode cX12_hold 20 = .ok (.aload_n 0, 1) := by decide +kernel
theorem dX12_hold_21 : decode cX12_hold 21 = .ok (.getfield 65, 3) := by decide +kernel
theorem dX12_hold_24 : decode cX12_hold 24 = .ok (.sipush 9178, 3) := by decide +kernel
theorem dX12_hold_27 : decode cX12_hold 27 = .ok (.iload_n 1, 1) := by decide +kernel
theorem dX12_hold_28 : decode cX12_hold 28 = .ok (.imul, 1) := by decide +kernel
theorem dX12_hold_29 : decode cX12_hold 29 = .ok (.iload_n 2, 1) := by decide +kernel
theorem dX12_hold_30 : decode cX12_hold 30 = .ok (.iadd, 1) := by decide +kernel
theorem dX12_hold_31 : decode cX12_hold 31 = .ok (.aload_n 0, 1) := by decide +kernel
theorem dX12_hold_32 : decode cX12_hold 32 = .ok (.getfield 40, 3) := by decide +kernel
theorem dX12_hold_35 : decode cX12_hold 35 = .ok (.iload_n 2, 1) := by decide +kernel
theorem dX12_hold_36 : decode cX12_hold 36 = .ok (.iaload, 1) := by decide +kernel
theorem dX12_hold_37 : decode cX12_hold 37 = .ok (.iastore, 1) := by decide +kernel
theorem dX12_hold_38 : decode cX12_hold 38 = .ok (.iinc 2 1, 3) := by decide +kernel
theorem dX12_hold_41 : decode cX12_hold 41 = .ok (.goto (-28), 3) := by decide +kernel
theorem dX12_hold_44 : decode cX12_hold 44 = .ok (.iconst 0, 1) := by decide +kernel
theorem dX12_hold_45 : decode cX12_hold 45 = .ok (.istore_n 2, 1) := by decide +kernel
theorem dX12_hold_46 : decode cX12_hold 46 = .ok (.iload_n 2, 1) := by decide +kernel
theorem dX12_hold_47 : decode cX12_hold 47 = .ok (.bipush 24, 2) := by decide +kernel
theorem dX12_hold_49 : decode cX12_hold 49 = .ok (.if_icmp .ge 26, 3) := by decide +kernel
theorem dX12_hold_52 : decode cX12_hold 52 = .ok (.aload_n 0, 1) := by decide +kernel
theorem dX12_hold_53 : decode cX12_hold 53 = .ok (.getfield 68, 3) := by decide +kernel
theorem dX12_hold_56 : decode cX12_hold 56 = .ok (.bipush 24, 2) := by decide +kernel
theorem dX12_hold_58 : decode cX12_hold 58 = .ok (.iload_n 1, 1) := by decide +kernel
theorem dX12_hold_59 : decode cX12_hold 59 = .ok (.imul, 1) := by decide +kernel
theorem dX12_hold_60 : decode cX12_hold 60 = .ok (.iload_n 2, 1) := by decide +kernel
theorem dX12_hold_61 : decode cX12_hold 61 = .ok (.iadd, 1) := by decide +kernel
theorem dX12_hold_62 : decode cX12_hold 62 = .ok (.aload_n 0, 1) := by decide +kernel
theorem dX12_hold_63 : decode cX12_hold 63 = .ok (.getfield 46, 3) := by decide +kernel
theorem dX12_hold_66 : decode cX12_hold 66 = .ok (.iload_n 2, 1) := by decide +kernel
theorem dX12_hold_67 : decode cX12_hold 67 = .ok (.faload, 1) := by decide +kernel
theorem dX12_hold_68 : decode cX12_hold 68 = .ok (.fastore, 1) := by decide +kernel
theorem dX12_hold_69 : decode cX12_hold 69 = .ok (.iinc 2 1, 3) := by decide +kernel
theorem dX12_hold_72 : decode cX12_hold 72 = .ok (.goto (-26), 3) := by decide +kernel
theorem dX12_hold_75 : decode cX12_hold 75 = .ok (.aload_n 0, 1) := by decide +kernel
theorem dX12_hold_76 : decode cX12_hold 76 = .ok (.getfield 71, 3) := by decide +kernel
theorem dX12_hold_79 : decode cX12_hold 79 = .ok (.iload_n 1, 1) := by decide +kernel
theorem dX12_hold_80 : decode cX12_hold 80 = .ok (.iconst 1, 1) := by decide +kernel
theorem dX12_hold_81 : decode cX12_hold 81 = .ok (.bastore, 1) := by decide +kernel
theorem dX12_hold_82 : decode cX12_hold 82 = .ok (.iconst 1, 1) := by decide +kernel
theorem dX12_hold_83 : decode cX12_hold 83 = .ok (.ireturn, 1) := by decide +kernel
def rmX12_hold : Room := { frames := 1, cells := 0, slots := 0, locals := 22 }
set_option maxRecDepth 100000 in
def fX12_hold_B46 (N : Nat) (g : Gs) (x0 : Nat) (x1 : Int32) (K46 : Int32 × Ds → Option (Int32 × Ds)) (y2 : Int32) (d : Ds) : Option (Int32 × Ds) := if (24 : Int32) ≤ y2 then (gd (chk g x0 11) <| ob (gR g x0 32) fun r8 => (gd (chk g r8 104) <| gd (¬ (x1 < 0 ∨ gL g r8 ≤ x1.toNatClampNeg)) <| bd (sI d r8 x1.toNatClampNeg (vp_nar .boolean 1)) fun d11 => (some (1, d11)))) else (gd (chk g x0 11) <| ob (gR g x0 31) fun r13 => (ob (gR g x0 19) fun r14 => (gd (chk g r14 101) <| gd (¬ (y2 < 0 ∨ gL g r14 ≤ y2.toNatClampNeg)) <| gd (chk g r13 101) <| gd (¬ ((((24 : Int32) * x1) + y2) < 0 ∨ gL g r13 ≤ (((24 : Int32) * x1) + y2).toNatClampNeg)) <| bd (sF d r13 (((24 : Int32) * x1) + y2).toNatClampNeg (dF d r14 y2.toNatClampNeg)) fun d19 => (bd (y2 + 1) fun u20 => (K46 (u20, d19))))))
set_option maxHeartbeats 4000000 in
set_option maxRecDepth 100000 in
theorem tX12_hold_46 {p : Program} {l : Launch} {e : Env} {s : State} {m : MethodId} {args : Array Value} {below : List Frame} {meth : Method} {c : Code} {D : va_G} {cy : Nat → ClassId} {B : Bs} (C : Cx p s m args c cX12_hold 3 RX12 D cy B) (hr : meth.sig.returnType = (some .boolean)) (hlocks : meth.locks = false) {N : Nat} {g : Gs} {x0 : Nat} {x1 : Int32} {vz : Int32} {dz : Ds} {K46 : Int32 × Ds → Option (Int32 × Ds)} (hK46 : ∀ a, K46 a = some (vz, dz) → WB p l e rmX12_hold s m args below meth c 3 D cy B 0 0 (MQ below (QI D cy B vz g dz) args s 0 0 (wA B)) g a.2 [(0, .ref (ad B x0)), (1, .int x1), (2, .int a.1)] 46 []) {y2 : Int32} {d : Ds} (hf : fX12_hold_B46 N g x0 x1 K46 y2 d = some (vz, dz)) : WB p l e rmX12_hold s m args below meth c 3 D cy B 0 0 (MQ below (QI D cy B vz g dz) args s 0 0 (wA B)) g d [(0, .ref (ad B x0)), (1, .int x1), (2, .int y2)] 46 [] := by
  unfold fX12_hold_B46 at hf
  refine b_iload_n C dX12_hold_46 2 rfl rfl ?_
  refine b_bipush C (v := 24) dX12_hold_47 (by decide) ?_
  refine b_icmp_ge C (tgt := 75) dX12_hold_49 (by decide) (fun c6 => ?_) (fun c6 => ?_)
  · have hf := it_s c6 hf
    refine b_aload_n C dX12_hold_75 0 rfl rfl ?_
    obtain ⟨h7, hf⟩ := gd_s hf
    obtain ⟨r8, er8, hf⟩ := ob_s hf
    refine b_gR C dX12_hold_76 fl_X12_71 h7 er8 ?_
    refine b_iload_n C dX12_hold_79 1 rfl rfl ?_
    refine b_iconst C (v := 1) dX12_hold_80 (by decide) ?_
    obtain ⟨h9, hf⟩ := gd_s hf
    obtain ⟨h10, hf⟩ := gd_s hf
    obtain ⟨d11, ed11, hf⟩ := bd_s hf
    refine b_zast C h9 h10 ed11 dX12_hold_81 ?_
    refine b_iconst C (v := 1) dX12_hold_82 (by decide) ?_
    exact b_zret C hr hlocks (by decide) hf dX12_hold_83
  · have hf := if_s c6 hf
    refine b_aload_n C dX12_hold_52 0 rfl rfl ?_
    obtain ⟨h12, hf⟩ := gd_s hf
    obtain ⟨r13, er13, hf⟩ := ob_s hf
    refine b_gR C dX12_hold_53 fl_X12_68 h12 er13 ?_
    refine b_bipush C (v := 24) dX12_hold_56 (by decide) ?_
    refine b_iload_n C dX12_hold_58 1 rfl rfl ?_
    refine b_imul C dX12_hold_59 ?_
    refine b_iload_n C dX12_hold_60 2 rfl rfl ?_
    refine b_iadd C dX12_hold_61 ?_
    refine b_aload_n C dX12_hold_62 0 rfl rfl ?_
    obtain ⟨r14, er14, hf⟩ := ob_s hf
    refine b_gR C dX12_hold_63 fl_X12_46 h12 er14 ?_
    refine b_iload_n C dX12_hold_66 2 rfl rfl ?_
    obtain ⟨h15, hf⟩ := gd_s hf
    obtain ⟨h16, hf⟩ := gd_s hf
    refine b_fald C h15 h16 dX12_hold_67 ?_
    obtain ⟨h17, hf⟩ := gd_s hf
    obtain ⟨h18, hf⟩ := gd_s hf
    obtain ⟨d19, ed19, hf⟩ := bd_s hf
    refine b_fast C h17 h18 ed19 dX12_hold_68 ?_
    obtain ⟨u20, eu20, hf⟩ := bd_s hf
    refine b_iinc C dX12_hold_69 2 rfl (by rw [eu20]; rfl) [(2, .int u20), (0, .ref (ad B x0)), (1, .int x1)] (by decide) rfl ?_
    refine b_goto C (tgt := 46) dX12_hold_72 (by decide) ?_
    refine b_sub [(0, .ref (ad B x0)), (1, .int x1), (2, .int u20)] [1, 2, 0] rfl ?_
    exact hK46 (u20, d19) hf
def fX12_hold_L46 (N : Nat) (g : Gs) (x0 : Nat) (x1 : Int32) : Int32 × Ds → Option (Int32 × Ds) := lp (fun K46 a => fX12_hold_B46 N g x0 x1 K46 a.1 a.2) N
theorem tX12_hold_L46 {p : Program} {l : Launch} {e : Env} {s : State} {m : MethodId} {args : Array Value} {below : List Frame} {meth : Method} {c : Code} {D : va_G} {cy : Nat → ClassId} {B : Bs} (C : Cx p s m args c cX12_hold 3 RX12 D cy B) (hr : meth.sig.returnType = (some .boolean)) (hlocks : meth.locks = false) {N : Nat} {g : Gs} {x0 : Nat} {x1 : Int32} {vz : Int32} {dz : Ds} (a : Int32 × Ds) (hf : fX12_hold_L46 N g x0 x1 a = some (vz, dz)) : WB p l e rmX12_hold s m args below meth c 3 D cy B 0 0 (MQ below (QI D cy B vz g dz) args s 0 0 (wA B)) g a.2 [(0, .ref (ad B x0)), (1, .int x1), (2, .int a.1)] 46 [] :=
  lp_w (fun K46 hK46 a ha => tX12_hold_46 C hr hlocks hK46 ha) N a hf
set_option maxRecDepth 100000 in
def fX12_hold_B13 (N : Nat) (g : Gs) (x0 : Nat) (x1 : Int32) (K13 : Int32 × Ds → Option (Int32 × Ds)) (y2 : Int32) (d : Ds) : Option (Int32 × Ds) := if (9178 : Int32) ≤ y2 then (fX12_hold_L46 N g x0 x1 (0, d)) else (gd (chk g x0 11) <| ob (gR g x0 30) fun r22 => (ob (gR g x0 17) fun r23 => (gd (chk g r23 102) <| gd (¬ (y2 < 0 ∨ gL g r23 ≤ y2.toNatClampNeg)) <| gd (chk g r22 102) <| gd (¬ ((((9178 : Int32) * x1) + y2) < 0 ∨ gL g r22 ≤ (((9178 : Int32) * x1) + y2).toNatClampNeg)) <| bd (sI d r22 (((9178 : Int32) * x1) + y2).toNatClampNeg (dI d r23 y2.toNatClampNeg)) fun d28 => (bd (y2 + 1) fun u29 => (K13 (u29, d28))))))
set_option maxHeartbeats 4000000 in
set_option maxRecDepth 100000 in
theorem tX12_hold_13 {p : Program} {l : Launch} {e : Env} {s : State} {m : MethodId} {args : Array Value} {below : List Frame} {meth : Method} {c : Code} {D : va_G} {cy : Nat → ClassId} {B : Bs} (C : Cx p s m args c cX12_hold 3 RX12 D cy B) (hr : meth.sig.returnType = (some .boolean)) (hlocks : meth.locks = false) {N : Nat} {g : Gs} {x0 : Nat} {x1 : Int32} {vz : Int32} {dz : Ds} {K13 : Int32 × Ds → Option (Int32 × Ds)} (hK13 : ∀ a, K13 a = some (vz, dz) → WB p l e rmX12_hold s m args below meth c 3 D cy B 0 0 (MQ below (QI D cy B vz g dz) args s 0 0 (wA B)) g a.2 [(0, .ref (ad B x0)), (1, .int x1), (2, .int a.1)] 13 []) {y2 : Int32} {d : Ds} (hf : fX12_hold_B13 N g x0 x1 K13 y2 d = some (vz, dz)) : WB p l e rmX12_hold s m args below meth c 3 D cy B 0 0 (MQ below (QI D cy B vz g dz) args s 0 0 (wA B)) g d [(0, .ref (ad B x0)), (1, .int x1), (2, .int y2)] 13 [] := by
  unfold fX12_hold_B13 at hf
  refine b_iload_n C dX12_hold_13 2 rfl rfl ?_
  refine b_sipush C (v := 9178) dX12_hold_14 (by decide) ?_
  refine b_icmp_ge C (tgt := 44) dX12_hold_17 (by decide) (fun c5 => ?_) (fun c5 => ?_)
  · have hf := it_s c5 hf
    refine b_iconst C (v := 0) dX12_hold_44 (by decide) ?_
    refine b_istore_n C dX12_hold_45 rfl [(2, .int 0), (0, .ref (ad B x0)), (1, .int x1)] (by decide) rfl ?_
    refine b_sub [(0, .ref (ad B x0)), (1, .int x1), (2, .int 0)] [1, 2, 0] rfl ?_
    exact tX12_hold_L46 C hr hlocks (0, d) hf
  · have hf := if_s c5 hf
    refine b_aload_n C dX12_hold_20 0 rfl rfl ?_
    obtain ⟨h21, hf⟩ := gd_s hf
    obtain ⟨r22, er22, hf⟩ := ob_s hf
    refine b_gR C dX12_hold_21 fl_X12_65 h21 er22 ?_
    refine b_sipush C (v := 9178) dX12_hold_24 (by decide) ?_
    refine b_iload_n C dX12_hold_27 1 rfl rfl ?_
    refine b_imul C dX12_hold_28 ?_
    refine b_iload_n C dX12_hold_29 2 rfl rfl ?_
    refine b_iadd C dX12_hold_30 ?_
    refine b_aload_n C dX12_hold_31 0 rfl rfl ?_
    obtain ⟨r23, er23, hf⟩ := ob_s hf
    refine b_gR C dX12_hold_32 fl_X12_40 h21 er23 ?_
    refine b_iload_n C dX12_hold_35 2 rfl rfl ?_
    obtain ⟨h24, hf⟩ := gd_s hf
    obtain ⟨h25, hf⟩ := gd_s hf
    refine b_iald C h24 h25 dX12_hold_36 ?_
    obtain ⟨h26, hf⟩ := gd_s hf
    obtain ⟨h27, hf⟩ := gd_s hf
    obtain ⟨d28, ed28, hf⟩ := bd_s hf
    refine b_iast C h26 h27 ed28 dX12_hold_37 ?_
    obtain ⟨u29, eu29, hf⟩ := bd_s hf
    refine b_iinc C dX12_hold_38 2 rfl (by rw [eu29]; rfl) [(2, .int u29), (0, .ref (ad B x0)), (1, .int x1)] (by decide) rfl ?_
    refine b_goto C (tgt := 13) dX12_hold_41 (by decide) ?_
    refine b_sub [(0, .ref (ad B x0)), (1, .int x1), (2, .int u29)] [1, 2, 0] rfl ?_
    exact hK13 (u29, d28) hf
def fX12_hold_L13 (N : Nat) (g : Gs) (x0 : Nat) (x1 : Int32) : Int32 × Ds → Option (Int32 × Ds) := lp (fun K13 a => fX12_hold_B13 N g x0 x1 K13 a.1 a.2) N
theorem tX12_hold_L13 {p : Program} {l : Launch} {e : Env} {s : State} {m : MethodId} {args : Array Value} {below : List Frame} {meth : Method} {c : Code} {D : va_G} {cy : Nat → ClassId} {B : Bs} (C : Cx p s m args c cX12_hold 3 RX12 D cy B) (hr : meth.sig.returnType = (some .boolean)) (hlocks : meth.locks = false) {N : Nat} {g : Gs} {x0 : Nat} {x1 : Int32} {vz : Int32} {dz : Ds} (a : Int32 × Ds) (hf : fX12_hold_L13 N g x0 x1 a = some (vz, dz)) : WB p l e rmX12_hold s m args below meth c 3 D cy B 0 0 (MQ below (QI D cy B vz g dz) args s 0 0 (wA B)) g a.2 [(0, .ref (ad B x0)), (1, .int x1), (2, .int a.1)] 13 [] :=
  lp_w (fun K13 hK13 a ha => tX12_hold_13 C hr hlocks hK13 ha) N a hf
set_option maxRecDepth 100000 in
def fX12_hold (N : Nat) (g : Gs) (x0 : Nat) (x1 : Int32) (d : Ds) : Option (Int32 × Ds) := cb (fX12_in N g x1 0 2 d) fun u3 d1 => (if u3 = 0 then (some (0, d1)) else (fX12_hold_L13 N g x0 x1 (0, d1)))
set_option maxHeartbeats 4000000 in
set_option maxRecDepth 100000 in
theorem tX12_hold_E {p : Program} {l : Launch} {e : Env} {s : State} {m : MethodId} {args : Array Value} {below : List Frame} {meth : Method} {c : Code} {D : va_G} {cy : Nat → ClassId} {B : Bs} (C : Cx p s m args c cX12_hold 3 RX12 D cy B) (hr : meth.sig.returnType = (some .boolean)) (hlocks : meth.locks = false) {N : Nat} {g : Gs} {x0 : Nat} {x1 : Int32} {vz : Int32} {dz : Ds} {d : Ds} (hf : fX12_hold N g x0 x1 d = some (vz, dz)) : WB p l e rmX12_hold s m args below meth c 3 D cy B 0 0 (MQ below (QI D cy B vz g dz) args s 0 0 (wA B)) g d [(0, .ref (ad B x0)), (1, .int x1)] 0 [] := by
  unfold fX12_hold at hf
  refine b_iload_n C dX12_hold_0 1 rfl rfl ?_
  refine b_iconst C (v := 0) dX12_hold_1 (by decide) ?_
  refine b_iconst C (v := 2) dX12_hold_2 (by decide) ?_
  obtain ⟨u3, d1, k2, hf⟩ := cb_s hf
  refine b_cSI C [] dX12_hold_3 (kX12_in l D cy B k2) lv_X12_169 ⟨rfl, rfl, Nat.le_of_ble_eq_true rfl, Nat.le_of_ble_eq_true rfl⟩ rfl (Nat.le_of_ble_eq_true rfl) ⟨Nat.zero_le _, Nat.zero_le _⟩ rfl ?_
  refine b_if_ne C (tgt := 11) dX12_hold_6 (by decide) (fun c4 => ?_) (fun c4 => ?_)
  · have hf := if_s c4 hf
    refine b_iconst C (v := 0) dX12_hold_11 (by decide) ?_
    refine b_istore_n C dX12_hold_12 rfl [(2, .int 0), (0, .ref (ad B x0)), (1, .int x1)] (by decide) rfl ?_
    refine b_sub [(0, .ref (ad B x0)), (1, .int x1), (2, .int 0)] [1, 2, 0] rfl ?_
    exact tX12_hold_L13 C hr hlocks (0, d1) hf
  · have hf := it_s c4 hf
    refine b_iconst C (v := 0) dX12_hold_9 (by decide) ?_
    exact b_zret C hr hlocks (by decide) hf dX12_hold_10
theorem kX12_hold (l : Launch) (D : va_G) (cy : Nat → ClassId) (B : Bs) {N : Nat} {g : Gs} {x0 : Nat} {x1 : Int32} {vz : Int32} {dz : Ds} {d : Ds} (hf : fX12_hold N g x0 x1 d = some (vz, dz)) : Met l yX12_hold (.code yX12_hold cX12_hold 3 (some .boolean) :: wl) rmX12_hold (PC D cy B [.ref (ad B x0), .int x1] g d) (QI D cy B vz g dz) 0 0 (wA B) :=
  met_of (by decide +kernel) (Nat.le_of_ble_eq_true rfl) (fun p e s m args below meth c C hr hlocks _ => b_sub [(0, .ref (ad B x0)), (1, .int x1)] [0, 1] rfl (tX12_hold_E C hr hlocks hf))
/-! KeyMatrixModel.restore(I)Z -/
theorem dX12_restore_0 : decode cX12_restore 0 = .ok (.iload_n 1, 1) := by decide +kernel
theorem dX12_restore_1 : decode cX12_restore 1 = .ok (.iconst 0, 1) := by decide +kernel
theorem dX12_restore_2 : decode cX12_restore 2 = .ok (.iconst 2, 1) := by decide +kernel
theorem dX12_restore_3 : decode cX12_restore 3 = .ok (.invokestatic 169, 3) := by decide +kernel
theorem dX12_restore_6 : decode cX12_restore 6 = .ok (.ifCond .eq 12, 3) := by decide +kernel
theorem dX12_restore_9 : decode cX12_restore 9 = .ok (.aload_n 0, 1) := by decide +kernel
theorem dX12_restore_10 : decode cX12_restore 10 = .ok (.getfield 71, 3) := by decide +kernel
theorem dX12_restore_13 : decode cX12_restore 13 = .ok (.iload_n 1, 1) := by decide +kernel
theorem dX12_restore_14 : decode cX12_restore 14 = .ok (.baload, 1) := by decide +kernel
theorem dX12_restore_15 : decode cX12_restore 15 = .ok (.ifCond .ne 5, 3) := by decide +kernel
theorem dX12_restore_18 : decode cX12_restore 18 = .ok (.iconst 0, 1) := by decide +kernel
theorem dX12_restore_19 : decode cX12_restore 19 = .ok (.ireturn, 1) := by decide +kernel
theorem dX12_restore_20 : decode cX12_restore 20 = .ok (.iconst 0, 1) := by decide +kernel
theorem dX12_restore_21 : decode cX12_restore 21 = .ok (.istore_n 2, 1) := by decide +kernel
theorem dX12_restore_22 : decode cX12_restore 22 = .ok (.iload_n 2, 1) := by decide +kernel
theorem dX12_restore_23 : decode cX12_restore 23 = .ok (.sipush 9178, 3) := by decide +kernel
theorem dX12_restore_26 : decode cX12_restore 26 = .ok (.if_icmp .ge 27, 3) := by decide +kernel
theorem dX12_restore_29 : decode cX12_restore 29 = .ok (.aload_n 0, 1) := by decide +kernel
theorem dX12_restore_30 : decode cX12_restore 30 = .ok (.getfield 40, 3) := by decide +kernel
theorem dX12_restore_33 : decode cX12_restore 33 = .ok (.iload_n 2, 1) := by decide +kernel
theorem dX12_restore_34 : decode cX12_restore 34 = .ok (.aload_n 0, 1) := by decide +kernel
theorem dX12_restore_35 : decode cX12_restore 35 = .ok (.getfield 65, 3) := by decide +kernel
theorem dX12_restore_38 : decode cX12_restore 38 = .ok (.sipush 9178, 3) := by decide +kernel
theorem dX12_restore_41 : decode cX12_restore 41 = .ok (.iload_n 1, 1) := by decide +kernel
theorem dX12_restore_42 : decode cX12_restore 42 = .ok (.imul, 1) := by decide +kernel
theorem dX12_restore_43 : decode cX12_restore 43 = .ok (.iload_n 2, 1) := by decide +kernel
theorem dX12_restore_44 : decode cX12_restore 44 = .ok (.iadd, 1) := by decide +kernel
theorem dX12_restore_45 : decode cX12_restore 45 = .ok (.iaload, 1) := by decide +kernel
theorem dX12_restore_46 : decode cX12_restore 46 = .ok (.iastore, 1) := by decide +kernel
theorem dX12_restore_47 : decode cX12_restore 47 = .ok (.iinc 2 1, 3) := by decide +kernel
theorem dX12_restore_50 : decode cX12_restore 50 = .ok (.goto (-28), 3) := by decide +kernel
theorem dX12_restore_53 : decode cX12_restore 53 = .ok (.iconst 0, 1) := by decide +kernel
theorem dX12_restore_54 : decode cX12_restore 54 = .ok (.istore_n 2, 1) := by decide +kernel
theorem dX12_restore_55 : decode cX12_restore 55 = .ok (.iload_n 2, 1) := by decide +kernel
theorem dX12_restore_56 : decode cX12_restore 56 = .ok (.bipush 24, 2) := by decide +kernel
theorem dX12_restore_58 : decode cX12_restore 58 = .ok (.if_icmp .ge 26, 3) := by decide +kernel
theorem dX12_restore_61 : decode cX12_restore 61 = .ok (.aload_n 0, 1) := by decide +kernel
theorem dX12_restore_62 : decode cX12_restore 62 = .ok (.getfield 46, 3) := by decide +kernel
theorem dX12_restore_65 : decode cX12_restore 65 = .ok (.iload_n 2, 1) := by decide +kernel
theorem dX12_restore_66 : decode cX12_restore 66 = .ok (.aload_n 0, 1) := by decide +kernel
theorem dX12_restore_67 : decode cX12_restore 67 = .ok (.getfield 68, 3) := by decide +kernel
theorem dX12_restore_70 : decode cX12_restore 70 = .ok (.bipush 24, 2) := by decide +kernel
theorem dX12_restore_72 : decode cX12_restore 72 = .ok (.iload_n 1, 1) := by decide +kernel
theorem dX12_restore_73 : decode cX12_restore 73 = .ok (.imul, 1) := by decide +kernel
theorem dX12_restore_74 : decode cX12_restore 74 = .ok (.iload_n 2, 1) := by decide +kernel
theorem dX12_restore_75 : decode cX12_restore 75 = .ok (.iadd, 1) := by decide +kernel
theorem dX12_restore_76 : decode cX12_restore 76 = .ok (.faload, 1) := by decide +kernel
theorem dX12_restore_77 : decode cX12_restore 77 = .ok (.fastore, 1) := by decide +kernel
theorem dX12_restore_78 : decode cX12_restore 78 = .ok (.iinc 2 1, 3) := by decide +kernel
theorem dX12_restore_81 : decode cX12_restore 81 = .ok (.goto (-26), 3) := by decide +kernel
theorem dX12_restore_84 : decode cX12_restore 84 = .ok (.iconst 1, 1) := by decide +kernel
theorem dX12_restore_85 : decode cX12_restore 85 = .ok (.ireturn, 1) := by decide +kernel
def rmX12_restore : Room := { frames := 1, cells := 0, slots := 0, locals := 22 }
set_option maxRecDepth 100000 in
def fX12_restore_J18 (N : Nat) (g : Gs) (x0 : Nat) (x1 : Int32) (d : Ds) : Option (Int32 × Ds) := some (0, d)
set_option maxHeartbeats 4000000 in
set_option maxRecDepth 100000 in
theorem tX12_restore_18 {p : Program} {l : Launch} {e : Env} {s : State} {m : MethodId} {args : Array Value} {below : List Frame} {meth : Method} {c : Code} {D : va_G} {cy : Nat → ClassId} {B : Bs} (C : Cx p s m args c cX12_restore 3 RX12 D cy B) (hr : meth.sig.returnType = (some .boolean)) (hlocks : meth.locks = false) {N : Nat} {g : Gs} {x0 : Nat} {x1 : Int32} {vz : Int32} {dz : Ds} {d : Ds} (hf : fX12_restore_J18 N g x0 x1 d = some (vz, dz)) : WB p l e rmX12_restore s m args below meth c 3 D cy B 0 0 (MQ below (QI D cy B vz g dz) args s 0 0 (wA B)) g d [(0, .ref (ad B x0)), (1, .int x1)] 18 [] := by
  unfold fX12_restore_J18 at hf
  refine b_iconst C (v := 0) dX12_restore_18 (by decide) ?_
  exact b_zret C hr hlocks (by decide) hf dX12_restore_19
set_option maxRecDepth 100000 in
def fX12_restore_B55 (N : Nat) (g : Gs) (x0 : Nat) (x1 : Int32) (K55 : Int32 × Ds → Option (Int32 × Ds)) (y2 : Int32) (d : Ds) : Option (Int32 × Ds) := if (24 : Int32) ≤ y2 then (some (1, d)) else (gd (chk g x0 11) <| ob (gR g x0 19) fun r13 => (ob (gR g x0 31) fun r14 => (gd (chk g r14 101) <| gd (¬ ((((24 : Int32) * x1) + y2) < 0 ∨ gL g r14 ≤ (((24 : Int32) * x1) + y2).toNatClampNeg)) <| gd (chk g r13 101) <| gd (¬ (y2 < 0 ∨ gL g r13 ≤ y2.toNatClampNeg)) <| bd (sF d r13 y2.toNatClampNeg (dF d r14 (((24 : Int32) * x1) + y2).toNatClampNeg)) fun d19 => (bd (y2 + 1) fun u20 => (K55 (u20, d19))))))
set_option maxHeartbeats 4000000 in
set_option maxRecDepth 100000 in
theorem tX12_restore_55 {p : Program} {l : Launch} {e : Env} {s : State} {m : MethodId} {args : Array Value} {below : List Frame} {meth : Method} {c : Code} {D : va_G} {cy : Nat → ClassId} {B : Bs} (C : Cx p s m args c cX12_restore 3 RX12 D cy B) (hr : meth.sig.returnType = (some .boolean)) (hlocks : meth.locks = false) {N : Nat} {g : Gs} {x0 : Nat} {x1 : Int32} {vz : Int32} {dz : Ds} {K55 : Int32 × Ds → Option (Int32 × Ds)} (hK55 : ∀ a, K55 a = some (vz, dz) → WB p l e rmX12_restore s m args below meth c 3 D cy B 0 0 (MQ below (QI D cy B vz g dz) args s 0 0 (wA B)) g a.2 [(0, .ref (ad B x0)), (1, .int x1), (2, .int a.1)] 55 []) {y2 : Int32} {d : Ds} (hf : fX12_restore_B55 N g x0 x1 K55 y2 d = some (vz, dz)) : WB p l e rmX12_restore s m args below meth c 3 D cy B 0 0 (MQ below (QI D cy B vz g dz) args s 0 0 (wA B)) g d [(0, .ref (ad B x0)), (1, .int x1), (2, .int y2)] 55 [] := by
  unfold fX12_restore_B55 at hf
  refine b_iload_n C dX12_restore_55 2 rfl rfl ?_
  refine b_bipush C (v := 24) dX12_restore_56 (by decide) ?_
  refine b_icmp_ge C (tgt := 84) dX12_restore_58 (by decide) (fun c11 => ?_) (fun c11 => ?_)
  · have hf := it_s c11 hf
    refine b_iconst C (v := 1) dX12_restore_84 (by decide) ?_
    exact b_zret C hr hlocks (by decide) hf dX12_restore_85
  · have hf := if_s c11 hf
    refine b_aload_n C dX12_restore_61 0 rfl rfl ?_
    obtain ⟨h12, hf⟩ := gd_s hf
    obtain ⟨r13, er13, hf⟩ := ob_s hf
    refine b_gR C dX12_restore_62 fl_X12_46 h12 er13 ?_
    refine b_iload_n C dX12_restore_65 2 rfl rfl ?_
    refine b_aload_n C dX12_restore_66 0 rfl rfl ?_
    obtain ⟨r14, er14, hf⟩ := ob_s hf
    refine b_gR C dX12_restore_67 fl_X12_68 h12 er14 ?_
    refine b_bipush C (v := 24) dX12_restore_70 (by decide) ?_
    refine b_iload_n C dX12_restore_72 1 rfl rfl ?_
    refine b_imul C dX12_restore_73 ?_
    refine b_iload_n C dX12_restore_74 2 rfl rfl ?_
    refine b_iadd C dX12_restore_75 ?_
    obtain ⟨h15, hf⟩ := gd_s hf
    obtain ⟨h16, hf⟩ := gd_s hf
    refine b_fald C h15 h16 dX12_restore_76 ?_
    obtain ⟨h17, hf⟩ := gd_s hf
    obtain ⟨h18, hf⟩ := gd_s hf
    obtain ⟨d19, ed19, hf⟩ := bd_s hf
    refine b_fast C h17 h18 ed19 dX12_restore_77 ?_
    obtain ⟨u20, eu20, hf⟩ := bd_s hf
    refine b_iinc C dX12_restore_78 2 rfl (by rw [eu20]; rfl) [(2, .int u20), (0, .ref (ad B x0)), (1, .int x1)] (by decide) rfl ?_
    refine b_goto C (tgt := 55) dX12_restore_81 (by decide) ?_
    refine b_sub [(0, .ref (ad B x0)), (1, .int x1), (2, .int u20)] [1, 2, 0] rfl ?_
    exact hK55 (u20, d19) hf
def fX12_restore_L55 (N : Nat) (g : Gs) (x0 : Nat) (x1 : Int32) : Int32 × Ds → Option (Int32 × Ds) := lp (fun K55 a => fX12_restore_B55 N g x0 x1 K55 a.1 a.2) N
theorem tX12_restore_L55 {p : Program} {l : Launch} {e : Env} {s : State} {m : MethodId} {args : Array Value} {below : List Frame} {meth : Method} {c : Code} {D : va_G} {cy : Nat → ClassId} {B : Bs} (C : Cx p s m args c cX12_restore 3 RX12 D cy B) (hr : meth.sig.returnType = (some .boolean)) (hlocks : meth.locks = false) {N : Nat} {g : Gs} {x0 : Nat} {x1 : Int32} {vz : Int32} {dz : Ds} (a : Int32 × Ds) (hf : fX12_restore_L55 N g x0 x1 a = some (vz, dz)) : WB p l e rmX12_restore s m args below meth c 3 D cy B 0 0 (MQ below (QI D cy B vz g dz) args s 0 0 (wA B)) g a.2 [(0, .ref (ad B x0)), (1, .int x1), (2, .int a.1)] 55 [] :=
  lp_w (fun K55 hK55 a ha => tX12_restore_55 C hr hlocks hK55 ha) N a hf
set_option maxRecDepth 100000 in
def fX12_restore_B22 (N : Nat) (g : Gs) (x0 : Nat) (x1 : Int32) (K22 : Int32 × Ds → Option (Int32 × Ds)) (y2 : Int32) (d : Ds) : Option (Int32 × Ds) := if (9178 : Int32) ≤ y2 then (fX12_restore_L55 N g x0 x1 (0, d)) else (gd (chk g x0 11) <| ob (gR g x0 17) fun r22 => (ob (gR g x0 30) fun r23 => (gd (chk g r23 102) <| gd (¬ ((((9178 : Int32) * x1) + y2) < 0 ∨ gL g r23 ≤ (((9178 : Int32) * x1) + y2).toNatClampNeg)) <| gd (chk g r22 102) <| gd (¬ (y2 < 0 ∨ gL g r22 ≤ y2.toNatClampNeg)) <| bd (sI d r22 y2.toNatClampNeg (dI d r23 (((9178 : Int32) * x1) + y2).toNatClampNeg)) fun d28 => (bd (y2 + 1) fun u29 => (K22 (u29, d28))))))
set_option maxHeartbeats 4000000 in
set_option maxRecDepth 100000 in
theorem tX12_restore_22 {p : Program} {l : Launch} {e : Env} {s : State} {m : MethodId} {args : Array Value} {below : List Frame} {meth : Method} {c : Code} {D : va_G} {cy : Nat → ClassId} {B : Bs} (C : Cx p s m args c cX12_restore 3 RX12 D cy B) (hr : meth.sig.returnType = (some .boolean)) (hlocks : meth.locks = false) {N : Nat} {g : Gs} {x0 : Nat} {x1 : Int32} {vz : Int32} {dz : Ds} {K22 : Int32 × Ds → Option (Int32 × Ds)} (hK22 : ∀ a, K22 a = some (vz, dz) → WB p l e rmX12_restore s m args below meth c 3 D cy B 0 0 (MQ below (QI D cy B vz g dz) args s 0 0 (wA B)) g a.2 [(0, .ref (ad B x0)), (1, .int x1), (2, .int a.1)] 22 []) {y2 : Int32} {d : Ds} (hf : fX12_restore_B22 N g x0 x1 K22 y2 d = some (vz, dz)) : WB p l e rmX12_restore s m args below meth c 3 D cy B 0 0 (MQ below (QI D cy B vz g dz) args s 0 0 (wA B)) g d [(0, .ref (ad B x0)), (1, .int x1), (2, .int y2)] 22 [] := by
  unfold fX12_restore_B22 at hf
  refine b_iload_n C dX12_restore_22 2 rfl rfl ?_
  refine b_sipush C (v := 9178) dX12_restore_23 (by decide) ?_
  refine b_icmp_ge C (tgt := 53) dX12_restore_26 (by decide) (fun c10 => ?_) (fun c10 => ?_)
  · have hf := it_s c10 hf
    refine b_iconst C (v := 0) dX12_restore_53 (by decide) ?_
    refine b_istore_n C dX12_restore_54 rfl [(2, .int 0), (0, .ref (ad B x0)), (1, .int x1)] (by decide) rfl ?_
    refine b_sub [(0, .ref (ad B x0)), (1, .int x1), (2, .int 0)] [1, 2, 0] rfl ?_
    exact tX12_restore_L55 C hr hlocks (0, d) hf
  · have hf := if_s c10 hf
    refine b_aload_n C dX12_restore_29 0 rfl rfl ?_
    obtain ⟨h21, hf⟩ := gd_s hf
    obtain ⟨r22, er22, hf⟩ := ob_s hf
    refine b_gR C dX12_restore_30 fl_X12_40 h21 er22 ?_
    refine b_iload_n C dX12_restore_33 2 rfl rfl ?_
    refine b_aload_n C dX12_restore_34 0 rfl rfl ?_
    obtain ⟨r23, er23, hf⟩ := ob_s hf
    refine b_gR C dX12_restore_35 fl_X12_65 h21 er23 ?_
    refine b_sipush C (v := 9178) dX12_restore_38 (by decide) ?_
    refine b_iload_n C dX12_restore_41 1 rfl rfl ?_
    refine b_imul C dX12_restore_42 ?_
    refine b_iload_n C dX12_restore_43 2 rfl rfl ?_
    refine b_iadd C dX12_restore_44 ?_
    obtain ⟨h24, hf⟩ := gd_s hf
    obtain ⟨h25, hf⟩ := gd_s hf
    refine b_iald C h24 h25 dX12_restore_45 ?_
    obtain ⟨h26, hf⟩ := gd_s hf
    obtain ⟨h27, hf⟩ := gd_s hf
    obtain ⟨d28, ed28, hf⟩ := bd_s hf
    refine b_iast C h26 h27 ed28 dX12_restore_46 ?_
    obtain ⟨u29, eu29, hf⟩ := bd_s hf
    refine b_iinc C dX12_restore_47 2 rfl (by rw [eu29]; rfl) [(2, .int u29), (0, .ref (ad B x0)), (1, .int x1)] (by decide) rfl ?_
    refine b_goto C (tgt := 22) dX12_restore_50 (by decide) ?_
    refine b_sub [(0, .ref (ad B x0)), (1, .int x1), (2, .int u29)] [1, 2, 0] rfl ?_
    exact hK22 (u29, d28) hf
def fX12_restore_L22 (N : Nat) (g : Gs) (x0 : Nat) (x1 : Int32) : Int32 × Ds → Option (Int32 × Ds) := lp (fun K22 a => fX12_restore_B22 N g x0 x1 K22 a.1 a.2) N
theorem tX12_restore_L22 {p : Program} {l : Launch} {e : Env} {s : State} {m : MethodId} {args : Array Value} {below : List Frame} {meth : Method} {c : Code} {D : va_G} {cy : Nat → ClassId} {B : Bs} (C : Cx p s m args c cX12_restore 3 RX12 D cy B) (hr : meth.sig.returnType = (some .boolean)) (hlocks : meth.locks = false) {N : Nat} {g : Gs} {x0 : Nat} {x1 : Int32} {vz : Int32} {dz : Ds} (a : Int32 × Ds) (hf : fX12_restore_L22 N g x0 x1 a = some (vz, dz)) : WB p l e rmX12_restore s m args below meth c 3 D cy B 0 0 (MQ below (QI D cy B vz g dz) args s 0 0 (wA B)) g a.2 [(0, .ref (ad B x0)), (1, .int x1), (2, .int a.1)] 22 [] :=
  lp_w (fun K22 hK22 a ha => tX12_restore_22 C hr hlocks hK22 ha) N a hf
set_option maxRecDepth 100000 in
def fX12_restore (N : Nat) (g : Gs) (x0 : Nat) (x1 : Int32) (d : Ds) : Option (Int32 × Ds) := cb (fX12_in N g x1 0 2 d) fun u3 d1 => (if u3 = 0 then (fX12_restore_J18 N g x0 x1 d1) else (gd (chk g x0 11) <| ob (gR g x0 32) fun r6 => (gd (chk g r6 104) <| gd (¬ (x1 < 0 ∨ gL g r6 ≤ x1.toNatClampNeg)) <| if (dI d1 r6 x1.toNatClampNeg) = 0 then (fX12_restore_J18 N g x0 x1 d1) else (fX12_restore_L22 N g x0 x1 (0, d1)))))
set_option maxHeartbeats 4000000 in
set_option maxRecDepth 100000 in
theorem tX12_restore_E {p : Program} {l : Launch} {e : Env} {s : State} {m : MethodId} {args : Array Value} {below : List Frame} {meth : Method} {c : Code} {D : va_G} {cy : Nat → ClassId} {B : Bs} (C : Cx p s m args c cX12_restore 3 RX12 D cy B) (hr : meth.sig.returnType = (some .boolean)) (hlocks : meth.locks = false) {N : Nat} {g : Gs} {x0 : Nat} {x1 : Int32} {vz : Int32} {dz : Ds} {d : Ds} (hf : fX12_restore N g x0 x1 d = some (vz, dz)) : WB p l e rmX12_restore s m args below meth c 3 D cy B 0 0 (MQ below (QI D cy B vz g dz) args s 0 0 (wA B)) g d [(0, .ref (ad B x0)), (1, .int x1)] 0 [] := by
  unfold fX12_restore at hf
  refine b_iload_n C dX12_restore_0 1 rfl rfl ?_
  refine b_iconst C (v := 0) dX12_restore_1 (by decide) ?_
  refine b_iconst C (v := 2) dX12_restore_2 (by decide) ?_
  obtain ⟨u3, d1, k2, hf⟩ := cb_s hf
  refine b_cSI C [] dX12_restore_3 (kX12_in l D cy B k2) lv_X12_169 ⟨rfl, rfl, Nat.le_of_ble_eq_true rfl, Nat.le_of_ble_eq_true rfl⟩ rfl (Nat.le_of_ble_eq_true rfl) ⟨Nat.zero_le _, Nat.zero_le _⟩ rfl ?_
  refine b_if_eq C (tgt := 18) dX12_restore_6 (by decide) (fun c4 => ?_) (fun c4 => ?_)
  · have hf := it_s c4 hf
    refine b_sub [(0, .ref (ad B x0)), (1, .int x1)] [0, 1] rfl ?_
    exact tX12_restore_18 C hr hlocks hf
  · have hf := if_s c4 hf
    refine b_aload_n C dX12_restore_9 0 rfl rfl ?_
    obtain ⟨h5, hf⟩ := gd_s hf
    obtain ⟨r6, er6, hf⟩ := ob_s hf
    refine b_gR C dX12_restore_10 fl_X12_71 h5 er6 ?_
    refine b_iload_n C dX12_restore_13 1 rfl rfl ?_
    obtain ⟨h7, hf⟩ := gd_s hf
    obtain ⟨h8, hf⟩ := gd_s hf
    refine b_zald C h7 h8 dX12_restore_14 ?_
    refine b_if_ne C (tgt := 20) dX12_restore_15 (by decide) (fun c9 => ?_) (fun c9 => ?_)
    · have hf := if_s c9 hf
      refine b_iconst C (v := 0) dX12_restore_20 (by decide) ?_
      refine b_istore_n C dX12_restore_21 rfl [(2, .int 0), (0, .ref (ad B x0)), (1, .int x1)] (by decide) rfl ?_
      refine b_sub [(0, .ref (ad B x0)), (1, .int x1), (2, .int 0)] [1, 2, 0] rfl ?_
      exact tX12_restore_L22 C hr hlocks (0, d1) hf
    · have hf := it_s c9 hf
      refine b_sub [(0, .ref (ad B x0)), (1, .int x1)] [0, 1] rfl ?_
      exact tX12_restore_18 C hr hlocks hf
theorem kX12_restore (l : Launch) (D : va_G) (cy : Nat → ClassId) (B : Bs) {N : Nat} {g : Gs} {x0 : Nat} {x1 : Int32} {vz : Int32} {dz : Ds} {d : Ds} (hf : fX12_restore N g x0 x1 d = some (vz, dz)) : Met l yX12_restore (.code yX12_restore cX12_restore 3 (some .boolean) :: wl) rmX12_restore (PC D cy B [.ref (ad B x0), .int x1] g d) (QI D cy B vz g dz) 0 0 (wA B) :=
  met_of (by decide +kernel) (Nat.le_of_ble_eq_true rfl) (fun p e s m args below meth c C hr hlocks _ => b_sub [(0, .ref (ad B x0)), (1, .int x1)] [0, 1] rfl (tX12_restore_E C hr hlocks hf))
/-! KeyMatrixModel.count(I)I -/
theorem dX12_count_0 : decode cX12_count 0 = .ok (.iload_n 1, 1) := by decide +kernel
theorem dX12_count_1 : decode cX12_count 1 = .ok (.tableswitch 324 0 21 #[103, 110, 117, 126, 135, 140, 149, 158, 167, 180, 197, 206, 211, 256, 263, 270, 277, 284, 292, 300, 308, 316], 103) := by decide +kernel
theorem dX12_count_104 : decode cX12_count 104 = .ok (.aload_n 0, 1) := by decide +kernel
theorem dX12_count_105 : decode cX12_count 105 = .ok (.getfield 40, 3) := by decide +kernel
theorem dX12_count_108 : decode cX12_count 108 = .ok (.iconst 0, 1) := by decide +kernel
theorem dX12_count_109 : decode cX12_count 109 = .ok (.iaload, 1) := by decide +kernel
theorem dX12_count_110 : decode cX12_count 110 = .ok (.ireturn, 1) := by decide +kernel
theorem dX12_count_111 : decode cX12_count 111 = .ok (.aload_n 0, 1) := by decide +kernel
theorem dX12_count_112 : decode cX12_count 112 = .ok (.getfield 40, 3) := by decide +kernel
theorem dX12_count_115 : decode cX12_count 115 = .ok (.iconst 1, 1) := by decide +kernel
theorem dX12_count_116 : decode cX12_count 116 = .ok (.iaload, 1) := by decide +kernel
theorem dX12_count_117 : decode cX12_count 117 = .ok (.ireturn, 1) := by decide +kernel
theorem dX12_count_118 : decode cX12_count 118 = .ok (.aload_n 0, 1) := by decide +kernel
theorem dX12_count_119 : decode cX12_count 119 = .ok (.getfield 40, 3) := by decide +kernel
theorem dX12_count_122 : decode cX12_count 122 = .ok (.sipush 354, 3) := by decide +kernel
theorem dX12_count_125 : decode cX12_count 125 = .ok (.iaload, 1) := by decide +kernel
theorem dX12_count_126 : decode cX12_count 126 = .ok (.ireturn, 1) := by decide +kernel
theorem dX12_count_127 : decode cX12_count 127 = .ok (.aload_n 0, 1) := by decide +kernel
theorem dX12_count_128 : decode cX12_count 128 = .ok (.getfield 40, 3) := by decide +kernel
theorem dX12_count_131 : decode cX12_count 131 = .ok (.sipush 555, 3) := by decide +kernel
theorem dX12_count_134 : decode cX12_count 134 = .ok (.iaload, 1) := by decide +kernel
theorem dX12_count_135 : decode cX12_count 135 = .ok (.ireturn, 1) := by decide +kernel
theorem dX12_count_136 : decode cX12_count 136 = .ok (.aload_n 0, 1) := by decide +kernel
theorem dX12_count_137 : decode cX12_count 137 = .ok (.invokevirtual 296, 3) := by decide +kernel
theorem dX12_count_140 : decode cX12_count 140 = .ok (.ireturn, 1) := by decide +kernel
theorem dX12_count_141 : decode cX12_count 141 = .ok (.aload_n 0, 1) := by decide +kernel
theorem dX12_count_142 : decode cX12_count 142 = .ok (.getfield 40, 3) := by decide +kernel
theorem dX12_count_145 : decode cX12_count 145 = .ok (.sipush 452, 3) := by decide +kernel
theorem dX12_count_148 : decode cX12_count 148 = .ok (.iaload, 1) := by decide +kernel
theorem dX12_count_149 : decode cX12_count 149 = .ok (.ireturn, 1) := by decide +kernel
theorem dX12_count_150 : decode cX12_count 150 = .ok (.aload_n 0, 1) := by decide +kernel
theorem dX12_count_151 : decode cX12_count 151 = .ok (.getfield 40, 3) := by decide +kernel
theorem dX12_count_154 : decode cX12_count 154 = .ok (.sipush 353, 3) := by decide +kernel
theorem dX12_count_157 : decode cX12_count 157 = .ok (.iaload, 1) := by decide +kernel
theorem dX12_count_158 : decode cX12_count 158 = .ok (.ireturn, 1) := by decide +kernel
theorem dX12_count_159 : decode cX12_count 159 = .ok (.aload_n 0, 1) := by decide +kernel
theorem dX12_count_160 : decode cX12_count 160 = .ok (.getfield 40, 3) := by decide +kernel
theorem dX12_count_163 : decode cX12_count 163 = .ok (.sipush 352, 3) := by decide +kernel
theorem dX12_count_166 : decode cX12_count 166 = .ok (.iaload, 1) := by decide +kernel
theorem dX12_count_167 : decode cX12_count 167 = .ok (.ireturn, 1) := by decide +kernel
theorem dX12_count_168 : decode cX12_count 168 = .ok (.aload_n 0, 1) := by decide +kernel
theorem dX12_count_169 : decode cX12_count 169 = .ok (.aload_n 0, 1) := by decide +kernel
theorem dX12_count_170 : decode cX12_count 170 = .ok (.getfield 40, 3) := by decide +kernel
theorem dX12_count_173 : decode cX12_count 173 = .ok (.sipush 352, 3) := by decide +kernel
theorem dX12_count_176 : decode cX12_count 176 = .ok (.iaload, 1) := by decide +kernel
theorem dX12_count_177 : decode cX12_count 177 = .ok (.invokevirtual 223, 3) := by decide +kernel
theorem dX12_count_180 : decode cX12_count 180 = .ok (.ireturn, 1) := by decide +kernel
theorem dX12_count_181 : decode cX12_count 181 = .ok (.aload_n 0, 1) := by decide +kernel
theorem dX12_count_182 : decode cX12_count 182 = .ok (.aload_n 0, 1) := by decide +kernel
theorem dX12_count_183 : decode cX12_count 183 = .ok (.aload_n 0, 1) := by decide +kernel
theorem dX12_count_184 : decode cX12_count 184 = .ok (.getfield 40, 3) := by decide +kernel
theorem dX12_count_187 : decode cX12_count 187 = .ok (.sipush 352, 3) := by decide +kernel
theorem dX12_count_190 : decode cX12_count 190 = .ok (.iaload, 1) := by decide +kernel
theorem dX12_count_191 : decode cX12_count 191 = .ok (.invokevirtual 223, 3) := by decide +kernel
theorem dX12_count_194 : decode cX12_count 194 = .ok (.invokevirtual 229, 3) := by decide +kernel
theorem dX12_count_197 : decode cX12_count 197 = .ok (.ireturn, 1) := by decide +kernel
theorem dX12_count_198 : decode cX12_count 198 = .ok (.aload_n 0, 1) := by decide +kernel
theorem dX12_count_199 : decode cX12_count 199 = .ok (.getfield 40, 3) := by decide +kernel
theorem dX12_count_202 : decode cX12_count 202 = .ok (.sipush 556, 3) := by decide +kernel
theorem dX12_count_205 : decode cX12_count 205 = .ok (.iaload, 1) := by decide +kernel
theorem dX12_count_206 : decode cX12_count 206 = .ok (.ireturn, 1) := by decide +kernel
theorem dX12_count_207 : decode cX12_count 207 = .ok (.aload_n 0, 1) := by decide +kernel
theorem dX12_count_208 : decode cX12_count 208 = .ok (.getfield 90, 3) := by decide +kernel
theorem dX12_count_211 : decode cX12_count 211 = .ok (.ireturn, 1) := by decide +kernel
theorem dX12_count_212 : decode cX12_count 212 = .ok (.aload_n 0, 1) := by decide +kernel
theorem dX12_count_213 : decode cX12_count 213 = .ok (.getfield 71, 3) := by decide +kernel
theorem dX12_count_216 : decode cX12_count 216 = .ok (.iconst 0, 1) := by decide +kernel
theorem dX12_count_217 : decode cX12_count 217 = .ok (.baload, 1) := by decide +kernel
theorem dX12_count_218 : decode cX12_count 218 = .ok (.ifCond .eq 7, 3) := by decide +kernel
theorem dX12_count_221 : decode cX12_count 221 = .ok (.iconst 1, 1) := by decide +kernel
theorem dX12_count_222 : decode cX12_count 222 = .ok (.goto 4, 3) := by decide +kernel
theorem dX12_count_225 : decode cX12_count 225 = .ok (.iconst 0, 1) := by decide +kernel
theorem dX12_count_226 : decode cX12_count 226 = .ok (.aload_n 0, 1) := by decide +kernel
theorem dX12_count_227 : decode cX12_count 227 = .ok (.getfield 71, 3) := by decide +kernel
theorem dX12_count_230 : decode cX12_count 230 = .ok (.iconst 1, 1) := by decide +kernel
theorem dX12_count_231 : decode cX12_count 231 = .ok (.baload, 1) := by decide +kernel
theorem dX12_count_232 : decode cX12_count 232 = .ok (.ifCond .eq 7, 3) := by decide +kernel
theorem dX12_count_235 : decode cX12_count 235 = .ok (.iconst 1, 1) := by decide +kernel
theorem dX12_count_236 : decode cX12_count 236 = .ok (.goto 4, 3) := by decide +kernel
theorem dX12_count_239 : decode cX12_count 239 = .ok (.iconst 0, 1) := by decide +kernel
theorem dX12_count_240 : decode cX12_count 240 = .ok (.iadd, 1) := by decide +kernel
theorem dX12_count_241 : decode cX12_count 241 = .ok (.aload_n 0, 1) := by decide +kernel
theorem dX12_count_242 : decode cX12_count 242 = .ok (.getfield 71, 3) := by decide +kernel
theorem dX12_count_245 : decode cX12_count 245 = .ok (.iconst 2, 1) := by decide +kernel
theorem dX12_count_246 : decode cX12_count 246 = .ok (.baload, 1) := by decide +kernel
theorem dX12_count_247 : decode cX12_count 247 = .ok (.ifCond .eq 7, 3) := by decide +kernel
theorem dX12_count_250 : decode cX12_count 250 = .ok (.iconst 1, 1) := by decide +kernel
theorem dX12_count_251 : decode cX12_count 251 = .ok (.goto 4, 3) := by decide +kernel
theorem dX12_count_254 : decode cX12_count 254 = .ok (.iconst 0, 1) := by decide +kernel
theorem dX12_count_255 : decode cX12_count 255 = .ok (.iadd, 1) := by decide +kernel
theorem dX12_count_256 : decode cX12_count 256 = .ok (.ireturn, 1) := by decide +kernel
theorem dX12_count_257 : decode cX12_count 257 = .ok (.aload_n 0, 1) := by decide +kernel
theorem dX12_count_258 : decode cX12_count 258 = .ok (.getfield 40, 3) := by decide +kernel
theorem dX12_count_261 : decode cX12_count 261 = .ok (.iconst 2, 1) := by decide +kernel
theorem dX12_count_262 : decode cX12_count 262 = .ok (.iaload, 1) := by decide +kernel
theorem dX12_count_263 : decode cX12_count 263 = .ok (.ireturn, 1) := by decide +kernel
theorem dX12_count_264 : decode cX12_count 264 = .ok (.aload_n 0, 1) := by decide +kernel
theorem dX12_count_265 : decode cX12_count 265 = .ok (.getfield 40, 3) := by decide +kernel
theorem dX12_count_268 : decode cX12_count 268 = .ok (.iconst 3, 1) := by decide +kernel
theorem dX12_count_269 : decode cX12_count 269 = .ok (.iaload, 1) := by decide +kernel
theorem dX12_count_270 : decode cX12_count 270 = .ok (.ireturn, 1) := by decide +kernel
theorem dX12_count_271 : decode cX12_count 271 = .ok (.aload_n 0, 1) := by decide +kernel
theorem dX12_count_272 : decode cX12_count 272 = .ok (.getfield 40, 3) := by decide +kernel
theorem dX12_count_275 : decode cX12_count 275 = .ok (.iconst 4, 1) := by decide +kernel
theorem dX12_count_276 : decode cX12_count 276 = .ok (.iaload, 1) := by decide +kernel
theorem dX12_count_277 : decode cX12_count 277 = .ok (.ireturn, 1) := by decide +kernel
theorem dX12_count_278 : decode cX12_count 278 = .ok (.aload_n 0, 1) := by decide +kernel
theorem dX12_count_279 : decode cX12_count 279 = .ok (.getfield 40, 3) := by decide +kernel
theorem dX12_count_282 : decode cX12_count 282 = .ok (.iconst 5, 1) := by decide +kernel
theorem dX12_count_283 : decode cX12_count 283 = .ok (.iaload, 1) := by decide +kernel
theorem dX12_count_284 : decode cX12_count 284 = .ok (.ireturn, 1) := by decide +kernel
theorem dX12_count_285 : decode cX12_count 285 = .ok (.aload_n 0, 1) := by decide +kernel
theorem dX12_count_286 : decode cX12_count 286 = .ok (.getfield 40, 3) := by decide +kernel
theorem dX12_count_289 : decode cX12_count 289 = .ok (.bipush 6, 2) := by decide +kernel
theorem dX12_count_291 : decode cX12_count 291 = .ok (.iaload, 1) := by decide +kernel
theorem dX12_count_292 : decode cX12_count 292 = .ok (.ireturn, 1) := by decide +kernel
theorem dX12_count_293 : decode cX12_count 293 = .ok (.aload_n 0, 1) := by decide +kernel
theorem dX12_count_294 : decode cX12_count 294 = .ok (.getfield 40, 3) := by decide +kernel
theorem dX12_count_297 : decode cX12_count 297 = .ok (.bipush 7, 2) := by decide +kernel
theorem dX12_count_299 : decode cX12_count 299 = .ok (.iaload, 1) := by decide +kernel
theorem dX12_count_300 : decode cX12_count 300 = .ok (.ireturn, 1) := by decide +kernel
theorem dX12_count_301 : decode cX12_count 301 = .ok (.aload_n 0, 1) := by decide +kernel
theorem dX12_count_302 : decode cX12_count 302 = .ok (.getfield 40, 3) := by decide +kernel
theorem dX12_count_305 : decode cX12_count 305 = .ok (.bipush 11, 2) := by decide +kernel
theorem dX12_count_307 : decode cX12_count 307 = .ok (.iaload, 1) := by decide +kernel
theorem dX12_count_308 : decode cX12_count 308 = .ok (.ireturn, 1) := by decide +kernel
theorem dX12_count_309 : decode cX12_count 309 = .ok (.aload_n 0, 1) := by decide +kernel
theorem dX12_count_310 : decode cX12_count 310 = .ok (.getfield 40, 3) := by decide +kernel
theorem dX12_count_313 : decode cX12_count 313 = .ok (.bipush 8, 2) := by decide +kernel
theorem dX12_count_315 : decode cX12_count 315 = .ok (.iaload, 1) := by decide +kernel
theorem dX12_count_316 : decode cX12_count 316 = .ok (.ireturn, 1) := by decide +kernel
theorem dX12_count_317 : decode cX12_count 317 = .ok (.aload_n 0, 1) := by decide +kernel
theorem dX12_count_318 : decode cX12_count 318 = .ok (.getfield 40, 3) := by decide +kernel
theorem dX12_count_321 : decode cX12_count 321 = .ok (.bipush 9, 2) := by decide +kernel
theorem dX12_count_323 : decode cX12_count 323 = .ok (.iaload, 1) := by decide +kernel
theorem dX12_count_324 : decode cX12_count 324 = .ok (.ireturn, 1) := by decide +kernel
theorem dX12_count_325 : decode cX12_count 325 = .ok (.iconst (-1), 1) := by decide +kernel
theorem dX12_count_326 : decode cX12_count 326 = .ok (.ireturn, 1) := by decide +kernel
def rmX12_count : Room := { frames := 3, cells := 0, slots := 0, locals := 72 }
set_option maxRecDepth 100000 in
def fX12_count_J255 (N : Nat) (g : Gs) (x0 : Nat) (x1 : Int32) (z0 : Int32) (z1 : Int32) (d : Ds) : Option (Int32 × Ds) := some ((z1 + z0), d)
set_option maxHeartbeats 4000000 in
set_option maxRecDepth 100000 in
theorem tX12_count_255 {p : Program} {l : Launch} {e : Env} {s : State} {m : MethodId} {args : Array Value} {below : List Frame} {meth : Method} {c : Code} {D : va_G} {cy : Nat → ClassId} {B : Bs} (C : Cx p s m args c cX12_count 2 RX12 D cy B) (hr : meth.sig.returnType = (some .int)) (hlocks : meth.locks = false) {N : Nat} {g : Gs} {x0 : Nat} {x1 : Int32} {vz : Int32} {dz : Ds} {z0 : Int32} {z1 : Int32} {d : Ds} (hf : fX12_count_J255 N g x0 x1 z0 z1 d = some (vz, dz)) : WB p l e rmX12_count s m args below meth c 2 D cy B 0 0 (MQ below (QI D cy B vz g dz) args s 0 0 (wA B)) g d [(0, .ref (ad B x0)), (1, .int x1)] 255 [.int z0, .int z1] := by
  unfold fX12_count_J255 at hf
  refine b_iadd C dX12_count_255 ?_
  exact b_iret C hr hlocks hf dX12_count_256
set_option maxRecDepth 100000 in
def fX12_count_J240 (N : Nat) (g : Gs) (x0 : Nat) (x1 : Int32) (z0 : Int32) (z1 : Int32) (d : Ds) : Option (Int32 × Ds) := gd (chk g x0 11) <| ob (gR g x0 32) fun r80 => (gd (chk g r80 104) <| gd (¬ ((2 : Int32) < 0 ∨ gL g r80 ≤ (2 : Int32).toNatClampNeg)) <| if (dI d r80 (2 : Int32).toNatClampNeg) = 0 then (fX12_count_J255 N g x0 x1 0 (z1 + z0) d) else (fX12_count_J255 N g x0 x1 1 (z1 + z0) d))
set_option maxHeartbeats 4000000 in
set_option maxRecDepth 100000 in
theorem tX12_count_240 {p : Program} {l : Launch} {e : Env} {s : State} {m : MethodId} {args : Array Value} {below : List Frame} {meth : Method} {c : Code} {D : va_G} {cy : Nat → ClassId} {B : Bs} (C : Cx p s m args c cX12_count 2 RX12 D cy B) (hr : meth.sig.returnType = (some .int)) (hlocks : meth.locks = false) {N : Nat} {g : Gs} {x0 : Nat} {x1 : Int32} {vz : Int32} {dz : Ds} {z0 : Int32} {z1 : Int32} {d : Ds} (hf : fX12_count_J240 N g x0 x1 z0 z1 d = some (vz, dz)) : WB p l e rmX12_count s m args below meth c 2 D cy B 0 0 (MQ below (QI D cy B vz g dz) args s 0 0 (wA B)) g d [(0, .ref (ad B x0)), (1, .int x1)] 240 [.int z0, .int z1] := by
  unfold fX12_count_J240 at hf
  refine b_iadd C dX12_count_240 ?_
  refine b_aload_n C dX12_count_241 0 rfl rfl ?_
  obtain ⟨h79, hf⟩ := gd_s hf
  obtain ⟨r80, er80, hf⟩ := ob_s hf
  refine b_gR C dX12_count_242 fl_X12_71 h79 er80 ?_
  refine b_iconst C (v := 2) dX12_count_245 (by decide) ?_
  obtain ⟨h81, hf⟩ := gd_s hf
  obtain ⟨h82, hf⟩ := gd_s hf
  refine b_zald C h81 h82 dX12_count_246 ?_
  refine b_if_eq C (tgt := 254) dX12_count_247 (by decide) (fun c83 => ?_) (fun c83 => ?_)
  · have hf := it_s c83 hf
    refine b_iconst C (v := 0) dX12_count_254 (by decide) ?_
    refine b_sub [(0, .ref (ad B x0)), (1, .int x1)] [0, 1] rfl ?_
    exact tX12_count_255 C hr hlocks hf
  · have hf := if_s c83 hf
    refine b_iconst C (v := 1) dX12_count_250 (by decide) ?_
    refine b_goto C (tgt := 255) dX12_count_251 (by decide) ?_
    refine b_sub [(0, .ref (ad B x0)), (1, .int x1)] [0, 1] rfl ?_
    exact tX12_count_255 C hr hlocks hf
set_option maxRecDepth 100000 in
def fX12_count_J226 (N : Nat) (g : Gs) (x0 : Nat) (x1 : Int32) (z0 : Int32) (d : Ds) : Option (Int32 × Ds) := gd (chk g x0 11) <| ob (gR g x0 32) fun r75 => (gd (chk g r75 104) <| gd (¬ ((1 : Int32) < 0 ∨ gL g r75 ≤ (1 : Int32).toNatClampNeg)) <| if (dI d r75 (1 : Int32).toNatClampNeg) = 0 then (fX12_count_J240 N g x0 x1 0 z0 d) else (fX12_count_J240 N g x0 x1 1 z0 d))
set_option maxHeartbeats 4000000 in
set_option maxRecDepth 100000 in
theorem tX12_count_226 {p : Program} {l : Launch} {e : Env} {s : State} {m : MethodId} {args : Array Value} {below : List Frame} {meth : Method} {c : Code} {D : va_G} {cy : Nat → ClassId} {B : Bs} (C : Cx p s m args c cX12_count 2 RX12 D cy B) (hr : meth.sig.returnType = (some .int)) (hlocks : meth.locks = false) {N : Nat} {g : Gs} {x0 : Nat} {x1 : Int32} {vz : Int32} {dz : Ds} {z0 : Int32} {d : Ds} (hf : fX12_count_J226 N g x0 x1 z0 d = some (vz, dz)) : WB p l e rmX12_count s m args below meth c 2 D cy B 0 0 (MQ below (QI D cy B vz g dz) args s 0 0 (wA B)) g d [(0, .ref (ad B x0)), (1, .int x1)] 226 [.int z0] := by
  unfold fX12_count_J226 at hf
  refine b_aload_n C dX12_count_226 0 rfl rfl ?_
  obtain ⟨h74, hf⟩ := gd_s hf
  obtain ⟨r75, er75, hf⟩ := ob_s hf
  refine b_gR C dX12_count_227 fl_X12_71 h74 er75 ?_
  refine b_iconst C (v := 1) dX12_count_230 (by decide) ?_
  obtain ⟨h76, hf⟩ := gd_s hf
  obtain ⟨h77, hf⟩ := gd_s hf
  refine b_zald C h76 h77 dX12_count_231 ?_
  refine b_if_eq C (tgt := 239) dX12_count_232 (by decide) (fun c78 => ?_) (fun c78 => ?_)
  · have hf := it_s c78 hf
    refine b_iconst C (v := 0) dX12_count_239 (by decide) ?_
    refine b_sub [(0, .ref (ad B x0)), (1, .int x1)] [0, 1] rfl ?_
    exact tX12_count_240 C hr hlocks hf
  · have hf := if_s c78 hf
    refine b_iconst C (v := 1) dX12_count_235 (by decide) ?_
    refine b_goto C (tgt := 240) dX12_count_236 (by decide) ?_
    refine b_sub [(0, .ref (ad B x0)), (1, .int x1)] [0, 1] rfl ?_
    exact tX12_count_240 C hr hlocks hf
set_option maxRecDepth 100000 in
def fX12_count_J225 (N : Nat) (g : Gs) (x0 : Nat) (x1 : Int32) (d : Ds) : Option (Int32 × Ds) := fX12_count_J226 N g x0 x1 0 d
set_option maxHeartbeats 4000000 in
set_option maxRecDepth 100000 in
theorem tX12_count_225 {p : Program} {l : Launch} {e : Env} {s : State} {m : MethodId} {args : Array Value} {below : List Frame} {meth : Method} {c : Code} {D : va_G} {cy : Nat → ClassId} {B : Bs} (C : Cx p s m args c cX12_count 2 RX12 D cy B) (hr : meth.sig.returnType = (some .int)) (hlocks : meth.locks = false) {N : Nat} {g : Gs} {x0 : Nat} {x1 : Int32} {vz : Int32} {dz : Ds} {d : Ds} (hf : fX12_count_J225 N g x0 x1 d = some (vz, dz)) : WB p l e rmX12_count s m args below meth c 2 D cy B 0 0 (MQ below (QI D cy B vz g dz) args s 0 0 (wA B)) g d [(0, .ref (ad B x0)), (1, .int x1)] 225 [] := by
  unfold fX12_count_J225 at hf
  refine b_iconst C (v := 0) dX12_count_225 (by decide) ?_
  refine b_sub [(0, .ref (ad B x0)), (1, .int x1)] [0, 1] rfl ?_
  exact tX12_count_226 C hr hlocks hf
set_option maxRecDepth 100000 in
def fX12_count (N : Nat) (g : Gs) (x0 : Nat) (x1 : Int32) (d : Ds) : Option (Int32 × Ds) := if x1.toInt < 0 ∨ 21 < x1.toInt then (some ((-1), d)) else if x1 = 0 then (gd (chk g x0 11) <| ob (gR g x0 17) fun r4 => (gd (chk g r4 102) <| gd (¬ ((0 : Int32) < 0 ∨ gL g r4 ≤ (0 : Int32).toNatClampNeg)) <| some ((dI d r4 (0 : Int32).toNatClampNeg), d))) else if x1 = 1 then (gd (chk g x0 11) <| ob (gR g x0 17) fun r9 => (gd (chk g r9 102) <| gd (¬ ((1 : Int32) < 0 ∨ gL g r9 ≤ (1 : Int32).toNatClampNeg)) <| some ((dI d r9 (1 : Int32).toNatClampNeg), d))) else if x1 = 2 then (gd (chk g x0 11) <| ob (gR g x0 17) fun r14 => (gd (chk g r14 102) <| gd (¬ ((354 : Int32) < 0 ∨ gL g r14 ≤ (354 : Int32).toNatClampNeg)) <| some ((dI d r14 (354 : Int32).toNatClampNeg), d))) else if x1 = 3 then (gd (chk g x0 11) <| ob (gR g x0 17) fun r19 => (gd (chk g r19 102) <| gd (¬ ((555 : Int32) < 0 ∨ gL g r19 ≤ (555 : Int32).toNatClampNeg)) <| some ((dI d r19 (555 : Int32).toNatClampNeg), d))) else if x1 = 4 then (gd (chk g x0 11) <| cb (fX12_activeLayers N g x0 d) fun u26 d24 => (some (u26, d24))) else if x1 = 5 then (gd (chk g x0 11) <| ob (gR g x0 17) fun r29 => (gd (chk g r29 102) <| gd (¬ ((452 : Int32) < 0 ∨ gL g r29 ≤ (452 : Int32).toNatClampNeg)) <| some ((dI d r29 (452 : Int32).toNatClampNeg), d))) else if x1 = 6 then (gd (chk g x0 11) <| ob (gR g x0 17) fun r34 => (gd (chk g r34 102) <| gd (¬ ((353 : Int32) < 0 ∨ gL g r34 ≤ (353 : Int32).toNatClampNeg)) <| some ((dI d r34 (353 : Int32).toNatClampNeg), d))) else if x1 = 7 then (gd (chk g x0 11) <| ob (gR g x0 17) fun r39 => (gd (chk g r39 102) <| gd (¬ ((352 : Int32) < 0 ∨ gL g r39 ≤ (352 : Int32).toNatClampNeg)) <| some ((dI d r39 (352 : Int32).toNatClampNeg), d))) else if x1 = 8 then (gd (chk g x0 11) <| ob (gR g x0 17) fun r44 => (gd (chk g r44 102) <| gd (¬ ((352 : Int32) < 0 ∨ gL g r44 ≤ (352 : Int32).toNatClampNeg)) <| cb (fX12_seenBy N g x0 (dI d r44 (352 : Int32).toNatClampNeg) d) fun u49 d47 => (some (u49, d47)))) else if x1 = 9 then (gd (chk g x0 11) <| ob (gR g x0 17) fun r52 => (gd (chk g r52 102) <| gd (¬ ((352 : Int32) < 0 ∨ gL g r52 ≤ (352 : Int32).toNatClampNeg)) <| cb (fX12_seenBy N g x0 (dI d r52 (352 : Int32).toNatClampNeg) d) fun u57 d55 => (cb (fX12_barredBy N g x0 u57 d55) fun u60 d58 => (some (u60, d58))))) else if x1 = 10 then (gd (chk g x0 11) <| ob (gR g x0 17) fun r63 => (gd (chk g r63 102) <| gd (¬ ((556 : Int32) < 0 ∨ gL g r63 ≤ (556 : Int32).toNatClampNeg)) <| some ((dI d r63 (556 : Int32).toNatClampNeg), d))) else if x1 = 11 then (gd (chk g x0 11) <| some ((dI d x0 2), d)) else if x1 = 12 then (gd (chk g x0 11) <| ob (gR g x0 32) fun r70 => (gd (chk g r70 104) <| gd (¬ ((0 : Int32) < 0 ∨ gL g r70 ≤ (0 : Int32).toNatClampNeg)) <| if (dI d r70 (0 : Int32).toNatClampNeg) = 0 then (fX12_count_J225 N g x0 x1 d) else (fX12_count_J226 N g x0 x1 1 d))) else if x1 = 13 then (gd (chk g x0 11) <| ob (gR g x0 17) fun r86 => (gd (chk g r86 102) <| gd (¬ ((2 : Int32) < 0 ∨ gL g r86 ≤ (2 : Int32).toNatClampNeg)) <| some ((dI d r86 (2 : Int32).toNatClampNeg), d))) else if x1 = 14 then (gd (chk g x0 11) <| ob (gR g x0 17) fun r91 => (gd (chk g r91 102) <| gd (¬ ((3 : Int32) < 0 ∨ gL g r91 ≤ (3 : Int32).toNatClampNeg)) <| some ((dI d r91 (3 : Int32).toNatClampNeg), d))) else if x1 = 15 then (gd (chk g x0 11) <| ob (gR g x0 17) fun r96 => (gd (chk g r96 102) <| gd (¬ ((4 : Int32) < 0 ∨ gL g r96 ≤ (4 : Int32).toNatClampNeg)) <| some ((dI d r96 (4 : Int32).toNatClampNeg), d))) else if x1 = 16 then (gd (chk g x0 11) <| ob (gR g x0 17) fun r101 => (gd (chk g r101 102) <| gd (¬ ((5 : Int32) < 0 ∨ gL g r101 ≤ (5 : Int32).toNatClampNeg)) <| some ((dI d r101 (5 : Int32).toNatClampNeg), d))) else if x1 = 17 then (gd (chk g x0 11) <| ob (gR g x0 17) fun r106 => (gd (chk g r106 102) <| gd (¬ ((6 : Int32) < 0 ∨ gL g r106 ≤ (6 : Int32).toNatClampNeg)) <| some ((dI d r106 (6 : Int32).toNatClampNeg), d))) else if x1 = 18 then (gd (chk g x0 11) <| ob (gR g x0 17) fun r111 => (gd (chk g r111 102) <| gd (¬ ((7 : Int32) < 0 ∨ gL g r111 ≤ (7 : Int32).toNatClampNeg)) <| some ((dI d r111 (7 : Int32).toNatClampNeg), d))) else if x1 = 19 then (gd (chk g x0 11) <| ob (gR g x0 17) fun r116 => (gd (chk g r116 102) <| gd (¬ ((11 : Int32) < 0 ∨ gL g r116 ≤ (11 : Int32).toNatClampNeg)) <| some ((dI d r116 (11 : Int32).toNatClampNeg), d))) else if x1 = 20 then (gd (chk g x0 11) <| ob (gR g x0 17) fun r121 => (gd (chk g r121 102) <| gd (¬ ((8 : Int32) < 0 ∨ gL g r121 ≤ (8 : Int32).toNatClampNeg)) <| some ((dI d r121 (8 : Int32).toNatClampNeg), d))) else if x1 = 21 then (gd (chk g x0 11) <| ob (gR g x0 17) fun r126 => (gd (chk g r126 102) <| gd (¬ ((9 : Int32) < 0 ∨ gL g r126 ≤ (9 : Int32).toNatClampNeg)) <| some ((dI d r126 (9 : Int32).toNatClampNeg), d))) else none
set_option maxHeartbeats 4000000 in
set_option maxRecDepth 100000 in
theorem tX12_count_E {p : Program} {l : Launch} {e : Env} {s : State} {m : MethodId} {args : Array Value} {below : List Frame} {meth : Method} {c : Code} {D : va_G} {cy : Nat → ClassId} {B : Bs} (C : Cx p s m args c cX12_count 2 RX12 D cy B) (hr : meth.sig.returnType = (some .int)) (hlocks : meth.locks = false) {N : Nat} {g : Gs} {x0 : Nat} {x1 : Int32} {vz : Int32} {dz : Ds} {d : Ds} (hf : fX12_count N g x0 x1 d = some (vz, dz)) : WB p l e rmX12_count s m args below meth c 2 D cy B 0 0 (MQ below (QI D cy B vz g dz) args s 0 0 (wA B)) g d [(0, .ref (ad B x0)), (1, .int x1)] 0 [] := by
  unfold fX12_count at hf
  refine b_iload_n C dX12_count_0 1 rfl rfl ?_
  by_cases c1 : x1.toInt < 0 ∨ 21 < x1.toInt
  · have hf := it_s c1 hf
    refine b_tabOut C (tgt := 325) dX12_count_1 c1 (by decide) ?_
    refine b_iconst C (v := (-1)) dX12_count_325 (by decide) ?_
    exact b_iret C hr hlocks hf dX12_count_326
  · have hf := if_s c1 hf
    by_cases c2 : x1 = 0
    · have hf := it_s c2 hf
      refine b_tabIn C (tgt := 104) (off := 103) dX12_count_1 c2 (by decide) (by decide) (by decide) (by decide) ?_
      refine b_aload_n C dX12_count_104 0 rfl rfl ?_
      obtain ⟨h3, hf⟩ := gd_s hf
      obtain ⟨r4, er4, hf⟩ := ob_s hf
      refine b_gR C dX12_count_105 fl_X12_40 h3 er4 ?_
      refine b_iconst C (v := 0) dX12_count_108 (by decide) ?_
      obtain ⟨h5, hf⟩ := gd_s hf
      obtain ⟨h6, hf⟩ := gd_s hf
      refine b_iald C h5 h6 dX12_count_109 ?_
      exact b_iret C hr hlocks hf dX12_count_110
    have hf := if_s c2 hf
    by_cases c7 : x1 = 1
    · have hf := it_s c7 hf
      refine b_tabIn C (tgt := 111) (off := 110) dX12_count_1 c7 (by decide) (by decide) (by decide) (by decide) ?_
      refine b_aload_n C dX12_count_111 0 rfl rfl ?_
      obtain ⟨h8, hf⟩ := gd_s hf
      obtain ⟨r9, er9, hf⟩ := ob_s hf
      refine b_gR C dX12_count_112 fl_X12_40 h8 er9 ?_
      refine b_iconst C (v := 1) dX12_count_115 (by decide) ?_
      obtain ⟨h10, hf⟩ := gd_s hf
      obtain ⟨h11, hf⟩ := gd_s hf
      refine b_iald C h10 h11 dX12_count_116 ?_
      exact b_iret C hr hlocks hf dX12_count_117
    have hf := if_s c7 hf
    by_cases c12 : x1 = 2
    · have hf := it_s c12 hf
      refine b_tabIn C (tgt := 118) (off := 117) dX12_count_1 c12 (by decide) (by decide) (by decide) (by decide) ?_
      refine b_aload_n C dX12_count_118 0 rfl rfl ?_
      obtain ⟨h13, hf⟩ := gd_s hf
      obtain ⟨r14, er14, hf⟩ := ob_s hf
      refine b_gR C dX12_count_119 fl_X12_40 h13 er14 ?_
      refine b_sipush C (v := 354) dX12_count_122 (by decide) ?_
      obtain ⟨h15, hf⟩ := gd_s hf
      obtain ⟨h16, hf⟩ := gd_s hf
      refine b_iald C h15 h16 dX12_count_125 ?_
      exact b_iret C hr hlocks hf dX12_count_126
    have hf := if_s c12 hf
    by_cases c17 : x1 = 3
    · have hf := it_s c17 hf
      refine b_tabIn C (tgt := 127) (off := 126) dX12_count_1 c17 (by decide) (by decide) (by decide) (by decide) ?_
      refine b_aload_n C dX12_count_127 0 rfl rfl ?_
      obtain ⟨h18, hf⟩ := gd_s hf
      obtain ⟨r19, er19, hf⟩ := ob_s hf
      refine b_gR C dX12_count_128 fl_X12_40 h18 er19 ?_
      refine b_sipush C (v := 555) dX12_count_131 (by decide) ?_
      obtain ⟨h20, hf⟩ := gd_s hf
      obtain ⟨h21, hf⟩ := gd_s hf
      refine b_iald C h20 h21 dX12_count_134 ?_
      exact b_iret C hr hlocks hf dX12_count_135
    have hf := if_s c17 hf
    by_cases c22 : x1 = 4
    · have hf := it_s c22 hf
      refine b_tabIn C (tgt := 136) (off := 135) dX12_count_1 c22 (by decide) (by decide) (by decide) (by decide) ?_
      refine b_aload_n C dX12_count_136 0 rfl rfl ?_
      obtain ⟨h23, hf⟩ := gd_s hf
      obtain ⟨u26, d24, k25, hf⟩ := cb_s hf
      refine b_cVI C [] dX12_count_137 (kX12_activeLayers l D cy B k25) lv_X12_296 ⟨rfl, rfl, Nat.le_of_ble_eq_true rfl, Nat.le_of_ble_eq_true rfl⟩ h23 (by decide) rfl (Nat.le_of_ble_eq_true rfl) ⟨Nat.zero_le _, Nat.zero_le _⟩ rfl ?_
      exact b_iret C hr hlocks hf dX12_count_140
    have hf := if_s c22 hf
    by_cases c27 : x1 = 5
    · have hf := it_s c27 hf
      refine b_tabIn C (tgt := 141) (off := 140) dX12_count_1 c27 (by decide) (by decide) (by decide) (by decide) ?_
      refine b_aload_n C dX12_count_141 0 rfl rfl ?_
      obtain ⟨h28, hf⟩ := gd_s hf
      obtain ⟨r29, er29, hf⟩ := ob_s hf
      refine b_gR C dX12_count_142 fl_X12_40 h28 er29 ?_
      refine b_sipush C (v := 452) dX12_count_145 (by decide) ?_
      obtain ⟨h30, hf⟩ := gd_s hf
      obtain ⟨h31, hf⟩ := gd_s hf
      refine b_iald C h30 h31 dX12_count_148 ?_
      exact b_iret C hr hlocks hf dX12_count_149
    have hf := if_s c27 hf
    by_cases c32 : x1 = 6
    · have hf := it_s c32 hf
      refine b_tabIn C (tgt := 150) (off := 149) dX12_count_1 c32 (by decide) (by decide) (by decide) (by decide) ?_
      refine b_aload_n C dX12_count_150 0 rfl rfl ?_
      obtain ⟨h33, hf⟩ := gd_s hf
      obtain ⟨r34, er34, hf⟩ := ob_s hf
      refine b_gR C dX12_count_151 fl_X12_40 h33 er34 ?_
      refine b_sipush C (v := 353) dX12_count_154 (by decide) ?_
      obtain ⟨h35, hf⟩ := gd_s hf
      obtain ⟨h36, hf⟩ := gd_s hf
      refine b_iald C h35 h36 dX12_count_157 ?_
      exact b_iret C hr hlocks hf dX12_count_158
    have hf := if_s c32 hf
    by_cases c37 : x1 = 7
    · have hf := it_s c37 hf
      refine b_tabIn C (tgt := 159) (off := 158) dX12_count_1 c37 (by decide) (by decide) (by decide) (by decide) ?_
      refine b_aload_n C dX12_count_159 0 rfl rfl ?_
      obtain ⟨h38, hf⟩ := gd_s hf
      obtain ⟨r39, er39, hf⟩ := ob_s hf
      refine b_gR C dX12_count_160 fl_X12_40 h38 er39 ?_
      refine b_sipush C (v := 352) dX12_count_163 (by decide) ?_
      obtain ⟨h40, hf⟩ := gd_s hf
      obtain ⟨h41, hf⟩ := gd_s hf
      refine b_iald C h40 h41 dX12_count_166 ?_
      exact b_iret C hr hlocks hf dX12_count_167
    have hf := if_s c37 hf
    by_cases c42 : x1 = 8
    · have hf := it_s c42 hf
      refine b_tabIn C (tgt := 168) (off := 167) dX12_count_1 c42 (by decide) (by decide) (by decide) (by decide) ?_
      refine b_aload_n C dX12_count_168 0 rfl rfl ?_
      refine b_aload_n C dX12_count_169 0 rfl rfl ?_
      obtain ⟨h43, hf⟩ := gd_s hf
      obtain ⟨r44, er44, hf⟩ := ob_s hf
      refine b_gR C dX12_count_170 fl_X12_40 h43 er44 ?_
      refine b_sipush C (v := 352) dX12_count_173 (by decide) ?_
      obtain ⟨h45, hf⟩ := gd_s hf
      obtain ⟨h46, hf⟩ := gd_s hf
      refine b_iald C h45 h46 dX12_count_176 ?_
      obtain ⟨u49, d47, k48, hf⟩ := cb_s hf
      refine b_cVI C [] dX12_count_177 (kX12_seenBy l D cy B k48) lv_X12_223 ⟨rfl, rfl, Nat.le_of_ble_eq_true rfl, Nat.le_of_ble_eq_true rfl⟩ h43 (by decide) rfl (Nat.le_of_ble_eq_true rfl) ⟨Nat.zero_le _, Nat.zero_le _⟩ rfl ?_
      exact b_iret C hr hlocks hf dX12_count_180
    have hf := if_s c42 hf
    by_cases c50 : x1 = 9
    · have hf := it_s c50 hf
      refine b_tabIn C (tgt := 181) (off := 180) dX12_count_1 c50 (by decide) (by decide) (by decide) (by decide) ?_
      refine b_aload_n C dX12_count_181 0 rfl rfl ?_
      refine b_aload_n C dX12_count_182 0 rfl rfl ?_
      refine b_aload_n C dX12_count_183 0 rfl rfl ?_
      obtain ⟨h51, hf⟩ := gd_s hf
      obtain ⟨r52, er52, hf⟩ := ob_s hf
      refine b_gR C dX12_count_184 fl_X12_40 h51 er52 ?_
      refine b_sipush C (v := 352) dX12_count_187 (by decide) ?_
      obtain ⟨h53, hf⟩ := gd_s hf
      obtain ⟨h54, hf⟩ := gd_s hf
      refine b_iald C h53 h54 dX12_count_190 ?_
      obtain ⟨u57, d55, k56, hf⟩ := cb_s hf
      refine b_cVI C [.ref (ad B x0)] dX12_count_191 (kX12_seenBy l D cy B k56) lv_X12_223 ⟨rfl, rfl, Nat.le_of_ble_eq_true rfl, Nat.le_of_ble_eq_true rfl⟩ h51 (by decide) rfl (Nat.le_of_ble_eq_true rfl) ⟨Nat.zero_le _, Nat.zero_le _⟩ rfl ?_
      obtain ⟨u60, d58, k59, hf⟩ := cb_s hf
      refine b_cVI C [] dX12_count_194 (kX12_barredBy l D cy B k59) lv_X12_229 ⟨rfl, rfl, Nat.le_of_ble_eq_true rfl, Nat.le_of_ble_eq_true rfl⟩ h51 (by decide) rfl (Nat.le_of_ble_eq_true rfl) ⟨Nat.zero_le _, Nat.zero_le _⟩ rfl ?_
      exact b_iret C hr hlocks hf dX12_count_197
    have hf := if_s c50 hf
    by_cases c61 : x1 = 10
    · have hf := it_s c61 hf
      refine b_tabIn C (tgt := 198) (off := 197) dX12_count_1 c61 (by decide) (by decide) (by decide) (by decide) ?_
      refine b_aload_n C dX12_count_198 0 rfl rfl ?_
      obtain ⟨h62, hf⟩ := gd_s hf
      obtain ⟨r63, er63, hf⟩ := ob_s hf
      refine b_gR C dX12_count_199 fl_X12_40 h62 er63 ?_
      refine b_sipush C (v := 556) dX12_count_202 (by decide) ?_
      obtain ⟨h64, hf⟩ := gd_s hf
      obtain ⟨h65, hf⟩ := gd_s hf
      refine b_iald C h64 h65 dX12_count_205 ?_
      exact b_iret C hr hlocks hf dX12_count_206
    have hf := if_s c61 hf
    by_cases c66 : x1 = 11
    · have hf := it_s c66 hf
      refine b_tabIn C (tgt := 207) (off := 206) dX12_count_1 c66 (by decide) (by decide) (by decide) (by decide) ?_
      refine b_aload_n C dX12_count_207 0 rfl rfl ?_
      obtain ⟨h67, hf⟩ := gd_s hf
      refine b_gI C dX12_count_208 fl_X12_90 h67 ?_
      exact b_iret C hr hlocks hf dX12_count_211
    have hf := if_s c66 hf
    by_cases c68 : x1 = 12
    · have hf := it_s c68 hf
      refine b_tabIn C (tgt := 212) (off := 211) dX12_count_1 c68 (by decide) (by decide) (by decide) (by decide) ?_
      refine b_aload_n C dX12_count_212 0 rfl rfl ?_
      obtain ⟨h69, hf⟩ := gd_s hf
      obtain ⟨r70, er70, hf⟩ := ob_s hf
      refine b_gR C dX12_count_213 fl_X12_71 h69 er70 ?_
      refine b_iconst C (v := 0) dX12_count_216 (by decide) ?_
      obtain ⟨h71, hf⟩ := gd_s hf
      obtain ⟨h72, hf⟩ := gd_s hf
      refine b_zald C h71 h72 dX12_count_217 ?_
      refine b_if_eq C (tgt := 225) dX12_count_218 (by decide) (fun c73 => ?_) (fun c73 => ?_)
      · have hf := it_s c73 hf
        refine b_sub [(0, .ref (ad B x0)), (1, .int x1)] [0, 1] rfl ?_
        exact tX12_count_225 C hr hlocks hf
      · have hf := if_s c73 hf
        refine b_iconst C (v := 1) dX12_count_221 (by decide) ?_
        refine b_goto C (tgt := 226) dX12_count_222 (by decide) ?_
        refine b_sub [(0, .ref (ad B x0)), (1, .int x1)] [0, 1] rfl ?_
        exact tX12_count_226 C hr hlocks hf
    have hf := if_s c68 hf
    by_cases c84 : x1 = 13
    · have hf := it_s c84 hf
      refine b_tabIn C (tgt := 257) (off := 256) dX12_count_1 c84 (by decide) (by decide) (by decide) (by decide) ?_
      refine b_aload_n C dX12_count_257 0 rfl rfl ?_
      obtain ⟨h85, hf⟩ := gd_s hf
      obtain ⟨r86, er86, hf⟩ := ob_s hf
      refine b_gR C dX12_count_258 fl_X12_40 h85 er86 ?_
      refine b_iconst C (v := 2) dX12_count_261 (by decide) ?_
      obtain ⟨h87, hf⟩ := gd_s hf
      obtain ⟨h88, hf⟩ := gd_s hf
      refine b_iald C h87 h88 dX12_count_262 ?_
      exact b_iret C hr hlocks hf dX12_count_263
    have hf := if_s c84 hf
    by_cases c89 : x1 = 14
    · have hf := it_s c89 hf
      refine b_tabIn C (tgt := 264) (off := 263) dX12_count_1 c89 (by decide) (by decide) (by decide) (by decide) ?_
      refine b_aload_n C dX12_count_264 0 rfl rfl ?_
      obtain ⟨h90, hf⟩ := gd_s hf
      obtain ⟨r91, er91, hf⟩ := ob_s hf
      refine b_gR C dX12_count_265 fl_X12_40 h90 er91 ?_
      refine b_iconst C (v := 3) dX12_count_268 (by decide) ?_
      obtain ⟨h92, hf⟩ := gd_s hf
      obtain ⟨h93, hf⟩ := gd_s hf
      refine b_iald C h92 h93 dX12_count_269 ?_
      exact b_iret C hr hlocks hf dX12_count_270
    have hf := if_s c89 hf
    by_cases c94 : x1 = 15
    · have hf := it_s c94 hf
      refine b_tabIn C (tgt := 271) (off := 270) dX12_count_1 c94 (by decide) (by decide) (by decide) (by decide) ?_
      refine b_aload_n C dX12_count_271 0 rfl rfl ?_
      obtain ⟨h95, hf⟩ := gd_s hf
      obtain ⟨r96, er96, hf⟩ := ob_s hf
      refine b_gR C dX12_count_272 fl_X12_40 h95 er96 ?_
      refine b_iconst C (v := 4) dX12_count_275 (by decide) ?_
      obtain ⟨h97, hf⟩ := gd_s hf
      obtain ⟨h98, hf⟩ := gd_s hf
      refine b_iald C h97 h98 dX12_count_276 ?_
      exact b_iret C hr hlocks hf dX12_count_277
    have hf := if_s c94 hf
    by_cases c99 : x1 = 16
    · have hf := it_s c99 hf
      refine b_tabIn C (tgt := 278) (off := 277) dX12_count_1 c99 (by decide) (by decide) (by decide) (by decide) ?_
      refine b_aload_n C dX12_count_278 0 rfl rfl ?_
      obtain ⟨h100, hf⟩ := gd_s hf
      obtain ⟨r101, er101, hf⟩ := ob_s hf
      refine b_gR C dX12_count_279 fl_X12_40 h100 er101 ?_
      refine b_iconst C (v := 5) dX12_count_282 (by decide) ?_
      obtain ⟨h102, hf⟩ := gd_s hf
      obtain ⟨h103, hf⟩ := gd_s hf
      refine b_iald C h102 h103 dX12_count_283 ?_
      exact b_iret C hr hlocks hf dX12_count_284
    have hf := if_s c99 hf
    by_cases c104 : x1 = 17
    · have hf := it_s c104 hf
      refine b_tabIn C (tgt := 285) (off := 284) dX12_count_1 c104 (by decide) (by decide) (by decide) (by decide) ?_
      refine b_aload_n C dX12_count_285 0 rfl rfl ?_
      obtain ⟨h105, hf⟩ := gd_s hf
      obtain ⟨r106, er106, hf⟩ := ob_s hf
      refine b_gR C dX12_count_286 fl_X12_40 h105 er106 ?_
      refine b_bipush C (v := 6) dX12_count_289 (by decide) ?_
      obtain ⟨h107, hf⟩ := gd_s hf
      obtain ⟨h108, hf⟩ := gd_s hf
      refine b_iald C h107 h108 dX12_count_291 ?_
      exact b_iret C hr hlocks hf dX12_count_292
    have hf := if_s c104 hf
    by_cases c109 : x1 = 18
    · have hf := it_s c109 hf
      refine b_tabIn C (tgt := 293) (off := 292) dX12_count_1 c109 (by decide) (by decide) (by decide) (by decide) ?_
      refine b_aload_n C dX12_count_293 0 rfl rfl ?_
      obtain ⟨h110, hf⟩ := gd_s hf
      obtain ⟨r111, er111, hf⟩ := ob_s hf
      refine b_gR C dX12_count_294 fl_X12_40 h110 er111 ?_
      refine b_bipush C (v := 7) dX12_count_297 (by decide) ?_
      obtain ⟨h112, hf⟩ := gd_s hf
      obtain ⟨h113, hf⟩ := gd_s hf
      refine b_iald C h112 h113 dX12_count_299 ?_
      exact b_iret C hr hlocks hf dX12_count_300
    have hf := if_s c109 hf
    by_cases c114 : x1 = 19
    · have hf := it_s c114 hf
      refine b_tabIn C (tgt := 301) (off := 300) dX12_count_1 c114 (by decide) (by decide) (by decide) (by decide) ?_
      refine b_aload_n C dX12_count_301 0 rfl rfl ?_
      obtain ⟨h115, hf⟩ := gd_s hf
      obtain ⟨r116, er116, hf⟩ := ob_s hf
      refine b_gR C dX12_count_302 fl_X12_40 h115 er116 ?_
      refine b_bipush C (v := 11) dX12_count_305 (by decide) ?_
      obtain ⟨h117, hf⟩ := gd_s hf
      obtain ⟨h118, hf⟩ := gd_s hf
      refine b_iald C h117 h118 dX12_count_307 ?_
      exact b_iret C hr hlocks hf dX12_count_308
    have hf := if_s c114 hf
    by_cases c119 : x1 = 20
    · have hf := it_s c119 hf
      refine b_tabIn C (tgt := 309) (off := 308) dX12_count_1 c119 (by decide) (by decide) (by decide) (by decide) ?_
      refine b_aload_n C dX12_count_309 0 rfl rfl ?_
      obtain ⟨h120, hf⟩ := gd_s hf
      obtain ⟨r121, er121, hf⟩ := ob_s hf
      refine b_gR C dX12_count_310 fl_X12_40 h120 er121 ?_
      refine b_bipush C (v := 8) dX12_count_313 (by decide) ?_
      obtain ⟨h122, hf⟩ := gd_s hf
      obtain ⟨h123, hf⟩ := gd_s hf
      refine b_iald C h122 h123 dX12_count_315 ?_
      exact b_iret C hr hlocks hf dX12_count_316
    have hf := if_s c119 hf
    by_cases c124 : x1 = 21
    · have hf := it_s c124 hf
      refine b_tabIn C (tgt := 317) (off := 316) dX12_count_1 c124 (by decide) (by decide) (by decide) (by decide) ?_
      refine b_aload_n C dX12_count_317 0 rfl rfl ?_
      obtain ⟨h125, hf⟩ := gd_s hf
      obtain ⟨r126, er126, hf⟩ := ob_s hf
      refine b_gR C dX12_count_318 fl_X12_40 h125 er126 ?_
      refine b_bipush C (v := 9) dX12_count_321 (by decide) ?_
      obtain ⟨h127, hf⟩ := gd_s hf
      obtain ⟨h128, hf⟩ := gd_s hf
      refine b_iald C h127 h128 dX12_count_323 ?_
      exact b_iret C hr hlocks hf dX12_count_324
    have hf := if_s c124 hf
    cases hf
theorem kX12_count (l : Launch) (D : va_G) (cy : Nat → ClassId) (B : Bs) {N : Nat} {g : Gs} {x0 : Nat} {x1 : Int32} {vz : Int32} {dz : Ds} {d : Ds} (hf : fX12_count N g x0 x1 d = some (vz, dz)) : Met l yX12_count (.code yX12_count cX12_count 2 (some .int) :: wl) rmX12_count (PC D cy B [.ref (ad B x0), .int x1] g d) (QI D cy B vz g dz) 0 0 (wA B) :=
  met_of (by decide +kernel) (Nat.le_of_ble_eq_true rfl) (fun p e s m args below meth c C hr hlocks _ => b_sub [(0, .ref (ad B x0)), (1, .int x1)] [0, 1] rfl (tX12_count_E C hr hlocks hf))
