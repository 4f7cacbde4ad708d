/-! KeyMatrixModel.ghosts(II)I -/
theorem yo_X12_seenBy : yX12_seenBy.cls ≠ "java/lang/invoke/MethodHandle" ∧ yX12_seenBy.cls ≠ "java/lang/invoke/VarHandle" ∧ (parseMethodDescriptor yX12_seenBy.desc).map (fun d => d.parameters.length) = some 1 := by decide +kernel
theorem co_X12_seenBy : Cond.code yX12_seenBy cX12_seenBy 5 (some .int) ∈ wl := mW (mT6 (List.mem_of_getElem? (i := 84) (by decide +kernel))) rfl
theorem in_X12_seenBy : Cond.initialized yX12_seenBy.cls ∈ wl := mW (mT1 (List.mem_of_getElem? (i := 12) (by decide +kernel))) rfl
theorem im_X12_seenBy : Cond.instanceMethod yX12_seenBy ∈ wl := mW (mT6 (List.mem_of_getElem? (i := 83) (by decide +kernel))) rfl
theorem se_X12_seenBy : Cond.selects yX12_seenBy.cls yX12_seenBy yX12_seenBy ∈ wl := mW (mT0 (List.mem_of_getElem? (i := 55) (by decide +kernel))) rfl
theorem lv_X12_223 : LV RX12 223 yX12_seenBy cX12_seenBy 5 (some .int) 1 11 := ⟨⟨(RX12, TX12, 33), rfl, rfl⟩, yo_X12_seenBy, mW (mT6 (List.mem_of_getElem? (i := 81) (by decide +kernel))) rfl, im_X12_seenBy, se_X12_seenBy, in_X12_seenBy, co_X12_seenBy⟩
theorem yo_X12_barredBy : yX12_barredBy.cls ≠ "java/lang/invoke/MethodHandle" ∧ yX12_barredBy.cls ≠ "java/lang/invoke/VarHandle" ∧ (parseMethodDescriptor yX12_barredBy.desc).map (fun d => d.parameters.length) = some 1 := by decide +kernel
theorem co_X12_barredBy : Cond.code yX12_barredBy cX12_barredBy 4 (some .int) ∈ wl := mW (mT6 (List.mem_of_getElem? (i := 95) (by decide +kernel))) rfl
theorem in_X12_barredBy : Cond.initialized yX12_barredBy.cls ∈ wl := mW (mT1 (List.mem_of_getElem? (i := 12) (by decide +kernel))) rfl
theorem im_X12_barredBy : Cond.instanceMethod yX12_barredBy ∈ wl := mW (mT6 (List.mem_of_getElem? (i := 94) (by decide +kernel))) rfl
theorem se_X12_barredBy : Cond.selects yX12_barredBy.cls yX12_barredBy yX12_barredBy ∈ wl := mW (mT0 (List.mem_of_getElem? (i := 57) (by decide +kernel))) rfl
theorem lv_X12_229 : LV RX12 229 yX12_barredBy cX12_barredBy 4 (some .int) 1 11 := ⟨⟨(RX12, TX12, 33), rfl, rfl⟩, yo_X12_barredBy, mW (mT6 (List.mem_of_getElem? (i := 92) (by decide +kernel))) rfl, im_X12_barredBy, se_X12_barredBy, in_X12_barredBy, co_X12_barredBy⟩
theorem yo_X12_bitsOf : yX12_bitsOf.cls ≠ "java/lang/invoke/MethodHandle" ∧ yX12_bitsOf.cls ≠ "java/lang/invoke/VarHandle" ∧ (parseMethodDescriptor yX12_bitsOf.desc).map (fun d => d.parameters.length) = some 1 := by decide +kernel
theorem co_X12_bitsOf : Cond.code yX12_bitsOf cX12_bitsOf 3 (some .int) ∈ wl := mW (mT6 (List.mem_of_getElem? (i := 91) (by decide +kernel))) rfl
theorem in_X12_bitsOf : Cond.initialized yX12_bitsOf.cls ∈ wl := mW (mT1 (List.mem_of_getElem? (i := 12) (by decide +kernel))) rfl
theorem st_X12_bitsOf : Cond.static yX12_bitsOf ∈ wl := mW (mT6 (List.mem_of_getElem? (i := 90) (by decide +kernel))) rfl
theorem lv_X12_226 : LSt RX12 226 yX12_bitsOf cX12_bitsOf 3 (some .int) 1 := ⟨yo_X12_bitsOf, Or.inl (mW (mT6 (List.mem_of_getElem? (i := 89) (by decide +kernel))) rfl), st_X12_bitsOf, in_X12_bitsOf, co_X12_bitsOf⟩
theorem dX12_ghosts_0 : decode cX12_ghosts 0 = .ok (.iload_n 1, 1) := by decide +kernel
theorem dX12_ghosts_1 : decode cX12_ghosts 1 = .ok (.iconst 0, 1) := by decide +kernel
theorem dX12_ghosts_2 : decode cX12_ghosts 2 = .ok (.iconst 1, 1) := by decide +kernel
theorem dX12_ghosts_3 : decode cX12_ghosts 3 = .ok (.aload_n 0, 1) := by decide +kernel
theorem dX12_ghosts_4 : decode cX12_ghosts 4 = .ok (.invokevirtual 206, 3) := by decide +kernel
theorem dX12_ghosts_7 : decode cX12_ghosts 7 = .ok (.ishl, 1) := by decide +kernel
theorem dX12_ghosts_8 : decode cX12_ghosts 8 = .ok (.iconst 1, 1) := by decide +kernel
theorem dX12_ghosts_9 : decode cX12_ghosts 9 = .ok (.isub, 1) := by decide +kernel
theorem dX12_ghosts_10 : decode cX12_ghosts 10 = .ok (.invokestatic 169, 3) := by decide +kernel
theorem dX12_ghosts_13 : decode cX12_ghosts 13 = .ok (.ifCond .eq 12, 3) := by decide +kernel
theorem dX12_ghosts_16 : decode cX12_ghosts 16 = .ok (.iload_n 2, 1) := by decide +kernel
theorem dX12_ghosts_17 : decode cX12_ghosts 17 = .ok (.iconst 0, 1) := by decide +kernel
theorem dX12_ghosts_18 : decode cX12_ghosts 18 = .ok (.iconst 2, 1) := by decide +kernel
theorem dX12_ghosts_19 : decode cX12_ghosts 19 = .ok (.invokestatic 169, 3) := by decide +kernel
theorem dX12_ghosts_22 : decode cX12_ghosts 22 = .ok (.ifCond .ne 5, 3) := by decide +kernel
theorem dX12_ghosts_25 : decode cX12_ghosts 25 = .ok (.iconst (-1), 1) := by decide +kernel
theorem dX12_ghosts_26 : decode cX12_ghosts 26 = .ok (.ireturn, 1) := by decide +kernel
theorem dX12_ghosts_27 : decode cX12_ghosts 27 = .ok (.aload_n 0, 1) := by decide +kernel
theorem dX12_ghosts_28 : decode cX12_ghosts 28 = .ok (.iload_n 1, 1) := by decide +kernel
theorem dX12_ghosts_29 : decode cX12_ghosts 29 = .ok (.invokevirtual 223, 3) := by decide +kernel
theorem dX12_ghosts_32 : decode cX12_ghosts 32 = .ok (.istore_n 3, 1) := by decide +kernel
theorem dX12_ghosts_33 : decode cX12_ghosts 33 = .ok (.iload_n 2, 1) := by decide +kernel
theorem dX12_ghosts_34 : decode cX12_ghosts 34 = .ok (.ifCond .ne 14, 3) := by decide +kernel
theorem dX12_ghosts_37 : decode cX12_ghosts 37 = .ok (.iload_n 3, 1) := by decide +kernel
theorem dX12_ghosts_38 : decode cX12_ghosts 38 = .ok (.iload_n 1, 1) := by decide +kernel
theorem dX12_ghosts_39 : decode cX12_ghosts 39 = .ok (.iconst (-1), 1) := by decide +kernel
theorem dX12_ghosts_40 : decode cX12_ghosts 40 = .ok (.ixor, 1) := by decide +kernel
theorem dX12_ghosts_41 : decode cX12_ghosts 41 = .ok (.iand, 1) := by decide +kernel
theorem dX12_ghosts_42 : decode cX12_ghosts 42 = .ok (.invokestatic 226, 3) := by decide +kernel
theorem dX12_ghosts_45 : decode cX12_ghosts 45 = .ok (.goto 24, 3) := by decide +kernel
theorem dX12_ghosts_48 : decode cX12_ghosts 48 = .ok (.iload_n 2, 1) := by decide +kernel
theorem dX12_ghosts_49 : decode cX12_ghosts 49 = .ok (.iconst 1, 1) := by decide +kernel
theorem dX12_ghosts_50 : decode cX12_ghosts 50 = .ok (.if_icmp .ne 14, 3) := by decide +kernel
theorem dX12_ghosts_53 : decode cX12_ghosts 53 = .ok (.aload_n 0, 1) := by decide +kernel
theorem dX12_ghosts_54 : decode cX12_ghosts 54 = .ok (.iload_n 3, 1) := by decide +kernel
theorem dX12_ghosts_55 : decode cX12_ghosts 55 = .ok (.invokevirtual 229, 3) := by decide +kernel
theorem dX12_ghosts_58 : decode cX12_ghosts 58 = .ok (.invokestatic 226, 3) := by decide +kernel
theorem dX12_ghosts_61 : decode cX12_ghosts 61 = .ok (.goto 8, 3) := by decide +kernel
theorem dX12_ghosts_64 : decode cX12_ghosts 64 = .ok (.aload_n 0, 1) := by decide +kernel
theorem dX12_ghosts_65 : decode cX12_ghosts 65 = .ok (.iload_n 1, 1) := by decide +kernel
theorem dX12_ghosts_66 : decode cX12_ghosts 66 = .ok (.invokevirtual 214, 3) := by decide +kernel
theorem dX12_ghosts_69 : decode cX12_ghosts 69 = .ok (.ireturn, 1) := by decide +kernel
def rmX12_ghosts : Room := { frames := 3, cells := 0, slots := 0, locals := 72 }
set_option maxRecDepth 100000 in
def fX12_ghosts_J25 (N : Nat) (g : Gs) (x0 : Nat) (x1 : Int32) (x2 : Int32) (d : Ds) : Option (Int32 × Ds) := some ((-1), d)
set_option maxHeartbeats 4000000 in
set_option maxRecDepth 100000 in
theorem tX12_ghosts_25 {p : Program} {l : Launch} {e : Env} {s : State} {m : MethodId} {args : Array Value} {below : List Frame} {meth : Method} {c : Code} {D : va_G} {cy : Nat → ClassId} {B : Bs} (C : Cx p s m args c cX12_ghosts 4 RX12 D cy B) (hr : meth.sig.returnType = (some .int)) (hlocks : meth.locks = false) {N : Nat} {g : Gs} {x0 : Nat} {x1 : Int32} {x2 : Int32} {vz : Int32} {dz : Ds} {d : Ds} (hf : fX12_ghosts_J25 N g x0 x1 x2 d = some (vz, dz)) : WB p l e rmX12_ghosts s m args below meth c 4 D cy B 0 0 (MQ below (QI D cy B vz g dz) args s 0 0 (wA B)) g d [(0, .ref (ad B x0)), (1, .int x1), (2, .int x2)] 25 [] := by
  unfold fX12_ghosts_J25 at hf
  refine b_iconst C (v := (-1)) dX12_ghosts_25 (by decide) ?_
  exact b_iret C hr hlocks hf dX12_ghosts_26
set_option maxRecDepth 100000 in
def fX12_ghosts_J69 (N : Nat) (g : Gs) (x0 : Nat) (x1 : Int32) (x2 : Int32) (z0 : Int32) (d : Ds) : Option (Int32 × Ds) := some (z0, d)
set_option maxHeartbeats 4000000 in
set_option maxRecDepth 100000 in
theorem tX12_ghosts_69 {p : Program} {l : Launch} {e : Env} {s : State} {m : MethodId} {args : Array Value} {below : List Frame} {meth : Method} {c : Code} {D : va_G} {cy : Nat → ClassId} {B : Bs} (C : Cx p s m args c cX12_ghosts 4 RX12 D cy B) (hr : meth.sig.returnType = (some .int)) (hlocks : meth.locks = false) {N : Nat} {g : Gs} {x0 : Nat} {x1 : Int32} {x2 : Int32} {vz : Int32} {dz : Ds} {z0 : Int32} {d : Ds} (hf : fX12_ghosts_J69 N g x0 x1 x2 z0 d = some (vz, dz)) : WB p l e rmX12_ghosts s m args below meth c 4 D cy B 0 0 (MQ below (QI D cy B vz g dz) args s 0 0 (wA B)) g d [(0, .ref (ad B x0)), (1, .int x1), (2, .int x2)] 69 [.int z0] := by
  unfold fX12_ghosts_J69 at hf
  exact b_iret C hr hlocks hf dX12_ghosts_69
set_option maxRecDepth 100000 in
def fX12_ghosts (N : Nat) (g : Gs) (x0 : Nat) (x1 : Int32) (x2 : Int32) (d : Ds) : Option (Int32 × Ds) := gd (chk g x0 11) <| cb (fX12_keysMany N g x0 d) fun u4 d2 => (cb (fX12_in N g x1 0 (((1 : Int32) <<< (u4 &&& 31)) - 1) d2) fun u7 d5 => (if u7 = 0 then (fX12_ghosts_J25 N g x0 x1 x2 d5) else (cb (fX12_in N g x2 0 2 d5) fun u11 d9 => (if u11 = 0 then (fX12_ghosts_J25 N g x0 x1 x2 d9) else (cb (fX12_seenBy N g x0 x1 d9) fun u15 d13 => (if x2 = 0 then (cb (fX12_bitsOf N g (u15 &&& (x1 ^^^ (-1))) d13) fun u29 d27 => (fX12_ghosts_J69 N g x0 x1 x2 u29 d27)) else (if x2 = (1 : Int32) then (cb (fX12_barredBy N g x0 u15 d13) fun u23 d21 => (cb (fX12_bitsOf N g u23 d21) fun u26 d24 => (fX12_ghosts_J69 N g x0 x1 x2 u26 d24))) else (cb (fX12_laysParts N g x0 x1 d13) fun u20 d18 => (fX12_ghosts_J69 N g x0 x1 x2 u20 d18)))))))))
set_option maxHeartbeats 4000000 in
set_option maxRecDepth 100000 in
theorem tX12_ghosts_E {p : Program} {l : Launch} {e : Env} {s : State} {m : MethodId} {args : Array Value} {below : List Frame} {meth : Method} {c : Code} {D : va_G} {cy : Nat → ClassId} {B : Bs} (C : Cx p s m args c cX12_ghosts 4 RX12 D cy B) (hr : meth.sig.returnType = (some .int)) (hlocks : meth.locks = false) {N : Nat} {g : Gs} {x0 : Nat} {x1 : Int32} {x2 : Int32} {vz : Int32} {dz : Ds} {d : Ds} (hf : fX12_ghosts N g x0 x1 x2 d = some (vz, dz)) : WB p l e rmX12_ghosts s m args below meth c 4 D cy B 0 0 (MQ below (QI D cy B vz g dz) args s 0 0 (wA B)) g d [(0, .ref (ad B x0)), (1, .int x1), (2, .int x2)] 0 [] := by
  unfold fX12_ghosts at hf
  refine b_iload_n C dX12_ghosts_0 1 rfl rfl ?_
  refine b_iconst C (v := 0) dX12_ghosts_1 (by decide) ?_
  refine b_iconst C (v := 1) dX12_ghosts_2 (by decide) ?_
  refine b_aload_n C dX12_ghosts_3 0 rfl rfl ?_
  obtain ⟨h1, hf⟩ := gd_s hf
  obtain ⟨u4, d2, k3, hf⟩ := cb_s hf
  refine b_cVI C [.int 1, .int 0, .int x1] dX12_ghosts_4 (kX12_keysMany l D cy B k3) lv_X12_206 ⟨rfl, rfl, Nat.le_of_ble_eq_true rfl, Nat.le_of_ble_eq_true rfl⟩ h1 (by decide) rfl (Nat.le_of_ble_eq_true rfl) ⟨Nat.zero_le _, Nat.zero_le _⟩ rfl ?_
  refine b_ishl C dX12_ghosts_7 ?_
  refine b_iconst C (v := 1) dX12_ghosts_8 (by decide) ?_
  refine b_isub C dX12_ghosts_9 ?_
  obtain ⟨u7, d5, k6, hf⟩ := cb_s hf
  refine b_cSI C [] dX12_ghosts_10 (kX12_in l D cy B k6) lv_X12_169 ⟨rfl, rfl, Nat.le_of_ble_eq_true rfl, Nat.le_of_ble_eq_true rfl⟩ rfl (Nat.le_of_ble_eq_true rfl) ⟨Nat.zero_le _, Nat.zero_le _⟩ rfl ?_
  refine b_if_eq C (tgt := 25) dX12_ghosts_13 (by decide) (fun c8 => ?_) (fun c8 => ?_)
  · have hf := it_s c8 hf
    refine b_sub [(0, .ref (ad B x0)), (1, .int x1), (2, .int x2)] [0, 1, 2] rfl ?_
    exact tX12_ghosts_25 C hr hlocks hf
  · have hf := if_s c8 hf
    refine b_iload_n C dX12_ghosts_16 2 rfl rfl ?_
    refine b_iconst C (v := 0) dX12_ghosts_17 (by decide) ?_
    refine b_iconst C (v := 2) dX12_ghosts_18 (by decide) ?_
    obtain ⟨u11, d9, k10, hf⟩ := cb_s hf
    refine b_cSI C [] dX12_ghosts_19 (kX12_in l D cy B k10) lv_X12_169 ⟨rfl, rfl, Nat.le_of_ble_eq_true rfl, Nat.le_of_ble_eq_true rfl⟩ rfl (Nat.le_of_ble_eq_true rfl) ⟨Nat.zero_le _, Nat.zero_le _⟩ rfl ?_
    refine b_if_ne C (tgt := 27) dX12_ghosts_22 (by decide) (fun c12 => ?_) (fun c12 => ?_)
    · have hf := if_s c12 hf
      refine b_aload_n C dX12_ghosts_27 0 rfl rfl ?_
      refine b_iload_n C dX12_ghosts_28 1 rfl rfl ?_
      obtain ⟨u15, d13, k14, hf⟩ := cb_s hf
      refine b_cVI C [] dX12_ghosts_29 (kX12_seenBy l D cy B k14) lv_X12_223 ⟨rfl, rfl, Nat.le_of_ble_eq_true rfl, Nat.le_of_ble_eq_true rfl⟩ h1 (by decide) rfl (Nat.le_of_ble_eq_true rfl) ⟨Nat.zero_le _, Nat.zero_le _⟩ rfl ?_
      refine b_istore_n C dX12_ghosts_32 rfl [(3, .int u15), (0, .ref (ad B x0)), (1, .int x1), (2, .int x2)] (by decide) rfl ?_
      refine b_iload_n C dX12_ghosts_33 3 rfl rfl ?_
      refine b_if_ne C (tgt := 48) dX12_ghosts_34 (by decide) (fun c16 => ?_) (fun c16 => ?_)
      · have hf := if_s c16 hf
        refine b_iload_n C dX12_ghosts_48 3 rfl rfl ?_
        refine b_iconst C (v := 1) dX12_ghosts_49 (by decide) ?_
        refine b_icmp_ne C (tgt := 64) dX12_ghosts_50 (by decide) (fun c17 => ?_) (fun c17 => ?_)
        · have hf := if_s c17 hf
          refine b_aload_n C dX12_ghosts_64 1 rfl rfl ?_
          refine b_iload_n C dX12_ghosts_65 2 rfl rfl ?_
          obtain ⟨u20, d18, k19, hf⟩ := cb_s hf
          refine b_cVI C [] dX12_ghosts_66 (kX12_laysParts l D cy B k19) lv_X12_214 ⟨rfl, rfl, Nat.le_of_ble_eq_true rfl, Nat.le_of_ble_eq_true rfl⟩ h1 (by decide) rfl (Nat.le_of_ble_eq_true rfl) ⟨Nat.zero_le _, Nat.zero_le _⟩ rfl ?_
          refine b_sub [(0, .ref (ad B x0)), (1, .int x1), (2, .int x2)] [1, 2, 3] rfl ?_
          exact tX12_ghosts_69 C hr hlocks hf
        · have hf := it_s c17 hf
          refine b_aload_n C dX12_ghosts_53 1 rfl rfl ?_
          refine b_iload_n C dX12_ghosts_54 0 rfl rfl ?_
          obtain ⟨u23, d21, k22, hf⟩ := cb_s hf
          refine b_cVI C [] dX12_ghosts_55 (kX12_barredBy l D cy B k22) lv_X12_229 ⟨rfl, rfl, Nat.le_of_ble_eq_true rfl, Nat.le_of_ble_eq_true rfl⟩ h1 (by decide) rfl (Nat.le_of_ble_eq_true rfl) ⟨Nat.zero_le _, Nat.zero_le _⟩ rfl ?_
          obtain ⟨u26, d24, k25, hf⟩ := cb_s hf
          refine b_cSI C [] dX12_ghosts_58 (kX12_bitsOf l D cy B k25) lv_X12_226 ⟨rfl, rfl, Nat.le_of_ble_eq_true rfl, Nat.le_of_ble_eq_true rfl⟩ rfl (Nat.le_of_ble_eq_true rfl) ⟨Nat.zero_le _, Nat.zero_le _⟩ rfl ?_
          refine b_goto C (tgt := 69) dX12_ghosts_61 (by decide) ?_
          refine b_sub [(0, .ref (ad B x0)), (1, .int x1), (2, .int x2)] [1, 2, 3] rfl ?_
          exact tX12_ghosts_69 C hr hlocks hf
      · have hf := it_s c16 hf
        refine b_iload_n C dX12_ghosts_37 0 rfl rfl ?_
        refine b_iload_n C dX12_ghosts_38 2 rfl rfl ?_
        refine b_iconst C (v := (-1)) dX12_ghosts_39 (by decide) ?_
        refine b_ixor C dX12_ghosts_40 ?_
        refine b_iand C dX12_ghosts_41 ?_
        obtain ⟨u29, d27, k28, hf⟩ := cb_s hf
        refine b_cSI C [] dX12_ghosts_42 (kX12_bitsOf l D cy B k28) lv_X12_226 ⟨rfl, rfl, Nat.le_of_ble_eq_true rfl, Nat.le_of_ble_eq_true rfl⟩ rfl (Nat.le_of_ble_eq_true rfl) ⟨Nat.zero_le _, Nat.zero_le _⟩ rfl ?_
        refine b_goto C (tgt := 69) dX12_ghosts_45 (by decide) ?_
        refine b_sub [(0, .ref (ad B x0)), (1, .int x1), (2, .int x2)] [1, 2, 3] rfl ?_
        exact tX12_ghosts_69 C hr hlocks hf
    · have hf := it_s c12 hf
      refine b_sub [(0, .ref (ad B x0)), (1, .int x1), (2, .int x2)] [0, 1, 2] rfl ?_
      exact tX12_ghosts_25 C hr hlocks hf
theorem kX12_ghosts (l : Launch) (D : va_G) (cy : Nat → ClassId) (B : Bs) {N : Nat} {g : Gs} {x0 : Nat} {x1 : Int32} {x2 : Int32} {vz : Int32} {dz : Ds} {d : Ds} (hf : fX12_ghosts N g x0 x1 x2 d = some (vz, dz)) : Met l yX12_ghosts (.code yX12_ghosts cX12_ghosts 4 (some .int) :: wl) rmX12_ghosts (PC D cy B [.ref (ad B x0), .int x1, .int x2] g d) (QI D cy B vz g dz) 0 0 (wA B) :=
  met_of (by decide +kernel) (Nat.le_of_ble_eq_true rfl) (fun p e s m args below meth c C hr hlocks _ => b_sub [(0, .ref (ad B x0)), (1, .int x1), (2, .int x2)] [0, 1, 2] rfl (tX12_ghosts_E C hr hlocks hf))
/-! KeyMatrixModel.changes(I)V -/
theorem dX12_changes_0 : decode cX12_changes 0 = .ok (.aload_n 0, 1) := by decide +kernel
theorem dX12_changes_1 : decode cX12_changes 1 = .ok (.getfield 40, 3) := by decide +kernel
theorem dX12_changes_4 : decode cX12_changes 4 = .ok (.sipush 355, 3) := by decide +kernel
theorem dX12_changes_7 : decode cX12_changes 7 = .ok (.iload_n 1, 1) := by decide +kernel
theorem dX12_changes_8 : decode cX12_changes 8 = .ok (.iadd, 1) := by decide +kernel
theorem dX12_changes_9 : decode cX12_changes 9 = .ok (.iconst 0, 1) := by decide +kernel
theorem dX12_changes_10 : decode cX12_changes 10 = .ok (.iastore, 1) := by decide +kernel
theorem dX12_changes_11 : decode cX12_changes 11 = .ok (.aload_n 0, 1) := by decide +kernel
theorem dX12_changes_12 : decode cX12_changes 12 = .ok (.getfield 40, 3) := by decide +kernel
theorem dX12_changes_15 : decode cX12_changes 15 = .ok (.sipush 353, 3) := by decide +kernel
theorem dX12_changes_18 : decode cX12_changes 18 = .ok (.dup2, 1) := by decide +kernel
theorem dX12_changes_19 : decode cX12_changes 19 = .ok (.iaload, 1) := by decide +kernel
theorem dX12_changes_20 : decode cX12_changes 20 = .ok (.iconst 1, 1) := by decide +kernel
theorem dX12_changes_21 : decode cX12_changes 21 = .ok (.iload_n 1, 1) := by decide +kernel
theorem dX12_changes_22 : decode cX12_changes 22 = .ok (.ishl, 1) := by decide +kernel
theorem dX12_changes_23 : decode cX12_changes 23 = .ok (.ixor, 1) := by decide +kernel
theorem dX12_changes_24 : decode cX12_changes 24 = .ok (.iastore, 1) := by decide +kernel
theorem dX12_changes_25 : decode cX12_changes 25 = .ok (.aload_n 0, 1) := by decide +kernel
theorem dX12_changes_26 : decode cX12_changes 26 = .ok (.getfield 40, 3) := by decide +kernel
theorem dX12_changes_29 : decode cX12_changes 29 = .ok (.sipush 353, 3) := by decide +kernel
theorem dX12_changes_32 : decode cX12_changes 32 = .ok (.iaload, 1) := by decide +kernel
theorem dX12_changes_33 : decode cX12_changes 33 = .ok (.iload_n 1, 1) := by decide +kernel
theorem dX12_changes_34 : decode cX12_changes 34 = .ok (.invokestatic 210, 3) := by decide +kernel
theorem dX12_changes_37 : decode cX12_changes 37 = .ok (.istore_n 2, 1) := by decide +kernel
theorem dX12_changes_38 : decode cX12_changes 38 = .ok (.sipush 1678, 3) := by decide +kernel
theorem dX12_changes_41 : decode cX12_changes 41 = .ok (.iconst 3, 1) := by decide +kernel
theorem dX12_changes_42 : decode cX12_changes 42 = .ok (.aload_n 0, 1) := by decide +kernel
theorem dX12_changes_43 : decode cX12_changes 43 = .ok (.getfield 40, 3) := by decide +kernel
theorem dX12_changes_46 : decode cX12_changes 46 = .ok (.sipush 557, 3) := by decide +kernel
theorem dX12_changes_49 : decode cX12_changes 49 = .ok (.iaload, 1) := by decide +kernel
theorem dX12_changes_50 : decode cX12_changes 50 = .ok (.imul, 1) := by decide +kernel
theorem dX12_changes_51 : decode cX12_changes 51 = .ok (.iadd, 1) := by decide +kernel
theorem dX12_changes_52 : decode cX12_changes 52 = .ok (.istore_n 3, 1) := by decide +kernel
theorem dX12_changes_53 : decode cX12_changes 53 = .ok (.aload_n 0, 1) := by decide +kernel
theorem dX12_changes_54 : decode cX12_changes 54 = .ok (.getfield 40, 3) := by decide +kernel
theorem dX12_changes_57 : decode cX12_changes 57 = .ok (.iload_n 3, 1) := by decide +kernel
theorem dX12_changes_58 : decode cX12_changes 58 = .ok (.iload_n 1, 1) := by decide +kernel
theorem dX12_changes_59 : decode cX12_changes 59 = .ok (.iastore, 1) := by decide +kernel
theorem dX12_changes_60 : decode cX12_changes 60 = .ok (.aload_n 0, 1) := by decide +kernel
theorem dX12_changes_61 : decode cX12_changes 61 = .ok (.getfield 40, 3) := by decide +kernel
theorem dX12_changes_64 : decode cX12_changes 64 = .ok (.iload_n 3, 1) := by decide +kernel
theorem dX12_changes_65 : decode cX12_changes 65 = .ok (.iconst 1, 1) := by decide +kernel
theorem dX12_changes_66 : decode cX12_changes 66 = .ok (.iadd, 1) := by decide +kernel
theorem dX12_changes_67 : decode cX12_changes 67 = .ok (.iload_n 2, 1) := by decide +kernel
theorem dX12_changes_68 : decode cX12_changes 68 = .ok (.ifCond .eq 7, 3) := by decide +kernel
theorem dX12_changes_71 : decode cX12_changes 71 = .ok (.iconst 1, 1) := by decide +kernel
theorem dX12_changes_72 : decode cX12_changes 72 = .ok (.goto 4, 3) := by decide +kernel
theorem dX12_changes_75 : decode cX12_changes 75 = .ok (.iconst 0, 1) := by decide +kernel
theorem dX12_changes_76 : decode cX12_changes 76 = .ok (.iastore, 1) := by decide +kernel
theorem dX12_changes_77 : decode cX12_changes 77 = .ok (.aload_n 0, 1) := by decide +kernel
theorem dX12_changes_78 : decode cX12_changes 78 = .ok (.getfield 40, 3) := by decide +kernel
theorem dX12_changes_81 : decode cX12_changes 81 = .ok (.iload_n 3, 1) := by decide +kernel
theorem dX12_changes_82 : decode cX12_changes 82 = .ok (.iconst 2, 1) := by decide +kernel
theorem dX12_changes_83 : decode cX12_changes 83 = .ok (.iadd, 1) := by decide +kernel
theorem dX12_changes_84 : decode cX12_changes 84 = .ok (.aload_n 0, 1) := by decide +kernel
theorem dX12_changes_85 : decode cX12_changes 85 = .ok (.getfield 40, 3) := by decide +kernel
theorem dX12_changes_88 : decode cX12_changes 88 = .ok (.sipush 354, 3) := by decide +kernel
theorem dX12_changes_91 : decode cX12_changes 91 = .ok (.iaload, 1) := by decide +kernel
theorem dX12_changes_92 : decode cX12_changes 92 = .ok (.iastore, 1) := by decide +kernel
theorem dX12_changes_93 : decode cX12_changes 93 = .ok (.aload_n 0, 1) := by decide +kernel
theorem dX12_changes_94 : decode cX12_changes 94 = .ok (.getfield 40, 3) := by decide +kernel
theorem dX12_changes_97 : decode cX12_changes 97 = .ok (.sipush 557, 3) := by decide +kernel
theorem dX12_changes_100 : decode cX12_changes 100 = .ok (.dup2, 1) := by decide +kernel
theorem dX12_changes_101 : decode cX12_changes 101 = .ok (.iaload, 1) := by decide +kernel
theorem dX12_changes_102 : decode cX12_changes 102 = .ok (.iconst 1, 1) := by decide +kernel
theorem dX12_changes_103 : decode cX12_changes 103 = .ok (.iadd, 1) := by decide +kernel
theorem dX12_changes_104 : decode cX12_changes 104 = .ok (.iastore, 1) := by decide +kernel
theorem dX12_changes_105 : decode cX12_changes 105 = .ok (.aload_n 0, 1) := by decide +kernel
theorem dX12_changes_106 : decode cX12_changes 106 = .ok (.getfield 40, 3) := by decide +kernel
theorem dX12_changes_109 : decode cX12_changes 109 = .ok (.sipush 556, 3) := by decide +kernel
theorem dX12_changes_112 : decode cX12_changes 112 = .ok (.dup2, 1) := by decide +kernel
theorem dX12_changes_113 : decode cX12_changes 113 = .ok (.iaload, 1) := by decide +kernel
theorem dX12_changes_114 : decode cX12_changes 114 = .ok (.iconst 1, 1) := by decide +kernel
theorem dX12_changes_115 : decode cX12_changes 115 = .ok (.iadd, 1) := by decide +kernel
theorem dX12_changes_116 : decode cX12_changes 116 = .ok (.iastore, 1) := by decide +kernel
theorem dX12_changes_117 : decode cX12_changes 117 = .ok (.aload_n 0, 1) := by decide +kernel
theorem dX12_changes_118 : decode cX12_changes 118 = .ok (.getfield 40, 3) := by decide +kernel
theorem dX12_changes_121 : decode cX12_changes 121 = .ok (.sipush 507, 3) := by decide +kernel
theorem dX12_changes_124 : decode cX12_changes 124 = .ok (.iload_n 1, 1) := by decide +kernel
theorem dX12_changes_125 : decode cX12_changes 125 = .ok (.iadd, 1) := by decide +kernel
theorem dX12_changes_126 : decode cX12_changes 126 = .ok (.aload_n 0, 1) := by decide +kernel
theorem dX12_changes_127 : decode cX12_changes 127 = .ok (.getfield 40, 3) := by decide +kernel
theorem dX12_changes_130 : decode cX12_changes 130 = .ok (.sipush 354, 3) := by decide +kernel
theorem dX12_changes_133 : decode cX12_changes 133 = .ok (.iaload, 1) := by decide +kernel
theorem dX12_changes_134 : decode cX12_changes 134 = .ok (.iastore, 1) := by decide +kernel
theorem dX12_changes_135 : decode cX12_changes 135 = .ok (.iload_n 2, 1) := by decide +kernel
theorem dX12_changes_136 : decode cX12_changes 136 = .ok (.ifCond .eq 38, 3) := by decide +kernel
theorem dX12_changes_139 : decode cX12_changes 139 = .ok (.aload_n 0, 1) := by decide +kernel
theorem dX12_changes_140 : decode cX12_changes 140 = .ok (.getfield 40, 3) := by decide +kernel
theorem dX12_changes_143 : decode cX12_changes 143 = .ok (.sipush 459, 3) := by decide +kernel
theorem dX12_changes_146 : decode cX12_changes 146 = .ok (.iload_n 1, 1) := by decide +kernel
theorem dX12_changes_147 : decode cX12_changes 147 = .ok (.iadd, 1) := by decide +kernel
theorem dX12_changes_148 : decode cX12_changes 148 = .ok (.dup2, 1) := by decide +kernel
theorem dX12_changes_149 : decode cX12_changes 149 = .ok (.iaload, 1) := by decide +kernel
theorem dX12_changes_150 : decode cX12_changes 150 = .ok (.iconst 1, 1) := by decide +kernel
theorem dX12_changes_151 : decode cX12_changes 151 = .ok (.iadd, 1) := by decide +kernel
theorem dX12_changes_152 : decode cX12_changes 152 = .ok (.iastore, 1) := by decide +kernel
theorem dX12_changes_153 : decode cX12_changes 153 = .ok (.aload_n 0, 1) := by decide +kernel
theorem dX12_changes_154 : decode cX12_changes 154 = .ok (.getfield 40, 3) := by decide +kernel
theorem dX12_changes_157 : decode cX12_changes 157 = .ok (.sipush 531, 3) := by decide +kernel
theorem dX12_changes_160 : decode cX12_changes 160 = .ok (.iload_n 1, 1) := by decide +kernel
theorem dX12_changes_161 : decode cX12_changes 161 = .ok (.iadd, 1) := by decide +kernel
theorem dX12_changes_162 : decode cX12_changes 162 = .ok (.aload_n 0, 1) := by decide +kernel
theorem dX12_changes_163 : decode cX12_changes 163 = .ok (.getfield 40, 3) := by decide +kernel
theorem dX12_changes_166 : decode cX12_changes 166 = .ok (.sipush 354, 3) := by decide +kernel
theorem dX12_changes_169 : decode cX12_changes 169 = .ok (.iaload, 1) := by decide +kernel
theorem dX12_changes_170 : decode cX12_changes 170 = .ok (.iastore, 1) := by decide +kernel
theorem dX12_changes_171 : decode cX12_changes 171 = .ok (.goto 51, 3) := by decide +kernel
theorem dX12_changes_174 : decode cX12_changes 174 = .ok (.aload_n 0, 1) := by decide +kernel
theorem dX12_changes_175 : decode cX12_changes 175 = .ok (.getfield 40, 3) := by decide +kernel
theorem dX12_changes_178 : decode cX12_changes 178 = .ok (.sipush 354, 3) := by decide +kernel
theorem dX12_changes_181 : decode cX12_changes 181 = .ok (.iaload, 1) := by decide +kernel
theorem dX12_changes_182 : decode cX12_changes 182 = .ok (.aload_n 0, 1) := by decide +kernel
theorem dX12_changes_183 : decode cX12_changes 183 = .ok (.getfield 40, 3) := by decide +kernel
theorem dX12_changes_186 : decode cX12_changes 186 = .ok (.sipush 531, 3) := by decide +kernel
theorem dX12_changes_189 : decode cX12_changes 189 = .ok (.iload_n 1, 1) := by decide +kernel
theorem dX12_changes_190 : decode cX12_changes 190 = .ok (.iadd, 1) := by decide +kernel
theorem dX12_changes_191 : decode cX12_changes 191 = .ok (.iaload, 1) := by decide +kernel
theorem dX12_changes_192 : decode cX12_changes 192 = .ok (.isub, 1) := by decide +kernel
theorem dX12_changes_193 : decode cX12_changes 193 = .ok (.istore 4, 2) := by decide +kernel
theorem dX12_changes_195 : decode cX12_changes 195 = .ok (.iload 4, 2) := by decide +kernel
theorem dX12_changes_197 : decode cX12_changes 197 = .ok (.aload_n 0, 1) := by decide +kernel
theorem dX12_changes_198 : decode cX12_changes 198 = .ok (.getfield 40, 3) := by decide +kernel
theorem dX12_changes_201 : decode cX12_changes 201 = .ok (.sipush 483, 3) := by decide +kernel
theorem dX12_changes_204 : decode cX12_changes 204 = .ok (.iload_n 1, 1) := by decide +kernel
theorem dX12_changes_205 : decode cX12_changes 205 = .ok (.iadd, 1) := by decide +kernel
theorem dX12_changes_206 : decode cX12_changes 206 = .ok (.iaload, 1) := by decide +kernel
theorem dX12_changes_207 : decode cX12_changes 207 = .ok (.if_icmp .le 15, 3) := by decide +kernel
theorem dX12_changes_210 : decode cX12_changes 210 = .ok (.aload_n 0, 1) := by decide +kernel
theorem dX12_changes_211 : decode cX12_changes 211 = .ok (.getfield 40, 3) := by decide +kernel
theorem dX12_changes_214 : decode cX12_changes 214 = .ok (.sipush 483, 3) := by decide +kernel
theorem dX12_changes_217 : decode cX12_changes 217 = .ok (.iload_n 1, 1) := by decide +kernel
theorem dX12_changes_218 : decode cX12_changes 218 = .ok (.iadd, 1) := by decide +kernel
theorem dX12_changes_219 : decode cX12_changes 219 = .ok (.iload 4, 2) := by decide +kernel
theorem dX12_changes_221 : decode cX12_changes 221 = .ok (.iastore, 1) := by decide +kernel
theorem dX12_changes_222 : decode cX12_changes 222 = .ok (.return_, 1) := by decide +kernel
def rmX12_changes : Room := { frames := 1, cells := 0, slots := 0, locals := 21 }
set_option maxRecDepth 100000 in
def fX12_changes_J222 (N : Nat) (g : Gs) (x0 : Nat) (x1 : Int32) (d : Ds) : Option (Unit × Ds) := some ((), d)
set_option maxHeartbeats 4000000 in
set_option maxRecDepth 100000 in
theorem tX12_changes_222 {p : Program} {l : Launch} {e : Env} {s : State} {m : MethodId} {args : Array Value} {below : List Frame} {meth : Method} {c : Code} {D : va_G} {cy : Nat → ClassId} {B : Bs} (C : Cx p s m args c cX12_changes 5 RX12 D cy B) (hr : meth.sig.returnType = none) (hlocks : meth.locks = false) {N : Nat} {g : Gs} {x0 : Nat} {x1 : Int32}  {dz : Ds} {d : Ds} (hf : fX12_changes_J222 N g x0 x1 d = some ((), dz)) : WB p l e rmX12_changes s m args below meth c 5 D cy B 0 0 (MQ below (QV D cy B g dz) args s 0 0 (wA B)) g d [(0, .ref (ad B x0)), (1, .int x1)] 222 [] := by
  unfold fX12_changes_J222 at hf
  exact b_vret C hr hlocks hf dX12_changes_222
set_option maxRecDepth 100000 in
def fX12_changes_J195 (N : Nat) (g : Gs) (x0 : Nat) (x1 : Int32) (y4 : Int32) (d : Ds) : Option (Unit × Ds) := gd (chk g x0 11) <| ob (gR g x0 17) fun r35 => (gd (chk g r35 102) <| gd (¬ (((483 : Int32) + x1) < 0 ∨ gL g r35 ≤ ((483 : Int32) + x1).toNatClampNeg)) <| if y4 ≤ (dI d r35 ((483 : Int32) + x1).toNatClampNeg) then (fX12_changes_J222 N g x0 x1 d) else (bd (sI d r35 ((483 : Int32) + x1).toNatClampNeg y4) fun d39 => (fX12_changes_J222 N g x0 x1 d39)))
set_option maxHeartbeats 4000000 in
set_option maxRecDepth 100000 in
theorem tX12_changes_195 {p : Program} {l : Launch} {e : Env} {s : State} {m : MethodId} {args : Array Value} {below : List Frame} {meth : Method} {c : Code} {D : va_G} {cy : Nat → ClassId} {B : Bs} (C : Cx p s m args c cX12_changes 5 RX12 D cy B) (hr : meth.sig.returnType = none) (hlocks : meth.locks = false) {N : Nat} {g : Gs} {x0 : Nat} {x1 : Int32}  {dz : Ds} {y4 : Int32} {d : Ds} (hf : fX12_changes_J195 N g x0 x1 y4 d = some ((), dz)) : WB p l e rmX12_changes s m args below meth c 5 D cy B 0 0 (MQ below (QV D cy B g dz) args s 0 0 (wA B)) g d [(0, .ref (ad B x0)), (1, .int x1), (4, .int y4)] 195 [] := by
  unfold fX12_changes_J195 at hf
  refine b_iload C dX12_changes_195 2 rfl ?_
  refine b_aload_n C dX12_changes_197 0 rfl rfl ?_
  obtain ⟨h34, hf⟩ := gd_s hf
  obtain ⟨r35, er35, hf⟩ := ob_s hf
  refine b_gR C dX12_changes_198 fl_X12_40 h34 er35 ?_
  refine b_sipush C (v := 483) dX12_changes_201 (by decide) ?_
  refine b_iload_n C dX12_changes_204 1 rfl rfl ?_
  refine b_iadd C dX12_changes_205 ?_
  obtain ⟨h36, hf⟩ := gd_s hf
  obtain ⟨h37, hf⟩ := gd_s hf
  refine b_iald C h36 h37 dX12_changes_206 ?_
  refine b_icmp_le C (tgt := 222) dX12_changes_207 (by decide) (fun c38 => ?_) (fun c38 => ?_)
  · have hf := it_s c38 hf
    refine b_sub [(0, .ref (ad B x0)), (1, .int x1)] [0, 1] rfl ?_
    exact tX12_changes_222 C hr hlocks hf
  · have hf := if_s c38 hf
    refine b_aload_n C dX12_changes_210 0 rfl rfl ?_
    refine b_gR C dX12_changes_211 fl_X12_40 h34 er35 ?_
    refine b_sipush C (v := 483) dX12_changes_214 (by decide) ?_
    refine b_iload_n C dX12_changes_217 1 rfl rfl ?_
    refine b_iadd C dX12_changes_218 ?_
    refine b_iload C dX12_changes_219 2 rfl ?_
    obtain ⟨d39, ed39, hf⟩ := bd_s hf
    refine b_iast C h36 h37 ed39 dX12_changes_221 ?_
    refine b_sub [(0, .ref (ad B x0)), (1, .int x1)] [0, 1] rfl ?_
    exact tX12_changes_222 C hr hlocks hf
set_option maxRecDepth 100000 in
def fX12_changes_J76 (N : Nat) (g : Gs) (x0 : Nat) (x1 : Int32) (y2 : Int32) (y3 : Int32) (z0 : Int32) (z1 : Int32) (z2 : Nat) (d : Ds) : Option (Unit × Ds) := gd (chk g z2 102) <| gd (¬ (z1 < 0 ∨ gL g z2 ≤ z1.toNatClampNeg)) <| bd (sI d z2 z1.toNatClampNeg z0) fun d18 => (gd (chk g x0 11) <| ob (gR g x0 17) fun r20 => (gd (chk g r20 102) <| gd (¬ ((354 : Int32) < 0 ∨ gL g r20 ≤ (354 : Int32).toNatClampNeg)) <| gd (¬ ((y3 + 2) < 0 ∨ gL g r20 ≤ (y3 + 2).toNatClampNeg)) <| bd (sI d18 r20 (y3 + 2).toNatClampNeg (dI d18 r20 (354 : Int32).toNatClampNeg)) fun d24 => (gd (¬ ((557 : Int32) < 0 ∨ gL g r20 ≤ (557 : Int32).toNatClampNeg)) <| bd (sI d24 r20 (557 : Int32).toNatClampNeg ((dI d24 r20 (557 : Int32).toNatClampNeg) + 1)) fun d26 => (gd (¬ ((556 : Int32) < 0 ∨ gL g r20 ≤ (556 : Int32).toNatClampNeg)) <| bd (sI d26 r20 (556 : Int32).toNatClampNeg ((dI d26 r20 (556 : Int32).toNatClampNeg) + 1)) fun d28 => (gd (¬ (((507 : Int32) + x1) < 0 ∨ gL g r20 ≤ ((507 : Int32) + x1).toNatClampNeg)) <| bd (sI d28 r20 ((507 : Int32) + x1).toNatClampNeg (dI d28 r20 (354 : Int32).toNatClampNeg)) fun d30 => (if y2 = 0 then (gd (¬ (((531 : Int32) + x1) < 0 ∨ gL g r20 ≤ ((531 : Int32) + x1).toNatClampNeg)) <| bd (((dI d30 r20 (354 : Int32).toNatClampNeg) - (dI d30 r20 ((531 : Int32) + x1).toNatClampNeg))) fun u33 => (fX12_changes_J195 N g x0 x1 u33 d30)) else (gd (¬ (((459 : Int32) + x1) < 0 ∨ gL g r20 ≤ ((459 : Int32) + x1).toNatClampNeg)) <| bd (sI d30 r20 ((459 : Int32) + x1).toNatClampNeg ((dI d30 r20 ((459 : Int32) + x1).toNatClampNeg) + 1)) fun d41 => (gd (¬ (((531 : Int32) + x1) < 0 ∨ gL g r20 ≤ ((531 : Int32) + x1).toNatClampNeg)) <| bd (sI d41 r20 ((531 : Int32) + x1).toNatClampNeg (dI d41 r20 (354 : Int32).toNatClampNeg)) fun d43 => (fX12_changes_J222 N g x0 x1 d43)))))))))
set_option maxHeartbeats 4000000 in
set_option maxRecDepth 100000 in
theorem tX12_changes_76 {p : Program} {l : Launch} {e : Env} {s : State} {m : MethodId} {args : Array Value} {below : List Frame} {meth : Method} {c : Code} {D : va_G} {cy : Nat → ClassId} {B : Bs} (C : Cx p s m args c cX12_changes 5 RX12 D cy B) (hr : meth.sig.returnType = none) (hlocks : meth.locks = false) {N : Nat} {g : Gs} {x0 : Nat} {x1 : Int32}  {dz : Ds} {y2 : Int32} {y3 : Int32} {z0 : Int32} {z1 : Int32} {z2 : Nat} {d : Ds} (hf : fX12_changes_J76 N g x0 x1 y2 y3 z0 z1 z2 d = some ((), dz)) : WB p l e rmX12_changes s m args below meth c 5 D cy B 0 0 (MQ below (QV D cy B g dz) args s 0 0 (wA B)) g d [(0, .ref (ad B x0)), (1, .int x1), (2, .int y2), (3, .int y3)] 76 [.int z0, .int z1, .ref (ad B z2)] := by
  unfold fX12_changes_J76 at hf
  obtain ⟨h16, hf⟩ := gd_s hf
  obtain ⟨h17, hf⟩ := gd_s hf
  obtain ⟨d18, ed18, hf⟩ := bd_s hf
  refine b_iast C h16 h17 ed18 dX12_changes_76 ?_
  refine b_aload_n C dX12_changes_77 0 rfl rfl ?_
  obtain ⟨h19, hf⟩ := gd_s hf
  obtain ⟨r20, er20, hf⟩ := ob_s hf
  refine b_gR C dX12_changes_78 fl_X12_40 h19 er20 ?_
  refine b_iload_n C dX12_changes_81 3 rfl rfl ?_
  refine b_iconst C (v := 2) dX12_changes_82 (by decide) ?_
  refine b_iadd C dX12_changes_83 ?_
  refine b_aload_n C dX12_changes_84 0 rfl rfl ?_
  refine b_gR C dX12_changes_85 fl_X12_40 h19 er20 ?_
  refine b_sipush C (v := 354) dX12_changes_88 (by decide) ?_
  obtain ⟨h21, hf⟩ := gd_s hf
  obtain ⟨h22, hf⟩ := gd_s hf
  refine b_iald C h21 h22 dX12_changes_91 ?_
  obtain ⟨h23, hf⟩ := gd_s hf
  obtain ⟨d24, ed24, hf⟩ := bd_s hf
  refine b_iast C h21 h23 ed24 dX12_changes_92 ?_
  refine b_aload_n C dX12_changes_93 0 rfl rfl ?_
  refine b_gR C dX12_changes_94 fl_X12_40 h19 er20 ?_
  refine b_sipush C (v := 557) dX12_changes_97 (by decide) ?_
  refine b_dup2 C dX12_changes_100 rfl rfl ?_
  obtain ⟨h25, hf⟩ := gd_s hf
  refine b_iald C h21 h25 dX12_changes_101 ?_
  refine b_iconst C (v := 1) dX12_changes_102 (by decide) ?_
  refine b_iadd C dX12_changes_103 ?_
  obtain ⟨d26, ed26, hf⟩ := bd_s hf
  refine b_iast C h21 h25 ed26 dX12_changes_104 ?_
  refine b_aload_n C dX12_changes_105 0 rfl rfl ?_
  refine b_gR C dX12_changes_106 fl_X12_40 h19 er20 ?_
  refine b_sipush C (v := 556) dX12_changes_109 (by decide) ?_
  refine b_dup2 C dX12_changes_112 rfl rfl ?_
  obtain ⟨h27, hf⟩ := gd_s hf
  refine b_iald C h21 h27 dX12_changes_113 ?_
  refine b_iconst C (v := 1) dX12_changes_114 (by decide) ?_
  refine b_iadd C dX12_changes_115 ?_
  obtain ⟨d28, ed28, hf⟩ := bd_s hf
  refine b_iast C h21 h27 ed28 dX12_changes_116 ?_
  refine b_aload_n C dX12_changes_117 0 rfl rfl ?_
  refine b_gR C dX12_changes_118 fl_X12_40 h19 er20 ?_
  refine b_sipush C (v := 507) dX12_changes_121 (by decide) ?_
  refine b_iload_n C dX12_changes_124 1 rfl rfl ?_
  refine b_iadd C dX12_changes_125 ?_
  refine b_aload_n C dX12_changes_126 0 rfl rfl ?_
  refine b_gR C dX12_changes_127 fl_X12_40 h19 er20 ?_
  refine b_sipush C (v := 354) dX12_changes_130 (by decide) ?_
  refine b_iald C h21 h22 dX12_changes_133 ?_
  obtain ⟨h29, hf⟩ := gd_s hf
  obtain ⟨d30, ed30, hf⟩ := bd_s hf
  refine b_iast C h21 h29 ed30 dX12_changes_134 ?_
  refine b_iload_n C dX12_changes_135 2 rfl rfl ?_
  refine b_if_eq C (tgt := 174) dX12_changes_136 (by decide) (fun c31 => ?_) (fun c31 => ?_)
  · have hf := it_s c31 hf
    refine b_aload_n C dX12_changes_174 0 rfl rfl ?_
    refine b_gR C dX12_changes_175 fl_X12_40 h19 er20 ?_
    refine b_sipush C (v := 354) dX12_changes_178 (by decide) ?_
    refine b_iald C h21 h22 dX12_changes_181 ?_
    refine b_aload_n C dX12_changes_182 0 rfl rfl ?_
    refine b_gR C dX12_changes_183 fl_X12_40 h19 er20 ?_
    refine b_sipush C (v := 531) dX12_changes_186 (by decide) ?_
    refine b_iload_n C dX12_changes_189 1 rfl rfl ?_
    refine b_iadd C dX12_changes_190 ?_
    obtain ⟨h32, hf⟩ := gd_s hf
    refine b_iald C h21 h32 dX12_changes_191 ?_
    refine b_isub C dX12_changes_192 ?_
    obtain ⟨u33, eu33, hf⟩ := bd_s hf
    refine b_topI eu33 ?_
    refine b_istore C dX12_changes_193 [(4, .int u33), (0, .ref (ad B x0)), (1, .int x1), (2, .int y2), (3, .int y3)] (by decide) rfl ?_
    refine b_sub [(0, .ref (ad B x0)), (1, .int x1), (4, .int u33)] [1, 2, 0] rfl ?_
    exact tX12_changes_195 C hr hlocks hf
  · have hf := if_s c31 hf
    refine b_aload_n C dX12_changes_139 0 rfl rfl ?_
    refine b_gR C dX12_changes_140 fl_X12_40 h19 er20 ?_
    refine b_sipush C (v := 459) dX12_changes_143 (by decide) ?_
    refine b_iload_n C dX12_changes_146 1 rfl rfl ?_
    refine b_iadd C dX12_changes_147 ?_
    refine b_dup2 C dX12_changes_148 rfl rfl ?_
    obtain ⟨h40, hf⟩ := gd_s hf
    refine b_iald C h21 h40 dX12_changes_149 ?_
    refine b_iconst C (v := 1) dX12_changes_150 (by decide) ?_
    refine b_iadd C dX12_changes_151 ?_
    obtain ⟨d41, ed41, hf⟩ := bd_s hf
    refine b_iast C h21 h40 ed41 dX12_changes_152 ?_
    refine b_aload_n C dX12_changes_153 0 rfl rfl ?_
    refine b_gR C dX12_changes_154 fl_X12_40 h19 er20 ?_
    refine b_sipush C (v := 531) dX12_changes_157 (by decide) ?_
    refine b_iload_n C dX12_changes_160 1 rfl rfl ?_
    refine b_iadd C dX12_changes_161 ?_
    refine b_aload_n C dX12_changes_162 0 rfl rfl ?_
    refine b_gR C dX12_changes_163 fl_X12_40 h19 er20 ?_
    refine b_sipush C (v := 354) dX12_changes_166 (by decide) ?_
    refine b_iald C h21 h22 dX12_changes_169 ?_
    obtain ⟨h42, hf⟩ := gd_s hf
    obtain ⟨d43, ed43, hf⟩ := bd_s hf
    refine b_iast C h21 h42 ed43 dX12_changes_170 ?_
    refine b_goto C (tgt := 222) dX12_changes_171 (by decide) ?_
    refine b_sub [(0, .ref (ad B x0)), (1, .int x1)] [0, 1] rfl ?_
    exact tX12_changes_222 C hr hlocks hf
set_option maxRecDepth 100000 in
def fX12_changes (N : Nat) (g : Gs) (x0 : Nat) (x1 : Int32) (d : Ds) : Option (Unit × Ds) := gd (chk g x0 11) <| ob (gR g x0 17) fun r2 => (gd (chk g r2 102) <| gd (¬ (((355 : Int32) + x1) < 0 ∨ gL g r2 ≤ ((355 : Int32) + x1).toNatClampNeg)) <| bd (sI d r2 ((355 : Int32) + x1).toNatClampNeg 0) fun d5 => (gd (¬ ((353 : Int32) < 0 ∨ gL g r2 ≤ (353 : Int32).toNatClampNeg)) <| bd (sI d5 r2 (353 : Int32).toNatClampNeg ((dI d5 r2 (353 : Int32).toNatClampNeg) ^^^ ((1 : Int32) <<< (x1 &&& 31)))) fun d7 => (cb (fX12_has N g (dI d7 r2 (353 : Int32).toNatClampNeg) x1 d7) fun u10 d8 => (gd (¬ ((557 : Int32) < 0 ∨ gL g r2 ≤ (557 : Int32).toNatClampNeg)) <| bd (((1678 : Int32) + ((3 : Int32) * (dI d8 r2 (557 : Int32).toNatClampNeg)))) fun u12 => (gd (¬ (u12 < 0 ∨ gL g r2 ≤ u12.toNatClampNeg)) <| bd (sI d8 r2 u12.toNatClampNeg x1) fun d14 => (if u10 = 0 then (fX12_changes_J76 N g x0 x1 u10 u12 0 (u12 + 1) r2 d14) else (fX12_changes_J76 N g x0 x1 u10 u12 1 (u12 + 1) r2 d14)))))))
set_option maxHeartbeats 4000000 in
set_option maxRecDepth 100000 in
theorem tX12_changes_E {p : Program} {l : Launch} {e : Env} {s : State} {m : MethodId} {args : Array Value} {below : List Frame} {meth : Method} {c : Code} {D : va_G} {cy : Nat → ClassId} {B : Bs} (C : Cx p s m args c cX12_changes 5 RX12 D cy B) (hr : meth.sig.returnType = none) (hlocks : meth.locks = false) {N : Nat} {g : Gs} {x0 : Nat} {x1 : Int32}  {dz : Ds} {d : Ds} (hf : fX12_changes N g x0 x1 d = some ((), dz)) : WB p l e rmX12_changes s m args below meth c 5 D cy B 0 0 (MQ below (QV D cy B g dz) args s 0 0 (wA B)) g d [(0, .ref (ad B x0)), (1, .int x1)] 0 [] := by
  unfold fX12_changes at hf
  refine b_aload_n C dX12_changes_0 0 rfl rfl ?_
  obtain ⟨h1, hf⟩ := gd_s hf
  obtain ⟨r2, er2, hf⟩ := ob_s hf
  refine b_gR C dX12_changes_1 fl_X12_40 h1 er2 ?_
  refine b_sipush C (v := 355) dX12_changes_4 (by decide) ?_
  refine b_iload_n C dX12_changes_7 1 rfl rfl ?_
  refine b_iadd C dX12_changes_8 ?_
  refine b_iconst C (v := 0) dX12_changes_9 (by decide) ?_
  obtain ⟨h3, hf⟩ := gd_s hf
  obtain ⟨h4, hf⟩ := gd_s hf
  obtain ⟨d5, ed5, hf⟩ := bd_s hf
  refine b_iast C h3 h4 ed5 dX12_changes_10 ?_
  refine b_aload_n C dX12_changes_11 0 rfl rfl ?_
  refine b_gR C dX12_changes_12 fl_X12_40 h1 er2 ?_
  refine b_sipush C (v := 353) dX12_changes_15 (by decide) ?_
  refine b_dup2 C dX12_changes_18 rfl rfl ?_
  obtain ⟨h6, hf⟩ := gd_s hf
  refine b_iald C h3 h6 dX12_changes_19 ?_
  refine b_iconst C (v := 1) dX12_changes_20 (by decide) ?_
  refine b_iload_n C dX12_changes_21 1 rfl rfl ?_
  refine b_ishl C dX12_changes_22 ?_
  refine b_ixor C dX12_changes_23 ?_
  obtain ⟨d7, ed7, hf⟩ := bd_s hf
  refine b_iast C h3 h6 ed7 dX12_changes_24 ?_
  refine b_aload_n C dX12_changes_25 0 rfl rfl ?_
  refine b_gR C dX12_changes_26 fl_X12_40 h1 er2 ?_
  refine b_sipush C (v := 353) dX12_changes_29 (by decide) ?_
  refine b_iald C h3 h6 dX12_changes_32 ?_
  refine b_iload_n C dX12_changes_33 1 rfl rfl ?_
  obtain ⟨u10, d8, k9, hf⟩ := cb_s hf
  refine b_cSI C [] dX12_changes_34 (kX12_has l D cy B k9) lv_X12_210 ⟨rfl, rfl, Nat.le_of_ble_eq_true rfl, Nat.le_of_ble_eq_true rfl⟩ rfl (Nat.le_of_ble_eq_true rfl) ⟨Nat.zero_le _, Nat.zero_le _⟩ rfl ?_
  refine b_istore_n C dX12_changes_37 rfl [(2, .int u10), (0, .ref (ad B x0)), (1, .int x1)] (by decide) rfl ?_
  refine b_sipush C (v := 1678) dX12_changes_38 (by decide) ?_
  refine b_iconst C (v := 3) dX12_changes_41 (by decide) ?_
  refine b_aload_n C dX12_changes_42 1 rfl rfl ?_
  refine b_gR C dX12_changes_43 fl_X12_40 h1 er2 ?_
  refine b_sipush C (v := 557) dX12_changes_46 (by decide) ?_
  obtain ⟨h11, hf⟩ := gd_s hf
  refine b_iald C h3 h11 dX12_changes_49 ?_
  refine b_imul C dX12_changes_50 ?_
  refine b_iadd C dX12_changes_51 ?_
  obtain ⟨u12, eu12, hf⟩ := bd_s hf
  refine b_topI eu12 ?_
  refine b_istore_n C dX12_changes_52 rfl [(3, .int u12), (2, .int u10), (0, .ref (ad B x0)), (1, .int x1)] (by decide) rfl ?_
  refine b_aload_n C dX12_changes_53 2 rfl rfl ?_
  refine b_gR C dX12_changes_54 fl_X12_40 h1 er2 ?_
  refine b_iload_n C dX12_changes_57 0 rfl rfl ?_
  refine b_iload_n C dX12_changes_58 3 rfl rfl ?_
  obtain ⟨h13, hf⟩ := gd_s hf
  obtain ⟨d14, ed14, hf⟩ := bd_s hf
  refine b_iast C h3 h13 ed14 dX12_changes_59 ?_
  refine b_aload_n C dX12_changes_60 2 rfl rfl ?_
  refine b_gR C dX12_changes_61 fl_X12_40 h1 er2 ?_
  refine b_iload_n C dX12_changes_64 0 rfl rfl ?_
  refine b_iconst C (v := 1) dX12_changes_65 (by decide) ?_
  refine b_iadd C dX12_changes_66 ?_
  refine b_iload_n C dX12_changes_67 1 rfl rfl ?_
  refine b_if_eq C (tgt := 75) dX12_changes_68 (by decide) (fun c15 => ?_) (fun c15 => ?_)
  · have hf := it_s c15 hf
    refine b_iconst C (v := 0) dX12_changes_75 (by decide) ?_
    refine b_sub [(0, .ref (ad B x0)), (1, .int x1), (2, .int u10), (3, .int u12)] [2, 3, 1, 0] rfl ?_
    exact tX12_changes_76 C hr hlocks hf
  · have hf := if_s c15 hf
    refine b_iconst C (v := 1) dX12_changes_71 (by decide) ?_
    refine b_goto C (tgt := 76) dX12_changes_72 (by decide) ?_
    refine b_sub [(0, .ref (ad B x0)), (1, .int x1), (2, .int u10), (3, .int u12)] [2, 3, 1, 0] rfl ?_
    exact tX12_changes_76 C hr hlocks hf
theorem kX12_changes (l : Launch) (D : va_G) (cy : Nat → ClassId) (B : Bs) {N : Nat} {g : Gs} {x0 : Nat} {x1 : Int32}  {dz : Ds} {d : Ds} (hf : fX12_changes N g x0 x1 d = some ((), dz)) : Met l yX12_changes (.code yX12_changes cX12_changes 5 none :: wl) rmX12_changes (PC D cy B [.ref (ad B x0), .int x1] g d) (QV D cy B g dz) 0 0 (wA B) :=
  met_of (by decide +kernel) (Nat.le_of_ble_eq_true rfl) (fun p e s m args below meth c C hr hlocks _ => b_sub [(0, .ref (ad B x0)), (1, .int x1)] [0, 1] rfl (tX12_changes_E C hr hlocks hf))
/-! KeyMatrixModel.keyAt(I)I -/
theorem dX12_keyAt_0 : decode cX12_keyAt 0 = .ok (.aload_n 0, 1) := by decide +kernel
theorem dX12_keyAt_1 : decode cX12_keyAt 1 = .ok (.getfield 40, 3) := by decide +kernel
theorem dX12_keyAt_4 : decode cX12_keyAt 4 = .ok (.sipush 1678, 3) := by decide +kernel
theorem dX12_keyAt_7 : decode cX12_keyAt 7 = .ok (.iconst 3, 1) := by decide +kernel
theorem dX12_keyAt_8 : decode cX12_keyAt 8 = .ok (.iload_n 1, 1) := by decide +kernel
theorem dX12_keyAt_9 : decode cX12_keyAt 9 = .ok (.imul, 1) := by decide +kernel
theorem dX12_keyAt_10 : decode cX12_keyAt 10 = .ok (.iadd, 1) := by decide +kernel
theorem dX12_keyAt_11 : decode cX12_keyAt 11 = .ok (.iaload, 1) := by decide +kernel
theorem dX12_keyAt_12 : decode cX12_keyAt 12 = .ok (.ireturn, 1) := by decide +kernel
def rmX12_keyAt : Room := { frames := 0, cells := 0, slots := 0, locals := 0 }
set_option maxRecDepth 100000 in
def fX12_keyAt (N : Nat) (g : Gs) (x0 : Nat) (x1 : Int32) (d : Ds) : Option (Int32 × Ds) := gd (chk g x0 11) <| ob (gR g x0 17) fun r2 => (gd (chk g r2 102) <| gd (¬ (((1678 : Int32) + ((3 : Int32) * x1)) < 0 ∨ gL g r2 ≤ ((1678 : Int32) + ((3 : Int32) * x1)).toNatClampNeg)) <| some ((dI d r2 ((1678 : Int32) + ((3 : Int32) * x1)).toNatClampNeg), d))
set_option maxHeartbeats 4000000 in
set_option maxRecDepth 100000 in
theorem tX12_keyAt_E {p : Program} {l : Launch} {e : Env} {s : State} {m : MethodId} {args : Array Value} {below : List Frame} {meth : Method} {c : Code} {D : va_G} {cy : Nat → ClassId} {B : Bs} (C : Cx p s m args c cX12_keyAt 2 RX12 D cy B) (hr : meth.sig.returnType = (some .int)) (hlocks : meth.locks = false) {N : Nat} {g : Gs} {x0 : Nat} {x1 : Int32} {vz : Int32} {dz : Ds} {d : Ds} (hf : fX12_keyAt N g x0 x1 d = some (vz, dz)) : WB p l e rmX12_keyAt s m args below meth c 2 D cy B 0 0 (MQ below (QI D cy B vz g dz) args s 0 0 (wA B)) g d [(0, .ref (ad B x0)), (1, .int x1)] 0 [] := by
  unfold fX12_keyAt at hf
  refine b_aload_n C dX12_keyAt_0 0 rfl rfl ?_
  obtain ⟨h1, hf⟩ := gd_s hf
  obtain ⟨r2, er2, hf⟩ := ob_s hf
  refine b_gR C dX12_keyAt_1 fl_X12_40 h1 er2 ?_
  refine b_sipush C (v := 1678) dX12_keyAt_4 (by decide) ?_
  refine b_iconst C (v := 3) dX12_keyAt_7 (by decide) ?_
  refine b_iload_n C dX12_keyAt_8 1 rfl rfl ?_
  refine b_imul C dX12_keyAt_9 ?_
  refine b_iadd C dX12_keyAt_10 ?_
  obtain ⟨h3, hf⟩ := gd_s hf
  obtain ⟨h4, hf⟩ := gd_s hf
  refine b_iald C h3 h4 dX12_keyAt_11 ?_
  exact b_iret C hr hlocks hf dX12_keyAt_12
theorem kX12_keyAt (l : Launch) (D : va_G) (cy : Nat → ClassId) (B : Bs) {N : Nat} {g : Gs} {x0 : Nat} {x1 : Int32} {vz : Int32} {dz : Ds} {d : Ds} (hf : fX12_keyAt N g x0 x1 d = some (vz, dz)) : Met l yX12_keyAt (.code yX12_keyAt cX12_keyAt 2 (some .int) :: wl) rmX12_keyAt (PC D cy B [.ref (ad B x0), .int x1] g d) (QI D cy B vz g dz) 0 0 (wA B) :=
  met_of (by decide +kernel) (Nat.le_of_ble_eq_true rfl) (fun p e s m args below meth c C hr hlocks _ => b_sub [(0, .ref (ad B x0)), (1, .int x1)] [0, 1] rfl (tX12_keyAt_E C hr hlocks hf))
/-! KeyMatrixModel.isDownAt(I)Z -/
theorem dX12_isDownAt_0 : decode cX12_isDownAt 0 = .ok (.aload_n 0, 1) := by decide +kernel
theorem dX12_isDownAt_1 : decode cX12_isDownAt 1 = .ok (.getfield 40, 3) := by decide +kernel
theorem dX12_isDownAt_4 : decode cX12_isDownAt 4 = .ok (.sipush 1678, 3) := by decide +kernel
theorem dX12_isDownAt_7 : decode cX12_isDownAt 7 = .ok (.iconst 3, 1) := by decide +kernel
theorem dX12_isDownAt_8 : decode cX12_isDownAt 8 = .ok (.iload_n 1, 1) := by decide +kernel
theorem dX12_isDownAt_9 : decode cX12_isDownAt 9 = .ok (.imul, 1) := by decide +kernel
theorem dX12_isDownAt_10 : decode cX12_isDownAt 10 = .ok (.iadd, 1) := by decide +kernel
theorem dX12_isDownAt_11 : decode cX12_isDownAt 11 = .ok (.iconst 1, 1) := by decide +kernel
theorem dX12_isDownAt_12 : decode cX12_isDownAt 12 = .ok (.iadd, 1) := by decide +kernel
theorem dX12_isDownAt_13 : decode cX12_isDownAt 13 = .ok (.iaload, 1) := by decide +kernel
theorem dX12_isDownAt_14 : decode cX12_isDownAt 14 = .ok (.iconst 1, 1) := by decide +kernel
theorem dX12_isDownAt_15 : decode cX12_isDownAt 15 = .ok (.if_icmp .ne 7, 3) := by decide +kernel
theorem dX12_isDownAt_18 : decode cX12_isDownAt 18 = .ok (.iconst 1, 1) := by decide +kernel
theorem dX12_isDownAt_19 : decode cX12_isDownAt 19 = .ok (.goto 4, 3) := by decide +kernel
theorem dX12_isDownAt_22 : decode cX12_isDownAt 22 = .ok (.iconst 0, 1) := by decide +kernel
theorem dX12_isDownAt_23 : decode cX12_isDownAt 23 = .ok (.ireturn, 1) := by decide +kernel
def rmX12_isDownAt : Room := { frames := 0, cells := 0, slots := 0, locals := 0 }
set_option maxRecDepth 100000 in
def fX12_isDownAt_J23 (N : Nat) (g : Gs) (x0 : Nat) (x1 : Int32) (z0 : Int32) (d : Ds) : Option (Int32 × Ds) := gd (z0 = 0 ∨ z0 = 1) <| some (z0, d)
set_option maxHeartbeats 4000000 in
set_option maxRecDepth 100000 in
theorem tX12_isDownAt_23 {p : Program} {l : Launch} {e : Env} {s : State} {m : MethodId} {args : Array Value} {below : List Frame} {meth : Method} {c : Code} {D : va_G} {cy : Nat → ClassId} {B : Bs} (C : Cx p s m args c cX12_isDownAt 2 RX12 D cy B) (hr : meth.sig.returnType = (some .boolean)) (hlocks : meth.locks = false) {N : Nat} {g : Gs} {x0 : Nat} {x1 : Int32} {vz : Int32} {dz : Ds} {z0 : Int32} {d : Ds} (hf : fX12_isDownAt_J23 N g x0 x1 z0 d = some (vz, dz)) : WB p l e rmX12_isDownAt s m args below meth c 2 D cy B 0 0 (MQ below (QI D cy B vz g dz) args s 0 0 (wA B)) g d [(0, .ref (ad B x0)), (1, .int x1)] 23 [.int z0] := by
  unfold fX12_isDownAt_J23 at hf
  obtain ⟨h6, hf⟩ := gd_s hf
  exact b_zret C hr hlocks h6 hf dX12_isDownAt_23
set_option maxRecDepth 100000 in
def fX12_isDownAt (N : Nat) (g : Gs) (x0 : Nat) (x1 : Int32) (d : Ds) : Option (Int32 × Ds) := gd (chk g x0 11) <| ob (gR g x0 17) fun r2 => (gd (chk g r2 102) <| gd (¬ ((((1678 : Int32) + ((3 : Int32) * x1)) + 1) < 0 ∨ gL g r2 ≤ (((1678 : Int32) + ((3 : Int32) * x1)) + 1).toNatClampNeg)) <| if (dI d r2 (((1678 : Int32) + ((3 : Int32) * x1)) + 1).toNatClampNeg) = (1 : Int32) then (fX12_isDownAt_J23 N g x0 x1 1 d) else (fX12_isDownAt_J23 N g x0 x1 0 d))
set_option maxHeartbeats 4000000 in
set_option maxRecDepth 100000 in
theorem tX12_isDownAt_E {p : Program} {l : Launch} {e : Env} {s : State} {m : MethodId} {args : Array Value} {below : List Frame} {meth : Method} {c : Code} {D : va_G} {cy : Nat → ClassId} {B : Bs} (C : Cx p s m args c cX12_isDownAt 2 RX12 D cy B) (hr : meth.sig.returnType = (some .boolean)) (hlocks : meth.locks = false) {N : Nat} {g : Gs} {x0 : Nat} {x1 : Int32} {vz : Int32} {dz : Ds} {d : Ds} (hf : fX12_isDownAt N g x0 x1 d = some (vz, dz)) : WB p l e rmX12_isDownAt s m args below meth c 2 D cy B 0 0 (MQ below (QI D cy B vz g dz) args s 0 0 (wA B)) g d [(0, .ref (ad B x0)), (1, .int x1)] 0 [] := by
  unfold fX12_isDownAt at hf
  refine b_aload_n C dX12_isDownAt_0 0 rfl rfl ?_
  obtain ⟨h1, hf⟩ := gd_s hf
  obtain ⟨r2, er2, hf⟩ := ob_s hf
  refine b_gR C dX12_isDownAt_1 fl_X12_40 h1 er2 ?_
  refine b_sipush C (v := 1678) dX12_isDownAt_4 (by decide) ?_
  refine b_iconst C (v := 3) dX12_isDownAt_7 (by decide) ?_
  refine b_iload_n C dX12_isDownAt_8 1 rfl rfl ?_
  refine b_imul C dX12_isDownAt_9 ?_
  refine b_iadd C dX12_isDownAt_10 ?_
  refine b_iconst C (v := 1) dX12_isDownAt_11 (by decide) ?_
  refine b_iadd C dX12_isDownAt_12 ?_
  obtain ⟨h3, hf⟩ := gd_s hf
  obtain ⟨h4, hf⟩ := gd_s hf
  refine b_iald C h3 h4 dX12_isDownAt_13 ?_
  refine b_iconst C (v := 1) dX12_isDownAt_14 (by decide) ?_
  refine b_icmp_ne C (tgt := 22) dX12_isDownAt_15 (by decide) (fun c5 => ?_) (fun c5 => ?_)
  · have hf := if_s c5 hf
    refine b_iconst C (v := 0) dX12_isDownAt_22 (by decide) ?_
    refine b_sub [(0, .ref (ad B x0)), (1, .int x1)] [0, 1] rfl ?_
    exact tX12_isDownAt_23 C hr hlocks hf
  · have hf := it_s c5 hf
    refine b_iconst C (v := 1) dX12_isDownAt_18 (by decide) ?_
    refine b_goto C (tgt := 23) dX12_isDownAt_19 (by decide) ?_
    refine b_sub [(0, .ref (ad B x0)), (1, .int x1)] [0, 1] rfl ?_
    exact tX12_isDownAt_23 C hr hlocks hf
theorem kX12_isDownAt (l : Launch) (D : va_G) (cy : Nat → ClassId) (B : Bs) {N : Nat} {g : Gs} {x0 : Nat} {x1 : Int32} {vz : Int32} {dz : Ds} {d : Ds} (hf : fX12_isDownAt N g x0 x1 d = some (vz, dz)) : Met l yX12_isDownAt (.code yX12_isDownAt cX12_isDownAt 2 (some .boolean) :: wl) rmX12_isDownAt (PC D cy B [.ref (ad B x0), .int x1] g d) (QI D cy B vz g dz) 0 0 (wA B) :=
  met_of (by decide +kernel) (Nat.le_of_ble_eq_true rfl) (fun p e s m args below meth c C hr hlocks _ => b_sub [(0, .ref (ad B x0)), (1, .int x1)] [0, 1] rfl (tX12_isDownAt_E C hr hlocks hf))
/-! KeyMatrixModel.drops(I)V -/
theorem dX12_drops_0 : decode cX12_drops 0 = .ok (.sipush 1678, 3) := by decide +kernel
theorem dX12_drops_3 : decode cX12_drops 3 = .ok (.iconst 3, 1) := by decide +kernel
theorem dX12_drops_4 : decode cX12_drops 4 = .ok (.iload_n 1, 1) := by decide +kernel
theorem dX12_drops_5 : decode cX12_drops 5 = .ok (.imul, 1) := by decide +kernel
theorem dX12_drops_6 : decode cX12_drops 6 = .ok (.iadd, 1) := by decide +kernel
theorem dX12_drops_7 : decode cX12_drops 7 = .ok (.istore_n 2, 1) := by decide +kernel
theorem dX12_drops_8 : decode cX12_drops 8 = .ok (.iload_n 2, 1) := by decide +kernel
theorem dX12_drops_9 : decode cX12_drops 9 = .ok (.sipush 1678, 3) := by decide +kernel
theorem dX12_drops_12 : decode cX12_drops 12 = .ok (.iconst 3, 1) := by decide +kernel
theorem dX12_drops_13 : decode cX12_drops 13 = .ok (.aload_n 0, 1) := by decide +kernel
theorem dX12_drops_14 : decode cX12_drops 14 = .ok (.getfield 40, 3) := by decide +kernel
theorem dX12_drops_17 : decode cX12_drops 17 = .ok (.sipush 557, 3) := by decide +kernel
theorem dX12_drops_20 : decode cX12_drops 20 = .ok (.iaload, 1) := by decide +kernel
theorem dX12_drops_21 : decode cX12_drops 21 = .ok (.imul, 1) := by decide +kernel
theorem dX12_drops_22 : decode cX12_drops 22 = .ok (.iadd, 1) := by decide +kernel
theorem dX12_drops_23 : decode cX12_drops 23 = .ok (.iconst 3, 1) := by decide +kernel
theorem dX12_drops_24 : decode cX12_drops 24 = .ok (.isub, 1) := by decide +kernel
theorem dX12_drops_25 : decode cX12_drops 25 = .ok (.if_icmp .ge 23, 3) := by decide +kernel
theorem dX12_drops_28 : decode cX12_drops 28 = .ok (.aload_n 0, 1) := by decide +kernel
theorem dX12_drops_29 : decode cX12_drops 29 = .ok (.getfield 40, 3) := by decide +kernel
theorem dX12_drops_32 : decode cX12_drops 32 = .ok (.iload_n 2, 1) := by decide +kernel
theorem dX12_drops_33 : decode cX12_drops 33 = .ok (.aload_n 0, 1) := by decide +kernel
theorem dX12_drops_34 : decode cX12_drops 34 = .ok (.getfield 40, 3) := by decide +kernel
theorem dX12_drops_37 : decode cX12_drops 37 = .ok (.iload_n 2, 1) := by decide +kernel
theorem dX12_drops_38 : decode cX12_drops 38 = .ok (.iconst 3, 1) := by decide +kernel
theorem dX12_drops_39 : decode cX12_drops 39 = .ok (.iadd, 1) := by decide +kernel
theorem dX12_drops_40 : decode cX12_drops 40 = .ok (.iaload, 1) := by decide +kernel
theorem dX12_drops_41 : decode cX12_drops 41 = .ok (.iastore, 1) := by decide +kernel
theorem dX12_drops_42 : decode cX12_drops 42 = .ok (.iinc 2 1, 3) := by decide +kernel
theorem dX12_drops_45 : decode cX12_drops 45 = .ok (.goto (-37), 3) := by decide +kernel
theorem dX12_drops_48 : decode cX12_drops 48 = .ok (.aload_n 0, 1) := by decide +kernel
theorem dX12_drops_49 : decode cX12_drops 49 = .ok (.getfield 40, 3) := by decide +kernel
theorem dX12_drops_52 : decode cX12_drops 52 = .ok (.sipush 557, 3) := by decide +kernel
theorem dX12_drops_55 : decode cX12_drops 55 = .ok (.dup2, 1) := by decide +kernel
theorem dX12_drops_56 : decode cX12_drops 56 = .ok (.iaload, 1) := by decide +kernel
theorem dX12_drops_57 : decode cX12_drops 57 = .ok (.iconst 1, 1) := by decide +kernel
theorem dX12_drops_58 : decode cX12_drops 58 = .ok (.isub, 1) := by decide +kernel
theorem dX12_drops_59 : decode cX12_drops 59 = .ok (.iastore, 1) := by decide +kernel
theorem dX12_drops_60 : decode cX12_drops 60 = .ok (.return_, 1) := by decide +kernel
def rmX12_drops : Room := { frames := 0, cells := 0, slots := 0, locals := 0 }
set_option maxRecDepth 100000 in
def fX12_drops_B8 (N : Nat) (g : Gs) (x0 : Nat) (x1 : Int32) (K8 : Int32 × Ds → Option (Unit × Ds)) (y2 : Int32) (d : Ds) : Option (Unit × Ds) := gd (chk g x0 11) <| ob (gR g x0 17) fun r3 => (gd (chk g r3 102) <| gd (¬ ((557 : Int32) < 0 ∨ gL g r3 ≤ (557 : Int32).toNatClampNeg)) <| if (((1678 : Int32) + ((3 : Int32) * (dI d r3 (557 : Int32).toNatClampNeg))) - 3) ≤ y2 then (bd (sI d r3 (557 : Int32).toNatClampNeg ((dI d r3 (557 : Int32).toNatClampNeg) - 1)) fun d7 => (some ((), d7))) else (gd (¬ ((y2 + 3) < 0 ∨ gL g r3 ≤ (y2 + 3).toNatClampNeg)) <| gd (¬ (y2 < 0 ∨ gL g r3 ≤ y2.toNatClampNeg)) <| bd (sI d r3 y2.toNatClampNeg (dI d r3 (y2 + 3).toNatClampNeg)) fun d10 => (bd (y2 + 1) fun u11 => (K8 (u11, d10)))))
set_option maxHeartbeats 4000000 in
set_option maxRecDepth 100000 in
theorem tX12_drops_8 {p : Program} {l : Launch} {e : Env} {s : State} {m : MethodId} {args : Array Value} {below : List Frame} {meth : Method} {c : Code} {D : va_G} {cy : Nat → ClassId} {B : Bs} (C : Cx p s m args c cX12_drops 3 RX12 D cy B) (hr : meth.sig.returnType = none) (hlocks : meth.locks = false) {N : Nat} {g : Gs} {x0 : Nat} {x1 : Int32}  {dz : Ds} {K8 : Int32 × Ds → Option (Unit × Ds)} (hK8 : ∀ a, K8 a = some ((), dz) → WB p l e rmX12_drops s m args below meth c 3 D cy B 0 0 (MQ below (QV D cy B g dz) args s 0 0 (wA B)) g a.2 [(0, .ref (ad B x0)), (1, .int x1), (2, .int a.1)] 8 []) {y2 : Int32} {d : Ds} (hf : fX12_drops_B8 N g x0 x1 K8 y2 d = some ((), dz)) : WB p l e rmX12_drops s m args below meth c 3 D cy B 0 0 (MQ below (QV D cy B g dz) args s 0 0 (wA B)) g d [(0, .ref (ad B x0)), (1, .int x1), (2, .int y2)] 8 [] := by
  unfold fX12_drops_B8 at hf
  refine b_iload_n C dX12_drops_8 2 rfl rfl ?_
  refine b_sipush C (v := 1678) dX12_drops_9 (by decide) ?_
  refine b_iconst C (v := 3) dX12_drops_12 (by decide) ?_
  refine b_aload_n C dX12_drops_13 0 rfl rfl ?_
  obtain ⟨h2, hf⟩ := gd_s hf
  obtain ⟨r3, er3, hf⟩ := ob_s hf
  refine b_gR C dX12_drops_14 fl_X12_40 h2 er3 ?_
  refine b_sipush C (v := 557) dX12_drops_17 (by decide) ?_
  obtain ⟨h4, hf⟩ := gd_s hf
  obtain ⟨h5, hf⟩ := gd_s hf
  refine b_iald C h4 h5 dX12_drops_20 ?_
  refine b_imul C dX12_drops_21 ?_
  refine b_iadd C dX12_drops_22 ?_
  refine b_iconst C (v := 3) dX12_drops_23 (by decide) ?_
  refine b_isub C dX12_drops_24 ?_
  refine b_icmp_ge C (tgt := 48) dX12_drops_25 (by decide) (fun c6 => ?_) (fun c6 => ?_)
  · have hf := it_s c6 hf
    refine b_aload_n C dX12_drops_48 0 rfl rfl ?_
    refine b_gR C dX12_drops_49 fl_X12_40 h2 er3 ?_
    refine b_sipush C (v := 557) dX12_drops_52 (by decide) ?_
    refine b_dup2 C dX12_drops_55 rfl rfl ?_
    refine b_iald C h4 h5 dX12_drops_56 ?_
    refine b_iconst C (v := 1) dX12_drops_57 (by decide) ?_
    refine b_isub C dX12_drops_58 ?_
    obtain ⟨d7, ed7, hf⟩ := bd_s hf
    refine b_iast C h4 h5 ed7 dX12_drops_59 ?_
    exact b_vret C hr hlocks hf dX12_drops_60
  · have hf := if_s c6 hf
    refine b_aload_n C dX12_drops_28 0 rfl rfl ?_
    refine b_gR C dX12_drops_29 fl_X12_40 h2 er3 ?_
    refine b_iload_n C dX12_drops_32 2 rfl rfl ?_
    refine b_aload_n C dX12_drops_33 0 rfl rfl ?_
    refine b_gR C dX12_drops_34 fl_X12_40 h2 er3 ?_
    refine b_iload_n C dX12_drops_37 2 rfl rfl ?_
    refine b_iconst C (v := 3) dX12_drops_38 (by decide) ?_
    refine b_iadd C dX12_drops_39 ?_
    obtain ⟨h8, hf⟩ := gd_s hf
    refine b_iald C h4 h8 dX12_drops_40 ?_
    obtain ⟨h9, hf⟩ := gd_s hf
    obtain ⟨d10, ed10, hf⟩ := bd_s hf
    refine b_iast C h4 h9 ed10 dX12_drops_41 ?_
    obtain ⟨u11, eu11, hf⟩ := bd_s hf
    refine b_iinc C dX12_drops_42 2 rfl (by rw [eu11]; rfl) [(2, .int u11), (0, .ref (ad B x0)), (1, .int x1)] (by decide) rfl ?_
    refine b_goto C (tgt := 8) dX12_drops_45 (by decide) ?_
    refine b_sub [(0, .ref (ad B x0)), (1, .int x1), (2, .int u11)] [1, 2, 0] rfl ?_
    exact hK8 (u11, d10) hf
def fX12_drops_L8 (N : Nat) (g : Gs) (x0 : Nat) (x1 : Int32) : Int32 × Ds → Option (Unit × Ds) := lp (fun K8 a => fX12_drops_B8 N g x0 x1 K8 a.1 a.2) N
theorem tX12_drops_L8 {p : Program} {l : Launch} {e : Env} {s : State} {m : MethodId} {args : Array Value} {below : List Frame} {meth : Method} {c : Code} {D : va_G} {cy : Nat → ClassId} {B : Bs} (C : Cx p s m args c cX12_drops 3 RX12 D cy B) (hr : meth.sig.returnType = none) (hlocks : meth.locks = false) {N : Nat} {g : Gs} {x0 : Nat} {x1 : Int32}  {dz : Ds} (a : Int32 × Ds) (hf : fX12_drops_L8 N g x0 x1 a = some ((), dz)) : WB p l e rmX12_drops s m args below meth c 3 D cy B 0 0 (MQ below (QV D cy B g dz) args s 0 0 (wA B)) g a.2 [(0, .ref (ad B x0)), (1, .int x1), (2, .int a.1)] 8 [] :=
  lp_w (fun K8 hK8 a ha => tX12_drops_8 C hr hlocks hK8 ha) N a hf
set_option maxRecDepth 100000 in
def fX12_drops (N : Nat) (g : Gs) (x0 : Nat) (x1 : Int32) (d : Ds) : Option (Unit × Ds) := bd (((1678 : Int32) + ((3 : Int32) * x1))) fun u1 => (fX12_drops_L8 N g x0 x1 (u1, d))
set_option maxHeartbeats 4000000 in
set_option maxRecDepth 100000 in
theorem tX12_drops_E {p : Program} {l : Launch} {e : Env} {s : State} {m : MethodId} {args : Array Value} {below : List Frame} {meth : Method} {c : Code} {D : va_G} {cy : Nat → ClassId} {B : Bs} (C : Cx p s m args c cX12_drops 3 RX12 D cy B) (hr : meth.sig.returnType = none) (hlocks : meth.locks = false) {N : Nat} {g : Gs} {x0 : Nat} {x1 : Int32}  {dz : Ds} {d : Ds} (hf : fX12_drops N g x0 x1 d = some ((), dz)) : WB p l e rmX12_drops s m args below meth c 3 D cy B 0 0 (MQ below (QV D cy B g dz) args s 0 0 (wA B)) g d [(0, .ref (ad B x0)), (1, .int x1)] 0 [] := by
  unfold fX12_drops at hf
  refine b_sipush C (v := 1678) dX12_drops_0 (by decide) ?_
  refine b_iconst C (v := 3) dX12_drops_3 (by decide) ?_
  refine b_iload_n C dX12_drops_4 1 rfl rfl ?_
  refine b_imul C dX12_drops_5 ?_
  refine b_iadd C dX12_drops_6 ?_
  obtain ⟨u1, eu1, hf⟩ := bd_s hf
  refine b_topI eu1 ?_
  refine b_istore_n C dX12_drops_7 rfl [(2, .int u1), (0, .ref (ad B x0)), (1, .int x1)] (by decide) rfl ?_
  refine b_sub [(0, .ref (ad B x0)), (1, .int x1), (2, .int u1)] [1, 2, 0] rfl ?_
  exact tX12_drops_L8 C hr hlocks (u1, d) hf
theorem kX12_drops (l : Launch) (D : va_G) (cy : Nat → ClassId) (B : Bs) {N : Nat} {g : Gs} {x0 : Nat} {x1 : Int32}  {dz : Ds} {d : Ds} (hf : fX12_drops N g x0 x1 d = some ((), dz)) : Met l yX12_drops (.code yX12_drops cX12_drops 3 none :: wl) rmX12_drops (PC D cy B [.ref (ad B x0), .int x1] g d) (QV D cy B g dz) 0 0 (wA B) :=
  met_of (by decide +kernel) (Nat.le_of_ble_eq_true rfl) (fun p e s m args below meth c C hr hlocks _ => b_sub [(0, .ref (ad B x0)), (1, .int x1)] [0, 1] rfl (tX12_drops_E C hr hlocks hf))
/-! KeyMatrixModel.chordOf(I)I -/
theorem dX12_chordOf_0 : decode cX12_chordOf 0 = .ok (.iconst 0, 1) := by decide +kernel
theorem dX12_chordOf_1 : decode cX12_chordOf 1 = .ok (.istore_n 2, 1) := by decide +kernel
theorem dX12_chordOf_2 : decode cX12_chordOf 2 = .ok (.iload_n 2, 1) := by decide +kernel
theorem dX12_chordOf_3 : decode cX12_chordOf 3 = .ok (.aload_n 0, 1) := by decide +kernel
theorem dX12_chordOf_4 : decode cX12_chordOf 4 = .ok (.getfield 40, 3) := by decide +kernel
theorem dX12_chordOf_7 : decode cX12_chordOf 7 = .ok (.bipush 10, 2) := by decide +kernel
theorem dX12_chordOf_9 : decode cX12_chordOf 9 = .ok (.iaload, 1) := by decide +kernel
theorem dX12_chordOf_10 : decode cX12_chordOf 10 = .ok (.if_icmp .ge 45, 3) := by decide +kernel
theorem dX12_chordOf_13 : decode cX12_chordOf 13 = .ok (.aload_n 0, 1) := by decide +kernel
theorem dX12_chordOf_14 : decode cX12_chordOf 14 = .ok (.getfield 40, 3) := by decide +kernel
theorem dX12_chordOf_17 : decode cX12_chordOf 17 = .ok (.sipush 300, 3) := by decide +kernel
theorem dX12_chordOf_20 : decode cX12_chordOf 20 = .ok (.iconst 4, 1) := by decide +kernel
theorem dX12_chordOf_21 : decode cX12_chordOf 21 = .ok (.iload_n 2, 1) := by decide +kernel
theorem dX12_chordOf_22 : decode cX12_chordOf 22 = .ok (.imul, 1) := by decide +kernel
theorem dX12_chordOf_23 : decode cX12_chordOf 23 = .ok (.iadd, 1) := by decide +kernel
theorem dX12_chordOf_24 : decode cX12_chordOf 24 = .ok (.iaload, 1) := by decide +kernel
theorem dX12_chordOf_25 : decode cX12_chordOf 25 = .ok (.iload_n 1, 1) := by decide +kernel
theorem dX12_chordOf_26 : decode cX12_chordOf 26 = .ok (.if_icmp .eq 21, 3) := by decide +kernel
theorem dX12_chordOf_29 : decode cX12_chordOf 29 = .ok (.aload_n 0, 1) := by decide +kernel
theorem dX12_chordOf_30 : decode cX12_chordOf 30 = .ok (.getfield 40, 3) := by decide +kernel
theorem dX12_chordOf_33 : decode cX12_chordOf 33 = .ok (.sipush 300, 3) := by decide +kernel
theorem dX12_chordOf_36 : decode cX12_chordOf 36 = .ok (.iconst 4, 1) := by decide +kernel
theorem dX12_chordOf_37 : decode cX12_chordOf 37 = .ok (.iload_n 2, 1) := by decide +kernel
theorem dX12_chordOf_38 : decode cX12_chordOf 38 = .ok (.imul, 1) := by decide +kernel
theorem dX12_chordOf_39 : decode cX12_chordOf 39 = .ok (.iadd, 1) := by decide +kernel
theorem dX12_chordOf_40 : decode cX12_chordOf 40 = .ok (.iconst 1, 1) := by decide +kernel
theorem dX12_chordOf_41 : decode cX12_chordOf 41 = .ok (.iadd, 1) := by decide +kernel
theorem dX12_chordOf_42 : decode cX12_chordOf 42 = .ok (.iaload, 1) := by decide +kernel
theorem dX12_chordOf_43 : decode cX12_chordOf 43 = .ok (.iload_n 1, 1) := by decide +kernel
theorem dX12_chordOf_44 : decode cX12_chordOf 44 = .ok (.if_icmp .ne 5, 3) := by decide +kernel
theorem dX12_chordOf_47 : decode cX12_chordOf 47 = .ok (.iload_n 2, 1) := by decide +kernel
theorem dX12_chordOf_48 : decode cX12_chordOf 48 = .ok (.ireturn, 1) := by decide +kernel
theorem dX12_chordOf_49 : decode cX12_chordOf 49 = .ok (.iinc 2 1, 3) := by decide +kernel
theorem dX12_chordOf_52 : decode cX12_chordOf 52 = .ok (.goto (-50), 3) := by decide +kernel
theorem dX12_chordOf_55 : decode cX12_chordOf 55 = .ok (.iconst (-1), 1) := by decide +kernel
theorem dX12_chordOf_56 : decode cX12_chordOf 56 = .ok (.ireturn, 1) := by decide +kernel
def rmX12_chordOf : Room := { frames := 0, cells := 0, slots := 0, locals := 0 }
set_option maxRecDepth 100000 in
def fX12_chordOf_J47 (N : Nat) (g : Gs) (x0 : Nat) (x1 : Int32) (y2 : Int32) (d : Ds) : Option (Int32 × Ds) := some (y2, d)
set_option maxHeartbeats 4000000 in
set_option maxRecDepth 100000 in
theorem tX12_chordOf_47 {p : Program} {l : Launch} {e : Env} {s : State} {m : MethodId} {args : Array Value} {below : List Frame} {meth : Method} {c : Code} {D : va_G} {cy : Nat → ClassId} {B : Bs} (C : Cx p s m args c cX12_chordOf 3 RX12 D cy B) (hr : meth.sig.returnType = (some .int)) (hlocks : meth.locks = false) {N : Nat} {g : Gs} {x0 : Nat} {x1 : Int32} {vz : Int32} {dz : Ds} {y2 : Int32} {d : Ds} (hf : fX12_chordOf_J47 N g x0 x1 y2 d = some (vz, dz)) : WB p l e rmX12_chordOf s m args below meth c 3 D cy B 0 0 (MQ below (QI D cy B vz g dz) args s 0 0 (wA B)) g d [(0, .ref (ad B x0)), (1, .int x1), (2, .int y2)] 47 [] := by
  unfold fX12_chordOf_J47 at hf
  refine b_iload_n C dX12_chordOf_47 2 rfl rfl ?_
  exact b_iret C hr hlocks hf dX12_chordOf_48
set_option maxRecDepth 100000 in
def fX12_chordOf_B2 (N : Nat) (g : Gs) (x0 : Nat) (x1 : Int32) (K2 : Int32 × Ds → Option (Int32 × Ds)) (y2 : Int32) (d : Ds) : Option (Int32 × Ds) := gd (chk g x0 11) <| ob (gR g x0 17) fun r2 => (gd (chk g r2 102) <| gd (¬ ((10 : Int32) < 0 ∨ gL g r2 ≤ (10 : Int32).toNatClampNeg)) <| if (dI d r2 (10 : Int32).toNatClampNeg) ≤ y2 then (some ((-1), d)) else (gd (¬ (((300 : Int32) + ((4 : Int32) * y2)) < 0 ∨ gL g r2 ≤ ((300 : Int32) + ((4 : Int32) * y2)).toNatClampNeg)) <| if (dI d r2 ((300 : Int32) + ((4 : Int32) * y2)).toNatClampNeg) = x1 then (fX12_chordOf_J47 N g x0 x1 y2 d) else (gd (¬ ((((300 : Int32) + ((4 : Int32) * y2)) + 1) < 0 ∨ gL g r2 ≤ (((300 : Int32) + ((4 : Int32) * y2)) + 1).toNatClampNeg)) <| if (dI d r2 (((300 : Int32) + ((4 : Int32) * y2)) + 1).toNatClampNeg) = x1 then (fX12_chordOf_J47 N g x0 x1 y2 d) else (bd (y2 + 1) fun u10 => (K2 (u10, d))))))
set_option maxHeartbeats 4000000 in
set_option maxRecDepth 100000 in
theorem tX12_chordOf_2 {p : Program} {l : Launch} {e : Env} {s : State} {m : MethodId} {args : Array Value} {below : List Frame} {meth : Method} {c : Code} {D : va_G} {cy : Nat → ClassId} {B : Bs} (C : Cx p s m args c cX12_chordOf 3 RX12 D cy B) (hr : meth.sig.returnType = (some .int)) (hlocks : meth.locks = false) {N : Nat} {g : Gs} {x0 : Nat} {x1 : Int32} {vz : Int32} {dz : Ds} {K2 : Int32 × Ds → Option (Int32 × Ds)} (hK2 : ∀ a, K2 a = some (vz, dz) → WB p l e rmX12_chordOf s m args below meth c 3 D cy B 0 0 (MQ below (QI D cy B vz g dz) args s 0 0 (wA B)) g a.2 [(0, .ref (ad B x0)), (1, .int x1), (2, .int a.1)] 2 []) {y2 : Int32} {d : Ds} (hf : fX12_chordOf_B2 N g x0 x1 K2 y2 d = some (vz, dz)) : WB p l e rmX12_chordOf s m args below meth c 3 D cy B 0 0 (MQ below (QI D cy B vz g dz) args s 0 0 (wA B)) g d [(0, .ref (ad B x0)), (1, .int x1), (2, .int y2)] 2 [] := by
  unfold fX12_chordOf_B2 at hf
  refine b_iload_n C dX12_chordOf_2 2 rfl rfl ?_
  refine b_aload_n C dX12_chordOf_3 0 rfl rfl ?_
  obtain ⟨h1, hf⟩ := gd_s hf
  obtain ⟨r2, er2, hf⟩ := ob_s hf
  refine b_gR C dX12_chordOf_4 fl_X12_40 h1 er2 ?_
  refine b_bipush C (v := 10) dX12_chordOf_7 (by decide) ?_
  obtain ⟨h3, hf⟩ := gd_s hf
  obtain ⟨h4, hf⟩ := gd_s hf
  refine b_iald C h3 h4 dX12_chordOf_9 ?_
  refine b_icmp_ge C (tgt := 55) dX12_chordOf_10 (by decide) (fun c5 => ?_) (fun c5 => ?_)
  · have hf := it_s c5 hf
    refine b_iconst C (v := (-1)) dX12_chordOf_55 (by decide) ?_
    exact b_iret C hr hlocks hf dX12_chordOf_56
  · have hf := if_s c5 hf
    refine b_aload_n C dX12_chordOf_13 0 rfl rfl ?_
    refine b_gR C dX12_chordOf_14 fl_X12_40 h1 er2 ?_
    refine b_sipush C (v := 300) dX12_chordOf_17 (by decide) ?_
    refine b_iconst C (v := 4) dX12_chordOf_20 (by decide) ?_
    refine b_iload_n C dX12_chordOf_21 2 rfl rfl ?_
    refine b_imul C dX12_chordOf_22 ?_
    refine b_iadd C dX12_chordOf_23 ?_
    obtain ⟨h6, hf⟩ := gd_s hf
    refine b_iald C h3 h6 dX12_chordOf_24 ?_
    refine b_iload_n C dX12_chordOf_25 1 rfl rfl ?_
    refine b_icmp_eq C (tgt := 47) dX12_chordOf_26 (by decide) (fun c7 => ?_) (fun c7 => ?_)
    · have hf := it_s c7 hf
      refine b_sub [(0, .ref (ad B x0)), (1, .int x1), (2, .int y2)] [0, 1, 2] rfl ?_
      exact tX12_chordOf_47 C hr hlocks hf
    · have hf := if_s c7 hf
      refine b_aload_n C dX12_chordOf_29 0 rfl rfl ?_
      refine b_gR C dX12_chordOf_30 fl_X12_40 h1 er2 ?_
      refine b_sipush C (v := 300) dX12_chordOf_33 (by decide) ?_
      refine b_iconst C (v := 4) dX12_chordOf_36 (by decide) ?_
      refine b_iload_n C dX12_chordOf_37 2 rfl rfl ?_
      refine b_imul C dX12_chordOf_38 ?_
      refine b_iadd C dX12_chordOf_39 ?_
      refine b_iconst C (v := 1) dX12_chordOf_40 (by decide) ?_
      refine b_iadd C dX12_chordOf_41 ?_
      obtain ⟨h8, hf⟩ := gd_s hf
      refine b_iald C h3 h8 dX12_chordOf_42 ?_
      refine b_iload_n C dX12_chordOf_43 1 rfl rfl ?_
      refine b_icmp_ne C (tgt := 49) dX12_chordOf_44 (by decide) (fun c9 => ?_) (fun c9 => ?_)
      · have hf := if_s c9 hf
        obtain ⟨u10, eu10, hf⟩ := bd_s hf
        refine b_iinc C dX12_chordOf_49 2 rfl (by rw [eu10]; rfl) [(2, .int u10), (0, .ref (ad B x0)), (1, .int x1)] (by decide) rfl ?_
        refine b_goto C (tgt := 2) dX12_chordOf_52 (by decide) ?_
        refine b_sub [(0, .ref (ad B x0)), (1, .int x1), (2, .int u10)] [1, 2, 0] rfl ?_
        exact hK2 (u10, d) hf
      · have hf := it_s c9 hf
        refine b_sub [(0, .ref (ad B x0)), (1, .int x1), (2, .int y2)] [0, 1, 2] rfl ?_
        exact tX12_chordOf_47 C hr hlocks hf
def fX12_chordOf_L2 (N : Nat) (g : Gs) (x0 : Nat) (x1 : Int32) : Int32 × Ds → Option (Int32 × Ds) := lp (fun K2 a => fX12_chordOf_B2 N g x0 x1 K2 a.1 a.2) N
theorem tX12_chordOf_L2 {p : Program} {l : Launch} {e : Env} {s : State} {m : MethodId} {args : Array Value} {below : List Frame} {meth : Method} {c : Code} {D : va_G} {cy : Nat → ClassId} {B : Bs} (C : Cx p s m args c cX12_chordOf 3 RX12 D cy B) (hr : meth.sig.returnType = (some .int)) (hlocks : meth.locks = false) {N : Nat} {g : Gs} {x0 : Nat} {x1 : Int32} {vz : Int32} {dz : Ds} (a : Int32 × Ds) (hf : fX12_chordOf_L2 N g x0 x1 a = some (vz, dz)) : WB p l e rmX12_chordOf s m args below meth c 3 D cy B 0 0 (MQ below (QI D cy B vz g dz) args s 0 0 (wA B)) g a.2 [(0, .ref (ad B x0)), (1, .int x1), (2, .int a.1)] 2 [] :=
  lp_w (fun K2 hK2 a ha => tX12_chordOf_2 C hr hlocks hK2 ha) N a hf
set_option maxRecDepth 100000 in
def fX12_chordOf (N : Nat) (g : Gs) (x0 : Nat) (x1 : Int32) (d : Ds) : Option (Int32 × Ds) := fX12_chordOf_L2 N g x0 x1 (0, d)
set_option maxHeartbeats 4000000 in
set_option maxRecDepth 100000 in
theorem tX12_chordOf_E {p : Program} {l : Launch} {e : Env} {s : State} {m : MethodId} {args : Array Value} {below : List Frame} {meth : Method} {c : Code} {D : va_G} {cy : Nat → ClassId} {B : Bs} (C : Cx p s m args c cX12_chordOf 3 RX12 D cy B) (hr : meth.sig.returnType = (some .int)) (hlocks : meth.locks = false) {N : Nat} {g : Gs} {x0 : Nat} {x1 : Int32} {vz : Int32} {dz : Ds} {d : Ds} (hf : fX12_chordOf N g x0 x1 d = some (vz, dz)) : WB p l e rmX12_chordOf s m args below meth c 3 D cy B 0 0 (MQ below (QI D cy B vz g dz) args s 0 0 (wA B)) g d [(0, .ref (ad B x0)), (1, .int x1)] 0 [] := by
  unfold fX12_chordOf at hf
  refine b_iconst C (v := 0) dX12_chordOf_0 (by decide) ?_
  refine b_istore_n C dX12_chordOf_1 rfl [(2, .int 0), (0, .ref (ad B x0)), (1, .int x1)] (by decide) rfl ?_
  refine b_sub [(0, .ref (ad B x0)), (1, .int x1), (2, .int 0)] [1, 2, 0] rfl ?_
  exact tX12_chordOf_L2 C hr hlocks (0, d) hf
theorem kX12_chordOf (l : Launch) (D : va_G) (cy : Nat → ClassId) (B : Bs) {N : Nat} {g : Gs} {x0 : Nat} {x1 : Int32} {vz : Int32} {dz : Ds} {d : Ds} (hf : fX12_chordOf N g x0 x1 d = some (vz, dz)) : Met l yX12_chordOf (.code yX12_chordOf cX12_chordOf 3 (some .int) :: wl) rmX12_chordOf (PC D cy B [.ref (ad B x0), .int x1] g d) (QI D cy B vz g dz) 0 0 (wA B) :=
  met_of (by decide +kernel) (Nat.le_of_ble_eq_true rfl) (fun p e s m args below meth c C hr hlocks _ => b_sub [(0, .ref (ad B x0)), (1, .int x1)] [0, 1] rfl (tX12_chordOf_E C hr hlocks hf))
/-! KeyMatrixModel.stops(I)V -/
theorem dX12_stops_0 : decode cX12_stops 0 = .ok (.aload_n 0, 1) := by decide +kernel
theorem dX12_stops_1 : decode cX12_stops 1 = .ok (.getfield 40, 3) := by decide +kernel
theorem dX12_stops_4 : decode cX12_stops 4 = .ok (.sipush 379, 3) := by decide +kernel
theorem dX12_stops_7 : decode cX12_stops 7 = .ok (.iconst 3, 1) := by decide +kernel
theorem dX12_stops_8 : decode cX12_stops 8 = .ok (.iload_n 1, 1) := by decide +kernel
theorem dX12_stops_9 : decode cX12_stops 9 = .ok (.imul, 1) := by decide +kernel
theorem dX12_stops_10 : decode cX12_stops 10 = .ok (.iadd, 1) := by decide +kernel
theorem dX12_stops_11 : decode cX12_stops 11 = .ok (.iconst (-1), 1) := by decide +kernel
theorem dX12_stops_12 : decode cX12_stops 12 = .ok (.iastore, 1) := by decide +kernel
theorem dX12_stops_13 : decode cX12_stops 13 = .ok (.aload_n 0, 1) := by decide +kernel
theorem dX12_stops_14 : decode cX12_stops 14 = .ok (.getfield 40, 3) := by decide +kernel
theorem dX12_stops_17 : decode cX12_stops 17 = .ok (.sipush 379, 3) := by decide +kernel
theorem dX12_stops_20 : decode cX12_stops 20 = .ok (.iconst 3, 1) := by decide +kernel
theorem dX12_stops_21 : decode cX12_stops 21 = .ok (.iload_n 1, 1) := by decide +kernel
theorem dX12_stops_22 : decode cX12_stops 22 = .ok (.imul, 1) := by decide +kernel
theorem dX12_stops_23 : decode cX12_stops 23 = .ok (.iadd, 1) := by decide +kernel
theorem dX12_stops_24 : decode cX12_stops 24 = .ok (.iconst 1, 1) := by decide +kernel
theorem dX12_stops_25 : decode cX12_stops 25 = .ok (.iadd, 1) := by decide +kernel
theorem dX12_stops_26 : decode cX12_stops 26 = .ok (.iconst (-1), 1) := by decide +kernel
theorem dX12_stops_27 : decode cX12_stops 27 = .ok (.iastore, 1) := by decide +kernel
theorem dX12_stops_28 : decode cX12_stops 28 = .ok (.return_, 1) := by decide +kernel
def rmX12_stops : Room := { frames := 0, cells := 0, slots := 0, locals := 0 }
set_option maxRecDepth 100000 in
def fX12_stops (N : Nat) (g : Gs) (x0 : Nat) (x1 : Int32) (d : Ds) : Option (Unit × Ds) := gd (chk g x0 11) <| ob (gR g x0 17) fun r2 => (gd (chk g r2 102) <| gd (¬ (((379 : Int32) + ((3 : Int32) * x1)) < 0 ∨ gL g r2 ≤ ((379 : Int32) + ((3 : Int32) * x1)).toNatClampNeg)) <| bd (sI d r2 ((379 : Int32) + ((3 : Int32) * x1)).toNatClampNeg (-1)) fun d5 => (gd (¬ ((((379 : Int32) + ((3 : Int32) * x1)) + 1) < 0 ∨ gL g r2 ≤ (((379 : Int32) + ((3 : Int32) * x1)) + 1).toNatClampNeg)) <| bd (sI d5 r2 (((379 : Int32) + ((3 : Int32) * x1)) + 1).toNatClampNeg (-1)) fun d7 => (some ((), d7))))
set_option maxHeartbeats 4000000 in
set_option maxRecDepth 100000 in
theorem tX12_stops_E {p : Program} {l : Launch} {e : Env} {s : State} {m : MethodId} {args : Array Value} {below : List Frame} {meth : Method} {c : Code} {D : va_G} {cy : Nat → ClassId} {B : Bs} (C : Cx p s m args c cX12_stops 2 RX12 D cy B) (hr : meth.sig.returnType = none) (hlocks : meth.locks = false) {N : Nat} {g : Gs} {x0 : Nat} {x1 : Int32}  {dz : Ds} {d : Ds} (hf : fX12_stops N g x0 x1 d = some ((), dz)) : WB p l e rmX12_stops s m args below meth c 2 D cy B 0 0 (MQ below (QV D cy B g dz) args s 0 0 (wA B)) g d [(0, .ref (ad B x0)), (1, .int x1)] 0 [] := by
  unfold fX12_stops at hf
  refine b_aload_n C dX12_stops_0 0 rfl rfl ?_
  obtain ⟨h1, hf⟩ := gd_s hf
  obtain ⟨r2, er2, hf⟩ := ob_s hf
  refine b_gR C dX12_stops_1 fl_X12_40 h1 er2 ?_
  refine b_sipush C (v := 379) dX12_stops_4 (by decide) ?_
  refine b_iconst C (v := 3) dX12_stops_7 (by decide) ?_
  refine b_iload_n C dX12_stops_8 1 rfl rfl ?_
  refine b_imul C dX12_stops_9 ?_
  refine b_iadd C dX12_stops_10 ?_
  refine b_iconst C (v := (-1)) dX12_stops_11 (by decide) ?_
  obtain ⟨h3, hf⟩ := gd_s hf
  obtain ⟨h4, hf⟩ := gd_s hf
  obtain ⟨d5, ed5, hf⟩ := bd_s hf
  refine b_iast C h3 h4 ed5 dX12_stops_12 ?_
  refine b_aload_n C dX12_stops_13 0 rfl rfl ?_
  refine b_gR C dX12_stops_14 fl_X12_40 h1 er2 ?_
  refine b_sipush C (v := 379) dX12_stops_17 (by decide) ?_
  refine b_iconst C (v := 3) dX12_stops_20 (by decide) ?_
  refine b_iload_n C dX12_stops_21 1 rfl rfl ?_
  refine b_imul C dX12_stops_22 ?_
  refine b_iadd C dX12_stops_23 ?_
  refine b_iconst C (v := 1) dX12_stops_24 (by decide) ?_
  refine b_iadd C dX12_stops_25 ?_
  refine b_iconst C (v := (-1)) dX12_stops_26 (by decide) ?_
  obtain ⟨h6, hf⟩ := gd_s hf
  obtain ⟨d7, ed7, hf⟩ := bd_s hf
  refine b_iast C h3 h6 ed7 dX12_stops_27 ?_
  exact b_vret C hr hlocks hf dX12_stops_28
theorem kX12_stops (l : Launch) (D : va_G) (cy : Nat → ClassId) (B : Bs) {N : Nat} {g : Gs} {x0 : Nat} {x1 : Int32}  {dz : Ds} {d : Ds} (hf : fX12_stops N g x0 x1 d = some ((), dz)) : Met l yX12_stops (.code yX12_stops cX12_stops 2 none :: wl) rmX12_stops (PC D cy B [.ref (ad B x0), .int x1] g d) (QV D cy B g dz) 0 0 (wA B) :=
  met_of (by decide +kernel) (Nat.le_of_ble_eq_true rfl) (fun p e s m args below meth c C hr hlocks _ => b_sub [(0, .ref (ad B x0)), (1, .int x1)] [0, 1] rfl (tX12_stops_E C hr hlocks hf))
/-! KeyMatrixModel.ends(I)V -/
theorem yo_X12_chordOf : yX12_chordOf.cls ≠ "java/lang/invoke/MethodHandle" ∧ yX12_chordOf.cls ≠ "java/lang/invoke/VarHandle" ∧ (parseMethodDescriptor yX12_chordOf.desc).map (fun d => d.parameters.length) = some 1 := by decide +kernel
theorem co_X12_chordOf : Cond.code yX12_chordOf cX12_chordOf 3 (some .int) ∈ wl := mW (mT6 (List.mem_of_getElem? (i := 147) (by decide +kernel))) rfl
theorem in_X12_chordOf : Cond.initialized yX12_chordOf.cls ∈ wl := mW (mT1 (List.mem_of_getElem? (i := 12) (by decide +kernel))) rfl
theorem im_X12_chordOf : Cond.instanceMethod yX12_chordOf ∈ wl := mW (mT6 (List.mem_of_getElem? (i := 146) (by decide +kernel))) rfl
theorem se_X12_chordOf : Cond.selects yX12_chordOf.cls yX12_chordOf yX12_chordOf ∈ wl := mW (mT0 (List.mem_of_getElem? (i := 68) (by decide +kernel))) rfl
theorem lv_X12_262 : LV RX12 262 yX12_chordOf cX12_chordOf 3 (some .int) 1 11 := ⟨⟨(RX12, TX12, 33), rfl, rfl⟩, yo_X12_chordOf, mW (mT6 (List.mem_of_getElem? (i := 144) (by decide +kernel))) rfl, im_X12_chordOf, se_X12_chordOf, in_X12_chordOf, co_X12_chordOf⟩
theorem yo_X12_stops : yX12_stops.cls ≠ "java/lang/invoke/MethodHandle" ∧ yX12_stops.cls ≠ "java/lang/invoke/VarHandle" ∧ (parseMethodDescriptor yX12_stops.desc).map (fun d => d.parameters.length) = some 1 := by decide +kernel
theorem co_X12_stops : Cond.code yX12_stops cX12_stops 2 none ∈ wl := mW (mT6 (List.mem_of_getElem? (i := 151) (by decide +kernel))) rfl
theorem in_X12_stops : Cond.initialized yX12_stops.cls ∈ wl := mW (mT1 (List.mem_of_getElem? (i := 12) (by decide +kernel))) rfl
theorem im_X12_stops : Cond.instanceMethod yX12_stops ∈ wl := mW (mT6 (List.mem_of_getElem? (i := 150) (by decide +kernel))) rfl
theorem se_X12_stops : Cond.selects yX12_stops.cls yX12_stops yX12_stops ∈ wl := mW (mT0 (List.mem_of_getElem? (i := 69) (by decide +kernel))) rfl
theorem lv_X12_293 : LV RX12 293 yX12_stops cX12_stops 2 none 1 11 := ⟨⟨(RX12, TX12, 33), rfl, rfl⟩, yo_X12_stops, mW (mT6 (List.mem_of_getElem? (i := 148) (by decide +kernel))) rfl, im_X12_stops, se_X12_stops, in_X12_stops, co_X12_stops⟩
theorem dX12_ends_0 : decode cX12_ends 0 = .ok (.aload_n 0, 1) := by decide +kernel
theorem dX12_ends_1 : decode cX12_ends 1 = .ok (.iload_n 1, 1) := by decide +kernel
theorem dX12_ends_2 : decode cX12_ends 2 = .ok (.invokevirtual 262, 3) := by decide +kernel
theorem dX12_ends_5 : decode cX12_ends 5 = .ok (.istore_n 2, 1) := by decide +kernel
theorem dX12_ends_6 : decode cX12_ends 6 = .ok (.iload_n 2, 1) := by decide +kernel
theorem dX12_ends_7 : decode cX12_ends 7 = .ok (.ifCond .lt 66, 3) := by decide +kernel
theorem dX12_ends_10 : decode cX12_ends 10 = .ok (.aload_n 0, 1) := by decide +kernel
theorem dX12_ends_11 : decode cX12_ends 11 = .ok (.getfield 40, 3) := by decide +kernel
theorem dX12_ends_14 : decode cX12_ends 14 = .ok (.sipush 453, 3) := by decide +kernel
theorem dX12_ends_17 : decode cX12_ends 17 = .ok (.iaload, 1) := by decide +kernel
theorem dX12_ends_18 : decode cX12_ends 18 = .ok (.iload_n 2, 1) := by decide +kernel
theorem dX12_ends_19 : decode cX12_ends 19 = .ok (.invokestatic 210, 3) := by decide +kernel
theorem dX12_ends_22 : decode cX12_ends 22 = .ok (.ifCond .eq 51, 3) := by decide +kernel
theorem dX12_ends_25 : decode cX12_ends 25 = .ok (.aload_n 0, 1) := by decide +kernel
theorem dX12_ends_26 : decode cX12_ends 26 = .ok (.getfield 40, 3) := by decide +kernel
theorem dX12_ends_29 : decode cX12_ends 29 = .ok (.sipush 453, 3) := by decide +kernel
theorem dX12_ends_32 : decode cX12_ends 32 = .ok (.dup2, 1) := by decide +kernel
theorem dX12_ends_33 : decode cX12_ends 33 = .ok (.iaload, 1) := by decide +kernel
theorem dX12_ends_34 : decode cX12_ends 34 = .ok (.iconst 1, 1) := by decide +kernel
theorem dX12_ends_35 : decode cX12_ends 35 = .ok (.iload_n 2, 1) := by decide +kernel
theorem dX12_ends_36 : decode cX12_ends 36 = .ok (.ishl, 1) := by decide +kernel
theorem dX12_ends_37 : decode cX12_ends 37 = .ok (.ixor, 1) := by decide +kernel
theorem dX12_ends_38 : decode cX12_ends 38 = .ok (.iastore, 1) := by decide +kernel
theorem dX12_ends_39 : decode cX12_ends 39 = .ok (.aload_n 0, 1) := by decide +kernel
theorem dX12_ends_40 : decode cX12_ends 40 = .ok (.aload_n 0, 1) := by decide +kernel
theorem dX12_ends_41 : decode cX12_ends 41 = .ok (.getfield 40, 3) := by decide +kernel
theorem dX12_ends_44 : decode cX12_ends 44 = .ok (.sipush 300, 3) := by decide +kernel
theorem dX12_ends_47 : decode cX12_ends 47 = .ok (.iconst 4, 1) := by decide +kernel
theorem dX12_ends_48 : decode cX12_ends 48 = .ok (.iload_n 2, 1) := by decide +kernel
theorem dX12_ends_49 : decode cX12_ends 49 = .ok (.imul, 1) := by decide +kernel
theorem dX12_ends_50 : decode cX12_ends 50 = .ok (.iadd, 1) := by decide +kernel
theorem dX12_ends_51 : decode cX12_ends 51 = .ok (.iaload, 1) := by decide +kernel
theorem dX12_ends_52 : decode cX12_ends 52 = .ok (.invokevirtual 293, 3) := by decide +kernel
theorem dX12_ends_55 : decode cX12_ends 55 = .ok (.aload_n 0, 1) := by decide +kernel
theorem dX12_ends_56 : decode cX12_ends 56 = .ok (.aload_n 0, 1) := by decide +kernel
theorem dX12_ends_57 : decode cX12_ends 57 = .ok (.getfield 40, 3) := by decide +kernel
theorem dX12_ends_60 : decode cX12_ends 60 = .ok (.sipush 300, 3) := by decide +kernel
theorem dX12_ends_63 : decode cX12_ends 63 = .ok (.iconst 4, 1) := by decide +kernel
theorem dX12_ends_64 : decode cX12_ends 64 = .ok (.iload_n 2, 1) := by decide +kernel
theorem dX12_ends_65 : decode cX12_ends 65 = .ok (.imul, 1) := by decide +kernel
theorem dX12_ends_66 : decode cX12_ends 66 = .ok (.iadd, 1) := by decide +kernel
theorem dX12_ends_67 : decode cX12_ends 67 = .ok (.iconst 1, 1) := by decide +kernel
theorem dX12_ends_68 : decode cX12_ends 68 = .ok (.iadd, 1) := by decide +kernel
theorem dX12_ends_69 : decode cX12_ends 69 = .ok (.iaload, 1) := by decide +kernel
theorem dX12_ends_70 : decode cX12_ends 70 = .ok (.invokevirtual 293, 3) := by decide +kernel
theorem dX12_ends_73 : decode cX12_ends 73 = .ok (.aload_n 0, 1) := by decide +kernel
theorem dX12_ends_74 : decode cX12_ends 74 = .ok (.iload_n 1, 1) := by decide +kernel
theorem dX12_ends_75 : decode cX12_ends 75 = .ok (.invokevirtual 293, 3) := by decide +kernel
theorem dX12_ends_78 : decode cX12_ends 78 = .ok (.return_, 1) := by decide +kernel
def rmX12_ends : Room := { frames := 1, cells := 0, slots := 0, locals := 22 }
set_option maxRecDepth 100000 in
def fX12_ends_J73 (N : Nat) (g : Gs) (x0 : Nat) (x1 : Int32) (d : Ds) : Option (Unit × Ds) := gd (chk g x0 11) <| cv (fX12_stops N g x0 x1 d) fun d7 => (some ((), d7))
set_option maxHeartbeats 4000000 in
set_option maxRecDepth 100000 in
theorem tX12_ends_73 {p : Program} {l : Launch} {e : Env} {s : State} {m : MethodId} {args : Array Value} {below : List Frame} {meth : Method} {c : Code} {D : va_G} {cy : Nat → ClassId} {B : Bs} (C : Cx p s m args c cX12_ends 3 RX12 D cy B) (hr : meth.sig.returnType = none) (hlocks : meth.locks = false) {N : Nat} {g : Gs} {x0 : Nat} {x1 : Int32}  {dz : Ds} {d : Ds} (hf : fX12_ends_J73 N g x0 x1 d = some ((), dz)) : WB p l e rmX12_ends s m args below meth c 3 D cy B 0 0 (MQ below (QV D cy B g dz) args s 0 0 (wA B)) g d [(0, .ref (ad B x0)), (1, .int x1)] 73 [] := by
  unfold fX12_ends_J73 at hf
  refine b_aload_n C dX12_ends_73 0 rfl rfl ?_
  refine b_iload_n C dX12_ends_74 1 rfl rfl ?_
  obtain ⟨h6, hf⟩ := gd_s hf
  obtain ⟨d7, k8, hf⟩ := cv_s hf
  refine b_cVN C [] dX12_ends_75 (kX12_stops l D cy B k8) lv_X12_293 ⟨rfl, rfl, Nat.le_of_ble_eq_true rfl, Nat.le_of_ble_eq_true rfl⟩ h6 (by decide) rfl (Nat.le_of_ble_eq_true rfl) ⟨Nat.zero_le _, Nat.zero_le _⟩ rfl ?_
  exact b_vret C hr hlocks hf dX12_ends_78
set_option maxRecDepth 100000 in
def fX12_ends (N : Nat) (g : Gs) (x0 : Nat) (x1 : Int32) (d : Ds) : Option (Unit × Ds) := gd (chk g x0 11) <| cb (fX12_chordOf N g x0 x1 d) fun u4 d2 => (if u4 < 0 then (fX12_ends_J73 N g x0 x1 d2) else (ob (gR g x0 17) fun r9 => (gd (chk g r9 102) <| gd (¬ ((453 : Int32) < 0 ∨ gL g r9 ≤ (453 : Int32).toNatClampNeg)) <| cb (fX12_has N g (dI d2 r9 (453 : Int32).toNatClampNeg) u4 d2) fun u14 d12 => (if u14 = 0 then (fX12_ends_J73 N g x0 x1 d12) else (bd (sI d12 r9 (453 : Int32).toNatClampNeg ((dI d12 r9 (453 : Int32).toNatClampNeg) ^^^ ((1 : Int32) <<< (u4 &&& 31)))) fun d16 => (gd (¬ (((300 : Int32) + ((4 : Int32) * u4)) < 0 ∨ gL g r9 ≤ ((300 : Int32) + ((4 : Int32) * u4)).toNatClampNeg)) <| cv (fX12_stops N g x0 (dI d16 r9 ((300 : Int32) + ((4 : Int32) * u4)).toNatClampNeg) d16) fun d18 => (gd (¬ ((((300 : Int32) + ((4 : Int32) * u4)) + 1) < 0 ∨ gL g r9 ≤ (((300 : Int32) + ((4 : Int32) * u4)) + 1).toNatClampNeg)) <| cv (fX12_stops N g x0 (dI d18 r9 (((300 : Int32) + ((4 : Int32) * u4)) + 1).toNatClampNeg) d18) fun d21 => (fX12_ends_J73 N g x0 x1 d21))))))))
set_option maxHeartbeats 4000000 in
set_option maxRecDepth 100000 in
theorem tX12_ends_E {p : Program} {l : Launch} {e : Env} {s : State} {m : MethodId} {args : Array Value} {below : List Frame} {meth : Method} {c : Code} {D : va_G} {cy : Nat → ClassId} {B : Bs} (C : Cx p s m args c cX12_ends 3 RX12 D cy B) (hr : meth.sig.returnType = none) (hlocks : meth.locks = false) {N : Nat} {g : Gs} {x0 : Nat} {x1 : Int32}  {dz : Ds} {d : Ds} (hf : fX12_ends N g x0 x1 d = some ((), dz)) : WB p l e rmX12_ends s m args below meth c 3 D cy B 0 0 (MQ below (QV D cy B g dz) args s 0 0 (wA B)) g d [(0, .ref (ad B x0)), (1, .int x1)] 0 [] := by
  unfold fX12_ends at hf
  refine b_aload_n C dX12_ends_0 0 rfl rfl ?_
  refine b_iload_n C dX12_ends_1 1 rfl rfl ?_
  obtain ⟨h1, hf⟩ := gd_s hf
  obtain ⟨u4, d2, k3, hf⟩ := cb_s hf
  refine b_cVI C [] dX12_ends_2 (kX12_chordOf l D cy B k3) lv_X12_262 ⟨rfl, rfl, Nat.le_of_ble_eq_true rfl, Nat.le_of_ble_eq_true rfl⟩ h1 (by decide) rfl (Nat.le_of_ble_eq_true rfl) ⟨Nat.zero_le _, Nat.zero_le _⟩ rfl ?_
  refine b_istore_n C dX12_ends_5 rfl [(2, .int u4), (0, .ref (ad B x0)), (1, .int x1)] (by decide) rfl ?_
  refine b_iload_n C dX12_ends_6 0 rfl rfl ?_
  refine b_if_lt C (tgt := 73) dX12_ends_7 (by decide) (fun c5 => ?_) (fun c5 => ?_)
  · have hf := it_s c5 hf
    refine b_sub [(0, .ref (ad B x0)), (1, .int x1)] [1, 2] rfl ?_
    exact tX12_ends_73 C hr hlocks hf
  · have hf := if_s c5 hf
    refine b_aload_n C dX12_ends_10 1 rfl rfl ?_
    obtain ⟨r9, er9, hf⟩ := ob_s hf
    refine b_gR C dX12_ends_11 fl_X12_40 h1 er9 ?_
    refine b_sipush C (v := 453) dX12_ends_14 (by decide) ?_
    obtain ⟨h10, hf⟩ := gd_s hf
    obtain ⟨h11, hf⟩ := gd_s hf
    refine b_iald C h10 h11 dX12_ends_17 ?_
    refine b_iload_n C dX12_ends_18 0 rfl rfl ?_
    obtain ⟨u14, d12, k13, hf⟩ := cb_s hf
    refine b_cSI C [] dX12_ends_19 (kX12_has l D cy B k13) lv_X12_210 ⟨rfl, rfl, Nat.le_of_ble_eq_true rfl, Nat.le_of_ble_eq_true rfl⟩ rfl (Nat.le_of_ble_eq_true rfl) ⟨Nat.zero_le _, Nat.zero_le _⟩ rfl ?_
    refine b_if_eq C (tgt := 73) dX12_ends_22 (by decide) (fun c15 => ?_) (fun c15 => ?_)
    · have hf := it_s c15 hf
      refine b_sub [(0, .ref (ad B x0)), (1, .int x1)] [1, 2] rfl ?_
      exact tX12_ends_73 C hr hlocks hf
    · have hf := if_s c15 hf
      refine b_aload_n C dX12_ends_25 1 rfl rfl ?_
      refine b_gR C dX12_ends_26 fl_X12_40 h1 er9 ?_
      refine b_sipush C (v := 453) dX12_ends_29 (by decide) ?_
      refine b_dup2 C dX12_ends_32 rfl rfl ?_
      refine b_iald C h10 h11 dX12_ends_33 ?_
      refine b_iconst C (v := 1) dX12_ends_34 (by decide) ?_
      refine b_iload_n C dX12_ends_35 0 rfl rfl ?_
      refine b_ishl C dX12_ends_36 ?_
      refine b_ixor C dX12_ends_37 ?_
      obtain ⟨d16, ed16, hf⟩ := bd_s hf
      refine b_iast C h10 h11 ed16 dX12_ends_38 ?_
      refine b_aload_n C dX12_ends_39 1 rfl rfl ?_
      refine b_aload_n C dX12_ends_40 1 rfl rfl ?_
      refine b_gR C dX12_ends_41 fl_X12_40 h1 er9 ?_
      refine b_sipush C (v := 300) dX12_ends_44 (by decide) ?_
      refine b_iconst C (v := 4) dX12_ends_47 (by decide) ?_
      refine b_iload_n C dX12_ends_48 0 rfl rfl ?_
      refine b_imul C dX12_ends_49 ?_
      refine b_iadd C dX12_ends_50 ?_
      obtain ⟨h17, hf⟩ := gd_s hf
      refine b_iald C h10 h17 dX12_ends_51 ?_
      obtain ⟨d18, k19, hf⟩ := cv_s hf
      refine b_cVN C [] dX12_ends_52 (kX12_stops l D cy B k19) lv_X12_293 ⟨rfl, rfl, Nat.le_of_ble_eq_true rfl, Nat.le_of_ble_eq_true rfl⟩ h1 (by decide) rfl (Nat.le_of_ble_eq_true rfl) ⟨Nat.zero_le _, Nat.zero_le _⟩ rfl ?_
      refine b_aload_n C dX12_ends_55 1 rfl rfl ?_
      refine b_aload_n C dX12_ends_56 1 rfl rfl ?_
      refine b_gR C dX12_ends_57 fl_X12_40 h1 er9 ?_
      refine b_sipush C (v := 300) dX12_ends_60 (by decide) ?_
      refine b_iconst C (v := 4) dX12_ends_63 (by decide) ?_
      refine b_iload_n C dX12_ends_64 0 rfl rfl ?_
      refine b_imul C dX12_ends_65 ?_
      refine b_iadd C dX12_ends_66 ?_
      refine b_iconst C (v := 1) dX12_ends_67 (by decide) ?_
      refine b_iadd C dX12_ends_68 ?_
      obtain ⟨h20, hf⟩ := gd_s hf
      refine b_iald C h10 h20 dX12_ends_69 ?_
      obtain ⟨d21, k22, hf⟩ := cv_s hf
      refine b_cVN C [] dX12_ends_70 (kX12_stops l D cy B k22) lv_X12_293 ⟨rfl, rfl, Nat.le_of_ble_eq_true rfl, Nat.le_of_ble_eq_true rfl⟩ h1 (by decide) rfl (Nat.le_of_ble_eq_true rfl) ⟨Nat.zero_le _, Nat.zero_le _⟩ rfl ?_
      refine b_sub [(0, .ref (ad B x0)), (1, .int x1)] [1, 2] rfl ?_
      exact tX12_ends_73 C hr hlocks hf
theorem kX12_ends (l : Launch) (D : va_G) (cy : Nat → ClassId) (B : Bs) {N : Nat} {g : Gs} {x0 : Nat} {x1 : Int32}  {dz : Ds} {d : Ds} (hf : fX12_ends N g x0 x1 d = some ((), dz)) : Met l yX12_ends (.code yX12_ends cX12_ends 3 none :: wl) rmX12_ends (PC D cy B [.ref (ad B x0), .int x1] g d) (QV D cy B g dz) 0 0 (wA B) :=
  met_of (by decide +kernel) (Nat.le_of_ble_eq_true rfl) (fun p e s m args below meth c C hr hlocks _ => b_sub [(0, .ref (ad B x0)), (1, .int x1)] [0, 1] rfl (tX12_ends_E C hr hlocks hf))
/-! KeyMatrixModel.nextBegun(I)I -/
theorem dX12_nextBegun_0 : decode cX12_nextBegun 0 = .ok (.iconst (-1), 1) := by decide +kernel
theorem dX12_nextBegun_1 : decode cX12_nextBegun 1 = .ok (.istore_n 2, 1) := by decide +kernel
theorem dX12_nextBegun_2 : decode cX12_nextBegun 2 = .ok (.iconst 0, 1) := by decide +kernel
theorem dX12_nextBegun_3 : decode cX12_nextBegun 3 = .ok (.istore_n 3, 1) := by decide +kernel
theorem dX12_nextBegun_4 : decode cX12_nextBegun 4 = .ok (.iload_n 3, 1) := by decide +kernel
theorem dX12_nextBegun_5 : decode cX12_nextBegun 5 = .ok (.bipush 24, 2) := by decide +kernel
theorem dX12_nextBegun_7 : decode cX12_nextBegun 7 = .ok (.if_icmp .ge 82, 3) := by decide +kernel
theorem dX12_nextBegun_10 : decode cX12_nextBegun 10 = .ok (.aload_n 0, 1) := by decide +kernel
theorem dX12_nextBegun_11 : decode cX12_nextBegun 11 = .ok (.getfield 40, 3) := by decide +kernel
theorem dX12_nextBegun_14 : decode cX12_nextBegun 14 = .ok (.sipush 379, 3) := by decide +kernel
theorem dX12_nextBegun_17 : decode cX12_nextBegun 17 = .ok (.iconst 3, 1) := by decide +kernel
theorem dX12_nextBegun_18 : decode cX12_nextBegun 18 = .ok (.iload_n 3, 1) := by decide +kernel
theorem dX12_nextBegun_19 : decode cX12_nextBegun 19 = .ok (.imul, 1) := by decide +kernel
theorem dX12_nextBegun_20 : decode cX12_nextBegun 20 = .ok (.iadd, 1) := by decide +kernel
theorem dX12_nextBegun_21 : decode cX12_nextBegun 21 = .ok (.iaload, 1) := by decide +kernel
theorem dX12_nextBegun_22 : decode cX12_nextBegun 22 = .ok (.ifCond .lt 61, 3) := by decide +kernel
theorem dX12_nextBegun_25 : decode cX12_nextBegun 25 = .ok (.aload_n 0, 1) := by decide +kernel
theorem dX12_nextBegun_26 : decode cX12_nextBegun 26 = .ok (.getfield 40, 3) := by decide +kernel
theorem dX12_nextBegun_29 : decode cX12_nextBegun 29 = .ok (.sipush 379, 3) := by decide +kernel
theorem dX12_nextBegun_32 : decode cX12_nextBegun 32 = .ok (.iconst 3, 1) := by decide +kernel
theorem dX12_nextBegun_33 : decode cX12_nextBegun 33 = .ok (.iload_n 3, 1) := by decide +kernel
theorem dX12_nextBegun_34 : decode cX12_nextBegun 34 = .ok (.imul, 1) := by decide +kernel
theorem dX12_nextBegun_35 : decode cX12_nextBegun 35 = .ok (.iadd, 1) := by decide +kernel
theorem dX12_nextBegun_36 : decode cX12_nextBegun 36 = .ok (.iconst 2, 1) := by decide +kernel
theorem dX12_nextBegun_37 : decode cX12_nextBegun 37 = .ok (.iadd, 1) := by decide +kernel
theorem dX12_nextBegun_38 : decode cX12_nextBegun 38 = .ok (.iaload, 1) := by decide +kernel
theorem dX12_nextBegun_39 : decode cX12_nextBegun 39 = .ok (.iload_n 1, 1) := by decide +kernel
theorem dX12_nextBegun_40 : decode cX12_nextBegun 40 = .ok (.if_icmp .gt 6, 3) := by decide +kernel
theorem dX12_nextBegun_43 : decode cX12_nextBegun 43 = .ok (.goto 40, 3) := by decide +kernel
theorem dX12_nextBegun_46 : decode cX12_nextBegun 46 = .ok (.iload_n 2, 1) := by decide +kernel
theorem dX12_nextBegun_47 : decode cX12_nextBegun 47 = .ok (.ifCond .lt 34, 3) := by decide +kernel
theorem dX12_nextBegun_50 : decode cX12_nextBegun 50 = .ok (.aload_n 0, 1) := by decide +kernel
theorem dX12_nextBegun_51 : decode cX12_nextBegun 51 = .ok (.getfield 40, 3) := by decide +kernel
theorem dX12_nextBegun_54 : decode cX12_nextBegun 54 = .ok (.sipush 379, 3) := by decide +kernel
theorem dX12_nextBegun_57 : decode cX12_nextBegun 57 = .ok (.iconst 3, 1) := by decide +kernel
theorem dX12_nextBegun_58 : decode cX12_nextBegun 58 = .ok (.iload_n 3, 1) := by decide +kernel
theorem dX12_nextBegun_59 : decode cX12_nextBegun 59 = .ok (.imul, 1) := by decide +kernel
theorem dX12_nextBegun_60 : decode cX12_nextBegun 60 = .ok (.iadd, 1) := by decide +kernel
theorem dX12_nextBegun_61 : decode cX12_nextBegun 61 = .ok (.iconst 2, 1) := by decide +kernel
theorem dX12_nextBegun_62 : decode cX12_nextBegun 62 = .ok (.iadd, 1) := by decide +kernel
theorem dX12_nextBegun_63 : decode cX12_nextBegun 63 = .ok (.iaload, 1) := by decide +kernel
theorem dX12_nextBegun_64 : decode cX12_nextBegun 64 = .ok (.aload_n 0, 1) := by decide +kernel
theorem dX12_nextBegun_65 : decode cX12_nextBegun 65 = .ok (.getfield 40, 3) := by decide +kernel
theorem dX12_nextBegun_68 : decode cX12_nextBegun 68 = .ok (.sipush 379, 3) := by decide +kernel
theorem dX12_nextBegun_71 : decode cX12_nextBegun 71 = .ok (.iconst 3, 1) := by decide +kernel
theorem dX12_nextBegun_72 : decode cX12_nextBegun 72 = .ok (.iload_n 2, 1) := by decide +kernel
theorem dX12_nextBegun_73 : decode cX12_nextBegun 73 = .ok (.imul, 1) := by decide +kernel
theorem dX12_nextBegun_74 : decode cX12_nextBegun 74 = .ok (.iadd, 1) := by decide +kernel
theorem dX12_nextBegun_75 : decode cX12_nextBegun 75 = .ok (.iconst 2, 1) := by decide +kernel
theorem dX12_nextBegun_76 : decode cX12_nextBegun 76 = .ok (.iadd, 1) := by decide +kernel
theorem dX12_nextBegun_77 : decode cX12_nextBegun 77 = .ok (.iaload, 1) := by decide +kernel
theorem dX12_nextBegun_78 : decode cX12_nextBegun 78 = .ok (.if_icmp .ge 5, 3) := by decide +kernel
theorem dX12_nextBegun_81 : decode cX12_nextBegun 81 = .ok (.iload_n 3, 1) := by decide +kernel
theorem dX12_nextBegun_82 : decode cX12_nextBegun 82 = .ok (.istore_n 2, 1) := by decide +kernel
theorem dX12_nextBegun_83 : decode cX12_nextBegun 83 = .ok (.iinc 3 1, 3) := by decide +kernel
theorem dX12_nextBegun_86 : decode cX12_nextBegun 86 = .ok (.goto (-82), 3) := by decide +kernel
theorem dX12_nextBegun_89 : decode cX12_nextBegun 89 = .ok (.iload_n 2, 1) := by decide +kernel
theorem dX12_nextBegun_90 : decode cX12_nextBegun 90 = .ok (.ireturn, 1) := by decide +kernel
def rmX12_nextBegun : Room := { frames := 0, cells := 0, slots := 0, locals := 0 }
set_option maxRecDepth 100000 in
def fX12_nextBegun_J83 (N : Nat) (g : Gs) (x0 : Nat) (x1 : Int32) (K4 : Int32 × Int32 × Ds → Option (Int32 × Ds)) (y2 : Int32) (y3 : Int32) (d : Ds) : Option (Int32 × Ds) := bd (y3 + 1) fun u7 => (K4 (y2, u7, d))
set_option maxHeartbeats 4000000 in
set_option maxRecDepth 100000 in
theorem tX12_nextBegun_83 {p : Program} {l : Launch} {e : Env} {s : State} {m : MethodId} {args : Array Value} {below : List Frame} {meth : Method} {c : Code} {D : va_G} {cy : Nat → ClassId} {B : Bs} (C : Cx p s m args c cX12_nextBegun 4 RX12 D cy B) (hr : meth.sig.returnType = (some .int)) (hlocks : meth.locks = false) {N : Nat} {g : Gs} {x0 : Nat} {x1 : Int32} {vz : Int32} {dz : Ds} {K4 : Int32 × Int32 × Ds → Option (Int32 × Ds)} (hK4 : ∀ a, K4 a = some (vz, dz) → WB p l e rmX12_nextBegun s m args below meth c 4 D cy B 0 0 (MQ below (QI D cy B vz g dz) args s 0 0 (wA B)) g a.2.2 [(0, .ref (ad B x0)), (1, .int x1), (2, .int a.1), (3, .int a.2.1)] 4 []) {y2 : Int32} {y3 : Int32} {d : Ds} (hf : fX12_nextBegun_J83 N g x0 x1 K4 y2 y3 d = some (vz, dz)) : WB p l e rmX12_nextBegun s m args below meth c 4 D cy B 0 0 (MQ below (QI D cy B vz g dz) args s 0 0 (wA B)) g d [(0, .ref (ad B x0)), (1, .int x1), (2, .int y2), (3, .int y3)] 83 [] := by
  unfold fX12_nextBegun_J83 at hf
  obtain ⟨u7, eu7, hf⟩ := bd_s hf
  refine b_iinc C dX12_nextBegun_83 3 rfl (by rw [eu7]; rfl) [(3, .int u7), (0, .ref (ad B x0)), (1, .int x1), (2, .int y2)] (by decide) rfl ?_
  refine b_goto C (tgt := 4) dX12_nextBegun_86 (by decide) ?_
  refine b_sub [(0, .ref (ad B x0)), (1, .int x1), (2, .int y2), (3, .int u7)] [1, 2, 3, 0] rfl ?_
  exact hK4 (y2, u7, d) hf
set_option maxRecDepth 100000 in
def fX12_nextBegun_J81 (N : Nat) (g : Gs) (x0 : Nat) (x1 : Int32) (K4 : Int32 × Int32 × Ds → Option (Int32 × Ds)) (y3 : Int32) (d : Ds) : Option (Int32 × Ds) := fX12_nextBegun_J83 N g x0 x1 K4 y3 y3 d
set_option maxHeartbeats 4000000 in
set_option maxRecDepth 100000 in
theorem tX12_nextBegun_81 {p : Program} {l : Launch} {e : Env} {s : State} {m : MethodId} {args : Array Value} {below : List Frame} {meth : Method} {c : Code} {D : va_G} {cy : Nat → ClassId} {B : Bs} (C : Cx p s m args c cX12_nextBegun 4 RX12 D cy B) (hr : meth.sig.returnType = (some .int)) (hlocks : meth.locks = false) {N : Nat} {g : Gs} {x0 : Nat} {x1 : Int32} {vz : Int32} {dz : Ds} {K4 : Int32 × Int32 × Ds → Option (Int32 × Ds)} (hK4 : ∀ a, K4 a = some (vz, dz) → WB p l e rmX12_nextBegun s m args below meth c 4 D cy B 0 0 (MQ below (QI D cy B vz g dz) args s 0 0 (wA B)) g a.2.2 [(0, .ref (ad B x0)), (1, .int x1), (2, .int a.1), (3, .int a.2.1)] 4 []) {y3 : Int32} {d : Ds} (hf : fX12_nextBegun_J81 N g x0 x1 K4 y3 d = some (vz, dz)) : WB p l e rmX12_nextBegun s m args below meth c 4 D cy B 0 0 (MQ below (QI D cy B vz g dz) args s 0 0 (wA B)) g d [(0, .ref (ad B x0)), (1, .int x1), (3, .int y3)] 81 [] := by
  unfold fX12_nextBegun_J81 at hf
  refine b_iload_n C dX12_nextBegun_81 2 rfl rfl ?_
  refine b_istore_n C dX12_nextBegun_82 rfl [(2, .int y3), (0, .ref (ad B x0)), (1, .int x1), (3, .int y3)] (by decide) rfl ?_
  refine b_sub [(0, .ref (ad B x0)), (1, .int x1), (2, .int y3), (3, .int y3)] [1, 2, 0, 3] rfl ?_
  exact tX12_nextBegun_83 C hr hlocks hK4 hf
set_option maxRecDepth 100000 in
def fX12_nextBegun_B4 (N : Nat) (g : Gs) (x0 : Nat) (x1 : Int32) (K4 : Int32 × Int32 × Ds → Option (Int32 × Ds)) (y2 : Int32) (y3 : Int32) (d : Ds) : Option (Int32 × Ds) := if (24 : Int32) ≤ y3 then (some (y2, d)) else (gd (chk g x0 11) <| ob (gR g x0 17) fun r3 => (gd (chk g r3 102) <| gd (¬ (((379 : Int32) + ((3 : Int32) * y3)) < 0 ∨ gL g r3 ≤ ((379 : Int32) + ((3 : Int32) * y3)).toNatClampNeg)) <| if (dI d r3 ((379 : Int32) + ((3 : Int32) * y3)).toNatClampNeg) < 0 then (fX12_nextBegun_J83 N g x0 x1 K4 y2 y3 d) else (gd (¬ ((((379 : Int32) + ((3 : Int32) * y3)) + 2) < 0 ∨ gL g r3 ≤ (((379 : Int32) + ((3 : Int32) * y3)) + 2).toNatClampNeg)) <| if x1 < (dI d r3 (((379 : Int32) + ((3 : Int32) * y3)) + 2).toNatClampNeg) then (if y2 < 0 then (fX12_nextBegun_J81 N g x0 x1 K4 y3 d) else (gd (¬ ((((379 : Int32) + ((3 : Int32) * y2)) + 2) < 0 ∨ gL g r3 ≤ (((379 : Int32) + ((3 : Int32) * y2)) + 2).toNatClampNeg)) <| if (dI d r3 (((379 : Int32) + ((3 : Int32) * y2)) + 2).toNatClampNeg) ≤ (dI d r3 (((379 : Int32) + ((3 : Int32) * y3)) + 2).toNatClampNeg) then (fX12_nextBegun_J83 N g x0 x1 K4 y2 y3 d) else (fX12_nextBegun_J81 N g x0 x1 K4 y3 d))) else (fX12_nextBegun_J83 N g x0 x1 K4 y2 y3 d))))
set_option maxHeartbeats 4000000 in
set_option maxRecDepth 100000 in
theorem tX12_nextBegun_4 {p : Program} {l : Launch} {e : Env} {s : State} {m : MethodId} {args : Array Value} {below : List Frame} {meth : Method} {c : Code} {D : va_G} {cy : Nat → ClassId} {B : Bs} (C : Cx p s m args c cX12_nextBegun 4 RX12 D cy B) (hr : meth.sig.returnType = (some .int)) (hlocks : meth.locks = false) {N : Nat} {g : Gs} {x0 : Nat} {x1 : Int32} {vz : Int32} {dz : Ds} {K4 : Int32 × Int32 × Ds → Option (Int32 × Ds)} (hK4 : ∀ a, K4 a = some (vz, dz) → WB p l e rmX12_nextBegun s m args below meth c 4 D cy B 0 0 (MQ below (QI D cy B vz g dz) args s 0 0 (wA B)) g a.2.2 [(0, .ref (ad B x0)), (1, .int x1), (2, .int a.1), (3, .int a.2.1)] 4 []) {y2 : Int32} {y3 : Int32} {d : Ds} (hf : fX12_nextBegun_B4 N g x0 x1 K4 y2 y3 d = some (vz, dz)) : WB p l e rmX12_nextBegun s m args below meth c 4 D cy B 0 0 (MQ below (QI D cy B vz g dz) args s 0 0 (wA B)) g d [(0, .ref (ad B x0)), (1, .int x1), (2, .int y2), (3, .int y3)] 4 [] := by
  unfold fX12_nextBegun_B4 at hf
  refine b_iload_n C dX12_nextBegun_4 3 rfl rfl ?_
  refine b_bipush C (v := 24) dX12_nextBegun_5 (by decide) ?_
  refine b_icmp_ge C (tgt := 89) dX12_nextBegun_7 (by decide) (fun c1 => ?_) (fun c1 => ?_)
  · have hf := it_s c1 hf
    refine b_iload_n C dX12_nextBegun_89 2 rfl rfl ?_
    exact b_iret C hr hlocks hf dX12_nextBegun_90
  · have hf := if_s c1 hf
    refine b_aload_n C dX12_nextBegun_10 0 rfl rfl ?_
    obtain ⟨h2, hf⟩ := gd_s hf
    obtain ⟨r3, er3, hf⟩ := ob_s hf
    refine b_gR C dX12_nextBegun_11 fl_X12_40 h2 er3 ?_
    refine b_sipush C (v := 379) dX12_nextBegun_14 (by decide) ?_
    refine b_iconst C (v := 3) dX12_nextBegun_17 (by decide) ?_
    refine b_iload_n C dX12_nextBegun_18 3 rfl rfl ?_
    refine b_imul C dX12_nextBegun_19 ?_
    refine b_iadd C dX12_nextBegun_20 ?_
    obtain ⟨h4, hf⟩ := gd_s hf
    obtain ⟨h5, hf⟩ := gd_s hf
    refine b_iald C h4 h5 dX12_nextBegun_21 ?_
    refine b_if_lt C (tgt := 83) dX12_nextBegun_22 (by decide) (fun c6 => ?_) (fun c6 => ?_)
    · have hf := it_s c6 hf
      refine b_sub [(0, .ref (ad B x0)), (1, .int x1), (2, .int y2), (3, .int y3)] [0, 1, 2, 3] rfl ?_
      exact tX12_nextBegun_83 C hr hlocks hK4 hf
    · have hf := if_s c6 hf
      refine b_aload_n C dX12_nextBegun_25 0 rfl rfl ?_
      refine b_gR C dX12_nextBegun_26 fl_X12_40 h2 er3 ?_
      refine b_sipush C (v := 379) dX12_nextBegun_29 (by decide) ?_
      refine b_iconst C (v := 3) dX12_nextBegun_32 (by decide) ?_
      refine b_iload_n C dX12_nextBegun_33 3 rfl rfl ?_
      refine b_imul C dX12_nextBegun_34 ?_
      refine b_iadd C dX12_nextBegun_35 ?_
      refine b_iconst C (v := 2) dX12_nextBegun_36 (by decide) ?_
      refine b_iadd C dX12_nextBegun_37 ?_
      obtain ⟨h8, hf⟩ := gd_s hf
      refine b_iald C h4 h8 dX12_nextBegun_38 ?_
      refine b_iload_n C dX12_nextBegun_39 1 rfl rfl ?_
      refine b_icmp_gt C (tgt := 46) dX12_nextBegun_40 (by decide) (fun c9 => ?_) (fun c9 => ?_)
      · have hf := it_s c9 hf
        refine b_iload_n C dX12_nextBegun_46 2 rfl rfl ?_
        refine b_if_lt C (tgt := 81) dX12_nextBegun_47 (by decide) (fun c10 => ?_) (fun c10 => ?_)
        · have hf := it_s c10 hf
          refine b_sub [(0, .ref (ad B x0)), (1, .int x1), (3, .int y3)] [0, 1, 3] rfl ?_
          exact tX12_nextBegun_81 C hr hlocks hK4 hf
        · have hf := if_s c10 hf
          refine b_aload_n C dX12_nextBegun_50 0 rfl rfl ?_
          refine b_gR C dX12_nextBegun_51 fl_X12_40 h2 er3 ?_
          refine b_sipush C (v := 379) dX12_nextBegun_54 (by decide) ?_
          refine b_iconst C (v := 3) dX12_nextBegun_57 (by decide) ?_
          refine b_iload_n C dX12_nextBegun_58 3 rfl rfl ?_
          refine b_imul C dX12_nextBegun_59 ?_
          refine b_iadd C dX12_nextBegun_60 ?_
          refine b_iconst C (v := 2) dX12_nextBegun_61 (by decide) ?_
          refine b_iadd C dX12_nextBegun_62 ?_
          refine b_iald C h4 h8 dX12_nextBegun_63 ?_
          refine b_aload_n C dX12_nextBegun_64 0 rfl rfl ?_
          refine b_gR C dX12_nextBegun_65 fl_X12_40 h2 er3 ?_
          refine b_sipush C (v := 379) dX12_nextBegun_68 (by decide) ?_
          refine b_iconst C (v := 3) dX12_nextBegun_71 (by decide) ?_
          refine b_iload_n C dX12_nextBegun_72 2 rfl rfl ?_
          refine b_imul C dX12_nextBegun_73 ?_
          refine b_iadd C dX12_nextBegun_74 ?_
          refine b_iconst C (v := 2) dX12_nextBegun_75 (by decide) ?_
          refine b_iadd C dX12_nextBegun_76 ?_
          obtain ⟨h11, hf⟩ := gd_s hf
          refine b_iald C h4 h11 dX12_nextBegun_77 ?_
          refine b_icmp_ge C (tgt := 83) dX12_nextBegun_78 (by decide) (fun c12 => ?_) (fun c12 => ?_)
          · have hf := it_s c12 hf
            refine b_sub [(0, .ref (ad B x0)), (1, .int x1), (2, .int y2), (3, .int y3)] [0, 1, 2, 3] rfl ?_
            exact tX12_nextBegun_83 C hr hlocks hK4 hf
          · have hf := if_s c12 hf
            refine b_sub [(0, .ref (ad B x0)), (1, .int x1), (3, .int y3)] [0, 1, 3] rfl ?_
            exact tX12_nextBegun_81 C hr hlocks hK4 hf
      · have hf := if_s c9 hf
        refine b_goto C (tgt := 83) dX12_nextBegun_43 (by decide) ?_
        refine b_sub [(0, .ref (ad B x0)), (1, .int x1), (2, .int y2), (3, .int y3)] [0, 1, 2, 3] rfl ?_
        exact tX12_nextBegun_83 C hr hlocks hK4 hf
def fX12_nextBegun_L4 (N : Nat) (g : Gs) (x0 : Nat) (x1 : Int32) : Int32 × Int32 × Ds → Option (Int32 × Ds) := lp (fun K4 a => fX12_nextBegun_B4 N g x0 x1 K4 a.1 a.2.1 a.2.2) N
theorem tX12_nextBegun_L4 {p : Program} {l : Launch} {e : Env} {s : State} {m : MethodId} {args : Array Value} {below : List Frame} {meth : Method} {c : Code} {D : va_G} {cy : Nat → ClassId} {B : Bs} (C : Cx p s m args c cX12_nextBegun 4 RX12 D cy B) (hr : meth.sig.returnType = (some .int)) (hlocks : meth.locks = false) {N : Nat} {g : Gs} {x0 : Nat} {x1 : Int32} {vz : Int32} {dz : Ds} (a : Int32 × Int32 × Ds) (hf : fX12_nextBegun_L4 N g x0 x1 a = some (vz, dz)) : WB p l e rmX12_nextBegun s m args below meth c 4 D cy B 0 0 (MQ below (QI D cy B vz g dz) args s 0 0 (wA B)) g a.2.2 [(0, .ref (ad B x0)), (1, .int x1), (2, .int a.1), (3, .int a.2.1)] 4 [] :=
  lp_w (fun K4 hK4 a ha => tX12_nextBegun_4 C hr hlocks hK4 ha) N a hf
set_option maxRecDepth 100000 in
def fX12_nextBegun (N : Nat) (g : Gs) (x0 : Nat) (x1 : Int32) (d : Ds) : Option (Int32 × Ds) := fX12_nextBegun_L4 N g x0 x1 ((-1), 0, d)
set_option maxHeartbeats 4000000 in
set_option maxRecDepth 100000 in
theorem tX12_nextBegun_E {p : Program} {l : Launch} {e : Env} {s : State} {m : MethodId} {args : Array Value} {below : List Frame} {meth : Method} {c : Code} {D : va_G} {cy : Nat → ClassId} {B : Bs} (C : Cx p s m args c cX12_nextBegun 4 RX12 D cy B) (hr : meth.sig.returnType = (some .int)) (hlocks : meth.locks = false) {N : Nat} {g : Gs} {x0 : Nat} {x1 : Int32} {vz : Int32} {dz : Ds} {d : Ds} (hf : fX12_nextBegun N g x0 x1 d = some (vz, dz)) : WB p l e rmX12_nextBegun s m args below meth c 4 D cy B 0 0 (MQ below (QI D cy B vz g dz) args s 0 0 (wA B)) g d [(0, .ref (ad B x0)), (1, .int x1)] 0 [] := by
  unfold fX12_nextBegun at hf
  refine b_iconst C (v := (-1)) dX12_nextBegun_0 (by decide) ?_
  refine b_istore_n C dX12_nextBegun_1 rfl [(2, .int (-1)), (0, .ref (ad B x0)), (1, .int x1)] (by decide) rfl ?_
  refine b_iconst C (v := 0) dX12_nextBegun_2 (by decide) ?_
  refine b_istore_n C dX12_nextBegun_3 rfl [(3, .int 0), (2, .int (-1)), (0, .ref (ad B x0)), (1, .int x1)] (by decide) rfl ?_
  refine b_sub [(0, .ref (ad B x0)), (1, .int x1), (2, .int (-1)), (3, .int 0)] [2, 3, 1, 0] rfl ?_
  exact tX12_nextBegun_L4 C hr hlocks ((-1), 0, d) hf
theorem kX12_nextBegun (l : Launch) (D : va_G) (cy : Nat → ClassId) (B : Bs) {N : Nat} {g : Gs} {x0 : Nat} {x1 : Int32} {vz : Int32} {dz : Ds} {d : Ds} (hf : fX12_nextBegun N g x0 x1 d = some (vz, dz)) : Met l yX12_nextBegun (.code yX12_nextBegun cX12_nextBegun 4 (some .int) :: wl) rmX12_nextBegun (PC D cy B [.ref (ad B x0), .int x1] g d) (QI D cy B vz g dz) 0 0 (wA B) :=
  met_of (by decide +kernel) (Nat.le_of_ble_eq_true rfl) (fun p e s m args below meth c C hr hlocks _ => b_sub [(0, .ref (ad B x0)), (1, .int x1)] [0, 1] rfl (tX12_nextBegun_E C hr hlocks hf))
/-! KeyMatrixModel.adds(I)V -/
theorem fl_X12_299 : FLI RX12 299 11 26 := ⟨⟨RX12, TX12, 33, rfl, by decide, inl11, Or.inl (mW (mT5 (List.mem_of_getElem? (i := 117) (by decide +kernel))) rfl)⟩, by decide, by decide +kernel⟩
theorem fl_X12_56 : FLR RX12 56 11 27 := ⟨⟨RX12, TX12, 33, rfl, by decide, inl11, Or.inl (mW (mT5 (List.mem_of_getElem? (i := 118) (by decide +kernel))) rfl)⟩, by decide, by decide +kernel⟩
theorem fp11_26 : FPI 11 26 := ⟨ft11, (RX12, TX12, 33), rfl, by decide +kernel, by decide +kernel⟩
theorem dX12_adds_0 : decode cX12_adds 0 = .ok (.iconst 0, 1) := by decide +kernel
theorem dX12_adds_1 : decode cX12_adds 1 = .ok (.istore_n 2, 1) := by decide +kernel
theorem dX12_adds_2 : decode cX12_adds 2 = .ok (.iload_n 2, 1) := by decide +kernel
theorem dX12_adds_3 : decode cX12_adds 3 = .ok (.aload_n 0, 1) := by decide +kernel
theorem dX12_adds_4 : decode cX12_adds 4 = .ok (.getfield 299, 3) := by decide +kernel
theorem dX12_adds_7 : decode cX12_adds 7 = .ok (.if_icmp .ge 20, 3) := by decide +kernel
theorem dX12_adds_10 : decode cX12_adds 10 = .ok (.aload_n 0, 1) := by decide +kernel
theorem dX12_adds_11 : decode cX12_adds 11 = .ok (.getfield 56, 3) := by decide +kernel
theorem dX12_adds_14 : decode cX12_adds 14 = .ok (.iload_n 2, 1) := by decide +kernel
theorem dX12_adds_15 : decode cX12_adds 15 = .ok (.iaload, 1) := by decide +kernel
theorem dX12_adds_16 : decode cX12_adds 16 = .ok (.iload_n 1, 1) := by decide +kernel
theorem dX12_adds_17 : decode cX12_adds 17 = .ok (.if_icmp .ne 4, 3) := by decide +kernel
theorem dX12_adds_20 : decode cX12_adds 20 = .ok (.return_, 1) := by decide +kernel
theorem dX12_adds_21 : decode cX12_adds 21 = .ok (.iinc 2 1, 3) := by decide +kernel
theorem dX12_adds_24 : decode cX12_adds 24 = .ok (.goto (-22), 3) := by decide +kernel
theorem dX12_adds_27 : decode cX12_adds 27 = .ok (.aload_n 0, 1) := by decide +kernel
theorem dX12_adds_28 : decode cX12_adds 28 = .ok (.getfield 56, 3) := by decide +kernel
theorem dX12_adds_31 : decode cX12_adds 31 = .ok (.aload_n 0, 1) := by decide +kernel
theorem dX12_adds_32 : decode cX12_adds 32 = .ok (.getfield 299, 3) := by decide +kernel
theorem dX12_adds_35 : decode cX12_adds 35 = .ok (.iload_n 1, 1) := by decide +kernel
theorem dX12_adds_36 : decode cX12_adds 36 = .ok (.iastore, 1) := by decide +kernel
theorem dX12_adds_37 : decode cX12_adds 37 = .ok (.aload_n 0, 1) := by decide +kernel
theorem dX12_adds_38 : decode cX12_adds 38 = .ok (.dup, 1) := by decide +kernel
theorem dX12_adds_39 : decode cX12_adds 39 = .ok (.getfield 299, 3) := by decide +kernel
theorem dX12_adds_42 : decode cX12_adds 42 = .ok (.iconst 1, 1) := by decide +kernel
theorem dX12_adds_43 : decode cX12_adds 43 = .ok (.iadd, 1) := by decide +kernel
theorem dX12_adds_44 : decode cX12_adds 44 = .ok (.putfield 299, 3) := by decide +kernel
theorem dX12_adds_47 : decode cX12_adds 47 = .ok (.return_, 1) := by decide +kernel
def rmX12_adds : Room := { frames := 0, cells := 0, slots := 0, locals := 0 }
set_option maxRecDepth 100000 in
def fX12_adds_B2 (N : Nat) (g : Gs) (x0 : Nat) (x1 : Int32) (K2 : Int32 × Ds → Option (Unit × Ds)) (y2 : Int32) (d : Ds) : Option (Unit × Ds) := gd (chk g x0 11) <| if (dI d x0 26) ≤ y2 then (ob (gR g x0 27) fun r3 => (gd (chk g r3 102) <| gd (¬ ((dI d x0 26) < 0 ∨ gL g r3 ≤ (dI d x0 26).toNatClampNeg)) <| bd (sI d r3 (dI d x0 26).toNatClampNeg x1) fun d6 => (bd (sI d6 x0 26 ((dI d6 x0 26) + 1)) fun d7 => (some ((), d7))))) else (ob (gR g x0 27) fun r8 => (gd (chk g r8 102) <| gd (¬ (y2 < 0 ∨ gL g r8 ≤ y2.toNatClampNeg)) <| if (dI d r8 y2.toNatClampNeg) = x1 then (some ((), d)) else (bd (y2 + 1) fun u12 => (K2 (u12, d)))))
set_option maxHeartbeats 4000000 in
set_option maxRecDepth 100000 in
theorem tX12_adds_2 {p : Program} {l : Launch} {e : Env} {s : State} {m : MethodId} {args : Array Value} {below : List Frame} {meth : Method} {c : Code} {D : va_G} {cy : Nat → ClassId} {B : Bs} (C : Cx p s m args c cX12_adds 3 RX12 D cy B) (hr : meth.sig.returnType = none) (hlocks : meth.locks = false) {N : Nat} {g : Gs} {x0 : Nat} {x1 : Int32}  {dz : Ds} {K2 : Int32 × Ds → Option (Unit × Ds)} (hK2 : ∀ a, K2 a = some ((), dz) → WB p l e rmX12_adds s m args below meth c 3 D cy B 0 0 (MQ below (QV D cy B g dz) args s 0 0 (wA B)) g a.2 [(0, .ref (ad B x0)), (1, .int x1), (2, .int a.1)] 2 []) {y2 : Int32} {d : Ds} (hf : fX12_adds_B2 N g x0 x1 K2 y2 d = some ((), dz)) : WB p l e rmX12_adds s m args below meth c 3 D cy B 0 0 (MQ below (QV D cy B g dz) args s 0 0 (wA B)) g d [(0, .ref (ad B x0)), (1, .int x1), (2, .int y2)] 2 [] := by
  unfold fX12_adds_B2 at hf
  refine b_iload_n C dX12_adds_2 2 rfl rfl ?_
  refine b_aload_n C dX12_adds_3 0 rfl rfl ?_
  obtain ⟨h1, hf⟩ := gd_s hf
  refine b_gI C dX12_adds_4 fl_X12_299 h1 ?_
  refine b_icmp_ge C (tgt := 27) dX12_adds_7 (by decide) (fun c2 => ?_) (fun c2 => ?_)
  · have hf := it_s c2 hf
    refine b_aload_n C dX12_adds_27 0 rfl rfl ?_
    obtain ⟨r3, er3, hf⟩ := ob_s hf
    refine b_gR C dX12_adds_28 fl_X12_56 h1 er3 ?_
    refine b_aload_n C dX12_adds_31 0 rfl rfl ?_
    refine b_gI C dX12_adds_32 fl_X12_299 h1 ?_
    refine b_iload_n C dX12_adds_35 1 rfl rfl ?_
    obtain ⟨h4, hf⟩ := gd_s hf
    obtain ⟨h5, hf⟩ := gd_s hf
    obtain ⟨d6, ed6, hf⟩ := bd_s hf
    refine b_iast C h4 h5 ed6 dX12_adds_36 ?_
    refine b_aload_n C dX12_adds_37 0 rfl rfl ?_
    refine b_dup C dX12_adds_38 rfl ?_
    refine b_gI C dX12_adds_39 fl_X12_299 h1 ?_
    refine b_iconst C (v := 1) dX12_adds_42 (by decide) ?_
    refine b_iadd C dX12_adds_43 ?_
    obtain ⟨d7, ed7, hf⟩ := bd_s hf
    refine b_pI C dX12_adds_44 fl_X12_299 fp11_26 h1 ed7 ?_
    exact b_vret C hr hlocks hf dX12_adds_47
  · have hf := if_s c2 hf
    refine b_aload_n C dX12_adds_10 0 rfl rfl ?_
    obtain ⟨r8, er8, hf⟩ := ob_s hf
    refine b_gR C dX12_adds_11 fl_X12_56 h1 er8 ?_
    refine b_iload_n C dX12_adds_14 2 rfl rfl ?_
    obtain ⟨h9, hf⟩ := gd_s hf
    obtain ⟨h10, hf⟩ := gd_s hf
    refine b_iald C h9 h10 dX12_adds_15 ?_
    refine b_iload_n C dX12_adds_16 1 rfl rfl ?_
    refine b_icmp_ne C (tgt := 21) dX12_adds_17 (by decide) (fun c11 => ?_) (fun c11 => ?_)
    · have hf := if_s c11 hf
      obtain ⟨u12, eu12, hf⟩ := bd_s hf
      refine b_iinc C dX12_adds_21 2 rfl (by rw [eu12]; rfl) [(2, .int u12), (0, .ref (ad B x0)), (1, .int x1)] (by decide) rfl ?_
      refine b_goto C (tgt := 2) dX12_adds_24 (by decide) ?_
      refine b_sub [(0, .ref (ad B x0)), (1, .int x1), (2, .int u12)] [1, 2, 0] rfl ?_
      exact hK2 (u12, d) hf
    · have hf := it_s c11 hf
      exact b_vret C hr hlocks hf dX12_adds_20
def fX12_adds_L2 (N : Nat) (g : Gs) (x0 : Nat) (x1 : Int32) : Int32 × Ds → Option (Unit × Ds) := lp (fun K2 a => fX12_adds_B2 N g x0 x1 K2 a.1 a.2) N
theorem tX12_adds_L2 {p : Program} {l : Launch} {e : Env} {s : State} {m : MethodId} {args : Array Value} {below : List Frame} {meth : Method} {c : Code} {D : va_G} {cy : Nat → ClassId} {B : Bs} (C : Cx p s m args c cX12_adds 3 RX12 D cy B) (hr : meth.sig.returnType = none) (hlocks : meth.locks = false) {N : Nat} {g : Gs} {x0 : Nat} {x1 : Int32}  {dz : Ds} (a : Int32 × Ds) (hf : fX12_adds_L2 N g x0 x1 a = some ((), dz)) : WB p l e rmX12_adds s m args below meth c 3 D cy B 0 0 (MQ below (QV D cy B g dz) args s 0 0 (wA B)) g a.2 [(0, .ref (ad B x0)), (1, .int x1), (2, .int a.1)] 2 [] :=
  lp_w (fun K2 hK2 a ha => tX12_adds_2 C hr hlocks hK2 ha) N a hf
set_option maxRecDepth 100000 in
def fX12_adds (N : Nat) (g : Gs) (x0 : Nat) (x1 : Int32) (d : Ds) : Option (Unit × Ds) := fX12_adds_L2 N g x0 x1 (0, d)
set_option maxHeartbeats 4000000 in
set_option maxRecDepth 100000 in
theorem tX12_adds_E {p : Program} {l : Launch} {e : Env} {s : State} {m : MethodId} {args : Array Value} {below : List Frame} {meth : Method} {c : Code} {D : va_G} {cy : Nat → ClassId} {B : Bs} (C : Cx p s m args c cX12_adds 3 RX12 D cy B) (hr : meth.sig.returnType = none) (hlocks : meth.locks = false) {N : Nat} {g : Gs} {x0 : Nat} {x1 : Int32}  {dz : Ds} {d : Ds} (hf : fX12_adds N g x0 x1 d = some ((), dz)) : WB p l e rmX12_adds s m args below meth c 3 D cy B 0 0 (MQ below (QV D cy B g dz) args s 0 0 (wA B)) g d [(0, .ref (ad B x0)), (1, .int x1)] 0 [] := by
  unfold fX12_adds at hf
  refine b_iconst C (v := 0) dX12_adds_0 (by decide) ?_
  refine b_istore_n C dX12_adds_1 rfl [(2, .int 0), (0, .ref (ad B x0)), (1, .int x1)] (by decide) rfl ?_
  refine b_sub [(0, .ref (ad B x0)), (1, .int x1), (2, .int 0)] [1, 2, 0] rfl ?_
  exact tX12_adds_L2 C hr hlocks (0, d) hf
theorem kX12_adds (l : Launch) (D : va_G) (cy : Nat → ClassId) (B : Bs) {N : Nat} {g : Gs} {x0 : Nat} {x1 : Int32}  {dz : Ds} {d : Ds} (hf : fX12_adds N g x0 x1 d = some ((), dz)) : Met l yX12_adds (.code yX12_adds cX12_adds 3 none :: wl) rmX12_adds (PC D cy B [.ref (ad B x0), .int x1] g d) (QV D cy B g dz) 0 0 (wA B) :=
  met_of (by decide +kernel) (Nat.le_of_ble_eq_true rfl) (fun p e s m args below meth c C hr hlocks _ => b_sub [(0, .ref (ad B x0)), (1, .int x1)] [0, 1] rfl (tX12_adds_E C hr hlocks hf))
/-! KeyMatrixModel.laysSent()V -/
theorem fl_X12_302 : FLI RX12 302 11 25 := ⟨⟨RX12, TX12, 33, rfl, by decide, inl11, Or.inl (mW (mT5 (List.mem_of_getElem? (i := 116) (by decide +kernel))) rfl)⟩, by decide, by decide +kernel⟩
theorem fp11_25 : FPI 11 25 := ⟨ft11, (RX12, TX12, 33), rfl, by decide +kernel, by decide +kernel⟩
theorem yo_X12_nextBegun : yX12_nextBegun.cls ≠ "java/lang/invoke/MethodHandle" ∧ yX12_nextBegun.cls ≠ "java/lang/invoke/VarHandle" ∧ (parseMethodDescriptor yX12_nextBegun.desc).map (fun d => d.parameters.length) = some 1 := by decide +kernel
theorem co_X12_nextBegun : Cond.code yX12_nextBegun cX12_nextBegun 4 (some .int) ∈ wl := mW (mT6 (List.mem_of_getElem? (i := 163) (by decide +kernel))) rfl
theorem in_X12_nextBegun : Cond.initialized yX12_nextBegun.cls ∈ wl := mW (mT1 (List.mem_of_getElem? (i := 12) (by decide +kernel))) rfl
theorem im_X12_nextBegun : Cond.instanceMethod yX12_nextBegun ∈ wl := mW (mT6 (List.mem_of_getElem? (i := 162) (by decide +kernel))) rfl
theorem se_X12_nextBegun : Cond.selects yX12_nextBegun.cls yX12_nextBegun yX12_nextBegun ∈ wl := mW (mT0 (List.mem_of_getElem? (i := 72) (by decide +kernel))) rfl
theorem lv_X12_305 : LV RX12 305 yX12_nextBegun cX12_nextBegun 4 (some .int) 1 11 := ⟨⟨(RX12, TX12, 33), rfl, rfl⟩, yo_X12_nextBegun, mW (mT6 (List.mem_of_getElem? (i := 160) (by decide +kernel))) rfl, im_X12_nextBegun, se_X12_nextBegun, in_X12_nextBegun, co_X12_nextBegun⟩
theorem yo_X12_adds : yX12_adds.cls ≠ "java/lang/invoke/MethodHandle" ∧ yX12_adds.cls ≠ "java/lang/invoke/VarHandle" ∧ (parseMethodDescriptor yX12_adds.desc).map (fun d => d.parameters.length) = some 1 := by decide +kernel
theorem co_X12_adds : Cond.code yX12_adds cX12_adds 3 none ∈ wl := mW (mT6 (List.mem_of_getElem? (i := 167) (by decide +kernel))) rfl
theorem in_X12_adds : Cond.initialized yX12_adds.cls ∈ wl := mW (mT1 (List.mem_of_getElem? (i := 12) (by decide +kernel))) rfl
theorem im_X12_adds : Cond.instanceMethod yX12_adds ∈ wl := mW (mT6 (List.mem_of_getElem? (i := 166) (by decide +kernel))) rfl
theorem se_X12_adds : Cond.selects yX12_adds.cls yX12_adds yX12_adds ∈ wl := mW (mT0 (List.mem_of_getElem? (i := 73) (by decide +kernel))) rfl
theorem lv_X12_308 : LV RX12 308 yX12_adds cX12_adds 3 none 1 11 := ⟨⟨(RX12, TX12, 33), rfl, rfl⟩, yo_X12_adds, mW (mT6 (List.mem_of_getElem? (i := 164) (by decide +kernel))) rfl, im_X12_adds, se_X12_adds, in_X12_adds, co_X12_adds⟩
theorem dX12_laysSent_0 : decode cX12_laysSent 0 = .ok (.aload_n 0, 1) := by decide +kernel
theorem dX12_laysSent_1 : decode cX12_laysSent 1 = .ok (.iconst 0, 1) := by decide +kernel
theorem dX12_laysSent_2 : decode cX12_laysSent 2 = .ok (.putfield 302, 3) := by decide +kernel
theorem dX12_laysSent_5 : decode cX12_laysSent 5 = .ok (.aload_n 0, 1) := by decide +kernel
theorem dX12_laysSent_6 : decode cX12_laysSent 6 = .ok (.iconst 0, 1) := by decide +kernel
theorem dX12_laysSent_7 : decode cX12_laysSent 7 = .ok (.putfield 299, 3) := by decide +kernel
theorem dX12_laysSent_10 : decode cX12_laysSent 10 = .ok (.iconst (-1), 1) := by decide +kernel
theorem dX12_laysSent_11 : decode cX12_laysSent 11 = .ok (.istore_n 1, 1) := by decide +kernel
theorem dX12_laysSent_12 : decode cX12_laysSent 12 = .ok (.aload_n 0, 1) := by decide +kernel
theorem dX12_laysSent_13 : decode cX12_laysSent 13 = .ok (.iload_n 1, 1) := by decide +kernel
theorem dX12_laysSent_14 : decode cX12_laysSent 14 = .ok (.invokevirtual 305, 3) := by decide +kernel
theorem dX12_laysSent_17 : decode cX12_laysSent 17 = .ok (.istore_n 2, 1) := by decide +kernel
theorem dX12_laysSent_18 : decode cX12_laysSent 18 = .ok (.iload_n 2, 1) := by decide +kernel
theorem dX12_laysSent_19 : decode cX12_laysSent 19 = .ok (.ifCond .lt 79, 3) := by decide +kernel
theorem dX12_laysSent_22 : decode cX12_laysSent 22 = .ok (.sipush 379, 3) := by decide +kernel
theorem dX12_laysSent_25 : decode cX12_laysSent 25 = .ok (.iconst 3, 1) := by decide +kernel
theorem dX12_laysSent_26 : decode cX12_laysSent 26 = .ok (.iload_n 2, 1) := by decide +kernel
theorem dX12_laysSent_27 : decode cX12_laysSent 27 = .ok (.imul, 1) := by decide +kernel
theorem dX12_laysSent_28 : decode cX12_laysSent 28 = .ok (.iadd, 1) := by decide +kernel
theorem dX12_laysSent_29 : decode cX12_laysSent 29 = .ok (.istore_n 3, 1) := by decide +kernel
theorem dX12_laysSent_30 : decode cX12_laysSent 30 = .ok (.aload_n 0, 1) := by decide +kernel
theorem dX12_laysSent_31 : decode cX12_laysSent 31 = .ok (.getfield 40, 3) := by decide +kernel
theorem dX12_laysSent_34 : decode cX12_laysSent 34 = .ok (.iload_n 3, 1) := by decide +kernel
theorem dX12_laysSent_35 : decode cX12_laysSent 35 = .ok (.iaload, 1) := by decide +kernel
theorem dX12_laysSent_36 : decode cX12_laysSent 36 = .ok (.iconst 1, 1) := by decide +kernel
theorem dX12_laysSent_37 : decode cX12_laysSent 37 = .ok (.if_icmp .ne 22, 3) := by decide +kernel
theorem dX12_laysSent_40 : decode cX12_laysSent 40 = .ok (.aload_n 0, 1) := by decide +kernel
theorem dX12_laysSent_41 : decode cX12_laysSent 41 = .ok (.dup, 1) := by decide +kernel
theorem dX12_laysSent_42 : decode cX12_laysSent 42 = .ok (.getfield 302, 3) := by decide +kernel
theorem dX12_laysSent_45 : decode cX12_laysSent 45 = .ok (.iconst 1, 1) := by decide +kernel
theorem dX12_laysSent_46 : decode cX12_laysSent 46 = .ok (.aload_n 0, 1) := by decide +kernel
theorem dX12_laysSent_47 : decode cX12_laysSent 47 = .ok (.getfield 40, 3) := by decide +kernel
theorem dX12_laysSent_50 : decode cX12_laysSent 50 = .ok (.iload_n 3, 1) := by decide +kernel
theorem dX12_laysSent_51 : decode cX12_laysSent 51 = .ok (.iconst 1, 1) := by decide +kernel
theorem dX12_laysSent_52 : decode cX12_laysSent 52 = .ok (.iadd, 1) := by decide +kernel
theorem dX12_laysSent_53 : decode cX12_laysSent 53 = .ok (.iaload, 1) := by decide +kernel
theorem dX12_laysSent_54 : decode cX12_laysSent 54 = .ok (.ishl, 1) := by decide +kernel
theorem dX12_laysSent_55 : decode cX12_laysSent 55 = .ok (.ior, 1) := by decide +kernel
theorem dX12_laysSent_56 : decode cX12_laysSent 56 = .ok (.putfield 302, 3) := by decide +kernel
theorem dX12_laysSent_59 : decode cX12_laysSent 59 = .ok (.aload_n 0, 1) := by decide +kernel
theorem dX12_laysSent_60 : decode cX12_laysSent 60 = .ok (.getfield 40, 3) := by decide +kernel
theorem dX12_laysSent_63 : decode cX12_laysSent 63 = .ok (.iload_n 3, 1) := by decide +kernel
theorem dX12_laysSent_64 : decode cX12_laysSent 64 = .ok (.iaload, 1) := by decide +kernel
theorem dX12_laysSent_65 : decode cX12_laysSent 65 = .ok (.ifCond .ne 15, 3) := by decide +kernel
theorem dX12_laysSent_68 : decode cX12_laysSent 68 = .ok (.aload_n 0, 1) := by decide +kernel
theorem dX12_laysSent_69 : decode cX12_laysSent 69 = .ok (.aload_n 0, 1) := by decide +kernel
theorem dX12_laysSent_70 : decode cX12_laysSent 70 = .ok (.getfield 40, 3) := by decide +kernel
theorem dX12_laysSent_73 : decode cX12_laysSent 73 = .ok (.iload_n 3, 1) := by decide +kernel
theorem dX12_laysSent_74 : decode cX12_laysSent 74 = .ok (.iconst 1, 1) := by decide +kernel
theorem dX12_laysSent_75 : decode cX12_laysSent 75 = .ok (.iadd, 1) := by decide +kernel
theorem dX12_laysSent_76 : decode cX12_laysSent 76 = .ok (.iaload, 1) := by decide +kernel
theorem dX12_laysSent_77 : decode cX12_laysSent 77 = .ok (.invokevirtual 308, 3) := by decide +kernel
theorem dX12_laysSent_80 : decode cX12_laysSent 80 = .ok (.aload_n 0, 1) := by decide +kernel
theorem dX12_laysSent_81 : decode cX12_laysSent 81 = .ok (.getfield 40, 3) := by decide +kernel
theorem dX12_laysSent_84 : decode cX12_laysSent 84 = .ok (.iload_n 3, 1) := by decide +kernel
theorem dX12_laysSent_85 : decode cX12_laysSent 85 = .ok (.iconst 2, 1) := by decide +kernel
theorem dX12_laysSent_86 : decode cX12_laysSent 86 = .ok (.iadd, 1) := by decide +kernel
theorem dX12_laysSent_87 : decode cX12_laysSent 87 = .ok (.iaload, 1) := by decide +kernel
theorem dX12_laysSent_88 : decode cX12_laysSent 88 = .ok (.istore_n 1, 1) := by decide +kernel
theorem dX12_laysSent_89 : decode cX12_laysSent 89 = .ok (.aload_n 0, 1) := by decide +kernel
theorem dX12_laysSent_90 : decode cX12_laysSent 90 = .ok (.iload_n 1, 1) := by decide +kernel
theorem dX12_laysSent_91 : decode cX12_laysSent 91 = .ok (.invokevirtual 305, 3) := by decide +kernel
theorem dX12_laysSent_94 : decode cX12_laysSent 94 = .ok (.istore_n 2, 1) := by decide +kernel
theorem dX12_laysSent_95 : decode cX12_laysSent 95 = .ok (.goto (-77), 3) := by decide +kernel
theorem dX12_laysSent_98 : decode cX12_laysSent 98 = .ok (.aload_n 0, 1) := by decide +kernel
theorem dX12_laysSent_99 : decode cX12_laysSent 99 = .ok (.getfield 40, 3) := by decide +kernel
theorem dX12_laysSent_102 : decode cX12_laysSent 102 = .ok (.sipush 454, 3) := by decide +kernel
theorem dX12_laysSent_105 : decode cX12_laysSent 105 = .ok (.iaload, 1) := by decide +kernel
theorem dX12_laysSent_106 : decode cX12_laysSent 106 = .ok (.ifCond .lt 15, 3) := by decide +kernel
theorem dX12_laysSent_109 : decode cX12_laysSent 109 = .ok (.aload_n 0, 1) := by decide +kernel
theorem dX12_laysSent_110 : decode cX12_laysSent 110 = .ok (.aload_n 0, 1) := by decide +kernel
theorem dX12_laysSent_111 : decode cX12_laysSent 111 = .ok (.getfield 40, 3) := by decide +kernel
theorem dX12_laysSent_114 : decode cX12_laysSent 114 = .ok (.sipush 454, 3) := by decide +kernel
theorem dX12_laysSent_117 : decode cX12_laysSent 117 = .ok (.iaload, 1) := by decide +kernel
theorem dX12_laysSent_118 : decode cX12_laysSent 118 = .ok (.invokevirtual 308, 3) := by decide +kernel
theorem dX12_laysSent_121 : decode cX12_laysSent 121 = .ok (.return_, 1) := by decide +kernel
def rmX12_laysSent : Room := { frames := 1, cells := 0, slots := 0, locals := 23 }
set_option maxRecDepth 100000 in
def fX12_laysSent_J121 (N : Nat) (g : Gs) (x0 : Nat) (d : Ds) : Option (Unit × Ds) := some ((), d)
set_option maxHeartbeats 4000000 in
set_option maxRecDepth 100000 in
theorem tX12_laysSent_121 {p : Program} {l : Launch} {e : Env} {s : State} {m : MethodId} {args : Array Value} {below : List Frame} {meth : Method} {c : Code} {D : va_G} {cy : Nat → ClassId} {B : Bs} (C : Cx p s m args c cX12_laysSent 4 RX12 D cy B) (hr : meth.sig.returnType = none) (hlocks : meth.locks = false) {N : Nat} {g : Gs} {x0 : Nat}  {dz : Ds} {d : Ds} (hf : fX12_laysSent_J121 N g x0 d = some ((), dz)) : WB p l e rmX12_laysSent s m args below meth c 4 D cy B 0 0 (MQ below (QV D cy B g dz) args s 0 0 (wA B)) g d [(0, .ref (ad B x0))] 121 [] := by
  unfold fX12_laysSent_J121 at hf
  exact b_vret C hr hlocks hf dX12_laysSent_121
set_option maxRecDepth 100000 in
def fX12_laysSent_J80 (N : Nat) (g : Gs) (x0 : Nat) (K18 : Int32 × Ds → Option (Unit × Ds)) (y3 : Int32) (d : Ds) : Option (Unit × Ds) := gd (chk g x0 11) <| ob (gR g x0 17) fun r27 => (gd (chk g r27 102) <| gd (¬ ((y3 + 2) < 0 ∨ gL g r27 ≤ (y3 + 2).toNatClampNeg)) <| bd ((dI d r27 (y3 + 2).toNatClampNeg)) fun u30 => (cb (fX12_nextBegun N g x0 u30 d) fun u33 d31 => (K18 (u33, d31))))
set_option maxHeartbeats 4000000 in
set_option maxRecDepth 100000 in
theorem tX12_laysSent_80 {p : Program} {l : Launch} {e : Env} {s : State} {m : MethodId} {args : Array Value} {below : List Frame} {meth : Method} {c : Code} {D : va_G} {cy : Nat → ClassId} {B : Bs} (C : Cx p s m args c cX12_laysSent 4 RX12 D cy B) (hr : meth.sig.returnType = none) (hlocks : meth.locks = false) {N : Nat} {g : Gs} {x0 : Nat}  {dz : Ds} {K18 : Int32 × Ds → Option (Unit × Ds)} (hK18 : ∀ a, K18 a = some ((), dz) → WB p l e rmX12_laysSent s m args below meth c 4 D cy B 0 0 (MQ below (QV D cy B g dz) args s 0 0 (wA B)) g a.2 [(0, .ref (ad B x0)), (2, .int a.1)] 18 []) {y3 : Int32} {d : Ds} (hf : fX12_laysSent_J80 N g x0 K18 y3 d = some ((), dz)) : WB p l e rmX12_laysSent s m args below meth c 4 D cy B 0 0 (MQ below (QV D cy B g dz) args s 0 0 (wA B)) g d [(0, .ref (ad B x0)), (3, .int y3)] 80 [] := by
  unfold fX12_laysSent_J80 at hf
  refine b_aload_n C dX12_laysSent_80 0 rfl rfl ?_
  obtain ⟨h26, hf⟩ := gd_s hf
  obtain ⟨r27, er27, hf⟩ := ob_s hf
  refine b_gR C dX12_laysSent_81 fl_X12_40 h26 er27 ?_
  refine b_iload_n C dX12_laysSent_84 1 rfl rfl ?_
  refine b_iconst C (v := 2) dX12_laysSent_85 (by decide) ?_
  refine b_iadd C dX12_laysSent_86 ?_
  obtain ⟨h28, hf⟩ := gd_s hf
  obtain ⟨h29, hf⟩ := gd_s hf
  refine b_iald C h28 h29 dX12_laysSent_87 ?_
  obtain ⟨u30, eu30, hf⟩ := bd_s hf
  refine b_topI eu30 ?_
  refine b_istore_n C dX12_laysSent_88 rfl [(1, .int u30), (0, .ref (ad B x0)), (3, .int y3)] (by decide) rfl ?_
  refine b_aload_n C dX12_laysSent_89 1 rfl rfl ?_
  refine b_iload_n C dX12_laysSent_90 0 rfl rfl ?_
  obtain ⟨u33, d31, k32, hf⟩ := cb_s hf
  refine b_cVI C [] dX12_laysSent_91 (kX12_nextBegun l D cy B k32) lv_X12_305 ⟨rfl, rfl, Nat.le_of_ble_eq_true rfl, Nat.le_of_ble_eq_true rfl⟩ h26 (by decide) rfl (Nat.le_of_ble_eq_true rfl) ⟨Nat.zero_le _, Nat.zero_le _⟩ rfl ?_
  refine b_istore_n C dX12_laysSent_94 rfl [(2, .int u33), (1, .int u30), (0, .ref (ad B x0)), (3, .int y3)] (by decide) rfl ?_
  refine b_goto C (tgt := 18) dX12_laysSent_95 (by decide) ?_
  refine b_sub [(0, .ref (ad B x0)), (2, .int u33)] [2, 0] rfl ?_
  exact hK18 (u33, d31) hf
set_option maxRecDepth 100000 in
def fX12_laysSent_J59 (N : Nat) (g : Gs) (x0 : Nat) (K18 : Int32 × Ds → Option (Unit × Ds)) (y3 : Int32) (d : Ds) : Option (Unit × Ds) := gd (chk g x0 11) <| ob (gR g x0 17) fun r22 => (gd (chk g r22 102) <| gd (¬ (y3 < 0 ∨ gL g r22 ≤ y3.toNatClampNeg)) <| if (dI d r22 y3.toNatClampNeg) = 0 then (gd (¬ ((y3 + 1) < 0 ∨ gL g r22 ≤ (y3 + 1).toNatClampNeg)) <| cv (fX12_adds N g x0 (dI d r22 (y3 + 1).toNatClampNeg) d) fun d35 => (fX12_laysSent_J80 N g x0 K18 y3 d35)) else (fX12_laysSent_J80 N g x0 K18 y3 d))
set_option maxHeartbeats 4000000 in
set_option maxRecDepth 100000 in
theorem tX12_laysSent_59 {p : Program} {l : Launch} {e : Env} {s : State} {m : MethodId} {args : Array Value} {below : List Frame} {meth : Method} {c : Code} {D : va_G} {cy : Nat → ClassId} {B : Bs} (C : Cx p s m args c cX12_laysSent 4 RX12 D cy B) (hr : meth.sig.returnType = none) (hlocks : meth.locks = false) {N : Nat} {g : Gs} {x0 : Nat}  {dz : Ds} {K18 : Int32 × Ds → Option (Unit × Ds)} (hK18 : ∀ a, K18 a = some ((), dz) → WB p l e rmX12_laysSent s m args below meth c 4 D cy B 0 0 (MQ below (QV D cy B g dz) args s 0 0 (wA B)) g a.2 [(0, .ref (ad B x0)), (2, .int a.1)] 18 []) {y3 : Int32} {d : Ds} (hf : fX12_laysSent_J59 N g x0 K18 y3 d = some ((), dz)) : WB p l e rmX12_laysSent s m args below meth c 4 D cy B 0 0 (MQ below (QV D cy B g dz) args s 0 0 (wA B)) g d [(0, .ref (ad B x0)), (3, .int y3)] 59 [] := by
  unfold fX12_laysSent_J59 at hf
  refine b_aload_n C dX12_laysSent_59 0 rfl rfl ?_
  obtain ⟨h21, hf⟩ := gd_s hf
  obtain ⟨r22, er22, hf⟩ := ob_s hf
  refine b_gR C dX12_laysSent_60 fl_X12_40 h21 er22 ?_
  refine b_iload_n C dX12_laysSent_63 1 rfl rfl ?_
  obtain ⟨h23, hf⟩ := gd_s hf
  obtain ⟨h24, hf⟩ := gd_s hf
  refine b_iald C h23 h24 dX12_laysSent_64 ?_
  refine b_if_ne C (tgt := 80) dX12_laysSent_65 (by decide) (fun c25 => ?_) (fun c25 => ?_)
  · have hf := if_s c25 hf
    refine b_sub [(0, .ref (ad B x0)), (3, .int y3)] [0, 1] rfl ?_
    exact tX12_laysSent_80 C hr hlocks hK18 hf
  · have hf := it_s c25 hf
    refine b_aload_n C dX12_laysSent_68 0 rfl rfl ?_
    refine b_aload_n C dX12_laysSent_69 0 rfl rfl ?_
    refine b_gR C dX12_laysSent_70 fl_X12_40 h21 er22 ?_
    refine b_iload_n C dX12_laysSent_73 1 rfl rfl ?_
    refine b_iconst C (v := 1) dX12_laysSent_74 (by decide) ?_
    refine b_iadd C dX12_laysSent_75 ?_
    obtain ⟨h34, hf⟩ := gd_s hf
    refine b_iald C h23 h34 dX12_laysSent_76 ?_
    obtain ⟨d35, k36, hf⟩ := cv_s hf
    refine b_cVN C [] dX12_laysSent_77 (kX12_adds l D cy B k36) lv_X12_308 ⟨rfl, rfl, Nat.le_of_ble_eq_true rfl, Nat.le_of_ble_eq_true rfl⟩ h21 (by decide) rfl (Nat.le_of_ble_eq_true rfl) ⟨Nat.zero_le _, Nat.zero_le _⟩ rfl ?_
    refine b_sub [(0, .ref (ad B x0)), (3, .int y3)] [0, 1] rfl ?_
    exact tX12_laysSent_80 C hr hlocks hK18 hf
set_option maxRecDepth 100000 in
def fX12_laysSent_B18 (N : Nat) (g : Gs) (x0 : Nat) (K18 : Int32 × Ds → Option (Unit × Ds)) (y2 : Int32) (d : Ds) : Option (Unit × Ds) := if y2 < 0 then (gd (chk g x0 11) <| ob (gR g x0 17) fun r9 => (gd (chk g r9 102) <| gd (¬ ((454 : Int32) < 0 ∨ gL g r9 ≤ (454 : Int32).toNatClampNeg)) <| if (dI d r9 (454 : Int32).toNatClampNeg) < 0 then (fX12_laysSent_J121 N g x0 d) else (cv (fX12_adds N g x0 (dI d r9 (454 : Int32).toNatClampNeg) d) fun d13 => (fX12_laysSent_J121 N g x0 d13)))) else (bd (((379 : Int32) + ((3 : Int32) * y2))) fun u15 => (gd (chk g x0 11) <| ob (gR g x0 17) fun r17 => (gd (chk g r17 102) <| gd (¬ (u15 < 0 ∨ gL g r17 ≤ u15.toNatClampNeg)) <| if (dI d r17 u15.toNatClampNeg) = (1 : Int32) then (gd (¬ ((u15 + 1) < 0 ∨ gL g r17 ≤ (u15 + 1).toNatClampNeg)) <| bd (sI d x0 25 ((dI d x0 25) ||| ((1 : Int32) <<< ((dI d r17 (u15 + 1).toNatClampNeg) &&& 31)))) fun d38 => (fX12_laysSent_J59 N g x0 K18 u15 d38)) else (fX12_laysSent_J59 N g x0 K18 u15 d))))
set_option maxHeartbeats 4000000 in
set_option maxRecDepth 100000 in
theorem tX12_laysSent_18 {p : Program} {l : Launch} {e : Env} {s : State} {m : MethodId} {args : Array Value} {below : List Frame} {meth : Method} {c : Code} {D : va_G} {cy : Nat → ClassId} {B : Bs} (C : Cx p s m args c cX12_laysSent 4 RX12 D cy B) (hr : meth.sig.returnType = none) (hlocks : meth.locks = false) {N : Nat} {g : Gs} {x0 : Nat}  {dz : Ds} {K18 : Int32 × Ds → Option (Unit × Ds)} (hK18 : ∀ a, K18 a = some ((), dz) → WB p l e rmX12_laysSent s m args below meth c 4 D cy B 0 0 (MQ below (QV D cy B g dz) args s 0 0 (wA B)) g a.2 [(0, .ref (ad B x0)), (2, .int a.1)] 18 []) {y2 : Int32} {d : Ds} (hf : fX12_laysSent_B18 N g x0 K18 y2 d = some ((), dz)) : WB p l e rmX12_laysSent s m args below meth c 4 D cy B 0 0 (MQ below (QV D cy B g dz) args s 0 0 (wA B)) g d [(0, .ref (ad B x0)), (2, .int y2)] 18 [] := by
  unfold fX12_laysSent_B18 at hf
  refine b_iload_n C dX12_laysSent_18 1 rfl rfl ?_
  refine b_if_lt C (tgt := 98) dX12_laysSent_19 (by decide) (fun c7 => ?_) (fun c7 => ?_)
  · have hf := it_s c7 hf
    refine b_aload_n C dX12_laysSent_98 0 rfl rfl ?_
    obtain ⟨h8, hf⟩ := gd_s hf
    obtain ⟨r9, er9, hf⟩ := ob_s hf
    refine b_gR C dX12_laysSent_99 fl_X12_40 h8 er9 ?_
    refine b_sipush C (v := 454) dX12_laysSent_102 (by decide) ?_
    obtain ⟨h10, hf⟩ := gd_s hf
    obtain ⟨h11, hf⟩ := gd_s hf
    refine b_iald C h10 h11 dX12_laysSent_105 ?_
    refine b_if_lt C (tgt := 121) dX12_laysSent_106 (by decide) (fun c12 => ?_) (fun c12 => ?_)
    · have hf := it_s c12 hf
      refine b_sub [(0, .ref (ad B x0))] [0] rfl ?_
      exact tX12_laysSent_121 C hr hlocks hf
    · have hf := if_s c12 hf
      refine b_aload_n C dX12_laysSent_109 0 rfl rfl ?_
      refine b_aload_n C dX12_laysSent_110 0 rfl rfl ?_
      refine b_gR C dX12_laysSent_111 fl_X12_40 h8 er9 ?_
      refine b_sipush C (v := 454) dX12_laysSent_114 (by decide) ?_
      refine b_iald C h10 h11 dX12_laysSent_117 ?_
      obtain ⟨d13, k14, hf⟩ := cv_s hf
      refine b_cVN C [] dX12_laysSent_118 (kX12_adds l D cy B k14) lv_X12_308 ⟨rfl, rfl, Nat.le_of_ble_eq_true rfl, Nat.le_of_ble_eq_true rfl⟩ h8 (by decide) rfl (Nat.le_of_ble_eq_true rfl) ⟨Nat.zero_le _, Nat.zero_le _⟩ rfl ?_
      refine b_sub [(0, .ref (ad B x0))] [0] rfl ?_
      exact tX12_laysSent_121 C hr hlocks hf
  · have hf := if_s c7 hf
    refine b_sipush C (v := 379) dX12_laysSent_22 (by decide) ?_
    refine b_iconst C (v := 3) dX12_laysSent_25 (by decide) ?_
    refine b_iload_n C dX12_laysSent_26 1 rfl rfl ?_
    refine b_imul C dX12_laysSent_27 ?_
    refine b_iadd C dX12_laysSent_28 ?_
    obtain ⟨u15, eu15, hf⟩ := bd_s hf
    refine b_topI eu15 ?_
    refine b_istore_n C dX12_laysSent_29 rfl [(3, .int u15), (0, .ref (ad B x0)), (2, .int y2)] (by decide) rfl ?_
    refine b_aload_n C dX12_laysSent_30 1 rfl rfl ?_
    obtain ⟨h16, hf⟩ := gd_s hf
    obtain ⟨r17, er17, hf⟩ := ob_s hf
    refine b_gR C dX12_laysSent_31 fl_X12_40 h16 er17 ?_
    refine b_iload_n C dX12_laysSent_34 0 rfl rfl ?_
    obtain ⟨h18, hf⟩ := gd_s hf
    obtain ⟨h19, hf⟩ := gd_s hf
    refine b_iald C h18 h19 dX12_laysSent_35 ?_
    refine b_iconst C (v := 1) dX12_laysSent_36 (by decide) ?_
    refine b_icmp_ne C (tgt := 59) dX12_laysSent_37 (by decide) (fun c20 => ?_) (fun c20 => ?_)
    · have hf := if_s c20 hf
      refine b_sub [(0, .ref (ad B x0)), (3, .int u15)] [1, 0] rfl ?_
      exact tX12_laysSent_59 C hr hlocks hK18 hf
    · have hf := it_s c20 hf
      refine b_aload_n C dX12_laysSent_40 1 rfl rfl ?_
      refine b_dup C dX12_laysSent_41 rfl ?_
      refine b_gI C dX12_laysSent_42 fl_X12_302 h16 ?_
      refine b_iconst C (v := 1) dX12_laysSent_45 (by decide) ?_
      refine b_aload_n C dX12_laysSent_46 1 rfl rfl ?_
      refine b_gR C dX12_laysSent_47 fl_X12_40 h16 er17 ?_
      refine b_iload_n C dX12_laysSent_50 0 rfl rfl ?_
      refine b_iconst C (v := 1) dX12_laysSent_51 (by decide) ?_
      refine b_iadd C dX12_laysSent_52 ?_
      obtain ⟨h37, hf⟩ := gd_s hf
      refine b_iald C h18 h37 dX12_laysSent_53 ?_
      refine b_ishl C dX12_laysSent_54 ?_
      refine b_ior C dX12_laysSent_55 ?_
      obtain ⟨d38, ed38, hf⟩ := bd_s hf
      refine b_pI C dX12_laysSent_56 fl_X12_302 fp11_25 h16 ed38 ?_
      refine b_sub [(0, .ref (ad B x0)), (3, .int u15)] [1, 0] rfl ?_
      exact tX12_laysSent_59 C hr hlocks hK18 hf
def fX12_laysSent_L18 (N : Nat) (g : Gs) (x0 : Nat) : Int32 × Ds → Option (Unit × Ds) := lp (fun K18 a => fX12_laysSent_B18 N g x0 K18 a.1 a.2) N
theorem tX12_laysSent_L18 {p : Program} {l : Launch} {e : Env} {s : State} {m : MethodId} {args : Array Value} {below : List Frame} {meth : Method} {c : Code} {D : va_G} {cy : Nat → ClassId} {B : Bs} (C : Cx p s m args c cX12_laysSent 4 RX12 D cy B) (hr : meth.sig.returnType = none) (hlocks : meth.locks = false) {N : Nat} {g : Gs} {x0 : Nat}  {dz : Ds} (a : Int32 × Ds) (hf : fX12_laysSent_L18 N g x0 a = some ((), dz)) : WB p l e rmX12_laysSent s m args below meth c 4 D cy B 0 0 (MQ below (QV D cy B g dz) args s 0 0 (wA B)) g a.2 [(0, .ref (ad B x0)), (2, .int a.1)] 18 [] :=
  lp_w (fun K18 hK18 a ha => tX12_laysSent_18 C hr hlocks hK18 ha) N a hf
set_option maxRecDepth 100000 in
def fX12_laysSent (N : Nat) (g : Gs) (x0 : Nat) (d : Ds) : Option (Unit × Ds) := gd (chk g x0 11) <| bd (sI d x0 25 0) fun d2 => (bd (sI d2 x0 26 0) fun d3 => (cb (fX12_nextBegun N g x0 (-1) d3) fun u6 d4 => (fX12_laysSent_L18 N g x0 (u6, d4))))
set_option maxHeartbeats 4000000 in
set_option maxRecDepth 100000 in
theorem tX12_laysSent_E {p : Program} {l : Launch} {e : Env} {s : State} {m : MethodId} {args : Array Value} {below : List Frame} {meth : Method} {c : Code} {D : va_G} {cy : Nat → ClassId} {B : Bs} (C : Cx p s m args c cX12_laysSent 4 RX12 D cy B) (hr : meth.sig.returnType = none) (hlocks : meth.locks = false) {N : Nat} {g : Gs} {x0 : Nat}  {dz : Ds} {d : Ds} (hf : fX12_laysSent N g x0 d = some ((), dz)) : WB p l e rmX12_laysSent s m args below meth c 4 D cy B 0 0 (MQ below (QV D cy B g dz) args s 0 0 (wA B)) g d [(0, .ref (ad B x0))] 0 [] := by
  unfold fX12_laysSent at hf
  refine b_aload_n C dX12_laysSent_0 0 rfl rfl ?_
  refine b_iconst C (v := 0) dX12_laysSent_1 (by decide) ?_
  obtain ⟨h1, hf⟩ := gd_s hf
  obtain ⟨d2, ed2, hf⟩ := bd_s hf
  refine b_pI C dX12_laysSent_2 fl_X12_302 fp11_25 h1 ed2 ?_
  refine b_aload_n C dX12_laysSent_5 0 rfl rfl ?_
  refine b_iconst C (v := 0) dX12_laysSent_6 (by decide) ?_
  obtain ⟨d3, ed3, hf⟩ := bd_s hf
  refine b_pI C dX12_laysSent_7 fl_X12_299 fp11_26 h1 ed3 ?_
  refine b_iconst C (v := (-1)) dX12_laysSent_10 (by decide) ?_
  refine b_istore_n C dX12_laysSent_11 rfl [(1, .int (-1)), (0, .ref (ad B x0))] (by decide) rfl ?_
  refine b_aload_n C dX12_laysSent_12 1 rfl rfl ?_
  refine b_iload_n C dX12_laysSent_13 0 rfl rfl ?_
  obtain ⟨u6, d4, k5, hf⟩ := cb_s hf
  refine b_cVI C [] dX12_laysSent_14 (kX12_nextBegun l D cy B k5) lv_X12_305 ⟨rfl, rfl, Nat.le_of_ble_eq_true rfl, Nat.le_of_ble_eq_true rfl⟩ h1 (by decide) rfl (Nat.le_of_ble_eq_true rfl) ⟨Nat.zero_le _, Nat.zero_le _⟩ rfl ?_
  refine b_istore_n C dX12_laysSent_17 rfl [(2, .int u6), (1, .int (-1)), (0, .ref (ad B x0))] (by decide) rfl ?_
  refine b_sub [(0, .ref (ad B x0)), (2, .int u6)] [2, 0] rfl ?_
  exact tX12_laysSent_L18 C hr hlocks (u6, d4) hf
theorem kX12_laysSent (l : Launch) (D : va_G) (cy : Nat → ClassId) (B : Bs) {N : Nat} {g : Gs} {x0 : Nat}  {dz : Ds} {d : Ds} (hf : fX12_laysSent N g x0 d = some ((), dz)) : Met l yX12_laysSent (.code yX12_laysSent cX12_laysSent 4 none :: wl) rmX12_laysSent (PC D cy B [.ref (ad B x0)] g d) (QV D cy B g dz) 0 0 (wA B) :=
  met_of (by decide +kernel) (Nat.le_of_ble_eq_true rfl) (fun p e s m args below meth c C hr hlocks _ => b_sub [(0, .ref (ad B x0))] [0] rfl (tX12_laysSent_E C hr hlocks hf))
/-! KeyMatrixModel.reportAt(I)I -/
theorem dX12_reportAt_0 : decode cX12_reportAt 0 = .ok (.sipush 558, 3) := by decide +kernel
theorem dX12_reportAt_3 : decode cX12_reportAt 3 = .ok (.bipush 28, 2) := by decide +kernel
theorem dX12_reportAt_5 : decode cX12_reportAt 5 = .ok (.aload_n 0, 1) := by decide +kernel
theorem dX12_reportAt_6 : decode cX12_reportAt 6 = .ok (.getfield 40, 3) := by decide +kernel
theorem dX12_reportAt_9 : decode cX12_reportAt 9 = .ok (.sipush 555, 3) := by decide +kernel
theorem dX12_reportAt_12 : decode cX12_reportAt 12 = .ok (.iaload, 1) := by decide +kernel
theorem dX12_reportAt_13 : decode cX12_reportAt 13 = .ok (.iconst 1, 1) := by decide +kernel
theorem dX12_reportAt_14 : decode cX12_reportAt 14 = .ok (.isub, 1) := by decide +kernel
theorem dX12_reportAt_15 : decode cX12_reportAt 15 = .ok (.iload_n 1, 1) := by decide +kernel
theorem dX12_reportAt_16 : decode cX12_reportAt 16 = .ok (.isub, 1) := by decide +kernel
theorem dX12_reportAt_17 : decode cX12_reportAt 17 = .ok (.bipush 40, 2) := by decide +kernel
theorem dX12_reportAt_19 : decode cX12_reportAt 19 = .ok (.irem, 1) := by decide +kernel
theorem dX12_reportAt_20 : decode cX12_reportAt 20 = .ok (.imul, 1) := by decide +kernel
theorem dX12_reportAt_21 : decode cX12_reportAt 21 = .ok (.iadd, 1) := by decide +kernel
theorem dX12_reportAt_22 : decode cX12_reportAt 22 = .ok (.ireturn, 1) := by decide +kernel
def rmX12_reportAt : Room := { frames := 0, cells := 0, slots := 0, locals := 0 }
set_option maxRecDepth 100000 in
def fX12_reportAt (N : Nat) (g : Gs) (x0 : Nat) (x1 : Int32) (d : Ds) : Option (Int32 × Ds) := gd (chk g x0 11) <| ob (gR g x0 17) fun r2 => (gd (chk g r2 102) <| gd (¬ ((555 : Int32) < 0 ∨ gL g r2 ≤ (555 : Int32).toNatClampNeg)) <| gd (¬ (40 : Int32) = 0) <| bd ((((dI d r2 (555 : Int32).toNatClampNeg) - 1) - x1) - (((dI d r2 (555 : Int32).toNatClampNeg) - 1) - x1) / 40 * 40) fun u6 => (some (((558 : Int32) + ((28 : Int32) * u6)), d)))
set_option maxHeartbeats 4000000 in
set_option maxRecDepth 100000 in
theorem tX12_reportAt_E {p : Program} {l : Launch} {e : Env} {s : State} {m : MethodId} {args : Array Value} {below : List Frame} {meth : Method} {c : Code} {D : va_G} {cy : Nat → ClassId} {B : Bs} (C : Cx p s m args c cX12_reportAt 2 RX12 D cy B) (hr : meth.sig.returnType = (some .int)) (hlocks : meth.locks = false) {N : Nat} {g : Gs} {x0 : Nat} {x1 : Int32} {vz : Int32} {dz : Ds} {d : Ds} (hf : fX12_reportAt N g x0 x1 d = some (vz, dz)) : WB p l e rmX12_reportAt s m args below meth c 2 D cy B 0 0 (MQ below (QI D cy B vz g dz) args s 0 0 (wA B)) g d [(0, .ref (ad B x0)), (1, .int x1)] 0 [] := by
  unfold fX12_reportAt at hf
  refine b_sipush C (v := 558) dX12_reportAt_0 (by decide) ?_
  refine b_bipush C (v := 28) dX12_reportAt_3 (by decide) ?_
  refine b_aload_n C dX12_reportAt_5 0 rfl rfl ?_
  obtain ⟨h1, hf⟩ := gd_s hf
  obtain ⟨r2, er2, hf⟩ := ob_s hf
  refine b_gR C dX12_reportAt_6 fl_X12_40 h1 er2 ?_
  refine b_sipush C (v := 555) dX12_reportAt_9 (by decide) ?_
  obtain ⟨h3, hf⟩ := gd_s hf
  obtain ⟨h4, hf⟩ := gd_s hf
  refine b_iald C h3 h4 dX12_reportAt_12 ?_
  refine b_iconst C (v := 1) dX12_reportAt_13 (by decide) ?_
  refine b_isub C dX12_reportAt_14 ?_
  refine b_iload_n C dX12_reportAt_15 1 rfl rfl ?_
  refine b_isub C dX12_reportAt_16 ?_
  refine b_bipush C (v := 40) dX12_reportAt_17 (by decide) ?_
  obtain ⟨h5, hf⟩ := gd_s hf
  refine b_irem C dX12_reportAt_19 h5 ?_
  obtain ⟨u6, eu6, hf⟩ := bd_s hf
  refine b_topI eu6 ?_
  refine b_imul C dX12_reportAt_20 ?_
  refine b_iadd C dX12_reportAt_21 ?_
  exact b_iret C hr hlocks hf dX12_reportAt_22
theorem kX12_reportAt (l : Launch) (D : va_G) (cy : Nat → ClassId) (B : Bs) {N : Nat} {g : Gs} {x0 : Nat} {x1 : Int32} {vz : Int32} {dz : Ds} {d : Ds} (hf : fX12_reportAt N g x0 x1 d = some (vz, dz)) : Met l yX12_reportAt (.code yX12_reportAt cX12_reportAt 2 (some .int) :: wl) rmX12_reportAt (PC D cy B [.ref (ad B x0), .int x1] g d) (QI D cy B vz g dz) 0 0 (wA B) :=
  met_of (by decide +kernel) (Nat.le_of_ble_eq_true rfl) (fun p e s m args below meth c C hr hlocks _ => b_sub [(0, .ref (ad B x0)), (1, .int x1)] [0, 1] rfl (tX12_reportAt_E C hr hlocks hf))
/-! KeyMatrixModel.isLatest(I)Z -/
theorem yo_X12_reportAt : yX12_reportAt.cls ≠ "java/lang/invoke/MethodHandle" ∧ yX12_reportAt.cls ≠ "java/lang/invoke/VarHandle" ∧ (parseMethodDescriptor yX12_reportAt.desc).map (fun d => d.parameters.length) = some 1 := by decide +kernel
theorem co_X12_reportAt : Cond.code yX12_reportAt cX12_reportAt 2 (some .int) ∈ wl := mW (mT6 (List.mem_of_getElem? (i := 175) (by decide +kernel))) rfl
theorem in_X12_reportAt : Cond.initialized yX12_reportAt.cls ∈ wl := mW (mT1 (List.mem_of_getElem? (i := 12) (by decide +kernel))) rfl
theorem im_X12_reportAt : Cond.instanceMethod yX12_reportAt ∈ wl := mW (mT6 (List.mem_of_getElem? (i := 174) (by decide +kernel))) rfl
theorem se_X12_reportAt : Cond.selects yX12_reportAt.cls yX12_reportAt yX12_reportAt ∈ wl := mW (mT0 (List.mem_of_getElem? (i := 75) (by decide +kernel))) rfl
theorem lv_X12_311 : LV RX12 311 yX12_reportAt cX12_reportAt 2 (some .int) 1 11 := ⟨⟨(RX12, TX12, 33), rfl, rfl⟩, yo_X12_reportAt, mW (mT6 (List.mem_of_getElem? (i := 172) (by decide +kernel))) rfl, im_X12_reportAt, se_X12_reportAt, in_X12_reportAt, co_X12_reportAt⟩
theorem dX12_isLatest_0 : decode cX12_isLatest 0 = .ok (.aload_n 0, 1) := by decide +kernel
theorem dX12_isLatest_1 : decode cX12_isLatest 1 = .ok (.getfield 40, 3) := by decide +kernel
theorem dX12_isLatest_4 : decode cX12_isLatest 4 = .ok (.sipush 555, 3) := by decide +kernel
theorem dX12_isLatest_7 : decode cX12_isLatest 7 = .ok (.iaload, 1) := by decide +kernel
theorem dX12_isLatest_8 : decode cX12_isLatest 8 = .ok (.ifCond .ne 20, 3) := by decide +kernel
theorem dX12_isLatest_11 : decode cX12_isLatest 11 = .ok (.aload_n 0, 1) := by decide +kernel
theorem dX12_isLatest_12 : decode cX12_isLatest 12 = .ok (.getfield 302, 3) := by decide +kernel
theorem dX12_isLatest_15 : decode cX12_isLatest 15 = .ok (.ifCond .ne 11, 3) := by decide +kernel
theorem dX12_isLatest_18 : decode cX12_isLatest 18 = .ok (.iload_n 1, 1) := by decide +kernel
theorem dX12_isLatest_19 : decode cX12_isLatest 19 = .ok (.ifCond .ne 7, 3) := by decide +kernel
theorem dX12_isLatest_22 : decode cX12_isLatest 22 = .ok (.iconst 1, 1) := by decide +kernel
theorem dX12_isLatest_23 : decode cX12_isLatest 23 = .ok (.goto 4, 3) := by decide +kernel
theorem dX12_isLatest_26 : decode cX12_isLatest 26 = .ok (.iconst 0, 1) := by decide +kernel
theorem dX12_isLatest_27 : decode cX12_isLatest 27 = .ok (.ireturn, 1) := by decide +kernel
theorem dX12_isLatest_28 : decode cX12_isLatest 28 = .ok (.aload_n 0, 1) := by decide +kernel
theorem dX12_isLatest_29 : decode cX12_isLatest 29 = .ok (.iconst 0, 1) := by decide +kernel
theorem dX12_isLatest_30 : decode cX12_isLatest 30 = .ok (.invokevirtual 311, 3) := by decide +kernel
theorem dX12_isLatest_33 : decode cX12_isLatest 33 = .ok (.istore_n 2, 1) := by decide +kernel
theorem dX12_isLatest_34 : decode cX12_isLatest 34 = .ok (.aload_n 0, 1) := by decide +kernel
theorem dX12_isLatest_35 : decode cX12_isLatest 35 = .ok (.getfield 40, 3) := by decide +kernel
theorem dX12_isLatest_38 : decode cX12_isLatest 38 = .ok (.iload_n 2, 1) := by decide +kernel
theorem dX12_isLatest_39 : decode cX12_isLatest 39 = .ok (.iconst 1, 1) := by decide +kernel
theorem dX12_isLatest_40 : decode cX12_isLatest 40 = .ok (.iadd, 1) := by decide +kernel
theorem dX12_isLatest_41 : decode cX12_isLatest 41 = .ok (.iaload, 1) := by decide +kernel
theorem dX12_isLatest_42 : decode cX12_isLatest 42 = .ok (.aload_n 0, 1) := by decide +kernel
theorem dX12_isLatest_43 : decode cX12_isLatest 43 = .ok (.getfield 302, 3) := by decide +kernel
theorem dX12_isLatest_46 : decode cX12_isLatest 46 = .ok (.if_icmp .ne 15, 3) := by decide +kernel
theorem dX12_isLatest_49 : decode cX12_isLatest 49 = .ok (.aload_n 0, 1) := by decide +kernel
theorem dX12_isLatest_50 : decode cX12_isLatest 50 = .ok (.getfield 40, 3) := by decide +kernel
theorem dX12_isLatest_53 : decode cX12_isLatest 53 = .ok (.iload_n 2, 1) := by decide +kernel
theorem dX12_isLatest_54 : decode cX12_isLatest 54 = .ok (.iconst 2, 1) := by decide +kernel
theorem dX12_isLatest_55 : decode cX12_isLatest 55 = .ok (.iadd, 1) := by decide +kernel
theorem dX12_isLatest_56 : decode cX12_isLatest 56 = .ok (.iaload, 1) := by decide +kernel
theorem dX12_isLatest_57 : decode cX12_isLatest 57 = .ok (.iload_n 1, 1) := by decide +kernel
theorem dX12_isLatest_58 : decode cX12_isLatest 58 = .ok (.if_icmp .eq 5, 3) := by decide +kernel
theorem dX12_isLatest_61 : decode cX12_isLatest 61 = .ok (.iconst 0, 1) := by decide +kernel
theorem dX12_isLatest_62 : decode cX12_isLatest 62 = .ok (.ireturn, 1) := by decide +kernel
theorem dX12_isLatest_63 : decode cX12_isLatest 63 = .ok (.iconst 0, 1) := by decide +kernel
theorem dX12_isLatest_64 : decode cX12_isLatest 64 = .ok (.istore_n 3, 1) := by decide +kernel
theorem dX12_isLatest_65 : decode cX12_isLatest 65 = .ok (.iload_n 3, 1) := by decide +kernel
theorem dX12_isLatest_66 : decode cX12_isLatest 66 = .ok (.iload_n 1, 1) := by decide +kernel
theorem dX12_isLatest_67 : decode cX12_isLatest 67 = .ok (.if_icmp .ge 30, 3) := by decide +kernel
theorem dX12_isLatest_70 : decode cX12_isLatest 70 = .ok (.aload_n 0, 1) := by decide +kernel
theorem dX12_isLatest_71 : decode cX12_isLatest 71 = .ok (.getfield 40, 3) := by decide +kernel
theorem dX12_isLatest_74 : decode cX12_isLatest 74 = .ok (.iload_n 2, 1) := by decide +kernel
theorem dX12_isLatest_75 : decode cX12_isLatest 75 = .ok (.iconst 3, 1) := by decide +kernel
theorem dX12_isLatest_76 : decode cX12_isLatest 76 = .ok (.iadd, 1) := by decide +kernel
theorem dX12_isLatest_77 : decode cX12_isLatest 77 = .ok (.iload_n 3, 1) := by decide +kernel
theorem dX12_isLatest_78 : decode cX12_isLatest 78 = .ok (.iadd, 1) := by decide +kernel
theorem dX12_isLatest_79 : decode cX12_isLatest 79 = .ok (.iaload, 1) := by decide +kernel
theorem dX12_isLatest_80 : decode cX12_isLatest 80 = .ok (.aload_n 0, 1) := by decide +kernel
theorem dX12_isLatest_81 : decode cX12_isLatest 81 = .ok (.getfield 56, 3) := by decide +kernel
theorem dX12_isLatest_84 : decode cX12_isLatest 84 = .ok (.iload_n 3, 1) := by decide +kernel
theorem dX12_isLatest_85 : decode cX12_isLatest 85 = .ok (.iaload, 1) := by decide +kernel
theorem dX12_isLatest_86 : decode cX12_isLatest 86 = .ok (.if_icmp .eq 5, 3) := by decide +kernel
theorem dX12_isLatest_89 : decode cX12_isLatest 89 = .ok (.iconst 0, 1) := by decide +kernel
theorem dX12_isLatest_90 : decode cX12_isLatest 90 = .ok (.ireturn, 1) := by decide +kernel
theorem dX12_isLatest_91 : decode cX12_isLatest 91 = .ok (.iinc 3 1, 3) := by decide +kernel
theorem dX12_isLatest_94 : decode cX12_isLatest 94 = .ok (.goto (-29), 3) := by decide +kernel
theorem dX12_isLatest_97 : decode cX12_isLatest 97 = .ok (.iconst 1, 1) := by decide +kernel
theorem dX12_isLatest_98 : decode cX12_isLatest 98 = .ok (.ireturn, 1) := by decide +kernel
def rmX12_isLatest : Room := { frames := 1, cells := 0, slots := 0, locals := 21 }
set_option maxRecDepth 100000 in
def fX12_isLatest_J61 (N : Nat) (g : Gs) (x0 : Nat) (x1 : Int32) (d : Ds) : Option (Int32 × Ds) := some (0, d)
set_option maxHeartbeats 4000000 in
set_option maxRecDepth 100000 in
theorem tX12_isLatest_61 {p : Program} {l : Launch} {e : Env} {s : State} {m : MethodId} {args : Array Value} {below : List Frame} {meth : Method} {c : Code} {D : va_G} {cy : Nat → ClassId} {B : Bs} (C : Cx p s m args c cX12_isLatest 4 RX12 D cy B) (hr : meth.sig.returnType = (some .boolean)) (hlocks : meth.locks = false) {N : Nat} {g : Gs} {x0 : Nat} {x1 : Int32} {vz : Int32} {dz : Ds} {d : Ds} (hf : fX12_isLatest_J61 N g x0 x1 d = some (vz, dz)) : WB p l e rmX12_isLatest s m args below meth c 4 D cy B 0 0 (MQ below (QI D cy B vz g dz) args s 0 0 (wA B)) g d [(0, .ref (ad B x0)), (1, .int x1)] 61 [] := by
  unfold fX12_isLatest_J61 at hf
  refine b_iconst C (v := 0) dX12_isLatest_61 (by decide) ?_
  exact b_zret C hr hlocks (by decide) hf dX12_isLatest_62
set_option maxRecDepth 100000 in
def fX12_isLatest_B65 (N : Nat) (g : Gs) (x0 : Nat) (x1 : Int32) (K65 : Int32 × Int32 × Ds → Option (Int32 × Ds)) (y2 : Int32) (y3 : Int32) (d : Ds) : Option (Int32 × Ds) := if x1 ≤ y3 then (some (1, d)) else (gd (chk g x0 11) <| ob (gR g x0 17) fun r15 => (gd (chk g r15 102) <| gd (¬ (((y2 + 3) + y3) < 0 ∨ gL g r15 ≤ ((y2 + 3) + y3).toNatClampNeg)) <| ob (gR g x0 27) fun r18 => (gd (chk g r18 102) <| gd (¬ (y3 < 0 ∨ gL g r18 ≤ y3.toNatClampNeg)) <| if (dI d r15 ((y2 + 3) + y3).toNatClampNeg) = (dI d r18 y3.toNatClampNeg) then (bd (y3 + 1) fun u22 => (K65 (y2, u22, d))) else (some (0, d)))))
set_option maxHeartbeats 4000000 in
set_option maxRecDepth 100000 in
theorem tX12_isLatest_65 {p : Program} {l : Launch} {e : Env} {s : State} {m : MethodId} {args : Array Value} {below : List Frame} {meth : Method} {c : Code} {D : va_G} {cy : Nat → ClassId} {B : Bs} (C : Cx p s m args c cX12_isLatest 4 RX12 D cy B) (hr : meth.sig.returnType = (some .boolean)) (hlocks : meth.locks = false) {N : Nat} {g : Gs} {x0 : Nat} {x1 : Int32} {vz : Int32} {dz : Ds} {K65 : Int32 × Int32 × Ds → Option (Int32 × Ds)} (hK65 : ∀ a, K65 a = some (vz, dz) → WB p l e rmX12_isLatest s m args below meth c 4 D cy B 0 0 (MQ below (QI D cy B vz g dz) args s 0 0 (wA B)) g a.2.2 [(0, .ref (ad B x0)), (1, .int x1), (2, .int a.1), (3, .int a.2.1)] 65 []) {y2 : Int32} {y3 : Int32} {d : Ds} (hf : fX12_isLatest_B65 N g x0 x1 K65 y2 y3 d = some (vz, dz)) : WB p l e rmX12_isLatest s m args below meth c 4 D cy B 0 0 (MQ below (QI D cy B vz g dz) args s 0 0 (wA B)) g d [(0, .ref (ad B x0)), (1, .int x1), (2, .int y2), (3, .int y3)] 65 [] := by
  unfold fX12_isLatest_B65 at hf
  refine b_iload_n C dX12_isLatest_65 3 rfl rfl ?_
  refine b_iload_n C dX12_isLatest_66 1 rfl rfl ?_
  refine b_icmp_ge C (tgt := 97) dX12_isLatest_67 (by decide) (fun c13 => ?_) (fun c13 => ?_)
  · have hf := it_s c13 hf
    refine b_iconst C (v := 1) dX12_isLatest_97 (by decide) ?_
    exact b_zret C hr hlocks (by decide) hf dX12_isLatest_98
  · have hf := if_s c13 hf
    refine b_aload_n C dX12_isLatest_70 0 rfl rfl ?_
    obtain ⟨h14, hf⟩ := gd_s hf
    obtain ⟨r15, er15, hf⟩ := ob_s hf
    refine b_gR C dX12_isLatest_71 fl_X12_40 h14 er15 ?_
    refine b_iload_n C dX12_isLatest_74 2 rfl rfl ?_
    refine b_iconst C (v := 3) dX12_isLatest_75 (by decide) ?_
    refine b_iadd C dX12_isLatest_76 ?_
    refine b_iload_n C dX12_isLatest_77 3 rfl rfl ?_
    refine b_iadd C dX12_isLatest_78 ?_
    obtain ⟨h16, hf⟩ := gd_s hf
    obtain ⟨h17, hf⟩ := gd_s hf
    refine b_iald C h16 h17 dX12_isLatest_79 ?_
    refine b_aload_n C dX12_isLatest_80 0 rfl rfl ?_
    obtain ⟨r18, er18, hf⟩ := ob_s hf
    refine b_gR C dX12_isLatest_81 fl_X12_56 h14 er18 ?_
    refine b_iload_n C dX12_isLatest_84 3 rfl rfl ?_
    obtain ⟨h19, hf⟩ := gd_s hf
    obtain ⟨h20, hf⟩ := gd_s hf
    refine b_iald C h19 h20 dX12_isLatest_85 ?_
    refine b_icmp_eq C (tgt := 91) dX12_isLatest_86 (by decide) (fun c21 => ?_) (fun c21 => ?_)
    · have hf := it_s c21 hf
      obtain ⟨u22, eu22, hf⟩ := bd_s hf
      refine b_iinc C dX12_isLatest_91 3 rfl (by rw [eu22]; rfl) [(3, .int u22), (0, .ref (ad B x0)), (1, .int x1), (2, .int y2)] (by decide) rfl ?_
      refine b_goto C (tgt := 65) dX12_isLatest_94 (by decide) ?_
      refine b_sub [(0, .ref (ad B x0)), (1, .int x1), (2, .int y2), (3, .int u22)] [1, 2, 3, 0] rfl ?_
      exact hK65 (y2, u22, d) hf
    · have hf := if_s c21 hf
      refine b_iconst C (v := 0) dX12_isLatest_89 (by decide) ?_
      exact b_zret C hr hlocks (by decide) hf dX12_isLatest_90
def fX12_isLatest_L65 (N : Nat) (g : Gs) (x0 : Nat) (x1 : Int32) : Int32 × Int32 × Ds → Option (Int32 × Ds) := lp (fun K65 a => fX12_isLatest_B65 N g x0 x1 K65 a.1 a.2.1 a.2.2) N
theorem tX12_isLatest_L65 {p : Program} {l : Launch} {e : Env} {s : State} {m : MethodId} {args : Array Value} {below : List Frame} {meth : Method} {c : Code} {D : va_G} {cy : Nat → ClassId} {B : Bs} (C : Cx p s m args c cX12_isLatest 4 RX12 D cy B) (hr : meth.sig.returnType = (some .boolean)) (hlocks : meth.locks = false) {N : Nat} {g : Gs} {x0 : Nat} {x1 : Int32} {vz : Int32} {dz : Ds} (a : Int32 × Int32 × Ds) (hf : fX12_isLatest_L65 N g x0 x1 a = some (vz, dz)) : WB p l e rmX12_isLatest s m args below meth c 4 D cy B 0 0 (MQ below (QI D cy B vz g dz) args s 0 0 (wA B)) g a.2.2 [(0, .ref (ad B x0)), (1, .int x1), (2, .int a.1), (3, .int a.2.1)] 65 [] :=
  lp_w (fun K65 hK65 a ha => tX12_isLatest_65 C hr hlocks hK65 ha) N a hf
set_option maxRecDepth 100000 in
def fX12_isLatest_J27 (N : Nat) (g : Gs) (x0 : Nat) (x1 : Int32) (z0 : Int32) (d : Ds) : Option (Int32 × Ds) := gd (z0 = 0 ∨ z0 = 1) <| some (z0, d)
set_option maxHeartbeats 4000000 in
set_option maxRecDepth 100000 in
theorem tX12_isLatest_27 {p : Program} {l : Launch} {e : Env} {s : State} {m : MethodId} {args : Array Value} {below : List Frame} {meth : Method} {c : Code} {D : va_G} {cy : Nat → ClassId} {B : Bs} (C : Cx p s m args c cX12_isLatest 4 RX12 D cy B) (hr : meth.sig.returnType = (some .boolean)) (hlocks : meth.locks = false) {N : Nat} {g : Gs} {x0 : Nat} {x1 : Int32} {vz : Int32} {dz : Ds} {z0 : Int32} {d : Ds} (hf : fX12_isLatest_J27 N g x0 x1 z0 d = some (vz, dz)) : WB p l e rmX12_isLatest s m args below meth c 4 D cy B 0 0 (MQ below (QI D cy B vz g dz) args s 0 0 (wA B)) g d [(0, .ref (ad B x0)), (1, .int x1)] 27 [.int z0] := by
  unfold fX12_isLatest_J27 at hf
  obtain ⟨h24, hf⟩ := gd_s hf
  exact b_zret C hr hlocks h24 hf dX12_isLatest_27
set_option maxRecDepth 100000 in
def fX12_isLatest_J26 (N : Nat) (g : Gs) (x0 : Nat) (x1 : Int32) (d : Ds) : Option (Int32 × Ds) := fX12_isLatest_J27 N g x0 x1 0 d
set_option maxHeartbeats 4000000 in
set_option maxRecDepth 100000 in
theorem tX12_isLatest_26 {p : Program} {l : Launch} {e : Env} {s : State} {m : MethodId} {args : Array Value} {below : List Frame} {meth : Method} {c : Code} {D : va_G} {cy : Nat → ClassId} {B : Bs} (C : Cx p s m args c cX12_isLatest 4 RX12 D cy B) (hr : meth.sig.returnType = (some .boolean)) (hlocks : meth.locks = false) {N : Nat} {g : Gs} {x0 : Nat} {x1 : Int32} {vz : Int32} {dz : Ds} {d : Ds} (hf : fX12_isLatest_J26 N g x0 x1 d = some (vz, dz)) : WB p l e rmX12_isLatest s m args below meth c 4 D cy B 0 0 (MQ below (QI D cy B vz g dz) args s 0 0 (wA B)) g d [(0, .ref (ad B x0)), (1, .int x1)] 26 [] := by
  unfold fX12_isLatest_J26 at hf
  refine b_iconst C (v := 0) dX12_isLatest_26 (by decide) ?_
  refine b_sub [(0, .ref (ad B x0)), (1, .int x1)] [0, 1] rfl ?_
  exact tX12_isLatest_27 C hr hlocks hf
set_option maxRecDepth 100000 in
def fX12_isLatest (N : Nat) (g : Gs) (x0 : Nat) (x1 : Int32) (d : Ds) : Option (Int32 × Ds) := gd (chk g x0 11) <| ob (gR g x0 17) fun r2 => (gd (chk g r2 102) <| gd (¬ ((555 : Int32) < 0 ∨ gL g r2 ≤ (555 : Int32).toNatClampNeg)) <| if (dI d r2 (555 : Int32).toNatClampNeg) = 0 then (if (dI d x0 25) = 0 then (if x1 = 0 then (fX12_isLatest_J27 N g x0 x1 1 d) else (fX12_isLatest_J26 N g x0 x1 d)) else (fX12_isLatest_J26 N g x0 x1 d)) else (cb (fX12_reportAt N g x0 0 d) fun u8 d6 => (gd (¬ ((u8 + 1) < 0 ∨ gL g r2 ≤ (u8 + 1).toNatClampNeg)) <| if (dI d6 r2 (u8 + 1).toNatClampNeg) = (dI d6 x0 25) then (gd (¬ ((u8 + 2) < 0 ∨ gL g r2 ≤ (u8 + 2).toNatClampNeg)) <| if (dI d6 r2 (u8 + 2).toNatClampNeg) = x1 then (fX12_isLatest_L65 N g x0 x1 (u8, 0, d6)) else (fX12_isLatest_J61 N g x0 x1 d6)) else (fX12_isLatest_J61 N g x0 x1 d6))))
set_option maxHeartbeats 4000000 in
set_option maxRecDepth 100000 in
theorem tX12_isLatest_E {p : Program} {l : Launch} {e : Env} {s : State} {m : MethodId} {args : Array Value} {below : List Frame} {meth : Method} {c : Code} {D : va_G} {cy : Nat → ClassId} {B : Bs} (C : Cx p s m args c cX12_isLatest 4 RX12 D cy B) (hr : meth.sig.returnType = (some .boolean)) (hlocks : meth.locks = false) {N : Nat} {g : Gs} {x0 : Nat} {x1 : Int32} {vz : Int32} {dz : Ds} {d : Ds} (hf : fX12_isLatest N g x0 x1 d = some (vz, dz)) : WB p l e rmX12_isLatest s m args below meth c 4 D cy B 0 0 (MQ below (QI D cy B vz g dz) args s 0 0 (wA B)) g d [(0, .ref (ad B x0)), (1, .int x1)] 0 [] := by
  unfold fX12_isLatest at hf
  refine b_aload_n C dX12_isLatest_0 0 rfl rfl ?_
  obtain ⟨h1, hf⟩ := gd_s hf
  obtain ⟨r2, er2, hf⟩ := ob_s hf
  refine b_gR C dX12_isLatest_1 fl_X12_40 h1 er2 ?_
  refine b_sipush C (v := 555) dX12_isLatest_4 (by decide) ?_
  obtain ⟨h3, hf⟩ := gd_s hf
  obtain ⟨h4, hf⟩ := gd_s hf
  refine b_iald C h3 h4 dX12_isLatest_7 ?_
  refine b_if_ne C (tgt := 28) dX12_isLatest_8 (by decide) (fun c5 => ?_) (fun c5 => ?_)
  · have hf := if_s c5 hf
    refine b_aload_n C dX12_isLatest_28 0 rfl rfl ?_
    refine b_iconst C (v := 0) dX12_isLatest_29 (by decide) ?_
    obtain ⟨u8, d6, k7, hf⟩ := cb_s hf
    refine b_cVI C [] dX12_isLatest_30 (kX12_reportAt l D cy B k7) lv_X12_311 ⟨rfl, rfl, Nat.le_of_ble_eq_true rfl, Nat.le_of_ble_eq_true rfl⟩ h1 (by decide) rfl (Nat.le_of_ble_eq_true rfl) ⟨Nat.zero_le _, Nat.zero_le _⟩ rfl ?_
    refine b_istore_n C dX12_isLatest_33 rfl [(2, .int u8), (0, .ref (ad B x0)), (1, .int x1)] (by decide) rfl ?_
    refine b_aload_n C dX12_isLatest_34 1 rfl rfl ?_
    refine b_gR C dX12_isLatest_35 fl_X12_40 h1 er2 ?_
    refine b_iload_n C dX12_isLatest_38 0 rfl rfl ?_
    refine b_iconst C (v := 1) dX12_isLatest_39 (by decide) ?_
    refine b_iadd C dX12_isLatest_40 ?_
    obtain ⟨h9, hf⟩ := gd_s hf
    refine b_iald C h3 h9 dX12_isLatest_41 ?_
    refine b_aload_n C dX12_isLatest_42 1 rfl rfl ?_
    refine b_gI C dX12_isLatest_43 fl_X12_302 h1 ?_
    refine b_icmp_ne C (tgt := 61) dX12_isLatest_46 (by decide) (fun c10 => ?_) (fun c10 => ?_)
    · have hf := if_s c10 hf
      refine b_sub [(0, .ref (ad B x0)), (1, .int x1)] [1, 2] rfl ?_
      exact tX12_isLatest_61 C hr hlocks hf
    · have hf := it_s c10 hf
      refine b_aload_n C dX12_isLatest_49 1 rfl rfl ?_
      refine b_gR C dX12_isLatest_50 fl_X12_40 h1 er2 ?_
      refine b_iload_n C dX12_isLatest_53 0 rfl rfl ?_
      refine b_iconst C (v := 2) dX12_isLatest_54 (by decide) ?_
      refine b_iadd C dX12_isLatest_55 ?_
      obtain ⟨h11, hf⟩ := gd_s hf
      refine b_iald C h3 h11 dX12_isLatest_56 ?_
      refine b_iload_n C dX12_isLatest_57 2 rfl rfl ?_
      refine b_icmp_eq C (tgt := 63) dX12_isLatest_58 (by decide) (fun c12 => ?_) (fun c12 => ?_)
      · have hf := it_s c12 hf
        refine b_iconst C (v := 0) dX12_isLatest_63 (by decide) ?_
        refine b_istore_n C dX12_isLatest_64 rfl [(3, .int 0), (2, .int u8), (0, .ref (ad B x0)), (1, .int x1)] (by decide) rfl ?_
        refine b_sub [(0, .ref (ad B x0)), (1, .int x1), (2, .int u8), (3, .int 0)] [2, 3, 1, 0] rfl ?_
        exact tX12_isLatest_L65 C hr hlocks (u8, 0, d6) hf
      · have hf := if_s c12 hf
        refine b_sub [(0, .ref (ad B x0)), (1, .int x1)] [1, 2] rfl ?_
        exact tX12_isLatest_61 C hr hlocks hf
  · have hf := it_s c5 hf
    refine b_aload_n C dX12_isLatest_11 0 rfl rfl ?_
    refine b_gI C dX12_isLatest_12 fl_X12_302 h1 ?_
    refine b_if_ne C (tgt := 26) dX12_isLatest_15 (by decide) (fun c23 => ?_) (fun c23 => ?_)
    · have hf := if_s c23 hf
      refine b_sub [(0, .ref (ad B x0)), (1, .int x1)] [0, 1] rfl ?_
      exact tX12_isLatest_26 C hr hlocks hf
    · have hf := it_s c23 hf
      refine b_iload_n C dX12_isLatest_18 1 rfl rfl ?_
      refine b_if_ne C (tgt := 26) dX12_isLatest_19 (by decide) (fun c25 => ?_) (fun c25 => ?_)
      · have hf := if_s c25 hf
        refine b_sub [(0, .ref (ad B x0)), (1, .int x1)] [0, 1] rfl ?_
        exact tX12_isLatest_26 C hr hlocks hf
      · have hf := it_s c25 hf
        refine b_iconst C (v := 1) dX12_isLatest_22 (by decide) ?_
        refine b_goto C (tgt := 27) dX12_isLatest_23 (by decide) ?_
        refine b_sub [(0, .ref (ad B x0)), (1, .int x1)] [0, 1] rfl ?_
        exact tX12_isLatest_27 C hr hlocks hf
theorem kX12_isLatest (l : Launch) (D : va_G) (cy : Nat → ClassId) (B : Bs) {N : Nat} {g : Gs} {x0 : Nat} {x1 : Int32} {vz : Int32} {dz : Ds} {d : Ds} (hf : fX12_isLatest N g x0 x1 d = some (vz, dz)) : Met l yX12_isLatest (.code yX12_isLatest cX12_isLatest 4 (some .boolean) :: wl) rmX12_isLatest (PC D cy B [.ref (ad B x0), .int x1] g d) (QI D cy B vz g dz) 0 0 (wA B) :=
  met_of (by decide +kernel) (Nat.le_of_ble_eq_true rfl) (fun p e s m args below meth c C hr hlocks _ => b_sub [(0, .ref (ad B x0)), (1, .int x1)] [0, 1] rfl (tX12_isLatest_E C hr hlocks hf))
/-! KeyMatrixModel.reportHas(II)Z -/
theorem dX12_reportHas_0 : decode cX12_reportHas 0 = .ok (.iconst 0, 1) := by decide +kernel
theorem dX12_reportHas_1 : decode cX12_reportHas 1 = .ok (.istore_n 3, 1) := by decide +kernel
theorem dX12_reportHas_2 : decode cX12_reportHas 2 = .ok (.iload_n 3, 1) := by decide +kernel
theorem dX12_reportHas_3 : decode cX12_reportHas 3 = .ok (.aload_n 0, 1) := by decide +kernel
theorem dX12_reportHas_4 : decode cX12_reportHas 4 = .ok (.getfield 40, 3) := by decide +kernel
theorem dX12_reportHas_7 : decode cX12_reportHas 7 = .ok (.iload_n 1, 1) := by decide +kernel
theorem dX12_reportHas_8 : decode cX12_reportHas 8 = .ok (.iconst 2, 1) := by decide +kernel
theorem dX12_reportHas_9 : decode cX12_reportHas 9 = .ok (.iadd, 1) := by decide +kernel
theorem dX12_reportHas_10 : decode cX12_reportHas 10 = .ok (.iaload, 1) := by decide +kernel
theorem dX12_reportHas_11 : decode cX12_reportHas 11 = .ok (.if_icmp .ge 25, 3) := by decide +kernel
theorem dX12_reportHas_14 : decode cX12_reportHas 14 = .ok (.aload_n 0, 1) := by decide +kernel
theorem dX12_reportHas_15 : decode cX12_reportHas 15 = .ok (.getfield 40, 3) := by decide +kernel
theorem dX12_reportHas_18 : decode cX12_reportHas 18 = .ok (.iload_n 1, 1) := by decide +kernel
theorem dX12_reportHas_19 : decode cX12_reportHas 19 = .ok (.iconst 3, 1) := by decide +kernel
theorem dX12_reportHas_20 : decode cX12_reportHas 20 = .ok (.iadd, 1) := by decide +kernel
theorem dX12_reportHas_21 : decode cX12_reportHas 21 = .ok (.iload_n 3, 1) := by decide +kernel
theorem dX12_reportHas_22 : decode cX12_reportHas 22 = .ok (.iadd, 1) := by decide +kernel
theorem dX12_reportHas_23 : decode cX12_reportHas 23 = .ok (.iaload, 1) := by decide +kernel
theorem dX12_reportHas_24 : decode cX12_reportHas 24 = .ok (.iload_n 2, 1) := by decide +kernel
theorem dX12_reportHas_25 : decode cX12_reportHas 25 = .ok (.if_icmp .ne 5, 3) := by decide +kernel
theorem dX12_reportHas_28 : decode cX12_reportHas 28 = .ok (.iconst 1, 1) := by decide +kernel
theorem dX12_reportHas_29 : decode cX12_reportHas 29 = .ok (.ireturn, 1) := by decide +kernel
theorem dX12_reportHas_30 : decode cX12_reportHas 30 = .ok (.iinc 3 1, 3) := by decide +kernel
theorem dX12_reportHas_33 : decode cX12_reportHas 33 = .ok (.goto (-31), 3) := by decide +kernel
theorem dX12_reportHas_36 : decode cX12_reportHas 36 = .ok (.iconst 0, 1) := by decide +kernel
theorem dX12_reportHas_37 : decode cX12_reportHas 37 = .ok (.ireturn, 1) := by decide +kernel
def rmX12_reportHas : Room := { frames := 0, cells := 0, slots := 0, locals := 0 }
set_option maxRecDepth 100000 in
def fX12_reportHas_B2 (N : Nat) (g : Gs) (x0 : Nat) (x1 : Int32) (x2 : Int32) (K2 : Int32 × Ds → Option (Int32 × Ds)) (y3 : Int32) (d : Ds) : Option (Int32 × Ds) := gd (chk g x0 11) <| ob (gR g x0 17) fun r2 => (gd (chk g r2 102) <| gd (¬ ((x1 + 2) < 0 ∨ gL g r2 ≤ (x1 + 2).toNatClampNeg)) <| if (dI d r2 (x1 + 2).toNatClampNeg) ≤ y3 then (some (0, d)) else (gd (¬ (((x1 + 3) + y3) < 0 ∨ gL g r2 ≤ ((x1 + 3) + y3).toNatClampNeg)) <| if (dI d r2 ((x1 + 3) + y3).toNatClampNeg) = x2 then (some (1, d)) else (bd (y3 + 1) fun u8 => (K2 (u8, d)))))
set_option maxHeartbeats 4000000 in
set_option maxRecDepth 100000 in
theorem tX12_reportHas_2 {p : Program} {l : Launch} {e : Env} {s : State} {m : MethodId} {args : Array Value} {below : List Frame} {meth : Method} {c : Code} {D : va_G} {cy : Nat → ClassId} {B : Bs} (C : Cx p s m args c cX12_reportHas 4 RX12 D cy B) (hr : meth.sig.returnType = (some .boolean)) (hlocks : meth.locks = false) {N : Nat} {g : Gs} {x0 : Nat} {x1 : Int32} {x2 : Int32} {vz : Int32} {dz : Ds} {K2 : Int32 × Ds → Option (Int32 × Ds)} (hK2 : ∀ a, K2 a = some (vz, dz) → WB p l e rmX12_reportHas s m args below meth c 4 D cy B 0 0 (MQ below (QI D cy B vz g dz) args s 0 0 (wA B)) g a.2 [(0, .ref (ad B x0)), (1, .int x1), (2, .int x2), (3, .int a.1)] 2 []) {y3 : Int32} {d : Ds} (hf : fX12_reportHas_B2 N g x0 x1 x2 K2 y3 d = some (vz, dz)) : WB p l e rmX12_reportHas s m args below meth c 4 D cy B 0 0 (MQ below (QI D cy B vz g dz) args s 0 0 (wA B)) g d [(0, .ref (ad B x0)), (1, .int x1), (2, .int x2), (3, .int y3)] 2 [] := by
  unfold fX12_reportHas_B2 at hf
  refine b_iload_n C dX12_reportHas_2 3 rfl rfl ?_
  refine b_aload_n C dX12_reportHas_3 0 rfl rfl ?_
  obtain ⟨h1, hf⟩ := gd_s hf
  obtain ⟨r2, er2, hf⟩ := ob_s hf
  refine b_gR C dX12_reportHas_4 fl_X12_40 h1 er2 ?_
  refine b_iload_n C dX12_reportHas_7 1 rfl rfl ?_
  refine b_iconst C (v := 2) dX12_reportHas_8 (by decide) ?_
  refine b_iadd C dX12_reportHas_9 ?_
  obtain ⟨h3, hf⟩ := gd_s hf
  obtain ⟨h4, hf⟩ := gd_s hf
  refine b_iald C h3 h4 dX12_reportHas_10 ?_
  refine b_icmp_ge C (tgt := 36) dX12_reportHas_11 (by decide) (fun c5 => ?_) (fun c5 => ?_)
  · have hf := it_s c5 hf
    refine b_iconst C (v := 0) dX12_reportHas_36 (by decide) ?_
    exact b_zret C hr hlocks (by decide) hf dX12_reportHas_37
  · have hf := if_s c5 hf
    refine b_aload_n C dX12_reportHas_14 0 rfl rfl ?_
    refine b_gR C dX12_reportHas_15 fl_X12_40 h1 er2 ?_
    refine b_iload_n C dX12_reportHas_18 1 rfl rfl ?_
    refine b_iconst C (v := 3) dX12_reportHas_19 (by decide) ?_
    refine b_iadd C dX12_reportHas_20 ?_
    refine b_iload_n C dX12_reportHas_21 3 rfl rfl ?_
    refine b_iadd C dX12_reportHas_22 ?_
    obtain ⟨h6, hf⟩ := gd_s hf
    refine b_iald C h3 h6 dX12_reportHas_23 ?_
    refine b_iload_n C dX12_reportHas_24 2 rfl rfl ?_
    refine b_icmp_ne C (tgt := 30) dX12_reportHas_25 (by decide) (fun c7 => ?_) (fun c7 => ?_)
    · have hf := if_s c7 hf
      obtain ⟨u8, eu8, hf⟩ := bd_s hf
      refine b_iinc C dX12_reportHas_30 3 rfl (by rw [eu8]; rfl) [(3, .int u8), (0, .ref (ad B x0)), (1, .int x1), (2, .int x2)] (by decide) rfl ?_
      refine b_goto C (tgt := 2) dX12_reportHas_33 (by decide) ?_
      refine b_sub [(0, .ref (ad B x0)), (1, .int x1), (2, .int x2), (3, .int u8)] [1, 2, 3, 0] rfl ?_
      exact hK2 (u8, d) hf
    · have hf := it_s c7 hf
      refine b_iconst C (v := 1) dX12_reportHas_28 (by decide) ?_
      exact b_zret C hr hlocks (by decide) hf dX12_reportHas_29
def fX12_reportHas_L2 (N : Nat) (g : Gs) (x0 : Nat) (x1 : Int32) (x2 : Int32) : Int32 × Ds → Option (Int32 × Ds) := lp (fun K2 a => fX12_reportHas_B2 N g x0 x1 x2 K2 a.1 a.2) N
theorem tX12_reportHas_L2 {p : Program} {l : Launch} {e : Env} {s : State} {m : MethodId} {args : Array Value} {below : List Frame} {meth : Method} {c : Code} {D : va_G} {cy : Nat → ClassId} {B : Bs} (C : Cx p s m args c cX12_reportHas 4 RX12 D cy B) (hr : meth.sig.returnType = (some .boolean)) (hlocks : meth.locks = false) {N : Nat} {g : Gs} {x0 : Nat} {x1 : Int32} {x2 : Int32} {vz : Int32} {dz : Ds} (a : Int32 × Ds) (hf : fX12_reportHas_L2 N g x0 x1 x2 a = some (vz, dz)) : WB p l e rmX12_reportHas s m args below meth c 4 D cy B 0 0 (MQ below (QI D cy B vz g dz) args s 0 0 (wA B)) g a.2 [(0, .ref (ad B x0)), (1, .int x1), (2, .int x2), (3, .int a.1)] 2 [] :=
  lp_w (fun K2 hK2 a ha => tX12_reportHas_2 C hr hlocks hK2 ha) N a hf
set_option maxRecDepth 100000 in
def fX12_reportHas (N : Nat) (g : Gs) (x0 : Nat) (x1 : Int32) (x2 : Int32) (d : Ds) : Option (Int32 × Ds) := fX12_reportHas_L2 N g x0 x1 x2 (0, d)
set_option maxHeartbeats 4000000 in
set_option maxRecDepth 100000 in
theorem tX12_reportHas_E {p : Program} {l : Launch} {e : Env} {s : State} {m : MethodId} {args : Array Value} {below : List Frame} {meth : Method} {c : Code} {D : va_G} {cy : Nat → ClassId} {B : Bs} (C : Cx p s m args c cX12_reportHas 4 RX12 D cy B) (hr : meth.sig.returnType = (some .boolean)) (hlocks : meth.locks = false) {N : Nat} {g : Gs} {x0 : Nat} {x1 : Int32} {x2 : Int32} {vz : Int32} {dz : Ds} {d : Ds} (hf : fX12_reportHas N g x0 x1 x2 d = some (vz, dz)) : WB p l e rmX12_reportHas s m args below meth c 4 D cy B 0 0 (MQ below (QI D cy B vz g dz) args s 0 0 (wA B)) g d [(0, .ref (ad B x0)), (1, .int x1), (2, .int x2)] 0 [] := by
  unfold fX12_reportHas at hf
  refine b_iconst C (v := 0) dX12_reportHas_0 (by decide) ?_
  refine b_istore_n C dX12_reportHas_1 rfl [(3, .int 0), (0, .ref (ad B x0)), (1, .int x1), (2, .int x2)] (by decide) rfl ?_
  refine b_sub [(0, .ref (ad B x0)), (1, .int x1), (2, .int x2), (3, .int 0)] [1, 2, 3, 0] rfl ?_
  exact tX12_reportHas_L2 C hr hlocks (0, d) hf
theorem kX12_reportHas (l : Launch) (D : va_G) (cy : Nat → ClassId) (B : Bs) {N : Nat} {g : Gs} {x0 : Nat} {x1 : Int32} {x2 : Int32} {vz : Int32} {dz : Ds} {d : Ds} (hf : fX12_reportHas N g x0 x1 x2 d = some (vz, dz)) : Met l yX12_reportHas (.code yX12_reportHas cX12_reportHas 4 (some .boolean) :: wl) rmX12_reportHas (PC D cy B [.ref (ad B x0), .int x1, .int x2] g d) (QI D cy B vz g dz) 0 0 (wA B) :=
  met_of (by decide +kernel) (Nat.le_of_ble_eq_true rfl) (fun p e s m args below meth c C hr hlocks _ => b_sub [(0, .ref (ad B x0)), (1, .int x1), (2, .int x2)] [0, 1, 2] rfl (tX12_reportHas_E C hr hlocks hf))
/-! KeyMatrixModel.hears(I)V -/
theorem yo_X12_reportHas : yX12_reportHas.cls ≠ "java/lang/invoke/MethodHandle" ∧ yX12_reportHas.cls ≠ "java/lang/invoke/VarHandle" ∧ (parseMethodDescriptor yX12_reportHas.desc).map (fun d => d.parameters.length) = some 2 := by decide +kernel
theorem co_X12_reportHas : Cond.code yX12_reportHas cX12_reportHas 4 (some .boolean) ∈ wl := mW (mT6 (List.mem_of_getElem? (i := 183) (by decide +kernel))) rfl
theorem in_X12_reportHas : Cond.initialized yX12_reportHas.cls ∈ wl := mW (mT1 (List.mem_of_getElem? (i := 12) (by decide +kernel))) rfl
theorem im_X12_reportHas : Cond.instanceMethod yX12_reportHas ∈ wl := mW (mT6 (List.mem_of_getElem? (i := 182) (by decide +kernel))) rfl
theorem se_X12_reportHas : Cond.selects yX12_reportHas.cls yX12_reportHas yX12_reportHas ∈ wl := mW (mT0 (List.mem_of_getElem? (i := 77) (by decide +kernel))) rfl
theorem lv_X12_323 : LV RX12 323 yX12_reportHas cX12_reportHas 4 (some .boolean) 2 11 := ⟨⟨(RX12, TX12, 33), rfl, rfl⟩, yo_X12_reportHas, mW (mT6 (List.mem_of_getElem? (i := 180) (by decide +kernel))) rfl, im_X12_reportHas, se_X12_reportHas, in_X12_reportHas, co_X12_reportHas⟩
theorem dX12_hears_0 : decode cX12_hears 0 = .ok (.iconst (-1), 1) := by decide +kernel
theorem dX12_hears_1 : decode cX12_hears 1 = .ok (.istore_n 2, 1) := by decide +kernel
theorem dX12_hears_2 : decode cX12_hears 2 = .ok (.iconst 0, 1) := by decide +kernel
theorem dX12_hears_3 : decode cX12_hears 3 = .ok (.istore_n 3, 1) := by decide +kernel
theorem dX12_hears_4 : decode cX12_hears 4 = .ok (.iload_n 3, 1) := by decide +kernel
theorem dX12_hears_5 : decode cX12_hears 5 = .ok (.aload_n 0, 1) := by decide +kernel
theorem dX12_hears_6 : decode cX12_hears 6 = .ok (.getfield 40, 3) := by decide +kernel
theorem dX12_hears_9 : decode cX12_hears 9 = .ok (.iload_n 1, 1) := by decide +kernel
theorem dX12_hears_10 : decode cX12_hears 10 = .ok (.iconst 2, 1) := by decide +kernel
theorem dX12_hears_11 : decode cX12_hears 11 = .ok (.iadd, 1) := by decide +kernel
theorem dX12_hears_12 : decode cX12_hears 12 = .ok (.iaload, 1) := by decide +kernel
theorem dX12_hears_13 : decode cX12_hears 13 = .ok (.if_icmp .ge 66, 3) := by decide +kernel
theorem dX12_hears_16 : decode cX12_hears 16 = .ok (.aload_n 0, 1) := by decide +kernel
theorem dX12_hears_17 : decode cX12_hears 17 = .ok (.getfield 40, 3) := by decide +kernel
theorem dX12_hears_20 : decode cX12_hears 20 = .ok (.sipush 555, 3) := by decide +kernel
theorem dX12_hears_23 : decode cX12_hears 23 = .ok (.iaload, 1) := by decide +kernel
theorem dX12_hears_24 : decode cX12_hears 24 = .ok (.iconst 1, 1) := by decide +kernel
theorem dX12_hears_25 : decode cX12_hears 25 = .ok (.if_icmp .le 29, 3) := by decide +kernel
theorem dX12_hears_28 : decode cX12_hears 28 = .ok (.aload_n 0, 1) := by decide +kernel
theorem dX12_hears_29 : decode cX12_hears 29 = .ok (.aload_n 0, 1) := by decide +kernel
theorem dX12_hears_30 : decode cX12_hears 30 = .ok (.iconst 1, 1) := by decide +kernel
theorem dX12_hears_31 : decode cX12_hears 31 = .ok (.invokevirtual 311, 3) := by decide +kernel
theorem dX12_hears_34 : decode cX12_hears 34 = .ok (.aload_n 0, 1) := by decide +kernel
theorem dX12_hears_35 : decode cX12_hears 35 = .ok (.getfield 40, 3) := by decide +kernel
theorem dX12_hears_38 : decode cX12_hears 38 = .ok (.iload_n 1, 1) := by decide +kernel
theorem dX12_hears_39 : decode cX12_hears 39 = .ok (.iconst 3, 1) := by decide +kernel
theorem dX12_hears_40 : decode cX12_hears 40 = .ok (.iadd, 1) := by decide +kernel
theorem dX12_hears_41 : decode cX12_hears 41 = .ok (.iload_n 3, 1) := by decide +kernel
theorem dX12_hears_42 : decode cX12_hears 42 = .ok (.iadd, 1) := by decide +kernel
theorem dX12_hears_43 : decode cX12_hears 43 = .ok (.iaload, 1) := by decide +kernel
theorem dX12_hears_44 : decode cX12_hears 44 = .ok (.invokevirtual 323, 3) := by decide +kernel
theorem dX12_hears_47 : decode cX12_hears 47 = .ok (.ifCond .eq 7, 3) := by decide +kernel
theorem dX12_hears_50 : decode cX12_hears 50 = .ok (.iconst 1, 1) := by decide +kernel
theorem dX12_hears_51 : decode cX12_hears 51 = .ok (.goto 4, 3) := by decide +kernel
theorem dX12_hears_54 : decode cX12_hears 54 = .ok (.iconst 0, 1) := by decide +kernel
theorem dX12_hears_55 : decode cX12_hears 55 = .ok (.istore 4, 2) := by decide +kernel
theorem dX12_hears_57 : decode cX12_hears 57 = .ok (.iload 4, 2) := by decide +kernel
theorem dX12_hears_59 : decode cX12_hears 59 = .ok (.ifCond .ne 14, 3) := by decide +kernel
theorem dX12_hears_62 : decode cX12_hears 62 = .ok (.aload_n 0, 1) := by decide +kernel
theorem dX12_hears_63 : decode cX12_hears 63 = .ok (.getfield 40, 3) := by decide +kernel
theorem dX12_hears_66 : decode cX12_hears 66 = .ok (.iload_n 1, 1) := by decide +kernel
theorem dX12_hears_67 : decode cX12_hears 67 = .ok (.iconst 3, 1) := by decide +kernel
theorem dX12_hears_68 : decode cX12_hears 68 = .ok (.iadd, 1) := by decide +kernel
theorem dX12_hears_69 : decode cX12_hears 69 = .ok (.iload_n 3, 1) := by decide +kernel
theorem dX12_hears_70 : decode cX12_hears 70 = .ok (.iadd, 1) := by decide +kernel
theorem dX12_hears_71 : decode cX12_hears 71 = .ok (.iaload, 1) := by decide +kernel
theorem dX12_hears_72 : decode cX12_hears 72 = .ok (.istore_n 2, 1) := by decide +kernel
theorem dX12_hears_73 : decode cX12_hears 73 = .ok (.iinc 3 1, 3) := by decide +kernel
theorem dX12_hears_76 : decode cX12_hears 76 = .ok (.goto (-72), 3) := by decide +kernel
theorem dX12_hears_79 : decode cX12_hears 79 = .ok (.iload_n 2, 1) := by decide +kernel
theorem dX12_hears_80 : decode cX12_hears 80 = .ok (.ifCond .lt 40, 3) := by decide +kernel
theorem dX12_hears_83 : decode cX12_hears 83 = .ok (.aload_n 0, 1) := by decide +kernel
theorem dX12_hears_84 : decode cX12_hears 84 = .ok (.getfield 40, 3) := by decide +kernel
theorem dX12_hears_87 : decode cX12_hears 87 = .ok (.sipush 455, 3) := by decide +kernel
theorem dX12_hears_90 : decode cX12_hears 90 = .ok (.iload_n 2, 1) := by decide +kernel
theorem dX12_hears_91 : decode cX12_hears 91 = .ok (.iastore, 1) := by decide +kernel
theorem dX12_hears_92 : decode cX12_hears 92 = .ok (.aload_n 0, 1) := by decide +kernel
theorem dX12_hears_93 : decode cX12_hears 93 = .ok (.getfield 40, 3) := by decide +kernel
theorem dX12_hears_96 : decode cX12_hears 96 = .ok (.sipush 456, 3) := by decide +kernel
theorem dX12_hears_99 : decode cX12_hears 99 = .ok (.aload_n 0, 1) := by decide +kernel
theorem dX12_hears_100 : decode cX12_hears 100 = .ok (.getfield 40, 3) := by decide +kernel
theorem dX12_hears_103 : decode cX12_hears 103 = .ok (.sipush 354, 3) := by decide +kernel
theorem dX12_hears_106 : decode cX12_hears 106 = .ok (.iaload, 1) := by decide +kernel
theorem dX12_hears_107 : decode cX12_hears 107 = .ok (.iastore, 1) := by decide +kernel
theorem dX12_hears_108 : decode cX12_hears 108 = .ok (.aload_n 0, 1) := by decide +kernel
theorem dX12_hears_109 : decode cX12_hears 109 = .ok (.getfield 40, 3) := by decide +kernel
theorem dX12_hears_112 : decode cX12_hears 112 = .ok (.sipush 458, 3) := by decide +kernel
theorem dX12_hears_115 : decode cX12_hears 115 = .ok (.iconst 0, 1) := by decide +kernel
theorem dX12_hears_116 : decode cX12_hears 116 = .ok (.iastore, 1) := by decide +kernel
theorem dX12_hears_117 : decode cX12_hears 117 = .ok (.goto 57, 3) := by decide +kernel
theorem dX12_hears_120 : decode cX12_hears 120 = .ok (.aload_n 0, 1) := by decide +kernel
theorem dX12_hears_121 : decode cX12_hears 121 = .ok (.getfield 40, 3) := by decide +kernel
theorem dX12_hears_124 : decode cX12_hears 124 = .ok (.sipush 455, 3) := by decide +kernel
theorem dX12_hears_127 : decode cX12_hears 127 = .ok (.iaload, 1) := by decide +kernel
theorem dX12_hears_128 : decode cX12_hears 128 = .ok (.ifCond .lt 46, 3) := by decide +kernel
theorem dX12_hears_131 : decode cX12_hears 131 = .ok (.aload_n 0, 1) := by decide +kernel
theorem dX12_hears_132 : decode cX12_hears 132 = .ok (.iload_n 1, 1) := by decide +kernel
theorem dX12_hears_133 : decode cX12_hears 133 = .ok (.aload_n 0, 1) := by decide +kernel
theorem dX12_hears_134 : decode cX12_hears 134 = .ok (.getfield 40, 3) := by decide +kernel
theorem dX12_hears_137 : decode cX12_hears 137 = .ok (.sipush 455, 3) := by decide +kernel
theorem dX12_hears_140 : decode cX12_hears 140 = .ok (.iaload, 1) := by decide +kernel
theorem dX12_hears_141 : decode cX12_hears 141 = .ok (.invokevirtual 323, 3) := by decide +kernel
theorem dX12_hears_144 : decode cX12_hears 144 = .ok (.ifCond .ne 30, 3) := by decide +kernel
theorem dX12_hears_147 : decode cX12_hears 147 = .ok (.aload_n 0, 1) := by decide +kernel
theorem dX12_hears_148 : decode cX12_hears 148 = .ok (.getfield 40, 3) := by decide +kernel
theorem dX12_hears_151 : decode cX12_hears 151 = .ok (.sipush 455, 3) := by decide +kernel
theorem dX12_hears_154 : decode cX12_hears 154 = .ok (.iconst (-1), 1) := by decide +kernel
theorem dX12_hears_155 : decode cX12_hears 155 = .ok (.iastore, 1) := by decide +kernel
theorem dX12_hears_156 : decode cX12_hears 156 = .ok (.aload_n 0, 1) := by decide +kernel
theorem dX12_hears_157 : decode cX12_hears 157 = .ok (.getfield 40, 3) := by decide +kernel
theorem dX12_hears_160 : decode cX12_hears 160 = .ok (.sipush 456, 3) := by decide +kernel
theorem dX12_hears_163 : decode cX12_hears 163 = .ok (.iconst (-1), 1) := by decide +kernel
theorem dX12_hears_164 : decode cX12_hears 164 = .ok (.iastore, 1) := by decide +kernel
theorem dX12_hears_165 : decode cX12_hears 165 = .ok (.aload_n 0, 1) := by decide +kernel
theorem dX12_hears_166 : decode cX12_hears 166 = .ok (.getfield 40, 3) := by decide +kernel
theorem dX12_hears_169 : decode cX12_hears 169 = .ok (.sipush 458, 3) := by decide +kernel
theorem dX12_hears_172 : decode cX12_hears 172 = .ok (.iconst (-1), 1) := by decide +kernel
theorem dX12_hears_173 : decode cX12_hears 173 = .ok (.iastore, 1) := by decide +kernel
theorem dX12_hears_174 : decode cX12_hears 174 = .ok (.return_, 1) := by decide +kernel
def rmX12_hears : Room := { frames := 1, cells := 0, slots := 0, locals := 23 }
set_option maxRecDepth 100000 in
def fX12_hears_J174 (N : Nat) (g : Gs) (x0 : Nat) (x1 : Int32) (d : Ds) : Option (Unit × Ds) := some ((), d)
set_option maxHeartbeats 4000000 in
set_option maxRecDepth 100000 in
theorem tX12_hears_174 {p : Program} {l : Launch} {e : Env} {s : State} {m : MethodId} {args : Array Value} {below : List Frame} {meth : Method} {c : Code} {D : va_G} {cy : Nat → ClassId} {B : Bs} (C : Cx p s m args c cX12_hears 5 RX12 D cy B) (hr : meth.sig.returnType = none) (hlocks : meth.locks = false) {N : Nat} {g : Gs} {x0 : Nat} {x1 : Int32}  {dz : Ds} {d : Ds} (hf : fX12_hears_J174 N g x0 x1 d = some ((), dz)) : WB p l e rmX12_hears s m args below meth c 5 D cy B 0 0 (MQ below (QV D cy B g dz) args s 0 0 (wA B)) g d [(0, .ref (ad B x0)), (1, .int x1)] 174 [] := by
  unfold fX12_hears_J174 at hf
  exact b_vret C hr hlocks hf dX12_hears_174
set_option maxRecDepth 100000 in
def fX12_hears_J73 (N : Nat) (g : Gs) (x0 : Nat) (x1 : Int32) (K4 : Int32 × Int32 × Ds → Option (Unit × Ds)) (y2 : Int32) (y3 : Int32) (d : Ds) : Option (Unit × Ds) := bd (y3 + 1) fun u28 => (K4 (y2, u28, d))
set_option maxHeartbeats 4000000 in
set_option maxRecDepth 100000 in
theorem tX12_hears_73 {p : Program} {l : Launch} {e : Env} {s : State} {m : MethodId} {args : Array Value} {below : List Frame} {meth : Method} {c : Code} {D : va_G} {cy : Nat → ClassId} {B : Bs} (C : Cx p s m args c cX12_hears 5 RX12 D cy B) (hr : meth.sig.returnType = none) (hlocks : meth.locks = false) {N : Nat} {g : Gs} {x0 : Nat} {x1 : Int32}  {dz : Ds} {K4 : Int32 × Int32 × Ds → Option (Unit × Ds)} (hK4 : ∀ a, K4 a = some ((), dz) → WB p l e rmX12_hears s m args below meth c 5 D cy B 0 0 (MQ below (QV D cy B g dz) args s 0 0 (wA B)) g a.2.2 [(0, .ref (ad B x0)), (1, .int x1), (2, .int a.1), (3, .int a.2.1)] 4 []) {y2 : Int32} {y3 : Int32} {d : Ds} (hf : fX12_hears_J73 N g x0 x1 K4 y2 y3 d = some ((), dz)) : WB p l e rmX12_hears s m args below meth c 5 D cy B 0 0 (MQ below (QV D cy B g dz) args s 0 0 (wA B)) g d [(0, .ref (ad B x0)), (1, .int x1), (2, .int y2), (3, .int y3)] 73 [] := by
  unfold fX12_hears_J73 at hf
  obtain ⟨u28, eu28, hf⟩ := bd_s hf
  refine b_iinc C dX12_hears_73 3 rfl (by rw [eu28]; rfl) [(3, .int u28), (0, .ref (ad B x0)), (1, .int x1), (2, .int y2)] (by decide) rfl ?_
  refine b_goto C (tgt := 4) dX12_hears_76 (by decide) ?_
  refine b_sub [(0, .ref (ad B x0)), (1, .int x1), (2, .int y2), (3, .int u28)] [1, 2, 3, 0] rfl ?_
  exact hK4 (y2, u28, d) hf
set_option maxRecDepth 100000 in
def fX12_hears_J55 (N : Nat) (g : Gs) (x0 : Nat) (x1 : Int32) (K4 : Int32 × Int32 × Ds → Option (Unit × Ds)) (y2 : Int32) (y3 : Int32) (z0 : Int32) (d : Ds) : Option (Unit × Ds) := if z0 = 0 then (gd (chk g x0 11) <| ob (gR g x0 17) fun r30 => (gd (chk g r30 102) <| gd (¬ (((x1 + 3) + y3) < 0 ∨ gL g r30 ≤ ((x1 + 3) + y3).toNatClampNeg)) <| bd ((dI d r30 ((x1 + 3) + y3).toNatClampNeg)) fun u33 => (fX12_hears_J73 N g x0 x1 K4 u33 y3 d))) else (fX12_hears_J73 N g x0 x1 K4 y2 y3 d)
set_option maxHeartbeats 4000000 in
set_option maxRecDepth 100000 in
theorem tX12_hears_55 {p : Program} {l : Launch} {e : Env} {s : State} {m : MethodId} {args : Array Value} {below : List Frame} {meth : Method} {c : Code} {D : va_G} {cy : Nat → ClassId} {B : Bs} (C : Cx p s m args c cX12_hears 5 RX12 D cy B) (hr : meth.sig.returnType = none) (hlocks : meth.locks = false) {N : Nat} {g : Gs} {x0 : Nat} {x1 : Int32}  {dz : Ds} {K4 : Int32 × Int32 × Ds → Option (Unit × Ds)} (hK4 : ∀ a, K4 a = some ((), dz) → WB p l e rmX12_hears s m args below meth c 5 D cy B 0 0 (MQ below (QV D cy B g dz) args s 0 0 (wA B)) g a.2.2 [(0, .ref (ad B x0)), (1, .int x1), (2, .int a.1), (3, .int a.2.1)] 4 []) {y2 : Int32} {y3 : Int32} {z0 : Int32} {d : Ds} (hf : fX12_hears_J55 N g x0 x1 K4 y2 y3 z0 d = some ((), dz)) : WB p l e rmX12_hears s m args below meth c 5 D cy B 0 0 (MQ below (QV D cy B g dz) args s 0 0 (wA B)) g d [(0, .ref (ad B x0)), (1, .int x1), (2, .int y2), (3, .int y3)] 55 [.int z0] := by
  unfold fX12_hears_J55 at hf
  refine b_istore C dX12_hears_55 [(4, .int z0), (0, .ref (ad B x0)), (1, .int x1), (2, .int y2), (3, .int y3)] (by decide) rfl ?_
  refine b_iload C dX12_hears_57 0 rfl ?_
  refine b_if_ne C (tgt := 73) dX12_hears_59 (by decide) (fun c27 => ?_) (fun c27 => ?_)
  · have hf := if_s c27 hf
    refine b_sub [(0, .ref (ad B x0)), (1, .int x1), (2, .int y2), (3, .int y3)] [1, 2, 3, 4] rfl ?_
    exact tX12_hears_73 C hr hlocks hK4 hf
  · have hf := it_s c27 hf
    refine b_aload_n C dX12_hears_62 1 rfl rfl ?_
    obtain ⟨h29, hf⟩ := gd_s hf
    obtain ⟨r30, er30, hf⟩ := ob_s hf
    refine b_gR C dX12_hears_63 fl_X12_40 h29 er30 ?_
    refine b_iload_n C dX12_hears_66 2 rfl rfl ?_
    refine b_iconst C (v := 3) dX12_hears_67 (by decide) ?_
    refine b_iadd C dX12_hears_68 ?_
    refine b_iload_n C dX12_hears_69 4 rfl rfl ?_
    refine b_iadd C dX12_hears_70 ?_
    obtain ⟨h31, hf⟩ := gd_s hf
    obtain ⟨h32, hf⟩ := gd_s hf
    refine b_iald C h31 h32 dX12_hears_71 ?_
    obtain ⟨u33, eu33, hf⟩ := bd_s hf
    refine b_topI eu33 ?_
    refine b_istore_n C dX12_hears_72 rfl [(2, .int u33), (4, .int z0), (0, .ref (ad B x0)), (1, .int x1), (3, .int y3)] (by decide) rfl ?_
    refine b_sub [(0, .ref (ad B x0)), (1, .int x1), (2, .int u33), (3, .int y3)] [2, 3, 0, 4] rfl ?_
    exact tX12_hears_73 C hr hlocks hK4 hf
set_option maxRecDepth 100000 in
def fX12_hears_J54 (N : Nat) (g : Gs) (x0 : Nat) (x1 : Int32) (K4 : Int32 × Int32 × Ds → Option (Unit × Ds)) (y2 : Int32) (y3 : Int32) (d : Ds) : Option (Unit × Ds) := fX12_hears_J55 N g x0 x1 K4 y2 y3 0 d
set_option maxHeartbeats 4000000 in
set_option maxRecDepth 100000 in
theorem tX12_hears_54 {p : Program} {l : Launch} {e : Env} {s : State} {m : MethodId} {args : Array Value} {below : List Frame} {meth : Method} {c : Code} {D : va_G} {cy : Nat → ClassId} {B : Bs} (C : Cx p s m args c cX12_hears 5 RX12 D cy B) (hr : meth.sig.returnType = none) (hlocks : meth.locks = false) {N : Nat} {g : Gs} {x0 : Nat} {x1 : Int32}  {dz : Ds} {K4 : Int32 × Int32 × Ds → Option (Unit × Ds)} (hK4 : ∀ a, K4 a = some ((), dz) → WB p l e rmX12_hears s m args below meth c 5 D cy B 0 0 (MQ below (QV D cy B g dz) args s 0 0 (wA B)) g a.2.2 [(0, .ref (ad B x0)), (1, .int x1), (2, .int a.1), (3, .int a.2.1)] 4 []) {y2 : Int32} {y3 : Int32} {d : Ds} (hf : fX12_hears_J54 N g x0 x1 K4 y2 y3 d = some ((), dz)) : WB p l e rmX12_hears s m args below meth c 5 D cy B 0 0 (MQ below (QV D cy B g dz) args s 0 0 (wA B)) g d [(0, .ref (ad B x0)), (1, .int x1), (2, .int y2), (3, .int y3)] 54 [] := by
  unfold fX12_hears_J54 at hf
  refine b_iconst C (v := 0) dX12_hears_54 (by decide) ?_
  refine b_sub [(0, .ref (ad B x0)), (1, .int x1), (2, .int y2), (3, .int y3)] [0, 1, 2, 3] rfl ?_
  exact tX12_hears_55 C hr hlocks hK4 hf
set_option maxRecDepth 100000 in
def fX12_hears_B4 (N : Nat) (g : Gs) (x0 : Nat) (x1 : Int32) (K4 : Int32 × Int32 × Ds → Option (Unit × Ds)) (y2 : Int32) (y3 : Int32) (d : Ds) : Option (Unit × Ds) := gd (chk g x0 11) <| ob (gR g x0 17) fun r2 => (gd (chk g r2 102) <| gd (¬ ((x1 + 2) < 0 ∨ gL g r2 ≤ (x1 + 2).toNatClampNeg)) <| if (dI d r2 (x1 + 2).toNatClampNeg) ≤ y3 then (if y2 < 0 then (gd (¬ ((455 : Int32) < 0 ∨ gL g r2 ≤ (455 : Int32).toNatClampNeg)) <| if (dI d r2 (455 : Int32).toNatClampNeg) < 0 then (fX12_hears_J174 N g x0 x1 d) else (cb (fX12_reportHas N g x0 x1 (dI d r2 (455 : Int32).toNatClampNeg) d) fun u11 d9 => (if u11 = 0 then (bd (sI d9 r2 (455 : Int32).toNatClampNeg (-1)) fun d13 => (gd (¬ ((456 : Int32) < 0 ∨ gL g r2 ≤ (456 : Int32).toNatClampNeg)) <| bd (sI d13 r2 (456 : Int32).toNatClampNeg (-1)) fun d15 => (gd (¬ ((458 : Int32) < 0 ∨ gL g r2 ≤ (458 : Int32).toNatClampNeg)) <| bd (sI d15 r2 (458 : Int32).toNatClampNeg (-1)) fun d17 => (fX12_hears_J174 N g x0 x1 d17)))) else (fX12_hears_J174 N g x0 x1 d9)))) else (gd (¬ ((455 : Int32) < 0 ∨ gL g r2 ≤ (455 : Int32).toNatClampNeg)) <| bd (sI d r2 (455 : Int32).toNatClampNeg y2) fun d19 => (gd (¬ ((354 : Int32) < 0 ∨ gL g r2 ≤ (354 : Int32).toNatClampNeg)) <| gd (¬ ((456 : Int32) < 0 ∨ gL g r2 ≤ (456 : Int32).toNatClampNeg)) <| bd (sI d19 r2 (456 : Int32).toNatClampNeg (dI d19 r2 (354 : Int32).toNatClampNeg)) fun d22 => (gd (¬ ((458 : Int32) < 0 ∨ gL g r2 ≤ (458 : Int32).toNatClampNeg)) <| bd (sI d22 r2 (458 : Int32).toNatClampNeg 0) fun d24 => (fX12_hears_J174 N g x0 x1 d24))))) else (gd (¬ ((555 : Int32) < 0 ∨ gL g r2 ≤ (555 : Int32).toNatClampNeg)) <| if (dI d r2 (555 : Int32).toNatClampNeg) ≤ (1 : Int32) then (fX12_hears_J54 N g x0 x1 K4 y2 y3 d) else (cb (fX12_reportAt N g x0 1 d) fun u36 d34 => (gd (¬ (((x1 + 3) + y3) < 0 ∨ gL g r2 ≤ ((x1 + 3) + y3).toNatClampNeg)) <| cb (fX12_reportHas N g x0 u36 (dI d34 r2 ((x1 + 3) + y3).toNatClampNeg) d34) fun u40 d38 => (if u40 = 0 then (fX12_hears_J54 N g x0 x1 K4 y2 y3 d38) else (fX12_hears_J55 N g x0 x1 K4 y2 y3 1 d38))))))
set_option maxHeartbeats 4000000 in
set_option maxRecDepth 100000 in
theorem tX12_hears_4 {p : Program} {l : Launch} {e : Env} {s : State} {m : MethodId} {args : Array Value} {below : List Frame} {meth : Method} {c : Code} {D : va_G} {cy : Nat → ClassId} {B : Bs} (C : Cx p s m args c cX12_hears 5 RX12 D cy B) (hr : meth.sig.returnType = none) (hlocks : meth.locks = false) {N : Nat} {g : Gs} {x0 : Nat} {x1 : Int32}  {dz : Ds} {K4 : Int32 × Int32 × Ds → Option (Unit × Ds)} (hK4 : ∀ a, K4 a = some ((), dz) → WB p l e rmX12_hears s m args below meth c 5 D cy B 0 0 (MQ below (QV D cy B g dz) args s 0 0 (wA B)) g a.2.2 [(0, .ref (ad B x0)), (1, .int x1), (2, .int a.1), (3, .int a.2.1)] 4 []) {y2 : Int32} {y3 : Int32} {d : Ds} (hf : fX12_hears_B4 N g x0 x1 K4 y2 y3 d = some ((), dz)) : WB p l e rmX12_hears s m args below meth c 5 D cy B 0 0 (MQ below (QV D cy B g dz) args s 0 0 (wA B)) g d [(0, .ref (ad B x0)), (1, .int x1), (2, .int y2), (3, .int y3)] 4 [] := by
  unfold fX12_hears_B4 at hf
  refine b_iload_n C dX12_hears_4 3 rfl rfl ?_
  refine b_aload_n C dX12_hears_5 0 rfl rfl ?_
  obtain ⟨h1, hf⟩ := gd_s hf
  obtain ⟨r2, er2, hf⟩ := ob_s hf
  refine b_gR C dX12_hears_6 fl_X12_40 h1 er2 ?_
  refine b_iload_n C dX12_hears_9 1 rfl rfl ?_
  refine b_iconst C (v := 2) dX12_hears_10 (by decide) ?_
  refine b_iadd C dX12_hears_11 ?_
  obtain ⟨h3, hf⟩ := gd_s hf
  obtain ⟨h4, hf⟩ := gd_s hf
  refine b_iald C h3 h4 dX12_hears_12 ?_
  refine b_icmp_ge C (tgt := 79) dX12_hears_13 (by decide) (fun c5 => ?_) (fun c5 => ?_)
  · have hf := it_s c5 hf
    refine b_iload_n C dX12_hears_79 2 rfl rfl ?_
    refine b_if_lt C (tgt := 120) dX12_hears_80 (by decide) (fun c6 => ?_) (fun c6 => ?_)
    · have hf := it_s c6 hf
      refine b_aload_n C dX12_hears_120 0 rfl rfl ?_
      refine b_gR C dX12_hears_121 fl_X12_40 h1 er2 ?_
      refine b_sipush C (v := 455) dX12_hears_124 (by decide) ?_
      obtain ⟨h7, hf⟩ := gd_s hf
      refine b_iald C h3 h7 dX12_hears_127 ?_
      refine b_if_lt C (tgt := 174) dX12_hears_128 (by decide) (fun c8 => ?_) (fun c8 => ?_)
      · have hf := it_s c8 hf
        refine b_sub [(0, .ref (ad B x0)), (1, .int x1)] [0, 1] rfl ?_
        exact tX12_hears_174 C hr hlocks hf
      · have hf := if_s c8 hf
        refine b_aload_n C dX12_hears_131 0 rfl rfl ?_
        refine b_iload_n C dX12_hears_132 1 rfl rfl ?_
        refine b_aload_n C dX12_hears_133 0 rfl rfl ?_
        refine b_gR C dX12_hears_134 fl_X12_40 h1 er2 ?_
        refine b_sipush C (v := 455) dX12_hears_137 (by decide) ?_
        refine b_iald C h3 h7 dX12_hears_140 ?_
        obtain ⟨u11, d9, k10, hf⟩ := cb_s hf
        refine b_cVI C [] dX12_hears_141 (kX12_reportHas l D cy B k10) lv_X12_323 ⟨rfl, rfl, Nat.le_of_ble_eq_true rfl, Nat.le_of_ble_eq_true rfl⟩ h1 (by decide) rfl (Nat.le_of_ble_eq_true rfl) ⟨Nat.zero_le _, Nat.zero_le _⟩ rfl ?_
        refine b_if_ne C (tgt := 174) dX12_hears_144 (by decide) (fun c12 => ?_) (fun c12 => ?_)
        · have hf := if_s c12 hf
          refine b_sub [(0, .ref (ad B x0)), (1, .int x1)] [0, 1] rfl ?_
          exact tX12_hears_174 C hr hlocks hf
        · have hf := it_s c12 hf
          refine b_aload_n C dX12_hears_147 0 rfl rfl ?_
          refine b_gR C dX12_hears_148 fl_X12_40 h1 er2 ?_
          refine b_sipush C (v := 455) dX12_hears_151 (by decide) ?_
          refine b_iconst C (v := (-1)) dX12_hears_154 (by decide) ?_
          obtain ⟨d13, ed13, hf⟩ := bd_s hf
          refine b_iast C h3 h7 ed13 dX12_hears_155 ?_
          refine b_aload_n C dX12_hears_156 0 rfl rfl ?_
          refine b_gR C dX12_hears_157 fl_X12_40 h1 er2 ?_
          refine b_sipush C (v := 456) dX12_hears_160 (by decide) ?_
          refine b_iconst C (v := (-1)) dX12_hears_163 (by decide) ?_
          obtain ⟨h14, hf⟩ := gd_s hf
          obtain ⟨d15, ed15, hf⟩ := bd_s hf
          refine b_iast C h3 h14 ed15 dX12_hears_164 ?_
          refine b_aload_n C dX12_hears_165 0 rfl rfl ?_
          refine b_gR C dX12_hears_166 fl_X12_40 h1 er2 ?_
          refine b_sipush C (v := 458) dX12_hears_169 (by decide) ?_
          refine b_iconst C (v := (-1)) dX12_hears_172 (by decide) ?_
          obtain ⟨h16, hf⟩ := gd_s hf
          obtain ⟨d17, ed17, hf⟩ := bd_s hf
          refine b_iast C h3 h16 ed17 dX12_hears_173 ?_
          refine b_sub [(0, .ref (ad B x0)), (1, .int x1)] [0, 1] rfl ?_
          exact tX12_hears_174 C hr hlocks hf
    · have hf := if_s c6 hf
      refine b_aload_n C dX12_hears_83 0 rfl rfl ?_
      refine b_gR C dX12_hears_84 fl_X12_40 h1 er2 ?_
      refine b_sipush C (v := 455) dX12_hears_87 (by decide) ?_
      refine b_iload_n C dX12_hears_90 2 rfl rfl ?_
      obtain ⟨h18, hf⟩ := gd_s hf
      obtain ⟨d19, ed19, hf⟩ := bd_s hf
      refine b_iast C h3 h18 ed19 dX12_hears_91 ?_
      refine b_aload_n C dX12_hears_92 0 rfl rfl ?_
      refine b_gR C dX12_hears_93 fl_X12_40 h1 er2 ?_
      refine b_sipush C (v := 456) dX12_hears_96 (by decide) ?_
      refine b_aload_n C dX12_hears_99 0 rfl rfl ?_
      refine b_gR C dX12_hears_100 fl_X12_40 h1 er2 ?_
      refine b_sipush C (v := 354) dX12_hears_103 (by decide) ?_
      obtain ⟨h20, hf⟩ := gd_s hf
      refine b_iald C h3 h20 dX12_hears_106 ?_
      obtain ⟨h21, hf⟩ := gd_s hf
      obtain ⟨d22, ed22, hf⟩ := bd_s hf
      refine b_iast C h3 h21 ed22 dX12_hears_107 ?_
      refine b_aload_n C dX12_hears_108 0 rfl rfl ?_
      refine b_gR C dX12_hears_109 fl_X12_40 h1 er2 ?_
      refine b_sipush C (v := 458) dX12_hears_112 (by decide) ?_
      refine b_iconst C (v := 0) dX12_hears_115 (by decide) ?_
      obtain ⟨h23, hf⟩ := gd_s hf
      obtain ⟨d24, ed24, hf⟩ := bd_s hf
      refine b_iast C h3 h23 ed24 dX12_hears_116 ?_
      refine b_goto C (tgt := 174) dX12_hears_117 (by decide) ?_
      refine b_sub [(0, .ref (ad B x0)), (1, .int x1)] [0, 1] rfl ?_
      exact tX12_hears_174 C hr hlocks hf
  · have hf := if_s c5 hf
    refine b_aload_n C dX12_hears_16 0 rfl rfl ?_
    refine b_gR C dX12_hears_17 fl_X12_40 h1 er2 ?_
    refine b_sipush C (v := 555) dX12_hears_20 (by decide) ?_
    obtain ⟨h25, hf⟩ := gd_s hf
    refine b_iald C h3 h25 dX12_hears_23 ?_
    refine b_iconst C (v := 1) dX12_hears_24 (by decide) ?_
    refine b_icmp_le C (tgt := 54) dX12_hears_25 (by decide) (fun c26 => ?_) (fun c26 => ?_)
    · have hf := it_s c26 hf
      refine b_sub [(0, .ref (ad B x0)), (1, .int x1), (2, .int y2), (3, .int y3)] [0, 1, 2, 3] rfl ?_
      exact tX12_hears_54 C hr hlocks hK4 hf
    · have hf := if_s c26 hf
      refine b_aload_n C dX12_hears_28 0 rfl rfl ?_
      refine b_aload_n C dX12_hears_29 0 rfl rfl ?_
      refine b_iconst C (v := 1) dX12_hears_30 (by decide) ?_
      obtain ⟨u36, d34, k35, hf⟩ := cb_s hf
      refine b_cVI C [.ref (ad B x0)] dX12_hears_31 (kX12_reportAt l D cy B k35) lv_X12_311 ⟨rfl, rfl, Nat.le_of_ble_eq_true rfl, Nat.le_of_ble_eq_true rfl⟩ h1 (by decide) rfl (Nat.le_of_ble_eq_true rfl) ⟨Nat.zero_le _, Nat.zero_le _⟩ rfl ?_
      refine b_aload_n C dX12_hears_34 0 rfl rfl ?_
      refine b_gR C dX12_hears_35 fl_X12_40 h1 er2 ?_
      refine b_iload_n C dX12_hears_38 1 rfl rfl ?_
      refine b_iconst C (v := 3) dX12_hears_39 (by decide) ?_
      refine b_iadd C dX12_hears_40 ?_
      refine b_iload_n C dX12_hears_41 3 rfl rfl ?_
      refine b_iadd C dX12_hears_42 ?_
      obtain ⟨h37, hf⟩ := gd_s hf
      refine b_iald C h3 h37 dX12_hears_43 ?_
      obtain ⟨u40, d38, k39, hf⟩ := cb_s hf
      refine b_cVI C [] dX12_hears_44 (kX12_reportHas l D cy B k39) lv_X12_323 ⟨rfl, rfl, Nat.le_of_ble_eq_true rfl, Nat.le_of_ble_eq_true rfl⟩ h1 (by decide) rfl (Nat.le_of_ble_eq_true rfl) ⟨Nat.zero_le _, Nat.zero_le _⟩ rfl ?_
      refine b_if_eq C (tgt := 54) dX12_hears_47 (by decide) (fun c41 => ?_) (fun c41 => ?_)
      · have hf := it_s c41 hf
        refine b_sub [(0, .ref (ad B x0)), (1, .int x1), (2, .int y2), (3, .int y3)] [0, 1, 2, 3] rfl ?_
        exact tX12_hears_54 C hr hlocks hK4 hf
      · have hf := if_s c41 hf
        refine b_iconst C (v := 1) dX12_hears_50 (by decide) ?_
        refine b_goto C (tgt := 55) dX12_hears_51 (by decide) ?_
        refine b_sub [(0, .ref (ad B x0)), (1, .int x1), (2, .int y2), (3, .int y3)] [0, 1, 2, 3] rfl ?_
        exact tX12_hears_55 C hr hlocks hK4 hf
def fX12_hears_L4 (N : Nat) (g : Gs) (x0 : Nat) (x1 : Int32) : Int32 × Int32 × Ds → Option (Unit × Ds) := lp (fun K4 a => fX12_hears_B4 N g x0 x1 K4 a.1 a.2.1 a.2.2) N
theorem tX12_hears_L4 {p : Program} {l : Launch} {e : Env} {s : State} {m : MethodId} {args : Array Value} {below : List Frame} {meth : Method} {c : Code} {D : va_G} {cy : Nat → ClassId} {B : Bs} (C : Cx p s m args c cX12_hears 5 RX12 D cy B) (hr : meth.sig.returnType = none) (hlocks : meth.locks = false) {N : Nat} {g : Gs} {x0 : Nat} {x1 : Int32}  {dz : Ds} (a : Int32 × Int32 × Ds) (hf : fX12_hears_L4 N g x0 x1 a = some ((), dz)) : WB p l e rmX12_hears s m args below meth c 5 D cy B 0 0 (MQ below (QV D cy B g dz) args s 0 0 (wA B)) g a.2.2 [(0, .ref (ad B x0)), (1, .int x1), (2, .int a.1), (3, .int a.2.1)] 4 [] :=
  lp_w (fun K4 hK4 a ha => tX12_hears_4 C hr hlocks hK4 ha) N a hf
set_option maxRecDepth 100000 in
def fX12_hears (N : Nat) (g : Gs) (x0 : Nat) (x1 : Int32) (d : Ds) : Option (Unit × Ds) := fX12_hears_L4 N g x0 x1 ((-1), 0, d)
set_option maxHeartbeats 4000000 in
set_option maxRecDepth 100000 in
theorem tX12_hears_E {p : Program} {l : Launch} {e : Env} {s : State} {m : MethodId} {args : Array Value} {below : List Frame} {meth : Method} {c : Code} {D : va_G} {cy : Nat → ClassId} {B : Bs} (C : Cx p s m args c cX12_hears 5 RX12 D cy B) (hr : meth.sig.returnType = none) (hlocks : meth.locks = false) {N : Nat} {g : Gs} {x0 : Nat} {x1 : Int32}  {dz : Ds} {d : Ds} (hf : fX12_hears N g x0 x1 d = some ((), dz)) : WB p l e rmX12_hears s m args below meth c 5 D cy B 0 0 (MQ below (QV D cy B g dz) args s 0 0 (wA B)) g d [(0, .ref (ad B x0)), (1, .int x1)] 0 [] := by
  unfold fX12_hears at hf
  refine b_iconst C (v := (-1)) dX12_hears_0 (by decide) ?_
  refine b_istore_n C dX12_hears_1 rfl [(2, .int (-1)), (0, .ref (ad B x0)), (1, .int x1)] (by decide) rfl ?_
  refine b_iconst C (v := 0) dX12_hears_2 (by decide) ?_
  refine b_istore_n C dX12_hears_3 rfl [(3, .int 0), (2, .int (-1)), (0, .ref (ad B x0)), (1, .int x1)] (by decide) rfl ?_
  refine b_sub [(0, .ref (ad B x0)), (1, .int x1), (2, .int (-1)), (3, .int 0)] [2, 3, 1, 0] rfl ?_
  exact tX12_hears_L4 C hr hlocks ((-1), 0, d) hf
theorem kX12_hears (l : Launch) (D : va_G) (cy : Nat → ClassId) (B : Bs) {N : Nat} {g : Gs} {x0 : Nat} {x1 : Int32}  {dz : Ds} {d : Ds} (hf : fX12_hears N g x0 x1 d = some ((), dz)) : Met l yX12_hears (.code yX12_hears cX12_hears 5 none :: wl) rmX12_hears (PC D cy B [.ref (ad B x0), .int x1] g d) (QV D cy B g dz) 0 0 (wA B) :=
  met_of (by decide +kernel) (Nat.le_of_ble_eq_true rfl) (fun p e s m args below meth c C hr hlocks _ => b_sub [(0, .ref (ad B x0)), (1, .int x1)] [0, 1] rfl (tX12_hears_E C hr hlocks hf))
/-! KeyMatrixModel.reports()V -/
theorem yo_X12_laysSent : yX12_laysSent.cls ≠ "java/lang/invoke/MethodHandle" ∧ yX12_laysSent.cls ≠ "java/lang/invoke/VarHandle" ∧ (parseMethodDescriptor yX12_laysSent.desc).map (fun d => d.parameters.length) = some 0 := by decide +kernel
theorem co_X12_laysSent : Cond.code yX12_laysSent cX12_laysSent 4 none ∈ wl := mW (mT6 (List.mem_of_getElem? (i := 159) (by decide +kernel))) rfl
theorem in_X12_laysSent : Cond.initialized yX12_laysSent.cls ∈ wl := mW (mT1 (List.mem_of_getElem? (i := 12) (by decide +kernel))) rfl
theorem im_X12_laysSent : Cond.instanceMethod yX12_laysSent ∈ wl := mW (mT6 (List.mem_of_getElem? (i := 158) (by decide +kernel))) rfl
theorem se_X12_laysSent : Cond.selects yX12_laysSent.cls yX12_laysSent yX12_laysSent ∈ wl := mW (mT0 (List.mem_of_getElem? (i := 71) (by decide +kernel))) rfl
theorem lv_X12_314 : LV RX12 314 yX12_laysSent cX12_laysSent 4 none 0 11 := ⟨⟨(RX12, TX12, 33), rfl, rfl⟩, yo_X12_laysSent, mW (mT6 (List.mem_of_getElem? (i := 156) (by decide +kernel))) rfl, im_X12_laysSent, se_X12_laysSent, in_X12_laysSent, co_X12_laysSent⟩
theorem yo_X12_isLatest : yX12_isLatest.cls ≠ "java/lang/invoke/MethodHandle" ∧ yX12_isLatest.cls ≠ "java/lang/invoke/VarHandle" ∧ (parseMethodDescriptor yX12_isLatest.desc).map (fun d => d.parameters.length) = some 1 := by decide +kernel
theorem co_X12_isLatest : Cond.code yX12_isLatest cX12_isLatest 4 (some .boolean) ∈ wl := mW (mT6 (List.mem_of_getElem? (i := 171) (by decide +kernel))) rfl
theorem in_X12_isLatest : Cond.initialized yX12_isLatest.cls ∈ wl := mW (mT1 (List.mem_of_getElem? (i := 12) (by decide +kernel))) rfl
theorem im_X12_isLatest : Cond.instanceMethod yX12_isLatest ∈ wl := mW (mT6 (List.mem_of_getElem? (i := 170) (by decide +kernel))) rfl
theorem se_X12_isLatest : Cond.selects yX12_isLatest.cls yX12_isLatest yX12_isLatest ∈ wl := mW (mT0 (List.mem_of_getElem? (i := 74) (by decide +kernel))) rfl
theorem lv_X12_317 : LV RX12 317 yX12_isLatest cX12_isLatest 4 (some .boolean) 1 11 := ⟨⟨(RX12, TX12, 33), rfl, rfl⟩, yo_X12_isLatest, mW (mT6 (List.mem_of_getElem? (i := 168) (by decide +kernel))) rfl, im_X12_isLatest, se_X12_isLatest, in_X12_isLatest, co_X12_isLatest⟩
theorem yo_X12_hears : yX12_hears.cls ≠ "java/lang/invoke/MethodHandle" ∧ yX12_hears.cls ≠ "java/lang/invoke/VarHandle" ∧ (parseMethodDescriptor yX12_hears.desc).map (fun d => d.parameters.length) = some 1 := by decide +kernel
theorem co_X12_hears : Cond.code yX12_hears cX12_hears 5 none ∈ wl := mW (mT6 (List.mem_of_getElem? (i := 179) (by decide +kernel))) rfl
theorem in_X12_hears : Cond.initialized yX12_hears.cls ∈ wl := mW (mT1 (List.mem_of_getElem? (i := 12) (by decide +kernel))) rfl
theorem im_X12_hears : Cond.instanceMethod yX12_hears ∈ wl := mW (mT6 (List.mem_of_getElem? (i := 178) (by decide +kernel))) rfl
theorem se_X12_hears : Cond.selects yX12_hears.cls yX12_hears yX12_hears ∈ wl := mW (mT0 (List.mem_of_getElem? (i := 76) (by decide +kernel))) rfl
theorem lv_X12_320 : LV RX12 320 yX12_hears cX12_hears 5 none 1 11 := ⟨⟨(RX12, TX12, 33), rfl, rfl⟩, yo_X12_hears, mW (mT6 (List.mem_of_getElem? (i := 176) (by decide +kernel))) rfl, im_X12_hears, se_X12_hears, in_X12_hears, co_X12_hears⟩
theorem dX12_reports_0 : decode cX12_reports 0 = .ok (.aload_n 0, 1) := by decide +kernel
theorem dX12_reports_1 : decode cX12_reports 1 = .ok (.invokevirtual 314, 3) := by decide +kernel
theorem dX12_reports_4 : decode cX12_reports 4 = .ok (.aload_n 0, 1) := by decide +kernel
theorem dX12_reports_5 : decode cX12_reports 5 = .ok (.getfield 40, 3) := by decide +kernel
theorem dX12_reports_8 : decode cX12_reports 8 = .ok (.iconst 3, 1) := by decide +kernel
theorem dX12_reports_9 : decode cX12_reports 9 = .ok (.iaload, 1) := by decide +kernel
theorem dX12_reports_10 : decode cX12_reports 10 = .ok (.iconst 1, 1) := by decide +kernel
theorem dX12_reports_11 : decode cX12_reports 11 = .ok (.if_icmp .ne 17, 3) := by decide +kernel
theorem dX12_reports_14 : decode cX12_reports 14 = .ok (.aload_n 0, 1) := by decide +kernel
theorem dX12_reports_15 : decode cX12_reports 15 = .ok (.getfield 299, 3) := by decide +kernel
theorem dX12_reports_18 : decode cX12_reports 18 = .ok (.bipush 6, 2) := by decide +kernel
theorem dX12_reports_20 : decode cX12_reports 20 = .ok (.if_icmp .le 8, 3) := by decide +kernel
theorem dX12_reports_23 : decode cX12_reports 23 = .ok (.bipush (-2), 2) := by decide +kernel
theorem dX12_reports_25 : decode cX12_reports 25 = .ok (.goto 7, 3) := by decide +kernel
theorem dX12_reports_28 : decode cX12_reports 28 = .ok (.aload_n 0, 1) := by decide +kernel
theorem dX12_reports_29 : decode cX12_reports 29 = .ok (.getfield 299, 3) := by decide +kernel
theorem dX12_reports_32 : decode cX12_reports 32 = .ok (.istore_n 1, 1) := by decide +kernel
theorem dX12_reports_33 : decode cX12_reports 33 = .ok (.aload_n 0, 1) := by decide +kernel
theorem dX12_reports_34 : decode cX12_reports 34 = .ok (.iload_n 1, 1) := by decide +kernel
theorem dX12_reports_35 : decode cX12_reports 35 = .ok (.invokevirtual 317, 3) := by decide +kernel
theorem dX12_reports_38 : decode cX12_reports 38 = .ok (.ifCond .eq 4, 3) := by decide +kernel
theorem dX12_reports_41 : decode cX12_reports 41 = .ok (.return_, 1) := by decide +kernel
theorem dX12_reports_42 : decode cX12_reports 42 = .ok (.aload_n 0, 1) := by decide +kernel
theorem dX12_reports_43 : decode cX12_reports 43 = .ok (.getfield 40, 3) := by decide +kernel
theorem dX12_reports_46 : decode cX12_reports 46 = .ok (.sipush 555, 3) := by decide +kernel
theorem dX12_reports_49 : decode cX12_reports 49 = .ok (.dup2, 1) := by decide +kernel
theorem dX12_reports_50 : decode cX12_reports 50 = .ok (.iaload, 1) := by decide +kernel
theorem dX12_reports_51 : decode cX12_reports 51 = .ok (.iconst 1, 1) := by decide +kernel
theorem dX12_reports_52 : decode cX12_reports 52 = .ok (.iadd, 1) := by decide +kernel
theorem dX12_reports_53 : decode cX12_reports 53 = .ok (.iastore, 1) := by decide +kernel
theorem dX12_reports_54 : decode cX12_reports 54 = .ok (.aload_n 0, 1) := by decide +kernel
theorem dX12_reports_55 : decode cX12_reports 55 = .ok (.iconst 0, 1) := by decide +kernel
theorem dX12_reports_56 : decode cX12_reports 56 = .ok (.invokevirtual 311, 3) := by decide +kernel
theorem dX12_reports_59 : decode cX12_reports 59 = .ok (.istore_n 2, 1) := by decide +kernel
theorem dX12_reports_60 : decode cX12_reports 60 = .ok (.aload_n 0, 1) := by decide +kernel
theorem dX12_reports_61 : decode cX12_reports 61 = .ok (.getfield 40, 3) := by decide +kernel
theorem dX12_reports_64 : decode cX12_reports 64 = .ok (.iload_n 2, 1) := by decide +kernel
theorem dX12_reports_65 : decode cX12_reports 65 = .ok (.aload_n 0, 1) := by decide +kernel
theorem dX12_reports_66 : decode cX12_reports 66 = .ok (.getfield 40, 3) := by decide +kernel
theorem dX12_reports_69 : decode cX12_reports 69 = .ok (.sipush 354, 3) := by decide +kernel
theorem dX12_reports_72 : decode cX12_reports 72 = .ok (.iaload, 1) := by decide +kernel
theorem dX12_reports_73 : decode cX12_reports 73 = .ok (.iastore, 1) := by decide +kernel
theorem dX12_reports_74 : decode cX12_reports 74 = .ok (.aload_n 0, 1) := by decide +kernel
theorem dX12_reports_75 : decode cX12_reports 75 = .ok (.getfield 40, 3) := by decide +kernel
theorem dX12_reports_78 : decode cX12_reports 78 = .ok (.iload_n 2, 1) := by decide +kernel
theorem dX12_reports_79 : decode cX12_reports 79 = .ok (.iconst 1, 1) := by decide +kernel
theorem dX12_reports_80 : decode cX12_reports 80 = .ok (.iadd, 1) := by decide +kernel
theorem dX12_reports_81 : decode cX12_reports 81 = .ok (.aload_n 0, 1) := by decide +kernel
theorem dX12_reports_82 : decode cX12_reports 82 = .ok (.getfield 302, 3) := by decide +kernel
theorem dX12_reports_85 : decode cX12_reports 85 = .ok (.iastore, 1) := by decide +kernel
theorem dX12_reports_86 : decode cX12_reports 86 = .ok (.aload_n 0, 1) := by decide +kernel
theorem dX12_reports_87 : decode cX12_reports 87 = .ok (.getfield 40, 3) := by decide +kernel
theorem dX12_reports_90 : decode cX12_reports 90 = .ok (.iload_n 2, 1) := by decide +kernel
theorem dX12_reports_91 : decode cX12_reports 91 = .ok (.iconst 2, 1) := by decide +kernel
theorem dX12_reports_92 : decode cX12_reports 92 = .ok (.iadd, 1) := by decide +kernel
theorem dX12_reports_93 : decode cX12_reports 93 = .ok (.iload_n 1, 1) := by decide +kernel
theorem dX12_reports_94 : decode cX12_reports 94 = .ok (.iastore, 1) := by decide +kernel
theorem dX12_reports_95 : decode cX12_reports 95 = .ok (.iconst 0, 1) := by decide +kernel
theorem dX12_reports_96 : decode cX12_reports 96 = .ok (.istore_n 3, 1) := by decide +kernel
theorem dX12_reports_97 : decode cX12_reports 97 = .ok (.iload_n 3, 1) := by decide +kernel
theorem dX12_reports_98 : decode cX12_reports 98 = .ok (.iload_n 1, 1) := by decide +kernel
theorem dX12_reports_99 : decode cX12_reports 99 = .ok (.if_icmp .ge 25, 3) := by decide +kernel
theorem dX12_reports_102 : decode cX12_reports 102 = .ok (.aload_n 0, 1) := by decide +kernel
theorem dX12_reports_103 : decode cX12_reports 103 = .ok (.getfield 40, 3) := by decide +kernel
theorem dX12_reports_106 : decode cX12_reports 106 = .ok (.iload_n 2, 1) := by decide +kernel
theorem dX12_reports_107 : decode cX12_reports 107 = .ok (.iconst 3, 1) := by decide +kernel
theorem dX12_reports_108 : decode cX12_reports 108 = .ok (.iadd, 1) := by decide +kernel
theorem dX12_reports_109 : decode cX12_reports 109 = .ok (.iload_n 3, 1) := by decide +kernel
theorem dX12_reports_110 : decode cX12_reports 110 = .ok (.iadd, 1) := by decide +kernel
theorem dX12_reports_111 : decode cX12_reports 111 = .ok (.aload_n 0, 1) := by decide +kernel
theorem dX12_reports_112 : decode cX12_reports 112 = .ok (.getfield 56, 3) := by decide +kernel
theorem dX12_reports_115 : decode cX12_reports 115 = .ok (.iload_n 3, 1) := by decide +kernel
theorem dX12_reports_116 : decode cX12_reports 116 = .ok (.iaload, 1) := by decide +kernel
theorem dX12_reports_117 : decode cX12_reports 117 = .ok (.iastore, 1) := by decide +kernel
theorem dX12_reports_118 : decode cX12_reports 118 = .ok (.iinc 3 1, 3) := by decide +kernel
theorem dX12_reports_121 : decode cX12_reports 121 = .ok (.goto (-24), 3) := by decide +kernel
theorem dX12_reports_124 : decode cX12_reports 124 = .ok (.aload_n 0, 1) := by decide +kernel
theorem dX12_reports_125 : decode cX12_reports 125 = .ok (.iload_n 2, 1) := by decide +kernel
theorem dX12_reports_126 : decode cX12_reports 126 = .ok (.invokevirtual 320, 3) := by decide +kernel
theorem dX12_reports_129 : decode cX12_reports 129 = .ok (.return_, 1) := by decide +kernel
def rmX12_reports : Room := { frames := 2, cells := 0, slots := 0, locals := 47 }
set_option maxRecDepth 100000 in
def fX12_reports_B97 (N : Nat) (g : Gs) (x0 : Nat) (K97 : Int32 × Int32 × Int32 × Ds → Option (Unit × Ds)) (y1 : Int32) (y2 : Int32) (y3 : Int32) (d : Ds) : Option (Unit × Ds) := if y1 ≤ y3 then (gd (chk g x0 11) <| cv (fX12_hears N g x0 y2 d) fun d30 => (some ((), d30))) else (gd (chk g x0 11) <| ob (gR g x0 17) fun r33 => (ob (gR g x0 27) fun r34 => (gd (chk g r34 102) <| gd (¬ (y3 < 0 ∨ gL g r34 ≤ y3.toNatClampNeg)) <| gd (chk g r33 102) <| gd (¬ (((y2 + 3) + y3) < 0 ∨ gL g r33 ≤ ((y2 + 3) + y3).toNatClampNeg)) <| bd (sI d r33 ((y2 + 3) + y3).toNatClampNeg (dI d r34 y3.toNatClampNeg)) fun d39 => (bd (y3 + 1) fun u40 => (K97 (y1, y2, u40, d39))))))
set_option maxHeartbeats 4000000 in
set_option maxRecDepth 100000 in
theorem tX12_reports_97 {p : Program} {l : Launch} {e : Env} {s : State} {m : MethodId} {args : Array Value} {below : List Frame} {meth : Method} {c : Code} {D : va_G} {cy : Nat → ClassId} {B : Bs} (C : Cx p s m args c cX12_reports 4 RX12 D cy B) (hr : meth.sig.returnType = none) (hlocks : meth.locks = false) {N : Nat} {g : Gs} {x0 : Nat}  {dz : Ds} {K97 : Int32 × Int32 × Int32 × Ds → Option (Unit × Ds)} (hK97 : ∀ a, K97 a = some ((), dz) → WB p l e rmX12_reports s m args below meth c 4 D cy B 0 0 (MQ below (QV D cy B g dz) args s 0 0 (wA B)) g a.2.2.2 [(0, .ref (ad B x0)), (1, .int a.1), (2, .int a.2.1), (3, .int a.2.2.1)] 97 []) {y1 : Int32} {y2 : Int32} {y3 : Int32} {d : Ds} (hf : fX12_reports_B97 N g x0 K97 y1 y2 y3 d = some ((), dz)) : WB p l e rmX12_reports s m args below meth c 4 D cy B 0 0 (MQ below (QV D cy B g dz) args s 0 0 (wA B)) g d [(0, .ref (ad B x0)), (1, .int y1), (2, .int y2), (3, .int y3)] 97 [] := by
  unfold fX12_reports_B97 at hf
  refine b_iload_n C dX12_reports_97 3 rfl rfl ?_
  refine b_iload_n C dX12_reports_98 1 rfl rfl ?_
  refine b_icmp_ge C (tgt := 124) dX12_reports_99 (by decide) (fun c28 => ?_) (fun c28 => ?_)
  · have hf := it_s c28 hf
    refine b_aload_n C dX12_reports_124 0 rfl rfl ?_
    refine b_iload_n C dX12_reports_125 2 rfl rfl ?_
    obtain ⟨h29, hf⟩ := gd_s hf
    obtain ⟨d30, k31, hf⟩ := cv_s hf
    refine b_cVN C [] dX12_reports_126 (kX12_hears l D cy B k31) lv_X12_320 ⟨rfl, rfl, Nat.le_of_ble_eq_true rfl, Nat.le_of_ble_eq_true rfl⟩ h29 (by decide) rfl (Nat.le_of_ble_eq_true rfl) ⟨Nat.zero_le _, Nat.zero_le _⟩ rfl ?_
    exact b_vret C hr hlocks hf dX12_reports_129
  · have hf := if_s c28 hf
    refine b_aload_n C dX12_reports_102 0 rfl rfl ?_
    obtain ⟨h32, hf⟩ := gd_s hf
    obtain ⟨r33, er33, hf⟩ := ob_s hf
    refine b_gR C dX12_reports_103 fl_X12_40 h32 er33 ?_
    refine b_iload_n C dX12_reports_106 2 rfl rfl ?_
    refine b_iconst C (v := 3) dX12_reports_107 (by decide) ?_
    refine b_iadd C dX12_reports_108 ?_
    refine b_iload_n C dX12_reports_109 3 rfl rfl ?_
    refine b_iadd C dX12_reports_110 ?_
    refine b_aload_n C dX12_reports_111 0 rfl rfl ?_
    obtain ⟨r34, er34, hf⟩ := ob_s hf
    refine b_gR C dX12_reports_112 fl_X12_56 h32 er34 ?_
    refine b_iload_n C dX12_reports_115 3 rfl rfl ?_
    obtain ⟨h35, hf⟩ := gd_s hf
    obtain ⟨h36, hf⟩ := gd_s hf
    refine b_iald C h35 h36 dX12_reports_116 ?_
    obtain ⟨h37, hf⟩ := gd_s hf
    obtain ⟨h38, hf⟩ := gd_s hf
    obtain ⟨d39, ed39, hf⟩ := bd_s hf
    refine b_iast C h37 h38 ed39 dX12_reports_117 ?_
    obtain ⟨u40, eu40, hf⟩ := bd_s hf
    refine b_iinc C dX12_reports_118 3 rfl (by rw [eu40]; rfl) [(3, .int u40), (0, .ref (ad B x0)), (1, .int y1), (2, .int y2)] (by decide) rfl ?_
    refine b_goto C (tgt := 97) dX12_reports_121 (by decide) ?_
    refine b_sub [(0, .ref (ad B x0)), (1, .int y1), (2, .int y2), (3, .int u40)] [1, 2, 3, 0] rfl ?_
    exact hK97 (y1, y2, u40, d39) hf
def fX12_reports_L97 (N : Nat) (g : Gs) (x0 : Nat) : Int32 × Int32 × Int32 × Ds → Option (Unit × Ds) := lp (fun K97 a => fX12_reports_B97 N g x0 K97 a.1 a.2.1 a.2.2.1 a.2.2.2) N
theorem tX12_reports_L97 {p : Program} {l : Launch} {e : Env} {s : State} {m : MethodId} {args : Array Value} {below : List Frame} {meth : Method} {c : Code} {D : va_G} {cy : Nat → ClassId} {B : Bs} (C : Cx p s m args c cX12_reports 4 RX12 D cy B) (hr : meth.sig.returnType = none) (hlocks : meth.locks = false) {N : Nat} {g : Gs} {x0 : Nat}  {dz : Ds} (a : Int32 × Int32 × Int32 × Ds) (hf : fX12_reports_L97 N g x0 a = some ((), dz)) : WB p l e rmX12_reports s m args below meth c 4 D cy B 0 0 (MQ below (QV D cy B g dz) args s 0 0 (wA B)) g a.2.2.2 [(0, .ref (ad B x0)), (1, .int a.1), (2, .int a.2.1), (3, .int a.2.2.1)] 97 [] :=
  lp_w (fun K97 hK97 a ha => tX12_reports_97 C hr hlocks hK97 ha) N a hf
set_option maxRecDepth 100000 in
def fX12_reports_J32 (N : Nat) (g : Gs) (x0 : Nat) (z0 : Int32) (d : Ds) : Option (Unit × Ds) := gd (chk g x0 11) <| cb (fX12_isLatest N g x0 z0 d) fun u12 d10 => (if u12 = 0 then (ob (gR g x0 17) fun r14 => (gd (chk g r14 102) <| gd (¬ ((555 : Int32) < 0 ∨ gL g r14 ≤ (555 : Int32).toNatClampNeg)) <| bd (sI d10 r14 (555 : Int32).toNatClampNeg ((dI d10 r14 (555 : Int32).toNatClampNeg) + 1)) fun d17 => (cb (fX12_reportAt N g x0 0 d17) fun u20 d18 => (gd (¬ ((354 : Int32) < 0 ∨ gL g r14 ≤ (354 : Int32).toNatClampNeg)) <| gd (¬ (u20 < 0 ∨ gL g r14 ≤ u20.toNatClampNeg)) <| bd (sI d18 r14 u20.toNatClampNeg (dI d18 r14 (354 : Int32).toNatClampNeg)) fun d23 => (gd (¬ ((u20 + 1) < 0 ∨ gL g r14 ≤ (u20 + 1).toNatClampNeg)) <| bd (sI d23 r14 (u20 + 1).toNatClampNeg (dI d23 x0 25)) fun d25 => (gd (¬ ((u20 + 2) < 0 ∨ gL g r14 ≤ (u20 + 2).toNatClampNeg)) <| bd (sI d25 r14 (u20 + 2).toNatClampNeg z0) fun d27 => (fX12_reports_L97 N g x0 (z0, u20, 0, d27)))))))) else (some ((), d10)))
set_option maxHeartbeats 4000000 in
set_option maxRecDepth 100000 in
theorem tX12_reports_32 {p : Program} {l : Launch} {e : Env} {s : State} {m : MethodId} {args : Array Value} {below : List Frame} {meth : Method} {c : Code} {D : va_G} {cy : Nat → ClassId} {B : Bs} (C : Cx p s m args c cX12_reports 4 RX12 D cy B) (hr : meth.sig.returnType = none) (hlocks : meth.locks = false) {N : Nat} {g : Gs} {x0 : Nat}  {dz : Ds} {z0 : Int32} {d : Ds} (hf : fX12_reports_J32 N g x0 z0 d = some ((), dz)) : WB p l e rmX12_reports s m args below meth c 4 D cy B 0 0 (MQ below (QV D cy B g dz) args s 0 0 (wA B)) g d [(0, .ref (ad B x0))] 32 [.int z0] := by
  unfold fX12_reports_J32 at hf
  refine b_istore_n C dX12_reports_32 rfl [(1, .int z0), (0, .ref (ad B x0))] (by decide) rfl ?_
  refine b_aload_n C dX12_reports_33 1 rfl rfl ?_
  refine b_iload_n C dX12_reports_34 0 rfl rfl ?_
  obtain ⟨h9, hf⟩ := gd_s hf
  obtain ⟨u12, d10, k11, hf⟩ := cb_s hf
  refine b_cVI C [] dX12_reports_35 (kX12_isLatest l D cy B k11) lv_X12_317 ⟨rfl, rfl, Nat.le_of_ble_eq_true rfl, Nat.le_of_ble_eq_true rfl⟩ h9 (by decide) rfl (Nat.le_of_ble_eq_true rfl) ⟨Nat.zero_le _, Nat.zero_le _⟩ rfl ?_
  refine b_if_eq C (tgt := 42) dX12_reports_38 (by decide) (fun c13 => ?_) (fun c13 => ?_)
  · have hf := it_s c13 hf
    refine b_aload_n C dX12_reports_42 1 rfl rfl ?_
    obtain ⟨r14, er14, hf⟩ := ob_s hf
    refine b_gR C dX12_reports_43 fl_X12_40 h9 er14 ?_
    refine b_sipush C (v := 555) dX12_reports_46 (by decide) ?_
    refine b_dup2 C dX12_reports_49 rfl rfl ?_
    obtain ⟨h15, hf⟩ := gd_s hf
    obtain ⟨h16, hf⟩ := gd_s hf
    refine b_iald C h15 h16 dX12_reports_50 ?_
    refine b_iconst C (v := 1) dX12_reports_51 (by decide) ?_
    refine b_iadd C dX12_reports_52 ?_
    obtain ⟨d17, ed17, hf⟩ := bd_s hf
    refine b_iast C h15 h16 ed17 dX12_reports_53 ?_
    refine b_aload_n C dX12_reports_54 1 rfl rfl ?_
    refine b_iconst C (v := 0) dX12_reports_55 (by decide) ?_
    obtain ⟨u20, d18, k19, hf⟩ := cb_s hf
    refine b_cVI C [] dX12_reports_56 (kX12_reportAt l D cy B k19) lv_X12_311 ⟨rfl, rfl, Nat.le_of_ble_eq_true rfl, Nat.le_of_ble_eq_true rfl⟩ h9 (by decide) rfl (Nat.le_of_ble_eq_true rfl) ⟨Nat.zero_le _, Nat.zero_le _⟩ rfl ?_
    refine b_istore_n C dX12_reports_59 rfl [(2, .int u20), (1, .int z0), (0, .ref (ad B x0))] (by decide) rfl ?_
    refine b_aload_n C dX12_reports_60 2 rfl rfl ?_
    refine b_gR C dX12_reports_61 fl_X12_40 h9 er14 ?_
    refine b_iload_n C dX12_reports_64 0 rfl rfl ?_
    refine b_aload_n C dX12_reports_65 2 rfl rfl ?_
    refine b_gR C dX12_reports_66 fl_X12_40 h9 er14 ?_
    refine b_sipush C (v := 354) dX12_reports_69 (by decide) ?_
    obtain ⟨h21, hf⟩ := gd_s hf
    refine b_iald C h15 h21 dX12_reports_72 ?_
    obtain ⟨h22, hf⟩ := gd_s hf
    obtain ⟨d23, ed23, hf⟩ := bd_s hf
    refine b_iast C h15 h22 ed23 dX12_reports_73 ?_
    refine b_aload_n C dX12_reports_74 2 rfl rfl ?_
    refine b_gR C dX12_reports_75 fl_X12_40 h9 er14 ?_
    refine b_iload_n C dX12_reports_78 0 rfl rfl ?_
    refine b_iconst C (v := 1) dX12_reports_79 (by decide) ?_
    refine b_iadd C dX12_reports_80 ?_
    refine b_aload_n C dX12_reports_81 2 rfl rfl ?_
    refine b_gI C dX12_reports_82 fl_X12_302 h9 ?_
    obtain ⟨h24, hf⟩ := gd_s hf
    obtain ⟨d25, ed25, hf⟩ := bd_s hf
    refine b_iast C h15 h24 ed25 dX12_reports_85 ?_
    refine b_aload_n C dX12_reports_86 2 rfl rfl ?_
    refine b_gR C dX12_reports_87 fl_X12_40 h9 er14 ?_
    refine b_iload_n C dX12_reports_90 0 rfl rfl ?_
    refine b_iconst C (v := 2) dX12_reports_91 (by decide) ?_
    refine b_iadd C dX12_reports_92 ?_
    refine b_iload_n C dX12_reports_93 1 rfl rfl ?_
    obtain ⟨h26, hf⟩ := gd_s hf
    obtain ⟨d27, ed27, hf⟩ := bd_s hf
    refine b_iast C h15 h26 ed27 dX12_reports_94 ?_
    refine b_iconst C (v := 0) dX12_reports_95 (by decide) ?_
    refine b_istore_n C dX12_reports_96 rfl [(3, .int 0), (2, .int u20), (1, .int z0), (0, .ref (ad B x0))] (by decide) rfl ?_
    refine b_sub [(0, .ref (ad B x0)), (1, .int z0), (2, .int u20), (3, .int 0)] [3, 2, 1, 0] rfl ?_
    exact tX12_reports_L97 C hr hlocks (z0, u20, 0, d27) hf
  · have hf := if_s c13 hf
    exact b_vret C hr hlocks hf dX12_reports_41
set_option maxRecDepth 100000 in
def fX12_reports_J28 (N : Nat) (g : Gs) (x0 : Nat) (d : Ds) : Option (Unit × Ds) := gd (chk g x0 11) <| fX12_reports_J32 N g x0 (dI d x0 26) d
set_option maxHeartbeats 4000000 in
set_option maxRecDepth 100000 in
theorem tX12_reports_28 {p : Program} {l : Launch} {e : Env} {s : State} {m : MethodId} {args : Array Value} {below : List Frame} {meth : Method} {c : Code} {D : va_G} {cy : Nat → ClassId} {B : Bs} (C : Cx p s m args c cX12_reports 4 RX12 D cy B) (hr : meth.sig.returnType = none) (hlocks : meth.locks = false) {N : Nat} {g : Gs} {x0 : Nat}  {dz : Ds} {d : Ds} (hf : fX12_reports_J28 N g x0 d = some ((), dz)) : WB p l e rmX12_reports s m args below meth c 4 D cy B 0 0 (MQ below (QV D cy B g dz) args s 0 0 (wA B)) g d [(0, .ref (ad B x0))] 28 [] := by
  unfold fX12_reports_J28 at hf
  refine b_aload_n C dX12_reports_28 0 rfl rfl ?_
  obtain ⟨h8, hf⟩ := gd_s hf
  refine b_gI C dX12_reports_29 fl_X12_299 h8 ?_
  refine b_sub [(0, .ref (ad B x0))] [0] rfl ?_
  exact tX12_reports_32 C hr hlocks hf
set_option maxRecDepth 100000 in
def fX12_reports (N : Nat) (g : Gs) (x0 : Nat) (d : Ds) : Option (Unit × Ds) := gd (chk g x0 11) <| cv (fX12_laysSent N g x0 d) fun d2 => (ob (gR g x0 17) fun r4 => (gd (chk g r4 102) <| gd (¬ ((3 : Int32) < 0 ∨ gL g r4 ≤ (3 : Int32).toNatClampNeg)) <| if (dI d2 r4 (3 : Int32).toNatClampNeg) = (1 : Int32) then (if (dI d2 x0 26) ≤ (6 : Int32) then (fX12_reports_J28 N g x0 d2) else (fX12_reports_J32 N g x0 (-2) d2)) else (fX12_reports_J28 N g x0 d2)))
set_option maxHeartbeats 4000000 in
set_option maxRecDepth 100000 in
theorem tX12_reports_E {p : Program} {l : Launch} {e : Env} {s : State} {m : MethodId} {args : Array Value} {below : List Frame} {meth : Method} {c : Code} {D : va_G} {cy : Nat → ClassId} {B : Bs} (C : Cx p s m args c cX12_reports 4 RX12 D cy B) (hr : meth.sig.returnType = none) (hlocks : meth.locks = false) {N : Nat} {g : Gs} {x0 : Nat}  {dz : Ds} {d : Ds} (hf : fX12_reports N g x0 d = some ((), dz)) : WB p l e rmX12_reports s m args below meth c 4 D cy B 0 0 (MQ below (QV D cy B g dz) args s 0 0 (wA B)) g d [(0, .ref (ad B x0))] 0 [] := by
  unfold fX12_reports at hf
  refine b_aload_n C dX12_reports_0 0 rfl rfl ?_
  obtain ⟨h1, hf⟩ := gd_s hf
  obtain ⟨d2, k3, hf⟩ := cv_s hf
  refine b_cVN C [] dX12_reports_1 (kX12_laysSent l D cy B k3) lv_X12_314 ⟨rfl, rfl, Nat.le_of_ble_eq_true rfl, Nat.le_of_ble_eq_true rfl⟩ h1 (by decide) rfl (Nat.le_of_ble_eq_true rfl) ⟨Nat.zero_le _, Nat.zero_le _⟩ rfl ?_
  refine b_aload_n C dX12_reports_4 0 rfl rfl ?_
  obtain ⟨r4, er4, hf⟩ := ob_s hf
  refine b_gR C dX12_reports_5 fl_X12_40 h1 er4 ?_
  refine b_iconst C (v := 3) dX12_reports_8 (by decide) ?_
  obtain ⟨h5, hf⟩ := gd_s hf
  obtain ⟨h6, hf⟩ := gd_s hf
  refine b_iald C h5 h6 dX12_reports_9 ?_
  refine b_iconst C (v := 1) dX12_reports_10 (by decide) ?_
  refine b_icmp_ne C (tgt := 28) dX12_reports_11 (by decide) (fun c7 => ?_) (fun c7 => ?_)
  · have hf := if_s c7 hf
    refine b_sub [(0, .ref (ad B x0))] [0] rfl ?_
    exact tX12_reports_28 C hr hlocks hf
  · have hf := it_s c7 hf
    refine b_aload_n C dX12_reports_14 0 rfl rfl ?_
    refine b_gI C dX12_reports_15 fl_X12_299 h1 ?_
    refine b_bipush C (v := 6) dX12_reports_18 (by decide) ?_
    refine b_icmp_le C (tgt := 28) dX12_reports_20 (by decide) (fun c41 => ?_) (fun c41 => ?_)
    · have hf := it_s c41 hf
      refine b_sub [(0, .ref (ad B x0))] [0] rfl ?_
      exact tX12_reports_28 C hr hlocks hf
    · have hf := if_s c41 hf
      refine b_bipush C (v := (-2)) dX12_reports_23 (by decide) ?_
      refine b_goto C (tgt := 32) dX12_reports_25 (by decide) ?_
      refine b_sub [(0, .ref (ad B x0))] [0] rfl ?_
      exact tX12_reports_32 C hr hlocks hf
theorem kX12_reports (l : Launch) (D : va_G) (cy : Nat → ClassId) (B : Bs) {N : Nat} {g : Gs} {x0 : Nat}  {dz : Ds} {d : Ds} (hf : fX12_reports N g x0 d = some ((), dz)) : Met l yX12_reports (.code yX12_reports cX12_reports 4 none :: wl) rmX12_reports (PC D cy B [.ref (ad B x0)] g d) (QV D cy B g dz) 0 0 (wA B) :=
  met_of (by decide +kernel) (Nat.le_of_ble_eq_true rfl) (fun p e s m args below meth c C hr hlocks _ => b_sub [(0, .ref (ad B x0))] [0] rfl (tX12_reports_E C hr hlocks hf))
