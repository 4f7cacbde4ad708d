/-! KeyMatrix$Queue.dropNext(IZ)V -/
theorem lv_X4_28 : LV RX4 28 yX4_keyAt cX4_keyAt 2 (some .int) 1 4 := ⟨⟨(RX4, TX4, 3), rfl, rfl⟩, yo_X4_keyAt, mW (mT4 (List.mem_of_getElem? (i := 201) (by decide +kernel))) rfl, im_X4_keyAt, se_X4_keyAt, in_X4_keyAt, co_X4_keyAt⟩
theorem lv_X4_32 : LV RX4 32 yX4_isDownAt cX4_isDownAt 2 (some .boolean) 1 4 := ⟨⟨(RX4, TX4, 3), rfl, rfl⟩, yo_X4_isDownAt, mW (mT4 (List.mem_of_getElem? (i := 202) (by decide +kernel))) rfl, im_X4_isDownAt, se_X4_isDownAt, in_X4_isDownAt, co_X4_isDownAt⟩
theorem yo_X4_drop : yX4_drop.cls ≠ "java/lang/invoke/MethodHandle" ∧ yX4_drop.cls ≠ "java/lang/invoke/VarHandle" ∧ (parseMethodDescriptor yX4_drop.desc).map (fun d => d.parameters.length) = some 1 := by decide +kernel
theorem co_X4_drop : Cond.code yX4_drop cX4_drop 2 none ∈ wl := mW (mT4 (List.mem_of_getElem? (i := 130) (by decide +kernel))) rfl
theorem in_X4_drop : Cond.initialized yX4_drop.cls ∈ wl := mW (mT1 (List.mem_of_getElem? (i := 9) (by decide +kernel))) rfl
theorem im_X4_drop : Cond.instanceMethod yX4_drop ∈ wl := mW (mT4 (List.mem_of_getElem? (i := 128) (by decide +kernel))) rfl
theorem se_X4_drop : Cond.selects yX4_drop.cls yX4_drop yX4_drop ∈ wl := mW (mT4 (List.mem_of_getElem? (i := 129) (by decide +kernel))) rfl
theorem lv_X4_36 : LV RX4 36 yX4_drop cX4_drop 2 none 1 4 := ⟨⟨(RX4, TX4, 3), rfl, rfl⟩, yo_X4_drop, mW (mT4 (List.mem_of_getElem? (i := 203) (by decide +kernel))) rfl, im_X4_drop, se_X4_drop, in_X4_drop, co_X4_drop⟩
theorem dX4_dropNext_0 : decode cX4_dropNext 0 = .ok (.iconst 0, 1) := by decide +kernel
theorem dX4_dropNext_1 : decode cX4_dropNext 1 = .ok (.istore_n 3, 1) := by decide +kernel
theorem dX4_dropNext_2 : decode cX4_dropNext 2 = .ok (.iload_n 3, 1) := by decide +kernel
theorem dX4_dropNext_3 : decode cX4_dropNext 3 = .ok (.aload_n 0, 1) := by decide +kernel
theorem dX4_dropNext_4 : decode cX4_dropNext 4 = .ok (.getfield 15, 3) := by decide +kernel
theorem dX4_dropNext_7 : decode cX4_dropNext 7 = .ok (.if_icmp .ge 33, 3) := by decide +kernel
theorem dX4_dropNext_10 : decode cX4_dropNext 10 = .ok (.aload_n 0, 1) := by decide +kernel
theorem dX4_dropNext_11 : decode cX4_dropNext 11 = .ok (.iload_n 3, 1) := by decide +kernel
theorem dX4_dropNext_12 : decode cX4_dropNext 12 = .ok (.invokevirtual 28, 3) := by decide +kernel
theorem dX4_dropNext_15 : decode cX4_dropNext 15 = .ok (.iload_n 1, 1) := by decide +kernel
theorem dX4_dropNext_16 : decode cX4_dropNext 16 = .ok (.if_icmp .ne 18, 3) := by decide +kernel
theorem dX4_dropNext_19 : decode cX4_dropNext 19 = .ok (.aload_n 0, 1) := by decide +kernel
theorem dX4_dropNext_20 : decode cX4_dropNext 20 = .ok (.iload_n 3, 1) := by decide +kernel
theorem dX4_dropNext_21 : decode cX4_dropNext 21 = .ok (.invokevirtual 32, 3) := by decide +kernel
theorem dX4_dropNext_24 : decode cX4_dropNext 24 = .ok (.iload_n 2, 1) := by decide +kernel
theorem dX4_dropNext_25 : decode cX4_dropNext 25 = .ok (.if_icmp .ne 9, 3) := by decide +kernel
theorem dX4_dropNext_28 : decode cX4_dropNext 28 = .ok (.aload_n 0, 1) := by decide +kernel
theorem dX4_dropNext_29 : decode cX4_dropNext 29 = .ok (.iload_n 3, 1) := by decide +kernel
theorem dX4_dropNext_30 : decode cX4_dropNext 30 = .ok (.invokevirtual 36, 3) := by decide +kernel
theorem dX4_dropNext_33 : decode cX4_dropNext 33 = .ok (.return_, 1) := by decide +kernel
theorem dX4_dropNext_34 : decode cX4_dropNext 34 = .ok (.iinc 3 1, 3) := by decide +kernel
theorem dX4_dropNext_37 : decode cX4_dropNext 37 = .ok (.goto (-35), 3) := by decide +kernel
theorem dX4_dropNext_40 : decode cX4_dropNext 40 = .ok (.return_, 1) := by decide +kernel
def rmX4_dropNext : Room := { frames := 2, cells := 0, slots := 0, locals := 61 }
set_option maxRecDepth 100000 in
def fX4_dropNext_J34 (N : Nat) (g : Gs) (x0 : Nat) (x1 : Int32) (x2 : Int32) (K2 : Int32 × Ds → Option (Unit × Ds)) (y3 : Int32) (d : Ds) : Option (Unit × Ds) := bd (y3 + 1) fun u7 => (K2 (u7, d))
set_option maxHeartbeats 4000000 in
set_option maxRecDepth 100000 in
theorem tX4_dropNext_34 {p : Program} {l : Launch} {e : Env} {s : State} {m : MethodId} {args : Array Value} {below : List Frame} {meth : Method} {c : Code} {D : va_G} {cy : Nat → ClassId} {B : Bs} (C : Cx p s m args c cX4_dropNext 4 RX4 D cy B) (hr : meth.sig.returnType = none) (hlocks : meth.locks = false) {N : Nat} {g : Gs} {x0 : Nat} {x1 : Int32} {x2 : Int32}  {dz : Ds} {K2 : Int32 × Ds → Option (Unit × Ds)} (hK2 : ∀ a, K2 a = some ((), dz) → WB p l e rmX4_dropNext s m args below meth c 4 D cy B 0 0 (MQ below (QV D cy B g dz) args s 0 0 (wA B)) g a.2 [(0, .ref (ad B x0)), (1, .int x1), (2, .int x2), (3, .int a.1)] 2 []) {y3 : Int32} {d : Ds} (hf : fX4_dropNext_J34 N g x0 x1 x2 K2 y3 d = some ((), dz)) : WB p l e rmX4_dropNext s m args below meth c 4 D cy B 0 0 (MQ below (QV D cy B g dz) args s 0 0 (wA B)) g d [(0, .ref (ad B x0)), (1, .int x1), (2, .int x2), (3, .int y3)] 34 [] := by
  unfold fX4_dropNext_J34 at hf
  obtain ⟨u7, eu7, hf⟩ := bd_s hf
  refine b_iinc C dX4_dropNext_34 3 rfl (by rw [eu7]; rfl) [(3, .int u7), (0, .ref (ad B x0)), (1, .int x1), (2, .int x2)] (by decide) rfl ?_
  refine b_goto C (tgt := 2) dX4_dropNext_37 (by decide) ?_
  refine b_sub [(0, .ref (ad B x0)), (1, .int x1), (2, .int x2), (3, .int u7)] [1, 2, 3, 0] rfl ?_
  exact hK2 (u7, d) hf
set_option maxRecDepth 100000 in
def fX4_dropNext_B2 (N : Nat) (g : Gs) (x0 : Nat) (x1 : Int32) (x2 : Int32) (K2 : Int32 × Ds → Option (Unit × Ds)) (y3 : Int32) (d : Ds) : Option (Unit × Ds) := gd (chk g x0 4) <| if (dI d x0 1) ≤ y3 then (some ((), d)) else (cb (fX4_keyAt N g x0 y3 d) fun u5 d3 => (if u5 = x1 then (cb (fX4_isDownAt N g x0 y3 d3) fun u10 d8 => (if u10 = x2 then (cv (fX4_drop N g x0 y3 d8) fun d12 => (some ((), d12))) else (fX4_dropNext_J34 N g x0 x1 x2 K2 y3 d8))) else (fX4_dropNext_J34 N g x0 x1 x2 K2 y3 d3)))
set_option maxHeartbeats 4000000 in
set_option maxRecDepth 100000 in
theorem tX4_dropNext_2 {p : Program} {l : Launch} {e : Env} {s : State} {m : MethodId} {args : Array Value} {below : List Frame} {meth : Method} {c : Code} {D : va_G} {cy : Nat → ClassId} {B : Bs} (C : Cx p s m args c cX4_dropNext 4 RX4 D cy B) (hr : meth.sig.returnType = none) (hlocks : meth.locks = false) {N : Nat} {g : Gs} {x0 : Nat} {x1 : Int32} {x2 : Int32}  {dz : Ds} {K2 : Int32 × Ds → Option (Unit × Ds)} (hK2 : ∀ a, K2 a = some ((), dz) → WB p l e rmX4_dropNext s m args below meth c 4 D cy B 0 0 (MQ below (QV D cy B g dz) args s 0 0 (wA B)) g a.2 [(0, .ref (ad B x0)), (1, .int x1), (2, .int x2), (3, .int a.1)] 2 []) {y3 : Int32} {d : Ds} (hf : fX4_dropNext_B2 N g x0 x1 x2 K2 y3 d = some ((), dz)) : WB p l e rmX4_dropNext s m args below meth c 4 D cy B 0 0 (MQ below (QV D cy B g dz) args s 0 0 (wA B)) g d [(0, .ref (ad B x0)), (1, .int x1), (2, .int x2), (3, .int y3)] 2 [] := by
  unfold fX4_dropNext_B2 at hf
  refine b_iload_n C dX4_dropNext_2 3 rfl rfl ?_
  refine b_aload_n C dX4_dropNext_3 0 rfl rfl ?_
  obtain ⟨h1, hf⟩ := gd_s hf
  refine b_gI C dX4_dropNext_4 fl_X4_15 h1 ?_
  refine b_icmp_ge C (tgt := 40) dX4_dropNext_7 (by decide) (fun c2 => ?_) (fun c2 => ?_)
  · have hf := it_s c2 hf
    exact b_vret C hr hlocks hf dX4_dropNext_40
  · have hf := if_s c2 hf
    refine b_aload_n C dX4_dropNext_10 0 rfl rfl ?_
    refine b_iload_n C dX4_dropNext_11 3 rfl rfl ?_
    obtain ⟨u5, d3, k4, hf⟩ := cb_s hf
    refine b_cVI C [] dX4_dropNext_12 (kX4_keyAt l D cy B k4) lv_X4_28 ⟨rfl, rfl, Nat.le_of_ble_eq_true rfl, Nat.le_of_ble_eq_true rfl⟩ h1 (by decide) rfl (Nat.le_of_ble_eq_true rfl) ⟨Nat.zero_le _, Nat.zero_le _⟩ rfl ?_
    refine b_iload_n C dX4_dropNext_15 1 rfl rfl ?_
    refine b_icmp_ne C (tgt := 34) dX4_dropNext_16 (by decide) (fun c6 => ?_) (fun c6 => ?_)
    · have hf := if_s c6 hf
      refine b_sub [(0, .ref (ad B x0)), (1, .int x1), (2, .int x2), (3, .int y3)] [0, 1, 2, 3] rfl ?_
      exact tX4_dropNext_34 C hr hlocks hK2 hf
    · have hf := it_s c6 hf
      refine b_aload_n C dX4_dropNext_19 0 rfl rfl ?_
      refine b_iload_n C dX4_dropNext_20 3 rfl rfl ?_
      obtain ⟨u10, d8, k9, hf⟩ := cb_s hf
      refine b_cVI C [] dX4_dropNext_21 (kX4_isDownAt l D cy B k9) lv_X4_32 ⟨rfl, rfl, Nat.le_of_ble_eq_true rfl, Nat.le_of_ble_eq_true rfl⟩ h1 (by decide) rfl (Nat.le_of_ble_eq_true rfl) ⟨Nat.zero_le _, Nat.zero_le _⟩ rfl ?_
      refine b_iload_n C dX4_dropNext_24 2 rfl rfl ?_
      refine b_icmp_ne C (tgt := 34) dX4_dropNext_25 (by decide) (fun c11 => ?_) (fun c11 => ?_)
      · have hf := if_s c11 hf
        refine b_sub [(0, .ref (ad B x0)), (1, .int x1), (2, .int x2), (3, .int y3)] [0, 1, 2, 3] rfl ?_
        exact tX4_dropNext_34 C hr hlocks hK2 hf
      · have hf := it_s c11 hf
        refine b_aload_n C dX4_dropNext_28 0 rfl rfl ?_
        refine b_iload_n C dX4_dropNext_29 3 rfl rfl ?_
        obtain ⟨d12, k13, hf⟩ := cv_s hf
        refine b_cVN C [] dX4_dropNext_30 (kX4_drop l D cy B k13) lv_X4_36 ⟨rfl, rfl, Nat.le_of_ble_eq_true rfl, Nat.le_of_ble_eq_true rfl⟩ h1 (by decide) rfl (Nat.le_of_ble_eq_true rfl) ⟨Nat.zero_le _, Nat.zero_le _⟩ rfl ?_
        exact b_vret C hr hlocks hf dX4_dropNext_33
def fX4_dropNext_L2 (N : Nat) (g : Gs) (x0 : Nat) (x1 : Int32) (x2 : Int32) : Int32 × Ds → Option (Unit × Ds) := lp (fun K2 a => fX4_dropNext_B2 N g x0 x1 x2 K2 a.1 a.2) N
theorem tX4_dropNext_L2 {p : Program} {l : Launch} {e : Env} {s : State} {m : MethodId} {args : Array Value} {below : List Frame} {meth : Method} {c : Code} {D : va_G} {cy : Nat → ClassId} {B : Bs} (C : Cx p s m args c cX4_dropNext 4 RX4 D cy B) (hr : meth.sig.returnType = none) (hlocks : meth.locks = false) {N : Nat} {g : Gs} {x0 : Nat} {x1 : Int32} {x2 : Int32}  {dz : Ds} (a : Int32 × Ds) (hf : fX4_dropNext_L2 N g x0 x1 x2 a = some ((), dz)) : WB p l e rmX4_dropNext s m args below meth c 4 D cy B 0 0 (MQ below (QV D cy B g dz) args s 0 0 (wA B)) g a.2 [(0, .ref (ad B x0)), (1, .int x1), (2, .int x2), (3, .int a.1)] 2 [] :=
  lp_w (fun K2 hK2 a ha => tX4_dropNext_2 C hr hlocks hK2 ha) N a hf
set_option maxRecDepth 100000 in
def fX4_dropNext (N : Nat) (g : Gs) (x0 : Nat) (x1 : Int32) (x2 : Int32) (d : Ds) : Option (Unit × Ds) := fX4_dropNext_L2 N g x0 x1 x2 (0, d)
set_option maxHeartbeats 4000000 in
set_option maxRecDepth 100000 in
theorem tX4_dropNext_E {p : Program} {l : Launch} {e : Env} {s : State} {m : MethodId} {args : Array Value} {below : List Frame} {meth : Method} {c : Code} {D : va_G} {cy : Nat → ClassId} {B : Bs} (C : Cx p s m args c cX4_dropNext 4 RX4 D cy B) (hr : meth.sig.returnType = none) (hlocks : meth.locks = false) {N : Nat} {g : Gs} {x0 : Nat} {x1 : Int32} {x2 : Int32}  {dz : Ds} {d : Ds} (hf : fX4_dropNext N g x0 x1 x2 d = some ((), dz)) : WB p l e rmX4_dropNext s m args below meth c 4 D cy B 0 0 (MQ below (QV D cy B g dz) args s 0 0 (wA B)) g d [(0, .ref (ad B x0)), (1, .int x1), (2, .int x2)] 0 [] := by
  unfold fX4_dropNext at hf
  refine b_iconst C (v := 0) dX4_dropNext_0 (by decide) ?_
  refine b_istore_n C dX4_dropNext_1 rfl [(3, .int 0), (0, .ref (ad B x0)), (1, .int x1), (2, .int x2)] (by decide) rfl ?_
  refine b_sub [(0, .ref (ad B x0)), (1, .int x1), (2, .int x2), (3, .int 0)] [1, 2, 3, 0] rfl ?_
  exact tX4_dropNext_L2 C hr hlocks (0, d) hf
theorem kX4_dropNext (l : Launch) (D : va_G) (cy : Nat → ClassId) (B : Bs) {N : Nat} {g : Gs} {x0 : Nat} {x1 : Int32} {x2 : Int32}  {dz : Ds} {d : Ds} (hf : fX4_dropNext N g x0 x1 x2 d = some ((), dz)) : Met l yX4_dropNext (.code yX4_dropNext cX4_dropNext 4 none :: wl) rmX4_dropNext (PC D cy B [.ref (ad B x0), .int x1, .int x2] g d) (QV D cy B g dz) 0 0 (wA B) :=
  met_of (by decide +kernel) (Nat.le_of_ble_eq_true rfl) (fun p e s m args below meth c C hr hlocks _ => b_sub [(0, .ref (ad B x0)), (1, .int x1), (2, .int x2)] [0, 1, 2] rfl (tX4_dropNext_E C hr hlocks hf))
/-! KeyMatrix$Course.workOff(I)V -/
theorem lv_X1_174 : LV RX1 174 yX4_drop cX4_drop 2 none 1 4 := ⟨⟨(RX4, TX4, 3), rfl, rfl⟩, yo_X4_drop, mW (mT4 (List.mem_of_getElem? (i := 127) (by decide +kernel))) rfl, im_X4_drop, se_X4_drop, in_X4_drop, co_X4_drop⟩
theorem fl_X1_187 : FLI RX1 187 2 1 := ⟨⟨RX2, TX2, 3, rfl, by decide, inl2, Or.inr (mT1 (List.mem_of_getElem? (i := 77) (by decide +kernel)))⟩, by decide, by decide +kernel⟩
theorem yo_X1_perform : yX1_perform.cls ≠ "java/lang/invoke/MethodHandle" ∧ yX1_perform.cls ≠ "java/lang/invoke/VarHandle" ∧ (parseMethodDescriptor yX1_perform.desc).map (fun d => d.parameters.length) = some 4 := by decide +kernel
theorem co_X1_perform : Cond.code yX1_perform cX1_perform 6 none ∈ wl := mW (mT4 (List.mem_of_getElem? (i := 188) (by decide +kernel))) rfl
theorem in_X1_perform : Cond.initialized yX1_perform.cls ∈ wl := mW (mT1 (List.mem_of_getElem? (i := 7) (by decide +kernel))) rfl
theorem im_X1_perform : Cond.instanceMethod yX1_perform ∈ wl := mW (mT4 (List.mem_of_getElem? (i := 187) (by decide +kernel))) rfl
theorem se_X1_perform : Cond.selects yX1_perform.cls yX1_perform yX1_perform ∈ wl := mW (mT0 (List.mem_of_getElem? (i := 29) (by decide +kernel))) rfl
theorem lv_X1_190 : LV RX1 190 yX1_perform cX1_perform 6 none 4 1 := ⟨⟨(RX1, TX1, 6), rfl, rfl⟩, yo_X1_perform, mW (mT4 (List.mem_of_getElem? (i := 185) (by decide +kernel))) rfl, im_X1_perform, se_X1_perform, in_X1_perform, co_X1_perform⟩
theorem yo_X4_dropNext : yX4_dropNext.cls ≠ "java/lang/invoke/MethodHandle" ∧ yX4_dropNext.cls ≠ "java/lang/invoke/VarHandle" ∧ (parseMethodDescriptor yX4_dropNext.desc).map (fun d => d.parameters.length) = some 2 := by decide +kernel
theorem co_X4_dropNext : Cond.code yX4_dropNext cX4_dropNext 4 none ∈ wl := mW (mT4 (List.mem_of_getElem? (i := 200) (by decide +kernel))) rfl
theorem in_X4_dropNext : Cond.initialized yX4_dropNext.cls ∈ wl := mW (mT1 (List.mem_of_getElem? (i := 9) (by decide +kernel))) rfl
theorem im_X4_dropNext : Cond.instanceMethod yX4_dropNext ∈ wl := mW (mT4 (List.mem_of_getElem? (i := 198) (by decide +kernel))) rfl
theorem se_X4_dropNext : Cond.selects yX4_dropNext.cls yX4_dropNext yX4_dropNext ∈ wl := mW (mT4 (List.mem_of_getElem? (i := 199) (by decide +kernel))) rfl
theorem lv_X1_197 : LV RX1 197 yX4_dropNext cX4_dropNext 4 none 2 4 := ⟨⟨(RX4, TX4, 3), rfl, rfl⟩, yo_X4_dropNext, mW (mT4 (List.mem_of_getElem? (i := 197) (by decide +kernel))) rfl, im_X4_dropNext, se_X4_dropNext, in_X4_dropNext, co_X4_dropNext⟩
theorem fl_X1_194 : FLI RX1 194 2 2 := ⟨⟨RX2, TX2, 3, rfl, by decide, inl2, Or.inr (mT1 (List.mem_of_getElem? (i := 81) (by decide +kernel)))⟩, by decide, by decide +kernel⟩
theorem yo_X0_chordDeed : yX0_chordDeed.cls ≠ "java/lang/invoke/MethodHandle" ∧ yX0_chordDeed.cls ≠ "java/lang/invoke/VarHandle" ∧ (parseMethodDescriptor yX0_chordDeed.desc).map (fun d => d.parameters.length) = some 1 := by decide +kernel
theorem co_X0_chordDeed : Cond.code yX0_chordDeed cX0_chordDeed 2 (some (.object "KeyMatrix$Deed")) ∈ wl := mW (mT4 (List.mem_of_getElem? (i := 184) (by decide +kernel))) rfl
theorem in_X0_chordDeed : Cond.initialized yX0_chordDeed.cls ∈ wl := mW (mT1 (List.mem_of_getElem? (i := 5) (by decide +kernel))) rfl
theorem im_X0_chordDeed : Cond.instanceMethod yX0_chordDeed ∈ wl := mW (mT4 (List.mem_of_getElem? (i := 182) (by decide +kernel))) rfl
theorem se_X0_chordDeed : Cond.selects yX0_chordDeed.cls yX0_chordDeed yX0_chordDeed ∈ wl := mW (mT4 (List.mem_of_getElem? (i := 183) (by decide +kernel))) rfl
theorem lv_X1_183 : LV RX1 183 yX0_chordDeed cX0_chordDeed 2 (some (.object "KeyMatrix$Deed")) 1 0 := ⟨⟨(RX0, TX0, 19), rfl, rfl⟩, yo_X0_chordDeed, mW (mT4 (List.mem_of_getElem? (i := 181) (by decide +kernel))) rfl, im_X0_chordDeed, se_X0_chordDeed, in_X0_chordDeed, co_X0_chordDeed⟩
theorem yo_X3_end : yX3_end.cls ≠ "java/lang/invoke/MethodHandle" ∧ yX3_end.cls ≠ "java/lang/invoke/VarHandle" ∧ (parseMethodDescriptor yX3_end.desc).map (fun d => d.parameters.length) = some 1 := by decide +kernel
theorem co_X3_end : Cond.code yX3_end cX3_end 3 none ∈ wl := mW (mT4 (List.mem_of_getElem? (i := 135) (by decide +kernel))) rfl
theorem in_X3_end : Cond.initialized yX3_end.cls ∈ wl := mW (mT1 (List.mem_of_getElem? (i := 10) (by decide +kernel))) rfl
theorem im_X3_end : Cond.instanceMethod yX3_end ∈ wl := mW (mT4 (List.mem_of_getElem? (i := 133) (by decide +kernel))) rfl
theorem se_X3_end : Cond.selects yX3_end.cls yX3_end yX3_end ∈ wl := mW (mT4 (List.mem_of_getElem? (i := 134) (by decide +kernel))) rfl
theorem lv_X1_177 : LV RX1 177 yX3_end cX3_end 3 none 1 3 := ⟨⟨(RX3, TX3, 9), rfl, rfl⟩, yo_X3_end, mW (mT4 (List.mem_of_getElem? (i := 132) (by decide +kernel))) rfl, im_X3_end, se_X3_end, in_X3_end, co_X3_end⟩
theorem dX1_workOff_0 : decode cX1_workOff 0 = .ok (.aload_n 0, 1) := by decide +kernel
theorem dX1_workOff_1 : decode cX1_workOff 1 = .ok (.getfield 21, 3) := by decide +kernel
theorem dX1_workOff_4 : decode cX1_workOff 4 = .ok (.iconst 0, 1) := by decide +kernel
theorem dX1_workOff_5 : decode cX1_workOff 5 = .ok (.invokevirtual 131, 3) := by decide +kernel
theorem dX1_workOff_8 : decode cX1_workOff 8 = .ok (.istore_n 2, 1) := by decide +kernel
theorem dX1_workOff_9 : decode cX1_workOff 9 = .ok (.iload_n 1, 1) := by decide +kernel
theorem dX1_workOff_10 : decode cX1_workOff 10 = .ok (.iconst 1, 1) := by decide +kernel
theorem dX1_workOff_11 : decode cX1_workOff 11 = .ok (.if_icmp .ne 25, 3) := by decide +kernel
theorem dX1_workOff_14 : decode cX1_workOff 14 = .ok (.aload_n 0, 1) := by decide +kernel
theorem dX1_workOff_15 : decode cX1_workOff 15 = .ok (.getfield 21, 3) := by decide +kernel
theorem dX1_workOff_18 : decode cX1_workOff 18 = .ok (.iconst 0, 1) := by decide +kernel
theorem dX1_workOff_19 : decode cX1_workOff 19 = .ok (.invokevirtual 174, 3) := by decide +kernel
theorem dX1_workOff_22 : decode cX1_workOff 22 = .ok (.aload_n 0, 1) := by decide +kernel
theorem dX1_workOff_23 : decode cX1_workOff 23 = .ok (.getfield 28, 3) := by decide +kernel
theorem dX1_workOff_26 : decode cX1_workOff 26 = .ok (.iload_n 2, 1) := by decide +kernel
theorem dX1_workOff_27 : decode cX1_workOff 27 = .ok (.invokevirtual 177, 3) := by decide +kernel
theorem dX1_workOff_30 : decode cX1_workOff 30 = .ok (.aload_n 0, 1) := by decide +kernel
theorem dX1_workOff_31 : decode cX1_workOff 31 = .ok (.iconst (-1), 1) := by decide +kernel
theorem dX1_workOff_32 : decode cX1_workOff 32 = .ok (.invokevirtual 180, 3) := by decide +kernel
theorem dX1_workOff_35 : decode cX1_workOff 35 = .ok (.return_, 1) := by decide +kernel
theorem dX1_workOff_36 : decode cX1_workOff 36 = .ok (.iload_n 1, 1) := by decide +kernel
theorem dX1_workOff_37 : decode cX1_workOff 37 = .ok (.iconst 2, 1) := by decide +kernel
theorem dX1_workOff_38 : decode cX1_workOff 38 = .ok (.if_icmp .ne 62, 3) := by decide +kernel
theorem dX1_workOff_41 : decode cX1_workOff 41 = .ok (.aload_n 0, 1) := by decide +kernel
theorem dX1_workOff_42 : decode cX1_workOff 42 = .ok (.getfield 21, 3) := by decide +kernel
theorem dX1_workOff_45 : decode cX1_workOff 45 = .ok (.iconst 1, 1) := by decide +kernel
theorem dX1_workOff_46 : decode cX1_workOff 46 = .ok (.invokevirtual 131, 3) := by decide +kernel
theorem dX1_workOff_49 : decode cX1_workOff 49 = .ok (.istore_n 3, 1) := by decide +kernel
theorem dX1_workOff_50 : decode cX1_workOff 50 = .ok (.aload_n 0, 1) := by decide +kernel
theorem dX1_workOff_51 : decode cX1_workOff 51 = .ok (.getfield 21, 3) := by decide +kernel
theorem dX1_workOff_54 : decode cX1_workOff 54 = .ok (.iconst 1, 1) := by decide +kernel
theorem dX1_workOff_55 : decode cX1_workOff 55 = .ok (.invokevirtual 174, 3) := by decide +kernel
theorem dX1_workOff_58 : decode cX1_workOff 58 = .ok (.aload_n 0, 1) := by decide +kernel
theorem dX1_workOff_59 : decode cX1_workOff 59 = .ok (.getfield 21, 3) := by decide +kernel
theorem dX1_workOff_62 : decode cX1_workOff 62 = .ok (.iconst 0, 1) := by decide +kernel
theorem dX1_workOff_63 : decode cX1_workOff 63 = .ok (.invokevirtual 174, 3) := by decide +kernel
theorem dX1_workOff_66 : decode cX1_workOff 66 = .ok (.aload_n 0, 1) := by decide +kernel
theorem dX1_workOff_67 : decode cX1_workOff 67 = .ok (.getfield 39, 3) := by decide +kernel
theorem dX1_workOff_70 : decode cX1_workOff 70 = .ok (.aload_n 0, 1) := by decide +kernel
theorem dX1_workOff_71 : decode cX1_workOff 71 = .ok (.getfield 39, 3) := by decide +kernel
theorem dX1_workOff_74 : decode cX1_workOff 74 = .ok (.iload_n 2, 1) := by decide +kernel
theorem dX1_workOff_75 : decode cX1_workOff 75 = .ok (.invokevirtual 135, 3) := by decide +kernel
theorem dX1_workOff_78 : decode cX1_workOff 78 = .ok (.invokevirtual 183, 3) := by decide +kernel
theorem dX1_workOff_81 : decode cX1_workOff 81 = .ok (.astore 4, 2) := by decide +kernel
theorem dX1_workOff_83 : decode cX1_workOff 83 = .ok (.aload_n 0, 1) := by decide +kernel
theorem dX1_workOff_84 : decode cX1_workOff 84 = .ok (.iload_n 2, 1) := by decide +kernel
theorem dX1_workOff_85 : decode cX1_workOff 85 = .ok (.iload_n 3, 1) := by decide +kernel
theorem dX1_workOff_86 : decode cX1_workOff 86 = .ok (.aload 4, 2) := by decide +kernel
theorem dX1_workOff_88 : decode cX1_workOff 88 = .ok (.getfield 157, 3) := by decide +kernel
theorem dX1_workOff_91 : decode cX1_workOff 91 = .ok (.aload 4, 2) := by decide +kernel
theorem dX1_workOff_93 : decode cX1_workOff 93 = .ok (.getfield 187, 3) := by decide +kernel
theorem dX1_workOff_96 : decode cX1_workOff 96 = .ok (.invokevirtual 190, 3) := by decide +kernel
theorem dX1_workOff_99 : decode cX1_workOff 99 = .ok (.return_, 1) := by decide +kernel
theorem dX1_workOff_100 : decode cX1_workOff 100 = .ok (.aload_n 0, 1) := by decide +kernel
theorem dX1_workOff_101 : decode cX1_workOff 101 = .ok (.getfield 39, 3) := by decide +kernel
theorem dX1_workOff_104 : decode cX1_workOff 104 = .ok (.aload_n 0, 1) := by decide +kernel
theorem dX1_workOff_105 : decode cX1_workOff 105 = .ok (.invokevirtual 150, 3) := by decide +kernel
theorem dX1_workOff_108 : decode cX1_workOff 108 = .ok (.iload_n 2, 1) := by decide +kernel
theorem dX1_workOff_109 : decode cX1_workOff 109 = .ok (.invokevirtual 153, 3) := by decide +kernel
theorem dX1_workOff_112 : decode cX1_workOff 112 = .ok (.astore_n 3, 1) := by decide +kernel
theorem dX1_workOff_113 : decode cX1_workOff 113 = .ok (.aload_n 0, 1) := by decide +kernel
theorem dX1_workOff_114 : decode cX1_workOff 114 = .ok (.getfield 21, 3) := by decide +kernel
theorem dX1_workOff_117 : decode cX1_workOff 117 = .ok (.iconst 0, 1) := by decide +kernel
theorem dX1_workOff_118 : decode cX1_workOff 118 = .ok (.invokevirtual 174, 3) := by decide +kernel
theorem dX1_workOff_121 : decode cX1_workOff 121 = .ok (.iload_n 1, 1) := by decide +kernel
theorem dX1_workOff_122 : decode cX1_workOff 122 = .ok (.iconst 4, 1) := by decide +kernel
theorem dX1_workOff_123 : decode cX1_workOff 123 = .ok (.if_icmp .ne 30, 3) := by decide +kernel
theorem dX1_workOff_126 : decode cX1_workOff 126 = .ok (.aload_n 0, 1) := by decide +kernel
theorem dX1_workOff_127 : decode cX1_workOff 127 = .ok (.iload_n 2, 1) := by decide +kernel
theorem dX1_workOff_128 : decode cX1_workOff 128 = .ok (.iconst (-1), 1) := by decide +kernel
theorem dX1_workOff_129 : decode cX1_workOff 129 = .ok (.aload_n 3, 1) := by decide +kernel
theorem dX1_workOff_130 : decode cX1_workOff 130 = .ok (.getfield 157, 3) := by decide +kernel
theorem dX1_workOff_133 : decode cX1_workOff 133 = .ok (.bipush 6, 2) := by decide +kernel
theorem dX1_workOff_135 : decode cX1_workOff 135 = .ok (.if_icmp .ne 7, 3) := by decide +kernel
theorem dX1_workOff_138 : decode cX1_workOff 138 = .ok (.iconst 2, 1) := by decide +kernel
theorem dX1_workOff_139 : decode cX1_workOff 139 = .ok (.goto 4, 3) := by decide +kernel
theorem dX1_workOff_142 : decode cX1_workOff 142 = .ok (.iconst 1, 1) := by decide +kernel
theorem dX1_workOff_143 : decode cX1_workOff 143 = .ok (.aload_n 3, 1) := by decide +kernel
theorem dX1_workOff_144 : decode cX1_workOff 144 = .ok (.getfield 194, 3) := by decide +kernel
theorem dX1_workOff_147 : decode cX1_workOff 147 = .ok (.invokevirtual 190, 3) := by decide +kernel
theorem dX1_workOff_150 : decode cX1_workOff 150 = .ok (.goto 74, 3) := by decide +kernel
theorem dX1_workOff_153 : decode cX1_workOff 153 = .ok (.iload_n 1, 1) := by decide +kernel
theorem dX1_workOff_154 : decode cX1_workOff 154 = .ok (.bipush 7, 2) := by decide +kernel
theorem dX1_workOff_156 : decode cX1_workOff 156 = .ok (.if_icmp .ne 35, 3) := by decide +kernel
theorem dX1_workOff_159 : decode cX1_workOff 159 = .ok (.aload_n 0, 1) := by decide +kernel
theorem dX1_workOff_160 : decode cX1_workOff 160 = .ok (.getfield 21, 3) := by decide +kernel
theorem dX1_workOff_163 : decode cX1_workOff 163 = .ok (.iload_n 2, 1) := by decide +kernel
theorem dX1_workOff_164 : decode cX1_workOff 164 = .ok (.iconst 0, 1) := by decide +kernel
theorem dX1_workOff_165 : decode cX1_workOff 165 = .ok (.invokevirtual 197, 3) := by decide +kernel
theorem dX1_workOff_168 : decode cX1_workOff 168 = .ok (.aload_n 0, 1) := by decide +kernel
theorem dX1_workOff_169 : decode cX1_workOff 169 = .ok (.getfield 21, 3) := by decide +kernel
theorem dX1_workOff_172 : decode cX1_workOff 172 = .ok (.iload_n 2, 1) := by decide +kernel
theorem dX1_workOff_173 : decode cX1_workOff 173 = .ok (.iconst 1, 1) := by decide +kernel
theorem dX1_workOff_174 : decode cX1_workOff 174 = .ok (.invokevirtual 197, 3) := by decide +kernel
theorem dX1_workOff_177 : decode cX1_workOff 177 = .ok (.aload_n 0, 1) := by decide +kernel
theorem dX1_workOff_178 : decode cX1_workOff 178 = .ok (.iload_n 2, 1) := by decide +kernel
theorem dX1_workOff_179 : decode cX1_workOff 179 = .ok (.iconst (-1), 1) := by decide +kernel
theorem dX1_workOff_180 : decode cX1_workOff 180 = .ok (.iconst 0, 1) := by decide +kernel
theorem dX1_workOff_181 : decode cX1_workOff 181 = .ok (.aload_n 3, 1) := by decide +kernel
theorem dX1_workOff_182 : decode cX1_workOff 182 = .ok (.getfield 194, 3) := by decide +kernel
theorem dX1_workOff_185 : decode cX1_workOff 185 = .ok (.invokevirtual 190, 3) := by decide +kernel
theorem dX1_workOff_188 : decode cX1_workOff 188 = .ok (.goto 36, 3) := by decide +kernel
theorem dX1_workOff_191 : decode cX1_workOff 191 = .ok (.iload_n 1, 1) := by decide +kernel
theorem dX1_workOff_192 : decode cX1_workOff 192 = .ok (.iconst 3, 1) := by decide +kernel
theorem dX1_workOff_193 : decode cX1_workOff 193 = .ok (.if_icmp .ne 20, 3) := by decide +kernel
theorem dX1_workOff_196 : decode cX1_workOff 196 = .ok (.aload_n 0, 1) := by decide +kernel
theorem dX1_workOff_197 : decode cX1_workOff 197 = .ok (.iload_n 2, 1) := by decide +kernel
theorem dX1_workOff_198 : decode cX1_workOff 198 = .ok (.iconst (-1), 1) := by decide +kernel
theorem dX1_workOff_199 : decode cX1_workOff 199 = .ok (.aload_n 3, 1) := by decide +kernel
theorem dX1_workOff_200 : decode cX1_workOff 200 = .ok (.getfield 157, 3) := by decide +kernel
theorem dX1_workOff_203 : decode cX1_workOff 203 = .ok (.aload_n 3, 1) := by decide +kernel
theorem dX1_workOff_204 : decode cX1_workOff 204 = .ok (.getfield 187, 3) := by decide +kernel
theorem dX1_workOff_207 : decode cX1_workOff 207 = .ok (.invokevirtual 190, 3) := by decide +kernel
theorem dX1_workOff_210 : decode cX1_workOff 210 = .ok (.goto 14, 3) := by decide +kernel
theorem dX1_workOff_213 : decode cX1_workOff 213 = .ok (.aload_n 0, 1) := by decide +kernel
theorem dX1_workOff_214 : decode cX1_workOff 214 = .ok (.iload_n 2, 1) := by decide +kernel
theorem dX1_workOff_215 : decode cX1_workOff 215 = .ok (.iconst (-1), 1) := by decide +kernel
theorem dX1_workOff_216 : decode cX1_workOff 216 = .ok (.iconst 0, 1) := by decide +kernel
theorem dX1_workOff_217 : decode cX1_workOff 217 = .ok (.aload_n 3, 1) := by decide +kernel
theorem dX1_workOff_218 : decode cX1_workOff 218 = .ok (.getfield 187, 3) := by decide +kernel
theorem dX1_workOff_221 : decode cX1_workOff 221 = .ok (.invokevirtual 190, 3) := by decide +kernel
theorem dX1_workOff_224 : decode cX1_workOff 224 = .ok (.return_, 1) := by decide +kernel
def rmX1_workOff : Room := { frames := 5, cells := 0, slots := 0, locals := 121 }
set_option maxRecDepth 100000 in
def fX1_workOff_J224 (N : Nat) (g : Gs) (x0 : Nat) (x1 : Int32) (d : Ds) : Option (Unit × Ds) := some ((), d)
set_option maxHeartbeats 4000000 in
set_option maxRecDepth 100000 in
theorem tX1_workOff_224 {p : Program} {l : Launch} {e : Env} {s : State} {m : MethodId} {args : Array Value} {below : List Frame} {meth : Method} {c : Code} {D : va_G} {cy : Nat → ClassId} {B : Bs} (C : Cx p s m args c cX1_workOff 5 RX1 D cy B) (hr : meth.sig.returnType = none) (hlocks : meth.locks = false) {N : Nat} {g : Gs} {x0 : Nat} {x1 : Int32}  {dz : Ds} {d : Ds} (hf : fX1_workOff_J224 N g x0 x1 d = some ((), dz)) : WB p l e rmX1_workOff s m args below meth c 5 D cy B 0 0 (MQ below (QV D cy B g dz) args s 0 0 (wA B)) g d [(0, .ref (ad B x0)), (1, .int x1)] 224 [] := by
  unfold fX1_workOff_J224 at hf
  exact b_vret C hr hlocks hf dX1_workOff_224
set_option maxRecDepth 100000 in
def fX1_workOff_J143 (N : Nat) (g : Gs) (x0 : Nat) (x1 : Int32) (y3 : Nat) (z0 : Int32) (z1 : Int32) (z2 : Int32) (z3 : Nat) (d : Ds) : Option (Unit × Ds) := gd (chk g y3 2) <| gd (chk g z3 1) <| cv (fX1_perform N g z3 z2 z1 z0 (dI d y3 2) d) fun d39 => (fX1_workOff_J224 N g x0 x1 d39)
set_option maxHeartbeats 4000000 in
set_option maxRecDepth 100000 in
theorem tX1_workOff_143 {p : Program} {l : Launch} {e : Env} {s : State} {m : MethodId} {args : Array Value} {below : List Frame} {meth : Method} {c : Code} {D : va_G} {cy : Nat → ClassId} {B : Bs} (C : Cx p s m args c cX1_workOff 5 RX1 D cy B) (hr : meth.sig.returnType = none) (hlocks : meth.locks = false) {N : Nat} {g : Gs} {x0 : Nat} {x1 : Int32}  {dz : Ds} {y3 : Nat} {z0 : Int32} {z1 : Int32} {z2 : Int32} {z3 : Nat} {d : Ds} (hf : fX1_workOff_J143 N g x0 x1 y3 z0 z1 z2 z3 d = some ((), dz)) : WB p l e rmX1_workOff s m args below meth c 5 D cy B 0 0 (MQ below (QV D cy B g dz) args s 0 0 (wA B)) g d [(0, .ref (ad B x0)), (1, .int x1), (3, .ref (ad B y3))] 143 [.int z0, .int z1, .int z2, .ref (ad B z3)] := by
  unfold fX1_workOff_J143 at hf
  refine b_aload_n C dX1_workOff_143 2 rfl rfl ?_
  obtain ⟨h37, hf⟩ := gd_s hf
  refine b_gI C dX1_workOff_144 fl_X1_194 h37 ?_
  obtain ⟨h38, hf⟩ := gd_s hf
  obtain ⟨d39, k40, hf⟩ := cv_s hf
  refine b_cVN C [] dX1_workOff_147 (kX1_perform l D cy B k40) lv_X1_190 ⟨rfl, rfl, Nat.le_of_ble_eq_true rfl, Nat.le_of_ble_eq_true rfl⟩ h38 (by decide) rfl (Nat.le_of_ble_eq_true rfl) ⟨Nat.zero_le _, Nat.zero_le _⟩ rfl ?_
  refine b_goto C (tgt := 224) dX1_workOff_150 (by decide) ?_
  refine b_sub [(0, .ref (ad B x0)), (1, .int x1)] [0, 1] rfl ?_
  exact tX1_workOff_224 C hr hlocks hf
set_option maxRecDepth 100000 in
def fX1_workOff (N : Nat) (g : Gs) (x0 : Nat) (x1 : Int32) (d : Ds) : Option (Unit × Ds) := gd (chk g x0 1) <| ob (gR g x0 2) fun r2 => (gd (chk g r2 4) <| cb (fX4_keyAt N g r2 0 d) fun u6 d4 => (if x1 = (1 : Int32) then (cv (fX4_drop N g r2 0 d4) fun d59 => (ob (gR g x0 3) fun r61 => (gd (chk g r61 3) <| cv (fX3_end N g r61 u6 d59) fun d63 => (cv (fX1_send N g x0 (-1) d63) fun d65 => (some ((), d65)))))) else (if x1 = (2 : Int32) then (cb (fX4_keyAt N g r2 1 d4) fun u43 d41 => (cv (fX4_drop N g r2 1 d41) fun d44 => (cv (fX4_drop N g r2 0 d44) fun d46 => (ob (gR g x0 0) fun r48 => (gd (chk g r48 0) <| cb (fX0_chordOf N g r48 u6 d46) fun u52 d50 => (cb (fX0_chordDeed N g r48 u52 d50) fun u55 d53 => (gd (chk g u55 2) <| cv (fX1_perform N g x0 u6 u43 (dI d53 u55 0) (dI d53 u55 1) d53) fun d57 => (some ((), d57))))))))) else (ob (gR g x0 0) fun r9 => (cb (fX1_activeLayers N g x0 d4) fun u12 d10 => (gd (chk g r9 0) <| cb (fX0_deedIn N g r9 u12 u6 d10) fun u16 d14 => (cv (fX4_drop N g r2 0 d14) fun d17 => (if x1 = (4 : Int32) then (gd (chk g u16 2) <| if (dI d17 u16 0) = (6 : Int32) then (fX1_workOff_J143 N g x0 x1 u16 2 (-1) u6 x0 d17) else (fX1_workOff_J143 N g x0 x1 u16 1 (-1) u6 x0 d17)) else (if x1 = (7 : Int32) then (cv (fX4_dropNext N g r2 u6 0 d17) fun d28 => (cv (fX4_dropNext N g r2 u6 1 d28) fun d30 => (gd (chk g u16 2) <| cv (fX1_perform N g x0 u6 (-1) 0 (dI d30 u16 2) d30) fun d33 => (fX1_workOff_J224 N g x0 x1 d33)))) else (if x1 = (3 : Int32) then (gd (chk g u16 2) <| cv (fX1_perform N g x0 u6 (-1) (dI d17 u16 0) (dI d17 u16 1) d17) fun d26 => (fX1_workOff_J224 N g x0 x1 d26)) else (gd (chk g u16 2) <| cv (fX1_perform N g x0 u6 (-1) 0 (dI d17 u16 1) d17) fun d23 => (fX1_workOff_J224 N g x0 x1 d23))))))))))))
set_option maxHeartbeats 4000000 in
set_option maxRecDepth 100000 in
theorem tX1_workOff_E {p : Program} {l : Launch} {e : Env} {s : State} {m : MethodId} {args : Array Value} {below : List Frame} {meth : Method} {c : Code} {D : va_G} {cy : Nat → ClassId} {B : Bs} (C : Cx p s m args c cX1_workOff 5 RX1 D cy B) (hr : meth.sig.returnType = none) (hlocks : meth.locks = false) {N : Nat} {g : Gs} {x0 : Nat} {x1 : Int32}  {dz : Ds} {d : Ds} (hf : fX1_workOff N g x0 x1 d = some ((), dz)) : WB p l e rmX1_workOff s m args below meth c 5 D cy B 0 0 (MQ below (QV D cy B g dz) args s 0 0 (wA B)) g d [(0, .ref (ad B x0)), (1, .int x1)] 0 [] := by
  unfold fX1_workOff at hf
  refine b_aload_n C dX1_workOff_0 0 rfl rfl ?_
  obtain ⟨h1, hf⟩ := gd_s hf
  obtain ⟨r2, er2, hf⟩ := ob_s hf
  refine b_gR C dX1_workOff_1 fl_X1_21 h1 er2 ?_
  refine b_iconst C (v := 0) dX1_workOff_4 (by decide) ?_
  obtain ⟨h3, hf⟩ := gd_s hf
  obtain ⟨u6, d4, k5, hf⟩ := cb_s hf
  refine b_cVI C [] dX1_workOff_5 (kX4_keyAt l D cy B k5) lv_X1_131 ⟨rfl, rfl, Nat.le_of_ble_eq_true rfl, Nat.le_of_ble_eq_true rfl⟩ h3 (by decide) rfl (Nat.le_of_ble_eq_true rfl) ⟨Nat.zero_le _, Nat.zero_le _⟩ rfl ?_
  refine b_istore_n C dX1_workOff_8 rfl [(2, .int u6), (0, .ref (ad B x0)), (1, .int x1)] (by decide) rfl ?_
  refine b_iload_n C dX1_workOff_9 2 rfl rfl ?_
  refine b_iconst C (v := 1) dX1_workOff_10 (by decide) ?_
  refine b_icmp_ne C (tgt := 36) dX1_workOff_11 (by decide) (fun c7 => ?_) (fun c7 => ?_)
  · have hf := if_s c7 hf
    refine b_iload_n C dX1_workOff_36 2 rfl rfl ?_
    refine b_iconst C (v := 2) dX1_workOff_37 (by decide) ?_
    refine b_icmp_ne C (tgt := 100) dX1_workOff_38 (by decide) (fun c8 => ?_) (fun c8 => ?_)
    · have hf := if_s c8 hf
      refine b_aload_n C dX1_workOff_100 1 rfl rfl ?_
      obtain ⟨r9, er9, hf⟩ := ob_s hf
      refine b_gR C dX1_workOff_101 fl_X1_39 h1 er9 ?_
      refine b_aload_n C dX1_workOff_104 1 rfl rfl ?_
      obtain ⟨u12, d10, k11, hf⟩ := cb_s hf
      refine b_cVI C [.ref (ad B r9)] dX1_workOff_105 (kX1_activeLayers l D cy B k11) lv_X1_150 ⟨rfl, rfl, Nat.le_of_ble_eq_true rfl, Nat.le_of_ble_eq_true rfl⟩ h1 (by decide) rfl (Nat.le_of_ble_eq_true rfl) ⟨Nat.zero_le _, Nat.zero_le _⟩ rfl ?_
      refine b_iload_n C dX1_workOff_108 0 rfl rfl ?_
      obtain ⟨h13, hf⟩ := gd_s hf
      obtain ⟨u16, d14, k15, hf⟩ := cb_s hf
      refine b_cVR C [] dX1_workOff_109 (kX0_deedIn l D cy B k15) lv_X1_153 ⟨rfl, rfl, Nat.le_of_ble_eq_true rfl, Nat.le_of_ble_eq_true rfl⟩ h13 (by decide) rfl (Nat.le_of_ble_eq_true rfl) ⟨Nat.zero_le _, Nat.zero_le _⟩ rfl ?_
      refine b_astore_n C dX1_workOff_112 rfl [(3, .ref (ad B u16)), (2, .int u6), (0, .ref (ad B x0)), (1, .int x1)] (by decide) rfl ?_
      refine b_aload_n C dX1_workOff_113 2 rfl rfl ?_
      refine b_gR C dX1_workOff_114 fl_X1_21 h1 er2 ?_
      refine b_iconst C (v := 0) dX1_workOff_117 (by decide) ?_
      obtain ⟨d17, k18, hf⟩ := cv_s hf
      refine b_cVN C [] dX1_workOff_118 (kX4_drop l D cy B k18) lv_X1_174 ⟨rfl, rfl, Nat.le_of_ble_eq_true rfl, Nat.le_of_ble_eq_true rfl⟩ h3 (by decide) rfl (Nat.le_of_ble_eq_true rfl) ⟨Nat.zero_le _, Nat.zero_le _⟩ rfl ?_
      refine b_iload_n C dX1_workOff_121 3 rfl rfl ?_
      refine b_iconst C (v := 4) dX1_workOff_122 (by decide) ?_
      refine b_icmp_ne C (tgt := 153) dX1_workOff_123 (by decide) (fun c19 => ?_) (fun c19 => ?_)
      · have hf := if_s c19 hf
        refine b_iload_n C dX1_workOff_153 3 rfl rfl ?_
        refine b_bipush C (v := 7) dX1_workOff_154 (by decide) ?_
        refine b_icmp_ne C (tgt := 191) dX1_workOff_156 (by decide) (fun c20 => ?_) (fun c20 => ?_)
        · have hf := if_s c20 hf
          refine b_iload_n C dX1_workOff_191 3 rfl rfl ?_
          refine b_iconst C (v := 3) dX1_workOff_192 (by decide) ?_
          refine b_icmp_ne C (tgt := 213) dX1_workOff_193 (by decide) (fun c21 => ?_) (fun c21 => ?_)
          · have hf := if_s c21 hf
            refine b_aload_n C dX1_workOff_213 2 rfl rfl ?_
            refine b_iload_n C dX1_workOff_214 1 rfl rfl ?_
            refine b_iconst C (v := (-1)) dX1_workOff_215 (by decide) ?_
            refine b_iconst C (v := 0) dX1_workOff_216 (by decide) ?_
            refine b_aload_n C dX1_workOff_217 0 rfl rfl ?_
            obtain ⟨h22, hf⟩ := gd_s hf
            refine b_gI C dX1_workOff_218 fl_X1_187 h22 ?_
            obtain ⟨d23, k24, hf⟩ := cv_s hf
            refine b_cVN C [] dX1_workOff_221 (kX1_perform l D cy B k24) lv_X1_190 ⟨rfl, rfl, Nat.le_of_ble_eq_true rfl, Nat.le_of_ble_eq_true rfl⟩ h1 (by decide) rfl (Nat.le_of_ble_eq_true rfl) ⟨Nat.zero_le _, Nat.zero_le _⟩ rfl ?_
            refine b_sub [(0, .ref (ad B x0)), (1, .int x1)] [2, 3] rfl ?_
            exact tX1_workOff_224 C hr hlocks hf
          · have hf := it_s c21 hf
            refine b_aload_n C dX1_workOff_196 2 rfl rfl ?_
            refine b_iload_n C dX1_workOff_197 1 rfl rfl ?_
            refine b_iconst C (v := (-1)) dX1_workOff_198 (by decide) ?_
            refine b_aload_n C dX1_workOff_199 0 rfl rfl ?_
            obtain ⟨h25, hf⟩ := gd_s hf
            refine b_gI C dX1_workOff_200 fl_X1_157 h25 ?_
            refine b_aload_n C dX1_workOff_203 0 rfl rfl ?_
            refine b_gI C dX1_workOff_204 fl_X1_187 h25 ?_
            obtain ⟨d26, k27, hf⟩ := cv_s hf
            refine b_cVN C [] dX1_workOff_207 (kX1_perform l D cy B k27) lv_X1_190 ⟨rfl, rfl, Nat.le_of_ble_eq_true rfl, Nat.le_of_ble_eq_true rfl⟩ h1 (by decide) rfl (Nat.le_of_ble_eq_true rfl) ⟨Nat.zero_le _, Nat.zero_le _⟩ rfl ?_
            refine b_goto C (tgt := 224) dX1_workOff_210 (by decide) ?_
            refine b_sub [(0, .ref (ad B x0)), (1, .int x1)] [2, 3] rfl ?_
            exact tX1_workOff_224 C hr hlocks hf
        · have hf := it_s c20 hf
          refine b_aload_n C dX1_workOff_159 2 rfl rfl ?_
          refine b_gR C dX1_workOff_160 fl_X1_21 h1 er2 ?_
          refine b_iload_n C dX1_workOff_163 1 rfl rfl ?_
          refine b_iconst C (v := 0) dX1_workOff_164 (by decide) ?_
          obtain ⟨d28, k29, hf⟩ := cv_s hf
          refine b_cVN C [] dX1_workOff_165 (kX4_dropNext l D cy B k29) lv_X1_197 ⟨rfl, rfl, Nat.le_of_ble_eq_true rfl, Nat.le_of_ble_eq_true rfl⟩ h3 (by decide) rfl (Nat.le_of_ble_eq_true rfl) ⟨Nat.zero_le _, Nat.zero_le _⟩ rfl ?_
          refine b_aload_n C dX1_workOff_168 2 rfl rfl ?_
          refine b_gR C dX1_workOff_169 fl_X1_21 h1 er2 ?_
          refine b_iload_n C dX1_workOff_172 1 rfl rfl ?_
          refine b_iconst C (v := 1) dX1_workOff_173 (by decide) ?_
          obtain ⟨d30, k31, hf⟩ := cv_s hf
          refine b_cVN C [] dX1_workOff_174 (kX4_dropNext l D cy B k31) lv_X1_197 ⟨rfl, rfl, Nat.le_of_ble_eq_true rfl, Nat.le_of_ble_eq_true rfl⟩ h3 (by decide) rfl (Nat.le_of_ble_eq_true rfl) ⟨Nat.zero_le _, Nat.zero_le _⟩ rfl ?_
          refine b_aload_n C dX1_workOff_177 2 rfl rfl ?_
          refine b_iload_n C dX1_workOff_178 1 rfl rfl ?_
          refine b_iconst C (v := (-1)) dX1_workOff_179 (by decide) ?_
          refine b_iconst C (v := 0) dX1_workOff_180 (by decide) ?_
          refine b_aload_n C dX1_workOff_181 0 rfl rfl ?_
          obtain ⟨h32, hf⟩ := gd_s hf
          refine b_gI C dX1_workOff_182 fl_X1_194 h32 ?_
          obtain ⟨d33, k34, hf⟩ := cv_s hf
          refine b_cVN C [] dX1_workOff_185 (kX1_perform l D cy B k34) lv_X1_190 ⟨rfl, rfl, Nat.le_of_ble_eq_true rfl, Nat.le_of_ble_eq_true rfl⟩ h1 (by decide) rfl (Nat.le_of_ble_eq_true rfl) ⟨Nat.zero_le _, Nat.zero_le _⟩ rfl ?_
          refine b_goto C (tgt := 224) dX1_workOff_188 (by decide) ?_
          refine b_sub [(0, .ref (ad B x0)), (1, .int x1)] [2, 3] rfl ?_
          exact tX1_workOff_224 C hr hlocks hf
      · have hf := it_s c19 hf
        refine b_aload_n C dX1_workOff_126 2 rfl rfl ?_
        refine b_iload_n C dX1_workOff_127 1 rfl rfl ?_
        refine b_iconst C (v := (-1)) dX1_workOff_128 (by decide) ?_
        refine b_aload_n C dX1_workOff_129 0 rfl rfl ?_
        obtain ⟨h35, hf⟩ := gd_s hf
        refine b_gI C dX1_workOff_130 fl_X1_157 h35 ?_
        refine b_bipush C (v := 6) dX1_workOff_133 (by decide) ?_
        refine b_icmp_ne C (tgt := 142) dX1_workOff_135 (by decide) (fun c36 => ?_) (fun c36 => ?_)
        · have hf := if_s c36 hf
          refine b_iconst C (v := 1) dX1_workOff_142 (by decide) ?_
          refine b_sub [(0, .ref (ad B x0)), (1, .int x1), (3, .ref (ad B u16))] [2, 3, 0] rfl ?_
          exact tX1_workOff_143 C hr hlocks hf
        · have hf := it_s c36 hf
          refine b_iconst C (v := 2) dX1_workOff_138 (by decide) ?_
          refine b_goto C (tgt := 143) dX1_workOff_139 (by decide) ?_
          refine b_sub [(0, .ref (ad B x0)), (1, .int x1), (3, .ref (ad B u16))] [2, 3, 0] rfl ?_
          exact tX1_workOff_143 C hr hlocks hf
    · have hf := it_s c8 hf
      refine b_aload_n C dX1_workOff_41 1 rfl rfl ?_
      refine b_gR C dX1_workOff_42 fl_X1_21 h1 er2 ?_
      refine b_iconst C (v := 1) dX1_workOff_45 (by decide) ?_
      obtain ⟨u43, d41, k42, hf⟩ := cb_s hf
      refine b_cVI C [] dX1_workOff_46 (kX4_keyAt l D cy B k42) lv_X1_131 ⟨rfl, rfl, Nat.le_of_ble_eq_true rfl, Nat.le_of_ble_eq_true rfl⟩ h3 (by decide) rfl (Nat.le_of_ble_eq_true rfl) ⟨Nat.zero_le _, Nat.zero_le _⟩ rfl ?_
      refine b_istore_n C dX1_workOff_49 rfl [(3, .int u43), (2, .int u6), (0, .ref (ad B x0)), (1, .int x1)] (by decide) rfl ?_
      refine b_aload_n C dX1_workOff_50 2 rfl rfl ?_
      refine b_gR C dX1_workOff_51 fl_X1_21 h1 er2 ?_
      refine b_iconst C (v := 1) dX1_workOff_54 (by decide) ?_
      obtain ⟨d44, k45, hf⟩ := cv_s hf
      refine b_cVN C [] dX1_workOff_55 (kX4_drop l D cy B k45) lv_X1_174 ⟨rfl, rfl, Nat.le_of_ble_eq_true rfl, Nat.le_of_ble_eq_true rfl⟩ h3 (by decide) rfl (Nat.le_of_ble_eq_true rfl) ⟨Nat.zero_le _, Nat.zero_le _⟩ rfl ?_
      refine b_aload_n C dX1_workOff_58 2 rfl rfl ?_
      refine b_gR C dX1_workOff_59 fl_X1_21 h1 er2 ?_
      refine b_iconst C (v := 0) dX1_workOff_62 (by decide) ?_
      obtain ⟨d46, k47, hf⟩ := cv_s hf
      refine b_cVN C [] dX1_workOff_63 (kX4_drop l D cy B k47) lv_X1_174 ⟨rfl, rfl, Nat.le_of_ble_eq_true rfl, Nat.le_of_ble_eq_true rfl⟩ h3 (by decide) rfl (Nat.le_of_ble_eq_true rfl) ⟨Nat.zero_le _, Nat.zero_le _⟩ rfl ?_
      refine b_aload_n C dX1_workOff_66 2 rfl rfl ?_
      obtain ⟨r48, er48, hf⟩ := ob_s hf
      refine b_gR C dX1_workOff_67 fl_X1_39 h1 er48 ?_
      refine b_aload_n C dX1_workOff_70 2 rfl rfl ?_
      refine b_gR C dX1_workOff_71 fl_X1_39 h1 er48 ?_
      refine b_iload_n C dX1_workOff_74 1 rfl rfl ?_
      obtain ⟨h49, hf⟩ := gd_s hf
      obtain ⟨u52, d50, k51, hf⟩ := cb_s hf
      refine b_cVI C [.ref (ad B r48)] dX1_workOff_75 (kX0_chordOf l D cy B k51) lv_X1_135 ⟨rfl, rfl, Nat.le_of_ble_eq_true rfl, Nat.le_of_ble_eq_true rfl⟩ h49 (by decide) rfl (Nat.le_of_ble_eq_true rfl) ⟨Nat.zero_le _, Nat.zero_le _⟩ rfl ?_
      obtain ⟨u55, d53, k54, hf⟩ := cb_s hf
      refine b_cVR C [] dX1_workOff_78 (kX0_chordDeed l D cy B k54) lv_X1_183 ⟨rfl, rfl, Nat.le_of_ble_eq_true rfl, Nat.le_of_ble_eq_true rfl⟩ h49 (by decide) rfl (Nat.le_of_ble_eq_true rfl) ⟨Nat.zero_le _, Nat.zero_le _⟩ rfl ?_
      refine b_astore C dX1_workOff_81 [(4, .ref (ad B u55)), (3, .int u43), (2, .int u6), (0, .ref (ad B x0)), (1, .int x1)] (by decide) rfl ?_
      refine b_aload_n C dX1_workOff_83 3 rfl rfl ?_
      refine b_iload_n C dX1_workOff_84 2 rfl rfl ?_
      refine b_iload_n C dX1_workOff_85 1 rfl rfl ?_
      refine b_aload C dX1_workOff_86 0 rfl ?_
      obtain ⟨h56, hf⟩ := gd_s hf
      refine b_gI C dX1_workOff_88 fl_X1_157 h56 ?_
      refine b_aload C dX1_workOff_91 0 rfl ?_
      refine b_gI C dX1_workOff_93 fl_X1_187 h56 ?_
      obtain ⟨d57, k58, hf⟩ := cv_s hf
      refine b_cVN C [] dX1_workOff_96 (kX1_perform l D cy B k58) lv_X1_190 ⟨rfl, rfl, Nat.le_of_ble_eq_true rfl, Nat.le_of_ble_eq_true rfl⟩ h1 (by decide) rfl (Nat.le_of_ble_eq_true rfl) ⟨Nat.zero_le _, Nat.zero_le _⟩ rfl ?_
      exact b_vret C hr hlocks hf dX1_workOff_99
  · have hf := it_s c7 hf
    refine b_aload_n C dX1_workOff_14 1 rfl rfl ?_
    refine b_gR C dX1_workOff_15 fl_X1_21 h1 er2 ?_
    refine b_iconst C (v := 0) dX1_workOff_18 (by decide) ?_
    obtain ⟨d59, k60, hf⟩ := cv_s hf
    refine b_cVN C [] dX1_workOff_19 (kX4_drop l D cy B k60) lv_X1_174 ⟨rfl, rfl, Nat.le_of_ble_eq_true rfl, Nat.le_of_ble_eq_true rfl⟩ h3 (by decide) rfl (Nat.le_of_ble_eq_true rfl) ⟨Nat.zero_le _, Nat.zero_le _⟩ rfl ?_
    refine b_aload_n C dX1_workOff_22 1 rfl rfl ?_
    obtain ⟨r61, er61, hf⟩ := ob_s hf
    refine b_gR C dX1_workOff_23 fl_X1_28 h1 er61 ?_
    refine b_iload_n C dX1_workOff_26 0 rfl rfl ?_
    obtain ⟨h62, hf⟩ := gd_s hf
    obtain ⟨d63, k64, hf⟩ := cv_s hf
    refine b_cVN C [] dX1_workOff_27 (kX3_end l D cy B k64) lv_X1_177 ⟨rfl, rfl, Nat.le_of_ble_eq_true rfl, Nat.le_of_ble_eq_true rfl⟩ h62 (by decide) rfl (Nat.le_of_ble_eq_true rfl) ⟨Nat.zero_le _, Nat.zero_le _⟩ rfl ?_
    refine b_aload_n C dX1_workOff_30 1 rfl rfl ?_
    refine b_iconst C (v := (-1)) dX1_workOff_31 (by decide) ?_
    obtain ⟨d65, k66, hf⟩ := cv_s hf
    refine b_cVN C [] dX1_workOff_32 (kX1_send l D cy B k66) lv_X1_180 ⟨rfl, rfl, Nat.le_of_ble_eq_true rfl, Nat.le_of_ble_eq_true rfl⟩ h1 (by decide) rfl (Nat.le_of_ble_eq_true rfl) ⟨Nat.zero_le _, Nat.zero_le _⟩ rfl ?_
    exact b_vret C hr hlocks hf dX1_workOff_35
theorem kX1_workOff (l : Launch) (D : va_G) (cy : Nat → ClassId) (B : Bs) {N : Nat} {g : Gs} {x0 : Nat} {x1 : Int32}  {dz : Ds} {d : Ds} (hf : fX1_workOff N g x0 x1 d = some ((), dz)) : Met l yX1_workOff (.code yX1_workOff cX1_workOff 5 none :: wl) rmX1_workOff (PC D cy B [.ref (ad B x0), .int x1] g d) (QV D cy B g dz) 0 0 (wA B) :=
  met_of (by decide +kernel) (Nat.le_of_ble_eq_true rfl) (fun p e s m args below meth c C hr hlocks _ => b_sub [(0, .ref (ad B x0)), (1, .int x1)] [0, 1] rfl (tX1_workOff_E C hr hlocks hf))
/-! KeyMatrix$Reports.repeatLatest(III)V -/
theorem dX5_repeatLatest_0 : decode cX5_repeatLatest 0 = .ok (.iload_n 1, 1) := by decide +kernel
theorem dX5_repeatLatest_1 : decode cX5_repeatLatest 1 = .ok (.aload_n 0, 1) := by decide +kernel
theorem dX5_repeatLatest_2 : decode cX5_repeatLatest 2 = .ok (.getfield 46, 3) := by decide +kernel
theorem dX5_repeatLatest_5 : decode cX5_repeatLatest 5 = .ok (.isub, 1) := by decide +kernel
theorem dX5_repeatLatest_6 : decode cX5_repeatLatest 6 = .ok (.iload_n 2, 1) := by decide +kernel
theorem dX5_repeatLatest_7 : decode cX5_repeatLatest 7 = .ok (.isub, 1) := by decide +kernel
theorem dX5_repeatLatest_8 : decode cX5_repeatLatest 8 = .ok (.istore 4, 2) := by decide +kernel
theorem dX5_repeatLatest_10 : decode cX5_repeatLatest 10 = .ok (.aload_n 0, 1) := by decide +kernel
theorem dX5_repeatLatest_11 : decode cX5_repeatLatest 11 = .ok (.getfield 43, 3) := by decide +kernel
theorem dX5_repeatLatest_14 : decode cX5_repeatLatest 14 = .ok (.iconst (-1), 1) := by decide +kernel
theorem dX5_repeatLatest_15 : decode cX5_repeatLatest 15 = .ok (.if_icmp .eq 39, 3) := by decide +kernel
theorem dX5_repeatLatest_18 : decode cX5_repeatLatest 18 = .ok (.iload 4, 2) := by decide +kernel
theorem dX5_repeatLatest_20 : decode cX5_repeatLatest 20 = .ok (.ifCond .lt 34, 3) := by decide +kernel
theorem dX5_repeatLatest_23 : decode cX5_repeatLatest 23 = .ok (.iload_n 3, 1) := by decide +kernel
theorem dX5_repeatLatest_24 : decode cX5_repeatLatest 24 = .ok (.ifCond .le 30, 3) := by decide +kernel
theorem dX5_repeatLatest_27 : decode cX5_repeatLatest 27 = .ok (.iload 4, 2) := by decide +kernel
theorem dX5_repeatLatest_29 : decode cX5_repeatLatest 29 = .ok (.iload_n 3, 1) := by decide +kernel
theorem dX5_repeatLatest_30 : decode cX5_repeatLatest 30 = .ok (.irem, 1) := by decide +kernel
theorem dX5_repeatLatest_31 : decode cX5_repeatLatest 31 = .ok (.ifCond .ne 23, 3) := by decide +kernel
theorem dX5_repeatLatest_34 : decode cX5_repeatLatest 34 = .ok (.aload_n 0, 1) := by decide +kernel
theorem dX5_repeatLatest_35 : decode cX5_repeatLatest 35 = .ok (.dup, 1) := by decide +kernel
theorem dX5_repeatLatest_36 : decode cX5_repeatLatest 36 = .ok (.getfield 30, 3) := by decide +kernel
theorem dX5_repeatLatest_39 : decode cX5_repeatLatest 39 = .ok (.iconst 1, 1) := by decide +kernel
theorem dX5_repeatLatest_40 : decode cX5_repeatLatest 40 = .ok (.iadd, 1) := by decide +kernel
theorem dX5_repeatLatest_41 : decode cX5_repeatLatest 41 = .ok (.putfield 30, 3) := by decide +kernel
theorem dX5_repeatLatest_44 : decode cX5_repeatLatest 44 = .ok (.aload_n 0, 1) := by decide +kernel
theorem dX5_repeatLatest_45 : decode cX5_repeatLatest 45 = .ok (.dup, 1) := by decide +kernel
theorem dX5_repeatLatest_46 : decode cX5_repeatLatest 46 = .ok (.getfield 49, 3) := by decide +kernel
theorem dX5_repeatLatest_49 : decode cX5_repeatLatest 49 = .ok (.iconst 1, 1) := by decide +kernel
theorem dX5_repeatLatest_50 : decode cX5_repeatLatest 50 = .ok (.iadd, 1) := by decide +kernel
theorem dX5_repeatLatest_51 : decode cX5_repeatLatest 51 = .ok (.putfield 49, 3) := by decide +kernel
theorem dX5_repeatLatest_54 : decode cX5_repeatLatest 54 = .ok (.return_, 1) := by decide +kernel
def rmX5_repeatLatest : Room := { frames := 0, cells := 0, slots := 0, locals := 0 }
set_option maxRecDepth 100000 in
def fX5_repeatLatest_J54 (N : Nat) (g : Gs) (x0 : Nat) (x1 : Int32) (x2 : Int32) (x3 : Int32) (d : Ds) : Option (Unit × Ds) := some ((), d)
set_option maxHeartbeats 4000000 in
set_option maxRecDepth 100000 in
theorem tX5_repeatLatest_54 {p : Program} {l : Launch} {e : Env} {s : State} {m : MethodId} {args : Array Value} {below : List Frame} {meth : Method} {c : Code} {D : va_G} {cy : Nat → ClassId} {B : Bs} (C : Cx p s m args c cX5_repeatLatest 5 RX5 D cy B) (hr : meth.sig.returnType = none) (hlocks : meth.locks = false) {N : Nat} {g : Gs} {x0 : Nat} {x1 : Int32} {x2 : Int32} {x3 : Int32}  {dz : Ds} {d : Ds} (hf : fX5_repeatLatest_J54 N g x0 x1 x2 x3 d = some ((), dz)) : WB p l e rmX5_repeatLatest s m args below meth c 5 D cy B 0 0 (MQ below (QV D cy B g dz) args s 0 0 (wA B)) g d [(0, .ref (ad B x0)), (1, .int x1), (2, .int x2), (3, .int x3)] 54 [] := by
  unfold fX5_repeatLatest_J54 at hf
  exact b_vret C hr hlocks hf dX5_repeatLatest_54
set_option maxRecDepth 100000 in
def fX5_repeatLatest (N : Nat) (g : Gs) (x0 : Nat) (x1 : Int32) (x2 : Int32) (x3 : Int32) (d : Ds) : Option (Unit × Ds) := gd (chk g x0 5) <| bd (((x1 - (dI d x0 6)) - x2)) fun u2 => (if (dI d x0 5) = (-1 : Int32) then (fX5_repeatLatest_J54 N g x0 x1 x2 x3 d) else (if u2 < 0 then (fX5_repeatLatest_J54 N g x0 x1 x2 x3 d) else (if x3 ≤ 0 then (fX5_repeatLatest_J54 N g x0 x1 x2 x3 d) else (gd (¬ x3 = 0) <| if (u2 - u2 / x3 * x3) = 0 then (bd (sI d x0 7 ((dI d x0 7) + 1)) fun d8 => (bd (sI d8 x0 8 ((dI d8 x0 8) + 1)) fun d9 => (fX5_repeatLatest_J54 N g x0 x1 x2 x3 d9))) else (fX5_repeatLatest_J54 N g x0 x1 x2 x3 d)))))
set_option maxHeartbeats 4000000 in
set_option maxRecDepth 100000 in
theorem tX5_repeatLatest_E {p : Program} {l : Launch} {e : Env} {s : State} {m : MethodId} {args : Array Value} {below : List Frame} {meth : Method} {c : Code} {D : va_G} {cy : Nat → ClassId} {B : Bs} (C : Cx p s m args c cX5_repeatLatest 5 RX5 D cy B) (hr : meth.sig.returnType = none) (hlocks : meth.locks = false) {N : Nat} {g : Gs} {x0 : Nat} {x1 : Int32} {x2 : Int32} {x3 : Int32}  {dz : Ds} {d : Ds} (hf : fX5_repeatLatest N g x0 x1 x2 x3 d = some ((), dz)) : WB p l e rmX5_repeatLatest s m args below meth c 5 D cy B 0 0 (MQ below (QV D cy B g dz) args s 0 0 (wA B)) g d [(0, .ref (ad B x0)), (1, .int x1), (2, .int x2), (3, .int x3)] 0 [] := by
  unfold fX5_repeatLatest at hf
  refine b_iload_n C dX5_repeatLatest_0 1 rfl rfl ?_
  refine b_aload_n C dX5_repeatLatest_1 0 rfl rfl ?_
  obtain ⟨h1, hf⟩ := gd_s hf
  refine b_gI C dX5_repeatLatest_2 fl_X5_46 h1 ?_
  refine b_isub C dX5_repeatLatest_5 ?_
  refine b_iload_n C dX5_repeatLatest_6 2 rfl rfl ?_
  refine b_isub C dX5_repeatLatest_7 ?_
  obtain ⟨u2, eu2, hf⟩ := bd_s hf
  refine b_topI eu2 ?_
  refine b_istore C dX5_repeatLatest_8 [(4, .int u2), (0, .ref (ad B x0)), (1, .int x1), (2, .int x2), (3, .int x3)] (by decide) rfl ?_
  refine b_aload_n C dX5_repeatLatest_10 1 rfl rfl ?_
  refine b_gI C dX5_repeatLatest_11 fl_X5_43 h1 ?_
  refine b_iconst C (v := (-1)) dX5_repeatLatest_14 (by decide) ?_
  refine b_icmp_eq C (tgt := 54) dX5_repeatLatest_15 (by decide) (fun c3 => ?_) (fun c3 => ?_)
  · have hf := it_s c3 hf
    refine b_sub [(0, .ref (ad B x0)), (1, .int x1), (2, .int x2), (3, .int x3)] [1, 2, 3, 4] rfl ?_
    exact tX5_repeatLatest_54 C hr hlocks hf
  · have hf := if_s c3 hf
    refine b_iload C dX5_repeatLatest_18 0 rfl ?_
    refine b_if_lt C (tgt := 54) dX5_repeatLatest_20 (by decide) (fun c4 => ?_) (fun c4 => ?_)
    · have hf := it_s c4 hf
      refine b_sub [(0, .ref (ad B x0)), (1, .int x1), (2, .int x2), (3, .int x3)] [1, 2, 3, 4] rfl ?_
      exact tX5_repeatLatest_54 C hr hlocks hf
    · have hf := if_s c4 hf
      refine b_iload_n C dX5_repeatLatest_23 4 rfl rfl ?_
      refine b_if_le C (tgt := 54) dX5_repeatLatest_24 (by decide) (fun c5 => ?_) (fun c5 => ?_)
      · have hf := it_s c5 hf
        refine b_sub [(0, .ref (ad B x0)), (1, .int x1), (2, .int x2), (3, .int x3)] [1, 2, 3, 4] rfl ?_
        exact tX5_repeatLatest_54 C hr hlocks hf
      · have hf := if_s c5 hf
        refine b_iload C dX5_repeatLatest_27 0 rfl ?_
        refine b_iload_n C dX5_repeatLatest_29 4 rfl rfl ?_
        obtain ⟨h6, hf⟩ := gd_s hf
        refine b_irem C dX5_repeatLatest_30 h6 ?_
        refine b_if_ne C (tgt := 54) dX5_repeatLatest_31 (by decide) (fun c7 => ?_) (fun c7 => ?_)
        · have hf := if_s c7 hf
          refine b_sub [(0, .ref (ad B x0)), (1, .int x1), (2, .int x2), (3, .int x3)] [1, 2, 3, 4] rfl ?_
          exact tX5_repeatLatest_54 C hr hlocks hf
        · have hf := it_s c7 hf
          refine b_aload_n C dX5_repeatLatest_34 1 rfl rfl ?_
          refine b_dup C dX5_repeatLatest_35 rfl ?_
          refine b_gI C dX5_repeatLatest_36 fl_X5_30 h1 ?_
          refine b_iconst C (v := 1) dX5_repeatLatest_39 (by decide) ?_
          refine b_iadd C dX5_repeatLatest_40 ?_
          obtain ⟨d8, ed8, hf⟩ := bd_s hf
          refine b_pI C dX5_repeatLatest_41 fl_X5_30 fp5_7 h1 ed8 ?_
          refine b_aload_n C dX5_repeatLatest_44 1 rfl rfl ?_
          refine b_dup C dX5_repeatLatest_45 rfl ?_
          refine b_gI C dX5_repeatLatest_46 fl_X5_49 h1 ?_
          refine b_iconst C (v := 1) dX5_repeatLatest_49 (by decide) ?_
          refine b_iadd C dX5_repeatLatest_50 ?_
          obtain ⟨d9, ed9, hf⟩ := bd_s hf
          refine b_pI C dX5_repeatLatest_51 fl_X5_49 fp5_8 h1 ed9 ?_
          refine b_sub [(0, .ref (ad B x0)), (1, .int x1), (2, .int x2), (3, .int x3)] [1, 2, 3, 4] rfl ?_
          exact tX5_repeatLatest_54 C hr hlocks hf
theorem kX5_repeatLatest (l : Launch) (D : va_G) (cy : Nat → ClassId) (B : Bs) {N : Nat} {g : Gs} {x0 : Nat} {x1 : Int32} {x2 : Int32} {x3 : Int32}  {dz : Ds} {d : Ds} (hf : fX5_repeatLatest N g x0 x1 x2 x3 d = some ((), dz)) : Met l yX5_repeatLatest (.code yX5_repeatLatest cX5_repeatLatest 5 none :: wl) rmX5_repeatLatest (PC D cy B [.ref (ad B x0), .int x1, .int x2, .int x3] g d) (QV D cy B g dz) 0 0 (wA B) :=
  met_of (by decide +kernel) (Nat.le_of_ble_eq_true rfl) (fun p e s m args below meth c C hr hlocks _ => b_sub [(0, .ref (ad B x0)), (1, .int x1), (2, .int x2), (3, .int x3)] [0, 1, 2, 3] rfl (tX5_repeatLatest_E C hr hlocks hf))
/-! KeyMatrix$Course.passTick()V -/
theorem yo_X0_hasKey : yX0_hasKey.cls ≠ "java/lang/invoke/MethodHandle" ∧ yX0_hasKey.cls ≠ "java/lang/invoke/VarHandle" ∧ (parseMethodDescriptor yX0_hasKey.desc).map (fun d => d.parameters.length) = some 1 := by decide +kernel
theorem co_X0_hasKey : Cond.code yX0_hasKey cX0_hasKey 2 (some .boolean) ∈ wl := mW (mT4 (List.mem_of_getElem? (i := 30) (by decide +kernel))) rfl
theorem in_X0_hasKey : Cond.initialized yX0_hasKey.cls ∈ wl := mW (mT1 (List.mem_of_getElem? (i := 5) (by decide +kernel))) rfl
theorem im_X0_hasKey : Cond.instanceMethod yX0_hasKey ∈ wl := mW (mT4 (List.mem_of_getElem? (i := 28) (by decide +kernel))) rfl
theorem se_X0_hasKey : Cond.selects yX0_hasKey.cls yX0_hasKey yX0_hasKey ∈ wl := mW (mT4 (List.mem_of_getElem? (i := 29) (by decide +kernel))) rfl
theorem lv_X1_84 : LV RX1 84 yX0_hasKey cX0_hasKey 2 (some .boolean) 1 0 := ⟨⟨(RX0, TX0, 19), rfl, rfl⟩, yo_X0_hasKey, mW (mT4 (List.mem_of_getElem? (i := 64) (by decide +kernel))) rfl, im_X0_hasKey, se_X0_hasKey, in_X0_hasKey, co_X0_hasKey⟩
theorem fl_X1_118 : FLI RX1 118 0 8 := ⟨⟨RX0, TX0, 19, rfl, by decide, inl0, Or.inr (mT1 (List.mem_of_getElem? (i := 142) (by decide +kernel)))⟩, by decide, by decide +kernel⟩
theorem fl_X1_121 : FLI RX1 121 0 9 := ⟨⟨RX0, TX0, 19, rfl, by decide, inl0, Or.inr (mT1 (List.mem_of_getElem? (i := 146) (by decide +kernel)))⟩, by decide, by decide +kernel⟩
theorem yo_X5_repeatLatest : yX5_repeatLatest.cls ≠ "java/lang/invoke/MethodHandle" ∧ yX5_repeatLatest.cls ≠ "java/lang/invoke/VarHandle" ∧ (parseMethodDescriptor yX5_repeatLatest.desc).map (fun d => d.parameters.length) = some 3 := by decide +kernel
theorem co_X5_repeatLatest : Cond.code yX5_repeatLatest cX5_repeatLatest 5 none ∈ wl := mW (mT4 (List.mem_of_getElem? (i := 207) (by decide +kernel))) rfl
theorem in_X5_repeatLatest : Cond.initialized yX5_repeatLatest.cls ∈ wl := mW (mT1 (List.mem_of_getElem? (i := 11) (by decide +kernel))) rfl
theorem im_X5_repeatLatest : Cond.instanceMethod yX5_repeatLatest ∈ wl := mW (mT4 (List.mem_of_getElem? (i := 205) (by decide +kernel))) rfl
theorem se_X5_repeatLatest : Cond.selects yX5_repeatLatest.cls yX5_repeatLatest yX5_repeatLatest ∈ wl := mW (mT4 (List.mem_of_getElem? (i := 206) (by decide +kernel))) rfl
theorem lv_X1_124 : LV RX1 124 yX5_repeatLatest cX5_repeatLatest 5 none 3 5 := ⟨⟨(RX5, TX5, 9), rfl, rfl⟩, yo_X5_repeatLatest, mW (mT4 (List.mem_of_getElem? (i := 204) (by decide +kernel))) rfl, im_X5_repeatLatest, se_X5_repeatLatest, in_X5_repeatLatest, co_X5_repeatLatest⟩
theorem yo_X1_fateOfFirst : yX1_fateOfFirst.cls ≠ "java/lang/invoke/MethodHandle" ∧ yX1_fateOfFirst.cls ≠ "java/lang/invoke/VarHandle" ∧ (parseMethodDescriptor yX1_fateOfFirst.desc).map (fun d => d.parameters.length) = some 0 := by decide +kernel
theorem co_X1_fateOfFirst : Cond.code yX1_fateOfFirst cX1_fateOfFirst 5 (some .int) ∈ wl := mW (mT4 (List.mem_of_getElem? (i := 91) (by decide +kernel))) rfl
theorem in_X1_fateOfFirst : Cond.initialized yX1_fateOfFirst.cls ∈ wl := mW (mT1 (List.mem_of_getElem? (i := 7) (by decide +kernel))) rfl
theorem im_X1_fateOfFirst : Cond.instanceMethod yX1_fateOfFirst ∈ wl := mW (mT4 (List.mem_of_getElem? (i := 90) (by decide +kernel))) rfl
theorem se_X1_fateOfFirst : Cond.selects yX1_fateOfFirst.cls yX1_fateOfFirst yX1_fateOfFirst ∈ wl := mW (mT0 (List.mem_of_getElem? (i := 19) (by decide +kernel))) rfl
theorem lv_X1_111 : LV RX1 111 yX1_fateOfFirst cX1_fateOfFirst 5 (some .int) 0 1 := ⟨⟨(RX1, TX1, 6), rfl, rfl⟩, yo_X1_fateOfFirst, mW (mT4 (List.mem_of_getElem? (i := 88) (by decide +kernel))) rfl, im_X1_fateOfFirst, se_X1_fateOfFirst, in_X1_fateOfFirst, co_X1_fateOfFirst⟩
theorem yo_X1_workOff : yX1_workOff.cls ≠ "java/lang/invoke/MethodHandle" ∧ yX1_workOff.cls ≠ "java/lang/invoke/VarHandle" ∧ (parseMethodDescriptor yX1_workOff.desc).map (fun d => d.parameters.length) = some 1 := by decide +kernel
theorem co_X1_workOff : Cond.code yX1_workOff cX1_workOff 5 none ∈ wl := mW (mT4 (List.mem_of_getElem? (i := 126) (by decide +kernel))) rfl
theorem in_X1_workOff : Cond.initialized yX1_workOff.cls ∈ wl := mW (mT1 (List.mem_of_getElem? (i := 7) (by decide +kernel))) rfl
theorem im_X1_workOff : Cond.instanceMethod yX1_workOff ∈ wl := mW (mT4 (List.mem_of_getElem? (i := 125) (by decide +kernel))) rfl
theorem se_X1_workOff : Cond.selects yX1_workOff.cls yX1_workOff yX1_workOff ∈ wl := mW (mT0 (List.mem_of_getElem? (i := 22) (by decide +kernel))) rfl
theorem lv_X1_115 : LV RX1 115 yX1_workOff cX1_workOff 5 none 1 1 := ⟨⟨(RX1, TX1, 6), rfl, rfl⟩, yo_X1_workOff, mW (mT4 (List.mem_of_getElem? (i := 123) (by decide +kernel))) rfl, im_X1_workOff, se_X1_workOff, in_X1_workOff, co_X1_workOff⟩
theorem yo_X6_weighSteady : yX6_weighSteady.cls ≠ "java/lang/invoke/MethodHandle" ∧ yX6_weighSteady.cls ≠ "java/lang/invoke/VarHandle" ∧ (parseMethodDescriptor yX6_weighSteady.desc).map (fun d => d.parameters.length) = some 1 := by decide +kernel
theorem co_X6_weighSteady : Cond.code yX6_weighSteady cX6_weighSteady 3 none ∈ wl := mW (mT4 (List.mem_of_getElem? (i := 68) (by decide +kernel))) rfl
theorem in_X6_weighSteady : Cond.initialized yX6_weighSteady.cls ∈ wl := mW (mT1 (List.mem_of_getElem? (i := 8) (by decide +kernel))) rfl
theorem im_X6_weighSteady : Cond.instanceMethod yX6_weighSteady ∈ wl := mW (mT4 (List.mem_of_getElem? (i := 66) (by decide +kernel))) rfl
theorem se_X6_weighSteady : Cond.selects yX6_weighSteady.cls yX6_weighSteady yX6_weighSteady ∈ wl := mW (mT4 (List.mem_of_getElem? (i := 67) (by decide +kernel))) rfl
theorem lv_X1_90 : LV RX1 90 yX6_weighSteady cX6_weighSteady 3 none 1 6 := ⟨⟨(RX6, TX6, 9), rfl, rfl⟩, yo_X6_weighSteady, mW (mT4 (List.mem_of_getElem? (i := 65) (by decide +kernel))) rfl, im_X6_weighSteady, se_X6_weighSteady, in_X6_weighSteady, co_X6_weighSteady⟩
theorem fl_X1_94 : FLI RX1 94 0 4 := ⟨⟨RX0, TX0, 19, rfl, by decide, inl0, Or.inr (mT1 (List.mem_of_getElem? (i := 126) (by decide +kernel)))⟩, by decide, by decide +kernel⟩
theorem yo_X6_changes : yX6_changes.cls ≠ "java/lang/invoke/MethodHandle" ∧ yX6_changes.cls ≠ "java/lang/invoke/VarHandle" ∧ (parseMethodDescriptor yX6_changes.desc).map (fun d => d.parameters.length) = some 2 := by decide +kernel
theorem co_X6_changes : Cond.code yX6_changes cX6_changes 4 (some .boolean) ∈ wl := mW (mT4 (List.mem_of_getElem? (i := 75) (by decide +kernel))) rfl
theorem in_X6_changes : Cond.initialized yX6_changes.cls ∈ wl := mW (mT1 (List.mem_of_getElem? (i := 8) (by decide +kernel))) rfl
theorem im_X6_changes : Cond.instanceMethod yX6_changes ∈ wl := mW (mT4 (List.mem_of_getElem? (i := 73) (by decide +kernel))) rfl
theorem se_X6_changes : Cond.selects yX6_changes.cls yX6_changes yX6_changes ∈ wl := mW (mT4 (List.mem_of_getElem? (i := 74) (by decide +kernel))) rfl
theorem lv_X1_97 : LV RX1 97 yX6_changes cX6_changes 4 (some .boolean) 2 6 := ⟨⟨(RX6, TX6, 9), rfl, rfl⟩, yo_X6_changes, mW (mT4 (List.mem_of_getElem? (i := 72) (by decide +kernel))) rfl, im_X6_changes, se_X6_changes, in_X6_changes, co_X6_changes⟩
theorem yo_X6_change : yX6_change.cls ≠ "java/lang/invoke/MethodHandle" ∧ yX6_change.cls ≠ "java/lang/invoke/VarHandle" ∧ (parseMethodDescriptor yX6_change.desc).map (fun d => d.parameters.length) = some 2 := by decide +kernel
theorem co_X6_change : Cond.code yX6_change cX6_change 3 none ∈ wl := mW (mT4 (List.mem_of_getElem? (i := 79) (by decide +kernel))) rfl
theorem in_X6_change : Cond.initialized yX6_change.cls ∈ wl := mW (mT1 (List.mem_of_getElem? (i := 8) (by decide +kernel))) rfl
theorem im_X6_change : Cond.instanceMethod yX6_change ∈ wl := mW (mT4 (List.mem_of_getElem? (i := 77) (by decide +kernel))) rfl
theorem se_X6_change : Cond.selects yX6_change.cls yX6_change yX6_change ∈ wl := mW (mT4 (List.mem_of_getElem? (i := 78) (by decide +kernel))) rfl
theorem lv_X1_100 : LV RX1 100 yX6_change cX6_change 3 none 2 6 := ⟨⟨(RX6, TX6, 9), rfl, rfl⟩, yo_X6_change, mW (mT4 (List.mem_of_getElem? (i := 76) (by decide +kernel))) rfl, im_X6_change, se_X6_change, in_X6_change, co_X6_change⟩
theorem yo_X4_add : yX4_add.cls ≠ "java/lang/invoke/MethodHandle" ∧ yX4_add.cls ≠ "java/lang/invoke/VarHandle" ∧ (parseMethodDescriptor yX4_add.desc).map (fun d => d.parameters.length) = some 3 := by decide +kernel
theorem co_X4_add : Cond.code yX4_add cX4_add 4 none ∈ wl := mW (mT4 (List.mem_of_getElem? (i := 87) (by decide +kernel))) rfl
theorem in_X4_add : Cond.initialized yX4_add.cls ∈ wl := mW (mT1 (List.mem_of_getElem? (i := 9) (by decide +kernel))) rfl
theorem im_X4_add : Cond.instanceMethod yX4_add ∈ wl := mW (mT4 (List.mem_of_getElem? (i := 85) (by decide +kernel))) rfl
theorem se_X4_add : Cond.selects yX4_add.cls yX4_add yX4_add ∈ wl := mW (mT4 (List.mem_of_getElem? (i := 86) (by decide +kernel))) rfl
theorem lv_X1_104 : LV RX1 104 yX4_add cX4_add 4 none 3 4 := ⟨⟨(RX4, TX4, 3), rfl, rfl⟩, yo_X4_add, mW (mT4 (List.mem_of_getElem? (i := 84) (by decide +kernel))) rfl, im_X4_add, se_X4_add, in_X4_add, co_X4_add⟩
theorem dX1_passTick_0 : decode cX1_passTick 0 = .ok (.aload_n 0, 1) := by decide +kernel
theorem dX1_passTick_1 : decode cX1_passTick 1 = .ok (.dup, 1) := by decide +kernel
theorem dX1_passTick_2 : decode cX1_passTick 2 = .ok (.getfield 46, 3) := by decide +kernel
theorem dX1_passTick_5 : decode cX1_passTick 5 = .ok (.iconst 1, 1) := by decide +kernel
theorem dX1_passTick_6 : decode cX1_passTick 6 = .ok (.iadd, 1) := by decide +kernel
theorem dX1_passTick_7 : decode cX1_passTick 7 = .ok (.putfield 46, 3) := by decide +kernel
theorem dX1_passTick_10 : decode cX1_passTick 10 = .ok (.iconst 0, 1) := by decide +kernel
theorem dX1_passTick_11 : decode cX1_passTick 11 = .ok (.istore_n 1, 1) := by decide +kernel
theorem dX1_passTick_12 : decode cX1_passTick 12 = .ok (.aload_n 0, 1) := by decide +kernel
theorem dX1_passTick_13 : decode cX1_passTick 13 = .ok (.getfield 39, 3) := by decide +kernel
theorem dX1_passTick_16 : decode cX1_passTick 16 = .ok (.iload_n 1, 1) := by decide +kernel
theorem dX1_passTick_17 : decode cX1_passTick 17 = .ok (.invokevirtual 84, 3) := by decide +kernel
theorem dX1_passTick_20 : decode cX1_passTick 20 = .ok (.ifCond .eq 76, 3) := by decide +kernel
theorem dX1_passTick_23 : decode cX1_passTick 23 = .ok (.iload_n 1, 1) := by decide +kernel
theorem dX1_passTick_24 : decode cX1_passTick 24 = .ok (.bipush 24, 2) := by decide +kernel
theorem dX1_passTick_26 : decode cX1_passTick 26 = .ok (.if_icmp .ge 70, 3) := by decide +kernel
theorem dX1_passTick_29 : decode cX1_passTick 29 = .ok (.aload_n 0, 1) := by decide +kernel
theorem dX1_passTick_30 : decode cX1_passTick 30 = .ok (.getfield 12, 3) := by decide +kernel
theorem dX1_passTick_33 : decode cX1_passTick 33 = .ok (.iload_n 1, 1) := by decide +kernel
theorem dX1_passTick_34 : decode cX1_passTick 34 = .ok (.invokevirtual 90, 3) := by decide +kernel
theorem dX1_passTick_37 : decode cX1_passTick 37 = .ok (.aload_n 0, 1) := by decide +kernel
theorem dX1_passTick_38 : decode cX1_passTick 38 = .ok (.getfield 12, 3) := by decide +kernel
theorem dX1_passTick_41 : decode cX1_passTick 41 = .ok (.iload_n 1, 1) := by decide +kernel
theorem dX1_passTick_42 : decode cX1_passTick 42 = .ok (.aload_n 0, 1) := by decide +kernel
theorem dX1_passTick_43 : decode cX1_passTick 43 = .ok (.getfield 39, 3) := by decide +kernel
theorem dX1_passTick_46 : decode cX1_passTick 46 = .ok (.getfield 94, 3) := by decide +kernel
theorem dX1_passTick_49 : decode cX1_passTick 49 = .ok (.invokevirtual 97, 3) := by decide +kernel
theorem dX1_passTick_52 : decode cX1_passTick 52 = .ok (.ifCond .eq 38, 3) := by decide +kernel
theorem dX1_passTick_55 : decode cX1_passTick 55 = .ok (.aload_n 0, 1) := by decide +kernel
theorem dX1_passTick_56 : decode cX1_passTick 56 = .ok (.getfield 12, 3) := by decide +kernel
theorem dX1_passTick_59 : decode cX1_passTick 59 = .ok (.iload_n 1, 1) := by decide +kernel
theorem dX1_passTick_60 : decode cX1_passTick 60 = .ok (.aload_n 0, 1) := by decide +kernel
theorem dX1_passTick_61 : decode cX1_passTick 61 = .ok (.getfield 46, 3) := by decide +kernel
theorem dX1_passTick_64 : decode cX1_passTick 64 = .ok (.invokevirtual 100, 3) := by decide +kernel
theorem dX1_passTick_67 : decode cX1_passTick 67 = .ok (.aload_n 0, 1) := by decide +kernel
theorem dX1_passTick_68 : decode cX1_passTick 68 = .ok (.getfield 21, 3) := by decide +kernel
theorem dX1_passTick_71 : decode cX1_passTick 71 = .ok (.iload_n 1, 1) := by decide +kernel
theorem dX1_passTick_72 : decode cX1_passTick 72 = .ok (.aload_n 0, 1) := by decide +kernel
theorem dX1_passTick_73 : decode cX1_passTick 73 = .ok (.getfield 12, 3) := by decide +kernel
theorem dX1_passTick_76 : decode cX1_passTick 76 = .ok (.getfield 74, 3) := by decide +kernel
theorem dX1_passTick_79 : decode cX1_passTick 79 = .ok (.iload_n 1, 1) := by decide +kernel
theorem dX1_passTick_80 : decode cX1_passTick 80 = .ok (.invokestatic 77, 3) := by decide +kernel
theorem dX1_passTick_83 : decode cX1_passTick 83 = .ok (.aload_n 0, 1) := by decide +kernel
theorem dX1_passTick_84 : decode cX1_passTick 84 = .ok (.getfield 46, 3) := by decide +kernel
theorem dX1_passTick_87 : decode cX1_passTick 87 = .ok (.invokevirtual 104, 3) := by decide +kernel
theorem dX1_passTick_90 : decode cX1_passTick 90 = .ok (.iinc 1 1, 3) := by decide +kernel
theorem dX1_passTick_93 : decode cX1_passTick 93 = .ok (.goto (-81), 3) := by decide +kernel
theorem dX1_passTick_96 : decode cX1_passTick 96 = .ok (.aload_n 0, 1) := by decide +kernel
theorem dX1_passTick_97 : decode cX1_passTick 97 = .ok (.getfield 21, 3) := by decide +kernel
theorem dX1_passTick_100 : decode cX1_passTick 100 = .ok (.getfield 108, 3) := by decide +kernel
theorem dX1_passTick_103 : decode cX1_passTick 103 = .ok (.istore_n 1, 1) := by decide +kernel
theorem dX1_passTick_104 : decode cX1_passTick 104 = .ok (.iload_n 1, 1) := by decide +kernel
theorem dX1_passTick_105 : decode cX1_passTick 105 = .ok (.ifCond .le 26, 3) := by decide +kernel
theorem dX1_passTick_108 : decode cX1_passTick 108 = .ok (.aload_n 0, 1) := by decide +kernel
theorem dX1_passTick_109 : decode cX1_passTick 109 = .ok (.invokevirtual 111, 3) := by decide +kernel
theorem dX1_passTick_112 : decode cX1_passTick 112 = .ok (.istore_n 2, 1) := by decide +kernel
theorem dX1_passTick_113 : decode cX1_passTick 113 = .ok (.iload_n 2, 1) := by decide +kernel
theorem dX1_passTick_114 : decode cX1_passTick 114 = .ok (.ifCond .ne 6, 3) := by decide +kernel
theorem dX1_passTick_117 : decode cX1_passTick 117 = .ok (.goto 14, 3) := by decide +kernel
theorem dX1_passTick_120 : decode cX1_passTick 120 = .ok (.aload_n 0, 1) := by decide +kernel
theorem dX1_passTick_121 : decode cX1_passTick 121 = .ok (.iload_n 2, 1) := by decide +kernel
theorem dX1_passTick_122 : decode cX1_passTick 122 = .ok (.invokevirtual 115, 3) := by decide +kernel
theorem dX1_passTick_125 : decode cX1_passTick 125 = .ok (.iinc 1 (-1), 3) := by decide +kernel
theorem dX1_passTick_128 : decode cX1_passTick 128 = .ok (.goto (-24), 3) := by decide +kernel
theorem dX1_passTick_131 : decode cX1_passTick 131 = .ok (.aload_n 0, 1) := by decide +kernel
theorem dX1_passTick_132 : decode cX1_passTick 132 = .ok (.getfield 35, 3) := by decide +kernel
theorem dX1_passTick_135 : decode cX1_passTick 135 = .ok (.aload_n 0, 1) := by decide +kernel
theorem dX1_passTick_136 : decode cX1_passTick 136 = .ok (.getfield 46, 3) := by decide +kernel
theorem dX1_passTick_139 : decode cX1_passTick 139 = .ok (.aload_n 0, 1) := by decide +kernel
theorem dX1_passTick_140 : decode cX1_passTick 140 = .ok (.getfield 39, 3) := by decide +kernel
theorem dX1_passTick_143 : decode cX1_passTick 143 = .ok (.getfield 118, 3) := by decide +kernel
theorem dX1_passTick_146 : decode cX1_passTick 146 = .ok (.aload_n 0, 1) := by decide +kernel
theorem dX1_passTick_147 : decode cX1_passTick 147 = .ok (.getfield 39, 3) := by decide +kernel
theorem dX1_passTick_150 : decode cX1_passTick 150 = .ok (.getfield 121, 3) := by decide +kernel
theorem dX1_passTick_153 : decode cX1_passTick 153 = .ok (.invokevirtual 124, 3) := by decide +kernel
theorem dX1_passTick_156 : decode cX1_passTick 156 = .ok (.return_, 1) := by decide +kernel
def rmX1_passTick : Room := { frames := 6, cells := 0, slots := 0, locals := 145 }
set_option maxRecDepth 100000 in
def fX1_passTick_J131 (N : Nat) (g : Gs) (x0 : Nat) (d : Ds) : Option (Unit × Ds) := gd (chk g x0 1) <| ob (gR g x0 4) fun r16 => (ob (gR g x0 0) fun r17 => (gd (chk g r17 0) <| gd (chk g r16 5) <| cv (fX5_repeatLatest N g r16 (dI d x0 5) (dI d r17 8) (dI d r17 9) d) fun d20 => (some ((), d20))))
set_option maxHeartbeats 4000000 in
set_option maxRecDepth 100000 in
theorem tX1_passTick_131 {p : Program} {l : Launch} {e : Env} {s : State} {m : MethodId} {args : Array Value} {below : List Frame} {meth : Method} {c : Code} {D : va_G} {cy : Nat → ClassId} {B : Bs} (C : Cx p s m args c cX1_passTick 3 RX1 D cy B) (hr : meth.sig.returnType = none) (hlocks : meth.locks = false) {N : Nat} {g : Gs} {x0 : Nat}  {dz : Ds} {d : Ds} (hf : fX1_passTick_J131 N g x0 d = some ((), dz)) : WB p l e rmX1_passTick s m args below meth c 3 D cy B 0 0 (MQ below (QV D cy B g dz) args s 0 0 (wA B)) g d [(0, .ref (ad B x0))] 131 [] := by
  unfold fX1_passTick_J131 at hf
  refine b_aload_n C dX1_passTick_131 0 rfl rfl ?_
  obtain ⟨h15, hf⟩ := gd_s hf
  obtain ⟨r16, er16, hf⟩ := ob_s hf
  refine b_gR C dX1_passTick_132 fl_X1_35 h15 er16 ?_
  refine b_aload_n C dX1_passTick_135 0 rfl rfl ?_
  refine b_gI C dX1_passTick_136 fl_X1_46 h15 ?_
  refine b_aload_n C dX1_passTick_139 0 rfl rfl ?_
  obtain ⟨r17, er17, hf⟩ := ob_s hf
  refine b_gR C dX1_passTick_140 fl_X1_39 h15 er17 ?_
  obtain ⟨h18, hf⟩ := gd_s hf
  refine b_gI C dX1_passTick_143 fl_X1_118 h18 ?_
  refine b_aload_n C dX1_passTick_146 0 rfl rfl ?_
  refine b_gR C dX1_passTick_147 fl_X1_39 h15 er17 ?_
  refine b_gI C dX1_passTick_150 fl_X1_121 h18 ?_
  obtain ⟨h19, hf⟩ := gd_s hf
  obtain ⟨d20, k21, hf⟩ := cv_s hf
  refine b_cVN C [] dX1_passTick_153 (kX5_repeatLatest l D cy B k21) lv_X1_124 ⟨rfl, rfl, Nat.le_of_ble_eq_true rfl, Nat.le_of_ble_eq_true rfl⟩ h19 (by decide) rfl (Nat.le_of_ble_eq_true rfl) ⟨Nat.zero_le _, Nat.zero_le _⟩ rfl ?_
  exact b_vret C hr hlocks hf dX1_passTick_156
set_option maxRecDepth 100000 in
def fX1_passTick_B104 (N : Nat) (g : Gs) (x0 : Nat) (K104 : Int32 × Ds → Option (Unit × Ds)) (y1 : Int32) (d : Ds) : Option (Unit × Ds) := if y1 ≤ 0 then (fX1_passTick_J131 N g x0 d) else (gd (chk g x0 1) <| cb (fX1_fateOfFirst N g x0 d) fun u25 d23 => (if u25 = 0 then (fX1_passTick_J131 N g x0 d23) else (cv (fX1_workOff N g x0 u25 d23) fun d27 => (bd (y1 + (-1)) fun u29 => (K104 (u29, d27))))))
set_option maxHeartbeats 4000000 in
set_option maxRecDepth 100000 in
theorem tX1_passTick_104 {p : Program} {l : Launch} {e : Env} {s : State} {m : MethodId} {args : Array Value} {below : List Frame} {meth : Method} {c : Code} {D : va_G} {cy : Nat → ClassId} {B : Bs} (C : Cx p s m args c cX1_passTick 3 RX1 D cy B) (hr : meth.sig.returnType = none) (hlocks : meth.locks = false) {N : Nat} {g : Gs} {x0 : Nat}  {dz : Ds} {K104 : Int32 × Ds → Option (Unit × Ds)} (hK104 : ∀ a, K104 a = some ((), dz) → WB p l e rmX1_passTick s m args below meth c 3 D cy B 0 0 (MQ below (QV D cy B g dz) args s 0 0 (wA B)) g a.2 [(0, .ref (ad B x0)), (1, .int a.1)] 104 []) {y1 : Int32} {d : Ds} (hf : fX1_passTick_B104 N g x0 K104 y1 d = some ((), dz)) : WB p l e rmX1_passTick s m args below meth c 3 D cy B 0 0 (MQ below (QV D cy B g dz) args s 0 0 (wA B)) g d [(0, .ref (ad B x0)), (1, .int y1)] 104 [] := by
  unfold fX1_passTick_B104 at hf
  refine b_iload_n C dX1_passTick_104 1 rfl rfl ?_
  refine b_if_le C (tgt := 131) dX1_passTick_105 (by decide) (fun c14 => ?_) (fun c14 => ?_)
  · have hf := it_s c14 hf
    refine b_sub [(0, .ref (ad B x0))] [0] rfl ?_
    exact tX1_passTick_131 C hr hlocks hf
  · have hf := if_s c14 hf
    refine b_aload_n C dX1_passTick_108 0 rfl rfl ?_
    obtain ⟨h22, hf⟩ := gd_s hf
    obtain ⟨u25, d23, k24, hf⟩ := cb_s hf
    refine b_cVI C [] dX1_passTick_109 (kX1_fateOfFirst l D cy B k24) lv_X1_111 ⟨rfl, rfl, Nat.le_of_ble_eq_true rfl, Nat.le_of_ble_eq_true rfl⟩ h22 (by decide) rfl (Nat.le_of_ble_eq_true rfl) ⟨Nat.zero_le _, Nat.zero_le _⟩ rfl ?_
    refine b_istore_n C dX1_passTick_112 rfl [(2, .int u25), (0, .ref (ad B x0)), (1, .int y1)] (by decide) rfl ?_
    refine b_iload_n C dX1_passTick_113 0 rfl rfl ?_
    refine b_if_ne C (tgt := 120) dX1_passTick_114 (by decide) (fun c26 => ?_) (fun c26 => ?_)
    · have hf := if_s c26 hf
      refine b_aload_n C dX1_passTick_120 1 rfl rfl ?_
      refine b_iload_n C dX1_passTick_121 0 rfl rfl ?_
      obtain ⟨d27, k28, hf⟩ := cv_s hf
      refine b_cVN C [] dX1_passTick_122 (kX1_workOff l D cy B k28) lv_X1_115 ⟨rfl, rfl, Nat.le_of_ble_eq_true rfl, Nat.le_of_ble_eq_true rfl⟩ h22 (by decide) rfl (Nat.le_of_ble_eq_true rfl) ⟨Nat.zero_le _, Nat.zero_le _⟩ rfl ?_
      obtain ⟨u29, eu29, hf⟩ := bd_s hf
      refine b_iinc C dX1_passTick_125 2 rfl (by rw [eu29]; rfl) [(1, .int u29), (2, .int u25), (0, .ref (ad B x0))] (by decide) rfl ?_
      refine b_goto C (tgt := 104) dX1_passTick_128 (by decide) ?_
      refine b_sub [(0, .ref (ad B x0)), (1, .int u29)] [2, 0] rfl ?_
      exact hK104 (u29, d27) hf
    · have hf := it_s c26 hf
      refine b_goto C (tgt := 131) dX1_passTick_117 (by decide) ?_
      refine b_sub [(0, .ref (ad B x0))] [1] rfl ?_
      exact tX1_passTick_131 C hr hlocks hf
def fX1_passTick_L104 (N : Nat) (g : Gs) (x0 : Nat) : Int32 × Ds → Option (Unit × Ds) := lp (fun K104 a => fX1_passTick_B104 N g x0 K104 a.1 a.2) N
theorem tX1_passTick_L104 {p : Program} {l : Launch} {e : Env} {s : State} {m : MethodId} {args : Array Value} {below : List Frame} {meth : Method} {c : Code} {D : va_G} {cy : Nat → ClassId} {B : Bs} (C : Cx p s m args c cX1_passTick 3 RX1 D cy B) (hr : meth.sig.returnType = none) (hlocks : meth.locks = false) {N : Nat} {g : Gs} {x0 : Nat}  {dz : Ds} (a : Int32 × Ds) (hf : fX1_passTick_L104 N g x0 a = some ((), dz)) : WB p l e rmX1_passTick s m args below meth c 3 D cy B 0 0 (MQ below (QV D cy B g dz) args s 0 0 (wA B)) g a.2 [(0, .ref (ad B x0)), (1, .int a.1)] 104 [] :=
  lp_w (fun K104 hK104 a ha => tX1_passTick_104 C hr hlocks hK104 ha) N a hf
set_option maxRecDepth 100000 in
def fX1_passTick_J96 (N : Nat) (g : Gs) (x0 : Nat) (d : Ds) : Option (Unit × Ds) := gd (chk g x0 1) <| ob (gR g x0 2) fun r11 => (gd (chk g r11 4) <| bd ((dI d r11 1)) fun u13 => (fX1_passTick_L104 N g x0 (u13, d)))
set_option maxHeartbeats 4000000 in
set_option maxRecDepth 100000 in
theorem tX1_passTick_96 {p : Program} {l : Launch} {e : Env} {s : State} {m : MethodId} {args : Array Value} {below : List Frame} {meth : Method} {c : Code} {D : va_G} {cy : Nat → ClassId} {B : Bs} (C : Cx p s m args c cX1_passTick 3 RX1 D cy B) (hr : meth.sig.returnType = none) (hlocks : meth.locks = false) {N : Nat} {g : Gs} {x0 : Nat}  {dz : Ds} {d : Ds} (hf : fX1_passTick_J96 N g x0 d = some ((), dz)) : WB p l e rmX1_passTick s m args below meth c 3 D cy B 0 0 (MQ below (QV D cy B g dz) args s 0 0 (wA B)) g d [(0, .ref (ad B x0))] 96 [] := by
  unfold fX1_passTick_J96 at hf
  refine b_aload_n C dX1_passTick_96 0 rfl rfl ?_
  obtain ⟨h10, hf⟩ := gd_s hf
  obtain ⟨r11, er11, hf⟩ := ob_s hf
  refine b_gR C dX1_passTick_97 fl_X1_21 h10 er11 ?_
  obtain ⟨h12, hf⟩ := gd_s hf
  refine b_gI C dX1_passTick_100 fl_X1_108 h12 ?_
  obtain ⟨u13, eu13, hf⟩ := bd_s hf
  refine b_topI eu13 ?_
  refine b_istore_n C dX1_passTick_103 rfl [(1, .int u13), (0, .ref (ad B x0))] (by decide) rfl ?_
  refine b_sub [(0, .ref (ad B x0)), (1, .int u13)] [1, 0] rfl ?_
  exact tX1_passTick_L104 C hr hlocks (u13, d) hf
set_option maxRecDepth 100000 in
def fX1_passTick_J90 (N : Nat) (g : Gs) (x0 : Nat) (K12 : Int32 × Ds → Option (Unit × Ds)) (y1 : Int32) (d : Ds) : Option (Unit × Ds) := bd (y1 + 1) fun u39 => (K12 (u39, d))
set_option maxHeartbeats 4000000 in
set_option maxRecDepth 100000 in
theorem tX1_passTick_90 {p : Program} {l : Launch} {e : Env} {s : State} {m : MethodId} {args : Array Value} {below : List Frame} {meth : Method} {c : Code} {D : va_G} {cy : Nat → ClassId} {B : Bs} (C : Cx p s m args c cX1_passTick 3 RX1 D cy B) (hr : meth.sig.returnType = none) (hlocks : meth.locks = false) {N : Nat} {g : Gs} {x0 : Nat}  {dz : Ds} {K12 : Int32 × Ds → Option (Unit × Ds)} (hK12 : ∀ a, K12 a = some ((), dz) → WB p l e rmX1_passTick s m args below meth c 3 D cy B 0 0 (MQ below (QV D cy B g dz) args s 0 0 (wA B)) g a.2 [(0, .ref (ad B x0)), (1, .int a.1)] 12 []) {y1 : Int32} {d : Ds} (hf : fX1_passTick_J90 N g x0 K12 y1 d = some ((), dz)) : WB p l e rmX1_passTick s m args below meth c 3 D cy B 0 0 (MQ below (QV D cy B g dz) args s 0 0 (wA B)) g d [(0, .ref (ad B x0)), (1, .int y1)] 90 [] := by
  unfold fX1_passTick_J90 at hf
  obtain ⟨u39, eu39, hf⟩ := bd_s hf
  refine b_iinc C dX1_passTick_90 1 rfl (by rw [eu39]; rfl) [(1, .int u39), (0, .ref (ad B x0))] (by decide) rfl ?_
  refine b_goto C (tgt := 12) dX1_passTick_93 (by decide) ?_
  refine b_sub [(0, .ref (ad B x0)), (1, .int u39)] [1, 0] rfl ?_
  exact hK12 (u39, d) hf
set_option maxRecDepth 100000 in
def fX1_passTick_B12 (N : Nat) (g : Gs) (x0 : Nat) (K12 : Int32 × Ds → Option (Unit × Ds)) (y1 : Int32) (d : Ds) : Option (Unit × Ds) := gd (chk g x0 1) <| ob (gR g x0 0) fun r4 => (gd (chk g r4 0) <| cb (fX0_hasKey N g r4 y1 d) fun u8 d6 => (if u8 = 0 then (fX1_passTick_J96 N g x0 d6) else (if (24 : Int32) ≤ y1 then (fX1_passTick_J96 N g x0 d6) else (ob (gR g x0 1) fun r31 => (gd (chk g r31 6) <| cv (fX6_weighSteady N g r31 y1 d6) fun d33 => (cb (fX6_changes N g r31 y1 (dI d33 r4 4) d33) fun u37 d35 => (if u37 = 0 then (fX1_passTick_J90 N g x0 K12 y1 d35) else (cv (fX6_change N g r31 y1 (dI d35 x0 5) d35) fun d40 => (ob (gR g x0 2) fun r42 => (cb (fX11_isIn N g (dI d40 r31 3) y1 d40) fun u45 d43 => (gd (chk g r42 4) <| cv (fX4_add N g r42 y1 u45 (dI d43 x0 5) d43) fun d47 => (fX1_passTick_J90 N g x0 K12 y1 d47))))))))))))
set_option maxHeartbeats 4000000 in
set_option maxRecDepth 100000 in
theorem tX1_passTick_12 {p : Program} {l : Launch} {e : Env} {s : State} {m : MethodId} {args : Array Value} {below : List Frame} {meth : Method} {c : Code} {D : va_G} {cy : Nat → ClassId} {B : Bs} (C : Cx p s m args c cX1_passTick 3 RX1 D cy B) (hr : meth.sig.returnType = none) (hlocks : meth.locks = false) {N : Nat} {g : Gs} {x0 : Nat}  {dz : Ds} {K12 : Int32 × Ds → Option (Unit × Ds)} (hK12 : ∀ a, K12 a = some ((), dz) → WB p l e rmX1_passTick s m args below meth c 3 D cy B 0 0 (MQ below (QV D cy B g dz) args s 0 0 (wA B)) g a.2 [(0, .ref (ad B x0)), (1, .int a.1)] 12 []) {y1 : Int32} {d : Ds} (hf : fX1_passTick_B12 N g x0 K12 y1 d = some ((), dz)) : WB p l e rmX1_passTick s m args below meth c 3 D cy B 0 0 (MQ below (QV D cy B g dz) args s 0 0 (wA B)) g d [(0, .ref (ad B x0)), (1, .int y1)] 12 [] := by
  unfold fX1_passTick_B12 at hf
  refine b_aload_n C dX1_passTick_12 0 rfl rfl ?_
  obtain ⟨h3, hf⟩ := gd_s hf
  obtain ⟨r4, er4, hf⟩ := ob_s hf
  refine b_gR C dX1_passTick_13 fl_X1_39 h3 er4 ?_
  refine b_iload_n C dX1_passTick_16 1 rfl rfl ?_
  obtain ⟨h5, hf⟩ := gd_s hf
  obtain ⟨u8, d6, k7, hf⟩ := cb_s hf
  refine b_cVI C [] dX1_passTick_17 (kX0_hasKey l D cy B k7) lv_X1_84 ⟨rfl, rfl, Nat.le_of_ble_eq_true rfl, Nat.le_of_ble_eq_true rfl⟩ h5 (by decide) rfl (Nat.le_of_ble_eq_true rfl) ⟨Nat.zero_le _, Nat.zero_le _⟩ rfl ?_
  refine b_if_eq C (tgt := 96) dX1_passTick_20 (by decide) (fun c9 => ?_) (fun c9 => ?_)
  · have hf := it_s c9 hf
    refine b_sub [(0, .ref (ad B x0))] [0] rfl ?_
    exact tX1_passTick_96 C hr hlocks hf
  · have hf := if_s c9 hf
    refine b_iload_n C dX1_passTick_23 1 rfl rfl ?_
    refine b_bipush C (v := 24) dX1_passTick_24 (by decide) ?_
    refine b_icmp_ge C (tgt := 96) dX1_passTick_26 (by decide) (fun c30 => ?_) (fun c30 => ?_)
    · have hf := it_s c30 hf
      refine b_sub [(0, .ref (ad B x0))] [0] rfl ?_
      exact tX1_passTick_96 C hr hlocks hf
    · have hf := if_s c30 hf
      refine b_aload_n C dX1_passTick_29 0 rfl rfl ?_
      obtain ⟨r31, er31, hf⟩ := ob_s hf
      refine b_gR C dX1_passTick_30 fl_X1_12 h3 er31 ?_
      refine b_iload_n C dX1_passTick_33 1 rfl rfl ?_
      obtain ⟨h32, hf⟩ := gd_s hf
      obtain ⟨d33, k34, hf⟩ := cv_s hf
      refine b_cVN C [] dX1_passTick_34 (kX6_weighSteady l D cy B k34) lv_X1_90 ⟨rfl, rfl, Nat.le_of_ble_eq_true rfl, Nat.le_of_ble_eq_true rfl⟩ h32 (by decide) rfl (Nat.le_of_ble_eq_true rfl) ⟨Nat.zero_le _, Nat.zero_le _⟩ rfl ?_
      refine b_aload_n C dX1_passTick_37 0 rfl rfl ?_
      refine b_gR C dX1_passTick_38 fl_X1_12 h3 er31 ?_
      refine b_iload_n C dX1_passTick_41 1 rfl rfl ?_
      refine b_aload_n C dX1_passTick_42 0 rfl rfl ?_
      refine b_gR C dX1_passTick_43 fl_X1_39 h3 er4 ?_
      refine b_gI C dX1_passTick_46 fl_X1_94 h5 ?_
      obtain ⟨u37, d35, k36, hf⟩ := cb_s hf
      refine b_cVI C [] dX1_passTick_49 (kX6_changes l D cy B k36) lv_X1_97 ⟨rfl, rfl, Nat.le_of_ble_eq_true rfl, Nat.le_of_ble_eq_true rfl⟩ h32 (by decide) rfl (Nat.le_of_ble_eq_true rfl) ⟨Nat.zero_le _, Nat.zero_le _⟩ rfl ?_
      refine b_if_eq C (tgt := 90) dX1_passTick_52 (by decide) (fun c38 => ?_) (fun c38 => ?_)
      · have hf := it_s c38 hf
        refine b_sub [(0, .ref (ad B x0)), (1, .int y1)] [0, 1] rfl ?_
        exact tX1_passTick_90 C hr hlocks hK12 hf
      · have hf := if_s c38 hf
        refine b_aload_n C dX1_passTick_55 0 rfl rfl ?_
        refine b_gR C dX1_passTick_56 fl_X1_12 h3 er31 ?_
        refine b_iload_n C dX1_passTick_59 1 rfl rfl ?_
        refine b_aload_n C dX1_passTick_60 0 rfl rfl ?_
        refine b_gI C dX1_passTick_61 fl_X1_46 h3 ?_
        obtain ⟨d40, k41, hf⟩ := cv_s hf
        refine b_cVN C [] dX1_passTick_64 (kX6_change l D cy B k41) lv_X1_100 ⟨rfl, rfl, Nat.le_of_ble_eq_true rfl, Nat.le_of_ble_eq_true rfl⟩ h32 (by decide) rfl (Nat.le_of_ble_eq_true rfl) ⟨Nat.zero_le _, Nat.zero_le _⟩ rfl ?_
        refine b_aload_n C dX1_passTick_67 0 rfl rfl ?_
        obtain ⟨r42, er42, hf⟩ := ob_s hf
        refine b_gR C dX1_passTick_68 fl_X1_21 h3 er42 ?_
        refine b_iload_n C dX1_passTick_71 1 rfl rfl ?_
        refine b_aload_n C dX1_passTick_72 0 rfl rfl ?_
        refine b_gR C dX1_passTick_73 fl_X1_12 h3 er31 ?_
        refine b_gI C dX1_passTick_76 fl_X1_74 h32 ?_
        refine b_iload_n C dX1_passTick_79 1 rfl rfl ?_
        obtain ⟨u45, d43, k44, hf⟩ := cb_s hf
        refine b_cSI C [.int y1, .ref (ad B r42)] dX1_passTick_80 (kX11_isIn l D cy B k44) lv_X1_77 ⟨rfl, rfl, Nat.le_of_ble_eq_true rfl, Nat.le_of_ble_eq_true rfl⟩ rfl (Nat.le_of_ble_eq_true rfl) ⟨Nat.zero_le _, Nat.zero_le _⟩ rfl ?_
        refine b_aload_n C dX1_passTick_83 0 rfl rfl ?_
        refine b_gI C dX1_passTick_84 fl_X1_46 h3 ?_
        obtain ⟨h46, hf⟩ := gd_s hf
        obtain ⟨d47, k48, hf⟩ := cv_s hf
        refine b_cVN C [] dX1_passTick_87 (kX4_add l D cy B k48) lv_X1_104 ⟨rfl, rfl, Nat.le_of_ble_eq_true rfl, Nat.le_of_ble_eq_true rfl⟩ h46 (by decide) rfl (Nat.le_of_ble_eq_true rfl) ⟨Nat.zero_le _, Nat.zero_le _⟩ rfl ?_
        refine b_sub [(0, .ref (ad B x0)), (1, .int y1)] [0, 1] rfl ?_
        exact tX1_passTick_90 C hr hlocks hK12 hf
def fX1_passTick_L12 (N : Nat) (g : Gs) (x0 : Nat) : Int32 × Ds → Option (Unit × Ds) := lp (fun K12 a => fX1_passTick_B12 N g x0 K12 a.1 a.2) N
theorem tX1_passTick_L12 {p : Program} {l : Launch} {e : Env} {s : State} {m : MethodId} {args : Array Value} {below : List Frame} {meth : Method} {c : Code} {D : va_G} {cy : Nat → ClassId} {B : Bs} (C : Cx p s m args c cX1_passTick 3 RX1 D cy B) (hr : meth.sig.returnType = none) (hlocks : meth.locks = false) {N : Nat} {g : Gs} {x0 : Nat}  {dz : Ds} (a : Int32 × Ds) (hf : fX1_passTick_L12 N g x0 a = some ((), dz)) : WB p l e rmX1_passTick s m args below meth c 3 D cy B 0 0 (MQ below (QV D cy B g dz) args s 0 0 (wA B)) g a.2 [(0, .ref (ad B x0)), (1, .int a.1)] 12 [] :=
  lp_w (fun K12 hK12 a ha => tX1_passTick_12 C hr hlocks hK12 ha) N a hf
set_option maxRecDepth 100000 in
def fX1_passTick (N : Nat) (g : Gs) (x0 : Nat) (d : Ds) : Option (Unit × Ds) := gd (chk g x0 1) <| bd (sI d x0 5 ((dI d x0 5) + 1)) fun d2 => (fX1_passTick_L12 N g x0 (0, d2))
set_option maxHeartbeats 4000000 in
set_option maxRecDepth 100000 in
theorem tX1_passTick_E {p : Program} {l : Launch} {e : Env} {s : State} {m : MethodId} {args : Array Value} {below : List Frame} {meth : Method} {c : Code} {D : va_G} {cy : Nat → ClassId} {B : Bs} (C : Cx p s m args c cX1_passTick 3 RX1 D cy B) (hr : meth.sig.returnType = none) (hlocks : meth.locks = false) {N : Nat} {g : Gs} {x0 : Nat}  {dz : Ds} {d : Ds} (hf : fX1_passTick N g x0 d = some ((), dz)) : WB p l e rmX1_passTick s m args below meth c 3 D cy B 0 0 (MQ below (QV D cy B g dz) args s 0 0 (wA B)) g d [(0, .ref (ad B x0))] 0 [] := by
  unfold fX1_passTick at hf
  refine b_aload_n C dX1_passTick_0 0 rfl rfl ?_
  refine b_dup C dX1_passTick_1 rfl ?_
  obtain ⟨h1, hf⟩ := gd_s hf
  refine b_gI C dX1_passTick_2 fl_X1_46 h1 ?_
  refine b_iconst C (v := 1) dX1_passTick_5 (by decide) ?_
  refine b_iadd C dX1_passTick_6 ?_
  obtain ⟨d2, ed2, hf⟩ := bd_s hf
  refine b_pI C dX1_passTick_7 fl_X1_46 fp1_5 h1 ed2 ?_
  refine b_iconst C (v := 0) dX1_passTick_10 (by decide) ?_
  refine b_istore_n C dX1_passTick_11 rfl [(1, .int 0), (0, .ref (ad B x0))] (by decide) rfl ?_
  refine b_sub [(0, .ref (ad B x0)), (1, .int 0)] [1, 0] rfl ?_
  exact tX1_passTick_L12 C hr hlocks (0, d2) hf
theorem kX1_passTick (l : Launch) (D : va_G) (cy : Nat → ClassId) (B : Bs) {N : Nat} {g : Gs} {x0 : Nat}  {dz : Ds} {d : Ds} (hf : fX1_passTick N g x0 d = some ((), dz)) : Met l yX1_passTick (.code yX1_passTick cX1_passTick 3 none :: wl) rmX1_passTick (PC D cy B [.ref (ad B x0)] g d) (QV D cy B g dz) 0 0 (wA B) :=
  met_of (by decide +kernel) (Nat.le_of_ble_eq_true rfl) (fun p e s m args below meth c C hr hlocks _ => b_sub [(0, .ref (ad B x0))] [0] rfl (tX1_passTick_E C hr hlocks hf))
/-! KeyMatrix$Tokens.<init>()V -/
theorem oi_X8_1 : Cond.methodLink RX8 1 objectInit ∈ wl := mW (mT1 (List.mem_of_getElem? (i := 41) (by decide +kernel))) rfl
theorem inl8 : ∀ w ∈ u_ws RX8 TX8 6, w ∈ wl := by
  have h0 : u_ws RX8 TX8 6 = [Cond.laysFinal "KeyMatrix$Tokens" "KeyMatrix$Tokens" "kinds" "[I", Cond.laysFinal "KeyMatrix$Tokens" "KeyMatrix$Tokens" "places" "[I", Cond.laysFinal "KeyMatrix$Tokens" "KeyMatrix$Tokens" "numbers" "[I", Cond.laysFinal "KeyMatrix$Tokens" "KeyMatrix$Tokens" "words" "[LKeyMatrix$Word;", Cond.lays "KeyMatrix$Tokens" "KeyMatrix$Tokens" "size" "I", Cond.lays "KeyMatrix$Tokens" "KeyMatrix$Tokens" "end" "I"] := by decide +kernel
  rw [h0]
  exact List.forall_mem_cons.mpr ⟨mW (mT1 (List.mem_of_getElem? (i := 50) (by decide +kernel))) rfl, List.forall_mem_cons.mpr ⟨mW (mT1 (List.mem_of_getElem? (i := 52) (by decide +kernel))) rfl, List.forall_mem_cons.mpr ⟨mW (mT1 (List.mem_of_getElem? (i := 54) (by decide +kernel))) rfl, List.forall_mem_cons.mpr ⟨mW (mT1 (List.mem_of_getElem? (i := 56) (by decide +kernel))) rfl, List.forall_mem_cons.mpr ⟨mW (mT1 (List.mem_of_getElem? (i := 58) (by decide +kernel))) rfl, List.forall_mem_cons.mpr ⟨mW (mT1 (List.mem_of_getElem? (i := 60) (by decide +kernel))) rfl, fun _ h => absurd h List.not_mem_nil⟩⟩⟩⟩⟩⟩
theorem fq_X8_9 : FLP RX8 9 8 0 := ⟨⟨RX8, TX8, 6, rfl, by decide, inl8, mW (mT1 (List.mem_of_getElem? (i := 44) (by decide +kernel))) rfl⟩, by decide, by decide +kernel⟩
theorem ft8 : FT 8 := ⟨RX8, TX8, 6, tyX8, rfl, tyX8_ok, nmX8⟩
theorem fr8_0 : FPR 8 0 RX8 := ⟨ft8, (RX8, TX8, 6), rfl, by decide +kernel, rfl, fun ty h a => by rw [tyX8_ok 0 (by decide)] at h; cases h; exact ⟨rfl, rfl⟩⟩
theorem fq_X8_13 : FLP RX8 13 8 1 := ⟨⟨RX8, TX8, 6, rfl, by decide, inl8, mW (mT1 (List.mem_of_getElem? (i := 45) (by decide +kernel))) rfl⟩, by decide, by decide +kernel⟩
theorem fr8_1 : FPR 8 1 RX8 := ⟨ft8, (RX8, TX8, 6), rfl, by decide +kernel, rfl, fun ty h a => by rw [tyX8_ok 1 (by decide)] at h; cases h; exact ⟨rfl, rfl⟩⟩
theorem fq_X8_16 : FLP RX8 16 8 2 := ⟨⟨RX8, TX8, 6, rfl, by decide, inl8, mW (mT1 (List.mem_of_getElem? (i := 46) (by decide +kernel))) rfl⟩, by decide, by decide +kernel⟩
theorem fr8_2 : FPR 8 2 RX8 := ⟨ft8, (RX8, TX8, 6), rfl, by decide +kernel, rfl, fun ty h a => by rw [tyX8_ok 2 (by decide)] at h; cases h; exact ⟨rfl, rfl⟩⟩
theorem cw_X8_19 : Cond.classLink RX8 19 "KeyMatrix$Word" ∈ wl := mW (mT1 (List.mem_of_getElem? (i := 42) (by decide +kernel))) rfl
theorem fq_X8_21 : FLP RX8 21 8 3 := ⟨⟨RX8, TX8, 6, rfl, by decide, inl8, mW (mT1 (List.mem_of_getElem? (i := 47) (by decide +kernel))) rfl⟩, by decide, by decide +kernel⟩
theorem fr8_3 : FPR 8 3 RX8 := ⟨ft8, (RX8, TX8, 6), rfl, by decide +kernel, rfl, fun ty h a => by rw [tyX8_ok 3 (by decide)] at h; cases h; exact ⟨rfl, rfl⟩⟩
theorem dX8_init_0 : decode cX8_init 0 = .ok (.aload_n 0, 1) := by decide +kernel
theorem dX8_init_1 : decode cX8_init 1 = .ok (.invokespecial 1, 3) := by decide +kernel
theorem dX8_init_4 : decode cX8_init 4 = .ok (.aload_n 0, 1) := by decide +kernel
theorem dX8_init_5 : decode cX8_init 5 = .ok (.sipush 401, 3) := by decide +kernel
theorem dX8_init_8 : decode cX8_init 8 = .ok (.newarray .int, 2) := by decide +kernel
theorem dX8_init_10 : decode cX8_init 10 = .ok (.putfield 9, 3) := by decide +kernel
theorem dX8_init_13 : decode cX8_init 13 = .ok (.aload_n 0, 1) := by decide +kernel
theorem dX8_init_14 : decode cX8_init 14 = .ok (.sipush 401, 3) := by decide +kernel
theorem dX8_init_17 : decode cX8_init 17 = .ok (.newarray .int, 2) := by decide +kernel
theorem dX8_init_19 : decode cX8_init 19 = .ok (.putfield 13, 3) := by decide +kernel
theorem dX8_init_22 : decode cX8_init 22 = .ok (.aload_n 0, 1) := by decide +kernel
theorem dX8_init_23 : decode cX8_init 23 = .ok (.sipush 401, 3) := by decide +kernel
theorem dX8_init_26 : decode cX8_init 26 = .ok (.newarray .int, 2) := by decide +kernel
theorem dX8_init_28 : decode cX8_init 28 = .ok (.putfield 16, 3) := by decide +kernel
theorem dX8_init_31 : decode cX8_init 31 = .ok (.aload_n 0, 1) := by decide +kernel
theorem dX8_init_32 : decode cX8_init 32 = .ok (.sipush 401, 3) := by decide +kernel
theorem dX8_init_35 : decode cX8_init 35 = .ok (.anewarray 19, 3) := by decide +kernel
theorem dX8_init_38 : decode cX8_init 38 = .ok (.putfield 21, 3) := by decide +kernel
theorem dX8_init_41 : decode cX8_init 41 = .ok (.return_, 1) := by decide +kernel
def rmX8_init : Room := { frames := 1, cells := 4, slots := 1604, locals := 20 }
set_option maxRecDepth 100000 in
def fX8_init_E (N : Nat) (x0 : Nat) (n0 s0 : Nat) (g : Gs) (d : Ds) : Option (Gs × Ds) := gd (¬ (401 : Int32) < 0) <| gd ((401 : Int32).toNatClampNeg ≤ 60000000) <| gd (gN g < 100000) <| gd (gN g + 1 - n0 ≤ 4 ∧ gS g + (401 : Int32).toNatClampNeg - s0 ≤ 1604) <| bd (nG g 102 (401 : Int32).toNatClampNeg (401 : Int32).toNatClampNeg) fun g5 => (bd (nD g d) fun d6 => (bd (gN g) fun r7 => (gd (chk g5 x0 8) <| bd (sR g5 x0 0 r7) fun g10 => (gd (gN g10 < 100000) <| gd (gN g10 + 1 - n0 ≤ 4 ∧ gS g10 + (401 : Int32).toNatClampNeg - s0 ≤ 1604) <| bd (nG g10 102 (401 : Int32).toNatClampNeg (401 : Int32).toNatClampNeg) fun g14 => (bd (nD g10 d6) fun d15 => (bd (gN g10) fun r16 => (gd (chk g14 x0 8) <| bd (sR g14 x0 1 r16) fun g19 => (gd (gN g19 < 100000) <| gd (gN g19 + 1 - n0 ≤ 4 ∧ gS g19 + (401 : Int32).toNatClampNeg - s0 ≤ 1604) <| bd (nG g19 102 (401 : Int32).toNatClampNeg (401 : Int32).toNatClampNeg) fun g23 => (bd (nD g19 d15) fun d24 => (bd (gN g19) fun r25 => (gd (chk g23 x0 8) <| bd (sR g23 x0 2 r25) fun g28 => (gd (gN g28 < 100000) <| gd (gN g28 + 1 - n0 ≤ 4 ∧ gS g28 + (401 : Int32).toNatClampNeg - s0 ≤ 1604) <| bd (nG g28 107 (401 : Int32).toNatClampNeg (401 : Int32).toNatClampNeg) fun g32 => (bd (nD g28 d24) fun d33 => (bd (gN g28) fun r34 => (gd (chk g32 x0 8) <| bd (sR g32 x0 3 r34) fun g37 => (gd (gN g37 = n0 + 4 ∧ gS g37 = s0 + 1604) <| some (g37, d33)))))))))))))))))
def fX8_init (N : Nat) (x0 : Nat) (g : Gs) (d : Ds) : Option (Gs × Ds) := fX8_init_E N x0 (gN g) (gS g) g d
set_option maxHeartbeats 4000000 in
set_option maxRecDepth 100000 in
theorem tX8_init_E {p : Program} {l : Launch} {e : Env} {s : State} {m : MethodId} {args : Array Value} {below : List Frame} {meth : Method} {c : Code} {D : va_G} {cy : Nat → ClassId} {B : Bs} (C : Cx p s m args c cX8_init 1 RX8 D cy B) (hr : meth.sig.returnType = none) (hlocks : meth.locks = false) (hin : meth.name = "<init>") {n0 s0 : Nat} (hz : s.heap.size = B.1 + n0) {N : Nat} {x0 : Nat} {gz : Gs} {dz : Ds} {g : Gs} {d : Ds} (hn : n0 ≤ gN g) (hs : s0 ≤ gS g) (hf : fX8_init_E N x0 n0 s0 g d = some (gz, dz)) : WB p l e rmX8_init s m args below meth c 1 D cy B (gN g - n0) (gS g - s0) (MQ below (QV D cy B gz dz) args s 4 1604 (wA B)) g d [(0, .ref (ad B x0))] 0 [] := by
  unfold fX8_init_E at hf
  refine b_aload_n C dX8_init_0 0 rfl rfl ?_
  refine b_objInit C oi_X8_1 oi_i oi_c (by decide) (by decide) dX8_init_1 ?_
  refine b_aload_n C dX8_init_4 0 rfl rfl ?_
  refine b_sipush C (v := 401) dX8_init_5 (by decide) ?_
  obtain ⟨h1, hf⟩ := gd_s hf
  obtain ⟨h2, hf⟩ := gd_s hf
  obtain ⟨h3, hf⟩ := gd_s hf
  obtain ⟨h4, hf⟩ := gd_s hf
  obtain ⟨g5, eg5, hf⟩ := bd_s hf
  obtain ⟨d6, ed6, hf⟩ := bd_s hf
  obtain ⟨r7, er7, hf⟩ := bd_s hf
  refine b_newaI C dX8_init_8 ar_int hz hn hs h3 h1 h2 h4 eg5 ed6 (fun hn8 hn8s => ?_)
  refine b_topR er7 ?_
  obtain ⟨h9, hf⟩ := gd_s hf
  obtain ⟨g10, eg10, hf⟩ := bd_s hf
  refine b_pRC C dX8_init_10 fq_X8_9 fr8_0 hin h9 eg10 ?_
  have hn11 : n0 ≤ gN g10 := by rw [eg10]; exact hn8
  have hn11s : s0 ≤ gS g10 := by rw [eg10]; exact hn8s
  refine b_aload_n C dX8_init_13 0 rfl rfl ?_
  refine b_sipush C (v := 401) dX8_init_14 (by decide) ?_
  obtain ⟨h12, hf⟩ := gd_s hf
  obtain ⟨h13, hf⟩ := gd_s hf
  obtain ⟨g14, eg14, hf⟩ := bd_s hf
  obtain ⟨d15, ed15, hf⟩ := bd_s hf
  obtain ⟨r16, er16, hf⟩ := bd_s hf
  refine b_newaI C dX8_init_17 ar_int hz hn11 hn11s h12 h1 h2 h13 eg14 ed15 (fun hn17 hn17s => ?_)
  refine b_topR er16 ?_
  obtain ⟨h18, hf⟩ := gd_s hf
  obtain ⟨g19, eg19, hf⟩ := bd_s hf
  refine b_pRC C dX8_init_19 fq_X8_13 fr8_1 hin h18 eg19 ?_
  have hn20 : n0 ≤ gN g19 := by rw [eg19]; exact hn17
  have hn20s : s0 ≤ gS g19 := by rw [eg19]; exact hn17s
  refine b_aload_n C dX8_init_22 0 rfl rfl ?_
  refine b_sipush C (v := 401) dX8_init_23 (by decide) ?_
  obtain ⟨h21, hf⟩ := gd_s hf
  obtain ⟨h22, hf⟩ := gd_s hf
  obtain ⟨g23, eg23, hf⟩ := bd_s hf
  obtain ⟨d24, ed24, hf⟩ := bd_s hf
  obtain ⟨r25, er25, hf⟩ := bd_s hf
  refine b_newaI C dX8_init_26 ar_int hz hn20 hn20s h21 h1 h2 h22 eg23 ed24 (fun hn26 hn26s => ?_)
  refine b_topR er25 ?_
  obtain ⟨h27, hf⟩ := gd_s hf
  obtain ⟨g28, eg28, hf⟩ := bd_s hf
  refine b_pRC C dX8_init_28 fq_X8_16 fr8_2 hin h27 eg28 ?_
  have hn29 : n0 ≤ gN g28 := by rw [eg28]; exact hn26
  have hn29s : s0 ≤ gS g28 := by rw [eg28]; exact hn26s
  refine b_aload_n C dX8_init_31 0 rfl rfl ?_
  refine b_sipush C (v := 401) dX8_init_32 (by decide) ?_
  obtain ⟨h30, hf⟩ := gd_s hf
  obtain ⟨h31, hf⟩ := gd_s hf
  obtain ⟨g32, eg32, hf⟩ := bd_s hf
  obtain ⟨d33, ed33, hf⟩ := bd_s hf
  obtain ⟨r34, er34, hf⟩ := bd_s hf
  refine b_newqW C dX8_init_35 cw_X8_19 hz hn29 hn29s h30 h1 h2 h31 eg32 ed33 (fun hn35 hn35s => ?_)
  refine b_topR er34 ?_
  obtain ⟨h36, hf⟩ := gd_s hf
  obtain ⟨g37, eg37, hf⟩ := bd_s hf
  refine b_pRC C dX8_init_38 fq_X8_21 fr8_3 hin h36 eg37 ?_
  have hn38 : n0 ≤ gN g37 := by rw [eg37]; exact hn35
  have hn38s : s0 ≤ gS g37 := by rw [eg37]; exact hn35s
  obtain ⟨h39, hf⟩ := gd_s hf
  exact b_vretC C hr hlocks h39 hf dX8_init_41
theorem kX8_init (l : Launch) (D : va_G) (cy : Nat → ClassId) (B : Bs) {N : Nat} {g : Gs} {x0 : Nat} {gz : Gs} {dz : Ds} {d : Ds} (hf : fX8_init N x0 g d = some (gz, dz)) : Met l yX8_init (.code yX8_init cX8_init 1 none :: wl) rmX8_init (PCC D cy B [.ref (ad B x0)] g d) (QV D cy B gz dz) 4 1604 (wA B) :=
  met_ofC (by decide +kernel) (Nat.le_of_ble_eq_true rfl) (fun p e s m args below meth c C hr hlocks hin hz => b_sub [(0, .ref (ad B x0))] [0] rfl (tX8_init_E C hr hlocks hin hz (Nat.le_refl _) (Nat.le_refl _) hf))
/-! KeyMatrix$TextReader.<init>()V -/
theorem oi_X7_3 : Cond.methodLink RX7 3 objectInit ∈ wl := mW (mT1 (List.mem_of_getElem? (i := 35) (by decide +kernel))) rfl
theorem df8 : ∀ j, j < 6 → defaultValue (tyX8 j) = if fR 8 j then .null else .int 0 := by
  intro j hj
  rcases (show j = 0 ∨ j = 1 ∨ j = 2 ∨ j = 3 ∨ j = 4 ∨ j = 5 by omega) with rfl | rfl | rfl | rfl | rfl | rfl
  · rw [show fR 8 0 = true by decide +kernel]; rfl
  · rw [show fR 8 1 = true by decide +kernel]; rfl
  · rw [show fR 8 2 = true by decide +kernel]; rfl
  · rw [show fR 8 3 = true by decide +kernel]; rfl
  · rw [show fR 8 4 = false by decide +kernel]; rfl
  · rw [show fR 8 5 = false by decide +kernel]; rfl
theorem ic8 : Cond.instantiable RX8 6 ∈ wl := mW (mT1 (List.mem_of_getElem? (i := 37) (by decide +kernel))) rfl
theorem ii8 : Cond.initialized RX8 ∈ wl := mW (mT1 (List.mem_of_getElem? (i := 3) (by decide +kernel))) rfl
theorem nw_X7_9 : FNW RX7 9 8 6 := ⟨RX8, TX8, tyX8, rfl, by decide, inl8, tyX8_ok, mW (mT1 (List.mem_of_getElem? (i := 36) (by decide +kernel))) rfl, ic8, ii8, df8⟩
theorem yo_X8_init : yX8_init.cls ≠ "java/lang/invoke/MethodHandle" ∧ yX8_init.cls ≠ "java/lang/invoke/VarHandle" ∧ (parseMethodDescriptor yX8_init.desc).map (fun d => d.parameters.length) = some 0 := by decide +kernel
theorem co_X8_init : Cond.code yX8_init cX8_init 1 none ∈ wl := mW (mT1 (List.mem_of_getElem? (i := 40) (by decide +kernel))) rfl
theorem in_X8_init : Cond.initialized yX8_init.cls ∈ wl := mW (mT1 (List.mem_of_getElem? (i := 3) (by decide +kernel))) rfl
theorem im_X8_init : Cond.instanceMethod yX8_init ∈ wl := mW (mT1 (List.mem_of_getElem? (i := 39) (by decide +kernel))) rfl
theorem lv_X7_11 : LCo RX7 11 yX8_init cX8_init 1 0 := ⟨rfl, yo_X8_init, Or.inr (mT1 (List.mem_of_getElem? (i := 38) (by decide +kernel))), im_X8_init, in_X8_init, co_X8_init⟩
theorem inl7 : ∀ w ∈ u_ws RX7 TX7 10, w ∈ wl := by
  have h0 : u_ws RX7 TX7 10 = [Cond.laysFinal "KeyMatrix$TextReader" "KeyMatrix$TextReader" "tokens" "LKeyMatrix$Tokens;", Cond.laysFinal "KeyMatrix$TextReader" "KeyMatrix$TextReader" "told" "LKeyMatrix$Deed;", Cond.laysFinal "KeyMatrix$TextReader" "KeyMatrix$TextReader" "draft" "LKeyMatrix$Board;", Cond.lays "KeyMatrix$TextReader" "KeyMatrix$TextReader" "at" "I", Cond.lays "KeyMatrix$TextReader" "KeyMatrix$TextReader" "number" "I", Cond.lays "KeyMatrix$TextReader" "KeyMatrix$TextReader" "fault" "I", Cond.lays "KeyMatrix$TextReader" "KeyMatrix$TextReader" "faultToken" "I", Cond.lays "KeyMatrix$TextReader" "KeyMatrix$TextReader" "faultPlace" "I", Cond.lays "KeyMatrix$TextReader" "KeyMatrix$TextReader" "laterFault" "I", Cond.lays "KeyMatrix$TextReader" "KeyMatrix$TextReader" "laterToken" "I"] := by decide +kernel
  rw [h0]
  exact List.forall_mem_cons.mpr ⟨mW (mT1 (List.mem_of_getElem? (i := 217) (by decide +kernel))) rfl, List.forall_mem_cons.mpr ⟨mW (mT1 (List.mem_of_getElem? (i := 219) (by decide +kernel))) rfl, List.forall_mem_cons.mpr ⟨mW (mT1 (List.mem_of_getElem? (i := 221) (by decide +kernel))) rfl, List.forall_mem_cons.mpr ⟨mW (mT1 (List.mem_of_getElem? (i := 223) (by decide +kernel))) rfl, List.forall_mem_cons.mpr ⟨mW (mT1 (List.mem_of_getElem? (i := 225) (by decide +kernel))) rfl, List.forall_mem_cons.mpr ⟨mW (mT1 (List.mem_of_getElem? (i := 227) (by decide +kernel))) rfl, List.forall_mem_cons.mpr ⟨mW (mT1 (List.mem_of_getElem? (i := 229) (by decide +kernel))) rfl, List.forall_mem_cons.mpr ⟨mW (mT1 (List.mem_of_getElem? (i := 231) (by decide +kernel))) rfl, List.forall_mem_cons.mpr ⟨mW (mT1 (List.mem_of_getElem? (i := 233) (by decide +kernel))) rfl, List.forall_mem_cons.mpr ⟨mW (mT1 (List.mem_of_getElem? (i := 235) (by decide +kernel))) rfl, fun _ h => absurd h List.not_mem_nil⟩⟩⟩⟩⟩⟩⟩⟩⟩⟩
theorem fq_X7_12 : FLP RX7 12 7 0 := ⟨⟨RX7, TX7, 10, rfl, by decide, inl7, mW (mT1 (List.mem_of_getElem? (i := 205) (by decide +kernel))) rfl⟩, by decide, by decide +kernel⟩
theorem ft7 : FT 7 := ⟨RX7, TX7, 10, tyX7, rfl, tyX7_ok, nmX7⟩
theorem fr7_0 : FPR 7 0 RX7 := ⟨ft7, (RX7, TX7, 10), rfl, by decide +kernel, rfl, fun ty h a => by rw [tyX7_ok 0 (by decide)] at h; cases h; exact ⟨rfl, rfl⟩⟩
theorem nw_X7_18 : FNW RX7 18 2 3 := ⟨RX2, TX2, tyX2, rfl, by decide, inl2, tyX2_ok, mW (mT1 (List.mem_of_getElem? (i := 65) (by decide +kernel))) rfl, ic2, ii2, df2⟩
theorem lv_X7_20 : LCo RX7 20 yX2_init cX2_init 1 0 := ⟨rfl, yo_X2_init, Or.inr (mT1 (List.mem_of_getElem? (i := 67) (by decide +kernel))), im_X2_init, in_X2_init, co_X2_init⟩
theorem fq_X7_21 : FLP RX7 21 7 1 := ⟨⟨RX7, TX7, 10, rfl, by decide, inl7, mW (mT1 (List.mem_of_getElem? (i := 206) (by decide +kernel))) rfl⟩, by decide, by decide +kernel⟩
theorem fr7_1 : FPR 7 1 RX7 := ⟨ft7, (RX7, TX7, 10), rfl, by decide +kernel, rfl, fun ty h a => by rw [tyX7_ok 1 (by decide)] at h; cases h; exact ⟨rfl, rfl⟩⟩
theorem df0 : ∀ j, j < 19 → defaultValue (tyX0 j) = if fR 0 j then .null else .int 0 := by
  intro j hj
  rcases (show j = 0 ∨ j = 1 ∨ j = 2 ∨ j = 3 ∨ j = 4 ∨ j = 5 ∨ j = 6 ∨ j = 7 ∨ j = 8 ∨ j = 9 ∨ j = 10 ∨ j = 11 ∨ j = 12 ∨ j = 13 ∨ j = 14 ∨ j = 15 ∨ j = 16 ∨ j = 17 ∨ j = 18 by omega) with rfl | rfl | rfl | rfl | rfl | rfl | rfl | rfl | rfl | rfl | rfl | rfl | rfl | rfl | rfl | rfl | rfl | rfl | rfl
  · rw [show fR 0 0 = false by decide +kernel]; rfl
  · rw [show fR 0 1 = false by decide +kernel]; rfl
  · rw [show fR 0 2 = false by decide +kernel]; rfl
  · rw [show fR 0 3 = false by decide +kernel]; rfl
  · rw [show fR 0 4 = false by decide +kernel]; rfl
  · rw [show fR 0 5 = false by decide +kernel]; rfl
  · rw [show fR 0 6 = false by decide +kernel]; rfl
  · rw [show fR 0 7 = false by decide +kernel]; rfl
  · rw [show fR 0 8 = false by decide +kernel]; rfl
  · rw [show fR 0 9 = false by decide +kernel]; rfl
  · rw [show fR 0 10 = true by decide +kernel]; rfl
  · rw [show fR 0 11 = true by decide +kernel]; rfl
  · rw [show fR 0 12 = false by decide +kernel]; rfl
  · rw [show fR 0 13 = true by decide +kernel]; rfl
  · rw [show fR 0 14 = true by decide +kernel]; rfl
  · rw [show fR 0 15 = true by decide +kernel]; rfl
  · rw [show fR 0 16 = false by decide +kernel]; rfl
  · rw [show fR 0 17 = true by decide +kernel]; rfl
  · rw [show fR 0 18 = true by decide +kernel]; rfl
theorem ic0 : Cond.instantiable RX0 19 ∈ wl := mW (mT1 (List.mem_of_getElem? (i := 92) (by decide +kernel))) rfl
theorem ii0 : Cond.initialized RX0 ∈ wl := mW (mT1 (List.mem_of_getElem? (i := 5) (by decide +kernel))) rfl
theorem nw_X7_25 : FNW RX7 25 0 19 := ⟨RX0, TX0, tyX0, rfl, by decide, inl0, tyX0_ok, mW (mT1 (List.mem_of_getElem? (i := 91) (by decide +kernel))) rfl, ic0, ii0, df0⟩
theorem yo_X0_init : yX0_init.cls ≠ "java/lang/invoke/MethodHandle" ∧ yX0_init.cls ≠ "java/lang/invoke/VarHandle" ∧ (parseMethodDescriptor yX0_init.desc).map (fun d => d.parameters.length) = some 0 := by decide +kernel
theorem co_X0_init : Cond.code yX0_init cX0_init 2 none ∈ wl := mW (mT1 (List.mem_of_getElem? (i := 95) (by decide +kernel))) rfl
theorem in_X0_init : Cond.initialized yX0_init.cls ∈ wl := mW (mT1 (List.mem_of_getElem? (i := 5) (by decide +kernel))) rfl
theorem im_X0_init : Cond.instanceMethod yX0_init ∈ wl := mW (mT1 (List.mem_of_getElem? (i := 94) (by decide +kernel))) rfl
theorem lv_X7_27 : LCo RX7 27 yX0_init cX0_init 2 0 := ⟨rfl, yo_X0_init, Or.inl (mW (mT1 (List.mem_of_getElem? (i := 93) (by decide +kernel))) rfl), im_X0_init, in_X0_init, co_X0_init⟩
theorem fq_X7_28 : FLP RX7 28 7 2 := ⟨⟨RX7, TX7, 10, rfl, by decide, inl7, mW (mT1 (List.mem_of_getElem? (i := 207) (by decide +kernel))) rfl⟩, by decide, by decide +kernel⟩
theorem fr7_2 : FPR 7 2 RX7 := ⟨ft7, (RX7, TX7, 10), rfl, by decide +kernel, rfl, fun ty h a => by rw [tyX7_ok 2 (by decide)] at h; cases h; exact ⟨rfl, rfl⟩⟩
theorem dX7_init_0 : decode cX7_init 0 = .ok (.aload_n 0, 1) := by decide +kernel
theorem dX7_init_1 : decode cX7_init 1 = .ok (.invokespecial 3, 3) := by decide +kernel
theorem dX7_init_4 : decode cX7_init 4 = .ok (.aload_n 0, 1) := by decide +kernel
theorem dX7_init_5 : decode cX7_init 5 = .ok (.new 9, 3) := by decide +kernel
theorem dX7_init_8 : decode cX7_init 8 = .ok (.dup, 1) := by decide +kernel
theorem dX7_init_9 : decode cX7_init 9 = .ok (.invokespecial 11, 3) := by decide +kernel
theorem dX7_init_12 : decode cX7_init 12 = .ok (.putfield 12, 3) := by decide +kernel
theorem dX7_init_15 : decode cX7_init 15 = .ok (.aload_n 0, 1) := by decide +kernel
theorem dX7_init_16 : decode cX7_init 16 = .ok (.new 18, 3) := by decide +kernel
theorem dX7_init_19 : decode cX7_init 19 = .ok (.dup, 1) := by decide +kernel
theorem dX7_init_20 : decode cX7_init 20 = .ok (.invokespecial 20, 3) := by decide +kernel
theorem dX7_init_23 : decode cX7_init 23 = .ok (.putfield 21, 3) := by decide +kernel
theorem dX7_init_26 : decode cX7_init 26 = .ok (.aload_n 0, 1) := by decide +kernel
theorem dX7_init_27 : decode cX7_init 27 = .ok (.new 25, 3) := by decide +kernel
theorem dX7_init_30 : decode cX7_init 30 = .ok (.dup, 1) := by decide +kernel
theorem dX7_init_31 : decode cX7_init 31 = .ok (.invokespecial 27, 3) := by decide +kernel
theorem dX7_init_34 : decode cX7_init 34 = .ok (.putfield 28, 3) := by decide +kernel
theorem dX7_init_37 : decode cX7_init 37 = .ok (.return_, 1) := by decide +kernel
def rmX7_init : Room := { frames := 3, cells := 114, slots := 2079, locals := 65 }
set_option maxRecDepth 100000 in
def fX7_init_E (N : Nat) (x0 : Nat) (n0 s0 : Nat) (g : Gs) (d : Ds) : Option (Gs × Ds) := gd (gN g < 100000) <| gd (gN g + 1 - n0 ≤ 114 ∧ gS g + 6 - s0 ≤ 2079) <| bd (nG g 8 0 6) fun g3 => (bd (nD g d) fun d4 => (bd (gN g) fun r5 => (gd (0 < gN g3) <| cb (fX8_init N r5 g3 d4) fun g8 d9 => (gd (gN g8 = gN g3 + 4 ∧ gS g8 = gS g3 + 1604) <| gd (gN g8 - n0 ≤ 114 ∧ gS g8 - s0 ≤ 2079) <| gd (chk g8 x0 7) <| bd (sR g8 x0 0 r5) fun g15 => (gd (gN g15 < 100000) <| gd (gN g15 + 1 - n0 ≤ 114 ∧ gS g15 + 3 - s0 ≤ 2079) <| bd (nG g15 2 0 3) fun g19 => (bd (nD g15 d9) fun d20 => (bd (gN g15) fun r21 => (gd (0 < gN g19) <| cb (fX2_init N r21 g19 d20) fun g24 d25 => (gd (gN g24 = gN g19 + 0 ∧ gS g24 = gS g19 + 0) <| gd (gN g24 - n0 ≤ 114 ∧ gS g24 - s0 ≤ 2079) <| gd (chk g24 x0 7) <| bd (sR g24 x0 1 r21) fun g31 => (gd (gN g31 < 100000) <| gd (gN g31 + 1 - n0 ≤ 114 ∧ gS g31 + 19 - s0 ≤ 2079) <| bd (nG g31 0 0 19) fun g35 => (bd (nD g31 d25) fun d36 => (bd (gN g31) fun r37 => (gd (0 < gN g35) <| cb (fX0_init N r37 g35 d36) fun g40 d41 => (gd (gN g40 = gN g35 + 107 ∧ gS g40 = gS g35 + 447) <| gd (gN g40 - n0 ≤ 114 ∧ gS g40 - s0 ≤ 2079) <| gd (chk g40 x0 7) <| bd (sR g40 x0 2 r37) fun g47 => (gd (gN g47 = n0 + 114 ∧ gS g47 = s0 + 2079) <| some (g47, d41))))))))))))))))
def fX7_init (N : Nat) (x0 : Nat) (g : Gs) (d : Ds) : Option (Gs × Ds) := fX7_init_E N x0 (gN g) (gS g) g d
set_option maxHeartbeats 4000000 in
set_option maxRecDepth 100000 in
theorem tX7_init_E {p : Program} {l : Launch} {e : Env} {s : State} {m : MethodId} {args : Array Value} {below : List Frame} {meth : Method} {c : Code} {D : va_G} {cy : Nat → ClassId} {B : Bs} (C : Cx p s m args c cX7_init 1 RX7 D cy B) (hr : meth.sig.returnType = none) (hlocks : meth.locks = false) (hin : meth.name = "<init>") {n0 s0 : Nat} (hz : s.heap.size = B.1 + n0) {N : Nat} {x0 : Nat} {gz : Gs} {dz : Ds} {g : Gs} {d : Ds} (hn : n0 ≤ gN g) (hs : s0 ≤ gS g) (hf : fX7_init_E N x0 n0 s0 g d = some (gz, dz)) : WB p l e rmX7_init s m args below meth c 1 D cy B (gN g - n0) (gS g - s0) (MQ below (QV D cy B gz dz) args s 114 2079 (wA B)) g d [(0, .ref (ad B x0))] 0 [] := by
  unfold fX7_init_E at hf
  refine b_aload_n C dX7_init_0 0 rfl rfl ?_
  refine b_objInit C oi_X7_3 oi_i oi_c (by decide) (by decide) dX7_init_1 ?_
  refine b_aload_n C dX7_init_4 0 rfl rfl ?_
  obtain ⟨h1, hf⟩ := gd_s hf
  obtain ⟨h2, hf⟩ := gd_s hf
  obtain ⟨g3, eg3, hf⟩ := bd_s hf
  obtain ⟨d4, ed4, hf⟩ := bd_s hf
  obtain ⟨r5, er5, hf⟩ := bd_s hf
  refine b_new C dX7_init_5 nw_X7_9 hz hn hs h1 h2 eg3 ed4 (fun hn6 hn6s => ?_)
  refine b_topR er5 ?_
  refine b_dup C dX7_init_8 rfl ?_
  obtain ⟨h7, hf⟩ := gd_s hf
  obtain ⟨g8, d9, k10, hf⟩ := cb_s hf
  obtain ⟨h12, hf⟩ := gd_s hf
  obtain ⟨h13, hf⟩ := gd_s hf
  refine b_callC C [.ref (ad B r5), .ref (ad B x0)] dX7_init_9 (kX8_init l D cy B k10) lv_X7_11 ⟨rfl, rfl, Nat.le_of_ble_eq_true rfl, Nat.le_of_ble_eq_true rfl⟩ rfl (Nat.le_of_ble_eq_true rfl) hz hn6 hn6s h7 h12 h13 rfl (fun hn11 hn11s => ?_)
  obtain ⟨h14, hf⟩ := gd_s hf
  obtain ⟨g15, eg15, hf⟩ := bd_s hf
  refine b_pRC C dX7_init_12 fq_X7_12 fr7_0 hin h14 eg15 ?_
  have hn16 : n0 ≤ gN g15 := by rw [eg15]; exact hn11
  have hn16s : s0 ≤ gS g15 := by rw [eg15]; exact hn11s
  refine b_aload_n C dX7_init_15 0 rfl rfl ?_
  obtain ⟨h17, hf⟩ := gd_s hf
  obtain ⟨h18, hf⟩ := gd_s hf
  obtain ⟨g19, eg19, hf⟩ := bd_s hf
  obtain ⟨d20, ed20, hf⟩ := bd_s hf
  obtain ⟨r21, er21, hf⟩ := bd_s hf
  refine b_new C dX7_init_16 nw_X7_18 hz hn16 hn16s h17 h18 eg19 ed20 (fun hn22 hn22s => ?_)
  refine b_topR er21 ?_
  refine b_dup C dX7_init_19 rfl ?_
  obtain ⟨h23, hf⟩ := gd_s hf
  obtain ⟨g24, d25, k26, hf⟩ := cb_s hf
  obtain ⟨h28, hf⟩ := gd_s hf
  obtain ⟨h29, hf⟩ := gd_s hf
  refine b_callC C [.ref (ad B r21), .ref (ad B x0)] dX7_init_20 (kX2_init l D cy B k26) lv_X7_20 ⟨rfl, rfl, Nat.le_of_ble_eq_true rfl, Nat.le_of_ble_eq_true rfl⟩ rfl (Nat.le_of_ble_eq_true rfl) hz hn22 hn22s h23 h28 h29 rfl (fun hn27 hn27s => ?_)
  obtain ⟨h30, hf⟩ := gd_s hf
  obtain ⟨g31, eg31, hf⟩ := bd_s hf
  refine b_pRC C dX7_init_23 fq_X7_21 fr7_1 hin h30 eg31 ?_
  have hn32 : n0 ≤ gN g31 := by rw [eg31]; exact hn27
  have hn32s : s0 ≤ gS g31 := by rw [eg31]; exact hn27s
  refine b_aload_n C dX7_init_26 0 rfl rfl ?_
  obtain ⟨h33, hf⟩ := gd_s hf
  obtain ⟨h34, hf⟩ := gd_s hf
  obtain ⟨g35, eg35, hf⟩ := bd_s hf
  obtain ⟨d36, ed36, hf⟩ := bd_s hf
  obtain ⟨r37, er37, hf⟩ := bd_s hf
  refine b_new C dX7_init_27 nw_X7_25 hz hn32 hn32s h33 h34 eg35 ed36 (fun hn38 hn38s => ?_)
  refine b_topR er37 ?_
  refine b_dup C dX7_init_30 rfl ?_
  obtain ⟨h39, hf⟩ := gd_s hf
  obtain ⟨g40, d41, k42, hf⟩ := cb_s hf
  obtain ⟨h44, hf⟩ := gd_s hf
  obtain ⟨h45, hf⟩ := gd_s hf
  refine b_callC C [.ref (ad B r37), .ref (ad B x0)] dX7_init_31 (kX0_init l D cy B k42) lv_X7_27 ⟨rfl, rfl, Nat.le_of_ble_eq_true rfl, Nat.le_of_ble_eq_true rfl⟩ rfl (Nat.le_of_ble_eq_true rfl) hz hn38 hn38s h39 h44 h45 rfl (fun hn43 hn43s => ?_)
  obtain ⟨h46, hf⟩ := gd_s hf
  obtain ⟨g47, eg47, hf⟩ := bd_s hf
  refine b_pRC C dX7_init_34 fq_X7_28 fr7_2 hin h46 eg47 ?_
  have hn48 : n0 ≤ gN g47 := by rw [eg47]; exact hn43
  have hn48s : s0 ≤ gS g47 := by rw [eg47]; exact hn43s
  obtain ⟨h49, hf⟩ := gd_s hf
  exact b_vretC C hr hlocks h49 hf dX7_init_37
theorem kX7_init (l : Launch) (D : va_G) (cy : Nat → ClassId) (B : Bs) {N : Nat} {g : Gs} {x0 : Nat} {gz : Gs} {dz : Ds} {d : Ds} (hf : fX7_init N x0 g d = some (gz, dz)) : Met l yX7_init (.code yX7_init cX7_init 1 none :: wl) rmX7_init (PCC D cy B [.ref (ad B x0)] g d) (QV D cy B gz dz) 114 2079 (wA B) :=
  met_ofC (by decide +kernel) (Nat.le_of_ble_eq_true rfl) (fun p e s m args below meth c C hr hlocks hin hz => b_sub [(0, .ref (ad B x0))] [0] rfl (tX7_init_E C hr hlocks hin hz (Nat.le_refl _) (Nat.le_refl _) hf))
/-! KeyMatrix$Tokens.skipBlanks([BI)I -/
theorem fl_X8_29 : FLI RX8 29 8 5 := ⟨⟨RX8, TX8, 6, rfl, by decide, inl8, Or.inl (mW (mT1 (List.mem_of_getElem? (i := 49) (by decide +kernel))) rfl)⟩, by decide, by decide +kernel⟩
theorem dX8_skipBlanks_0 : decode cX8_skipBlanks 0 = .ok (.iload_n 2, 1) := by decide +kernel
theorem dX8_skipBlanks_1 : decode cX8_skipBlanks 1 = .ok (.istore_n 3, 1) := by decide +kernel
theorem dX8_skipBlanks_2 : decode cX8_skipBlanks 2 = .ok (.iload_n 3, 1) := by decide +kernel
theorem dX8_skipBlanks_3 : decode cX8_skipBlanks 3 = .ok (.aload_n 0, 1) := by decide +kernel
theorem dX8_skipBlanks_4 : decode cX8_skipBlanks 4 = .ok (.getfield 29, 3) := by decide +kernel
theorem dX8_skipBlanks_7 : decode cX8_skipBlanks 7 = .ok (.if_icmp .ge 41, 3) := by decide +kernel
theorem dX8_skipBlanks_10 : decode cX8_skipBlanks 10 = .ok (.aload_n 1, 1) := by decide +kernel
theorem dX8_skipBlanks_11 : decode cX8_skipBlanks 11 = .ok (.iload_n 3, 1) := by decide +kernel
theorem dX8_skipBlanks_12 : decode cX8_skipBlanks 12 = .ok (.baload, 1) := by decide +kernel
theorem dX8_skipBlanks_13 : decode cX8_skipBlanks 13 = .ok (.bipush 32, 2) := by decide +kernel
theorem dX8_skipBlanks_15 : decode cX8_skipBlanks 15 = .ok (.if_icmp .eq 27, 3) := by decide +kernel
theorem dX8_skipBlanks_18 : decode cX8_skipBlanks 18 = .ok (.aload_n 1, 1) := by decide +kernel
theorem dX8_skipBlanks_19 : decode cX8_skipBlanks 19 = .ok (.iload_n 3, 1) := by decide +kernel
theorem dX8_skipBlanks_20 : decode cX8_skipBlanks 20 = .ok (.baload, 1) := by decide +kernel
theorem dX8_skipBlanks_21 : decode cX8_skipBlanks 21 = .ok (.bipush 9, 2) := by decide +kernel
theorem dX8_skipBlanks_23 : decode cX8_skipBlanks 23 = .ok (.if_icmp .eq 19, 3) := by decide +kernel
theorem dX8_skipBlanks_26 : decode cX8_skipBlanks 26 = .ok (.aload_n 1, 1) := by decide +kernel
theorem dX8_skipBlanks_27 : decode cX8_skipBlanks 27 = .ok (.iload_n 3, 1) := by decide +kernel
theorem dX8_skipBlanks_28 : decode cX8_skipBlanks 28 = .ok (.baload, 1) := by decide +kernel
theorem dX8_skipBlanks_29 : decode cX8_skipBlanks 29 = .ok (.bipush 10, 2) := by decide +kernel
theorem dX8_skipBlanks_31 : decode cX8_skipBlanks 31 = .ok (.if_icmp .eq 11, 3) := by decide +kernel
theorem dX8_skipBlanks_34 : decode cX8_skipBlanks 34 = .ok (.aload_n 1, 1) := by decide +kernel
theorem dX8_skipBlanks_35 : decode cX8_skipBlanks 35 = .ok (.iload_n 3, 1) := by decide +kernel
theorem dX8_skipBlanks_36 : decode cX8_skipBlanks 36 = .ok (.baload, 1) := by decide +kernel
theorem dX8_skipBlanks_37 : decode cX8_skipBlanks 37 = .ok (.bipush 13, 2) := by decide +kernel
theorem dX8_skipBlanks_39 : decode cX8_skipBlanks 39 = .ok (.if_icmp .ne 9, 3) := by decide +kernel
theorem dX8_skipBlanks_42 : decode cX8_skipBlanks 42 = .ok (.iinc 3 1, 3) := by decide +kernel
theorem dX8_skipBlanks_45 : decode cX8_skipBlanks 45 = .ok (.goto (-43), 3) := by decide +kernel
theorem dX8_skipBlanks_48 : decode cX8_skipBlanks 48 = .ok (.iload_n 3, 1) := by decide +kernel
theorem dX8_skipBlanks_49 : decode cX8_skipBlanks 49 = .ok (.ireturn, 1) := by decide +kernel
def rmX8_skipBlanks : Room := { frames := 0, cells := 0, slots := 0, locals := 0 }
set_option maxRecDepth 100000 in
def fX8_skipBlanks_J48 (N : Nat) (g : Gs) (x0 : Nat) (x1 : Nat) (x2 : Int32) (y3 : Int32) (d : Ds) : Option (Int32 × Ds) := some (y3, d)
set_option maxHeartbeats 4000000 in
set_option maxRecDepth 100000 in
theorem tX8_skipBlanks_48 {p : Program} {l : Launch} {e : Env} {s : State} {m : MethodId} {args : Array Value} {below : List Frame} {meth : Method} {c : Code} {D : va_G} {cy : Nat → ClassId} {B : Bs} (C : Cx p s m args c cX8_skipBlanks 4 RX8 D cy B) (hr : meth.sig.returnType = (some .int)) (hlocks : meth.locks = false) {N : Nat} {g : Gs} {x0 : Nat} {x1 : Nat} {x2 : Int32} {vz : Int32} {dz : Ds} {y3 : Int32} {d : Ds} (hf : fX8_skipBlanks_J48 N g x0 x1 x2 y3 d = some (vz, dz)) : WB p l e rmX8_skipBlanks s m args below meth c 4 D cy B 0 0 (MQ below (QI D cy B vz g dz) args s 0 0 (wA B)) g d [(0, .ref (ad B x0)), (1, .ref (ad B x1)), (2, .int x2), (3, .int y3)] 48 [] := by
  unfold fX8_skipBlanks_J48 at hf
  refine b_iload_n C dX8_skipBlanks_48 3 rfl rfl ?_
  exact b_iret C hr hlocks hf dX8_skipBlanks_49
set_option maxRecDepth 100000 in
def fX8_skipBlanks_J42 (N : Nat) (g : Gs) (x0 : Nat) (x1 : Nat) (x2 : Int32) (K2 : Int32 × Ds → Option (Int32 × Ds)) (y3 : Int32) (d : Ds) : Option (Int32 × Ds) := bd (y3 + 1) fun u6 => (K2 (u6, d))
set_option maxHeartbeats 4000000 in
set_option maxRecDepth 100000 in
theorem tX8_skipBlanks_42 {p : Program} {l : Launch} {e : Env} {s : State} {m : MethodId} {args : Array Value} {below : List Frame} {meth : Method} {c : Code} {D : va_G} {cy : Nat → ClassId} {B : Bs} (C : Cx p s m args c cX8_skipBlanks 4 RX8 D cy B) (hr : meth.sig.returnType = (some .int)) (hlocks : meth.locks = false) {N : Nat} {g : Gs} {x0 : Nat} {x1 : Nat} {x2 : Int32} {vz : Int32} {dz : Ds} {K2 : Int32 × Ds → Option (Int32 × Ds)} (hK2 : ∀ a, K2 a = some (vz, dz) → WB p l e rmX8_skipBlanks s m args below meth c 4 D cy B 0 0 (MQ below (QI D cy B vz g dz) args s 0 0 (wA B)) g a.2 [(0, .ref (ad B x0)), (1, .ref (ad B x1)), (2, .int x2), (3, .int a.1)] 2 []) {y3 : Int32} {d : Ds} (hf : fX8_skipBlanks_J42 N g x0 x1 x2 K2 y3 d = some (vz, dz)) : WB p l e rmX8_skipBlanks s m args below meth c 4 D cy B 0 0 (MQ below (QI D cy B vz g dz) args s 0 0 (wA B)) g d [(0, .ref (ad B x0)), (1, .ref (ad B x1)), (2, .int x2), (3, .int y3)] 42 [] := by
  unfold fX8_skipBlanks_J42 at hf
  obtain ⟨u6, eu6, hf⟩ := bd_s hf
  refine b_iinc C dX8_skipBlanks_42 3 rfl (by rw [eu6]; rfl) [(3, .int u6), (0, .ref (ad B x0)), (1, .ref (ad B x1)), (2, .int x2)] (by decide) rfl ?_
  refine b_goto C (tgt := 2) dX8_skipBlanks_45 (by decide) ?_
  refine b_sub [(0, .ref (ad B x0)), (1, .ref (ad B x1)), (2, .int x2), (3, .int u6)] [1, 2, 3, 0] rfl ?_
  exact hK2 (u6, d) hf
set_option maxRecDepth 100000 in
def fX8_skipBlanks_B2 (N : Nat) (g : Gs) (x0 : Nat) (x1 : Nat) (x2 : Int32) (K2 : Int32 × Ds → Option (Int32 × Ds)) (y3 : Int32) (d : Ds) : Option (Int32 × Ds) := gd (chk g x0 8) <| if (dI d x0 5) ≤ y3 then (fX8_skipBlanks_J48 N g x0 x1 x2 y3 d) else (gd (chk g x1 100) <| gd (¬ (y3 < 0 ∨ gL g x1 ≤ y3.toNatClampNeg)) <| if (dI d x1 y3.toNatClampNeg) = (32 : Int32) then (fX8_skipBlanks_J42 N g x0 x1 x2 K2 y3 d) else (if (dI d x1 y3.toNatClampNeg) = (9 : Int32) then (fX8_skipBlanks_J42 N g x0 x1 x2 K2 y3 d) else (if (dI d x1 y3.toNatClampNeg) = (10 : Int32) then (fX8_skipBlanks_J42 N g x0 x1 x2 K2 y3 d) else (if (dI d x1 y3.toNatClampNeg) = (13 : Int32) then (fX8_skipBlanks_J42 N g x0 x1 x2 K2 y3 d) else (fX8_skipBlanks_J48 N g x0 x1 x2 y3 d)))))
set_option maxHeartbeats 4000000 in
set_option maxRecDepth 100000 in
theorem tX8_skipBlanks_2 {p : Program} {l : Launch} {e : Env} {s : State} {m : MethodId} {args : Array Value} {below : List Frame} {meth : Method} {c : Code} {D : va_G} {cy : Nat → ClassId} {B : Bs} (C : Cx p s m args c cX8_skipBlanks 4 RX8 D cy B) (hr : meth.sig.returnType = (some .int)) (hlocks : meth.locks = false) {N : Nat} {g : Gs} {x0 : Nat} {x1 : Nat} {x2 : Int32} {vz : Int32} {dz : Ds} {K2 : Int32 × Ds → Option (Int32 × Ds)} (hK2 : ∀ a, K2 a = some (vz, dz) → WB p l e rmX8_skipBlanks s m args below meth c 4 D cy B 0 0 (MQ below (QI D cy B vz g dz) args s 0 0 (wA B)) g a.2 [(0, .ref (ad B x0)), (1, .ref (ad B x1)), (2, .int x2), (3, .int a.1)] 2 []) {y3 : Int32} {d : Ds} (hf : fX8_skipBlanks_B2 N g x0 x1 x2 K2 y3 d = some (vz, dz)) : WB p l e rmX8_skipBlanks s m args below meth c 4 D cy B 0 0 (MQ below (QI D cy B vz g dz) args s 0 0 (wA B)) g d [(0, .ref (ad B x0)), (1, .ref (ad B x1)), (2, .int x2), (3, .int y3)] 2 [] := by
  unfold fX8_skipBlanks_B2 at hf
  refine b_iload_n C dX8_skipBlanks_2 3 rfl rfl ?_
  refine b_aload_n C dX8_skipBlanks_3 0 rfl rfl ?_
  obtain ⟨h1, hf⟩ := gd_s hf
  refine b_gI C dX8_skipBlanks_4 fl_X8_29 h1 ?_
  refine b_icmp_ge C (tgt := 48) dX8_skipBlanks_7 (by decide) (fun c2 => ?_) (fun c2 => ?_)
  · have hf := it_s c2 hf
    refine b_sub [(0, .ref (ad B x0)), (1, .ref (ad B x1)), (2, .int x2), (3, .int y3)] [0, 1, 2, 3] rfl ?_
    exact tX8_skipBlanks_48 C hr hlocks hf
  · have hf := if_s c2 hf
    refine b_aload_n C dX8_skipBlanks_10 1 rfl rfl ?_
    refine b_iload_n C dX8_skipBlanks_11 3 rfl rfl ?_
    obtain ⟨h3, hf⟩ := gd_s hf
    obtain ⟨h4, hf⟩ := gd_s hf
    refine b_bald C h3 h4 dX8_skipBlanks_12 ?_
    refine b_bipush C (v := 32) dX8_skipBlanks_13 (by decide) ?_
    refine b_icmp_eq C (tgt := 42) dX8_skipBlanks_15 (by decide) (fun c5 => ?_) (fun c5 => ?_)
    · have hf := it_s c5 hf
      refine b_sub [(0, .ref (ad B x0)), (1, .ref (ad B x1)), (2, .int x2), (3, .int y3)] [0, 1, 2, 3] rfl ?_
      exact tX8_skipBlanks_42 C hr hlocks hK2 hf
    · have hf := if_s c5 hf
      refine b_aload_n C dX8_skipBlanks_18 1 rfl rfl ?_
      refine b_iload_n C dX8_skipBlanks_19 3 rfl rfl ?_
      refine b_bald C h3 h4 dX8_skipBlanks_20 ?_
      refine b_bipush C (v := 9) dX8_skipBlanks_21 (by decide) ?_
      refine b_icmp_eq C (tgt := 42) dX8_skipBlanks_23 (by decide) (fun c7 => ?_) (fun c7 => ?_)
      · have hf := it_s c7 hf
        refine b_sub [(0, .ref (ad B x0)), (1, .ref (ad B x1)), (2, .int x2), (3, .int y3)] [0, 1, 2, 3] rfl ?_
        exact tX8_skipBlanks_42 C hr hlocks hK2 hf
      · have hf := if_s c7 hf
        refine b_aload_n C dX8_skipBlanks_26 1 rfl rfl ?_
        refine b_iload_n C dX8_skipBlanks_27 3 rfl rfl ?_
        refine b_bald C h3 h4 dX8_skipBlanks_28 ?_
        refine b_bipush C (v := 10) dX8_skipBlanks_29 (by decide) ?_
        refine b_icmp_eq C (tgt := 42) dX8_skipBlanks_31 (by decide) (fun c8 => ?_) (fun c8 => ?_)
        · have hf := it_s c8 hf
          refine b_sub [(0, .ref (ad B x0)), (1, .ref (ad B x1)), (2, .int x2), (3, .int y3)] [0, 1, 2, 3] rfl ?_
          exact tX8_skipBlanks_42 C hr hlocks hK2 hf
        · have hf := if_s c8 hf
          refine b_aload_n C dX8_skipBlanks_34 1 rfl rfl ?_
          refine b_iload_n C dX8_skipBlanks_35 3 rfl rfl ?_
          refine b_bald C h3 h4 dX8_skipBlanks_36 ?_
          refine b_bipush C (v := 13) dX8_skipBlanks_37 (by decide) ?_
          refine b_icmp_ne C (tgt := 48) dX8_skipBlanks_39 (by decide) (fun c9 => ?_) (fun c9 => ?_)
          · have hf := if_s c9 hf
            refine b_sub [(0, .ref (ad B x0)), (1, .ref (ad B x1)), (2, .int x2), (3, .int y3)] [0, 1, 2, 3] rfl ?_
            exact tX8_skipBlanks_48 C hr hlocks hf
          · have hf := it_s c9 hf
            refine b_sub [(0, .ref (ad B x0)), (1, .ref (ad B x1)), (2, .int x2), (3, .int y3)] [0, 1, 2, 3] rfl ?_
            exact tX8_skipBlanks_42 C hr hlocks hK2 hf
def fX8_skipBlanks_L2 (N : Nat) (g : Gs) (x0 : Nat) (x1 : Nat) (x2 : Int32) : Int32 × Ds → Option (Int32 × Ds) := lp (fun K2 a => fX8_skipBlanks_B2 N g x0 x1 x2 K2 a.1 a.2) N
theorem tX8_skipBlanks_L2 {p : Program} {l : Launch} {e : Env} {s : State} {m : MethodId} {args : Array Value} {below : List Frame} {meth : Method} {c : Code} {D : va_G} {cy : Nat → ClassId} {B : Bs} (C : Cx p s m args c cX8_skipBlanks 4 RX8 D cy B) (hr : meth.sig.returnType = (some .int)) (hlocks : meth.locks = false) {N : Nat} {g : Gs} {x0 : Nat} {x1 : Nat} {x2 : Int32} {vz : Int32} {dz : Ds} (a : Int32 × Ds) (hf : fX8_skipBlanks_L2 N g x0 x1 x2 a = some (vz, dz)) : WB p l e rmX8_skipBlanks s m args below meth c 4 D cy B 0 0 (MQ below (QI D cy B vz g dz) args s 0 0 (wA B)) g a.2 [(0, .ref (ad B x0)), (1, .ref (ad B x1)), (2, .int x2), (3, .int a.1)] 2 [] :=
  lp_w (fun K2 hK2 a ha => tX8_skipBlanks_2 C hr hlocks hK2 ha) N a hf
set_option maxRecDepth 100000 in
def fX8_skipBlanks (N : Nat) (g : Gs) (x0 : Nat) (x1 : Nat) (x2 : Int32) (d : Ds) : Option (Int32 × Ds) := fX8_skipBlanks_L2 N g x0 x1 x2 (x2, d)
set_option maxHeartbeats 4000000 in
set_option maxRecDepth 100000 in
theorem tX8_skipBlanks_E {p : Program} {l : Launch} {e : Env} {s : State} {m : MethodId} {args : Array Value} {below : List Frame} {meth : Method} {c : Code} {D : va_G} {cy : Nat → ClassId} {B : Bs} (C : Cx p s m args c cX8_skipBlanks 4 RX8 D cy B) (hr : meth.sig.returnType = (some .int)) (hlocks : meth.locks = false) {N : Nat} {g : Gs} {x0 : Nat} {x1 : Nat} {x2 : Int32} {vz : Int32} {dz : Ds} {d : Ds} (hf : fX8_skipBlanks N g x0 x1 x2 d = some (vz, dz)) : WB p l e rmX8_skipBlanks s m args below meth c 4 D cy B 0 0 (MQ below (QI D cy B vz g dz) args s 0 0 (wA B)) g d [(0, .ref (ad B x0)), (1, .ref (ad B x1)), (2, .int x2)] 0 [] := by
  unfold fX8_skipBlanks at hf
  refine b_iload_n C dX8_skipBlanks_0 2 rfl rfl ?_
  refine b_istore_n C dX8_skipBlanks_1 rfl [(3, .int x2), (0, .ref (ad B x0)), (1, .ref (ad B x1)), (2, .int x2)] (by decide) rfl ?_
  refine b_sub [(0, .ref (ad B x0)), (1, .ref (ad B x1)), (2, .int x2), (3, .int x2)] [1, 2, 3, 0] rfl ?_
  exact tX8_skipBlanks_L2 C hr hlocks (x2, d) hf
theorem kX8_skipBlanks (l : Launch) (D : va_G) (cy : Nat → ClassId) (B : Bs) {N : Nat} {g : Gs} {x0 : Nat} {x1 : Nat} {x2 : Int32} {vz : Int32} {dz : Ds} {d : Ds} (hf : fX8_skipBlanks N g x0 x1 x2 d = some (vz, dz)) : Met l yX8_skipBlanks (.code yX8_skipBlanks cX8_skipBlanks 4 (some .int) :: wl) rmX8_skipBlanks (PC D cy B [.ref (ad B x0), .ref (ad B x1), .int x2] g d) (QI D cy B vz g dz) 0 0 (wA B) :=
  met_of (by decide +kernel) (Nat.le_of_ble_eq_true rfl) (fun p e s m args below meth c C hr hlocks _ => b_sub [(0, .ref (ad B x0)), (1, .ref (ad B x1)), (2, .int x2)] [0, 1, 2] rfl (tX8_skipBlanks_E C hr hlocks hf))
/-! KeyMatrix$Tokens.isLetter(I)Z -/
theorem dX8_isLetter_0 : decode cX8_isLetter 0 = .ok (.iload_n 0, 1) := by decide +kernel
theorem dX8_isLetter_1 : decode cX8_isLetter 1 = .ok (.bipush 97, 2) := by decide +kernel
theorem dX8_isLetter_3 : decode cX8_isLetter 3 = .ok (.if_icmp .lt 13, 3) := by decide +kernel
theorem dX8_isLetter_6 : decode cX8_isLetter 6 = .ok (.iload_n 0, 1) := by decide +kernel
theorem dX8_isLetter_7 : decode cX8_isLetter 7 = .ok (.bipush 122, 2) := by decide +kernel
theorem dX8_isLetter_9 : decode cX8_isLetter 9 = .ok (.if_icmp .gt 7, 3) := by decide +kernel
theorem dX8_isLetter_12 : decode cX8_isLetter 12 = .ok (.iconst 1, 1) := by decide +kernel
theorem dX8_isLetter_13 : decode cX8_isLetter 13 = .ok (.goto 4, 3) := by decide +kernel
theorem dX8_isLetter_16 : decode cX8_isLetter 16 = .ok (.iconst 0, 1) := by decide +kernel
theorem dX8_isLetter_17 : decode cX8_isLetter 17 = .ok (.ireturn, 1) := by decide +kernel
def rmX8_isLetter : Room := { frames := 0, cells := 0, slots := 0, locals := 0 }
set_option maxRecDepth 100000 in
def fX8_isLetter_J17 (N : Nat) (g : Gs) (x0 : Int32) (z0 : Int32) (d : Ds) : Option (Int32 × Ds) := gd (z0 = 0 ∨ z0 = 1) <| some (z0, d)
set_option maxHeartbeats 4000000 in
set_option maxRecDepth 100000 in
theorem tX8_isLetter_17 {p : Program} {l : Launch} {e : Env} {s : State} {m : MethodId} {args : Array Value} {below : List Frame} {meth : Method} {c : Code} {D : va_G} {cy : Nat → ClassId} {B : Bs} (C : Cx p s m args c cX8_isLetter 1 RX8 D cy B) (hr : meth.sig.returnType = (some .boolean)) (hlocks : meth.locks = false) {N : Nat} {g : Gs} {x0 : Int32} {vz : Int32} {dz : Ds} {z0 : Int32} {d : Ds} (hf : fX8_isLetter_J17 N g x0 z0 d = some (vz, dz)) : WB p l e rmX8_isLetter s m args below meth c 1 D cy B 0 0 (MQ below (QI D cy B vz g dz) args s 0 0 (wA B)) g d [(0, .int x0)] 17 [.int z0] := by
  unfold fX8_isLetter_J17 at hf
  obtain ⟨h2, hf⟩ := gd_s hf
  exact b_zret C hr hlocks h2 hf dX8_isLetter_17
set_option maxRecDepth 100000 in
def fX8_isLetter_J16 (N : Nat) (g : Gs) (x0 : Int32) (d : Ds) : Option (Int32 × Ds) := fX8_isLetter_J17 N g x0 0 d
set_option maxHeartbeats 4000000 in
set_option maxRecDepth 100000 in
theorem tX8_isLetter_16 {p : Program} {l : Launch} {e : Env} {s : State} {m : MethodId} {args : Array Value} {below : List Frame} {meth : Method} {c : Code} {D : va_G} {cy : Nat → ClassId} {B : Bs} (C : Cx p s m args c cX8_isLetter 1 RX8 D cy B) (hr : meth.sig.returnType = (some .boolean)) (hlocks : meth.locks = false) {N : Nat} {g : Gs} {x0 : Int32} {vz : Int32} {dz : Ds} {d : Ds} (hf : fX8_isLetter_J16 N g x0 d = some (vz, dz)) : WB p l e rmX8_isLetter s m args below meth c 1 D cy B 0 0 (MQ below (QI D cy B vz g dz) args s 0 0 (wA B)) g d [(0, .int x0)] 16 [] := by
  unfold fX8_isLetter_J16 at hf
  refine b_iconst C (v := 0) dX8_isLetter_16 (by decide) ?_
  refine b_sub [(0, .int x0)] [0] rfl ?_
  exact tX8_isLetter_17 C hr hlocks hf
set_option maxRecDepth 100000 in
def fX8_isLetter (N : Nat) (g : Gs) (x0 : Int32) (d : Ds) : Option (Int32 × Ds) := if x0 < (97 : Int32) then (fX8_isLetter_J16 N g x0 d) else (if (122 : Int32) < x0 then (fX8_isLetter_J16 N g x0 d) else (fX8_isLetter_J17 N g x0 1 d))
set_option maxHeartbeats 4000000 in
set_option maxRecDepth 100000 in
theorem tX8_isLetter_E {p : Program} {l : Launch} {e : Env} {s : State} {m : MethodId} {args : Array Value} {below : List Frame} {meth : Method} {c : Code} {D : va_G} {cy : Nat → ClassId} {B : Bs} (C : Cx p s m args c cX8_isLetter 1 RX8 D cy B) (hr : meth.sig.returnType = (some .boolean)) (hlocks : meth.locks = false) {N : Nat} {g : Gs} {x0 : Int32} {vz : Int32} {dz : Ds} {d : Ds} (hf : fX8_isLetter N g x0 d = some (vz, dz)) : WB p l e rmX8_isLetter s m args below meth c 1 D cy B 0 0 (MQ below (QI D cy B vz g dz) args s 0 0 (wA B)) g d [(0, .int x0)] 0 [] := by
  unfold fX8_isLetter at hf
  refine b_iload_n C dX8_isLetter_0 0 rfl rfl ?_
  refine b_bipush C (v := 97) dX8_isLetter_1 (by decide) ?_
  refine b_icmp_lt C (tgt := 16) dX8_isLetter_3 (by decide) (fun c1 => ?_) (fun c1 => ?_)
  · have hf := it_s c1 hf
    refine b_sub [(0, .int x0)] [0] rfl ?_
    exact tX8_isLetter_16 C hr hlocks hf
  · have hf := if_s c1 hf
    refine b_iload_n C dX8_isLetter_6 0 rfl rfl ?_
    refine b_bipush C (v := 122) dX8_isLetter_7 (by decide) ?_
    refine b_icmp_gt C (tgt := 16) dX8_isLetter_9 (by decide) (fun c3 => ?_) (fun c3 => ?_)
    · have hf := it_s c3 hf
      refine b_sub [(0, .int x0)] [0] rfl ?_
      exact tX8_isLetter_16 C hr hlocks hf
    · have hf := if_s c3 hf
      refine b_iconst C (v := 1) dX8_isLetter_12 (by decide) ?_
      refine b_goto C (tgt := 17) dX8_isLetter_13 (by decide) ?_
      refine b_sub [(0, .int x0)] [0] rfl ?_
      exact tX8_isLetter_17 C hr hlocks hf
theorem kX8_isLetter (l : Launch) (D : va_G) (cy : Nat → ClassId) (B : Bs) {N : Nat} {g : Gs} {x0 : Int32} {vz : Int32} {dz : Ds} {d : Ds} (hf : fX8_isLetter N g x0 d = some (vz, dz)) : Met l yX8_isLetter (.code yX8_isLetter cX8_isLetter 1 (some .boolean) :: wl) rmX8_isLetter (PC D cy B [.int x0] g d) (QI D cy B vz g dz) 0 0 (wA B) :=
  met_of (by decide +kernel) (Nat.le_of_ble_eq_true rfl) (fun p e s m args below meth c C hr hlocks _ => b_sub [(0, .int x0)] [0] rfl (tX8_isLetter_E C hr hlocks hf))
/-! java/lang/String.coder()B -/
theorem ws_J0_38 : Cond.fieldLink RJ0 38 "java/lang/String" "COMPACT_STRINGS" "Z" ∈ wl := mW (mT3 (List.mem_of_getElem? (i := 69) (by decide +kernel))) rfl
theorem xf_J0_15 : Cond.fieldLink RJ0 15 "java/lang/String" "coder" "B" ∈ wl := mW (mT7 (List.mem_of_getElem? (i := 49) (by decide +kernel))) rfl
theorem dJ0_coder_7d493_0 : decode cJ0_coder_7d493 0 = .ok (.getstatic 38, 3) := by decide +kernel
theorem dJ0_coder_7d493_3 : decode cJ0_coder_7d493 3 = .ok (.ifCond .eq 10, 3) := by decide +kernel
theorem dJ0_coder_7d493_6 : decode cJ0_coder_7d493 6 = .ok (.aload_n 0, 1) := by decide +kernel
theorem dJ0_coder_7d493_7 : decode cJ0_coder_7d493 7 = .ok (.getfield 15, 3) := by decide +kernel
theorem dJ0_coder_7d493_10 : decode cJ0_coder_7d493 10 = .ok (.goto 4, 3) := by decide +kernel
theorem dJ0_coder_7d493_13 : decode cJ0_coder_7d493 13 = .ok (.iconst 1, 1) := by decide +kernel
theorem dJ0_coder_7d493_14 : decode cJ0_coder_7d493 14 = .ok (.ireturn, 1) := by decide +kernel
def rmJ0_coder_7d493 : Room := { frames := 0, cells := 0, slots := 0, locals := 0 }
set_option maxRecDepth 100000 in
def fJ0_coder_7d493_J14 (N : Nat) (g : Gs) (x0 : Nat) (z0 : Int32) (d : Ds) : Option (Int32 × Ds) := gd (z0 = 0) <| some (z0, d)
set_option maxHeartbeats 4000000 in
set_option maxRecDepth 100000 in
theorem tJ0_coder_7d493_14 {p : Program} {l : Launch} {e : Env} {s : State} {m : MethodId} {args : Array Value} {below : List Frame} {meth : Method} {c : Code} {D : va_G} {cy : Nat → ClassId} {B : Bs} (C : Cx p s m args c cJ0_coder_7d493 1 RJ0 D cy B) (hr : meth.sig.returnType = (some .byte)) (hlocks : meth.locks = false) {N : Nat} {g : Gs} {x0 : Nat} {vz : Int32} {dz : Ds} {z0 : Int32} {d : Ds} (hf : fJ0_coder_7d493_J14 N g x0 z0 d = some (vz, dz)) : WB p l e rmJ0_coder_7d493 s m args below meth c 1 D cy B 0 0 (MQ below (QI D cy B vz g dz) args s 0 0 (wA B)) g d [(0, .ref (ad B x0))] 14 [.int z0] := by
  unfold fJ0_coder_7d493_J14 at hf
  obtain ⟨h2, hf⟩ := gd_s hf
  exact b_nret C hr hlocks (nar_y h2) hf dJ0_coder_7d493_14
set_option maxRecDepth 100000 in
def fJ0_coder_7d493 (N : Nat) (g : Gs) (x0 : Nat) (d : Ds) : Option (Int32 × Ds) := if (1 : Int32) = 0 then (fJ0_coder_7d493_J14 N g x0 1 d) else (gd (100021 ≤ x0 ∧ x0 < 100041) <| fJ0_coder_7d493_J14 N g x0 0 d)
set_option maxHeartbeats 4000000 in
set_option maxRecDepth 100000 in
theorem tJ0_coder_7d493_E {p : Program} {l : Launch} {e : Env} {s : State} {m : MethodId} {args : Array Value} {below : List Frame} {meth : Method} {c : Code} {D : va_G} {cy : Nat → ClassId} {B : Bs} (C : Cx p s m args c cJ0_coder_7d493 1 RJ0 D cy B) (hr : meth.sig.returnType = (some .byte)) (hlocks : meth.locks = false) {N : Nat} {g : Gs} {x0 : Nat} {vz : Int32} {dz : Ds} {d : Ds} (hf : fJ0_coder_7d493 N g x0 d = some (vz, dz)) : WB p l e rmJ0_coder_7d493 s m args below meth c 1 D cy B 0 0 (MQ below (QI D cy B vz g dz) args s 0 0 (wA B)) g d [(0, .ref (ad B x0))] 0 [] := by
  unfold fJ0_coder_7d493 at hf
  refine b_getCS C ws_J0_38 dJ0_coder_7d493_0 ?_
  refine b_if_eq C (tgt := 13) dJ0_coder_7d493_3 (by decide) (fun c1 => ?_) (fun c1 => ?_)
  · have hf := it_s c1 hf
    refine b_iconst C (v := 1) dJ0_coder_7d493_13 (by decide) ?_
    refine b_sub [(0, .ref (ad B x0))] [0] rfl ?_
    exact tJ0_coder_7d493_14 C hr hlocks hf
  · have hf := if_s c1 hf
    refine b_aload_n C dJ0_coder_7d493_6 0 rfl rfl ?_
    obtain ⟨h3, hf⟩ := gd_s hf
    refine b_xcod C h3 xf_J0_15 dJ0_coder_7d493_7 ?_
    refine b_goto C (tgt := 14) dJ0_coder_7d493_10 (by decide) ?_
    refine b_sub [(0, .ref (ad B x0))] [0] rfl ?_
    exact tJ0_coder_7d493_14 C hr hlocks hf
theorem kJ0_coder_7d493 (l : Launch) (D : va_G) (cy : Nat → ClassId) (B : Bs) {N : Nat} {g : Gs} {x0 : Nat} {vz : Int32} {dz : Ds} {d : Ds} (hf : fJ0_coder_7d493 N g x0 d = some (vz, dz)) : Met l yJ0_coder_7d493 (.code yJ0_coder_7d493 cJ0_coder_7d493 1 (some .byte) :: wl) rmJ0_coder_7d493 (PC D cy B [.ref (ad B x0)] g d) (QI D cy B vz g dz) 0 0 (wA B) :=
  met_of (by decide +kernel) (Nat.le_of_ble_eq_true rfl) (fun p e s m args below meth c C hr hlocks _ => b_sub [(0, .ref (ad B x0))] [0] rfl (tJ0_coder_7d493_E C hr hlocks hf))
/-! java/lang/String.length()I -/
theorem xf_J0_9 : Cond.fieldLink RJ0 9 "java/lang/String" "value" "[B" ∈ wl := mW (mT7 (List.mem_of_getElem? (i := 48) (by decide +kernel))) rfl
theorem yo_J0_coder_7d493 : yJ0_coder_7d493.cls ≠ "java/lang/invoke/MethodHandle" ∧ yJ0_coder_7d493.cls ≠ "java/lang/invoke/VarHandle" ∧ (parseMethodDescriptor yJ0_coder_7d493.desc).map (fun d => d.parameters.length) = some 0 := by decide +kernel
theorem co_J0_coder_7d493 : Cond.code yJ0_coder_7d493 cJ0_coder_7d493 1 (some .byte) ∈ wl := mW (mT3 (List.mem_of_getElem? (i := 68) (by decide +kernel))) rfl
theorem in_J0_coder_7d493 : Cond.initialized yJ0_coder_7d493.cls ∈ wl := mW (mT1 (List.mem_of_getElem? (i := 13) (by decide +kernel))) rfl
theorem im_J0_coder_7d493 : Cond.instanceMethod yJ0_coder_7d493 ∈ wl := mW (mT3 (List.mem_of_getElem? (i := 66) (by decide +kernel))) rfl
theorem se_J0_coder_7d493 : Cond.selects yJ0_coder_7d493.cls yJ0_coder_7d493 yJ0_coder_7d493 ∈ wl := mW (mT3 (List.mem_of_getElem? (i := 67) (by decide +kernel))) rfl
theorem lx_J0_335 : LX RJ0 335 yJ0_coder_7d493 cJ0_coder_7d493 1 (some .byte) 0 := ⟨rfl, yo_J0_coder_7d493, mW (mT3 (List.mem_of_getElem? (i := 65) (by decide +kernel))) rfl, im_J0_coder_7d493, se_J0_coder_7d493, in_J0_coder_7d493, co_J0_coder_7d493⟩
theorem dJ0_length_8abf5_0 : decode cJ0_length_8abf5 0 = .ok (.aload_n 0, 1) := by decide +kernel
theorem dJ0_length_8abf5_1 : decode cJ0_length_8abf5 1 = .ok (.getfield 9, 3) := by decide +kernel
theorem dJ0_length_8abf5_4 : decode cJ0_length_8abf5 4 = .ok (.arraylength, 1) := by decide +kernel
theorem dJ0_length_8abf5_5 : decode cJ0_length_8abf5 5 = .ok (.aload_n 0, 1) := by decide +kernel
theorem dJ0_length_8abf5_6 : decode cJ0_length_8abf5 6 = .ok (.invokevirtual 335, 3) := by decide +kernel
theorem dJ0_length_8abf5_9 : decode cJ0_length_8abf5 9 = .ok (.ishr, 1) := by decide +kernel
theorem dJ0_length_8abf5_10 : decode cJ0_length_8abf5 10 = .ok (.ireturn, 1) := by decide +kernel
def rmJ0_length_8abf5 : Room := { frames := 1, cells := 0, slots := 0, locals := 20 }
set_option maxRecDepth 100000 in
def fJ0_length_8abf5 (N : Nat) (g : Gs) (x0 : Nat) (d : Ds) : Option (Int32 × Ds) := gd (100021 ≤ x0 ∧ x0 < 100041) <| gd (100041 ≤ (x0 + 20) ∧ (x0 + 20) < 100061) <| cb (fJ0_coder_7d493 N g x0 d) fun u5 d3 => (some (((Int32.ofNat (wsl ((x0 + 20) - 100041))) >>> (u5 &&& 31)), d3))
set_option maxHeartbeats 4000000 in
set_option maxRecDepth 100000 in
theorem tJ0_length_8abf5_E {p : Program} {l : Launch} {e : Env} {s : State} {m : MethodId} {args : Array Value} {below : List Frame} {meth : Method} {c : Code} {D : va_G} {cy : Nat → ClassId} {B : Bs} (C : Cx p s m args c cJ0_length_8abf5 1 RJ0 D cy B) (hr : meth.sig.returnType = (some .int)) (hlocks : meth.locks = false) {N : Nat} {g : Gs} {x0 : Nat} {vz : Int32} {dz : Ds} {d : Ds} (hf : fJ0_length_8abf5 N g x0 d = some (vz, dz)) : WB p l e rmJ0_length_8abf5 s m args below meth c 1 D cy B 0 0 (MQ below (QI D cy B vz g dz) args s 0 0 (wA B)) g d [(0, .ref (ad B x0))] 0 [] := by
  unfold fJ0_length_8abf5 at hf
  refine b_aload_n C dJ0_length_8abf5_0 0 rfl rfl ?_
  obtain ⟨h1, hf⟩ := gd_s hf
  refine b_xval C h1 xf_J0_9 dJ0_length_8abf5_1 ?_
  obtain ⟨h2, hf⟩ := gd_s hf
  refine b_xlen C h2 dJ0_length_8abf5_4 ?_
  refine b_aload_n C dJ0_length_8abf5_5 0 rfl rfl ?_
  obtain ⟨u5, d3, k4, hf⟩ := cb_s hf
  refine b_cXI C [.int (Int32.ofNat (wsl ((x0 + 20) - 100041)))] dJ0_length_8abf5_6 (kJ0_coder_7d493 l D cy B k4) lx_J0_335 ⟨rfl, rfl, Nat.le_of_ble_eq_true rfl, Nat.le_of_ble_eq_true rfl⟩ h1 rfl (Nat.le_of_ble_eq_true rfl) ⟨Nat.zero_le _, Nat.zero_le _⟩ rfl ?_
  refine b_ishr C dJ0_length_8abf5_9 ?_
  exact b_iret C hr hlocks hf dJ0_length_8abf5_10
theorem kJ0_length_8abf5 (l : Launch) (D : va_G) (cy : Nat → ClassId) (B : Bs) {N : Nat} {g : Gs} {x0 : Nat} {vz : Int32} {dz : Ds} {d : Ds} (hf : fJ0_length_8abf5 N g x0 d = some (vz, dz)) : Met l yJ0_length_8abf5 (.code yJ0_length_8abf5 cJ0_length_8abf5 1 (some .int) :: wl) rmJ0_length_8abf5 (PC D cy B [.ref (ad B x0)] g d) (QI D cy B vz g dz) 0 0 (wA B) :=
  met_of (by decide +kernel) (Nat.le_of_ble_eq_true rfl) (fun p e s m args below meth c C hr hlocks _ => b_sub [(0, .ref (ad B x0))] [0] rfl (tJ0_length_8abf5_E C hr hlocks hf))
/-! java/lang/String.isLatin1()Z -/
theorem dJ0_isLatin1_aae02_0 : decode cJ0_isLatin1_aae02 0 = .ok (.getstatic 38, 3) := by decide +kernel
theorem dJ0_isLatin1_aae02_3 : decode cJ0_isLatin1_aae02 3 = .ok (.ifCond .eq 14, 3) := by decide +kernel
theorem dJ0_isLatin1_aae02_6 : decode cJ0_isLatin1_aae02 6 = .ok (.aload_n 0, 1) := by decide +kernel
theorem dJ0_isLatin1_aae02_7 : decode cJ0_isLatin1_aae02 7 = .ok (.getfield 15, 3) := by decide +kernel
theorem dJ0_isLatin1_aae02_10 : decode cJ0_isLatin1_aae02 10 = .ok (.ifCond .ne 7, 3) := by decide +kernel
theorem dJ0_isLatin1_aae02_13 : decode cJ0_isLatin1_aae02 13 = .ok (.iconst 1, 1) := by decide +kernel
theorem dJ0_isLatin1_aae02_14 : decode cJ0_isLatin1_aae02 14 = .ok (.goto 4, 3) := by decide +kernel
theorem dJ0_isLatin1_aae02_17 : decode cJ0_isLatin1_aae02 17 = .ok (.iconst 0, 1) := by decide +kernel
theorem dJ0_isLatin1_aae02_18 : decode cJ0_isLatin1_aae02 18 = .ok (.ireturn, 1) := by decide +kernel
def rmJ0_isLatin1_aae02 : Room := { frames := 0, cells := 0, slots := 0, locals := 0 }
set_option maxRecDepth 100000 in
def fJ0_isLatin1_aae02_J18 (N : Nat) (g : Gs) (x0 : Nat) (z0 : Int32) (d : Ds) : Option (Int32 × Ds) := gd (z0 = 0 ∨ z0 = 1) <| some (z0, d)
set_option maxHeartbeats 4000000 in
set_option maxRecDepth 100000 in
theorem tJ0_isLatin1_aae02_18 {p : Program} {l : Launch} {e : Env} {s : State} {m : MethodId} {args : Array Value} {below : List Frame} {meth : Method} {c : Code} {D : va_G} {cy : Nat → ClassId} {B : Bs} (C : Cx p s m args c cJ0_isLatin1_aae02 1 RJ0 D cy B) (hr : meth.sig.returnType = (some .boolean)) (hlocks : meth.locks = false) {N : Nat} {g : Gs} {x0 : Nat} {vz : Int32} {dz : Ds} {z0 : Int32} {d : Ds} (hf : fJ0_isLatin1_aae02_J18 N g x0 z0 d = some (vz, dz)) : WB p l e rmJ0_isLatin1_aae02 s m args below meth c 1 D cy B 0 0 (MQ below (QI D cy B vz g dz) args s 0 0 (wA B)) g d [(0, .ref (ad B x0))] 18 [.int z0] := by
  unfold fJ0_isLatin1_aae02_J18 at hf
  obtain ⟨h2, hf⟩ := gd_s hf
  exact b_zret C hr hlocks h2 hf dJ0_isLatin1_aae02_18
set_option maxRecDepth 100000 in
def fJ0_isLatin1_aae02_J17 (N : Nat) (g : Gs) (x0 : Nat) (d : Ds) : Option (Int32 × Ds) := fJ0_isLatin1_aae02_J18 N g x0 0 d
set_option maxHeartbeats 4000000 in
set_option maxRecDepth 100000 in
theorem tJ0_isLatin1_aae02_17 {p : Program} {l : Launch} {e : Env} {s : State} {m : MethodId} {args : Array Value} {below : List Frame} {meth : Method} {c : Code} {D : va_G} {cy : Nat → ClassId} {B : Bs} (C : Cx p s m args c cJ0_isLatin1_aae02 1 RJ0 D cy B) (hr : meth.sig.returnType = (some .boolean)) (hlocks : meth.locks = false) {N : Nat} {g : Gs} {x0 : Nat} {vz : Int32} {dz : Ds} {d : Ds} (hf : fJ0_isLatin1_aae02_J17 N g x0 d = some (vz, dz)) : WB p l e rmJ0_isLatin1_aae02 s m args below meth c 1 D cy B 0 0 (MQ below (QI D cy B vz g dz) args s 0 0 (wA B)) g d [(0, .ref (ad B x0))] 17 [] := by
  unfold fJ0_isLatin1_aae02_J17 at hf
  refine b_iconst C (v := 0) dJ0_isLatin1_aae02_17 (by decide) ?_
  refine b_sub [(0, .ref (ad B x0))] [0] rfl ?_
  exact tJ0_isLatin1_aae02_18 C hr hlocks hf
set_option maxRecDepth 100000 in
def fJ0_isLatin1_aae02 (N : Nat) (g : Gs) (x0 : Nat) (d : Ds) : Option (Int32 × Ds) := if (1 : Int32) = 0 then (fJ0_isLatin1_aae02_J17 N g x0 d) else (gd (100021 ≤ x0 ∧ x0 < 100041) <| if (0 : Int32) = 0 then (fJ0_isLatin1_aae02_J18 N g x0 1 d) else (fJ0_isLatin1_aae02_J17 N g x0 d))
set_option maxHeartbeats 4000000 in
set_option maxRecDepth 100000 in
theorem tJ0_isLatin1_aae02_E {p : Program} {l : Launch} {e : Env} {s : State} {m : MethodId} {args : Array Value} {below : List Frame} {meth : Method} {c : Code} {D : va_G} {cy : Nat → ClassId} {B : Bs} (C : Cx p s m args c cJ0_isLatin1_aae02 1 RJ0 D cy B) (hr : meth.sig.returnType = (some .boolean)) (hlocks : meth.locks = false) {N : Nat} {g : Gs} {x0 : Nat} {vz : Int32} {dz : Ds} {d : Ds} (hf : fJ0_isLatin1_aae02 N g x0 d = some (vz, dz)) : WB p l e rmJ0_isLatin1_aae02 s m args below meth c 1 D cy B 0 0 (MQ below (QI D cy B vz g dz) args s 0 0 (wA B)) g d [(0, .ref (ad B x0))] 0 [] := by
  unfold fJ0_isLatin1_aae02 at hf
  refine b_getCS C ws_J0_38 dJ0_isLatin1_aae02_0 ?_
  refine b_if_eq C (tgt := 17) dJ0_isLatin1_aae02_3 (by decide) (fun c1 => ?_) (fun c1 => ?_)
  · have hf := it_s c1 hf
    refine b_sub [(0, .ref (ad B x0))] [0] rfl ?_
    exact tJ0_isLatin1_aae02_17 C hr hlocks hf
  · have hf := if_s c1 hf
    refine b_aload_n C dJ0_isLatin1_aae02_6 0 rfl rfl ?_
    obtain ⟨h3, hf⟩ := gd_s hf
    refine b_xcod C h3 xf_J0_15 dJ0_isLatin1_aae02_7 ?_
    refine b_if_ne C (tgt := 17) dJ0_isLatin1_aae02_10 (by decide) (fun c4 => ?_) (fun c4 => ?_)
    · have hf := if_s c4 hf
      refine b_sub [(0, .ref (ad B x0))] [0] rfl ?_
      exact tJ0_isLatin1_aae02_17 C hr hlocks hf
    · have hf := it_s c4 hf
      refine b_iconst C (v := 1) dJ0_isLatin1_aae02_13 (by decide) ?_
      refine b_goto C (tgt := 18) dJ0_isLatin1_aae02_14 (by decide) ?_
      refine b_sub [(0, .ref (ad B x0))] [0] rfl ?_
      exact tJ0_isLatin1_aae02_18 C hr hlocks hf
theorem kJ0_isLatin1_aae02 (l : Launch) (D : va_G) (cy : Nat → ClassId) (B : Bs) {N : Nat} {g : Gs} {x0 : Nat} {vz : Int32} {dz : Ds} {d : Ds} (hf : fJ0_isLatin1_aae02 N g x0 d = some (vz, dz)) : Met l yJ0_isLatin1_aae02 (.code yJ0_isLatin1_aae02 cJ0_isLatin1_aae02 1 (some .boolean) :: wl) rmJ0_isLatin1_aae02 (PC D cy B [.ref (ad B x0)] g d) (QI D cy B vz g dz) 0 0 (wA B) :=
  met_of (by decide +kernel) (Nat.le_of_ble_eq_true rfl) (fun p e s m args below meth c C hr hlocks _ => b_sub [(0, .ref (ad B x0))] [0] rfl (tJ0_isLatin1_aae02_E C hr hlocks hf))
/-! jdk/internal/util/Preconditions.checkIndex(IILjava/util/function/BiFunction;)I -/
theorem dJ3_checkIndex_8e157_0 : decode cJ3_checkIndex_8e157 0 = .ok (.iload_n 0, 1) := by decide +kernel
theorem dJ3_checkIndex_8e157_1 : decode cJ3_checkIndex_8e157 1 = .ok (.ifCond .lt 8, 3) := by decide +kernel
theorem dJ3_checkIndex_8e157_4 : decode cJ3_checkIndex_8e157 4 = .ok (.iload_n 0, 1) := by decide +kernel
theorem dJ3_checkIndex_8e157_5 : decode cJ3_checkIndex_8e157 5 = .ok (.iload_n 1, 1) := by decide +kernel
theorem dJ3_checkIndex_8e157_6 : decode cJ3_checkIndex_8e157 6 = .ok (.if_icmp .lt 10, 3) := by decide +kernel
theorem dJ3_checkIndex_8e157_9 : decode cJ3_checkIndex_8e157 9 = .ok (.aload_n 2, 1) := by decide +kernel
theorem dJ3_checkIndex_8e157_10 : decode cJ3_checkIndex_8e157 10 = .ok (.iload_n 0, 1) := by decide +kernel
theorem dJ3_checkIndex_8e157_11 : decode cJ3_checkIndex_8e157 11 = .ok (.iload_n 1, 1) := by decide +kernel
theorem dJ3_checkIndex_8e157_12 : decode cJ3_checkIndex_8e157 12 = .ok (.invokestatic 95, 3) := by decide +kernel
theorem dJ3_checkIndex_8e157_15 : decode cJ3_checkIndex_8e157 15 = .ok (.athrow, 1) := by decide +kernel
theorem dJ3_checkIndex_8e157_16 : decode cJ3_checkIndex_8e157 16 = .ok (.iload_n 0, 1) := by decide +kernel
theorem dJ3_checkIndex_8e157_17 : decode cJ3_checkIndex_8e157 17 = .ok (.ireturn, 1) := by decide +kernel
def rmJ3_checkIndex_8e157 : Room := { frames := 0, cells := 0, slots := 0, locals := 0 }
set_option maxRecDepth 100000 in
def fJ3_checkIndex_8e157_J9 (N : Nat) (g : Gs) (x0 : Int32) (x1 : Int32) (x2 : Option Nat) (d : Ds) : Option (Int32 × Ds) := none
set_option maxHeartbeats 4000000 in
set_option maxRecDepth 100000 in
theorem tJ3_checkIndex_8e157_9 {p : Program} {l : Launch} {e : Env} {s : State} {m : MethodId} {args : Array Value} {below : List Frame} {meth : Method} {c : Code} {D : va_G} {cy : Nat → ClassId} {B : Bs} (C : Cx p s m args c cJ3_checkIndex_8e157 3 RJ3 D cy B) (hr : meth.sig.returnType = (some .int)) (hlocks : meth.locks = false) {N : Nat} {g : Gs} {x0 : Int32} {x1 : Int32} {x2 : Option Nat} {vz : Int32} {dz : Ds} {d : Ds} (hf : fJ3_checkIndex_8e157_J9 N g x0 x1 x2 d = some (vz, dz)) : WB p l e rmJ3_checkIndex_8e157 s m args below meth c 3 D cy B 0 0 (MQ below (QI D cy B vz g dz) args s 0 0 (wA B)) g d [(0, .int x0), (1, .int x1), (2, rv B x2)] 9 [] := by
  unfold fJ3_checkIndex_8e157_J9 at hf
  refine b_aload_nQ C dJ3_checkIndex_8e157_9 2 rfl rfl ?_
  refine b_iload_n C dJ3_checkIndex_8e157_10 0 rfl rfl ?_
  refine b_iload_n C dJ3_checkIndex_8e157_11 1 rfl rfl ?_
  cases hf
set_option maxRecDepth 100000 in
def fJ3_checkIndex_8e157 (N : Nat) (g : Gs) (x0 : Int32) (x1 : Int32) (x2 : Option Nat) (d : Ds) : Option (Int32 × Ds) := if x0 < 0 then (fJ3_checkIndex_8e157_J9 N g x0 x1 x2 d) else (if x0 < x1 then (some (x0, d)) else (fJ3_checkIndex_8e157_J9 N g x0 x1 x2 d))
set_option maxHeartbeats 4000000 in
set_option maxRecDepth 100000 in
theorem tJ3_checkIndex_8e157_E {p : Program} {l : Launch} {e : Env} {s : State} {m : MethodId} {args : Array Value} {below : List Frame} {meth : Method} {c : Code} {D : va_G} {cy : Nat → ClassId} {B : Bs} (C : Cx p s m args c cJ3_checkIndex_8e157 3 RJ3 D cy B) (hr : meth.sig.returnType = (some .int)) (hlocks : meth.locks = false) {N : Nat} {g : Gs} {x0 : Int32} {x1 : Int32} {x2 : Option Nat} {vz : Int32} {dz : Ds} {d : Ds} (hf : fJ3_checkIndex_8e157 N g x0 x1 x2 d = some (vz, dz)) : WB p l e rmJ3_checkIndex_8e157 s m args below meth c 3 D cy B 0 0 (MQ below (QI D cy B vz g dz) args s 0 0 (wA B)) g d [(0, .int x0), (1, .int x1), (2, rv B x2)] 0 [] := by
  unfold fJ3_checkIndex_8e157 at hf
  refine b_iload_n C dJ3_checkIndex_8e157_0 0 rfl rfl ?_
  refine b_if_lt C (tgt := 9) dJ3_checkIndex_8e157_1 (by decide) (fun c1 => ?_) (fun c1 => ?_)
  · have hf := it_s c1 hf
    refine b_sub [(0, .int x0), (1, .int x1), (2, rv B x2)] [0, 1, 2] rfl ?_
    exact tJ3_checkIndex_8e157_9 C hr hlocks hf
  · have hf := if_s c1 hf
    refine b_iload_n C dJ3_checkIndex_8e157_4 0 rfl rfl ?_
    refine b_iload_n C dJ3_checkIndex_8e157_5 1 rfl rfl ?_
    refine b_icmp_lt C (tgt := 16) dJ3_checkIndex_8e157_6 (by decide) (fun c2 => ?_) (fun c2 => ?_)
    · have hf := it_s c2 hf
      refine b_iload_n C dJ3_checkIndex_8e157_16 0 rfl rfl ?_
      exact b_iret C hr hlocks hf dJ3_checkIndex_8e157_17
    · have hf := if_s c2 hf
      refine b_sub [(0, .int x0), (1, .int x1), (2, rv B x2)] [0, 1, 2] rfl ?_
      exact tJ3_checkIndex_8e157_9 C hr hlocks hf
theorem kJ3_checkIndex_8e157 (l : Launch) (D : va_G) (cy : Nat → ClassId) (B : Bs) {N : Nat} {g : Gs} {x0 : Int32} {x1 : Int32} {x2 : Option Nat} {vz : Int32} {dz : Ds} {d : Ds} (hf : fJ3_checkIndex_8e157 N g x0 x1 x2 d = some (vz, dz)) : Met l yJ3_checkIndex_8e157 (.code yJ3_checkIndex_8e157 cJ3_checkIndex_8e157 3 (some .int) :: wl) rmJ3_checkIndex_8e157 (PC D cy B [.int x0, .int x1, rv B x2] g d) (QI D cy B vz g dz) 0 0 (wA B) :=
  met_of (by decide +kernel) (by cases x2 <;> exact Nat.le_of_ble_eq_true rfl) (fun p e s m args below meth c C hr hlocks _ => b_sub [(0, .int x0), (1, .int x1), (2, rv B x2)] [0, 1, 2] rfl (tJ3_checkIndex_8e157_E C hr hlocks hf))
/-! java/lang/String.checkIndex(II)V -/
theorem ws_J0_1053 : Cond.fieldLink RJ0 1053 "jdk/internal/util/Preconditions" "SIOOBE_FORMATTER" "Ljava/util/function/BiFunction;" ∈ wl := mW (mT3 (List.mem_of_getElem? (i := 85) (by decide +kernel))) rfl
theorem yo_J3_checkIndex_8e157 : yJ3_checkIndex_8e157.cls ≠ "java/lang/invoke/MethodHandle" ∧ yJ3_checkIndex_8e157.cls ≠ "java/lang/invoke/VarHandle" ∧ (parseMethodDescriptor yJ3_checkIndex_8e157.desc).map (fun d => d.parameters.length) = some 3 := by decide +kernel
theorem co_J3_checkIndex_8e157 : Cond.code yJ3_checkIndex_8e157 cJ3_checkIndex_8e157 3 (some .int) ∈ wl := mW (mT3 (List.mem_of_getElem? (i := 89) (by decide +kernel))) rfl
theorem in_J3_checkIndex_8e157 : Cond.initialized yJ3_checkIndex_8e157.cls ∈ wl := mW (mT1 (List.mem_of_getElem? (i := 15) (by decide +kernel))) rfl
theorem st_J3_checkIndex_8e157 : Cond.static yJ3_checkIndex_8e157 ∈ wl := mW (mT3 (List.mem_of_getElem? (i := 88) (by decide +kernel))) rfl
theorem lv_J0_1059 : LSt RJ0 1059 yJ3_checkIndex_8e157 cJ3_checkIndex_8e157 3 (some .int) 3 := ⟨yo_J3_checkIndex_8e157, Or.inl (mW (mT3 (List.mem_of_getElem? (i := 87) (by decide +kernel))) rfl), st_J3_checkIndex_8e157, in_J3_checkIndex_8e157, co_J3_checkIndex_8e157⟩
theorem dJ0_checkIndex_df160_0 : decode cJ0_checkIndex_df160 0 = .ok (.iload_n 0, 1) := by decide +kernel
theorem dJ0_checkIndex_df160_1 : decode cJ0_checkIndex_df160 1 = .ok (.iload_n 1, 1) := by decide +kernel
theorem dJ0_checkIndex_df160_2 : decode cJ0_checkIndex_df160 2 = .ok (.getstatic 1053, 3) := by decide +kernel
theorem dJ0_checkIndex_df160_5 : decode cJ0_checkIndex_df160 5 = .ok (.invokestatic 1059, 3) := by decide +kernel
theorem dJ0_checkIndex_df160_8 : decode cJ0_checkIndex_df160 8 = .ok (.pop, 1) := by decide +kernel
theorem dJ0_checkIndex_df160_9 : decode cJ0_checkIndex_df160 9 = .ok (.return_, 1) := by decide +kernel
def rmJ0_checkIndex_df160 : Room := { frames := 1, cells := 0, slots := 0, locals := 22 }
set_option maxRecDepth 100000 in
def fJ0_checkIndex_df160 (N : Nat) (g : Gs) (x0 : Int32) (x1 : Int32) (d : Ds) : Option (Unit × Ds) := cb (fJ3_checkIndex_8e157 N g x0 x1 none d) fun u3 d1 => (some ((), d1))
set_option maxHeartbeats 4000000 in
set_option maxRecDepth 100000 in
theorem tJ0_checkIndex_df160_E {p : Program} {l : Launch} {e : Env} {s : State} {m : MethodId} {args : Array Value} {below : List Frame} {meth : Method} {c : Code} {D : va_G} {cy : Nat → ClassId} {B : Bs} (C : Cx p s m args c cJ0_checkIndex_df160 2 RJ0 D cy B) (hr : meth.sig.returnType = none) (hlocks : meth.locks = false) {N : Nat} {g : Gs} {x0 : Int32} {x1 : Int32}  {dz : Ds} {d : Ds} (hf : fJ0_checkIndex_df160 N g x0 x1 d = some ((), dz)) : WB p l e rmJ0_checkIndex_df160 s m args below meth c 2 D cy B 0 0 (MQ below (QV D cy B g dz) args s 0 0 (wA B)) g d [(0, .int x0), (1, .int x1)] 0 [] := by
  unfold fJ0_checkIndex_df160 at hf
  refine b_iload_n C dJ0_checkIndex_df160_0 0 rfl rfl ?_
  refine b_iload_n C dJ0_checkIndex_df160_1 1 rfl rfl ?_
  refine b_getSF C ws_J0_1053 dJ0_checkIndex_df160_2 (fun vS => ?_)
  obtain ⟨u3, d1, k2, hf⟩ := cb_s hf
  refine b_cSI C [] dJ0_checkIndex_df160_5 (kJ3_checkIndex_8e157 l D cy B (N := N) (x2 := vS) k2) lv_J0_1059 ⟨rfl, rfl, Nat.le_of_ble_eq_true rfl, Nat.le_of_ble_eq_true rfl⟩ rfl (Nat.le_of_ble_eq_true rfl) ⟨Nat.zero_le _, Nat.zero_le _⟩ rfl ?_
  refine b_popI C dJ0_checkIndex_df160_8 ?_
  exact b_vret C hr hlocks hf dJ0_checkIndex_df160_9
theorem kJ0_checkIndex_df160 (l : Launch) (D : va_G) (cy : Nat → ClassId) (B : Bs) {N : Nat} {g : Gs} {x0 : Int32} {x1 : Int32}  {dz : Ds} {d : Ds} (hf : fJ0_checkIndex_df160 N g x0 x1 d = some ((), dz)) : Met l yJ0_checkIndex_df160 (.code yJ0_checkIndex_df160 cJ0_checkIndex_df160 2 none :: wl) rmJ0_checkIndex_df160 (PC D cy B [.int x0, .int x1] g d) (QV D cy B g dz) 0 0 (wA B) :=
  met_of (by decide +kernel) (Nat.le_of_ble_eq_true rfl) (fun p e s m args below meth c C hr hlocks _ => b_sub [(0, .int x0), (1, .int x1)] [0, 1] rfl (tJ0_checkIndex_df160_E C hr hlocks hf))
/-! java/lang/StringLatin1.charAt([BI)C -/
theorem yo_J0_checkIndex_df160 : yJ0_checkIndex_df160.cls ≠ "java/lang/invoke/MethodHandle" ∧ yJ0_checkIndex_df160.cls ≠ "java/lang/invoke/VarHandle" ∧ (parseMethodDescriptor yJ0_checkIndex_df160.desc).map (fun d => d.parameters.length) = some 2 := by decide +kernel
theorem co_J0_checkIndex_df160 : Cond.code yJ0_checkIndex_df160 cJ0_checkIndex_df160 2 none ∈ wl := mW (mT3 (List.mem_of_getElem? (i := 84) (by decide +kernel))) rfl
theorem in_J0_checkIndex_df160 : Cond.initialized yJ0_checkIndex_df160.cls ∈ wl := mW (mT1 (List.mem_of_getElem? (i := 13) (by decide +kernel))) rfl
theorem st_J0_checkIndex_df160 : Cond.static yJ0_checkIndex_df160 ∈ wl := mW (mT3 (List.mem_of_getElem? (i := 83) (by decide +kernel))) rfl
theorem lv_J1_9 : LSt RJ1 9 yJ0_checkIndex_df160 cJ0_checkIndex_df160 2 none 2 := ⟨yo_J0_checkIndex_df160, Or.inl (mW (mT3 (List.mem_of_getElem? (i := 82) (by decide +kernel))) rfl), st_J0_checkIndex_df160, in_J0_checkIndex_df160, co_J0_checkIndex_df160⟩
theorem dJ1_charAt_3b067_0 : decode cJ1_charAt_3b067 0 = .ok (.iload_n 1, 1) := by decide +kernel
theorem dJ1_charAt_3b067_1 : decode cJ1_charAt_3b067 1 = .ok (.aload_n 0, 1) := by decide +kernel
theorem dJ1_charAt_3b067_2 : decode cJ1_charAt_3b067 2 = .ok (.arraylength, 1) := by decide +kernel
theorem dJ1_charAt_3b067_3 : decode cJ1_charAt_3b067 3 = .ok (.invokestatic 9, 3) := by decide +kernel
theorem dJ1_charAt_3b067_6 : decode cJ1_charAt_3b067 6 = .ok (.aload_n 0, 1) := by decide +kernel
theorem dJ1_charAt_3b067_7 : decode cJ1_charAt_3b067 7 = .ok (.iload_n 1, 1) := by decide +kernel
theorem dJ1_charAt_3b067_8 : decode cJ1_charAt_3b067 8 = .ok (.baload, 1) := by decide +kernel
theorem dJ1_charAt_3b067_9 : decode cJ1_charAt_3b067 9 = .ok (.sipush 255, 3) := by decide +kernel
theorem dJ1_charAt_3b067_12 : decode cJ1_charAt_3b067 12 = .ok (.iand, 1) := by decide +kernel
theorem dJ1_charAt_3b067_13 : decode cJ1_charAt_3b067 13 = .ok (.i2c, 1) := by decide +kernel
theorem dJ1_charAt_3b067_14 : decode cJ1_charAt_3b067 14 = .ok (.ireturn, 1) := by decide +kernel
def rmJ1_charAt_3b067 : Room := { frames := 2, cells := 0, slots := 0, locals := 43 }
set_option maxRecDepth 100000 in
def fJ1_charAt_3b067 (N : Nat) (g : Gs) (x0 : Nat) (x1 : Int32) (d : Ds) : Option (Int32 × Ds) := gd (100041 ≤ x0 ∧ x0 < 100061) <| cv (fJ0_checkIndex_df160 N g x1 (Int32.ofNat (wsl (x0 - 100041))) d) fun d2 => (gd (¬ (x1 < 0 ∨ wsl (x0 - 100041) ≤ x1.toNatClampNeg)) <| gd ((((((wsb (x0 - 100041) x1.toNatClampNeg) &&& 255).toUInt32 % 65536).toInt32).toUInt32 % 65536).toInt32 = ((((wsb (x0 - 100041) x1.toNatClampNeg) &&& 255).toUInt32 % 65536).toInt32)) <| some (((((wsb (x0 - 100041) x1.toNatClampNeg) &&& 255).toUInt32 % 65536).toInt32), d2))
set_option maxHeartbeats 4000000 in
set_option maxRecDepth 100000 in
theorem tJ1_charAt_3b067_E {p : Program} {l : Launch} {e : Env} {s : State} {m : MethodId} {args : Array Value} {below : List Frame} {meth : Method} {c : Code} {D : va_G} {cy : Nat → ClassId} {B : Bs} (C : Cx p s m args c cJ1_charAt_3b067 2 RJ1 D cy B) (hr : meth.sig.returnType = (some .char)) (hlocks : meth.locks = false) {N : Nat} {g : Gs} {x0 : Nat} {x1 : Int32} {vz : Int32} {dz : Ds} {d : Ds} (hf : fJ1_charAt_3b067 N g x0 x1 d = some (vz, dz)) : WB p l e rmJ1_charAt_3b067 s m args below meth c 2 D cy B 0 0 (MQ below (QI D cy B vz g dz) args s 0 0 (wA B)) g d [(0, .ref (ad B x0)), (1, .int x1)] 0 [] := by
  unfold fJ1_charAt_3b067 at hf
  refine b_iload_n C dJ1_charAt_3b067_0 1 rfl rfl ?_
  refine b_aload_n C dJ1_charAt_3b067_1 0 rfl rfl ?_
  obtain ⟨h1, hf⟩ := gd_s hf
  refine b_xlen C h1 dJ1_charAt_3b067_2 ?_
  obtain ⟨d2, k3, hf⟩ := cv_s hf
  refine b_cSN C [] dJ1_charAt_3b067_3 (kJ0_checkIndex_df160 l D cy B k3) lv_J1_9 ⟨rfl, rfl, Nat.le_of_ble_eq_true rfl, Nat.le_of_ble_eq_true rfl⟩ rfl (Nat.le_of_ble_eq_true rfl) ⟨Nat.zero_le _, Nat.zero_le _⟩ rfl ?_
  refine b_aload_n C dJ1_charAt_3b067_6 0 rfl rfl ?_
  refine b_iload_n C dJ1_charAt_3b067_7 1 rfl rfl ?_
  obtain ⟨h4, hf⟩ := gd_s hf
  refine b_xbal C h1 h4 dJ1_charAt_3b067_8 ?_
  refine b_sipush C (v := 255) dJ1_charAt_3b067_9 (by decide) ?_
  refine b_iand C dJ1_charAt_3b067_12 ?_
  refine b_i2c C dJ1_charAt_3b067_13 ?_
  obtain ⟨h5, hf⟩ := gd_s hf
  exact b_nret C hr hlocks (nar_c h5) hf dJ1_charAt_3b067_14
theorem kJ1_charAt_3b067 (l : Launch) (D : va_G) (cy : Nat → ClassId) (B : Bs) {N : Nat} {g : Gs} {x0 : Nat} {x1 : Int32} {vz : Int32} {dz : Ds} {d : Ds} (hf : fJ1_charAt_3b067 N g x0 x1 d = some (vz, dz)) : Met l yJ1_charAt_3b067 (.code yJ1_charAt_3b067 cJ1_charAt_3b067 2 (some .char) :: wl) rmJ1_charAt_3b067 (PC D cy B [.ref (ad B x0), .int x1] g d) (QI D cy B vz g dz) 0 0 (wA B) :=
  met_of (by decide +kernel) (Nat.le_of_ble_eq_true rfl) (fun p e s m args below meth c C hr hlocks _ => b_sub [(0, .ref (ad B x0)), (1, .int x1)] [0, 1] rfl (tJ1_charAt_3b067_E C hr hlocks hf))
/-! java/lang/String.charAt(I)C -/
theorem yo_J0_isLatin1_aae02 : yJ0_isLatin1_aae02.cls ≠ "java/lang/invoke/MethodHandle" ∧ yJ0_isLatin1_aae02.cls ≠ "java/lang/invoke/VarHandle" ∧ (parseMethodDescriptor yJ0_isLatin1_aae02.desc).map (fun d => d.parameters.length) = some 0 := by decide +kernel
theorem co_J0_isLatin1_aae02 : Cond.code yJ0_isLatin1_aae02 cJ0_isLatin1_aae02 1 (some .boolean) ∈ wl := mW (mT3 (List.mem_of_getElem? (i := 78) (by decide +kernel))) rfl
theorem in_J0_isLatin1_aae02 : Cond.initialized yJ0_isLatin1_aae02.cls ∈ wl := mW (mT1 (List.mem_of_getElem? (i := 13) (by decide +kernel))) rfl
theorem im_J0_isLatin1_aae02 : Cond.instanceMethod yJ0_isLatin1_aae02 ∈ wl := mW (mT3 (List.mem_of_getElem? (i := 76) (by decide +kernel))) rfl
theorem se_J0_isLatin1_aae02 : Cond.selects yJ0_isLatin1_aae02.cls yJ0_isLatin1_aae02 yJ0_isLatin1_aae02 ∈ wl := mW (mT3 (List.mem_of_getElem? (i := 77) (by decide +kernel))) rfl
theorem lx_J0_492 : LX RJ0 492 yJ0_isLatin1_aae02 cJ0_isLatin1_aae02 1 (some .boolean) 0 := ⟨rfl, yo_J0_isLatin1_aae02, mW (mT3 (List.mem_of_getElem? (i := 75) (by decide +kernel))) rfl, im_J0_isLatin1_aae02, se_J0_isLatin1_aae02, in_J0_isLatin1_aae02, co_J0_isLatin1_aae02⟩
theorem yo_J1_charAt_3b067 : yJ1_charAt_3b067.cls ≠ "java/lang/invoke/MethodHandle" ∧ yJ1_charAt_3b067.cls ≠ "java/lang/invoke/VarHandle" ∧ (parseMethodDescriptor yJ1_charAt_3b067.desc).map (fun d => d.parameters.length) = some 2 := by decide +kernel
theorem co_J1_charAt_3b067 : Cond.code yJ1_charAt_3b067 cJ1_charAt_3b067 2 (some .char) ∈ wl := mW (mT3 (List.mem_of_getElem? (i := 81) (by decide +kernel))) rfl
theorem in_J1_charAt_3b067 : Cond.initialized yJ1_charAt_3b067.cls ∈ wl := mW (mT1 (List.mem_of_getElem? (i := 14) (by decide +kernel))) rfl
theorem st_J1_charAt_3b067 : Cond.static yJ1_charAt_3b067 ∈ wl := mW (mT3 (List.mem_of_getElem? (i := 80) (by decide +kernel))) rfl
theorem lv_J0_495 : LSt RJ0 495 yJ1_charAt_3b067 cJ1_charAt_3b067 2 (some .char) 2 := ⟨yo_J1_charAt_3b067, Or.inl (mW (mT3 (List.mem_of_getElem? (i := 79) (by decide +kernel))) rfl), st_J1_charAt_3b067, in_J1_charAt_3b067, co_J1_charAt_3b067⟩
theorem dJ0_charAt_5068e_0 : decode cJ0_charAt_5068e 0 = .ok (.aload_n 0, 1) := by decide +kernel
theorem dJ0_charAt_5068e_1 : decode cJ0_charAt_5068e 1 = .ok (.invokevirtual 492, 3) := by decide +kernel
theorem dJ0_charAt_5068e_4 : decode cJ0_charAt_5068e 4 = .ok (.ifCond .eq 12, 3) := by decide +kernel
theorem dJ0_charAt_5068e_7 : decode cJ0_charAt_5068e 7 = .ok (.aload_n 0, 1) := by decide +kernel
theorem dJ0_charAt_5068e_8 : decode cJ0_charAt_5068e 8 = .ok (.getfield 9, 3) := by decide +kernel
theorem dJ0_charAt_5068e_11 : decode cJ0_charAt_5068e 11 = .ok (.iload_n 1, 1) := by decide +kernel
theorem dJ0_charAt_5068e_12 : decode cJ0_charAt_5068e 12 = .ok (.invokestatic 495, 3) := by decide +kernel
theorem dJ0_charAt_5068e_15 : decode cJ0_charAt_5068e 15 = .ok (.ireturn, 1) := by decide +kernel
theorem dJ0_charAt_5068e_16 : decode cJ0_charAt_5068e 16 = .ok (.aload_n 0, 1) := by decide +kernel
theorem dJ0_charAt_5068e_17 : decode cJ0_charAt_5068e 17 = .ok (.getfield 9, 3) := by decide +kernel
theorem dJ0_charAt_5068e_20 : decode cJ0_charAt_5068e 20 = .ok (.iload_n 1, 1) := by decide +kernel
theorem dJ0_charAt_5068e_21 : decode cJ0_charAt_5068e 21 = .ok (.invokestatic 498, 3) := by decide +kernel
theorem dJ0_charAt_5068e_24 : decode cJ0_charAt_5068e 24 = .ok (.ireturn, 1) := by decide +kernel
def rmJ0_charAt_5068e : Room := { frames := 3, cells := 0, slots := 0, locals := 64 }
set_option maxRecDepth 100000 in
def fJ0_charAt_5068e (N : Nat) (g : Gs) (x0 : Nat) (x1 : Int32) (d : Ds) : Option (Int32 × Ds) := gd (100021 ≤ x0 ∧ x0 < 100041) <| cb (fJ0_isLatin1_aae02 N g x0 d) fun u4 d2 => (if u4 = 0 then (none) else (cb (fJ1_charAt_3b067 N g (x0 + 20) x1 d2) fun u8 d6 => (gd ((u8.toUInt32 % 65536).toInt32 = u8) <| some (u8, d6))))
set_option maxHeartbeats 4000000 in
set_option maxRecDepth 100000 in
theorem tJ0_charAt_5068e_E {p : Program} {l : Launch} {e : Env} {s : State} {m : MethodId} {args : Array Value} {below : List Frame} {meth : Method} {c : Code} {D : va_G} {cy : Nat → ClassId} {B : Bs} (C : Cx p s m args c cJ0_charAt_5068e 2 RJ0 D cy B) (hr : meth.sig.returnType = (some .char)) (hlocks : meth.locks = false) {N : Nat} {g : Gs} {x0 : Nat} {x1 : Int32} {vz : Int32} {dz : Ds} {d : Ds} (hf : fJ0_charAt_5068e N g x0 x1 d = some (vz, dz)) : WB p l e rmJ0_charAt_5068e s m args below meth c 2 D cy B 0 0 (MQ below (QI D cy B vz g dz) args s 0 0 (wA B)) g d [(0, .ref (ad B x0)), (1, .int x1)] 0 [] := by
  unfold fJ0_charAt_5068e at hf
  refine b_aload_n C dJ0_charAt_5068e_0 0 rfl rfl ?_
  obtain ⟨h1, hf⟩ := gd_s hf
  obtain ⟨u4, d2, k3, hf⟩ := cb_s hf
  refine b_cXI C [] dJ0_charAt_5068e_1 (kJ0_isLatin1_aae02 l D cy B k3) lx_J0_492 ⟨rfl, rfl, Nat.le_of_ble_eq_true rfl, Nat.le_of_ble_eq_true rfl⟩ h1 rfl (Nat.le_of_ble_eq_true rfl) ⟨Nat.zero_le _, Nat.zero_le _⟩ rfl ?_
  refine b_if_eq C (tgt := 16) dJ0_charAt_5068e_4 (by decide) (fun c5 => ?_) (fun c5 => ?_)
  · have hf := it_s c5 hf
    refine b_aload_n C dJ0_charAt_5068e_16 0 rfl rfl ?_
    refine b_xval C h1 xf_J0_9 dJ0_charAt_5068e_17 ?_
    refine b_iload_n C dJ0_charAt_5068e_20 1 rfl rfl ?_
    cases hf
  · have hf := if_s c5 hf
    refine b_aload_n C dJ0_charAt_5068e_7 0 rfl rfl ?_
    refine b_xval C h1 xf_J0_9 dJ0_charAt_5068e_8 ?_
    refine b_iload_n C dJ0_charAt_5068e_11 1 rfl rfl ?_
    obtain ⟨u8, d6, k7, hf⟩ := cb_s hf
    refine b_cSI C [] dJ0_charAt_5068e_12 (kJ1_charAt_3b067 l D cy B k7) lv_J0_495 ⟨rfl, rfl, Nat.le_of_ble_eq_true rfl, Nat.le_of_ble_eq_true rfl⟩ rfl (Nat.le_of_ble_eq_true rfl) ⟨Nat.zero_le _, Nat.zero_le _⟩ rfl ?_
    obtain ⟨h9, hf⟩ := gd_s hf
    exact b_nret C hr hlocks (nar_c h9) hf dJ0_charAt_5068e_15
theorem kJ0_charAt_5068e (l : Launch) (D : va_G) (cy : Nat → ClassId) (B : Bs) {N : Nat} {g : Gs} {x0 : Nat} {x1 : Int32} {vz : Int32} {dz : Ds} {d : Ds} (hf : fJ0_charAt_5068e N g x0 x1 d = some (vz, dz)) : Met l yJ0_charAt_5068e (.code yJ0_charAt_5068e cJ0_charAt_5068e 2 (some .char) :: wl) rmJ0_charAt_5068e (PC D cy B [.ref (ad B x0), .int x1] g d) (QI D cy B vz g dz) 0 0 (wA B) :=
  met_of (by decide +kernel) (Nat.le_of_ble_eq_true rfl) (fun p e s m args below meth c C hr hlocks _ => b_sub [(0, .ref (ad B x0)), (1, .int x1)] [0, 1] rfl (tJ0_charAt_5068e_E C hr hlocks hf))
/-! KeyMatrix$Tokens.isSpelt(Ljava/lang/String;[BII)Z -/
theorem yo_J0_length_8abf5 : yJ0_length_8abf5.cls ≠ "java/lang/invoke/MethodHandle" ∧ yJ0_length_8abf5.cls ≠ "java/lang/invoke/VarHandle" ∧ (parseMethodDescriptor yJ0_length_8abf5.desc).map (fun d => d.parameters.length) = some 0 := by decide +kernel
theorem co_J0_length_8abf5 : Cond.code yJ0_length_8abf5 cJ0_length_8abf5 1 (some .int) ∈ wl := mW (mT3 (List.mem_of_getElem? (i := 64) (by decide +kernel))) rfl
theorem in_J0_length_8abf5 : Cond.initialized yJ0_length_8abf5.cls ∈ wl := mW (mT1 (List.mem_of_getElem? (i := 13) (by decide +kernel))) rfl
theorem im_J0_length_8abf5 : Cond.instanceMethod yJ0_length_8abf5 ∈ wl := mW (mT3 (List.mem_of_getElem? (i := 62) (by decide +kernel))) rfl
theorem se_J0_length_8abf5 : Cond.selects yJ0_length_8abf5.cls yJ0_length_8abf5 yJ0_length_8abf5 ∈ wl := mW (mT3 (List.mem_of_getElem? (i := 63) (by decide +kernel))) rfl
theorem lx_X8_60 : LX RX8 60 yJ0_length_8abf5 cJ0_length_8abf5 1 (some .int) 0 := ⟨rfl, yo_J0_length_8abf5, mW (mT3 (List.mem_of_getElem? (i := 61) (by decide +kernel))) rfl, im_J0_length_8abf5, se_J0_length_8abf5, in_J0_length_8abf5, co_J0_length_8abf5⟩
theorem yo_J0_charAt_5068e : yJ0_charAt_5068e.cls ≠ "java/lang/invoke/MethodHandle" ∧ yJ0_charAt_5068e.cls ≠ "java/lang/invoke/VarHandle" ∧ (parseMethodDescriptor yJ0_charAt_5068e.desc).map (fun d => d.parameters.length) = some 1 := by decide +kernel
theorem co_J0_charAt_5068e : Cond.code yJ0_charAt_5068e cJ0_charAt_5068e 2 (some .char) ∈ wl := mW (mT3 (List.mem_of_getElem? (i := 74) (by decide +kernel))) rfl
theorem in_J0_charAt_5068e : Cond.initialized yJ0_charAt_5068e.cls ∈ wl := mW (mT1 (List.mem_of_getElem? (i := 13) (by decide +kernel))) rfl
theorem im_J0_charAt_5068e : Cond.instanceMethod yJ0_charAt_5068e ∈ wl := mW (mT3 (List.mem_of_getElem? (i := 72) (by decide +kernel))) rfl
theorem se_J0_charAt_5068e : Cond.selects yJ0_charAt_5068e.cls yJ0_charAt_5068e yJ0_charAt_5068e ∈ wl := mW (mT3 (List.mem_of_getElem? (i := 73) (by decide +kernel))) rfl
theorem lx_X8_66 : LX RX8 66 yJ0_charAt_5068e cJ0_charAt_5068e 2 (some .char) 1 := ⟨rfl, yo_J0_charAt_5068e, mW (mT3 (List.mem_of_getElem? (i := 71) (by decide +kernel))) rfl, im_J0_charAt_5068e, se_J0_charAt_5068e, in_J0_charAt_5068e, co_J0_charAt_5068e⟩
theorem dX8_isSpelt_0 : decode cX8_isSpelt 0 = .ok (.aload_n 0, 1) := by decide +kernel
theorem dX8_isSpelt_1 : decode cX8_isSpelt 1 = .ok (.invokevirtual 60, 3) := by decide +kernel
theorem dX8_isSpelt_4 : decode cX8_isSpelt 4 = .ok (.iload_n 3, 1) := by decide +kernel
theorem dX8_isSpelt_5 : decode cX8_isSpelt 5 = .ok (.iload_n 2, 1) := by decide +kernel
theorem dX8_isSpelt_6 : decode cX8_isSpelt 6 = .ok (.isub, 1) := by decide +kernel
theorem dX8_isSpelt_7 : decode cX8_isSpelt 7 = .ok (.if_icmp .eq 5, 3) := by decide +kernel
theorem dX8_isSpelt_10 : decode cX8_isSpelt 10 = .ok (.iconst 0, 1) := by decide +kernel
theorem dX8_isSpelt_11 : decode cX8_isSpelt 11 = .ok (.ireturn, 1) := by decide +kernel
theorem dX8_isSpelt_12 : decode cX8_isSpelt 12 = .ok (.iconst 0, 1) := by decide +kernel
theorem dX8_isSpelt_13 : decode cX8_isSpelt 13 = .ok (.istore 4, 2) := by decide +kernel
theorem dX8_isSpelt_15 : decode cX8_isSpelt 15 = .ok (.iload 4, 2) := by decide +kernel
theorem dX8_isSpelt_17 : decode cX8_isSpelt 17 = .ok (.aload_n 0, 1) := by decide +kernel
theorem dX8_isSpelt_18 : decode cX8_isSpelt 18 = .ok (.invokevirtual 60, 3) := by decide +kernel
theorem dX8_isSpelt_21 : decode cX8_isSpelt 21 = .ok (.if_icmp .ge 26, 3) := by decide +kernel
theorem dX8_isSpelt_24 : decode cX8_isSpelt 24 = .ok (.aload_n 0, 1) := by decide +kernel
theorem dX8_isSpelt_25 : decode cX8_isSpelt 25 = .ok (.iload 4, 2) := by decide +kernel
theorem dX8_isSpelt_27 : decode cX8_isSpelt 27 = .ok (.invokevirtual 66, 3) := by decide +kernel
theorem dX8_isSpelt_30 : decode cX8_isSpelt 30 = .ok (.aload_n 1, 1) := by decide +kernel
theorem dX8_isSpelt_31 : decode cX8_isSpelt 31 = .ok (.iload_n 2, 1) := by decide +kernel
theorem dX8_isSpelt_32 : decode cX8_isSpelt 32 = .ok (.iload 4, 2) := by decide +kernel
theorem dX8_isSpelt_34 : decode cX8_isSpelt 34 = .ok (.iadd, 1) := by decide +kernel
theorem dX8_isSpelt_35 : decode cX8_isSpelt 35 = .ok (.baload, 1) := by decide +kernel
theorem dX8_isSpelt_36 : decode cX8_isSpelt 36 = .ok (.if_icmp .eq 5, 3) := by decide +kernel
theorem dX8_isSpelt_39 : decode cX8_isSpelt 39 = .ok (.iconst 0, 1) := by decide +kernel
theorem dX8_isSpelt_40 : decode cX8_isSpelt 40 = .ok (.ireturn, 1) := by decide +kernel
theorem dX8_isSpelt_41 : decode cX8_isSpelt 41 = .ok (.iinc 4 1, 3) := by decide +kernel
theorem dX8_isSpelt_44 : decode cX8_isSpelt 44 = .ok (.goto (-29), 3) := by decide +kernel
theorem dX8_isSpelt_47 : decode cX8_isSpelt 47 = .ok (.iconst 1, 1) := by decide +kernel
theorem dX8_isSpelt_48 : decode cX8_isSpelt 48 = .ok (.ireturn, 1) := by decide +kernel
def rmX8_isSpelt : Room := { frames := 4, cells := 0, slots := 0, locals := 85 }
set_option maxRecDepth 100000 in
def fX8_isSpelt_B15 (N : Nat) (g : Gs) (x0 : Nat) (x1 : Nat) (x2 : Int32) (x3 : Int32) (K15 : Int32 × Ds → Option (Int32 × Ds)) (y4 : Int32) (d : Ds) : Option (Int32 × Ds) := gd (100021 ≤ x0 ∧ x0 < 100041) <| cb (fJ0_length_8abf5 N g x0 d) fun u9 d7 => (if u9 ≤ y4 then (some (1, d7)) else (cb (fJ0_charAt_5068e N g x0 y4 d7) fun u13 d11 => (gd (chk g x1 100) <| gd (¬ ((x2 + y4) < 0 ∨ gL g x1 ≤ (x2 + y4).toNatClampNeg)) <| if u13 = (dI d11 x1 (x2 + y4).toNatClampNeg) then (bd (y4 + 1) fun u17 => (K15 (u17, d11))) else (some (0, d11)))))
set_option maxHeartbeats 4000000 in
set_option maxRecDepth 100000 in
theorem tX8_isSpelt_15 {p : Program} {l : Launch} {e : Env} {s : State} {m : MethodId} {args : Array Value} {below : List Frame} {meth : Method} {c : Code} {D : va_G} {cy : Nat → ClassId} {B : Bs} (C : Cx p s m args c cX8_isSpelt 5 RX8 D cy B) (hr : meth.sig.returnType = (some .boolean)) (hlocks : meth.locks = false) {N : Nat} {g : Gs} {x0 : Nat} {x1 : Nat} {x2 : Int32} {x3 : Int32} {vz : Int32} {dz : Ds} {K15 : Int32 × Ds → Option (Int32 × Ds)} (hK15 : ∀ a, K15 a = some (vz, dz) → WB p l e rmX8_isSpelt s m args below meth c 5 D cy B 0 0 (MQ below (QI D cy B vz g dz) args s 0 0 (wA B)) g a.2 [(0, .ref (ad B x0)), (1, .ref (ad B x1)), (2, .int x2), (3, .int x3), (4, .int a.1)] 15 []) {y4 : Int32} {d : Ds} (hf : fX8_isSpelt_B15 N g x0 x1 x2 x3 K15 y4 d = some (vz, dz)) : WB p l e rmX8_isSpelt s m args below meth c 5 D cy B 0 0 (MQ below (QI D cy B vz g dz) args s 0 0 (wA B)) g d [(0, .ref (ad B x0)), (1, .ref (ad B x1)), (2, .int x2), (3, .int x3), (4, .int y4)] 15 [] := by
  unfold fX8_isSpelt_B15 at hf
  refine b_iload C dX8_isSpelt_15 4 rfl ?_
  refine b_aload_n C dX8_isSpelt_17 0 rfl rfl ?_
  obtain ⟨h6, hf⟩ := gd_s hf
  obtain ⟨u9, d7, k8, hf⟩ := cb_s hf
  refine b_cXI C [.int y4] dX8_isSpelt_18 (kJ0_length_8abf5 l D cy B k8) lx_X8_60 ⟨rfl, rfl, Nat.le_of_ble_eq_true rfl, Nat.le_of_ble_eq_true rfl⟩ h6 rfl (Nat.le_of_ble_eq_true rfl) ⟨Nat.zero_le _, Nat.zero_le _⟩ rfl ?_
  refine b_icmp_ge C (tgt := 47) dX8_isSpelt_21 (by decide) (fun c10 => ?_) (fun c10 => ?_)
  · have hf := it_s c10 hf
    refine b_iconst C (v := 1) dX8_isSpelt_47 (by decide) ?_
    exact b_zret C hr hlocks (by decide) hf dX8_isSpelt_48
  · have hf := if_s c10 hf
    refine b_aload_n C dX8_isSpelt_24 0 rfl rfl ?_
    refine b_iload C dX8_isSpelt_25 4 rfl ?_
    obtain ⟨u13, d11, k12, hf⟩ := cb_s hf
    refine b_cXI C [] dX8_isSpelt_27 (kJ0_charAt_5068e l D cy B k12) lx_X8_66 ⟨rfl, rfl, Nat.le_of_ble_eq_true rfl, Nat.le_of_ble_eq_true rfl⟩ h6 rfl (Nat.le_of_ble_eq_true rfl) ⟨Nat.zero_le _, Nat.zero_le _⟩ rfl ?_
    refine b_aload_n C dX8_isSpelt_30 1 rfl rfl ?_
    refine b_iload_n C dX8_isSpelt_31 2 rfl rfl ?_
    refine b_iload C dX8_isSpelt_32 4 rfl ?_
    refine b_iadd C dX8_isSpelt_34 ?_
    obtain ⟨h14, hf⟩ := gd_s hf
    obtain ⟨h15, hf⟩ := gd_s hf
    refine b_bald C h14 h15 dX8_isSpelt_35 ?_
    refine b_icmp_eq C (tgt := 41) dX8_isSpelt_36 (by decide) (fun c16 => ?_) (fun c16 => ?_)
    · have hf := it_s c16 hf
      obtain ⟨u17, eu17, hf⟩ := bd_s hf
      refine b_iinc C dX8_isSpelt_41 4 rfl (by rw [eu17]; rfl) [(4, .int u17), (0, .ref (ad B x0)), (1, .ref (ad B x1)), (2, .int x2), (3, .int x3)] (by decide) rfl ?_
      refine b_goto C (tgt := 15) dX8_isSpelt_44 (by decide) ?_
      refine b_sub [(0, .ref (ad B x0)), (1, .ref (ad B x1)), (2, .int x2), (3, .int x3), (4, .int u17)] [1, 2, 3, 4, 0] rfl ?_
      exact hK15 (u17, d11) hf
    · have hf := if_s c16 hf
      refine b_iconst C (v := 0) dX8_isSpelt_39 (by decide) ?_
      exact b_zret C hr hlocks (by decide) hf dX8_isSpelt_40
def fX8_isSpelt_L15 (N : Nat) (g : Gs) (x0 : Nat) (x1 : Nat) (x2 : Int32) (x3 : Int32) : Int32 × Ds → Option (Int32 × Ds) := lp (fun K15 a => fX8_isSpelt_B15 N g x0 x1 x2 x3 K15 a.1 a.2) N
theorem tX8_isSpelt_L15 {p : Program} {l : Launch} {e : Env} {s : State} {m : MethodId} {args : Array Value} {below : List Frame} {meth : Method} {c : Code} {D : va_G} {cy : Nat → ClassId} {B : Bs} (C : Cx p s m args c cX8_isSpelt 5 RX8 D cy B) (hr : meth.sig.returnType = (some .boolean)) (hlocks : meth.locks = false) {N : Nat} {g : Gs} {x0 : Nat} {x1 : Nat} {x2 : Int32} {x3 : Int32} {vz : Int32} {dz : Ds} (a : Int32 × Ds) (hf : fX8_isSpelt_L15 N g x0 x1 x2 x3 a = some (vz, dz)) : WB p l e rmX8_isSpelt s m args below meth c 5 D cy B 0 0 (MQ below (QI D cy B vz g dz) args s 0 0 (wA B)) g a.2 [(0, .ref (ad B x0)), (1, .ref (ad B x1)), (2, .int x2), (3, .int x3), (4, .int a.1)] 15 [] :=
  lp_w (fun K15 hK15 a ha => tX8_isSpelt_15 C hr hlocks hK15 ha) N a hf
set_option maxRecDepth 100000 in
def fX8_isSpelt (N : Nat) (g : Gs) (x0 : Nat) (x1 : Nat) (x2 : Int32) (x3 : Int32) (d : Ds) : Option (Int32 × Ds) := gd (100021 ≤ x0 ∧ x0 < 100041) <| cb (fJ0_length_8abf5 N g x0 d) fun u4 d2 => (if u4 = (x3 - x2) then (fX8_isSpelt_L15 N g x0 x1 x2 x3 (0, d2)) else (some (0, d2)))
set_option maxHeartbeats 4000000 in
set_option maxRecDepth 100000 in
theorem tX8_isSpelt_E {p : Program} {l : Launch} {e : Env} {s : State} {m : MethodId} {args : Array Value} {below : List Frame} {meth : Method} {c : Code} {D : va_G} {cy : Nat → ClassId} {B : Bs} (C : Cx p s m args c cX8_isSpelt 5 RX8 D cy B) (hr : meth.sig.returnType = (some .boolean)) (hlocks : meth.locks = false) {N : Nat} {g : Gs} {x0 : Nat} {x1 : Nat} {x2 : Int32} {x3 : Int32} {vz : Int32} {dz : Ds} {d : Ds} (hf : fX8_isSpelt N g x0 x1 x2 x3 d = some (vz, dz)) : WB p l e rmX8_isSpelt s m args below meth c 5 D cy B 0 0 (MQ below (QI D cy B vz g dz) args s 0 0 (wA B)) g d [(0, .ref (ad B x0)), (1, .ref (ad B x1)), (2, .int x2), (3, .int x3)] 0 [] := by
  unfold fX8_isSpelt at hf
  refine b_aload_n C dX8_isSpelt_0 0 rfl rfl ?_
  obtain ⟨h1, hf⟩ := gd_s hf
  obtain ⟨u4, d2, k3, hf⟩ := cb_s hf
  refine b_cXI C [] dX8_isSpelt_1 (kJ0_length_8abf5 l D cy B k3) lx_X8_60 ⟨rfl, rfl, Nat.le_of_ble_eq_true rfl, Nat.le_of_ble_eq_true rfl⟩ h1 rfl (Nat.le_of_ble_eq_true rfl) ⟨Nat.zero_le _, Nat.zero_le _⟩ rfl ?_
  refine b_iload_n C dX8_isSpelt_4 3 rfl rfl ?_
  refine b_iload_n C dX8_isSpelt_5 2 rfl rfl ?_
  refine b_isub C dX8_isSpelt_6 ?_
  refine b_icmp_eq C (tgt := 12) dX8_isSpelt_7 (by decide) (fun c5 => ?_) (fun c5 => ?_)
  · have hf := it_s c5 hf
    refine b_iconst C (v := 0) dX8_isSpelt_12 (by decide) ?_
    refine b_istore C dX8_isSpelt_13 [(4, .int 0), (0, .ref (ad B x0)), (1, .ref (ad B x1)), (2, .int x2), (3, .int x3)] (by decide) rfl ?_
    refine b_sub [(0, .ref (ad B x0)), (1, .ref (ad B x1)), (2, .int x2), (3, .int x3), (4, .int 0)] [1, 2, 3, 4, 0] rfl ?_
    exact tX8_isSpelt_L15 C hr hlocks (0, d2) hf
  · have hf := if_s c5 hf
    refine b_iconst C (v := 0) dX8_isSpelt_10 (by decide) ?_
    exact b_zret C hr hlocks (by decide) hf dX8_isSpelt_11
theorem kX8_isSpelt (l : Launch) (D : va_G) (cy : Nat → ClassId) (B : Bs) {N : Nat} {g : Gs} {x0 : Nat} {x1 : Nat} {x2 : Int32} {x3 : Int32} {vz : Int32} {dz : Ds} {d : Ds} (hf : fX8_isSpelt N g x0 x1 x2 x3 d = some (vz, dz)) : Met l yX8_isSpelt (.code yX8_isSpelt cX8_isSpelt 5 (some .boolean) :: wl) rmX8_isSpelt (PC D cy B [.ref (ad B x0), .ref (ad B x1), .int x2, .int x3] g d) (QI D cy B vz g dz) 0 0 (wA B) :=
  met_of (by decide +kernel) (Nat.le_of_ble_eq_true rfl) (fun p e s m args below meth c C hr hlocks _ => b_sub [(0, .ref (ad B x0)), (1, .ref (ad B x1)), (2, .int x2), (3, .int x3)] [0, 1, 2, 3] rfl (tX8_isSpelt_E C hr hlocks hf))
/-! KeyMatrix$Tokens.cutWord([BI)I -/
theorem fl_X8_9 : FLR RX8 9 8 0 := ⟨⟨RX8, TX8, 6, rfl, by decide, inl8, Or.inl (mW (mT1 (List.mem_of_getElem? (i := 44) (by decide +kernel))) rfl)⟩, by decide, by decide +kernel⟩
theorem fl_X8_25 : FLI RX8 25 8 4 := ⟨⟨RX8, TX8, 6, rfl, by decide, inl8, Or.inl (mW (mT1 (List.mem_of_getElem? (i := 48) (by decide +kernel))) rfl)⟩, by decide, by decide +kernel⟩
theorem ws_X8_49 : Cond.fieldLink RX8 49 "KeyMatrix$Tokens" "WORDS" "[LKeyMatrix$Word;" ∈ wl := mW (mT3 (List.mem_of_getElem? (i := 56) (by decide +kernel))) rfl
theorem wt_X8_52 : Cond.fieldLinkNest RX8 52 "KeyMatrix$Word" "text" "Ljava/lang/String;" "KeyMatrix" ∈ lw_tbl := mT7 (List.mem_of_getElem? (i := 47) (by decide +kernel))
theorem yo_X8_isSpelt : yX8_isSpelt.cls ≠ "java/lang/invoke/MethodHandle" ∧ yX8_isSpelt.cls ≠ "java/lang/invoke/VarHandle" ∧ (parseMethodDescriptor yX8_isSpelt.desc).map (fun d => d.parameters.length) = some 4 := by decide +kernel
theorem co_X8_isSpelt : Cond.code yX8_isSpelt cX8_isSpelt 5 (some .boolean) ∈ wl := mW (mT3 (List.mem_of_getElem? (i := 60) (by decide +kernel))) rfl
theorem in_X8_isSpelt : Cond.initialized yX8_isSpelt.cls ∈ wl := mW (mT1 (List.mem_of_getElem? (i := 3) (by decide +kernel))) rfl
theorem st_X8_isSpelt : Cond.static yX8_isSpelt ∈ wl := mW (mT3 (List.mem_of_getElem? (i := 59) (by decide +kernel))) rfl
theorem lv_X8_56 : LSt RX8 56 yX8_isSpelt cX8_isSpelt 5 (some .boolean) 4 := ⟨yo_X8_isSpelt, Or.inl (mW (mT3 (List.mem_of_getElem? (i := 58) (by decide +kernel))) rfl), st_X8_isSpelt, in_X8_isSpelt, co_X8_isSpelt⟩
theorem fl_X8_21 : FLR RX8 21 8 3 := ⟨⟨RX8, TX8, 6, rfl, by decide, inl8, Or.inl (mW (mT1 (List.mem_of_getElem? (i := 47) (by decide +kernel))) rfl)⟩, by decide, by decide +kernel⟩
theorem yo_X8_isLetter : yX8_isLetter.cls ≠ "java/lang/invoke/MethodHandle" ∧ yX8_isLetter.cls ≠ "java/lang/invoke/VarHandle" ∧ (parseMethodDescriptor yX8_isLetter.desc).map (fun d => d.parameters.length) = some 1 := by decide +kernel
theorem co_X8_isLetter : Cond.code yX8_isLetter cX8_isLetter 1 (some .boolean) ∈ wl := mW (mT3 (List.mem_of_getElem? (i := 51) (by decide +kernel))) rfl
theorem in_X8_isLetter : Cond.initialized yX8_isLetter.cls ∈ wl := mW (mT1 (List.mem_of_getElem? (i := 3) (by decide +kernel))) rfl
theorem st_X8_isLetter : Cond.static yX8_isLetter ∈ wl := mW (mT3 (List.mem_of_getElem? (i := 50) (by decide +kernel))) rfl
theorem lv_X8_36 : LSt RX8 36 yX8_isLetter cX8_isLetter 1 (some .boolean) 1 := ⟨yo_X8_isLetter, Or.inl (mW (mT3 (List.mem_of_getElem? (i := 49) (by decide +kernel))) rfl), st_X8_isLetter, in_X8_isLetter, co_X8_isLetter⟩
theorem dX8_cutWord_0 : decode cX8_cutWord 0 = .ok (.iload_n 2, 1) := by decide +kernel
theorem dX8_cutWord_1 : decode cX8_cutWord 1 = .ok (.istore_n 3, 1) := by decide +kernel
theorem dX8_cutWord_2 : decode cX8_cutWord 2 = .ok (.iload_n 3, 1) := by decide +kernel
theorem dX8_cutWord_3 : decode cX8_cutWord 3 = .ok (.aload_n 0, 1) := by decide +kernel
theorem dX8_cutWord_4 : decode cX8_cutWord 4 = .ok (.getfield 29, 3) := by decide +kernel
theorem dX8_cutWord_7 : decode cX8_cutWord 7 = .ok (.if_icmp .ge 18, 3) := by decide +kernel
theorem dX8_cutWord_10 : decode cX8_cutWord 10 = .ok (.aload_n 1, 1) := by decide +kernel
theorem dX8_cutWord_11 : decode cX8_cutWord 11 = .ok (.iload_n 3, 1) := by decide +kernel
theorem dX8_cutWord_12 : decode cX8_cutWord 12 = .ok (.baload, 1) := by decide +kernel
theorem dX8_cutWord_13 : decode cX8_cutWord 13 = .ok (.invokestatic 36, 3) := by decide +kernel
theorem dX8_cutWord_16 : decode cX8_cutWord 16 = .ok (.ifCond .eq 9, 3) := by decide +kernel
theorem dX8_cutWord_19 : decode cX8_cutWord 19 = .ok (.iinc 3 1, 3) := by decide +kernel
theorem dX8_cutWord_22 : decode cX8_cutWord 22 = .ok (.goto (-20), 3) := by decide +kernel
theorem dX8_cutWord_25 : decode cX8_cutWord 25 = .ok (.aload_n 0, 1) := by decide +kernel
theorem dX8_cutWord_26 : decode cX8_cutWord 26 = .ok (.getfield 9, 3) := by decide +kernel
theorem dX8_cutWord_29 : decode cX8_cutWord 29 = .ok (.aload_n 0, 1) := by decide +kernel
theorem dX8_cutWord_30 : decode cX8_cutWord 30 = .ok (.getfield 25, 3) := by decide +kernel
theorem dX8_cutWord_33 : decode cX8_cutWord 33 = .ok (.iconst 1, 1) := by decide +kernel
theorem dX8_cutWord_34 : decode cX8_cutWord 34 = .ok (.iastore, 1) := by decide +kernel
theorem dX8_cutWord_35 : decode cX8_cutWord 35 = .ok (.getstatic 49, 3) := by decide +kernel
theorem dX8_cutWord_38 : decode cX8_cutWord 38 = .ok (.astore 4, 2) := by decide +kernel
theorem dX8_cutWord_40 : decode cX8_cutWord 40 = .ok (.aload 4, 2) := by decide +kernel
theorem dX8_cutWord_42 : decode cX8_cutWord 42 = .ok (.arraylength, 1) := by decide +kernel
theorem dX8_cutWord_43 : decode cX8_cutWord 43 = .ok (.istore 5, 2) := by decide +kernel
theorem dX8_cutWord_45 : decode cX8_cutWord 45 = .ok (.iconst 0, 1) := by decide +kernel
theorem dX8_cutWord_46 : decode cX8_cutWord 46 = .ok (.istore 6, 2) := by decide +kernel
theorem dX8_cutWord_48 : decode cX8_cutWord 48 = .ok (.iload 6, 2) := by decide +kernel
theorem dX8_cutWord_50 : decode cX8_cutWord 50 = .ok (.iload 5, 2) := by decide +kernel
theorem dX8_cutWord_52 : decode cX8_cutWord 52 = .ok (.if_icmp .ge 41, 3) := by decide +kernel
theorem dX8_cutWord_55 : decode cX8_cutWord 55 = .ok (.aload 4, 2) := by decide +kernel
theorem dX8_cutWord_57 : decode cX8_cutWord 57 = .ok (.iload 6, 2) := by decide +kernel
theorem dX8_cutWord_59 : decode cX8_cutWord 59 = .ok (.aaload, 1) := by decide +kernel
theorem dX8_cutWord_60 : decode cX8_cutWord 60 = .ok (.astore 7, 2) := by decide +kernel
theorem dX8_cutWord_62 : decode cX8_cutWord 62 = .ok (.aload 7, 2) := by decide +kernel
theorem dX8_cutWord_64 : decode cX8_cutWord 64 = .ok (.getfield 52, 3) := by decide +kernel
theorem dX8_cutWord_67 : decode cX8_cutWord 67 = .ok (.aload_n 1, 1) := by decide +kernel
theorem dX8_cutWord_68 : decode cX8_cutWord 68 = .ok (.iload_n 2, 1) := by decide +kernel
theorem dX8_cutWord_69 : decode cX8_cutWord 69 = .ok (.iload_n 3, 1) := by decide +kernel
theorem dX8_cutWord_70 : decode cX8_cutWord 70 = .ok (.invokestatic 56, 3) := by decide +kernel
theorem dX8_cutWord_73 : decode cX8_cutWord 73 = .ok (.ifCond .eq 14, 3) := by decide +kernel
theorem dX8_cutWord_76 : decode cX8_cutWord 76 = .ok (.aload_n 0, 1) := by decide +kernel
theorem dX8_cutWord_77 : decode cX8_cutWord 77 = .ok (.getfield 21, 3) := by decide +kernel
theorem dX8_cutWord_80 : decode cX8_cutWord 80 = .ok (.aload_n 0, 1) := by decide +kernel
theorem dX8_cutWord_81 : decode cX8_cutWord 81 = .ok (.getfield 25, 3) := by decide +kernel
theorem dX8_cutWord_84 : decode cX8_cutWord 84 = .ok (.aload 7, 2) := by decide +kernel
theorem dX8_cutWord_86 : decode cX8_cutWord 86 = .ok (.aastore, 1) := by decide +kernel
theorem dX8_cutWord_87 : decode cX8_cutWord 87 = .ok (.iinc 6 1, 3) := by decide +kernel
theorem dX8_cutWord_90 : decode cX8_cutWord 90 = .ok (.goto (-42), 3) := by decide +kernel
theorem dX8_cutWord_93 : decode cX8_cutWord 93 = .ok (.iload_n 3, 1) := by decide +kernel
theorem dX8_cutWord_94 : decode cX8_cutWord 94 = .ok (.ireturn, 1) := by decide +kernel
def rmX8_cutWord : Room := { frames := 5, cells := 0, slots := 0, locals := 109 }
set_option maxRecDepth 100000 in
def fX8_cutWord_J87 (N : Nat) (g : Gs) (x0 : Nat) (x1 : Nat) (x2 : Int32) (K48 : Int32 × Nat × Int32 × Int32 × Ds → Option (Int32 × Ds)) (y3 : Int32) (y4 : Nat) (y5 : Int32) (y6 : Int32) (d : Ds) : Option (Int32 × Ds) := bd (y6 + 1) fun u16 => (K48 (y3, y4, y5, u16, d))
set_option maxHeartbeats 4000000 in
set_option maxRecDepth 100000 in
theorem tX8_cutWord_87 {p : Program} {l : Launch} {e : Env} {s : State} {m : MethodId} {args : Array Value} {below : List Frame} {meth : Method} {c : Code} {D : va_G} {cy : Nat → ClassId} {B : Bs} (C : Cx p s m args c cX8_cutWord 8 RX8 D cy B) (hr : meth.sig.returnType = (some .int)) (hlocks : meth.locks = false) {N : Nat} {g : Gs} {x0 : Nat} {x1 : Nat} {x2 : Int32} {vz : Int32} {dz : Ds} {K48 : Int32 × Nat × Int32 × Int32 × Ds → Option (Int32 × Ds)} (hK48 : ∀ a, K48 a = some (vz, dz) → WB p l e rmX8_cutWord s m args below meth c 8 D cy B 0 0 (MQ below (QI D cy B vz g dz) args s 0 0 (wA B)) g a.2.2.2.2 [(0, .ref (ad B x0)), (1, .ref (ad B x1)), (2, .int x2), (3, .int a.1), (4, .ref (ad B a.2.1)), (5, .int a.2.2.1), (6, .int a.2.2.2.1)] 48 []) {y3 : Int32} {y4 : Nat} {y5 : Int32} {y6 : Int32} {d : Ds} (hf : fX8_cutWord_J87 N g x0 x1 x2 K48 y3 y4 y5 y6 d = some (vz, dz)) : WB p l e rmX8_cutWord s m args below meth c 8 D cy B 0 0 (MQ below (QI D cy B vz g dz) args s 0 0 (wA B)) g d [(0, .ref (ad B x0)), (1, .ref (ad B x1)), (2, .int x2), (3, .int y3), (4, .ref (ad B y4)), (5, .int y5), (6, .int y6)] 87 [] := by
  unfold fX8_cutWord_J87 at hf
  obtain ⟨u16, eu16, hf⟩ := bd_s hf
  refine b_iinc C dX8_cutWord_87 6 rfl (by rw [eu16]; rfl) [(6, .int u16), (0, .ref (ad B x0)), (1, .ref (ad B x1)), (2, .int x2), (3, .int y3), (4, .ref (ad B y4)), (5, .int y5)] (by decide) rfl ?_
  refine b_goto C (tgt := 48) dX8_cutWord_90 (by decide) ?_
  refine b_sub [(0, .ref (ad B x0)), (1, .ref (ad B x1)), (2, .int x2), (3, .int y3), (4, .ref (ad B y4)), (5, .int y5), (6, .int u16)] [1, 2, 3, 4, 5, 6, 0] rfl ?_
  exact hK48 (y3, y4, y5, u16, d) hf
set_option maxRecDepth 100000 in
def fX8_cutWord_B48 (N : Nat) (g : Gs) (x0 : Nat) (x1 : Nat) (x2 : Int32) (K48 : Int32 × Nat × Int32 × Int32 × Ds → Option (Int32 × Ds)) (y3 : Int32) (y4 : Nat) (y5 : Int32) (y6 : Int32) (d : Ds) : Option (Int32 × Ds) := if y5 ≤ y6 then (some (y3, d)) else (gd (y4 = 100020) <| gd (¬ (y6 < 0 ∨ 20 ≤ y6.toNatClampNeg)) <| gd (100000 ≤ (100000 + y6.toNatClampNeg) ∧ (100000 + y6.toNatClampNeg) < 100020) <| cb (fX8_isSpelt N g ((100000 + y6.toNatClampNeg) + 21) x1 x2 y3 d) fun u14 d12 => (if u14 = 0 then (fX8_cutWord_J87 N g x0 x1 x2 K48 y3 y4 y5 y6 d12) else (gd (chk g x0 8) <| ob (gR g x0 3) fun r18 => (gd (chk g r18 107) <| gd (¬ ((dI d12 x0 4) < 0 ∨ gL g r18 ≤ (dI d12 x0 4).toNatClampNeg)) <| gd (wkb (some (100000 + y6.toNatClampNeg))) <| bd (sW d12 r18 (dI d12 x0 4).toNatClampNeg (some (100000 + y6.toNatClampNeg))) fun d22 => (fX8_cutWord_J87 N g x0 x1 x2 K48 y3 y4 y5 y6 d22)))))
set_option maxHeartbeats 4000000 in
set_option maxRecDepth 100000 in
theorem tX8_cutWord_48 {p : Program} {l : Launch} {e : Env} {s : State} {m : MethodId} {args : Array Value} {below : List Frame} {meth : Method} {c : Code} {D : va_G} {cy : Nat → ClassId} {B : Bs} (C : Cx p s m args c cX8_cutWord 8 RX8 D cy B) (hr : meth.sig.returnType = (some .int)) (hlocks : meth.locks = false) {N : Nat} {g : Gs} {x0 : Nat} {x1 : Nat} {x2 : Int32} {vz : Int32} {dz : Ds} {K48 : Int32 × Nat × Int32 × Int32 × Ds → Option (Int32 × Ds)} (hK48 : ∀ a, K48 a = some (vz, dz) → WB p l e rmX8_cutWord s m args below meth c 8 D cy B 0 0 (MQ below (QI D cy B vz g dz) args s 0 0 (wA B)) g a.2.2.2.2 [(0, .ref (ad B x0)), (1, .ref (ad B x1)), (2, .int x2), (3, .int a.1), (4, .ref (ad B a.2.1)), (5, .int a.2.2.1), (6, .int a.2.2.2.1)] 48 []) {y3 : Int32} {y4 : Nat} {y5 : Int32} {y6 : Int32} {d : Ds} (hf : fX8_cutWord_B48 N g x0 x1 x2 K48 y3 y4 y5 y6 d = some (vz, dz)) : WB p l e rmX8_cutWord s m args below meth c 8 D cy B 0 0 (MQ below (QI D cy B vz g dz) args s 0 0 (wA B)) g d [(0, .ref (ad B x0)), (1, .ref (ad B x1)), (2, .int x2), (3, .int y3), (4, .ref (ad B y4)), (5, .int y5), (6, .int y6)] 48 [] := by
  unfold fX8_cutWord_B48 at hf
  refine b_iload C dX8_cutWord_48 6 rfl ?_
  refine b_iload C dX8_cutWord_50 5 rfl ?_
  refine b_icmp_ge C (tgt := 93) dX8_cutWord_52 (by decide) (fun c8 => ?_) (fun c8 => ?_)
  · have hf := it_s c8 hf
    refine b_iload_n C dX8_cutWord_93 3 rfl rfl ?_
    exact b_iret C hr hlocks hf dX8_cutWord_94
  · have hf := if_s c8 hf
    refine b_aload C dX8_cutWord_55 4 rfl ?_
    refine b_iload C dX8_cutWord_57 6 rfl ?_
    obtain ⟨h9, hf⟩ := gd_s hf
    obtain ⟨h10, hf⟩ := gd_s hf
    refine b_waal C h9 h10 dX8_cutWord_59 ?_
    refine b_astore C dX8_cutWord_60 [(7, .ref (ad B (100000 + y6.toNatClampNeg))), (0, .ref (ad B x0)), (1, .ref (ad B x1)), (2, .int x2), (3, .int y3), (4, .ref (ad B y4)), (5, .int y5), (6, .int y6)] (by decide) rfl ?_
    refine b_aload C dX8_cutWord_62 0 rfl ?_
    obtain ⟨h11, hf⟩ := gd_s hf
    refine b_wtext C h11 wt_X8_52 dX8_cutWord_64 ?_
    refine b_aload_n C dX8_cutWord_67 2 rfl rfl ?_
    refine b_iload_n C dX8_cutWord_68 3 rfl rfl ?_
    refine b_iload_n C dX8_cutWord_69 4 rfl rfl ?_
    obtain ⟨u14, d12, k13, hf⟩ := cb_s hf
    refine b_cSI C [] dX8_cutWord_70 (kX8_isSpelt l D cy B k13) lv_X8_56 ⟨rfl, rfl, Nat.le_of_ble_eq_true rfl, Nat.le_of_ble_eq_true rfl⟩ rfl (Nat.le_of_ble_eq_true rfl) ⟨Nat.zero_le _, Nat.zero_le _⟩ rfl ?_
    refine b_if_eq C (tgt := 87) dX8_cutWord_73 (by decide) (fun c15 => ?_) (fun c15 => ?_)
    · have hf := it_s c15 hf
      refine b_sub [(0, .ref (ad B x0)), (1, .ref (ad B x1)), (2, .int x2), (3, .int y3), (4, .ref (ad B y4)), (5, .int y5), (6, .int y6)] [1, 2, 3, 4, 5, 6, 7] rfl ?_
      exact tX8_cutWord_87 C hr hlocks hK48 hf
    · have hf := if_s c15 hf
      refine b_aload_n C dX8_cutWord_76 1 rfl rfl ?_
      obtain ⟨h17, hf⟩ := gd_s hf
      obtain ⟨r18, er18, hf⟩ := ob_s hf
      refine b_gR C dX8_cutWord_77 fl_X8_21 h17 er18 ?_
      refine b_aload_n C dX8_cutWord_80 1 rfl rfl ?_
      refine b_gI C dX8_cutWord_81 fl_X8_25 h17 ?_
      refine b_aload C dX8_cutWord_84 0 rfl ?_
      obtain ⟨h19, hf⟩ := gd_s hf
      obtain ⟨h20, hf⟩ := gd_s hf
      obtain ⟨h21, hf⟩ := gd_s hf
      obtain ⟨d22, ed22, hf⟩ := bd_s hf
      refine b_aastW C h19 h20 (wkb_s h21) ed22 dX8_cutWord_86 ?_
      refine b_sub [(0, .ref (ad B x0)), (1, .ref (ad B x1)), (2, .int x2), (3, .int y3), (4, .ref (ad B y4)), (5, .int y5), (6, .int y6)] [1, 2, 3, 4, 5, 6, 7] rfl ?_
      exact tX8_cutWord_87 C hr hlocks hK48 hf
def fX8_cutWord_L48 (N : Nat) (g : Gs) (x0 : Nat) (x1 : Nat) (x2 : Int32) : Int32 × Nat × Int32 × Int32 × Ds → Option (Int32 × Ds) := lp (fun K48 a => fX8_cutWord_B48 N g x0 x1 x2 K48 a.1 a.2.1 a.2.2.1 a.2.2.2.1 a.2.2.2.2) N
theorem tX8_cutWord_L48 {p : Program} {l : Launch} {e : Env} {s : State} {m : MethodId} {args : Array Value} {below : List Frame} {meth : Method} {c : Code} {D : va_G} {cy : Nat → ClassId} {B : Bs} (C : Cx p s m args c cX8_cutWord 8 RX8 D cy B) (hr : meth.sig.returnType = (some .int)) (hlocks : meth.locks = false) {N : Nat} {g : Gs} {x0 : Nat} {x1 : Nat} {x2 : Int32} {vz : Int32} {dz : Ds} (a : Int32 × Nat × Int32 × Int32 × Ds) (hf : fX8_cutWord_L48 N g x0 x1 x2 a = some (vz, dz)) : WB p l e rmX8_cutWord s m args below meth c 8 D cy B 0 0 (MQ below (QI D cy B vz g dz) args s 0 0 (wA B)) g a.2.2.2.2 [(0, .ref (ad B x0)), (1, .ref (ad B x1)), (2, .int x2), (3, .int a.1), (4, .ref (ad B a.2.1)), (5, .int a.2.2.1), (6, .int a.2.2.2.1)] 48 [] :=
  lp_w (fun K48 hK48 a ha => tX8_cutWord_48 C hr hlocks hK48 ha) N a hf
set_option maxRecDepth 100000 in
def fX8_cutWord_J25 (N : Nat) (g : Gs) (x0 : Nat) (x1 : Nat) (x2 : Int32) (y3 : Int32) (d : Ds) : Option (Int32 × Ds) := gd (chk g x0 8) <| ob (gR g x0 0) fun r4 => (gd (chk g r4 102) <| gd (¬ ((dI d x0 4) < 0 ∨ gL g r4 ≤ (dI d x0 4).toNatClampNeg)) <| bd (sI d r4 (dI d x0 4).toNatClampNeg 1) fun d7 => (fX8_cutWord_L48 N g x0 x1 x2 (y3, 100020, 20, 0, d7)))
set_option maxHeartbeats 4000000 in
set_option maxRecDepth 100000 in
theorem tX8_cutWord_25 {p : Program} {l : Launch} {e : Env} {s : State} {m : MethodId} {args : Array Value} {below : List Frame} {meth : Method} {c : Code} {D : va_G} {cy : Nat → ClassId} {B : Bs} (C : Cx p s m args c cX8_cutWord 8 RX8 D cy B) (hr : meth.sig.returnType = (some .int)) (hlocks : meth.locks = false) {N : Nat} {g : Gs} {x0 : Nat} {x1 : Nat} {x2 : Int32} {vz : Int32} {dz : Ds} {y3 : Int32} {d : Ds} (hf : fX8_cutWord_J25 N g x0 x1 x2 y3 d = some (vz, dz)) : WB p l e rmX8_cutWord s m args below meth c 8 D cy B 0 0 (MQ below (QI D cy B vz g dz) args s 0 0 (wA B)) g d [(0, .ref (ad B x0)), (1, .ref (ad B x1)), (2, .int x2), (3, .int y3)] 25 [] := by
  unfold fX8_cutWord_J25 at hf
  refine b_aload_n C dX8_cutWord_25 0 rfl rfl ?_
  obtain ⟨h3, hf⟩ := gd_s hf
  obtain ⟨r4, er4, hf⟩ := ob_s hf
  refine b_gR C dX8_cutWord_26 fl_X8_9 h3 er4 ?_
  refine b_aload_n C dX8_cutWord_29 0 rfl rfl ?_
  refine b_gI C dX8_cutWord_30 fl_X8_25 h3 ?_
  refine b_iconst C (v := 1) dX8_cutWord_33 (by decide) ?_
  obtain ⟨h5, hf⟩ := gd_s hf
  obtain ⟨h6, hf⟩ := gd_s hf
  obtain ⟨d7, ed7, hf⟩ := bd_s hf
  refine b_iast C h5 h6 ed7 dX8_cutWord_34 ?_
  refine b_getWA C ws_X8_49 dX8_cutWord_35 ?_
  refine b_astore C dX8_cutWord_38 [(4, .ref (ad B 100020)), (0, .ref (ad B x0)), (1, .ref (ad B x1)), (2, .int x2), (3, .int y3)] (by decide) rfl ?_
  refine b_aload C dX8_cutWord_40 0 rfl ?_
  refine b_wlen C rfl dX8_cutWord_42 ?_
  refine b_istore C dX8_cutWord_43 [(5, .int 20), (4, .ref (ad B 100020)), (0, .ref (ad B x0)), (1, .ref (ad B x1)), (2, .int x2), (3, .int y3)] (by decide) rfl ?_
  refine b_iconst C (v := 0) dX8_cutWord_45 (by decide) ?_
  refine b_istore C dX8_cutWord_46 [(6, .int 0), (5, .int 20), (4, .ref (ad B 100020)), (0, .ref (ad B x0)), (1, .ref (ad B x1)), (2, .int x2), (3, .int y3)] (by decide) rfl ?_
  refine b_sub [(0, .ref (ad B x0)), (1, .ref (ad B x1)), (2, .int x2), (3, .int y3), (4, .ref (ad B 100020)), (5, .int 20), (6, .int 0)] [3, 4, 5, 6, 2, 1, 0] rfl ?_
  exact tX8_cutWord_L48 C hr hlocks (y3, 100020, 20, 0, d7) hf
set_option maxRecDepth 100000 in
def fX8_cutWord_B2 (N : Nat) (g : Gs) (x0 : Nat) (x1 : Nat) (x2 : Int32) (K2 : Int32 × Ds → Option (Int32 × Ds)) (y3 : Int32) (d : Ds) : Option (Int32 × Ds) := gd (chk g x0 8) <| if (dI d x0 5) ≤ y3 then (fX8_cutWord_J25 N g x0 x1 x2 y3 d) else (gd (chk g x1 100) <| gd (¬ (y3 < 0 ∨ gL g x1 ≤ y3.toNatClampNeg)) <| cb (fX8_isLetter N g (dI d x1 y3.toNatClampNeg) d) fun u27 d25 => (if u27 = 0 then (fX8_cutWord_J25 N g x0 x1 x2 y3 d25) else (bd (y3 + 1) fun u29 => (K2 (u29, d25)))))
set_option maxHeartbeats 4000000 in
set_option maxRecDepth 100000 in
theorem tX8_cutWord_2 {p : Program} {l : Launch} {e : Env} {s : State} {m : MethodId} {args : Array Value} {below : List Frame} {meth : Method} {c : Code} {D : va_G} {cy : Nat → ClassId} {B : Bs} (C : Cx p s m args c cX8_cutWord 8 RX8 D cy B) (hr : meth.sig.returnType = (some .int)) (hlocks : meth.locks = false) {N : Nat} {g : Gs} {x0 : Nat} {x1 : Nat} {x2 : Int32} {vz : Int32} {dz : Ds} {K2 : Int32 × Ds → Option (Int32 × Ds)} (hK2 : ∀ a, K2 a = some (vz, dz) → WB p l e rmX8_cutWord s m args below meth c 8 D cy B 0 0 (MQ below (QI D cy B vz g dz) args s 0 0 (wA B)) g a.2 [(0, .ref (ad B x0)), (1, .ref (ad B x1)), (2, .int x2), (3, .int a.1)] 2 []) {y3 : Int32} {d : Ds} (hf : fX8_cutWord_B2 N g x0 x1 x2 K2 y3 d = some (vz, dz)) : WB p l e rmX8_cutWord s m args below meth c 8 D cy B 0 0 (MQ below (QI D cy B vz g dz) args s 0 0 (wA B)) g d [(0, .ref (ad B x0)), (1, .ref (ad B x1)), (2, .int x2), (3, .int y3)] 2 [] := by
  unfold fX8_cutWord_B2 at hf
  refine b_iload_n C dX8_cutWord_2 3 rfl rfl ?_
  refine b_aload_n C dX8_cutWord_3 0 rfl rfl ?_
  obtain ⟨h1, hf⟩ := gd_s hf
  refine b_gI C dX8_cutWord_4 fl_X8_29 h1 ?_
  refine b_icmp_ge C (tgt := 25) dX8_cutWord_7 (by decide) (fun c2 => ?_) (fun c2 => ?_)
  · have hf := it_s c2 hf
    refine b_sub [(0, .ref (ad B x0)), (1, .ref (ad B x1)), (2, .int x2), (3, .int y3)] [0, 1, 2, 3] rfl ?_
    exact tX8_cutWord_25 C hr hlocks hf
  · have hf := if_s c2 hf
    refine b_aload_n C dX8_cutWord_10 1 rfl rfl ?_
    refine b_iload_n C dX8_cutWord_11 3 rfl rfl ?_
    obtain ⟨h23, hf⟩ := gd_s hf
    obtain ⟨h24, hf⟩ := gd_s hf
    refine b_bald C h23 h24 dX8_cutWord_12 ?_
    obtain ⟨u27, d25, k26, hf⟩ := cb_s hf
    refine b_cSI C [] dX8_cutWord_13 (kX8_isLetter l D cy B k26) lv_X8_36 ⟨rfl, rfl, Nat.le_of_ble_eq_true rfl, Nat.le_of_ble_eq_true rfl⟩ rfl (Nat.le_of_ble_eq_true rfl) ⟨Nat.zero_le _, Nat.zero_le _⟩ rfl ?_
    refine b_if_eq C (tgt := 25) dX8_cutWord_16 (by decide) (fun c28 => ?_) (fun c28 => ?_)
    · have hf := it_s c28 hf
      refine b_sub [(0, .ref (ad B x0)), (1, .ref (ad B x1)), (2, .int x2), (3, .int y3)] [0, 1, 2, 3] rfl ?_
      exact tX8_cutWord_25 C hr hlocks hf
    · have hf := if_s c28 hf
      obtain ⟨u29, eu29, hf⟩ := bd_s hf
      refine b_iinc C dX8_cutWord_19 3 rfl (by rw [eu29]; rfl) [(3, .int u29), (0, .ref (ad B x0)), (1, .ref (ad B x1)), (2, .int x2)] (by decide) rfl ?_
      refine b_goto C (tgt := 2) dX8_cutWord_22 (by decide) ?_
      refine b_sub [(0, .ref (ad B x0)), (1, .ref (ad B x1)), (2, .int x2), (3, .int u29)] [1, 2, 3, 0] rfl ?_
      exact hK2 (u29, d25) hf
def fX8_cutWord_L2 (N : Nat) (g : Gs) (x0 : Nat) (x1 : Nat) (x2 : Int32) : Int32 × Ds → Option (Int32 × Ds) := lp (fun K2 a => fX8_cutWord_B2 N g x0 x1 x2 K2 a.1 a.2) N
theorem tX8_cutWord_L2 {p : Program} {l : Launch} {e : Env} {s : State} {m : MethodId} {args : Array Value} {below : List Frame} {meth : Method} {c : Code} {D : va_G} {cy : Nat → ClassId} {B : Bs} (C : Cx p s m args c cX8_cutWord 8 RX8 D cy B) (hr : meth.sig.returnType = (some .int)) (hlocks : meth.locks = false) {N : Nat} {g : Gs} {x0 : Nat} {x1 : Nat} {x2 : Int32} {vz : Int32} {dz : Ds} (a : Int32 × Ds) (hf : fX8_cutWord_L2 N g x0 x1 x2 a = some (vz, dz)) : WB p l e rmX8_cutWord s m args below meth c 8 D cy B 0 0 (MQ below (QI D cy B vz g dz) args s 0 0 (wA B)) g a.2 [(0, .ref (ad B x0)), (1, .ref (ad B x1)), (2, .int x2), (3, .int a.1)] 2 [] :=
  lp_w (fun K2 hK2 a ha => tX8_cutWord_2 C hr hlocks hK2 ha) N a hf
set_option maxRecDepth 100000 in
def fX8_cutWord (N : Nat) (g : Gs) (x0 : Nat) (x1 : Nat) (x2 : Int32) (d : Ds) : Option (Int32 × Ds) := fX8_cutWord_L2 N g x0 x1 x2 (x2, d)
set_option maxHeartbeats 4000000 in
set_option maxRecDepth 100000 in
theorem tX8_cutWord_E {p : Program} {l : Launch} {e : Env} {s : State} {m : MethodId} {args : Array Value} {below : List Frame} {meth : Method} {c : Code} {D : va_G} {cy : Nat → ClassId} {B : Bs} (C : Cx p s m args c cX8_cutWord 8 RX8 D cy B) (hr : meth.sig.returnType = (some .int)) (hlocks : meth.locks = false) {N : Nat} {g : Gs} {x0 : Nat} {x1 : Nat} {x2 : Int32} {vz : Int32} {dz : Ds} {d : Ds} (hf : fX8_cutWord N g x0 x1 x2 d = some (vz, dz)) : WB p l e rmX8_cutWord s m args below meth c 8 D cy B 0 0 (MQ below (QI D cy B vz g dz) args s 0 0 (wA B)) g d [(0, .ref (ad B x0)), (1, .ref (ad B x1)), (2, .int x2)] 0 [] := by
  unfold fX8_cutWord at hf
  refine b_iload_n C dX8_cutWord_0 2 rfl rfl ?_
  refine b_istore_n C dX8_cutWord_1 rfl [(3, .int x2), (0, .ref (ad B x0)), (1, .ref (ad B x1)), (2, .int x2)] (by decide) rfl ?_
  refine b_sub [(0, .ref (ad B x0)), (1, .ref (ad B x1)), (2, .int x2), (3, .int x2)] [1, 2, 3, 0] rfl ?_
  exact tX8_cutWord_L2 C hr hlocks (x2, d) hf
theorem kX8_cutWord (l : Launch) (D : va_G) (cy : Nat → ClassId) (B : Bs) {N : Nat} {g : Gs} {x0 : Nat} {x1 : Nat} {x2 : Int32} {vz : Int32} {dz : Ds} {d : Ds} (hf : fX8_cutWord N g x0 x1 x2 d = some (vz, dz)) : Met l yX8_cutWord (.code yX8_cutWord cX8_cutWord 8 (some .int) :: wl) rmX8_cutWord (PC D cy B [.ref (ad B x0), .ref (ad B x1), .int x2] g d) (QI D cy B vz g dz) 0 0 (wA B) :=
  met_of (by decide +kernel) (Nat.le_of_ble_eq_true rfl) (fun p e s m args below meth c C hr hlocks _ => b_sub [(0, .ref (ad B x0)), (1, .ref (ad B x1)), (2, .int x2)] [0, 1, 2] rfl (tX8_cutWord_E C hr hlocks hf))
/-! KeyMatrix$Tokens.isDigit(I)Z -/
theorem dX8_isDigit_0 : decode cX8_isDigit 0 = .ok (.iload_n 0, 1) := by decide +kernel
theorem dX8_isDigit_1 : decode cX8_isDigit 1 = .ok (.bipush 48, 2) := by decide +kernel
theorem dX8_isDigit_3 : decode cX8_isDigit 3 = .ok (.if_icmp .lt 13, 3) := by decide +kernel
theorem dX8_isDigit_6 : decode cX8_isDigit 6 = .ok (.iload_n 0, 1) := by decide +kernel
theorem dX8_isDigit_7 : decode cX8_isDigit 7 = .ok (.bipush 57, 2) := by decide +kernel
theorem dX8_isDigit_9 : decode cX8_isDigit 9 = .ok (.if_icmp .gt 7, 3) := by decide +kernel
theorem dX8_isDigit_12 : decode cX8_isDigit 12 = .ok (.iconst 1, 1) := by decide +kernel
theorem dX8_isDigit_13 : decode cX8_isDigit 13 = .ok (.goto 4, 3) := by decide +kernel
theorem dX8_isDigit_16 : decode cX8_isDigit 16 = .ok (.iconst 0, 1) := by decide +kernel
theorem dX8_isDigit_17 : decode cX8_isDigit 17 = .ok (.ireturn, 1) := by decide +kernel
def rmX8_isDigit : Room := { frames := 0, cells := 0, slots := 0, locals := 0 }
set_option maxRecDepth 100000 in
def fX8_isDigit_J17 (N : Nat) (g : Gs) (x0 : Int32) (z0 : Int32) (d : Ds) : Option (Int32 × Ds) := gd (z0 = 0 ∨ z0 = 1) <| some (z0, d)
set_option maxHeartbeats 4000000 in
set_option maxRecDepth 100000 in
theorem tX8_isDigit_17 {p : Program} {l : Launch} {e : Env} {s : State} {m : MethodId} {args : Array Value} {below : List Frame} {meth : Method} {c : Code} {D : va_G} {cy : Nat → ClassId} {B : Bs} (C : Cx p s m args c cX8_isDigit 1 RX8 D cy B) (hr : meth.sig.returnType = (some .boolean)) (hlocks : meth.locks = false) {N : Nat} {g : Gs} {x0 : Int32} {vz : Int32} {dz : Ds} {z0 : Int32} {d : Ds} (hf : fX8_isDigit_J17 N g x0 z0 d = some (vz, dz)) : WB p l e rmX8_isDigit s m args below meth c 1 D cy B 0 0 (MQ below (QI D cy B vz g dz) args s 0 0 (wA B)) g d [(0, .int x0)] 17 [.int z0] := by
  unfold fX8_isDigit_J17 at hf
  obtain ⟨h2, hf⟩ := gd_s hf
  exact b_zret C hr hlocks h2 hf dX8_isDigit_17
set_option maxRecDepth 100000 in
def fX8_isDigit_J16 (N : Nat) (g : Gs) (x0 : Int32) (d : Ds) : Option (Int32 × Ds) := fX8_isDigit_J17 N g x0 0 d
set_option maxHeartbeats 4000000 in
set_option maxRecDepth 100000 in
theorem tX8_isDigit_16 {p : Program} {l : Launch} {e : Env} {s : State} {m : MethodId} {args : Array Value} {below : List Frame} {meth : Method} {c : Code} {D : va_G} {cy : Nat → ClassId} {B : Bs} (C : Cx p s m args c cX8_isDigit 1 RX8 D cy B) (hr : meth.sig.returnType = (some .boolean)) (hlocks : meth.locks = false) {N : Nat} {g : Gs} {x0 : Int32} {vz : Int32} {dz : Ds} {d : Ds} (hf : fX8_isDigit_J16 N g x0 d = some (vz, dz)) : WB p l e rmX8_isDigit s m args below meth c 1 D cy B 0 0 (MQ below (QI D cy B vz g dz) args s 0 0 (wA B)) g d [(0, .int x0)] 16 [] := by
  unfold fX8_isDigit_J16 at hf
  refine b_iconst C (v := 0) dX8_isDigit_16 (by decide) ?_
  refine b_sub [(0, .int x0)] [0] rfl ?_
  exact tX8_isDigit_17 C hr hlocks hf
set_option maxRecDepth 100000 in
def fX8_isDigit (N : Nat) (g : Gs) (x0 : Int32) (d : Ds) : Option (Int32 × Ds) := if x0 < (48 : Int32) then (fX8_isDigit_J16 N g x0 d) else (if (57 : Int32) < x0 then (fX8_isDigit_J16 N g x0 d) else (fX8_isDigit_J17 N g x0 1 d))
set_option maxHeartbeats 4000000 in
set_option maxRecDepth 100000 in
theorem tX8_isDigit_E {p : Program} {l : Launch} {e : Env} {s : State} {m : MethodId} {args : Array Value} {below : List Frame} {meth : Method} {c : Code} {D : va_G} {cy : Nat → ClassId} {B : Bs} (C : Cx p s m args c cX8_isDigit 1 RX8 D cy B) (hr : meth.sig.returnType = (some .boolean)) (hlocks : meth.locks = false) {N : Nat} {g : Gs} {x0 : Int32} {vz : Int32} {dz : Ds} {d : Ds} (hf : fX8_isDigit N g x0 d = some (vz, dz)) : WB p l e rmX8_isDigit s m args below meth c 1 D cy B 0 0 (MQ below (QI D cy B vz g dz) args s 0 0 (wA B)) g d [(0, .int x0)] 0 [] := by
  unfold fX8_isDigit at hf
  refine b_iload_n C dX8_isDigit_0 0 rfl rfl ?_
  refine b_bipush C (v := 48) dX8_isDigit_1 (by decide) ?_
  refine b_icmp_lt C (tgt := 16) dX8_isDigit_3 (by decide) (fun c1 => ?_) (fun c1 => ?_)
  · have hf := it_s c1 hf
    refine b_sub [(0, .int x0)] [0] rfl ?_
    exact tX8_isDigit_16 C hr hlocks hf
  · have hf := if_s c1 hf
    refine b_iload_n C dX8_isDigit_6 0 rfl rfl ?_
    refine b_bipush C (v := 57) dX8_isDigit_7 (by decide) ?_
    refine b_icmp_gt C (tgt := 16) dX8_isDigit_9 (by decide) (fun c3 => ?_) (fun c3 => ?_)
    · have hf := it_s c3 hf
      refine b_sub [(0, .int x0)] [0] rfl ?_
      exact tX8_isDigit_16 C hr hlocks hf
    · have hf := if_s c3 hf
      refine b_iconst C (v := 1) dX8_isDigit_12 (by decide) ?_
      refine b_goto C (tgt := 17) dX8_isDigit_13 (by decide) ?_
      refine b_sub [(0, .int x0)] [0] rfl ?_
      exact tX8_isDigit_17 C hr hlocks hf
theorem kX8_isDigit (l : Launch) (D : va_G) (cy : Nat → ClassId) (B : Bs) {N : Nat} {g : Gs} {x0 : Int32} {vz : Int32} {dz : Ds} {d : Ds} (hf : fX8_isDigit N g x0 d = some (vz, dz)) : Met l yX8_isDigit (.code yX8_isDigit cX8_isDigit 1 (some .boolean) :: wl) rmX8_isDigit (PC D cy B [.int x0] g d) (QI D cy B vz g dz) 0 0 (wA B) :=
  met_of (by decide +kernel) (Nat.le_of_ble_eq_true rfl) (fun p e s m args below meth c C hr hlocks _ => b_sub [(0, .int x0)] [0] rfl (tX8_isDigit_E C hr hlocks hf))
/-! KeyMatrix$Tokens.cutInt([BI)I -/
theorem fl_X8_16 : FLR RX8 16 8 2 := ⟨⟨RX8, TX8, 6, rfl, by decide, inl8, Or.inl (mW (mT1 (List.mem_of_getElem? (i := 46) (by decide +kernel))) rfl)⟩, by decide, by decide +kernel⟩
theorem yo_X8_isDigit : yX8_isDigit.cls ≠ "java/lang/invoke/MethodHandle" ∧ yX8_isDigit.cls ≠ "java/lang/invoke/VarHandle" ∧ (parseMethodDescriptor yX8_isDigit.desc).map (fun d => d.parameters.length) = some 1 := by decide +kernel
theorem co_X8_isDigit : Cond.code yX8_isDigit cX8_isDigit 1 (some .boolean) ∈ wl := mW (mT3 (List.mem_of_getElem? (i := 111) (by decide +kernel))) rfl
theorem in_X8_isDigit : Cond.initialized yX8_isDigit.cls ∈ wl := mW (mT1 (List.mem_of_getElem? (i := 3) (by decide +kernel))) rfl
theorem st_X8_isDigit : Cond.static yX8_isDigit ∈ wl := mW (mT3 (List.mem_of_getElem? (i := 110) (by decide +kernel))) rfl
theorem lv_X8_43 : LSt RX8 43 yX8_isDigit cX8_isDigit 1 (some .boolean) 1 := ⟨yo_X8_isDigit, Or.inl (mW (mT3 (List.mem_of_getElem? (i := 109) (by decide +kernel))) rfl), st_X8_isDigit, in_X8_isDigit, co_X8_isDigit⟩
theorem dX8_cutInt_0 : decode cX8_cutInt 0 = .ok (.iload_n 2, 1) := by decide +kernel
theorem dX8_cutInt_1 : decode cX8_cutInt 1 = .ok (.istore_n 3, 1) := by decide +kernel
theorem dX8_cutInt_2 : decode cX8_cutInt 2 = .ok (.iconst 0, 1) := by decide +kernel
theorem dX8_cutInt_3 : decode cX8_cutInt 3 = .ok (.istore 4, 2) := by decide +kernel
theorem dX8_cutInt_5 : decode cX8_cutInt 5 = .ok (.iload_n 3, 1) := by decide +kernel
theorem dX8_cutInt_6 : decode cX8_cutInt 6 = .ok (.aload_n 0, 1) := by decide +kernel
theorem dX8_cutInt_7 : decode cX8_cutInt 7 = .ok (.getfield 29, 3) := by decide +kernel
theorem dX8_cutInt_10 : decode cX8_cutInt 10 = .ok (.if_icmp .ge 39, 3) := by decide +kernel
theorem dX8_cutInt_13 : decode cX8_cutInt 13 = .ok (.aload_n 1, 1) := by decide +kernel
theorem dX8_cutInt_14 : decode cX8_cutInt 14 = .ok (.iload_n 3, 1) := by decide +kernel
theorem dX8_cutInt_15 : decode cX8_cutInt 15 = .ok (.baload, 1) := by decide +kernel
theorem dX8_cutInt_16 : decode cX8_cutInt 16 = .ok (.invokestatic 43, 3) := by decide +kernel
theorem dX8_cutInt_19 : decode cX8_cutInt 19 = .ok (.ifCond .eq 30, 3) := by decide +kernel
theorem dX8_cutInt_22 : decode cX8_cutInt 22 = .ok (.iload_n 3, 1) := by decide +kernel
theorem dX8_cutInt_23 : decode cX8_cutInt 23 = .ok (.iload_n 2, 1) := by decide +kernel
theorem dX8_cutInt_24 : decode cX8_cutInt 24 = .ok (.isub, 1) := by decide +kernel
theorem dX8_cutInt_25 : decode cX8_cutInt 25 = .ok (.iconst 4, 1) := by decide +kernel
theorem dX8_cutInt_26 : decode cX8_cutInt 26 = .ok (.if_icmp .ge 17, 3) := by decide +kernel
theorem dX8_cutInt_29 : decode cX8_cutInt 29 = .ok (.iload 4, 2) := by decide +kernel
theorem dX8_cutInt_31 : decode cX8_cutInt 31 = .ok (.bipush 10, 2) := by decide +kernel
theorem dX8_cutInt_33 : decode cX8_cutInt 33 = .ok (.imul, 1) := by decide +kernel
theorem dX8_cutInt_34 : decode cX8_cutInt 34 = .ok (.aload_n 1, 1) := by decide +kernel
theorem dX8_cutInt_35 : decode cX8_cutInt 35 = .ok (.iload_n 3, 1) := by decide +kernel
theorem dX8_cutInt_36 : decode cX8_cutInt 36 = .ok (.baload, 1) := by decide +kernel
theorem dX8_cutInt_37 : decode cX8_cutInt 37 = .ok (.bipush 48, 2) := by decide +kernel
theorem dX8_cutInt_39 : decode cX8_cutInt 39 = .ok (.isub, 1) := by decide +kernel
theorem dX8_cutInt_40 : decode cX8_cutInt 40 = .ok (.iadd, 1) := by decide +kernel
theorem dX8_cutInt_41 : decode cX8_cutInt 41 = .ok (.istore 4, 2) := by decide +kernel
theorem dX8_cutInt_43 : decode cX8_cutInt 43 = .ok (.iinc 3 1, 3) := by decide +kernel
theorem dX8_cutInt_46 : decode cX8_cutInt 46 = .ok (.goto (-41), 3) := by decide +kernel
theorem dX8_cutInt_49 : decode cX8_cutInt 49 = .ok (.aload_n 0, 1) := by decide +kernel
theorem dX8_cutInt_50 : decode cX8_cutInt 50 = .ok (.getfield 9, 3) := by decide +kernel
theorem dX8_cutInt_53 : decode cX8_cutInt 53 = .ok (.aload_n 0, 1) := by decide +kernel
theorem dX8_cutInt_54 : decode cX8_cutInt 54 = .ok (.getfield 25, 3) := by decide +kernel
theorem dX8_cutInt_57 : decode cX8_cutInt 57 = .ok (.iload_n 3, 1) := by decide +kernel
theorem dX8_cutInt_58 : decode cX8_cutInt 58 = .ok (.iload_n 2, 1) := by decide +kernel
theorem dX8_cutInt_59 : decode cX8_cutInt 59 = .ok (.isub, 1) := by decide +kernel
theorem dX8_cutInt_60 : decode cX8_cutInt 60 = .ok (.iconst 4, 1) := by decide +kernel
theorem dX8_cutInt_61 : decode cX8_cutInt 61 = .ok (.if_icmp .gt 7, 3) := by decide +kernel
theorem dX8_cutInt_64 : decode cX8_cutInt 64 = .ok (.iconst 2, 1) := by decide +kernel
theorem dX8_cutInt_65 : decode cX8_cutInt 65 = .ok (.goto 4, 3) := by decide +kernel
theorem dX8_cutInt_68 : decode cX8_cutInt 68 = .ok (.iconst 4, 1) := by decide +kernel
theorem dX8_cutInt_69 : decode cX8_cutInt 69 = .ok (.iastore, 1) := by decide +kernel
theorem dX8_cutInt_70 : decode cX8_cutInt 70 = .ok (.aload_n 0, 1) := by decide +kernel
theorem dX8_cutInt_71 : decode cX8_cutInt 71 = .ok (.getfield 16, 3) := by decide +kernel
theorem dX8_cutInt_74 : decode cX8_cutInt 74 = .ok (.aload_n 0, 1) := by decide +kernel
theorem dX8_cutInt_75 : decode cX8_cutInt 75 = .ok (.getfield 25, 3) := by decide +kernel
theorem dX8_cutInt_78 : decode cX8_cutInt 78 = .ok (.iload 4, 2) := by decide +kernel
theorem dX8_cutInt_80 : decode cX8_cutInt 80 = .ok (.iastore, 1) := by decide +kernel
theorem dX8_cutInt_81 : decode cX8_cutInt 81 = .ok (.iload_n 3, 1) := by decide +kernel
theorem dX8_cutInt_82 : decode cX8_cutInt 82 = .ok (.ireturn, 1) := by decide +kernel
def rmX8_cutInt : Room := { frames := 1, cells := 0, slots := 0, locals := 20 }
set_option maxRecDepth 100000 in
def fX8_cutInt_J69 (N : Nat) (g : Gs) (x0 : Nat) (x1 : Nat) (x2 : Int32) (y3 : Int32) (y4 : Int32) (z0 : Int32) (z1 : Int32) (z2 : Nat) (d : Ds) : Option (Int32 × Ds) := gd (chk g z2 102) <| gd (¬ (z1 < 0 ∨ gL g z2 ≤ z1.toNatClampNeg)) <| bd (sI d z2 z1.toNatClampNeg z0) fun d8 => (gd (chk g x0 8) <| ob (gR g x0 2) fun r10 => (gd (chk g r10 102) <| gd (¬ ((dI d8 x0 4) < 0 ∨ gL g r10 ≤ (dI d8 x0 4).toNatClampNeg)) <| bd (sI d8 r10 (dI d8 x0 4).toNatClampNeg y4) fun d13 => (some (y3, d13))))
set_option maxHeartbeats 4000000 in
set_option maxRecDepth 100000 in
theorem tX8_cutInt_69 {p : Program} {l : Launch} {e : Env} {s : State} {m : MethodId} {args : Array Value} {below : List Frame} {meth : Method} {c : Code} {D : va_G} {cy : Nat → ClassId} {B : Bs} (C : Cx p s m args c cX8_cutInt 5 RX8 D cy B) (hr : meth.sig.returnType = (some .int)) (hlocks : meth.locks = false) {N : Nat} {g : Gs} {x0 : Nat} {x1 : Nat} {x2 : Int32} {vz : Int32} {dz : Ds} {y3 : Int32} {y4 : Int32} {z0 : Int32} {z1 : Int32} {z2 : Nat} {d : Ds} (hf : fX8_cutInt_J69 N g x0 x1 x2 y3 y4 z0 z1 z2 d = some (vz, dz)) : WB p l e rmX8_cutInt s m args below meth c 5 D cy B 0 0 (MQ below (QI D cy B vz g dz) args s 0 0 (wA B)) g d [(0, .ref (ad B x0)), (1, .ref (ad B x1)), (2, .int x2), (3, .int y3), (4, .int y4)] 69 [.int z0, .int z1, .ref (ad B z2)] := by
  unfold fX8_cutInt_J69 at hf
  obtain ⟨h6, hf⟩ := gd_s hf
  obtain ⟨h7, hf⟩ := gd_s hf
  obtain ⟨d8, ed8, hf⟩ := bd_s hf
  refine b_iast C h6 h7 ed8 dX8_cutInt_69 ?_
  refine b_aload_n C dX8_cutInt_70 0 rfl rfl ?_
  obtain ⟨h9, hf⟩ := gd_s hf
  obtain ⟨r10, er10, hf⟩ := ob_s hf
  refine b_gR C dX8_cutInt_71 fl_X8_16 h9 er10 ?_
  refine b_aload_n C dX8_cutInt_74 0 rfl rfl ?_
  refine b_gI C dX8_cutInt_75 fl_X8_25 h9 ?_
  refine b_iload C dX8_cutInt_78 4 rfl ?_
  obtain ⟨h11, hf⟩ := gd_s hf
  obtain ⟨h12, hf⟩ := gd_s hf
  obtain ⟨d13, ed13, hf⟩ := bd_s hf
  refine b_iast C h11 h12 ed13 dX8_cutInt_80 ?_
  refine b_iload_n C dX8_cutInt_81 3 rfl rfl ?_
  exact b_iret C hr hlocks hf dX8_cutInt_82
set_option maxRecDepth 100000 in
def fX8_cutInt_J49 (N : Nat) (g : Gs) (x0 : Nat) (x1 : Nat) (x2 : Int32) (y3 : Int32) (y4 : Int32) (d : Ds) : Option (Int32 × Ds) := gd (chk g x0 8) <| ob (gR g x0 0) fun r4 => (if (4 : Int32) < (y3 - x2) then (fX8_cutInt_J69 N g x0 x1 x2 y3 y4 4 (dI d x0 4) r4 d) else (fX8_cutInt_J69 N g x0 x1 x2 y3 y4 2 (dI d x0 4) r4 d))
set_option maxHeartbeats 4000000 in
set_option maxRecDepth 100000 in
theorem tX8_cutInt_49 {p : Program} {l : Launch} {e : Env} {s : State} {m : MethodId} {args : Array Value} {below : List Frame} {meth : Method} {c : Code} {D : va_G} {cy : Nat → ClassId} {B : Bs} (C : Cx p s m args c cX8_cutInt 5 RX8 D cy B) (hr : meth.sig.returnType = (some .int)) (hlocks : meth.locks = false) {N : Nat} {g : Gs} {x0 : Nat} {x1 : Nat} {x2 : Int32} {vz : Int32} {dz : Ds} {y3 : Int32} {y4 : Int32} {d : Ds} (hf : fX8_cutInt_J49 N g x0 x1 x2 y3 y4 d = some (vz, dz)) : WB p l e rmX8_cutInt s m args below meth c 5 D cy B 0 0 (MQ below (QI D cy B vz g dz) args s 0 0 (wA B)) g d [(0, .ref (ad B x0)), (1, .ref (ad B x1)), (2, .int x2), (3, .int y3), (4, .int y4)] 49 [] := by
  unfold fX8_cutInt_J49 at hf
  refine b_aload_n C dX8_cutInt_49 0 rfl rfl ?_
  obtain ⟨h3, hf⟩ := gd_s hf
  obtain ⟨r4, er4, hf⟩ := ob_s hf
  refine b_gR C dX8_cutInt_50 fl_X8_9 h3 er4 ?_
  refine b_aload_n C dX8_cutInt_53 0 rfl rfl ?_
  refine b_gI C dX8_cutInt_54 fl_X8_25 h3 ?_
  refine b_iload_n C dX8_cutInt_57 3 rfl rfl ?_
  refine b_iload_n C dX8_cutInt_58 2 rfl rfl ?_
  refine b_isub C dX8_cutInt_59 ?_
  refine b_iconst C (v := 4) dX8_cutInt_60 (by decide) ?_
  refine b_icmp_gt C (tgt := 68) dX8_cutInt_61 (by decide) (fun c5 => ?_) (fun c5 => ?_)
  · have hf := it_s c5 hf
    refine b_iconst C (v := 4) dX8_cutInt_68 (by decide) ?_
    refine b_sub [(0, .ref (ad B x0)), (1, .ref (ad B x1)), (2, .int x2), (3, .int y3), (4, .int y4)] [0, 1, 2, 3, 4] rfl ?_
    exact tX8_cutInt_69 C hr hlocks hf
  · have hf := if_s c5 hf
    refine b_iconst C (v := 2) dX8_cutInt_64 (by decide) ?_
    refine b_goto C (tgt := 69) dX8_cutInt_65 (by decide) ?_
    refine b_sub [(0, .ref (ad B x0)), (1, .ref (ad B x1)), (2, .int x2), (3, .int y3), (4, .int y4)] [0, 1, 2, 3, 4] rfl ?_
    exact tX8_cutInt_69 C hr hlocks hf
set_option maxRecDepth 100000 in
def fX8_cutInt_J43 (N : Nat) (g : Gs) (x0 : Nat) (x1 : Nat) (x2 : Int32) (K5 : Int32 × Int32 × Ds → Option (Int32 × Ds)) (y3 : Int32) (y4 : Int32) (d : Ds) : Option (Int32 × Ds) := bd (y3 + 1) fun u21 => (K5 (u21, y4, d))
set_option maxHeartbeats 4000000 in
set_option maxRecDepth 100000 in
theorem tX8_cutInt_43 {p : Program} {l : Launch} {e : Env} {s : State} {m : MethodId} {args : Array Value} {below : List Frame} {meth : Method} {c : Code} {D : va_G} {cy : Nat → ClassId} {B : Bs} (C : Cx p s m args c cX8_cutInt 5 RX8 D cy B) (hr : meth.sig.returnType = (some .int)) (hlocks : meth.locks = false) {N : Nat} {g : Gs} {x0 : Nat} {x1 : Nat} {x2 : Int32} {vz : Int32} {dz : Ds} {K5 : Int32 × Int32 × Ds → Option (Int32 × Ds)} (hK5 : ∀ a, K5 a = some (vz, dz) → WB p l e rmX8_cutInt s m args below meth c 5 D cy B 0 0 (MQ below (QI D cy B vz g dz) args s 0 0 (wA B)) g a.2.2 [(0, .ref (ad B x0)), (1, .ref (ad B x1)), (2, .int x2), (3, .int a.1), (4, .int a.2.1)] 5 []) {y3 : Int32} {y4 : Int32} {d : Ds} (hf : fX8_cutInt_J43 N g x0 x1 x2 K5 y3 y4 d = some (vz, dz)) : WB p l e rmX8_cutInt s m args below meth c 5 D cy B 0 0 (MQ below (QI D cy B vz g dz) args s 0 0 (wA B)) g d [(0, .ref (ad B x0)), (1, .ref (ad B x1)), (2, .int x2), (3, .int y3), (4, .int y4)] 43 [] := by
  unfold fX8_cutInt_J43 at hf
  obtain ⟨u21, eu21, hf⟩ := bd_s hf
  refine b_iinc C dX8_cutInt_43 3 rfl (by rw [eu21]; rfl) [(3, .int u21), (0, .ref (ad B x0)), (1, .ref (ad B x1)), (2, .int x2), (4, .int y4)] (by decide) rfl ?_
  refine b_goto C (tgt := 5) dX8_cutInt_46 (by decide) ?_
  refine b_sub [(0, .ref (ad B x0)), (1, .ref (ad B x1)), (2, .int x2), (3, .int u21), (4, .int y4)] [1, 2, 3, 0, 4] rfl ?_
  exact hK5 (u21, y4, d) hf
set_option maxRecDepth 100000 in
def fX8_cutInt_B5 (N : Nat) (g : Gs) (x0 : Nat) (x1 : Nat) (x2 : Int32) (K5 : Int32 × Int32 × Ds → Option (Int32 × Ds)) (y3 : Int32) (y4 : Int32) (d : Ds) : Option (Int32 × Ds) := gd (chk g x0 8) <| if (dI d x0 5) ≤ y3 then (fX8_cutInt_J49 N g x0 x1 x2 y3 y4 d) else (gd (chk g x1 100) <| gd (¬ (y3 < 0 ∨ gL g x1 ≤ y3.toNatClampNeg)) <| cb (fX8_isDigit N g (dI d x1 y3.toNatClampNeg) d) fun u18 d16 => (if u18 = 0 then (fX8_cutInt_J49 N g x0 x1 x2 y3 y4 d16) else (if (4 : Int32) ≤ (y3 - x2) then (fX8_cutInt_J43 N g x0 x1 x2 K5 y3 y4 d16) else (bd (((y4 * 10) + ((dI d16 x1 y3.toNatClampNeg) - 48))) fun u22 => (fX8_cutInt_J43 N g x0 x1 x2 K5 y3 u22 d16)))))
set_option maxHeartbeats 4000000 in
set_option maxRecDepth 100000 in
theorem tX8_cutInt_5 {p : Program} {l : Launch} {e : Env} {s : State} {m : MethodId} {args : Array Value} {below : List Frame} {meth : Method} {c : Code} {D : va_G} {cy : Nat → ClassId} {B : Bs} (C : Cx p s m args c cX8_cutInt 5 RX8 D cy B) (hr : meth.sig.returnType = (some .int)) (hlocks : meth.locks = false) {N : Nat} {g : Gs} {x0 : Nat} {x1 : Nat} {x2 : Int32} {vz : Int32} {dz : Ds} {K5 : Int32 × Int32 × Ds → Option (Int32 × Ds)} (hK5 : ∀ a, K5 a = some (vz, dz) → WB p l e rmX8_cutInt s m args below meth c 5 D cy B 0 0 (MQ below (QI D cy B vz g dz) args s 0 0 (wA B)) g a.2.2 [(0, .ref (ad B x0)), (1, .ref (ad B x1)), (2, .int x2), (3, .int a.1), (4, .int a.2.1)] 5 []) {y3 : Int32} {y4 : Int32} {d : Ds} (hf : fX8_cutInt_B5 N g x0 x1 x2 K5 y3 y4 d = some (vz, dz)) : WB p l e rmX8_cutInt s m args below meth c 5 D cy B 0 0 (MQ below (QI D cy B vz g dz) args s 0 0 (wA B)) g d [(0, .ref (ad B x0)), (1, .ref (ad B x1)), (2, .int x2), (3, .int y3), (4, .int y4)] 5 [] := by
  unfold fX8_cutInt_B5 at hf
  refine b_iload_n C dX8_cutInt_5 3 rfl rfl ?_
  refine b_aload_n C dX8_cutInt_6 0 rfl rfl ?_
  obtain ⟨h1, hf⟩ := gd_s hf
  refine b_gI C dX8_cutInt_7 fl_X8_29 h1 ?_
  refine b_icmp_ge C (tgt := 49) dX8_cutInt_10 (by decide) (fun c2 => ?_) (fun c2 => ?_)
  · have hf := it_s c2 hf
    refine b_sub [(0, .ref (ad B x0)), (1, .ref (ad B x1)), (2, .int x2), (3, .int y3), (4, .int y4)] [0, 1, 2, 3, 4] rfl ?_
    exact tX8_cutInt_49 C hr hlocks hf
  · have hf := if_s c2 hf
    refine b_aload_n C dX8_cutInt_13 1 rfl rfl ?_
    refine b_iload_n C dX8_cutInt_14 3 rfl rfl ?_
    obtain ⟨h14, hf⟩ := gd_s hf
    obtain ⟨h15, hf⟩ := gd_s hf
    refine b_bald C h14 h15 dX8_cutInt_15 ?_
    obtain ⟨u18, d16, k17, hf⟩ := cb_s hf
    refine b_cSI C [] dX8_cutInt_16 (kX8_isDigit l D cy B k17) lv_X8_43 ⟨rfl, rfl, Nat.le_of_ble_eq_true rfl, Nat.le_of_ble_eq_true rfl⟩ rfl (Nat.le_of_ble_eq_true rfl) ⟨Nat.zero_le _, Nat.zero_le _⟩ rfl ?_
    refine b_if_eq C (tgt := 49) dX8_cutInt_19 (by decide) (fun c19 => ?_) (fun c19 => ?_)
    · have hf := it_s c19 hf
      refine b_sub [(0, .ref (ad B x0)), (1, .ref (ad B x1)), (2, .int x2), (3, .int y3), (4, .int y4)] [0, 1, 2, 3, 4] rfl ?_
      exact tX8_cutInt_49 C hr hlocks hf
    · have hf := if_s c19 hf
      refine b_iload_n C dX8_cutInt_22 3 rfl rfl ?_
      refine b_iload_n C dX8_cutInt_23 2 rfl rfl ?_
      refine b_isub C dX8_cutInt_24 ?_
      refine b_iconst C (v := 4) dX8_cutInt_25 (by decide) ?_
      refine b_icmp_ge C (tgt := 43) dX8_cutInt_26 (by decide) (fun c20 => ?_) (fun c20 => ?_)
      · have hf := it_s c20 hf
        refine b_sub [(0, .ref (ad B x0)), (1, .ref (ad B x1)), (2, .int x2), (3, .int y3), (4, .int y4)] [0, 1, 2, 3, 4] rfl ?_
        exact tX8_cutInt_43 C hr hlocks hK5 hf
      · have hf := if_s c20 hf
        refine b_iload C dX8_cutInt_29 4 rfl ?_
        refine b_bipush C (v := 10) dX8_cutInt_31 (by decide) ?_
        refine b_imul C dX8_cutInt_33 ?_
        refine b_aload_n C dX8_cutInt_34 1 rfl rfl ?_
        refine b_iload_n C dX8_cutInt_35 3 rfl rfl ?_
        refine b_bald C h14 h15 dX8_cutInt_36 ?_
        refine b_bipush C (v := 48) dX8_cutInt_37 (by decide) ?_
        refine b_isub C dX8_cutInt_39 ?_
        refine b_iadd C dX8_cutInt_40 ?_
        obtain ⟨u22, eu22, hf⟩ := bd_s hf
        refine b_topI eu22 ?_
        refine b_istore C dX8_cutInt_41 [(4, .int u22), (0, .ref (ad B x0)), (1, .ref (ad B x1)), (2, .int x2), (3, .int y3)] (by decide) rfl ?_
        refine b_sub [(0, .ref (ad B x0)), (1, .ref (ad B x1)), (2, .int x2), (3, .int y3), (4, .int u22)] [1, 2, 3, 4, 0] rfl ?_
        exact tX8_cutInt_43 C hr hlocks hK5 hf
def fX8_cutInt_L5 (N : Nat) (g : Gs) (x0 : Nat) (x1 : Nat) (x2 : Int32) : Int32 × Int32 × Ds → Option (Int32 × Ds) := lp (fun K5 a => fX8_cutInt_B5 N g x0 x1 x2 K5 a.1 a.2.1 a.2.2) N
theorem tX8_cutInt_L5 {p : Program} {l : Launch} {e : Env} {s : State} {m : MethodId} {args : Array Value} {below : List Frame} {meth : Method} {c : Code} {D : va_G} {cy : Nat → ClassId} {B : Bs} (C : Cx p s m args c cX8_cutInt 5 RX8 D cy B) (hr : meth.sig.returnType = (some .int)) (hlocks : meth.locks = false) {N : Nat} {g : Gs} {x0 : Nat} {x1 : Nat} {x2 : Int32} {vz : Int32} {dz : Ds} (a : Int32 × Int32 × Ds) (hf : fX8_cutInt_L5 N g x0 x1 x2 a = some (vz, dz)) : WB p l e rmX8_cutInt s m args below meth c 5 D cy B 0 0 (MQ below (QI D cy B vz g dz) args s 0 0 (wA B)) g a.2.2 [(0, .ref (ad B x0)), (1, .ref (ad B x1)), (2, .int x2), (3, .int a.1), (4, .int a.2.1)] 5 [] :=
  lp_w (fun K5 hK5 a ha => tX8_cutInt_5 C hr hlocks hK5 ha) N a hf
set_option maxRecDepth 100000 in
def fX8_cutInt (N : Nat) (g : Gs) (x0 : Nat) (x1 : Nat) (x2 : Int32) (d : Ds) : Option (Int32 × Ds) := fX8_cutInt_L5 N g x0 x1 x2 (x2, 0, d)
set_option maxHeartbeats 4000000 in
set_option maxRecDepth 100000 in
theorem tX8_cutInt_E {p : Program} {l : Launch} {e : Env} {s : State} {m : MethodId} {args : Array Value} {below : List Frame} {meth : Method} {c : Code} {D : va_G} {cy : Nat → ClassId} {B : Bs} (C : Cx p s m args c cX8_cutInt 5 RX8 D cy B) (hr : meth.sig.returnType = (some .int)) (hlocks : meth.locks = false) {N : Nat} {g : Gs} {x0 : Nat} {x1 : Nat} {x2 : Int32} {vz : Int32} {dz : Ds} {d : Ds} (hf : fX8_cutInt N g x0 x1 x2 d = some (vz, dz)) : WB p l e rmX8_cutInt s m args below meth c 5 D cy B 0 0 (MQ below (QI D cy B vz g dz) args s 0 0 (wA B)) g d [(0, .ref (ad B x0)), (1, .ref (ad B x1)), (2, .int x2)] 0 [] := by
  unfold fX8_cutInt at hf
  refine b_iload_n C dX8_cutInt_0 2 rfl rfl ?_
  refine b_istore_n C dX8_cutInt_1 rfl [(3, .int x2), (0, .ref (ad B x0)), (1, .ref (ad B x1)), (2, .int x2)] (by decide) rfl ?_
  refine b_iconst C (v := 0) dX8_cutInt_2 (by decide) ?_
  refine b_istore C dX8_cutInt_3 [(4, .int 0), (3, .int x2), (0, .ref (ad B x0)), (1, .ref (ad B x1)), (2, .int x2)] (by decide) rfl ?_
  refine b_sub [(0, .ref (ad B x0)), (1, .ref (ad B x1)), (2, .int x2), (3, .int x2), (4, .int 0)] [2, 3, 4, 1, 0] rfl ?_
  exact tX8_cutInt_L5 C hr hlocks (x2, 0, d) hf
theorem kX8_cutInt (l : Launch) (D : va_G) (cy : Nat → ClassId) (B : Bs) {N : Nat} {g : Gs} {x0 : Nat} {x1 : Nat} {x2 : Int32} {vz : Int32} {dz : Ds} {d : Ds} (hf : fX8_cutInt N g x0 x1 x2 d = some (vz, dz)) : Met l yX8_cutInt (.code yX8_cutInt cX8_cutInt 5 (some .int) :: wl) rmX8_cutInt (PC D cy B [.ref (ad B x0), .ref (ad B x1), .int x2] g d) (QI D cy B vz g dz) 0 0 (wA B) :=
  met_of (by decide +kernel) (Nat.le_of_ble_eq_true rfl) (fun p e s m args below meth c C hr hlocks _ => b_sub [(0, .ref (ad B x0)), (1, .ref (ad B x1)), (2, .int x2)] [0, 1, 2] rfl (tX8_cutInt_E C hr hlocks hf))
