/-! KeyMatrixModel.lays(I)V -/
theorem fl_X12_13 : FLR RX12 13 11 1 := ⟨⟨RX12, TX12, 33, rfl, by decide, inl11, Or.inl (mW (mT5 (List.mem_of_getElem? (i := 92) (by decide +kernel))) rfl)⟩, by decide, by decide +kernel⟩
theorem fl_X12_90 : FLI RX12 90 11 2 := ⟨⟨RX12, TX12, 33, rfl, by decide, inl11, Or.inl (mW (mT5 (List.mem_of_getElem? (i := 93) (by decide +kernel))) rfl)⟩, by decide, by decide +kernel⟩
theorem fp11_2 : FPI 11 2 := ⟨ft11, (RX12, TX12, 33), rfl, by decide +kernel, by decide +kernel⟩
theorem dX12_lays_0 : decode cX12_lays 0 = .ok (.bipush 24, 2) := by decide +kernel
theorem dX12_lays_2 : decode cX12_lays 2 = .ok (.istore_n 2, 1) := by decide +kernel
theorem dX12_lays_3 : decode cX12_lays 3 = .ok (.iload_n 2, 1) := by decide +kernel
theorem dX12_lays_4 : decode cX12_lays 4 = .ok (.ifCond .lt 32, 3) := by decide +kernel
theorem dX12_lays_7 : decode cX12_lays 7 = .ok (.aload_n 0, 1) := by decide +kernel
theorem dX12_lays_8 : decode cX12_lays 8 = .ok (.getfield 13, 3) := by decide +kernel
theorem dX12_lays_11 : decode cX12_lays 11 = .ok (.aload_n 0, 1) := by decide +kernel
theorem dX12_lays_12 : decode cX12_lays 12 = .ok (.getfield 90, 3) := by decide +kernel
theorem dX12_lays_15 : decode cX12_lays 15 = .ok (.iload_n 1, 1) := by decide +kernel
theorem dX12_lays_16 : decode cX12_lays 16 = .ok (.iload_n 2, 1) := by decide +kernel
theorem dX12_lays_17 : decode cX12_lays 17 = .ok (.ishr, 1) := by decide +kernel
theorem dX12_lays_18 : decode cX12_lays 18 = .ok (.i2b, 1) := by decide +kernel
theorem dX12_lays_19 : decode cX12_lays 19 = .ok (.bastore, 1) := by decide +kernel
theorem dX12_lays_20 : decode cX12_lays 20 = .ok (.aload_n 0, 1) := by decide +kernel
theorem dX12_lays_21 : decode cX12_lays 21 = .ok (.dup, 1) := by decide +kernel
theorem dX12_lays_22 : decode cX12_lays 22 = .ok (.getfield 90, 3) := by decide +kernel
theorem dX12_lays_25 : decode cX12_lays 25 = .ok (.iconst 1, 1) := by decide +kernel
theorem dX12_lays_26 : decode cX12_lays 26 = .ok (.iadd, 1) := by decide +kernel
theorem dX12_lays_27 : decode cX12_lays 27 = .ok (.putfield 90, 3) := by decide +kernel
theorem dX12_lays_30 : decode cX12_lays 30 = .ok (.iinc 2 (-8), 3) := by decide +kernel
theorem dX12_lays_33 : decode cX12_lays 33 = .ok (.goto (-30), 3) := by decide +kernel
theorem dX12_lays_36 : decode cX12_lays 36 = .ok (.return_, 1) := by decide +kernel
def rmX12_lays : Room := { frames := 0, cells := 0, slots := 0, locals := 0 }
set_option maxRecDepth 100000 in
def fX12_lays_B3 (N : Nat) (g : Gs) (x0 : Nat) (x1 : Int32) (K3 : Int32 × Ds → Option (Unit × Ds)) (y2 : Int32) (d : Ds) : Option (Unit × Ds) := if y2 < 0 then (some ((), d)) else (gd (chk g x0 11) <| ob (gR g x0 1) fun r3 => (gd (chk g r3 100) <| gd (¬ ((dI d x0 2) < 0 ∨ gL g r3 ≤ (dI d x0 2).toNatClampNeg)) <| bd (sI d r3 (dI d x0 2).toNatClampNeg (vp_nar .byte ((x1 >>> (y2 &&& 31)).toInt8.toInt32))) fun d6 => (bd (sI d6 x0 2 ((dI d6 x0 2) + 1)) fun d7 => (bd (y2 + (-8)) fun u8 => (K3 (u8, d7))))))
set_option maxHeartbeats 4000000 in
set_option maxRecDepth 100000 in
theorem tX12_lays_3 {p : Program} {l : Launch} {e : Env} {s : State} {m : MethodId} {args : Array Value} {below : List Frame} {meth : Method} {c : Code} {D : va_G} {cy : Nat → ClassId} {B : Bs} (C : Cx p s m args c cX12_lays 3 RX12 D cy B) (hr : meth.sig.returnType = none) (hlocks : meth.locks = false) {N : Nat} {g : Gs} {x0 : Nat} {x1 : Int32}  {dz : Ds} {K3 : Int32 × Ds → Option (Unit × Ds)} (hK3 : ∀ a, K3 a = some ((), dz) → WB p l e rmX12_lays s m args below meth c 3 D cy B 0 0 (MQ below (QV D cy B g dz) args s 0 0 (wA B)) g a.2 [(0, .ref (ad B x0)), (1, .int x1), (2, .int a.1)] 3 []) {y2 : Int32} {d : Ds} (hf : fX12_lays_B3 N g x0 x1 K3 y2 d = some ((), dz)) : WB p l e rmX12_lays s m args below meth c 3 D cy B 0 0 (MQ below (QV D cy B g dz) args s 0 0 (wA B)) g d [(0, .ref (ad B x0)), (1, .int x1), (2, .int y2)] 3 [] := by
  unfold fX12_lays_B3 at hf
  refine b_iload_n C dX12_lays_3 2 rfl rfl ?_
  refine b_if_lt C (tgt := 36) dX12_lays_4 (by decide) (fun c1 => ?_) (fun c1 => ?_)
  · have hf := it_s c1 hf
    exact b_vret C hr hlocks hf dX12_lays_36
  · have hf := if_s c1 hf
    refine b_aload_n C dX12_lays_7 0 rfl rfl ?_
    obtain ⟨h2, hf⟩ := gd_s hf
    obtain ⟨r3, er3, hf⟩ := ob_s hf
    refine b_gR C dX12_lays_8 fl_X12_13 h2 er3 ?_
    refine b_aload_n C dX12_lays_11 0 rfl rfl ?_
    refine b_gI C dX12_lays_12 fl_X12_90 h2 ?_
    refine b_iload_n C dX12_lays_15 1 rfl rfl ?_
    refine b_iload_n C dX12_lays_16 2 rfl rfl ?_
    refine b_ishr C dX12_lays_17 ?_
    refine b_i2b C dX12_lays_18 ?_
    obtain ⟨h4, hf⟩ := gd_s hf
    obtain ⟨h5, hf⟩ := gd_s hf
    obtain ⟨d6, ed6, hf⟩ := bd_s hf
    refine b_bast C h4 h5 ed6 dX12_lays_19 ?_
    refine b_aload_n C dX12_lays_20 0 rfl rfl ?_
    refine b_dup C dX12_lays_21 rfl ?_
    refine b_gI C dX12_lays_22 fl_X12_90 h2 ?_
    refine b_iconst C (v := 1) dX12_lays_25 (by decide) ?_
    refine b_iadd C dX12_lays_26 ?_
    obtain ⟨d7, ed7, hf⟩ := bd_s hf
    refine b_pI C dX12_lays_27 fl_X12_90 fp11_2 h2 ed7 ?_
    obtain ⟨u8, eu8, hf⟩ := bd_s hf
    refine b_iinc C dX12_lays_30 2 rfl (by rw [eu8]; rfl) [(2, .int u8), (0, .ref (ad B x0)), (1, .int x1)] (by decide) rfl ?_
    refine b_goto C (tgt := 3) dX12_lays_33 (by decide) ?_
    refine b_sub [(0, .ref (ad B x0)), (1, .int x1), (2, .int u8)] [1, 2, 0] rfl ?_
    exact hK3 (u8, d7) hf
def fX12_lays_L3 (N : Nat) (g : Gs) (x0 : Nat) (x1 : Int32) : Int32 × Ds → Option (Unit × Ds) := lp (fun K3 a => fX12_lays_B3 N g x0 x1 K3 a.1 a.2) N
theorem tX12_lays_L3 {p : Program} {l : Launch} {e : Env} {s : State} {m : MethodId} {args : Array Value} {below : List Frame} {meth : Method} {c : Code} {D : va_G} {cy : Nat → ClassId} {B : Bs} (C : Cx p s m args c cX12_lays 3 RX12 D cy B) (hr : meth.sig.returnType = none) (hlocks : meth.locks = false) {N : Nat} {g : Gs} {x0 : Nat} {x1 : Int32}  {dz : Ds} (a : Int32 × Ds) (hf : fX12_lays_L3 N g x0 x1 a = some ((), dz)) : WB p l e rmX12_lays s m args below meth c 3 D cy B 0 0 (MQ below (QV D cy B g dz) args s 0 0 (wA B)) g a.2 [(0, .ref (ad B x0)), (1, .int x1), (2, .int a.1)] 3 [] :=
  lp_w (fun K3 hK3 a ha => tX12_lays_3 C hr hlocks hK3 ha) N a hf
set_option maxRecDepth 100000 in
def fX12_lays (N : Nat) (g : Gs) (x0 : Nat) (x1 : Int32) (d : Ds) : Option (Unit × Ds) := fX12_lays_L3 N g x0 x1 (24, d)
set_option maxHeartbeats 4000000 in
set_option maxRecDepth 100000 in
theorem tX12_lays_E {p : Program} {l : Launch} {e : Env} {s : State} {m : MethodId} {args : Array Value} {below : List Frame} {meth : Method} {c : Code} {D : va_G} {cy : Nat → ClassId} {B : Bs} (C : Cx p s m args c cX12_lays 3 RX12 D cy B) (hr : meth.sig.returnType = none) (hlocks : meth.locks = false) {N : Nat} {g : Gs} {x0 : Nat} {x1 : Int32}  {dz : Ds} {d : Ds} (hf : fX12_lays N g x0 x1 d = some ((), dz)) : WB p l e rmX12_lays s m args below meth c 3 D cy B 0 0 (MQ below (QV D cy B g dz) args s 0 0 (wA B)) g d [(0, .ref (ad B x0)), (1, .int x1)] 0 [] := by
  unfold fX12_lays at hf
  refine b_bipush C (v := 24) dX12_lays_0 (by decide) ?_
  refine b_istore_n C dX12_lays_2 rfl [(2, .int 24), (0, .ref (ad B x0)), (1, .int x1)] (by decide) rfl ?_
  refine b_sub [(0, .ref (ad B x0)), (1, .int x1), (2, .int 24)] [1, 2, 0] rfl ?_
  exact tX12_lays_L3 C hr hlocks (24, d) hf
theorem kX12_lays (l : Launch) (D : va_G) (cy : Nat → ClassId) (B : Bs) {N : Nat} {g : Gs} {x0 : Nat} {x1 : Int32}  {dz : Ds} {d : Ds} (hf : fX12_lays N g x0 x1 d = some ((), dz)) : Met l yX12_lays (.code yX12_lays cX12_lays 3 none :: wl) rmX12_lays (PC D cy B [.ref (ad B x0), .int x1] g d) (QV D cy B g dz) 0 0 (wA B) :=
  met_of (by decide +kernel) (Nat.le_of_ble_eq_true rfl) (fun p e s m args below meth c C hr hlocks _ => b_sub [(0, .ref (ad B x0)), (1, .int x1)] [0, 1] rfl (tX12_lays_E C hr hlocks hf))
/-! KeyMatrixModel.feed(IIIII)I -/
theorem yo_X12_lays : yX12_lays.cls ≠ "java/lang/invoke/MethodHandle" ∧ yX12_lays.cls ≠ "java/lang/invoke/VarHandle" ∧ (parseMethodDescriptor yX12_lays.desc).map (fun d => d.parameters.length) = some 1 := by decide +kernel
theorem co_X12_lays : Cond.code yX12_lays cX12_lays 3 none ∈ wl := mW (mT5 (List.mem_of_getElem? (i := 200) (by decide +kernel))) rfl
theorem in_X12_lays : Cond.initialized yX12_lays.cls ∈ wl := mW (mT1 (List.mem_of_getElem? (i := 12) (by decide +kernel))) rfl
theorem im_X12_lays : Cond.instanceMethod yX12_lays ∈ wl := mW (mT5 (List.mem_of_getElem? (i := 199) (by decide +kernel))) rfl
theorem se_X12_lays : Cond.selects yX12_lays.cls yX12_lays yX12_lays ∈ wl := mW (mT0 (List.mem_of_getElem? (i := 32) (by decide +kernel))) rfl
theorem lv_X12_93 : LV RX12 93 yX12_lays cX12_lays 3 none 1 11 := ⟨⟨(RX12, TX12, 33), rfl, rfl⟩, yo_X12_lays, mW (mT5 (List.mem_of_getElem? (i := 197) (by decide +kernel))) rfl, im_X12_lays, se_X12_lays, in_X12_lays, co_X12_lays⟩
theorem dX12_feed_0 : decode cX12_feed 0 = .ok (.aload_n 0, 1) := by decide +kernel
theorem dX12_feed_1 : decode cX12_feed 1 = .ok (.getfield 90, 3) := by decide +kernel
theorem dX12_feed_4 : decode cX12_feed 4 = .ok (.bipush 20, 2) := by decide +kernel
theorem dX12_feed_6 : decode cX12_feed 6 = .ok (.iadd, 1) := by decide +kernel
theorem dX12_feed_7 : decode cX12_feed 7 = .ok (.sipush 2000, 3) := by decide +kernel
theorem dX12_feed_10 : decode cX12_feed 10 = .ok (.if_icmp .le 5, 3) := by decide +kernel
theorem dX12_feed_13 : decode cX12_feed 13 = .ok (.iconst (-1), 1) := by decide +kernel
theorem dX12_feed_14 : decode cX12_feed 14 = .ok (.ireturn, 1) := by decide +kernel
theorem dX12_feed_15 : decode cX12_feed 15 = .ok (.aload_n 0, 1) := by decide +kernel
theorem dX12_feed_16 : decode cX12_feed 16 = .ok (.iload_n 1, 1) := by decide +kernel
theorem dX12_feed_17 : decode cX12_feed 17 = .ok (.invokevirtual 93, 3) := by decide +kernel
theorem dX12_feed_20 : decode cX12_feed 20 = .ok (.aload_n 0, 1) := by decide +kernel
theorem dX12_feed_21 : decode cX12_feed 21 = .ok (.iload_n 2, 1) := by decide +kernel
theorem dX12_feed_22 : decode cX12_feed 22 = .ok (.invokevirtual 93, 3) := by decide +kernel
theorem dX12_feed_25 : decode cX12_feed 25 = .ok (.aload_n 0, 1) := by decide +kernel
theorem dX12_feed_26 : decode cX12_feed 26 = .ok (.iload_n 3, 1) := by decide +kernel
theorem dX12_feed_27 : decode cX12_feed 27 = .ok (.invokevirtual 93, 3) := by decide +kernel
theorem dX12_feed_30 : decode cX12_feed 30 = .ok (.aload_n 0, 1) := by decide +kernel
theorem dX12_feed_31 : decode cX12_feed 31 = .ok (.iload 4, 2) := by decide +kernel
theorem dX12_feed_33 : decode cX12_feed 33 = .ok (.invokevirtual 93, 3) := by decide +kernel
theorem dX12_feed_36 : decode cX12_feed 36 = .ok (.aload_n 0, 1) := by decide +kernel
theorem dX12_feed_37 : decode cX12_feed 37 = .ok (.iload 5, 2) := by decide +kernel
theorem dX12_feed_39 : decode cX12_feed 39 = .ok (.invokevirtual 93, 3) := by decide +kernel
theorem dX12_feed_42 : decode cX12_feed 42 = .ok (.aload_n 0, 1) := by decide +kernel
theorem dX12_feed_43 : decode cX12_feed 43 = .ok (.getfield 90, 3) := by decide +kernel
theorem dX12_feed_46 : decode cX12_feed 46 = .ok (.ireturn, 1) := by decide +kernel
def rmX12_feed : Room := { frames := 1, cells := 0, slots := 0, locals := 22 }
set_option maxRecDepth 100000 in
def fX12_feed (N : Nat) (g : Gs) (x0 : Nat) (x1 : Int32) (x2 : Int32) (x3 : Int32) (x4 : Int32) (x5 : Int32) (d : Ds) : Option (Int32 × Ds) := gd (chk g x0 11) <| if ((dI d x0 2) + 20) ≤ (2000 : Int32) then (cv (fX12_lays N g x0 x1 d) fun d3 => (cv (fX12_lays N g x0 x2 d3) fun d5 => (cv (fX12_lays N g x0 x3 d5) fun d7 => (cv (fX12_lays N g x0 x4 d7) fun d9 => (cv (fX12_lays N g x0 x5 d9) fun d11 => (some ((dI d11 x0 2), d11))))))) else (some ((-1), d))
set_option maxHeartbeats 4000000 in
set_option maxRecDepth 100000 in
theorem tX12_feed_E {p : Program} {l : Launch} {e : Env} {s : State} {m : MethodId} {args : Array Value} {below : List Frame} {meth : Method} {c : Code} {D : va_G} {cy : Nat → ClassId} {B : Bs} (C : Cx p s m args c cX12_feed 6 RX12 D cy B) (hr : meth.sig.returnType = (some .int)) (hlocks : meth.locks = false) {N : Nat} {g : Gs} {x0 : Nat} {x1 : Int32} {x2 : Int32} {x3 : Int32} {x4 : Int32} {x5 : Int32} {vz : Int32} {dz : Ds} {d : Ds} (hf : fX12_feed N g x0 x1 x2 x3 x4 x5 d = some (vz, dz)) : WB p l e rmX12_feed s m args below meth c 6 D cy B 0 0 (MQ below (QI D cy B vz g dz) args s 0 0 (wA B)) g d [(0, .ref (ad B x0)), (1, .int x1), (2, .int x2), (3, .int x3), (4, .int x4), (5, .int x5)] 0 [] := by
  unfold fX12_feed at hf
  refine b_aload_n C dX12_feed_0 0 rfl rfl ?_
  obtain ⟨h1, hf⟩ := gd_s hf
  refine b_gI C dX12_feed_1 fl_X12_90 h1 ?_
  refine b_bipush C (v := 20) dX12_feed_4 (by decide) ?_
  refine b_iadd C dX12_feed_6 ?_
  refine b_sipush C (v := 2000) dX12_feed_7 (by decide) ?_
  refine b_icmp_le C (tgt := 15) dX12_feed_10 (by decide) (fun c2 => ?_) (fun c2 => ?_)
  · have hf := it_s c2 hf
    refine b_aload_n C dX12_feed_15 0 rfl rfl ?_
    refine b_iload_n C dX12_feed_16 1 rfl rfl ?_
    obtain ⟨d3, k4, hf⟩ := cv_s hf
    refine b_cVN C [] dX12_feed_17 (kX12_lays l D cy B k4) lv_X12_93 ⟨rfl, rfl, Nat.le_of_ble_eq_true rfl, Nat.le_of_ble_eq_true rfl⟩ h1 (by decide) rfl (Nat.le_of_ble_eq_true rfl) ⟨Nat.zero_le _, Nat.zero_le _⟩ rfl ?_
    refine b_aload_n C dX12_feed_20 0 rfl rfl ?_
    refine b_iload_n C dX12_feed_21 2 rfl rfl ?_
    obtain ⟨d5, k6, hf⟩ := cv_s hf
    refine b_cVN C [] dX12_feed_22 (kX12_lays l D cy B k6) lv_X12_93 ⟨rfl, rfl, Nat.le_of_ble_eq_true rfl, Nat.le_of_ble_eq_true rfl⟩ h1 (by decide) rfl (Nat.le_of_ble_eq_true rfl) ⟨Nat.zero_le _, Nat.zero_le _⟩ rfl ?_
    refine b_aload_n C dX12_feed_25 0 rfl rfl ?_
    refine b_iload_n C dX12_feed_26 3 rfl rfl ?_
    obtain ⟨d7, k8, hf⟩ := cv_s hf
    refine b_cVN C [] dX12_feed_27 (kX12_lays l D cy B k8) lv_X12_93 ⟨rfl, rfl, Nat.le_of_ble_eq_true rfl, Nat.le_of_ble_eq_true rfl⟩ h1 (by decide) rfl (Nat.le_of_ble_eq_true rfl) ⟨Nat.zero_le _, Nat.zero_le _⟩ rfl ?_
    refine b_aload_n C dX12_feed_30 0 rfl rfl ?_
    refine b_iload C dX12_feed_31 4 rfl ?_
    obtain ⟨d9, k10, hf⟩ := cv_s hf
    refine b_cVN C [] dX12_feed_33 (kX12_lays l D cy B k10) lv_X12_93 ⟨rfl, rfl, Nat.le_of_ble_eq_true rfl, Nat.le_of_ble_eq_true rfl⟩ h1 (by decide) rfl (Nat.le_of_ble_eq_true rfl) ⟨Nat.zero_le _, Nat.zero_le _⟩ rfl ?_
    refine b_aload_n C dX12_feed_36 0 rfl rfl ?_
    refine b_iload C dX12_feed_37 5 rfl ?_
    obtain ⟨d11, k12, hf⟩ := cv_s hf
    refine b_cVN C [] dX12_feed_39 (kX12_lays l D cy B k12) lv_X12_93 ⟨rfl, rfl, Nat.le_of_ble_eq_true rfl, Nat.le_of_ble_eq_true rfl⟩ h1 (by decide) rfl (Nat.le_of_ble_eq_true rfl) ⟨Nat.zero_le _, Nat.zero_le _⟩ rfl ?_
    refine b_aload_n C dX12_feed_42 0 rfl rfl ?_
    refine b_gI C dX12_feed_43 fl_X12_90 h1 ?_
    exact b_iret C hr hlocks hf dX12_feed_46
  · have hf := if_s c2 hf
    refine b_iconst C (v := (-1)) dX12_feed_13 (by decide) ?_
    exact b_iret C hr hlocks hf dX12_feed_14
theorem kX12_feed (l : Launch) (D : va_G) (cy : Nat → ClassId) (B : Bs) {N : Nat} {g : Gs} {x0 : Nat} {x1 : Int32} {x2 : Int32} {x3 : Int32} {x4 : Int32} {x5 : Int32} {vz : Int32} {dz : Ds} {d : Ds} (hf : fX12_feed N g x0 x1 x2 x3 x4 x5 d = some (vz, dz)) : Met l yX12_feed (.code yX12_feed cX12_feed 6 (some .int) :: wl) rmX12_feed (PC D cy B [.ref (ad B x0), .int x1, .int x2, .int x3, .int x4, .int x5] g d) (QI D cy B vz g dz) 0 0 (wA B) :=
  met_of (by decide +kernel) (Nat.le_of_ble_eq_true rfl) (fun p e s m args below meth c C hr hlocks _ => b_sub [(0, .ref (ad B x0)), (1, .int x1), (2, .int x2), (3, .int x3), (4, .int x4), (5, .int x5)] [0, 1, 2, 3, 4, 5] rfl (tX12_feed_E C hr hlocks hf))
/-! KeyMatrixModel.back(I)I -/
theorem dX12_back_0 : decode cX12_back 0 = .ok (.iload_n 1, 1) := by decide +kernel
theorem dX12_back_1 : decode cX12_back 1 = .ok (.ifCond .lt 11, 3) := by decide +kernel
theorem dX12_back_4 : decode cX12_back 4 = .ok (.iload_n 1, 1) := by decide +kernel
theorem dX12_back_5 : decode cX12_back 5 = .ok (.aload_n 0, 1) := by decide +kernel
theorem dX12_back_6 : decode cX12_back 6 = .ok (.getfield 90, 3) := by decide +kernel
theorem dX12_back_9 : decode cX12_back 9 = .ok (.if_icmp .le 5, 3) := by decide +kernel
theorem dX12_back_12 : decode cX12_back 12 = .ok (.iconst (-1), 1) := by decide +kernel
theorem dX12_back_13 : decode cX12_back 13 = .ok (.ireturn, 1) := by decide +kernel
theorem dX12_back_14 : decode cX12_back 14 = .ok (.aload_n 0, 1) := by decide +kernel
theorem dX12_back_15 : decode cX12_back 15 = .ok (.dup, 1) := by decide +kernel
theorem dX12_back_16 : decode cX12_back 16 = .ok (.getfield 90, 3) := by decide +kernel
theorem dX12_back_19 : decode cX12_back 19 = .ok (.iload_n 1, 1) := by decide +kernel
theorem dX12_back_20 : decode cX12_back 20 = .ok (.isub, 1) := by decide +kernel
theorem dX12_back_21 : decode cX12_back 21 = .ok (.putfield 90, 3) := by decide +kernel
theorem dX12_back_24 : decode cX12_back 24 = .ok (.aload_n 0, 1) := by decide +kernel
theorem dX12_back_25 : decode cX12_back 25 = .ok (.getfield 90, 3) := by decide +kernel
theorem dX12_back_28 : decode cX12_back 28 = .ok (.ireturn, 1) := by decide +kernel
def rmX12_back : Room := { frames := 0, cells := 0, slots := 0, locals := 0 }
set_option maxRecDepth 100000 in
def fX12_back_J12 (N : Nat) (g : Gs) (x0 : Nat) (x1 : Int32) (d : Ds) : Option (Int32 × Ds) := some ((-1), d)
set_option maxHeartbeats 4000000 in
set_option maxRecDepth 100000 in
theorem tX12_back_12 {p : Program} {l : Launch} {e : Env} {s : State} {m : MethodId} {args : Array Value} {below : List Frame} {meth : Method} {c : Code} {D : va_G} {cy : Nat → ClassId} {B : Bs} (C : Cx p s m args c cX12_back 2 RX12 D cy B) (hr : meth.sig.returnType = (some .int)) (hlocks : meth.locks = false) {N : Nat} {g : Gs} {x0 : Nat} {x1 : Int32} {vz : Int32} {dz : Ds} {d : Ds} (hf : fX12_back_J12 N g x0 x1 d = some (vz, dz)) : WB p l e rmX12_back s m args below meth c 2 D cy B 0 0 (MQ below (QI D cy B vz g dz) args s 0 0 (wA B)) g d [(0, .ref (ad B x0)), (1, .int x1)] 12 [] := by
  unfold fX12_back_J12 at hf
  refine b_iconst C (v := (-1)) dX12_back_12 (by decide) ?_
  exact b_iret C hr hlocks hf dX12_back_13
set_option maxRecDepth 100000 in
def fX12_back (N : Nat) (g : Gs) (x0 : Nat) (x1 : Int32) (d : Ds) : Option (Int32 × Ds) := if x1 < 0 then (fX12_back_J12 N g x0 x1 d) else (gd (chk g x0 11) <| if x1 ≤ (dI d x0 2) then (bd (sI d x0 2 ((dI d x0 2) - x1)) fun d4 => (some ((dI d4 x0 2), d4))) else (fX12_back_J12 N g x0 x1 d))
set_option maxHeartbeats 4000000 in
set_option maxRecDepth 100000 in
theorem tX12_back_E {p : Program} {l : Launch} {e : Env} {s : State} {m : MethodId} {args : Array Value} {below : List Frame} {meth : Method} {c : Code} {D : va_G} {cy : Nat → ClassId} {B : Bs} (C : Cx p s m args c cX12_back 2 RX12 D cy B) (hr : meth.sig.returnType = (some .int)) (hlocks : meth.locks = false) {N : Nat} {g : Gs} {x0 : Nat} {x1 : Int32} {vz : Int32} {dz : Ds} {d : Ds} (hf : fX12_back N g x0 x1 d = some (vz, dz)) : WB p l e rmX12_back s m args below meth c 2 D cy B 0 0 (MQ below (QI D cy B vz g dz) args s 0 0 (wA B)) g d [(0, .ref (ad B x0)), (1, .int x1)] 0 [] := by
  unfold fX12_back at hf
  refine b_iload_n C dX12_back_0 1 rfl rfl ?_
  refine b_if_lt C (tgt := 12) dX12_back_1 (by decide) (fun c1 => ?_) (fun c1 => ?_)
  · have hf := it_s c1 hf
    refine b_sub [(0, .ref (ad B x0)), (1, .int x1)] [0, 1] rfl ?_
    exact tX12_back_12 C hr hlocks hf
  · have hf := if_s c1 hf
    refine b_iload_n C dX12_back_4 1 rfl rfl ?_
    refine b_aload_n C dX12_back_5 0 rfl rfl ?_
    obtain ⟨h2, hf⟩ := gd_s hf
    refine b_gI C dX12_back_6 fl_X12_90 h2 ?_
    refine b_icmp_le C (tgt := 14) dX12_back_9 (by decide) (fun c3 => ?_) (fun c3 => ?_)
    · have hf := it_s c3 hf
      refine b_aload_n C dX12_back_14 0 rfl rfl ?_
      refine b_dup C dX12_back_15 rfl ?_
      refine b_gI C dX12_back_16 fl_X12_90 h2 ?_
      refine b_iload_n C dX12_back_19 1 rfl rfl ?_
      refine b_isub C dX12_back_20 ?_
      obtain ⟨d4, ed4, hf⟩ := bd_s hf
      refine b_pI C dX12_back_21 fl_X12_90 fp11_2 h2 ed4 ?_
      refine b_aload_n C dX12_back_24 0 rfl rfl ?_
      refine b_gI C dX12_back_25 fl_X12_90 h2 ?_
      exact b_iret C hr hlocks hf dX12_back_28
    · have hf := if_s c3 hf
      refine b_sub [(0, .ref (ad B x0)), (1, .int x1)] [0, 1] rfl ?_
      exact tX12_back_12 C hr hlocks hf
theorem kX12_back (l : Launch) (D : va_G) (cy : Nat → ClassId) (B : Bs) {N : Nat} {g : Gs} {x0 : Nat} {x1 : Int32} {vz : Int32} {dz : Ds} {d : Ds} (hf : fX12_back N g x0 x1 d = some (vz, dz)) : Met l yX12_back (.code yX12_back cX12_back 2 (some .int) :: wl) rmX12_back (PC D cy B [.ref (ad B x0), .int x1] g d) (QI D cy B vz g dz) 0 0 (wA B) :=
  met_of (by decide +kernel) (Nat.le_of_ble_eq_true rfl) (fun p e s m args below meth c C hr hlocks _ => b_sub [(0, .ref (ad B x0)), (1, .int x1)] [0, 1] rfl (tX12_back_E C hr hlocks hf))
/-! KeyMatrixModel.byteAt(I)I -/
theorem fl_X12_97 : FLI RX12 97 11 4 := ⟨⟨RX12, TX12, 33, rfl, by decide, inl11, Or.inl (mW (mT5 (List.mem_of_getElem? (i := 95) (by decide +kernel))) rfl)⟩, by decide, by decide +kernel⟩
theorem fl_X12_17 : FLR RX12 17 11 3 := ⟨⟨RX12, TX12, 33, rfl, by decide, inl11, Or.inl (mW (mT5 (List.mem_of_getElem? (i := 94) (by decide +kernel))) rfl)⟩, by decide, by decide +kernel⟩
theorem dX12_byteAt_0 : decode cX12_byteAt 0 = .ok (.iload_n 1, 1) := by decide +kernel
theorem dX12_byteAt_1 : decode cX12_byteAt 1 = .ok (.aload_n 0, 1) := by decide +kernel
theorem dX12_byteAt_2 : decode cX12_byteAt 2 = .ok (.getfield 97, 3) := by decide +kernel
theorem dX12_byteAt_5 : decode cX12_byteAt 5 = .ok (.if_icmp .ge 16, 3) := by decide +kernel
theorem dX12_byteAt_8 : decode cX12_byteAt 8 = .ok (.aload_n 0, 1) := by decide +kernel
theorem dX12_byteAt_9 : decode cX12_byteAt 9 = .ok (.getfield 17, 3) := by decide +kernel
theorem dX12_byteAt_12 : decode cX12_byteAt 12 = .ok (.iload_n 1, 1) := by decide +kernel
theorem dX12_byteAt_13 : decode cX12_byteAt 13 = .ok (.baload, 1) := by decide +kernel
theorem dX12_byteAt_14 : decode cX12_byteAt 14 = .ok (.sipush 255, 3) := by decide +kernel
theorem dX12_byteAt_17 : decode cX12_byteAt 17 = .ok (.iand, 1) := by decide +kernel
theorem dX12_byteAt_18 : decode cX12_byteAt 18 = .ok (.goto 4, 3) := by decide +kernel
theorem dX12_byteAt_21 : decode cX12_byteAt 21 = .ok (.iconst 0, 1) := by decide +kernel
theorem dX12_byteAt_22 : decode cX12_byteAt 22 = .ok (.ireturn, 1) := by decide +kernel
def rmX12_byteAt : Room := { frames := 0, cells := 0, slots := 0, locals := 0 }
set_option maxRecDepth 100000 in
def fX12_byteAt_J22 (N : Nat) (g : Gs) (x0 : Nat) (x1 : Int32) (z0 : Int32) (d : Ds) : Option (Int32 × Ds) := some (z0, d)
set_option maxHeartbeats 4000000 in
set_option maxRecDepth 100000 in
theorem tX12_byteAt_22 {p : Program} {l : Launch} {e : Env} {s : State} {m : MethodId} {args : Array Value} {below : List Frame} {meth : Method} {c : Code} {D : va_G} {cy : Nat → ClassId} {B : Bs} (C : Cx p s m args c cX12_byteAt 2 RX12 D cy B) (hr : meth.sig.returnType = (some .int)) (hlocks : meth.locks = false) {N : Nat} {g : Gs} {x0 : Nat} {x1 : Int32} {vz : Int32} {dz : Ds} {z0 : Int32} {d : Ds} (hf : fX12_byteAt_J22 N g x0 x1 z0 d = some (vz, dz)) : WB p l e rmX12_byteAt s m args below meth c 2 D cy B 0 0 (MQ below (QI D cy B vz g dz) args s 0 0 (wA B)) g d [(0, .ref (ad B x0)), (1, .int x1)] 22 [.int z0] := by
  unfold fX12_byteAt_J22 at hf
  exact b_iret C hr hlocks hf dX12_byteAt_22
set_option maxRecDepth 100000 in
def fX12_byteAt (N : Nat) (g : Gs) (x0 : Nat) (x1 : Int32) (d : Ds) : Option (Int32 × Ds) := gd (chk g x0 11) <| if (dI d x0 4) ≤ x1 then (fX12_byteAt_J22 N g x0 x1 0 d) else (ob (gR g x0 3) fun r3 => (gd (chk g r3 100) <| gd (¬ (x1 < 0 ∨ gL g r3 ≤ x1.toNatClampNeg)) <| fX12_byteAt_J22 N g x0 x1 ((dI d r3 x1.toNatClampNeg) &&& 255) d))
set_option maxHeartbeats 4000000 in
set_option maxRecDepth 100000 in
theorem tX12_byteAt_E {p : Program} {l : Launch} {e : Env} {s : State} {m : MethodId} {args : Array Value} {below : List Frame} {meth : Method} {c : Code} {D : va_G} {cy : Nat → ClassId} {B : Bs} (C : Cx p s m args c cX12_byteAt 2 RX12 D cy B) (hr : meth.sig.returnType = (some .int)) (hlocks : meth.locks = false) {N : Nat} {g : Gs} {x0 : Nat} {x1 : Int32} {vz : Int32} {dz : Ds} {d : Ds} (hf : fX12_byteAt N g x0 x1 d = some (vz, dz)) : WB p l e rmX12_byteAt s m args below meth c 2 D cy B 0 0 (MQ below (QI D cy B vz g dz) args s 0 0 (wA B)) g d [(0, .ref (ad B x0)), (1, .int x1)] 0 [] := by
  unfold fX12_byteAt at hf
  refine b_iload_n C dX12_byteAt_0 1 rfl rfl ?_
  refine b_aload_n C dX12_byteAt_1 0 rfl rfl ?_
  obtain ⟨h1, hf⟩ := gd_s hf
  refine b_gI C dX12_byteAt_2 fl_X12_97 h1 ?_
  refine b_icmp_ge C (tgt := 21) dX12_byteAt_5 (by decide) (fun c2 => ?_) (fun c2 => ?_)
  · have hf := it_s c2 hf
    refine b_iconst C (v := 0) dX12_byteAt_21 (by decide) ?_
    refine b_sub [(0, .ref (ad B x0)), (1, .int x1)] [0, 1] rfl ?_
    exact tX12_byteAt_22 C hr hlocks hf
  · have hf := if_s c2 hf
    refine b_aload_n C dX12_byteAt_8 0 rfl rfl ?_
    obtain ⟨r3, er3, hf⟩ := ob_s hf
    refine b_gR C dX12_byteAt_9 fl_X12_17 h1 er3 ?_
    refine b_iload_n C dX12_byteAt_12 1 rfl rfl ?_
    obtain ⟨h4, hf⟩ := gd_s hf
    obtain ⟨h5, hf⟩ := gd_s hf
    refine b_bald C h4 h5 dX12_byteAt_13 ?_
    refine b_sipush C (v := 255) dX12_byteAt_14 (by decide) ?_
    refine b_iand C dX12_byteAt_17 ?_
    refine b_goto C (tgt := 22) dX12_byteAt_18 (by decide) ?_
    refine b_sub [(0, .ref (ad B x0)), (1, .int x1)] [0, 1] rfl ?_
    exact tX12_byteAt_22 C hr hlocks hf
theorem kX12_byteAt (l : Launch) (D : va_G) (cy : Nat → ClassId) (B : Bs) {N : Nat} {g : Gs} {x0 : Nat} {x1 : Int32} {vz : Int32} {dz : Ds} {d : Ds} (hf : fX12_byteAt N g x0 x1 d = some (vz, dz)) : Met l yX12_byteAt (.code yX12_byteAt cX12_byteAt 2 (some .int) :: wl) rmX12_byteAt (PC D cy B [.ref (ad B x0), .int x1] g d) (QI D cy B vz g dz) 0 0 (wA B) :=
  met_of (by decide +kernel) (Nat.le_of_ble_eq_true rfl) (fun p e s m args below meth c C hr hlocks _ => b_sub [(0, .ref (ad B x0)), (1, .int x1)] [0, 1] rfl (tX12_byteAt_E C hr hlocks hf))
/-! KeyMatrixModel.isDigit(I)Z -/
theorem dX12_isDigit_0 : decode cX12_isDigit 0 = .ok (.iload_n 0, 1) := by decide +kernel
theorem dX12_isDigit_1 : decode cX12_isDigit 1 = .ok (.bipush 48, 2) := by decide +kernel
theorem dX12_isDigit_3 : decode cX12_isDigit 3 = .ok (.if_icmp .lt 13, 3) := by decide +kernel
theorem dX12_isDigit_6 : decode cX12_isDigit 6 = .ok (.iload_n 0, 1) := by decide +kernel
theorem dX12_isDigit_7 : decode cX12_isDigit 7 = .ok (.bipush 57, 2) := by decide +kernel
theorem dX12_isDigit_9 : decode cX12_isDigit 9 = .ok (.if_icmp .gt 7, 3) := by decide +kernel
theorem dX12_isDigit_12 : decode cX12_isDigit 12 = .ok (.iconst 1, 1) := by decide +kernel
theorem dX12_isDigit_13 : decode cX12_isDigit 13 = .ok (.goto 4, 3) := by decide +kernel
theorem dX12_isDigit_16 : decode cX12_isDigit 16 = .ok (.iconst 0, 1) := by decide +kernel
theorem dX12_isDigit_17 : decode cX12_isDigit 17 = .ok (.ireturn, 1) := by decide +kernel
def rmX12_isDigit : Room := { frames := 0, cells := 0, slots := 0, locals := 0 }
set_option maxRecDepth 100000 in
def fX12_isDigit_J17 (N : Nat) (g : Gs) (x0 : Int32) (z0 : Int32) (d : Ds) : Option (Int32 × Ds) := gd (z0 = 0 ∨ z0 = 1) <| some (z0, d)
set_option maxHeartbeats 4000000 in
set_option maxRecDepth 100000 in
theorem tX12_isDigit_17 {p : Program} {l : Launch} {e : Env} {s : State} {m : MethodId} {args : Array Value} {below : List Frame} {meth : Method} {c : Code} {D : va_G} {cy : Nat → ClassId} {B : Bs} (C : Cx p s m args c cX12_isDigit 1 RX12 D cy B) (hr : meth.sig.returnType = (some .boolean)) (hlocks : meth.locks = false) {N : Nat} {g : Gs} {x0 : Int32} {vz : Int32} {dz : Ds} {z0 : Int32} {d : Ds} (hf : fX12_isDigit_J17 N g x0 z0 d = some (vz, dz)) : WB p l e rmX12_isDigit s m args below meth c 1 D cy B 0 0 (MQ below (QI D cy B vz g dz) args s 0 0 (wA B)) g d [(0, .int x0)] 17 [.int z0] := by
  unfold fX12_isDigit_J17 at hf
  obtain ⟨h2, hf⟩ := gd_s hf
  exact b_zret C hr hlocks h2 hf dX12_isDigit_17
set_option maxRecDepth 100000 in
def fX12_isDigit_J16 (N : Nat) (g : Gs) (x0 : Int32) (d : Ds) : Option (Int32 × Ds) := fX12_isDigit_J17 N g x0 0 d
set_option maxHeartbeats 4000000 in
set_option maxRecDepth 100000 in
theorem tX12_isDigit_16 {p : Program} {l : Launch} {e : Env} {s : State} {m : MethodId} {args : Array Value} {below : List Frame} {meth : Method} {c : Code} {D : va_G} {cy : Nat → ClassId} {B : Bs} (C : Cx p s m args c cX12_isDigit 1 RX12 D cy B) (hr : meth.sig.returnType = (some .boolean)) (hlocks : meth.locks = false) {N : Nat} {g : Gs} {x0 : Int32} {vz : Int32} {dz : Ds} {d : Ds} (hf : fX12_isDigit_J16 N g x0 d = some (vz, dz)) : WB p l e rmX12_isDigit s m args below meth c 1 D cy B 0 0 (MQ below (QI D cy B vz g dz) args s 0 0 (wA B)) g d [(0, .int x0)] 16 [] := by
  unfold fX12_isDigit_J16 at hf
  refine b_iconst C (v := 0) dX12_isDigit_16 (by decide) ?_
  refine b_sub [(0, .int x0)] [0] rfl ?_
  exact tX12_isDigit_17 C hr hlocks hf
set_option maxRecDepth 100000 in
def fX12_isDigit (N : Nat) (g : Gs) (x0 : Int32) (d : Ds) : Option (Int32 × Ds) := if x0 < (48 : Int32) then (fX12_isDigit_J16 N g x0 d) else (if (57 : Int32) < x0 then (fX12_isDigit_J16 N g x0 d) else (fX12_isDigit_J17 N g x0 1 d))
set_option maxHeartbeats 4000000 in
set_option maxRecDepth 100000 in
theorem tX12_isDigit_E {p : Program} {l : Launch} {e : Env} {s : State} {m : MethodId} {args : Array Value} {below : List Frame} {meth : Method} {c : Code} {D : va_G} {cy : Nat → ClassId} {B : Bs} (C : Cx p s m args c cX12_isDigit 1 RX12 D cy B) (hr : meth.sig.returnType = (some .boolean)) (hlocks : meth.locks = false) {N : Nat} {g : Gs} {x0 : Int32} {vz : Int32} {dz : Ds} {d : Ds} (hf : fX12_isDigit N g x0 d = some (vz, dz)) : WB p l e rmX12_isDigit s m args below meth c 1 D cy B 0 0 (MQ below (QI D cy B vz g dz) args s 0 0 (wA B)) g d [(0, .int x0)] 0 [] := by
  unfold fX12_isDigit at hf
  refine b_iload_n C dX12_isDigit_0 0 rfl rfl ?_
  refine b_bipush C (v := 48) dX12_isDigit_1 (by decide) ?_
  refine b_icmp_lt C (tgt := 16) dX12_isDigit_3 (by decide) (fun c1 => ?_) (fun c1 => ?_)
  · have hf := it_s c1 hf
    refine b_sub [(0, .int x0)] [0] rfl ?_
    exact tX12_isDigit_16 C hr hlocks hf
  · have hf := if_s c1 hf
    refine b_iload_n C dX12_isDigit_6 0 rfl rfl ?_
    refine b_bipush C (v := 57) dX12_isDigit_7 (by decide) ?_
    refine b_icmp_gt C (tgt := 16) dX12_isDigit_9 (by decide) (fun c3 => ?_) (fun c3 => ?_)
    · have hf := it_s c3 hf
      refine b_sub [(0, .int x0)] [0] rfl ?_
      exact tX12_isDigit_16 C hr hlocks hf
    · have hf := if_s c3 hf
      refine b_iconst C (v := 1) dX12_isDigit_12 (by decide) ?_
      refine b_goto C (tgt := 17) dX12_isDigit_13 (by decide) ?_
      refine b_sub [(0, .int x0)] [0] rfl ?_
      exact tX12_isDigit_17 C hr hlocks hf
theorem kX12_isDigit (l : Launch) (D : va_G) (cy : Nat → ClassId) (B : Bs) {N : Nat} {g : Gs} {x0 : Int32} {vz : Int32} {dz : Ds} {d : Ds} (hf : fX12_isDigit N g x0 d = some (vz, dz)) : Met l yX12_isDigit (.code yX12_isDigit cX12_isDigit 1 (some .boolean) :: wl) rmX12_isDigit (PC D cy B [.int x0] g d) (QI D cy B vz g dz) 0 0 (wA B) :=
  met_of (by decide +kernel) (Nat.le_of_ble_eq_true rfl) (fun p e s m args below meth c C hr hlocks _ => b_sub [(0, .int x0)] [0] rfl (tX12_isDigit_E C hr hlocks hf))
/-! KeyMatrixModel.isLetter(I)Z -/
theorem dX12_isLetter_0 : decode cX12_isLetter 0 = .ok (.iload_n 0, 1) := by decide +kernel
theorem dX12_isLetter_1 : decode cX12_isLetter 1 = .ok (.bipush 97, 2) := by decide +kernel
theorem dX12_isLetter_3 : decode cX12_isLetter 3 = .ok (.if_icmp .lt 13, 3) := by decide +kernel
theorem dX12_isLetter_6 : decode cX12_isLetter 6 = .ok (.iload_n 0, 1) := by decide +kernel
theorem dX12_isLetter_7 : decode cX12_isLetter 7 = .ok (.bipush 122, 2) := by decide +kernel
theorem dX12_isLetter_9 : decode cX12_isLetter 9 = .ok (.if_icmp .gt 7, 3) := by decide +kernel
theorem dX12_isLetter_12 : decode cX12_isLetter 12 = .ok (.iconst 1, 1) := by decide +kernel
theorem dX12_isLetter_13 : decode cX12_isLetter 13 = .ok (.goto 4, 3) := by decide +kernel
theorem dX12_isLetter_16 : decode cX12_isLetter 16 = .ok (.iconst 0, 1) := by decide +kernel
theorem dX12_isLetter_17 : decode cX12_isLetter 17 = .ok (.ireturn, 1) := by decide +kernel
def rmX12_isLetter : Room := { frames := 0, cells := 0, slots := 0, locals := 0 }
set_option maxRecDepth 100000 in
def fX12_isLetter_J17 (N : Nat) (g : Gs) (x0 : Int32) (z0 : Int32) (d : Ds) : Option (Int32 × Ds) := gd (z0 = 0 ∨ z0 = 1) <| some (z0, d)
set_option maxHeartbeats 4000000 in
set_option maxRecDepth 100000 in
theorem tX12_isLetter_17 {p : Program} {l : Launch} {e : Env} {s : State} {m : MethodId} {args : Array Value} {below : List Frame} {meth : Method} {c : Code} {D : va_G} {cy : Nat → ClassId} {B : Bs} (C : Cx p s m args c cX12_isLetter 1 RX12 D cy B) (hr : meth.sig.returnType = (some .boolean)) (hlocks : meth.locks = false) {N : Nat} {g : Gs} {x0 : Int32} {vz : Int32} {dz : Ds} {z0 : Int32} {d : Ds} (hf : fX12_isLetter_J17 N g x0 z0 d = some (vz, dz)) : WB p l e rmX12_isLetter s m args below meth c 1 D cy B 0 0 (MQ below (QI D cy B vz g dz) args s 0 0 (wA B)) g d [(0, .int x0)] 17 [.int z0] := by
  unfold fX12_isLetter_J17 at hf
  obtain ⟨h2, hf⟩ := gd_s hf
  exact b_zret C hr hlocks h2 hf dX12_isLetter_17
set_option maxRecDepth 100000 in
def fX12_isLetter_J16 (N : Nat) (g : Gs) (x0 : Int32) (d : Ds) : Option (Int32 × Ds) := fX12_isLetter_J17 N g x0 0 d
set_option maxHeartbeats 4000000 in
set_option maxRecDepth 100000 in
theorem tX12_isLetter_16 {p : Program} {l : Launch} {e : Env} {s : State} {m : MethodId} {args : Array Value} {below : List Frame} {meth : Method} {c : Code} {D : va_G} {cy : Nat → ClassId} {B : Bs} (C : Cx p s m args c cX12_isLetter 1 RX12 D cy B) (hr : meth.sig.returnType = (some .boolean)) (hlocks : meth.locks = false) {N : Nat} {g : Gs} {x0 : Int32} {vz : Int32} {dz : Ds} {d : Ds} (hf : fX12_isLetter_J16 N g x0 d = some (vz, dz)) : WB p l e rmX12_isLetter s m args below meth c 1 D cy B 0 0 (MQ below (QI D cy B vz g dz) args s 0 0 (wA B)) g d [(0, .int x0)] 16 [] := by
  unfold fX12_isLetter_J16 at hf
  refine b_iconst C (v := 0) dX12_isLetter_16 (by decide) ?_
  refine b_sub [(0, .int x0)] [0] rfl ?_
  exact tX12_isLetter_17 C hr hlocks hf
set_option maxRecDepth 100000 in
def fX12_isLetter (N : Nat) (g : Gs) (x0 : Int32) (d : Ds) : Option (Int32 × Ds) := if x0 < (97 : Int32) then (fX12_isLetter_J16 N g x0 d) else (if (122 : Int32) < x0 then (fX12_isLetter_J16 N g x0 d) else (fX12_isLetter_J17 N g x0 1 d))
set_option maxHeartbeats 4000000 in
set_option maxRecDepth 100000 in
theorem tX12_isLetter_E {p : Program} {l : Launch} {e : Env} {s : State} {m : MethodId} {args : Array Value} {below : List Frame} {meth : Method} {c : Code} {D : va_G} {cy : Nat → ClassId} {B : Bs} (C : Cx p s m args c cX12_isLetter 1 RX12 D cy B) (hr : meth.sig.returnType = (some .boolean)) (hlocks : meth.locks = false) {N : Nat} {g : Gs} {x0 : Int32} {vz : Int32} {dz : Ds} {d : Ds} (hf : fX12_isLetter N g x0 d = some (vz, dz)) : WB p l e rmX12_isLetter s m args below meth c 1 D cy B 0 0 (MQ below (QI D cy B vz g dz) args s 0 0 (wA B)) g d [(0, .int x0)] 0 [] := by
  unfold fX12_isLetter at hf
  refine b_iload_n C dX12_isLetter_0 0 rfl rfl ?_
  refine b_bipush C (v := 97) dX12_isLetter_1 (by decide) ?_
  refine b_icmp_lt C (tgt := 16) dX12_isLetter_3 (by decide) (fun c1 => ?_) (fun c1 => ?_)
  · have hf := it_s c1 hf
    refine b_sub [(0, .int x0)] [0] rfl ?_
    exact tX12_isLetter_16 C hr hlocks hf
  · have hf := if_s c1 hf
    refine b_iload_n C dX12_isLetter_6 0 rfl rfl ?_
    refine b_bipush C (v := 122) dX12_isLetter_7 (by decide) ?_
    refine b_icmp_gt C (tgt := 16) dX12_isLetter_9 (by decide) (fun c3 => ?_) (fun c3 => ?_)
    · have hf := it_s c3 hf
      refine b_sub [(0, .int x0)] [0] rfl ?_
      exact tX12_isLetter_16 C hr hlocks hf
    · have hf := if_s c3 hf
      refine b_iconst C (v := 1) dX12_isLetter_12 (by decide) ?_
      refine b_goto C (tgt := 17) dX12_isLetter_13 (by decide) ?_
      refine b_sub [(0, .int x0)] [0] rfl ?_
      exact tX12_isLetter_17 C hr hlocks hf
theorem kX12_isLetter (l : Launch) (D : va_G) (cy : Nat → ClassId) (B : Bs) {N : Nat} {g : Gs} {x0 : Int32} {vz : Int32} {dz : Ds} {d : Ds} (hf : fX12_isLetter N g x0 d = some (vz, dz)) : Met l yX12_isLetter (.code yX12_isLetter cX12_isLetter 1 (some .boolean) :: wl) rmX12_isLetter (PC D cy B [.int x0] g d) (QI D cy B vz g dz) 0 0 (wA B) :=
  met_of (by decide +kernel) (Nat.le_of_ble_eq_true rfl) (fun p e s m args below meth c C hr hlocks _ => b_sub [(0, .int x0)] [0] rfl (tX12_isLetter_E C hr hlocks hf))
/-! KeyMatrixModel.token(IIIJ)V -/
theorem fl_X12_20 : FLR RX12 20 11 5 := ⟨⟨RX12, TX12, 33, rfl, by decide, inl11, Or.inl (mW (mT5 (List.mem_of_getElem? (i := 96) (by decide +kernel))) rfl)⟩, by decide, by decide +kernel⟩
theorem fl_X12_102 : FLI RX12 102 11 10 := ⟨⟨RX12, TX12, 33, rfl, by decide, inl11, Or.inl (mW (mT5 (List.mem_of_getElem? (i := 101) (by decide +kernel))) rfl)⟩, by decide, by decide +kernel⟩
theorem fl_X12_24 : FLR RX12 24 11 6 := ⟨⟨RX12, TX12, 33, rfl, by decide, inl11, Or.inl (mW (mT5 (List.mem_of_getElem? (i := 97) (by decide +kernel))) rfl)⟩, by decide, by decide +kernel⟩
theorem fl_X12_27 : FLR RX12 27 11 7 := ⟨⟨RX12, TX12, 33, rfl, by decide, inl11, Or.inl (mW (mT5 (List.mem_of_getElem? (i := 98) (by decide +kernel))) rfl)⟩, by decide, by decide +kernel⟩
theorem fl_X12_30 : FLR RX12 30 11 8 := ⟨⟨RX12, TX12, 33, rfl, by decide, inl11, Or.inl (mW (mT5 (List.mem_of_getElem? (i := 99) (by decide +kernel))) rfl)⟩, by decide, by decide +kernel⟩
theorem fp11_10 : FPI 11 10 := ⟨ft11, (RX12, TX12, 33), rfl, by decide +kernel, by decide +kernel⟩
theorem dX12_token_0 : decode cX12_token 0 = .ok (.aload_n 0, 1) := by decide +kernel
theorem dX12_token_1 : decode cX12_token 1 = .ok (.getfield 20, 3) := by decide +kernel
theorem dX12_token_4 : decode cX12_token 4 = .ok (.aload_n 0, 1) := by decide +kernel
theorem dX12_token_5 : decode cX12_token 5 = .ok (.getfield 102, 3) := by decide +kernel
theorem dX12_token_8 : decode cX12_token 8 = .ok (.iload_n 1, 1) := by decide +kernel
theorem dX12_token_9 : decode cX12_token 9 = .ok (.iastore, 1) := by decide +kernel
theorem dX12_token_10 : decode cX12_token 10 = .ok (.aload_n 0, 1) := by decide +kernel
theorem dX12_token_11 : decode cX12_token 11 = .ok (.getfield 24, 3) := by decide +kernel
theorem dX12_token_14 : decode cX12_token 14 = .ok (.aload_n 0, 1) := by decide +kernel
theorem dX12_token_15 : decode cX12_token 15 = .ok (.getfield 102, 3) := by decide +kernel
theorem dX12_token_18 : decode cX12_token 18 = .ok (.iload_n 2, 1) := by decide +kernel
theorem dX12_token_19 : decode cX12_token 19 = .ok (.iastore, 1) := by decide +kernel
theorem dX12_token_20 : decode cX12_token 20 = .ok (.aload_n 0, 1) := by decide +kernel
theorem dX12_token_21 : decode cX12_token 21 = .ok (.getfield 27, 3) := by decide +kernel
theorem dX12_token_24 : decode cX12_token 24 = .ok (.aload_n 0, 1) := by decide +kernel
theorem dX12_token_25 : decode cX12_token 25 = .ok (.getfield 102, 3) := by decide +kernel
theorem dX12_token_28 : decode cX12_token 28 = .ok (.iload_n 3, 1) := by decide +kernel
theorem dX12_token_29 : decode cX12_token 29 = .ok (.iastore, 1) := by decide +kernel
theorem dX12_token_30 : decode cX12_token 30 = .ok (.aload_n 0, 1) := by decide +kernel
theorem dX12_token_31 : decode cX12_token 31 = .ok (.getfield 30, 3) := by decide +kernel
theorem dX12_token_34 : decode cX12_token 34 = .ok (.aload_n 0, 1) := by decide +kernel
theorem dX12_token_35 : decode cX12_token 35 = .ok (.getfield 102, 3) := by decide +kernel
theorem dX12_token_38 : decode cX12_token 38 = .ok (.lload 4, 2) := by decide +kernel
theorem dX12_token_40 : decode cX12_token 40 = .ok (.lastore, 1) := by decide +kernel
theorem dX12_token_41 : decode cX12_token 41 = .ok (.aload_n 0, 1) := by decide +kernel
theorem dX12_token_42 : decode cX12_token 42 = .ok (.dup, 1) := by decide +kernel
theorem dX12_token_43 : decode cX12_token 43 = .ok (.getfield 102, 3) := by decide +kernel
theorem dX12_token_46 : decode cX12_token 46 = .ok (.iconst 1, 1) := by decide +kernel
theorem dX12_token_47 : decode cX12_token 47 = .ok (.iadd, 1) := by decide +kernel
theorem dX12_token_48 : decode cX12_token 48 = .ok (.putfield 102, 3) := by decide +kernel
theorem dX12_token_51 : decode cX12_token 51 = .ok (.return_, 1) := by decide +kernel
def rmX12_token : Room := { frames := 0, cells := 0, slots := 0, locals := 0 }
set_option maxRecDepth 100000 in
def fX12_token (N : Nat) (g : Gs) (x0 : Nat) (x1 : Int32) (x2 : Int32) (x3 : Int32) (x4 : Int64) (d : Ds) : Option (Unit × Ds) := gd (chk g x0 11) <| ob (gR g x0 5) fun r2 => (gd (chk g r2 102) <| gd (¬ ((dI d x0 10) < 0 ∨ gL g r2 ≤ (dI d x0 10).toNatClampNeg)) <| bd (sI d r2 (dI d x0 10).toNatClampNeg x1) fun d5 => (ob (gR g x0 6) fun r6 => (gd (chk g r6 102) <| gd (¬ ((dI d5 x0 10) < 0 ∨ gL g r6 ≤ (dI d5 x0 10).toNatClampNeg)) <| bd (sI d5 r6 (dI d5 x0 10).toNatClampNeg x2) fun d9 => (ob (gR g x0 7) fun r10 => (gd (chk g r10 102) <| gd (¬ ((dI d9 x0 10) < 0 ∨ gL g r10 ≤ (dI d9 x0 10).toNatClampNeg)) <| bd (sI d9 r10 (dI d9 x0 10).toNatClampNeg x3) fun d13 => (ob (gR g x0 8) fun r14 => (gd (chk g r14 103) <| gd (¬ ((dI d13 x0 10) < 0 ∨ gL g r14 ≤ (dI d13 x0 10).toNatClampNeg)) <| bd (sL d13 r14 (dI d13 x0 10).toNatClampNeg x4) fun d17 => (bd (sI d17 x0 10 ((dI d17 x0 10) + 1)) fun d18 => (some ((), d18))))))))))
set_option maxHeartbeats 4000000 in
set_option maxRecDepth 100000 in
theorem tX12_token_E {p : Program} {l : Launch} {e : Env} {s : State} {m : MethodId} {args : Array Value} {below : List Frame} {meth : Method} {c : Code} {D : va_G} {cy : Nat → ClassId} {B : Bs} (C : Cx p s m args c cX12_token 6 RX12 D cy B) (hr : meth.sig.returnType = none) (hlocks : meth.locks = false) {N : Nat} {g : Gs} {x0 : Nat} {x1 : Int32} {x2 : Int32} {x3 : Int32} {x4 : Int64}  {dz : Ds} {d : Ds} (hf : fX12_token N g x0 x1 x2 x3 x4 d = some ((), dz)) : WB p l e rmX12_token s m args below meth c 6 D cy B 0 0 (MQ below (QV D cy B g dz) args s 0 0 (wA B)) g d [(0, .ref (ad B x0)), (1, .int x1), (2, .int x2), (3, .int x3), (4, .long x4)] 0 [] := by
  unfold fX12_token at hf
  refine b_aload_n C dX12_token_0 0 rfl rfl ?_
  obtain ⟨h1, hf⟩ := gd_s hf
  obtain ⟨r2, er2, hf⟩ := ob_s hf
  refine b_gR C dX12_token_1 fl_X12_20 h1 er2 ?_
  refine b_aload_n C dX12_token_4 0 rfl rfl ?_
  refine b_gI C dX12_token_5 fl_X12_102 h1 ?_
  refine b_iload_n C dX12_token_8 1 rfl rfl ?_
  obtain ⟨h3, hf⟩ := gd_s hf
  obtain ⟨h4, hf⟩ := gd_s hf
  obtain ⟨d5, ed5, hf⟩ := bd_s hf
  refine b_iast C h3 h4 ed5 dX12_token_9 ?_
  refine b_aload_n C dX12_token_10 0 rfl rfl ?_
  obtain ⟨r6, er6, hf⟩ := ob_s hf
  refine b_gR C dX12_token_11 fl_X12_24 h1 er6 ?_
  refine b_aload_n C dX12_token_14 0 rfl rfl ?_
  refine b_gI C dX12_token_15 fl_X12_102 h1 ?_
  refine b_iload_n C dX12_token_18 2 rfl rfl ?_
  obtain ⟨h7, hf⟩ := gd_s hf
  obtain ⟨h8, hf⟩ := gd_s hf
  obtain ⟨d9, ed9, hf⟩ := bd_s hf
  refine b_iast C h7 h8 ed9 dX12_token_19 ?_
  refine b_aload_n C dX12_token_20 0 rfl rfl ?_
  obtain ⟨r10, er10, hf⟩ := ob_s hf
  refine b_gR C dX12_token_21 fl_X12_27 h1 er10 ?_
  refine b_aload_n C dX12_token_24 0 rfl rfl ?_
  refine b_gI C dX12_token_25 fl_X12_102 h1 ?_
  refine b_iload_n C dX12_token_28 3 rfl rfl ?_
  obtain ⟨h11, hf⟩ := gd_s hf
  obtain ⟨h12, hf⟩ := gd_s hf
  obtain ⟨d13, ed13, hf⟩ := bd_s hf
  refine b_iast C h11 h12 ed13 dX12_token_29 ?_
  refine b_aload_n C dX12_token_30 0 rfl rfl ?_
  obtain ⟨r14, er14, hf⟩ := ob_s hf
  refine b_gR C dX12_token_31 fl_X12_30 h1 er14 ?_
  refine b_aload_n C dX12_token_34 0 rfl rfl ?_
  refine b_gI C dX12_token_35 fl_X12_102 h1 ?_
  refine b_lload C dX12_token_38 4 rfl ?_
  obtain ⟨h15, hf⟩ := gd_s hf
  obtain ⟨h16, hf⟩ := gd_s hf
  obtain ⟨d17, ed17, hf⟩ := bd_s hf
  refine b_last C h15 h16 ed17 dX12_token_40 ?_
  refine b_aload_n C dX12_token_41 0 rfl rfl ?_
  refine b_dup C dX12_token_42 rfl ?_
  refine b_gI C dX12_token_43 fl_X12_102 h1 ?_
  refine b_iconst C (v := 1) dX12_token_46 (by decide) ?_
  refine b_iadd C dX12_token_47 ?_
  obtain ⟨d18, ed18, hf⟩ := bd_s hf
  refine b_pI C dX12_token_48 fl_X12_102 fp11_10 h1 ed18 ?_
  exact b_vret C hr hlocks hf dX12_token_51
theorem kX12_token (l : Launch) (D : va_G) (cy : Nat → ClassId) (B : Bs) {N : Nat} {g : Gs} {x0 : Nat} {x1 : Int32} {x2 : Int32} {x3 : Int32} {x4 : Int64}  {dz : Ds} {d : Ds} (hf : fX12_token N g x0 x1 x2 x3 x4 d = some ((), dz)) : Met l yX12_token (.code yX12_token cX12_token 6 none :: wl) rmX12_token (PC D cy B [.ref (ad B x0), .int x1, .int x2, .int x3, .long x4] g d) (QV D cy B g dz) 0 0 (wA B) :=
  met_of (by decide +kernel) (Nat.le_of_ble_eq_true rfl) (fun p e s m args below meth c C hr hlocks _ => b_sub [(0, .ref (ad B x0)), (1, .int x1), (2, .int x2), (3, .int x3), (4, .long x4)] [0, 1, 2, 3, 4] rfl (tX12_token_E C hr hlocks hf))
/-! KeyMatrixModel.sign(II)I -/
theorem yo_X12_token : yX12_token.cls ≠ "java/lang/invoke/MethodHandle" ∧ yX12_token.cls ≠ "java/lang/invoke/VarHandle" ∧ (parseMethodDescriptor yX12_token.desc).map (fun d => d.parameters.length) = some 4 := by decide +kernel
theorem co_X12_token : Cond.code yX12_token cX12_token 6 none ∈ wl := mW (mT5 (List.mem_of_getElem? (i := 220) (by decide +kernel))) rfl
theorem in_X12_token : Cond.initialized yX12_token.cls ∈ wl := mW (mT1 (List.mem_of_getElem? (i := 12) (by decide +kernel))) rfl
theorem im_X12_token : Cond.instanceMethod yX12_token ∈ wl := mW (mT5 (List.mem_of_getElem? (i := 219) (by decide +kernel))) rfl
theorem se_X12_token : Cond.selects yX12_token.cls yX12_token yX12_token ∈ wl := mW (mT0 (List.mem_of_getElem? (i := 35) (by decide +kernel))) rfl
theorem lv_X12_109 : LV RX12 109 yX12_token cX12_token 6 none 4 11 := ⟨⟨(RX12, TX12, 33), rfl, rfl⟩, yo_X12_token, mW (mT5 (List.mem_of_getElem? (i := 217) (by decide +kernel))) rfl, im_X12_token, se_X12_token, in_X12_token, co_X12_token⟩
theorem dX12_sign_0 : decode cX12_sign 0 = .ok (.aload_n 0, 1) := by decide +kernel
theorem dX12_sign_1 : decode cX12_sign 1 = .ok (.iload_n 2, 1) := by decide +kernel
theorem dX12_sign_2 : decode cX12_sign 2 = .ok (.bipush 59, 2) := by decide +kernel
theorem dX12_sign_4 : decode cX12_sign 4 = .ok (.if_icmp .ne 7, 3) := by decide +kernel
theorem dX12_sign_7 : decode cX12_sign 7 = .ok (.iconst 4, 1) := by decide +kernel
theorem dX12_sign_8 : decode cX12_sign 8 = .ok (.goto 4, 3) := by decide +kernel
theorem dX12_sign_11 : decode cX12_sign 11 = .ok (.iconst 3, 1) := by decide +kernel
theorem dX12_sign_12 : decode cX12_sign 12 = .ok (.iload_n 1, 1) := by decide +kernel
theorem dX12_sign_13 : decode cX12_sign 13 = .ok (.iconst 0, 1) := by decide +kernel
theorem dX12_sign_14 : decode cX12_sign 14 = .ok (.lconst 0, 1) := by decide +kernel
theorem dX12_sign_15 : decode cX12_sign 15 = .ok (.invokevirtual 109, 3) := by decide +kernel
theorem dX12_sign_18 : decode cX12_sign 18 = .ok (.iconst 1, 1) := by decide +kernel
theorem dX12_sign_19 : decode cX12_sign 19 = .ok (.ireturn, 1) := by decide +kernel
def rmX12_sign : Room := { frames := 1, cells := 0, slots := 0, locals := 25 }
set_option maxRecDepth 100000 in
def fX12_sign_J12 (N : Nat) (g : Gs) (x0 : Nat) (x1 : Int32) (x2 : Int32) (z0 : Int32) (z1 : Nat) (d : Ds) : Option (Int32 × Ds) := gd (chk g z1 11) <| cv (fX12_token N g z1 z0 x1 0 0 d) fun d3 => (some (1, d3))
set_option maxHeartbeats 4000000 in
set_option maxRecDepth 100000 in
theorem tX12_sign_12 {p : Program} {l : Launch} {e : Env} {s : State} {m : MethodId} {args : Array Value} {below : List Frame} {meth : Method} {c : Code} {D : va_G} {cy : Nat → ClassId} {B : Bs} (C : Cx p s m args c cX12_sign 3 RX12 D cy B) (hr : meth.sig.returnType = (some .int)) (hlocks : meth.locks = false) {N : Nat} {g : Gs} {x0 : Nat} {x1 : Int32} {x2 : Int32} {vz : Int32} {dz : Ds} {z0 : Int32} {z1 : Nat} {d : Ds} (hf : fX12_sign_J12 N g x0 x1 x2 z0 z1 d = some (vz, dz)) : WB p l e rmX12_sign s m args below meth c 3 D cy B 0 0 (MQ below (QI D cy B vz g dz) args s 0 0 (wA B)) g d [(0, .ref (ad B x0)), (1, .int x1), (2, .int x2)] 12 [.int z0, .ref (ad B z1)] := by
  unfold fX12_sign_J12 at hf
  refine b_iload_n C dX12_sign_12 1 rfl rfl ?_
  refine b_iconst C (v := 0) dX12_sign_13 (by decide) ?_
  refine b_lconst C (v := 0) dX12_sign_14 (by decide) ?_
  obtain ⟨h2, hf⟩ := gd_s hf
  obtain ⟨d3, k4, hf⟩ := cv_s hf
  refine b_cVN C [] dX12_sign_15 (kX12_token l D cy B k4) lv_X12_109 ⟨rfl, rfl, Nat.le_of_ble_eq_true rfl, Nat.le_of_ble_eq_true rfl⟩ h2 (by decide) rfl (Nat.le_of_ble_eq_true rfl) ⟨Nat.zero_le _, Nat.zero_le _⟩ rfl ?_
  refine b_iconst C (v := 1) dX12_sign_18 (by decide) ?_
  exact b_iret C hr hlocks hf dX12_sign_19
set_option maxRecDepth 100000 in
def fX12_sign (N : Nat) (g : Gs) (x0 : Nat) (x1 : Int32) (x2 : Int32) (d : Ds) : Option (Int32 × Ds) := if x2 = (59 : Int32) then (fX12_sign_J12 N g x0 x1 x2 4 x0 d) else (fX12_sign_J12 N g x0 x1 x2 3 x0 d)
set_option maxHeartbeats 4000000 in
set_option maxRecDepth 100000 in
theorem tX12_sign_E {p : Program} {l : Launch} {e : Env} {s : State} {m : MethodId} {args : Array Value} {below : List Frame} {meth : Method} {c : Code} {D : va_G} {cy : Nat → ClassId} {B : Bs} (C : Cx p s m args c cX12_sign 3 RX12 D cy B) (hr : meth.sig.returnType = (some .int)) (hlocks : meth.locks = false) {N : Nat} {g : Gs} {x0 : Nat} {x1 : Int32} {x2 : Int32} {vz : Int32} {dz : Ds} {d : Ds} (hf : fX12_sign N g x0 x1 x2 d = some (vz, dz)) : WB p l e rmX12_sign s m args below meth c 3 D cy B 0 0 (MQ below (QI D cy B vz g dz) args s 0 0 (wA B)) g d [(0, .ref (ad B x0)), (1, .int x1), (2, .int x2)] 0 [] := by
  unfold fX12_sign at hf
  refine b_aload_n C dX12_sign_0 0 rfl rfl ?_
  refine b_iload_n C dX12_sign_1 2 rfl rfl ?_
  refine b_bipush C (v := 59) dX12_sign_2 (by decide) ?_
  refine b_icmp_ne C (tgt := 11) dX12_sign_4 (by decide) (fun c1 => ?_) (fun c1 => ?_)
  · have hf := if_s c1 hf
    refine b_iconst C (v := 3) dX12_sign_11 (by decide) ?_
    refine b_sub [(0, .ref (ad B x0)), (1, .int x1), (2, .int x2)] [0, 1, 2] rfl ?_
    exact tX12_sign_12 C hr hlocks hf
  · have hf := it_s c1 hf
    refine b_iconst C (v := 4) dX12_sign_7 (by decide) ?_
    refine b_goto C (tgt := 12) dX12_sign_8 (by decide) ?_
    refine b_sub [(0, .ref (ad B x0)), (1, .int x1), (2, .int x2)] [0, 1, 2] rfl ?_
    exact tX12_sign_12 C hr hlocks hf
theorem kX12_sign (l : Launch) (D : va_G) (cy : Nat → ClassId) (B : Bs) {N : Nat} {g : Gs} {x0 : Nat} {x1 : Int32} {x2 : Int32} {vz : Int32} {dz : Ds} {d : Ds} (hf : fX12_sign N g x0 x1 x2 d = some (vz, dz)) : Met l yX12_sign (.code yX12_sign cX12_sign 3 (some .int) :: wl) rmX12_sign (PC D cy B [.ref (ad B x0), .int x1, .int x2] g d) (QI D cy B vz g dz) 0 0 (wA B) :=
  met_of (by decide +kernel) (Nat.le_of_ble_eq_true rfl) (fun p e s m args below meth c C hr hlocks _ => b_sub [(0, .ref (ad B x0)), (1, .int x1), (2, .int x2)] [0, 1, 2] rfl (tX12_sign_E C hr hlocks hf))
/-! KeyMatrixModel.cutsText()V -/
theorem yo_X12_byteAt : yX12_byteAt.cls ≠ "java/lang/invoke/MethodHandle" ∧ yX12_byteAt.cls ≠ "java/lang/invoke/VarHandle" ∧ (parseMethodDescriptor yX12_byteAt.desc).map (fun d => d.parameters.length) = some 1 := by decide +kernel
theorem co_X12_byteAt : Cond.code yX12_byteAt cX12_byteAt 2 (some .int) ∈ wl := mW (mT5 (List.mem_of_getElem? (i := 216) (by decide +kernel))) rfl
theorem in_X12_byteAt : Cond.initialized yX12_byteAt.cls ∈ wl := mW (mT1 (List.mem_of_getElem? (i := 12) (by decide +kernel))) rfl
theorem im_X12_byteAt : Cond.instanceMethod yX12_byteAt ∈ wl := mW (mT5 (List.mem_of_getElem? (i := 215) (by decide +kernel))) rfl
theorem se_X12_byteAt : Cond.selects yX12_byteAt.cls yX12_byteAt yX12_byteAt ∈ wl := mW (mT0 (List.mem_of_getElem? (i := 34) (by decide +kernel))) rfl
theorem lv_X12_105 : LV RX12 105 yX12_byteAt cX12_byteAt 2 (some .int) 1 11 := ⟨⟨(RX12, TX12, 33), rfl, rfl⟩, yo_X12_byteAt, mW (mT5 (List.mem_of_getElem? (i := 213) (by decide +kernel))) rfl, im_X12_byteAt, se_X12_byteAt, in_X12_byteAt, co_X12_byteAt⟩
theorem yo_X12_isLetter : yX12_isLetter.cls ≠ "java/lang/invoke/MethodHandle" ∧ yX12_isLetter.cls ≠ "java/lang/invoke/VarHandle" ∧ (parseMethodDescriptor yX12_isLetter.desc).map (fun d => d.parameters.length) = some 1 := by decide +kernel
theorem co_X12_isLetter : Cond.code yX12_isLetter cX12_isLetter 1 (some .boolean) ∈ wl := mW (mT5 (List.mem_of_getElem? (i := 223) (by decide +kernel))) rfl
theorem in_X12_isLetter : Cond.initialized yX12_isLetter.cls ∈ wl := mW (mT1 (List.mem_of_getElem? (i := 12) (by decide +kernel))) rfl
theorem st_X12_isLetter : Cond.static yX12_isLetter ∈ wl := mW (mT5 (List.mem_of_getElem? (i := 222) (by decide +kernel))) rfl
theorem lv_X12_113 : LSt RX12 113 yX12_isLetter cX12_isLetter 1 (some .boolean) 1 := ⟨yo_X12_isLetter, Or.inl (mW (mT5 (List.mem_of_getElem? (i := 221) (by decide +kernel))) rfl), st_X12_isLetter, in_X12_isLetter, co_X12_isLetter⟩
theorem yo_X12_isDigit : yX12_isDigit.cls ≠ "java/lang/invoke/MethodHandle" ∧ yX12_isDigit.cls ≠ "java/lang/invoke/VarHandle" ∧ (parseMethodDescriptor yX12_isDigit.desc).map (fun d => d.parameters.length) = some 1 := by decide +kernel
theorem co_X12_isDigit : Cond.code yX12_isDigit cX12_isDigit 1 (some .boolean) ∈ wl := mW (mT5 (List.mem_of_getElem? (i := 226) (by decide +kernel))) rfl
theorem in_X12_isDigit : Cond.initialized yX12_isDigit.cls ∈ wl := mW (mT1 (List.mem_of_getElem? (i := 12) (by decide +kernel))) rfl
theorem st_X12_isDigit : Cond.static yX12_isDigit ∈ wl := mW (mT5 (List.mem_of_getElem? (i := 225) (by decide +kernel))) rfl
theorem lv_X12_117 : LSt RX12 117 yX12_isDigit cX12_isDigit 1 (some .boolean) 1 := ⟨yo_X12_isDigit, Or.inl (mW (mT5 (List.mem_of_getElem? (i := 224) (by decide +kernel))) rfl), st_X12_isDigit, in_X12_isDigit, co_X12_isDigit⟩
theorem yo_X12_sign : yX12_sign.cls ≠ "java/lang/invoke/MethodHandle" ∧ yX12_sign.cls ≠ "java/lang/invoke/VarHandle" ∧ (parseMethodDescriptor yX12_sign.desc).map (fun d => d.parameters.length) = some 2 := by decide +kernel
theorem co_X12_sign : Cond.code yX12_sign cX12_sign 3 (some .int) ∈ wl := mW (mT5 (List.mem_of_getElem? (i := 230) (by decide +kernel))) rfl
theorem in_X12_sign : Cond.initialized yX12_sign.cls ∈ wl := mW (mT1 (List.mem_of_getElem? (i := 12) (by decide +kernel))) rfl
theorem im_X12_sign : Cond.instanceMethod yX12_sign ∈ wl := mW (mT5 (List.mem_of_getElem? (i := 229) (by decide +kernel))) rfl
theorem se_X12_sign : Cond.selects yX12_sign.cls yX12_sign yX12_sign ∈ wl := mW (mT0 (List.mem_of_getElem? (i := 36) (by decide +kernel))) rfl
theorem lv_X12_120 : LV RX12 120 yX12_sign cX12_sign 3 (some .int) 2 11 := ⟨⟨(RX12, TX12, 33), rfl, rfl⟩, yo_X12_sign, mW (mT5 (List.mem_of_getElem? (i := 227) (by decide +kernel))) rfl, im_X12_sign, se_X12_sign, in_X12_sign, co_X12_sign⟩
theorem dX12_cutsText_0 : decode cX12_cutsText 0 = .ok (.aload_n 0, 1) := by decide +kernel
theorem dX12_cutsText_1 : decode cX12_cutsText 1 = .ok (.iconst 0, 1) := by decide +kernel
theorem dX12_cutsText_2 : decode cX12_cutsText 2 = .ok (.putfield 102, 3) := by decide +kernel
theorem dX12_cutsText_5 : decode cX12_cutsText 5 = .ok (.iconst 0, 1) := by decide +kernel
theorem dX12_cutsText_6 : decode cX12_cutsText 6 = .ok (.istore_n 1, 1) := by decide +kernel
theorem dX12_cutsText_7 : decode cX12_cutsText 7 = .ok (.aload_n 0, 1) := by decide +kernel
theorem dX12_cutsText_8 : decode cX12_cutsText 8 = .ok (.getfield 102, 3) := by decide +kernel
theorem dX12_cutsText_11 : decode cX12_cutsText 11 = .ok (.sipush 400, 3) := by decide +kernel
theorem dX12_cutsText_14 : decode cX12_cutsText 14 = .ok (.if_icmp .gt 273, 3) := by decide +kernel
theorem dX12_cutsText_17 : decode cX12_cutsText 17 = .ok (.aload_n 0, 1) := by decide +kernel
theorem dX12_cutsText_18 : decode cX12_cutsText 18 = .ok (.iload_n 1, 1) := by decide +kernel
theorem dX12_cutsText_19 : decode cX12_cutsText 19 = .ok (.invokevirtual 105, 3) := by decide +kernel
theorem dX12_cutsText_22 : decode cX12_cutsText 22 = .ok (.istore_n 2, 1) := by decide +kernel
theorem dX12_cutsText_23 : decode cX12_cutsText 23 = .ok (.iload_n 1, 1) := by decide +kernel
theorem dX12_cutsText_24 : decode cX12_cutsText 24 = .ok (.aload_n 0, 1) := by decide +kernel
theorem dX12_cutsText_25 : decode cX12_cutsText 25 = .ok (.getfield 97, 3) := by decide +kernel
theorem dX12_cutsText_28 : decode cX12_cutsText 28 = .ok (.if_icmp .lt 15, 3) := by decide +kernel
theorem dX12_cutsText_31 : decode cX12_cutsText 31 = .ok (.aload_n 0, 1) := by decide +kernel
theorem dX12_cutsText_32 : decode cX12_cutsText 32 = .ok (.iconst 0, 1) := by decide +kernel
theorem dX12_cutsText_33 : decode cX12_cutsText 33 = .ok (.aload_n 0, 1) := by decide +kernel
theorem dX12_cutsText_34 : decode cX12_cutsText 34 = .ok (.getfield 97, 3) := by decide +kernel
theorem dX12_cutsText_37 : decode cX12_cutsText 37 = .ok (.iconst 0, 1) := by decide +kernel
theorem dX12_cutsText_38 : decode cX12_cutsText 38 = .ok (.lconst 0, 1) := by decide +kernel
theorem dX12_cutsText_39 : decode cX12_cutsText 39 = .ok (.invokevirtual 109, 3) := by decide +kernel
theorem dX12_cutsText_42 : decode cX12_cutsText 42 = .ok (.return_, 1) := by decide +kernel
theorem dX12_cutsText_43 : decode cX12_cutsText 43 = .ok (.iload_n 2, 1) := by decide +kernel
theorem dX12_cutsText_44 : decode cX12_cutsText 44 = .ok (.bipush 9, 2) := by decide +kernel
theorem dX12_cutsText_46 : decode cX12_cutsText 46 = .ok (.if_icmp .eq 21, 3) := by decide +kernel
theorem dX12_cutsText_49 : decode cX12_cutsText 49 = .ok (.iload_n 2, 1) := by decide +kernel
theorem dX12_cutsText_50 : decode cX12_cutsText 50 = .ok (.bipush 10, 2) := by decide +kernel
theorem dX12_cutsText_52 : decode cX12_cutsText 52 = .ok (.if_icmp .eq 15, 3) := by decide +kernel
theorem dX12_cutsText_55 : decode cX12_cutsText 55 = .ok (.iload_n 2, 1) := by decide +kernel
theorem dX12_cutsText_56 : decode cX12_cutsText 56 = .ok (.bipush 13, 2) := by decide +kernel
theorem dX12_cutsText_58 : decode cX12_cutsText 58 = .ok (.if_icmp .eq 9, 3) := by decide +kernel
theorem dX12_cutsText_61 : decode cX12_cutsText 61 = .ok (.iload_n 2, 1) := by decide +kernel
theorem dX12_cutsText_62 : decode cX12_cutsText 62 = .ok (.bipush 32, 2) := by decide +kernel
theorem dX12_cutsText_64 : decode cX12_cutsText 64 = .ok (.if_icmp .ne 9, 3) := by decide +kernel
theorem dX12_cutsText_67 : decode cX12_cutsText 67 = .ok (.iinc 1 1, 3) := by decide +kernel
theorem dX12_cutsText_70 : decode cX12_cutsText 70 = .ok (.goto 214, 3) := by decide +kernel
theorem dX12_cutsText_73 : decode cX12_cutsText 73 = .ok (.iload_n 2, 1) := by decide +kernel
theorem dX12_cutsText_74 : decode cX12_cutsText 74 = .ok (.invokestatic 113, 3) := by decide +kernel
theorem dX12_cutsText_77 : decode cX12_cutsText 77 = .ok (.ifCond .eq 119, 3) := by decide +kernel
theorem dX12_cutsText_80 : decode cX12_cutsText 80 = .ok (.iconst 0, 1) := by decide +kernel
theorem dX12_cutsText_81 : decode cX12_cutsText 81 = .ok (.istore_n 3, 1) := by decide +kernel
theorem dX12_cutsText_82 : decode cX12_cutsText 82 = .ok (.lconst 0, 1) := by decide +kernel
theorem dX12_cutsText_83 : decode cX12_cutsText 83 = .ok (.lstore 4, 2) := by decide +kernel
theorem dX12_cutsText_85 : decode cX12_cutsText 85 = .ok (.aload_n 0, 1) := by decide +kernel
theorem dX12_cutsText_86 : decode cX12_cutsText 86 = .ok (.iload_n 1, 1) := by decide +kernel
theorem dX12_cutsText_87 : decode cX12_cutsText 87 = .ok (.iload_n 3, 1) := by decide +kernel
theorem dX12_cutsText_88 : decode cX12_cutsText 88 = .ok (.iadd, 1) := by decide +kernel
theorem dX12_cutsText_89 : decode cX12_cutsText 89 = .ok (.invokevirtual 105, 3) := by decide +kernel
theorem dX12_cutsText_92 : decode cX12_cutsText 92 = .ok (.invokestatic 113, 3) := by decide +kernel
theorem dX12_cutsText_95 : decode cX12_cutsText 95 = .ok (.ifCond .eq 29, 3) := by decide +kernel
theorem dX12_cutsText_98 : decode cX12_cutsText 98 = .ok (.iload_n 3, 1) := by decide +kernel
theorem dX12_cutsText_99 : decode cX12_cutsText 99 = .ok (.bipush 8, 2) := by decide +kernel
theorem dX12_cutsText_101 : decode cX12_cutsText 101 = .ok (.if_icmp .ge 17, 3) := by decide +kernel
theorem dX12_cutsText_104 : decode cX12_cutsText 104 = .ok (.lload 4, 2) := by decide +kernel
theorem dX12_cutsText_106 : decode cX12_cutsText 106 = .ok (.aload_n 0, 1) := by decide +kernel
theorem dX12_cutsText_107 : decode cX12_cutsText 107 = .ok (.iload_n 1, 1) := by decide +kernel
theorem dX12_cutsText_108 : decode cX12_cutsText 108 = .ok (.iload_n 3, 1) := by decide +kernel
theorem dX12_cutsText_109 : decode cX12_cutsText 109 = .ok (.iadd, 1) := by decide +kernel
theorem dX12_cutsText_110 : decode cX12_cutsText 110 = .ok (.invokevirtual 105, 3) := by decide +kernel
theorem dX12_cutsText_113 : decode cX12_cutsText 113 = .ok (.invokestatic 79, 3) := by decide +kernel
theorem dX12_cutsText_116 : decode cX12_cutsText 116 = .ok (.lstore 4, 2) := by decide +kernel
theorem dX12_cutsText_118 : decode cX12_cutsText 118 = .ok (.iinc 3 1, 3) := by decide +kernel
theorem dX12_cutsText_121 : decode cX12_cutsText 121 = .ok (.goto (-36), 3) := by decide +kernel
theorem dX12_cutsText_124 : decode cX12_cutsText 124 = .ok (.iload_n 3, 1) := by decide +kernel
theorem dX12_cutsText_125 : decode cX12_cutsText 125 = .ok (.bipush 8, 2) := by decide +kernel
theorem dX12_cutsText_127 : decode cX12_cutsText 127 = .ok (.if_icmp .le 7, 3) := by decide +kernel
theorem dX12_cutsText_130 : decode cX12_cutsText 130 = .ok (.iconst 3, 1) := by decide +kernel
theorem dX12_cutsText_131 : decode cX12_cutsText 131 = .ok (.goto 4, 3) := by decide +kernel
theorem dX12_cutsText_134 : decode cX12_cutsText 134 = .ok (.iconst 1, 1) := by decide +kernel
theorem dX12_cutsText_135 : decode cX12_cutsText 135 = .ok (.istore 6, 2) := by decide +kernel
theorem dX12_cutsText_137 : decode cX12_cutsText 137 = .ok (.iload_n 3, 1) := by decide +kernel
theorem dX12_cutsText_138 : decode cX12_cutsText 138 = .ok (.bipush 8, 2) := by decide +kernel
theorem dX12_cutsText_140 : decode cX12_cutsText 140 = .ok (.if_icmp .gt 39, 3) := by decide +kernel
theorem dX12_cutsText_143 : decode cX12_cutsText 143 = .ok (.iconst 0, 1) := by decide +kernel
theorem dX12_cutsText_144 : decode cX12_cutsText 144 = .ok (.istore 7, 2) := by decide +kernel
theorem dX12_cutsText_146 : decode cX12_cutsText 146 = .ok (.iload 7, 2) := by decide +kernel
theorem dX12_cutsText_148 : decode cX12_cutsText 148 = .ok (.bipush 20, 2) := by decide +kernel
theorem dX12_cutsText_150 : decode cX12_cutsText 150 = .ok (.if_icmp .ge 29, 3) := by decide +kernel
theorem dX12_cutsText_153 : decode cX12_cutsText 153 = .ok (.aload_n 0, 1) := by decide +kernel
theorem dX12_cutsText_154 : decode cX12_cutsText 154 = .ok (.getfield 34, 3) := by decide +kernel
theorem dX12_cutsText_157 : decode cX12_cutsText 157 = .ok (.iload 7, 2) := by decide +kernel
theorem dX12_cutsText_159 : decode cX12_cutsText 159 = .ok (.laload, 1) := by decide +kernel
theorem dX12_cutsText_160 : decode cX12_cutsText 160 = .ok (.lload 4, 2) := by decide +kernel
theorem dX12_cutsText_162 : decode cX12_cutsText 162 = .ok (.lcmp, 1) := by decide +kernel
theorem dX12_cutsText_163 : decode cX12_cutsText 163 = .ok (.ifCond .ne 10, 3) := by decide +kernel
theorem dX12_cutsText_166 : decode cX12_cutsText 166 = .ok (.bipush 20, 2) := by decide +kernel
theorem dX12_cutsText_168 : decode cX12_cutsText 168 = .ok (.iload 7, 2) := by decide +kernel
theorem dX12_cutsText_170 : decode cX12_cutsText 170 = .ok (.iadd, 1) := by decide +kernel
theorem dX12_cutsText_171 : decode cX12_cutsText 171 = .ok (.istore 6, 2) := by decide +kernel
theorem dX12_cutsText_173 : decode cX12_cutsText 173 = .ok (.iinc 7 1, 3) := by decide +kernel
theorem dX12_cutsText_176 : decode cX12_cutsText 176 = .ok (.goto (-30), 3) := by decide +kernel
theorem dX12_cutsText_179 : decode cX12_cutsText 179 = .ok (.aload_n 0, 1) := by decide +kernel
theorem dX12_cutsText_180 : decode cX12_cutsText 180 = .ok (.iload 6, 2) := by decide +kernel
theorem dX12_cutsText_182 : decode cX12_cutsText 182 = .ok (.iload_n 1, 1) := by decide +kernel
theorem dX12_cutsText_183 : decode cX12_cutsText 183 = .ok (.iconst 0, 1) := by decide +kernel
theorem dX12_cutsText_184 : decode cX12_cutsText 184 = .ok (.lload 4, 2) := by decide +kernel
theorem dX12_cutsText_186 : decode cX12_cutsText 186 = .ok (.invokevirtual 109, 3) := by decide +kernel
theorem dX12_cutsText_189 : decode cX12_cutsText 189 = .ok (.iload_n 1, 1) := by decide +kernel
theorem dX12_cutsText_190 : decode cX12_cutsText 190 = .ok (.iload_n 3, 1) := by decide +kernel
theorem dX12_cutsText_191 : decode cX12_cutsText 191 = .ok (.iadd, 1) := by decide +kernel
theorem dX12_cutsText_192 : decode cX12_cutsText 192 = .ok (.istore_n 1, 1) := by decide +kernel
theorem dX12_cutsText_193 : decode cX12_cutsText 193 = .ok (.goto 91, 3) := by decide +kernel
theorem dX12_cutsText_196 : decode cX12_cutsText 196 = .ok (.iload_n 2, 1) := by decide +kernel
theorem dX12_cutsText_197 : decode cX12_cutsText 197 = .ok (.invokestatic 117, 3) := by decide +kernel
theorem dX12_cutsText_200 : decode cX12_cutsText 200 = .ok (.ifCond .eq 75, 3) := by decide +kernel
theorem dX12_cutsText_203 : decode cX12_cutsText 203 = .ok (.iconst 0, 1) := by decide +kernel
theorem dX12_cutsText_204 : decode cX12_cutsText 204 = .ok (.istore_n 3, 1) := by decide +kernel
theorem dX12_cutsText_205 : decode cX12_cutsText 205 = .ok (.iconst 0, 1) := by decide +kernel
theorem dX12_cutsText_206 : decode cX12_cutsText 206 = .ok (.istore 4, 2) := by decide +kernel
theorem dX12_cutsText_208 : decode cX12_cutsText 208 = .ok (.aload_n 0, 1) := by decide +kernel
theorem dX12_cutsText_209 : decode cX12_cutsText 209 = .ok (.iload_n 1, 1) := by decide +kernel
theorem dX12_cutsText_210 : decode cX12_cutsText 210 = .ok (.iload_n 3, 1) := by decide +kernel
theorem dX12_cutsText_211 : decode cX12_cutsText 211 = .ok (.iadd, 1) := by decide +kernel
theorem dX12_cutsText_212 : decode cX12_cutsText 212 = .ok (.invokevirtual 105, 3) := by decide +kernel
theorem dX12_cutsText_215 : decode cX12_cutsText 215 = .ok (.invokestatic 117, 3) := by decide +kernel
theorem dX12_cutsText_218 : decode cX12_cutsText 218 = .ok (.ifCond .eq 32, 3) := by decide +kernel
theorem dX12_cutsText_221 : decode cX12_cutsText 221 = .ok (.iload_n 3, 1) := by decide +kernel
theorem dX12_cutsText_222 : decode cX12_cutsText 222 = .ok (.iconst 4, 1) := by decide +kernel
theorem dX12_cutsText_223 : decode cX12_cutsText 223 = .ok (.if_icmp .ge 21, 3) := by decide +kernel
theorem dX12_cutsText_226 : decode cX12_cutsText 226 = .ok (.bipush 10, 2) := by decide +kernel
theorem dX12_cutsText_228 : decode cX12_cutsText 228 = .ok (.iload 4, 2) := by decide +kernel
theorem dX12_cutsText_230 : decode cX12_cutsText 230 = .ok (.imul, 1) := by decide +kernel
theorem dX12_cutsText_231 : decode cX12_cutsText 231 = .ok (.aload_n 0, 1) := by decide +kernel
theorem dX12_cutsText_232 : decode cX12_cutsText 232 = .ok (.iload_n 1, 1) := by decide +kernel
theorem dX12_cutsText_233 : decode cX12_cutsText 233 = .ok (.iload_n 3, 1) := by decide +kernel
theorem dX12_cutsText_234 : decode cX12_cutsText 234 = .ok (.iadd, 1) := by decide +kernel
theorem dX12_cutsText_235 : decode cX12_cutsText 235 = .ok (.invokevirtual 105, 3) := by decide +kernel
theorem dX12_cutsText_238 : decode cX12_cutsText 238 = .ok (.iadd, 1) := by decide +kernel
theorem dX12_cutsText_239 : decode cX12_cutsText 239 = .ok (.bipush 48, 2) := by decide +kernel
theorem dX12_cutsText_241 : decode cX12_cutsText 241 = .ok (.isub, 1) := by decide +kernel
theorem dX12_cutsText_242 : decode cX12_cutsText 242 = .ok (.istore 4, 2) := by decide +kernel
theorem dX12_cutsText_244 : decode cX12_cutsText 244 = .ok (.iinc 3 1, 3) := by decide +kernel
theorem dX12_cutsText_247 : decode cX12_cutsText 247 = .ok (.goto (-39), 3) := by decide +kernel
theorem dX12_cutsText_250 : decode cX12_cutsText 250 = .ok (.aload_n 0, 1) := by decide +kernel
theorem dX12_cutsText_251 : decode cX12_cutsText 251 = .ok (.iload_n 3, 1) := by decide +kernel
theorem dX12_cutsText_252 : decode cX12_cutsText 252 = .ok (.iconst 4, 1) := by decide +kernel
theorem dX12_cutsText_253 : decode cX12_cutsText 253 = .ok (.if_icmp .le 7, 3) := by decide +kernel
theorem dX12_cutsText_256 : decode cX12_cutsText 256 = .ok (.iconst 3, 1) := by decide +kernel
theorem dX12_cutsText_257 : decode cX12_cutsText 257 = .ok (.goto 4, 3) := by decide +kernel
theorem dX12_cutsText_260 : decode cX12_cutsText 260 = .ok (.iconst 2, 1) := by decide +kernel
theorem dX12_cutsText_261 : decode cX12_cutsText 261 = .ok (.iload_n 1, 1) := by decide +kernel
theorem dX12_cutsText_262 : decode cX12_cutsText 262 = .ok (.iload 4, 2) := by decide +kernel
theorem dX12_cutsText_264 : decode cX12_cutsText 264 = .ok (.lconst 0, 1) := by decide +kernel
theorem dX12_cutsText_265 : decode cX12_cutsText 265 = .ok (.invokevirtual 109, 3) := by decide +kernel
theorem dX12_cutsText_268 : decode cX12_cutsText 268 = .ok (.iload_n 1, 1) := by decide +kernel
theorem dX12_cutsText_269 : decode cX12_cutsText 269 = .ok (.iload_n 3, 1) := by decide +kernel
theorem dX12_cutsText_270 : decode cX12_cutsText 270 = .ok (.iadd, 1) := by decide +kernel
theorem dX12_cutsText_271 : decode cX12_cutsText 271 = .ok (.istore_n 1, 1) := by decide +kernel
theorem dX12_cutsText_272 : decode cX12_cutsText 272 = .ok (.goto 12, 3) := by decide +kernel
theorem dX12_cutsText_275 : decode cX12_cutsText 275 = .ok (.iload_n 1, 1) := by decide +kernel
theorem dX12_cutsText_276 : decode cX12_cutsText 276 = .ok (.aload_n 0, 1) := by decide +kernel
theorem dX12_cutsText_277 : decode cX12_cutsText 277 = .ok (.iload_n 1, 1) := by decide +kernel
theorem dX12_cutsText_278 : decode cX12_cutsText 278 = .ok (.iload_n 2, 1) := by decide +kernel
theorem dX12_cutsText_279 : decode cX12_cutsText 279 = .ok (.invokevirtual 120, 3) := by decide +kernel
theorem dX12_cutsText_282 : decode cX12_cutsText 282 = .ok (.iadd, 1) := by decide +kernel
theorem dX12_cutsText_283 : decode cX12_cutsText 283 = .ok (.istore_n 1, 1) := by decide +kernel
theorem dX12_cutsText_284 : decode cX12_cutsText 284 = .ok (.goto (-277), 3) := by decide +kernel
theorem dX12_cutsText_287 : decode cX12_cutsText 287 = .ok (.return_, 1) := by decide +kernel
def rmX12_cutsText : Room := { frames := 2, cells := 0, slots := 0, locals := 47 }
set_option maxRecDepth 100000 in
def fX12_cutsText_J284 (N : Nat) (g : Gs) (x0 : Nat) (K7 : Int32 × Ds → Option (Unit × Ds)) (y1 : Int32) (d : Ds) : Option (Unit × Ds) := K7 (y1, d)
set_option maxHeartbeats 4000000 in
set_option maxRecDepth 100000 in
theorem tX12_cutsText_284 {p : Program} {l : Launch} {e : Env} {s : State} {m : MethodId} {args : Array Value} {below : List Frame} {meth : Method} {c : Code} {D : va_G} {cy : Nat → ClassId} {B : Bs} (C : Cx p s m args c cX12_cutsText 8 RX12 D cy B) (hr : meth.sig.returnType = none) (hlocks : meth.locks = false) {N : Nat} {g : Gs} {x0 : Nat}  {dz : Ds} {K7 : Int32 × Ds → Option (Unit × Ds)} (hK7 : ∀ a, K7 a = some ((), dz) → WB p l e rmX12_cutsText s m args below meth c 8 D cy B 0 0 (MQ below (QV D cy B g dz) args s 0 0 (wA B)) g a.2 [(0, .ref (ad B x0)), (1, .int a.1)] 7 []) {y1 : Int32} {d : Ds} (hf : fX12_cutsText_J284 N g x0 K7 y1 d = some ((), dz)) : WB p l e rmX12_cutsText s m args below meth c 8 D cy B 0 0 (MQ below (QV D cy B g dz) args s 0 0 (wA B)) g d [(0, .ref (ad B x0)), (1, .int y1)] 284 [] := by
  unfold fX12_cutsText_J284 at hf
  refine b_goto C (tgt := 7) dX12_cutsText_284 (by decide) ?_
  refine b_sub [(0, .ref (ad B x0)), (1, .int y1)] [0, 1] rfl ?_
  exact hK7 (y1, d) hf
set_option maxRecDepth 100000 in
def fX12_cutsText_J67 (N : Nat) (g : Gs) (x0 : Nat) (K7 : Int32 × Ds → Option (Unit × Ds)) (y1 : Int32) (d : Ds) : Option (Unit × Ds) := bd (y1 + 1) fun u10 => (fX12_cutsText_J284 N g x0 K7 u10 d)
set_option maxHeartbeats 4000000 in
set_option maxRecDepth 100000 in
theorem tX12_cutsText_67 {p : Program} {l : Launch} {e : Env} {s : State} {m : MethodId} {args : Array Value} {below : List Frame} {meth : Method} {c : Code} {D : va_G} {cy : Nat → ClassId} {B : Bs} (C : Cx p s m args c cX12_cutsText 8 RX12 D cy B) (hr : meth.sig.returnType = none) (hlocks : meth.locks = false) {N : Nat} {g : Gs} {x0 : Nat}  {dz : Ds} {K7 : Int32 × Ds → Option (Unit × Ds)} (hK7 : ∀ a, K7 a = some ((), dz) → WB p l e rmX12_cutsText s m args below meth c 8 D cy B 0 0 (MQ below (QV D cy B g dz) args s 0 0 (wA B)) g a.2 [(0, .ref (ad B x0)), (1, .int a.1)] 7 []) {y1 : Int32} {d : Ds} (hf : fX12_cutsText_J67 N g x0 K7 y1 d = some ((), dz)) : WB p l e rmX12_cutsText s m args below meth c 8 D cy B 0 0 (MQ below (QV D cy B g dz) args s 0 0 (wA B)) g d [(0, .ref (ad B x0)), (1, .int y1)] 67 [] := by
  unfold fX12_cutsText_J67 at hf
  obtain ⟨u10, eu10, hf⟩ := bd_s hf
  refine b_iinc C dX12_cutsText_67 1 rfl (by rw [eu10]; rfl) [(1, .int u10), (0, .ref (ad B x0))] (by decide) rfl ?_
  refine b_goto C (tgt := 284) dX12_cutsText_70 (by decide) ?_
  refine b_sub [(0, .ref (ad B x0)), (1, .int u10)] [1, 0] rfl ?_
  exact tX12_cutsText_284 C hr hlocks hK7 hf
set_option maxRecDepth 100000 in
def fX12_cutsText_J261 (N : Nat) (g : Gs) (x0 : Nat) (K7 : Int32 × Ds → Option (Unit × Ds)) (y1 : Int32) (y3 : Int32) (y4 : Int32) (z0 : Int32) (z1 : Nat) (d : Ds) : Option (Unit × Ds) := gd (chk g z1 11) <| cv (fX12_token N g z1 z0 y1 y4 0 d) fun d36 => (bd ((y1 + y3)) fun u38 => (fX12_cutsText_J284 N g x0 K7 u38 d36))
set_option maxHeartbeats 4000000 in
set_option maxRecDepth 100000 in
theorem tX12_cutsText_261 {p : Program} {l : Launch} {e : Env} {s : State} {m : MethodId} {args : Array Value} {below : List Frame} {meth : Method} {c : Code} {D : va_G} {cy : Nat → ClassId} {B : Bs} (C : Cx p s m args c cX12_cutsText 8 RX12 D cy B) (hr : meth.sig.returnType = none) (hlocks : meth.locks = false) {N : Nat} {g : Gs} {x0 : Nat}  {dz : Ds} {K7 : Int32 × Ds → Option (Unit × Ds)} (hK7 : ∀ a, K7 a = some ((), dz) → WB p l e rmX12_cutsText s m args below meth c 8 D cy B 0 0 (MQ below (QV D cy B g dz) args s 0 0 (wA B)) g a.2 [(0, .ref (ad B x0)), (1, .int a.1)] 7 []) {y1 : Int32} {y3 : Int32} {y4 : Int32} {z0 : Int32} {z1 : Nat} {d : Ds} (hf : fX12_cutsText_J261 N g x0 K7 y1 y3 y4 z0 z1 d = some ((), dz)) : WB p l e rmX12_cutsText s m args below meth c 8 D cy B 0 0 (MQ below (QV D cy B g dz) args s 0 0 (wA B)) g d [(0, .ref (ad B x0)), (1, .int y1), (3, .int y3), (4, .int y4)] 261 [.int z0, .ref (ad B z1)] := by
  unfold fX12_cutsText_J261 at hf
  refine b_iload_n C dX12_cutsText_261 1 rfl rfl ?_
  refine b_iload C dX12_cutsText_262 3 rfl ?_
  refine b_lconst C (v := 0) dX12_cutsText_264 (by decide) ?_
  obtain ⟨h35, hf⟩ := gd_s hf
  obtain ⟨d36, k37, hf⟩ := cv_s hf
  refine b_cVN C [] dX12_cutsText_265 (kX12_token l D cy B k37) lv_X12_109 ⟨rfl, rfl, Nat.le_of_ble_eq_true rfl, Nat.le_of_ble_eq_true rfl⟩ h35 (by decide) rfl (Nat.le_of_ble_eq_true rfl) ⟨Nat.zero_le _, Nat.zero_le _⟩ rfl ?_
  refine b_iload_n C dX12_cutsText_268 1 rfl rfl ?_
  refine b_iload_n C dX12_cutsText_269 2 rfl rfl ?_
  refine b_iadd C dX12_cutsText_270 ?_
  obtain ⟨u38, eu38, hf⟩ := bd_s hf
  refine b_topI eu38 ?_
  refine b_istore_n C dX12_cutsText_271 rfl [(1, .int u38), (0, .ref (ad B x0)), (3, .int y3), (4, .int y4)] (by decide) rfl ?_
  refine b_goto C (tgt := 284) dX12_cutsText_272 (by decide) ?_
  refine b_sub [(0, .ref (ad B x0)), (1, .int u38)] [1, 0] rfl ?_
  exact tX12_cutsText_284 C hr hlocks hK7 hf
set_option maxRecDepth 100000 in
def fX12_cutsText_J244 (N : Nat) (g : Gs) (x0 : Nat) (K7 : Int32 × Ds → Option (Unit × Ds)) (K208 : Int32 × Int32 × Int32 × Ds → Option (Unit × Ds)) (y1 : Int32) (y3 : Int32) (y4 : Int32) (d : Ds) : Option (Unit × Ds) := bd (y3 + 1) fun u40 => (K208 (y1, u40, y4, d))
set_option maxHeartbeats 4000000 in
set_option maxRecDepth 100000 in
theorem tX12_cutsText_244 {p : Program} {l : Launch} {e : Env} {s : State} {m : MethodId} {args : Array Value} {below : List Frame} {meth : Method} {c : Code} {D : va_G} {cy : Nat → ClassId} {B : Bs} (C : Cx p s m args c cX12_cutsText 8 RX12 D cy B) (hr : meth.sig.returnType = none) (hlocks : meth.locks = false) {N : Nat} {g : Gs} {x0 : Nat}  {dz : Ds} {K7 : Int32 × Ds → Option (Unit × Ds)} {K208 : Int32 × Int32 × Int32 × Ds → Option (Unit × Ds)} (hK7 : ∀ a, K7 a = some ((), dz) → WB p l e rmX12_cutsText s m args below meth c 8 D cy B 0 0 (MQ below (QV D cy B g dz) args s 0 0 (wA B)) g a.2 [(0, .ref (ad B x0)), (1, .int a.1)] 7 []) (hK208 : ∀ a, K208 a = some ((), dz) → WB p l e rmX12_cutsText s m args below meth c 8 D cy B 0 0 (MQ below (QV D cy B g dz) args s 0 0 (wA B)) g a.2.2.2 [(0, .ref (ad B x0)), (1, .int a.1), (3, .int a.2.1), (4, .int a.2.2.1)] 208 []) {y1 : Int32} {y3 : Int32} {y4 : Int32} {d : Ds} (hf : fX12_cutsText_J244 N g x0 K7 K208 y1 y3 y4 d = some ((), dz)) : WB p l e rmX12_cutsText s m args below meth c 8 D cy B 0 0 (MQ below (QV D cy B g dz) args s 0 0 (wA B)) g d [(0, .ref (ad B x0)), (1, .int y1), (3, .int y3), (4, .int y4)] 244 [] := by
  unfold fX12_cutsText_J244 at hf
  obtain ⟨u40, eu40, hf⟩ := bd_s hf
  refine b_iinc C dX12_cutsText_244 2 rfl (by rw [eu40]; rfl) [(3, .int u40), (0, .ref (ad B x0)), (1, .int y1), (4, .int y4)] (by decide) rfl ?_
  refine b_goto C (tgt := 208) dX12_cutsText_247 (by decide) ?_
  refine b_sub [(0, .ref (ad B x0)), (1, .int y1), (3, .int u40), (4, .int y4)] [1, 2, 0, 3] rfl ?_
  exact hK208 (y1, u40, y4, d) hf
set_option maxRecDepth 100000 in
def fX12_cutsText_B208 (N : Nat) (g : Gs) (x0 : Nat) (K7 : Int32 × Ds → Option (Unit × Ds)) (K208 : Int32 × Int32 × Int32 × Ds → Option (Unit × Ds)) (y1 : Int32) (y3 : Int32) (y4 : Int32) (d : Ds) : Option (Unit × Ds) := gd (chk g x0 11) <| cb (fX12_byteAt N g x0 (y1 + y3) d) fun u29 d27 => (cb (fX12_isDigit N g u29 d27) fun u32 d30 => (if u32 = 0 then (if y3 ≤ (4 : Int32) then (fX12_cutsText_J261 N g x0 K7 y1 y3 y4 2 x0 d30) else (fX12_cutsText_J261 N g x0 K7 y1 y3 y4 3 x0 d30)) else (if (4 : Int32) ≤ y3 then (fX12_cutsText_J244 N g x0 K7 K208 y1 y3 y4 d30) else (cb (fX12_byteAt N g x0 (y1 + y3) d30) fun u43 d41 => (bd (((((10 : Int32) * y4) + u43) - 48)) fun u44 => (fX12_cutsText_J244 N g x0 K7 K208 y1 y3 u44 d41))))))
set_option maxHeartbeats 4000000 in
set_option maxRecDepth 100000 in
theorem tX12_cutsText_208 {p : Program} {l : Launch} {e : Env} {s : State} {m : MethodId} {args : Array Value} {below : List Frame} {meth : Method} {c : Code} {D : va_G} {cy : Nat → ClassId} {B : Bs} (C : Cx p s m args c cX12_cutsText 8 RX12 D cy B) (hr : meth.sig.returnType = none) (hlocks : meth.locks = false) {N : Nat} {g : Gs} {x0 : Nat}  {dz : Ds} {K7 : Int32 × Ds → Option (Unit × Ds)} {K208 : Int32 × Int32 × Int32 × Ds → Option (Unit × Ds)} (hK7 : ∀ a, K7 a = some ((), dz) → WB p l e rmX12_cutsText s m args below meth c 8 D cy B 0 0 (MQ below (QV D cy B g dz) args s 0 0 (wA B)) g a.2 [(0, .ref (ad B x0)), (1, .int a.1)] 7 []) (hK208 : ∀ a, K208 a = some ((), dz) → WB p l e rmX12_cutsText s m args below meth c 8 D cy B 0 0 (MQ below (QV D cy B g dz) args s 0 0 (wA B)) g a.2.2.2 [(0, .ref (ad B x0)), (1, .int a.1), (3, .int a.2.1), (4, .int a.2.2.1)] 208 []) {y1 : Int32} {y3 : Int32} {y4 : Int32} {d : Ds} (hf : fX12_cutsText_B208 N g x0 K7 K208 y1 y3 y4 d = some ((), dz)) : WB p l e rmX12_cutsText s m args below meth c 8 D cy B 0 0 (MQ below (QV D cy B g dz) args s 0 0 (wA B)) g d [(0, .ref (ad B x0)), (1, .int y1), (3, .int y3), (4, .int y4)] 208 [] := by
  unfold fX12_cutsText_B208 at hf
  refine b_aload_n C dX12_cutsText_208 0 rfl rfl ?_
  refine b_iload_n C dX12_cutsText_209 1 rfl rfl ?_
  refine b_iload_n C dX12_cutsText_210 2 rfl rfl ?_
  refine b_iadd C dX12_cutsText_211 ?_
  obtain ⟨h26, hf⟩ := gd_s hf
  obtain ⟨u29, d27, k28, hf⟩ := cb_s hf
  refine b_cVI C [] dX12_cutsText_212 (kX12_byteAt l D cy B k28) lv_X12_105 ⟨rfl, rfl, Nat.le_of_ble_eq_true rfl, Nat.le_of_ble_eq_true rfl⟩ h26 (by decide) rfl (Nat.le_of_ble_eq_true rfl) ⟨Nat.zero_le _, Nat.zero_le _⟩ rfl ?_
  obtain ⟨u32, d30, k31, hf⟩ := cb_s hf
  refine b_cSI C [] dX12_cutsText_215 (kX12_isDigit l D cy B k31) lv_X12_117 ⟨rfl, rfl, Nat.le_of_ble_eq_true rfl, Nat.le_of_ble_eq_true rfl⟩ rfl (Nat.le_of_ble_eq_true rfl) ⟨Nat.zero_le _, Nat.zero_le _⟩ rfl ?_
  refine b_if_eq C (tgt := 250) dX12_cutsText_218 (by decide) (fun c33 => ?_) (fun c33 => ?_)
  · have hf := it_s c33 hf
    refine b_aload_n C dX12_cutsText_250 0 rfl rfl ?_
    refine b_iload_n C dX12_cutsText_251 2 rfl rfl ?_
    refine b_iconst C (v := 4) dX12_cutsText_252 (by decide) ?_
    refine b_icmp_le C (tgt := 260) dX12_cutsText_253 (by decide) (fun c34 => ?_) (fun c34 => ?_)
    · have hf := it_s c34 hf
      refine b_iconst C (v := 2) dX12_cutsText_260 (by decide) ?_
      refine b_sub [(0, .ref (ad B x0)), (1, .int y1), (3, .int y3), (4, .int y4)] [0, 1, 2, 3] rfl ?_
      exact tX12_cutsText_261 C hr hlocks hK7 hf
    · have hf := if_s c34 hf
      refine b_iconst C (v := 3) dX12_cutsText_256 (by decide) ?_
      refine b_goto C (tgt := 261) dX12_cutsText_257 (by decide) ?_
      refine b_sub [(0, .ref (ad B x0)), (1, .int y1), (3, .int y3), (4, .int y4)] [0, 1, 2, 3] rfl ?_
      exact tX12_cutsText_261 C hr hlocks hK7 hf
  · have hf := if_s c33 hf
    refine b_iload_n C dX12_cutsText_221 2 rfl rfl ?_
    refine b_iconst C (v := 4) dX12_cutsText_222 (by decide) ?_
    refine b_icmp_ge C (tgt := 244) dX12_cutsText_223 (by decide) (fun c39 => ?_) (fun c39 => ?_)
    · have hf := it_s c39 hf
      refine b_sub [(0, .ref (ad B x0)), (1, .int y1), (3, .int y3), (4, .int y4)] [0, 1, 2, 3] rfl ?_
      exact tX12_cutsText_244 C hr hlocks hK7 hK208 hf
    · have hf := if_s c39 hf
      refine b_bipush C (v := 10) dX12_cutsText_226 (by decide) ?_
      refine b_iload C dX12_cutsText_228 3 rfl ?_
      refine b_imul C dX12_cutsText_230 ?_
      refine b_aload_n C dX12_cutsText_231 0 rfl rfl ?_
      refine b_iload_n C dX12_cutsText_232 1 rfl rfl ?_
      refine b_iload_n C dX12_cutsText_233 2 rfl rfl ?_
      refine b_iadd C dX12_cutsText_234 ?_
      obtain ⟨u43, d41, k42, hf⟩ := cb_s hf
      refine b_cVI C [.int ((10 : Int32) * y4)] dX12_cutsText_235 (kX12_byteAt l D cy B k42) lv_X12_105 ⟨rfl, rfl, Nat.le_of_ble_eq_true rfl, Nat.le_of_ble_eq_true rfl⟩ h26 (by decide) rfl (Nat.le_of_ble_eq_true rfl) ⟨Nat.zero_le _, Nat.zero_le _⟩ rfl ?_
      refine b_iadd C dX12_cutsText_238 ?_
      refine b_bipush C (v := 48) dX12_cutsText_239 (by decide) ?_
      refine b_isub C dX12_cutsText_241 ?_
      obtain ⟨u44, eu44, hf⟩ := bd_s hf
      refine b_topI eu44 ?_
      refine b_istore C dX12_cutsText_242 [(4, .int u44), (0, .ref (ad B x0)), (1, .int y1), (3, .int y3)] (by decide) rfl ?_
      refine b_sub [(0, .ref (ad B x0)), (1, .int y1), (3, .int y3), (4, .int u44)] [1, 2, 3, 0] rfl ?_
      exact tX12_cutsText_244 C hr hlocks hK7 hK208 hf
def fX12_cutsText_L208 (N : Nat) (g : Gs) (x0 : Nat) (K7 : Int32 × Ds → Option (Unit × Ds)) : Int32 × Int32 × Int32 × Ds → Option (Unit × Ds) := lp (fun K208 a => fX12_cutsText_B208 N g x0 K7 K208 a.1 a.2.1 a.2.2.1 a.2.2.2) N
theorem tX12_cutsText_L208 {p : Program} {l : Launch} {e : Env} {s : State} {m : MethodId} {args : Array Value} {below : List Frame} {meth : Method} {c : Code} {D : va_G} {cy : Nat → ClassId} {B : Bs} (C : Cx p s m args c cX12_cutsText 8 RX12 D cy B) (hr : meth.sig.returnType = none) (hlocks : meth.locks = false) {N : Nat} {g : Gs} {x0 : Nat}  {dz : Ds} {K7 : Int32 × Ds → Option (Unit × Ds)} (hK7 : ∀ a, K7 a = some ((), dz) → WB p l e rmX12_cutsText s m args below meth c 8 D cy B 0 0 (MQ below (QV D cy B g dz) args s 0 0 (wA B)) g a.2 [(0, .ref (ad B x0)), (1, .int a.1)] 7 []) (a : Int32 × Int32 × Int32 × Ds) (hf : fX12_cutsText_L208 N g x0 K7 a = some ((), dz)) : WB p l e rmX12_cutsText s m args below meth c 8 D cy B 0 0 (MQ below (QV D cy B g dz) args s 0 0 (wA B)) g a.2.2.2 [(0, .ref (ad B x0)), (1, .int a.1), (3, .int a.2.1), (4, .int a.2.2.1)] 208 [] :=
  lp_w (fun K208 hK208 a ha => tX12_cutsText_208 C hr hlocks hK7 hK208 ha) N a hf
set_option maxRecDepth 100000 in
def fX12_cutsText_J179 (N : Nat) (g : Gs) (x0 : Nat) (K7 : Int32 × Ds → Option (Unit × Ds)) (y1 : Int32) (y3 : Int32) (y4 : Int64) (y6 : Int32) (d : Ds) : Option (Unit × Ds) := gd (chk g x0 11) <| cv (fX12_token N g x0 y6 y1 0 y4 d) fun d56 => (bd ((y1 + y3)) fun u58 => (fX12_cutsText_J284 N g x0 K7 u58 d56))
set_option maxHeartbeats 4000000 in
set_option maxRecDepth 100000 in
theorem tX12_cutsText_179 {p : Program} {l : Launch} {e : Env} {s : State} {m : MethodId} {args : Array Value} {below : List Frame} {meth : Method} {c : Code} {D : va_G} {cy : Nat → ClassId} {B : Bs} (C : Cx p s m args c cX12_cutsText 8 RX12 D cy B) (hr : meth.sig.returnType = none) (hlocks : meth.locks = false) {N : Nat} {g : Gs} {x0 : Nat}  {dz : Ds} {K7 : Int32 × Ds → Option (Unit × Ds)} (hK7 : ∀ a, K7 a = some ((), dz) → WB p l e rmX12_cutsText s m args below meth c 8 D cy B 0 0 (MQ below (QV D cy B g dz) args s 0 0 (wA B)) g a.2 [(0, .ref (ad B x0)), (1, .int a.1)] 7 []) {y1 : Int32} {y3 : Int32} {y4 : Int64} {y6 : Int32} {d : Ds} (hf : fX12_cutsText_J179 N g x0 K7 y1 y3 y4 y6 d = some ((), dz)) : WB p l e rmX12_cutsText s m args below meth c 8 D cy B 0 0 (MQ below (QV D cy B g dz) args s 0 0 (wA B)) g d [(0, .ref (ad B x0)), (1, .int y1), (3, .int y3), (4, .long y4), (6, .int y6)] 179 [] := by
  unfold fX12_cutsText_J179 at hf
  refine b_aload_n C dX12_cutsText_179 0 rfl rfl ?_
  refine b_iload C dX12_cutsText_180 4 rfl ?_
  refine b_iload_n C dX12_cutsText_182 1 rfl rfl ?_
  refine b_iconst C (v := 0) dX12_cutsText_183 (by decide) ?_
  refine b_lload C dX12_cutsText_184 3 rfl ?_
  obtain ⟨h55, hf⟩ := gd_s hf
  obtain ⟨d56, k57, hf⟩ := cv_s hf
  refine b_cVN C [] dX12_cutsText_186 (kX12_token l D cy B k57) lv_X12_109 ⟨rfl, rfl, Nat.le_of_ble_eq_true rfl, Nat.le_of_ble_eq_true rfl⟩ h55 (by decide) rfl (Nat.le_of_ble_eq_true rfl) ⟨Nat.zero_le _, Nat.zero_le _⟩ rfl ?_
  refine b_iload_n C dX12_cutsText_189 1 rfl rfl ?_
  refine b_iload_n C dX12_cutsText_190 2 rfl rfl ?_
  refine b_iadd C dX12_cutsText_191 ?_
  obtain ⟨u58, eu58, hf⟩ := bd_s hf
  refine b_topI eu58 ?_
  refine b_istore_n C dX12_cutsText_192 rfl [(1, .int u58), (0, .ref (ad B x0)), (3, .int y3), (4, .long y4), (6, .int y6)] (by decide) rfl ?_
  refine b_goto C (tgt := 284) dX12_cutsText_193 (by decide) ?_
  refine b_sub [(0, .ref (ad B x0)), (1, .int u58)] [1, 0] rfl ?_
  exact tX12_cutsText_284 C hr hlocks hK7 hf
set_option maxRecDepth 100000 in
def fX12_cutsText_J173 (N : Nat) (g : Gs) (x0 : Nat) (K7 : Int32 × Ds → Option (Unit × Ds)) (K146 : Int32 × Int32 × Int64 × Int32 × Int32 × Ds → Option (Unit × Ds)) (y1 : Int32) (y3 : Int32) (y4 : Int64) (y6 : Int32) (y7 : Int32) (d : Ds) : Option (Unit × Ds) := bd (y7 + 1) fun u65 => (K146 (y1, y3, y4, y6, u65, d))
set_option maxHeartbeats 4000000 in
set_option maxRecDepth 100000 in
theorem tX12_cutsText_173 {p : Program} {l : Launch} {e : Env} {s : State} {m : MethodId} {args : Array Value} {below : List Frame} {meth : Method} {c : Code} {D : va_G} {cy : Nat → ClassId} {B : Bs} (C : Cx p s m args c cX12_cutsText 8 RX12 D cy B) (hr : meth.sig.returnType = none) (hlocks : meth.locks = false) {N : Nat} {g : Gs} {x0 : Nat}  {dz : Ds} {K7 : Int32 × Ds → Option (Unit × Ds)} {K146 : Int32 × Int32 × Int64 × Int32 × Int32 × Ds → Option (Unit × Ds)} (hK7 : ∀ a, K7 a = some ((), dz) → WB p l e rmX12_cutsText s m args below meth c 8 D cy B 0 0 (MQ below (QV D cy B g dz) args s 0 0 (wA B)) g a.2 [(0, .ref (ad B x0)), (1, .int a.1)] 7 []) (hK146 : ∀ a, K146 a = some ((), dz) → WB p l e rmX12_cutsText s m args below meth c 8 D cy B 0 0 (MQ below (QV D cy B g dz) args s 0 0 (wA B)) g a.2.2.2.2.2 [(0, .ref (ad B x0)), (1, .int a.1), (3, .int a.2.1), (4, .long a.2.2.1), (6, .int a.2.2.2.1), (7, .int a.2.2.2.2.1)] 146 []) {y1 : Int32} {y3 : Int32} {y4 : Int64} {y6 : Int32} {y7 : Int32} {d : Ds} (hf : fX12_cutsText_J173 N g x0 K7 K146 y1 y3 y4 y6 y7 d = some ((), dz)) : WB p l e rmX12_cutsText s m args below meth c 8 D cy B 0 0 (MQ below (QV D cy B g dz) args s 0 0 (wA B)) g d [(0, .ref (ad B x0)), (1, .int y1), (3, .int y3), (4, .long y4), (6, .int y6), (7, .int y7)] 173 [] := by
  unfold fX12_cutsText_J173 at hf
  obtain ⟨u65, eu65, hf⟩ := bd_s hf
  refine b_iinc C dX12_cutsText_173 5 rfl (by rw [eu65]; rfl) [(7, .int u65), (0, .ref (ad B x0)), (1, .int y1), (3, .int y3), (4, .long y4), (6, .int y6)] (by decide) rfl ?_
  refine b_goto C (tgt := 146) dX12_cutsText_176 (by decide) ?_
  refine b_sub [(0, .ref (ad B x0)), (1, .int y1), (3, .int y3), (4, .long y4), (6, .int y6), (7, .int u65)] [1, 2, 3, 4, 5, 0] rfl ?_
  exact hK146 (y1, y3, y4, y6, u65, d) hf
set_option maxRecDepth 100000 in
def fX12_cutsText_B146 (N : Nat) (g : Gs) (x0 : Nat) (K7 : Int32 × Ds → Option (Unit × Ds)) (K146 : Int32 × Int32 × Int64 × Int32 × Int32 × Ds → Option (Unit × Ds)) (y1 : Int32) (y3 : Int32) (y4 : Int64) (y6 : Int32) (y7 : Int32) (d : Ds) : Option (Unit × Ds) := if (20 : Int32) ≤ y7 then (fX12_cutsText_J179 N g x0 K7 y1 y3 y4 y6 d) else (gd (chk g x0 11) <| ob (gR g x0 9) fun r61 => (gd (chk g r61 103) <| gd (¬ (y7 < 0 ∨ gL g r61 ≤ y7.toNatClampNeg)) <| if (lg_cmp (dL d r61 y7.toNatClampNeg) y4) = 0 then (bd (((20 : Int32) + y7)) fun u66 => (fX12_cutsText_J173 N g x0 K7 K146 y1 y3 y4 u66 y7 d)) else (fX12_cutsText_J173 N g x0 K7 K146 y1 y3 y4 y6 y7 d)))
set_option maxHeartbeats 4000000 in
set_option maxRecDepth 100000 in
theorem tX12_cutsText_146 {p : Program} {l : Launch} {e : Env} {s : State} {m : MethodId} {args : Array Value} {below : List Frame} {meth : Method} {c : Code} {D : va_G} {cy : Nat → ClassId} {B : Bs} (C : Cx p s m args c cX12_cutsText 8 RX12 D cy B) (hr : meth.sig.returnType = none) (hlocks : meth.locks = false) {N : Nat} {g : Gs} {x0 : Nat}  {dz : Ds} {K7 : Int32 × Ds → Option (Unit × Ds)} {K146 : Int32 × Int32 × Int64 × Int32 × Int32 × Ds → Option (Unit × Ds)} (hK7 : ∀ a, K7 a = some ((), dz) → WB p l e rmX12_cutsText s m args below meth c 8 D cy B 0 0 (MQ below (QV D cy B g dz) args s 0 0 (wA B)) g a.2 [(0, .ref (ad B x0)), (1, .int a.1)] 7 []) (hK146 : ∀ a, K146 a = some ((), dz) → WB p l e rmX12_cutsText s m args below meth c 8 D cy B 0 0 (MQ below (QV D cy B g dz) args s 0 0 (wA B)) g a.2.2.2.2.2 [(0, .ref (ad B x0)), (1, .int a.1), (3, .int a.2.1), (4, .long a.2.2.1), (6, .int a.2.2.2.1), (7, .int a.2.2.2.2.1)] 146 []) {y1 : Int32} {y3 : Int32} {y4 : Int64} {y6 : Int32} {y7 : Int32} {d : Ds} (hf : fX12_cutsText_B146 N g x0 K7 K146 y1 y3 y4 y6 y7 d = some ((), dz)) : WB p l e rmX12_cutsText s m args below meth c 8 D cy B 0 0 (MQ below (QV D cy B g dz) args s 0 0 (wA B)) g d [(0, .ref (ad B x0)), (1, .int y1), (3, .int y3), (4, .long y4), (6, .int y6), (7, .int y7)] 146 [] := by
  unfold fX12_cutsText_B146 at hf
  refine b_iload C dX12_cutsText_146 5 rfl ?_
  refine b_bipush C (v := 20) dX12_cutsText_148 (by decide) ?_
  refine b_icmp_ge C (tgt := 179) dX12_cutsText_150 (by decide) (fun c59 => ?_) (fun c59 => ?_)
  · have hf := it_s c59 hf
    refine b_sub [(0, .ref (ad B x0)), (1, .int y1), (3, .int y3), (4, .long y4), (6, .int y6)] [0, 1, 2, 3, 4] rfl ?_
    exact tX12_cutsText_179 C hr hlocks hK7 hf
  · have hf := if_s c59 hf
    refine b_aload_n C dX12_cutsText_153 0 rfl rfl ?_
    obtain ⟨h60, hf⟩ := gd_s hf
    obtain ⟨r61, er61, hf⟩ := ob_s hf
    refine b_gR C dX12_cutsText_154 fl_X12_34 h60 er61 ?_
    refine b_iload C dX12_cutsText_157 5 rfl ?_
    obtain ⟨h62, hf⟩ := gd_s hf
    obtain ⟨h63, hf⟩ := gd_s hf
    refine b_lald C h62 h63 dX12_cutsText_159 ?_
    refine b_lload C dX12_cutsText_160 3 rfl ?_
    refine b_lcmp C dX12_cutsText_162 ?_
    refine b_if_ne C (tgt := 173) dX12_cutsText_163 (by decide) (fun c64 => ?_) (fun c64 => ?_)
    · have hf := if_s c64 hf
      refine b_sub [(0, .ref (ad B x0)), (1, .int y1), (3, .int y3), (4, .long y4), (6, .int y6), (7, .int y7)] [0, 1, 2, 3, 4, 5] rfl ?_
      exact tX12_cutsText_173 C hr hlocks hK7 hK146 hf
    · have hf := it_s c64 hf
      refine b_bipush C (v := 20) dX12_cutsText_166 (by decide) ?_
      refine b_iload C dX12_cutsText_168 5 rfl ?_
      refine b_iadd C dX12_cutsText_170 ?_
      obtain ⟨u66, eu66, hf⟩ := bd_s hf
      refine b_topI eu66 ?_
      refine b_istore C dX12_cutsText_171 [(6, .int u66), (0, .ref (ad B x0)), (1, .int y1), (3, .int y3), (4, .long y4), (7, .int y7)] (by decide) rfl ?_
      refine b_sub [(0, .ref (ad B x0)), (1, .int y1), (3, .int y3), (4, .long y4), (6, .int u66), (7, .int y7)] [1, 2, 3, 4, 0, 5] rfl ?_
      exact tX12_cutsText_173 C hr hlocks hK7 hK146 hf
def fX12_cutsText_L146 (N : Nat) (g : Gs) (x0 : Nat) (K7 : Int32 × Ds → Option (Unit × Ds)) : Int32 × Int32 × Int64 × Int32 × Int32 × Ds → Option (Unit × Ds) := lp (fun K146 a => fX12_cutsText_B146 N g x0 K7 K146 a.1 a.2.1 a.2.2.1 a.2.2.2.1 a.2.2.2.2.1 a.2.2.2.2.2) N
theorem tX12_cutsText_L146 {p : Program} {l : Launch} {e : Env} {s : State} {m : MethodId} {args : Array Value} {below : List Frame} {meth : Method} {c : Code} {D : va_G} {cy : Nat → ClassId} {B : Bs} (C : Cx p s m args c cX12_cutsText 8 RX12 D cy B) (hr : meth.sig.returnType = none) (hlocks : meth.locks = false) {N : Nat} {g : Gs} {x0 : Nat}  {dz : Ds} {K7 : Int32 × Ds → Option (Unit × Ds)} (hK7 : ∀ a, K7 a = some ((), dz) → WB p l e rmX12_cutsText s m args below meth c 8 D cy B 0 0 (MQ below (QV D cy B g dz) args s 0 0 (wA B)) g a.2 [(0, .ref (ad B x0)), (1, .int a.1)] 7 []) (a : Int32 × Int32 × Int64 × Int32 × Int32 × Ds) (hf : fX12_cutsText_L146 N g x0 K7 a = some ((), dz)) : WB p l e rmX12_cutsText s m args below meth c 8 D cy B 0 0 (MQ below (QV D cy B g dz) args s 0 0 (wA B)) g a.2.2.2.2.2 [(0, .ref (ad B x0)), (1, .int a.1), (3, .int a.2.1), (4, .long a.2.2.1), (6, .int a.2.2.2.1), (7, .int a.2.2.2.2.1)] 146 [] :=
  lp_w (fun K146 hK146 a ha => tX12_cutsText_146 C hr hlocks hK7 hK146 ha) N a hf
set_option maxRecDepth 100000 in
def fX12_cutsText_J135 (N : Nat) (g : Gs) (x0 : Nat) (K7 : Int32 × Ds → Option (Unit × Ds)) (y1 : Int32) (y3 : Int32) (y4 : Int64) (z0 : Int32) (d : Ds) : Option (Unit × Ds) := if (8 : Int32) < y3 then (fX12_cutsText_J179 N g x0 K7 y1 y3 y4 z0 d) else (fX12_cutsText_L146 N g x0 K7 (y1, y3, y4, z0, 0, d))
set_option maxHeartbeats 4000000 in
set_option maxRecDepth 100000 in
theorem tX12_cutsText_135 {p : Program} {l : Launch} {e : Env} {s : State} {m : MethodId} {args : Array Value} {below : List Frame} {meth : Method} {c : Code} {D : va_G} {cy : Nat → ClassId} {B : Bs} (C : Cx p s m args c cX12_cutsText 8 RX12 D cy B) (hr : meth.sig.returnType = none) (hlocks : meth.locks = false) {N : Nat} {g : Gs} {x0 : Nat}  {dz : Ds} {K7 : Int32 × Ds → Option (Unit × Ds)} (hK7 : ∀ a, K7 a = some ((), dz) → WB p l e rmX12_cutsText s m args below meth c 8 D cy B 0 0 (MQ below (QV D cy B g dz) args s 0 0 (wA B)) g a.2 [(0, .ref (ad B x0)), (1, .int a.1)] 7 []) {y1 : Int32} {y3 : Int32} {y4 : Int64} {z0 : Int32} {d : Ds} (hf : fX12_cutsText_J135 N g x0 K7 y1 y3 y4 z0 d = some ((), dz)) : WB p l e rmX12_cutsText s m args below meth c 8 D cy B 0 0 (MQ below (QV D cy B g dz) args s 0 0 (wA B)) g d [(0, .ref (ad B x0)), (1, .int y1), (3, .int y3), (4, .long y4)] 135 [.int z0] := by
  unfold fX12_cutsText_J135 at hf
  refine b_istore C dX12_cutsText_135 [(6, .int z0), (0, .ref (ad B x0)), (1, .int y1), (3, .int y3), (4, .long y4)] (by decide) rfl ?_
  refine b_iload_n C dX12_cutsText_137 3 rfl rfl ?_
  refine b_bipush C (v := 8) dX12_cutsText_138 (by decide) ?_
  refine b_icmp_gt C (tgt := 179) dX12_cutsText_140 (by decide) (fun c54 => ?_) (fun c54 => ?_)
  · have hf := it_s c54 hf
    refine b_sub [(0, .ref (ad B x0)), (1, .int y1), (3, .int y3), (4, .long y4), (6, .int z0)] [1, 2, 3, 4, 0] rfl ?_
    exact tX12_cutsText_179 C hr hlocks hK7 hf
  · have hf := if_s c54 hf
    refine b_iconst C (v := 0) dX12_cutsText_143 (by decide) ?_
    refine b_istore C dX12_cutsText_144 [(7, .int 0), (6, .int z0), (0, .ref (ad B x0)), (1, .int y1), (3, .int y3), (4, .long y4)] (by decide) rfl ?_
    refine b_sub [(0, .ref (ad B x0)), (1, .int y1), (3, .int y3), (4, .long y4), (6, .int z0), (7, .int 0)] [2, 3, 4, 5, 1, 0] rfl ?_
    exact tX12_cutsText_L146 C hr hlocks hK7 (y1, y3, y4, z0, 0, d) hf
set_option maxRecDepth 100000 in
def fX12_cutsText_J118 (N : Nat) (g : Gs) (x0 : Nat) (K7 : Int32 × Ds → Option (Unit × Ds)) (K85 : Int32 × Int32 × Int64 × Ds → Option (Unit × Ds)) (y1 : Int32) (y3 : Int32) (y4 : Int64) (d : Ds) : Option (Unit × Ds) := bd (y3 + 1) fun u68 => (K85 (y1, u68, y4, d))
set_option maxHeartbeats 4000000 in
set_option maxRecDepth 100000 in
theorem tX12_cutsText_118 {p : Program} {l : Launch} {e : Env} {s : State} {m : MethodId} {args : Array Value} {below : List Frame} {meth : Method} {c : Code} {D : va_G} {cy : Nat → ClassId} {B : Bs} (C : Cx p s m args c cX12_cutsText 8 RX12 D cy B) (hr : meth.sig.returnType = none) (hlocks : meth.locks = false) {N : Nat} {g : Gs} {x0 : Nat}  {dz : Ds} {K7 : Int32 × Ds → Option (Unit × Ds)} {K85 : Int32 × Int32 × Int64 × Ds → Option (Unit × Ds)} (hK7 : ∀ a, K7 a = some ((), dz) → WB p l e rmX12_cutsText s m args below meth c 8 D cy B 0 0 (MQ below (QV D cy B g dz) args s 0 0 (wA B)) g a.2 [(0, .ref (ad B x0)), (1, .int a.1)] 7 []) (hK85 : ∀ a, K85 a = some ((), dz) → WB p l e rmX12_cutsText s m args below meth c 8 D cy B 0 0 (MQ below (QV D cy B g dz) args s 0 0 (wA B)) g a.2.2.2 [(0, .ref (ad B x0)), (1, .int a.1), (3, .int a.2.1), (4, .long a.2.2.1)] 85 []) {y1 : Int32} {y3 : Int32} {y4 : Int64} {d : Ds} (hf : fX12_cutsText_J118 N g x0 K7 K85 y1 y3 y4 d = some ((), dz)) : WB p l e rmX12_cutsText s m args below meth c 8 D cy B 0 0 (MQ below (QV D cy B g dz) args s 0 0 (wA B)) g d [(0, .ref (ad B x0)), (1, .int y1), (3, .int y3), (4, .long y4)] 118 [] := by
  unfold fX12_cutsText_J118 at hf
  obtain ⟨u68, eu68, hf⟩ := bd_s hf
  refine b_iinc C dX12_cutsText_118 2 rfl (by rw [eu68]; rfl) [(3, .int u68), (0, .ref (ad B x0)), (1, .int y1), (4, .long y4)] (by decide) rfl ?_
  refine b_goto C (tgt := 85) dX12_cutsText_121 (by decide) ?_
  refine b_sub [(0, .ref (ad B x0)), (1, .int y1), (3, .int u68), (4, .long y4)] [1, 2, 0, 3] rfl ?_
  exact hK85 (y1, u68, y4, d) hf
set_option maxRecDepth 100000 in
def fX12_cutsText_B85 (N : Nat) (g : Gs) (x0 : Nat) (K7 : Int32 × Ds → Option (Unit × Ds)) (K85 : Int32 × Int32 × Int64 × Ds → Option (Unit × Ds)) (y1 : Int32) (y3 : Int32) (y4 : Int64) (d : Ds) : Option (Unit × Ds) := gd (chk g x0 11) <| cb (fX12_byteAt N g x0 (y1 + y3) d) fun u48 d46 => (cb (fX12_isLetter N g u48 d46) fun u51 d49 => (if u51 = 0 then (if y3 ≤ (8 : Int32) then (fX12_cutsText_J135 N g x0 K7 y1 y3 y4 1 d49) else (fX12_cutsText_J135 N g x0 K7 y1 y3 y4 3 d49)) else (if (8 : Int32) ≤ y3 then (fX12_cutsText_J118 N g x0 K7 K85 y1 y3 y4 d49) else (cb (fX12_byteAt N g x0 (y1 + y3) d49) fun u71 d69 => (cb (fX12_appends N g y4 u71 d69) fun u74 d72 => (fX12_cutsText_J118 N g x0 K7 K85 y1 y3 u74 d72))))))
set_option maxHeartbeats 4000000 in
set_option maxRecDepth 100000 in
theorem tX12_cutsText_85 {p : Program} {l : Launch} {e : Env} {s : State} {m : MethodId} {args : Array Value} {below : List Frame} {meth : Method} {c : Code} {D : va_G} {cy : Nat → ClassId} {B : Bs} (C : Cx p s m args c cX12_cutsText 8 RX12 D cy B) (hr : meth.sig.returnType = none) (hlocks : meth.locks = false) {N : Nat} {g : Gs} {x0 : Nat}  {dz : Ds} {K7 : Int32 × Ds → Option (Unit × Ds)} {K85 : Int32 × Int32 × Int64 × Ds → Option (Unit × Ds)} (hK7 : ∀ a, K7 a = some ((), dz) → WB p l e rmX12_cutsText s m args below meth c 8 D cy B 0 0 (MQ below (QV D cy B g dz) args s 0 0 (wA B)) g a.2 [(0, .ref (ad B x0)), (1, .int a.1)] 7 []) (hK85 : ∀ a, K85 a = some ((), dz) → WB p l e rmX12_cutsText s m args below meth c 8 D cy B 0 0 (MQ below (QV D cy B g dz) args s 0 0 (wA B)) g a.2.2.2 [(0, .ref (ad B x0)), (1, .int a.1), (3, .int a.2.1), (4, .long a.2.2.1)] 85 []) {y1 : Int32} {y3 : Int32} {y4 : Int64} {d : Ds} (hf : fX12_cutsText_B85 N g x0 K7 K85 y1 y3 y4 d = some ((), dz)) : WB p l e rmX12_cutsText s m args below meth c 8 D cy B 0 0 (MQ below (QV D cy B g dz) args s 0 0 (wA B)) g d [(0, .ref (ad B x0)), (1, .int y1), (3, .int y3), (4, .long y4)] 85 [] := by
  unfold fX12_cutsText_B85 at hf
  refine b_aload_n C dX12_cutsText_85 0 rfl rfl ?_
  refine b_iload_n C dX12_cutsText_86 1 rfl rfl ?_
  refine b_iload_n C dX12_cutsText_87 2 rfl rfl ?_
  refine b_iadd C dX12_cutsText_88 ?_
  obtain ⟨h45, hf⟩ := gd_s hf
  obtain ⟨u48, d46, k47, hf⟩ := cb_s hf
  refine b_cVI C [] dX12_cutsText_89 (kX12_byteAt l D cy B k47) lv_X12_105 ⟨rfl, rfl, Nat.le_of_ble_eq_true rfl, Nat.le_of_ble_eq_true rfl⟩ h45 (by decide) rfl (Nat.le_of_ble_eq_true rfl) ⟨Nat.zero_le _, Nat.zero_le _⟩ rfl ?_
  obtain ⟨u51, d49, k50, hf⟩ := cb_s hf
  refine b_cSI C [] dX12_cutsText_92 (kX12_isLetter l D cy B k50) lv_X12_113 ⟨rfl, rfl, Nat.le_of_ble_eq_true rfl, Nat.le_of_ble_eq_true rfl⟩ rfl (Nat.le_of_ble_eq_true rfl) ⟨Nat.zero_le _, Nat.zero_le _⟩ rfl ?_
  refine b_if_eq C (tgt := 124) dX12_cutsText_95 (by decide) (fun c52 => ?_) (fun c52 => ?_)
  · have hf := it_s c52 hf
    refine b_iload_n C dX12_cutsText_124 2 rfl rfl ?_
    refine b_bipush C (v := 8) dX12_cutsText_125 (by decide) ?_
    refine b_icmp_le C (tgt := 134) dX12_cutsText_127 (by decide) (fun c53 => ?_) (fun c53 => ?_)
    · have hf := it_s c53 hf
      refine b_iconst C (v := 1) dX12_cutsText_134 (by decide) ?_
      refine b_sub [(0, .ref (ad B x0)), (1, .int y1), (3, .int y3), (4, .long y4)] [0, 1, 2, 3] rfl ?_
      exact tX12_cutsText_135 C hr hlocks hK7 hf
    · have hf := if_s c53 hf
      refine b_iconst C (v := 3) dX12_cutsText_130 (by decide) ?_
      refine b_goto C (tgt := 135) dX12_cutsText_131 (by decide) ?_
      refine b_sub [(0, .ref (ad B x0)), (1, .int y1), (3, .int y3), (4, .long y4)] [0, 1, 2, 3] rfl ?_
      exact tX12_cutsText_135 C hr hlocks hK7 hf
  · have hf := if_s c52 hf
    refine b_iload_n C dX12_cutsText_98 2 rfl rfl ?_
    refine b_bipush C (v := 8) dX12_cutsText_99 (by decide) ?_
    refine b_icmp_ge C (tgt := 118) dX12_cutsText_101 (by decide) (fun c67 => ?_) (fun c67 => ?_)
    · have hf := it_s c67 hf
      refine b_sub [(0, .ref (ad B x0)), (1, .int y1), (3, .int y3), (4, .long y4)] [0, 1, 2, 3] rfl ?_
      exact tX12_cutsText_118 C hr hlocks hK7 hK85 hf
    · have hf := if_s c67 hf
      refine b_lload C dX12_cutsText_104 3 rfl ?_
      refine b_aload_n C dX12_cutsText_106 0 rfl rfl ?_
      refine b_iload_n C dX12_cutsText_107 1 rfl rfl ?_
      refine b_iload_n C dX12_cutsText_108 2 rfl rfl ?_
      refine b_iadd C dX12_cutsText_109 ?_
      obtain ⟨u71, d69, k70, hf⟩ := cb_s hf
      refine b_cVI C [.long y4] dX12_cutsText_110 (kX12_byteAt l D cy B k70) lv_X12_105 ⟨rfl, rfl, Nat.le_of_ble_eq_true rfl, Nat.le_of_ble_eq_true rfl⟩ h45 (by decide) rfl (Nat.le_of_ble_eq_true rfl) ⟨Nat.zero_le _, Nat.zero_le _⟩ rfl ?_
      obtain ⟨u74, d72, k73, hf⟩ := cb_s hf
      refine b_cSJ C [] dX12_cutsText_113 (kX12_appends l D cy B k73) lv_X12_79 ⟨rfl, rfl, Nat.le_of_ble_eq_true rfl, Nat.le_of_ble_eq_true rfl⟩ rfl (Nat.le_of_ble_eq_true rfl) ⟨Nat.zero_le _, Nat.zero_le _⟩ rfl ?_
      refine b_lstore C dX12_cutsText_116 [(4, .long u74), (0, .ref (ad B x0)), (1, .int y1), (3, .int y3)] (by decide) rfl ?_
      refine b_sub [(0, .ref (ad B x0)), (1, .int y1), (3, .int y3), (4, .long u74)] [1, 2, 3, 0] rfl ?_
      exact tX12_cutsText_118 C hr hlocks hK7 hK85 hf
def fX12_cutsText_L85 (N : Nat) (g : Gs) (x0 : Nat) (K7 : Int32 × Ds → Option (Unit × Ds)) : Int32 × Int32 × Int64 × Ds → Option (Unit × Ds) := lp (fun K85 a => fX12_cutsText_B85 N g x0 K7 K85 a.1 a.2.1 a.2.2.1 a.2.2.2) N
theorem tX12_cutsText_L85 {p : Program} {l : Launch} {e : Env} {s : State} {m : MethodId} {args : Array Value} {below : List Frame} {meth : Method} {c : Code} {D : va_G} {cy : Nat → ClassId} {B : Bs} (C : Cx p s m args c cX12_cutsText 8 RX12 D cy B) (hr : meth.sig.returnType = none) (hlocks : meth.locks = false) {N : Nat} {g : Gs} {x0 : Nat}  {dz : Ds} {K7 : Int32 × Ds → Option (Unit × Ds)} (hK7 : ∀ a, K7 a = some ((), dz) → WB p l e rmX12_cutsText s m args below meth c 8 D cy B 0 0 (MQ below (QV D cy B g dz) args s 0 0 (wA B)) g a.2 [(0, .ref (ad B x0)), (1, .int a.1)] 7 []) (a : Int32 × Int32 × Int64 × Ds) (hf : fX12_cutsText_L85 N g x0 K7 a = some ((), dz)) : WB p l e rmX12_cutsText s m args below meth c 8 D cy B 0 0 (MQ below (QV D cy B g dz) args s 0 0 (wA B)) g a.2.2.2 [(0, .ref (ad B x0)), (1, .int a.1), (3, .int a.2.1), (4, .long a.2.2.1)] 85 [] :=
  lp_w (fun K85 hK85 a ha => tX12_cutsText_85 C hr hlocks hK7 hK85 ha) N a hf
set_option maxRecDepth 100000 in
def fX12_cutsText_B7 (N : Nat) (g : Gs) (x0 : Nat) (K7 : Int32 × Ds → Option (Unit × Ds)) (y1 : Int32) (d : Ds) : Option (Unit × Ds) := gd (chk g x0 11) <| if (400 : Int32) < (dI d x0 10) then (some ((), d)) else (cb (fX12_byteAt N g x0 y1 d) fun u7 d5 => (if y1 < (dI d5 x0 4) then (if u7 = (9 : Int32) then (fX12_cutsText_J67 N g x0 K7 y1 d5) else (if u7 = (10 : Int32) then (fX12_cutsText_J67 N g x0 K7 y1 d5) else (if u7 = (13 : Int32) then (fX12_cutsText_J67 N g x0 K7 y1 d5) else (if u7 = (32 : Int32) then (fX12_cutsText_J67 N g x0 K7 y1 d5) else (cb (fX12_isLetter N g u7 d5) fun u16 d14 => (if u16 = 0 then (cb (fX12_isDigit N g u7 d14) fun u20 d18 => (if u20 = 0 then (cb (fX12_sign N g x0 y1 u7 d18) fun u24 d22 => (bd ((y1 + u24)) fun u25 => (fX12_cutsText_J284 N g x0 K7 u25 d22))) else (fX12_cutsText_L208 N g x0 K7 (y1, 0, 0, d18)))) else (fX12_cutsText_L85 N g x0 K7 (y1, 0, 0, d14)))))))) else (cv (fX12_token N g x0 0 (dI d5 x0 4) 0 0 d5) fun d75 => (some ((), d75)))))
set_option maxHeartbeats 4000000 in
set_option maxRecDepth 100000 in
theorem tX12_cutsText_7 {p : Program} {l : Launch} {e : Env} {s : State} {m : MethodId} {args : Array Value} {below : List Frame} {meth : Method} {c : Code} {D : va_G} {cy : Nat → ClassId} {B : Bs} (C : Cx p s m args c cX12_cutsText 8 RX12 D cy B) (hr : meth.sig.returnType = none) (hlocks : meth.locks = false) {N : Nat} {g : Gs} {x0 : Nat}  {dz : Ds} {K7 : Int32 × Ds → Option (Unit × Ds)} (hK7 : ∀ a, K7 a = some ((), dz) → WB p l e rmX12_cutsText s m args below meth c 8 D cy B 0 0 (MQ below (QV D cy B g dz) args s 0 0 (wA B)) g a.2 [(0, .ref (ad B x0)), (1, .int a.1)] 7 []) {y1 : Int32} {d : Ds} (hf : fX12_cutsText_B7 N g x0 K7 y1 d = some ((), dz)) : WB p l e rmX12_cutsText s m args below meth c 8 D cy B 0 0 (MQ below (QV D cy B g dz) args s 0 0 (wA B)) g d [(0, .ref (ad B x0)), (1, .int y1)] 7 [] := by
  unfold fX12_cutsText_B7 at hf
  refine b_aload_n C dX12_cutsText_7 0 rfl rfl ?_
  obtain ⟨h3, hf⟩ := gd_s hf
  refine b_gI C dX12_cutsText_8 fl_X12_102 h3 ?_
  refine b_sipush C (v := 400) dX12_cutsText_11 (by decide) ?_
  refine b_icmp_gt C (tgt := 287) dX12_cutsText_14 (by decide) (fun c4 => ?_) (fun c4 => ?_)
  · have hf := it_s c4 hf
    exact b_vret C hr hlocks hf dX12_cutsText_287
  · have hf := if_s c4 hf
    refine b_aload_n C dX12_cutsText_17 0 rfl rfl ?_
    refine b_iload_n C dX12_cutsText_18 1 rfl rfl ?_
    obtain ⟨u7, d5, k6, hf⟩ := cb_s hf
    refine b_cVI C [] dX12_cutsText_19 (kX12_byteAt l D cy B k6) lv_X12_105 ⟨rfl, rfl, Nat.le_of_ble_eq_true rfl, Nat.le_of_ble_eq_true rfl⟩ h3 (by decide) rfl (Nat.le_of_ble_eq_true rfl) ⟨Nat.zero_le _, Nat.zero_le _⟩ rfl ?_
    refine b_istore_n C dX12_cutsText_22 rfl [(2, .int u7), (0, .ref (ad B x0)), (1, .int y1)] (by decide) rfl ?_
    refine b_iload_n C dX12_cutsText_23 2 rfl rfl ?_
    refine b_aload_n C dX12_cutsText_24 1 rfl rfl ?_
    refine b_gI C dX12_cutsText_25 fl_X12_97 h3 ?_
    refine b_icmp_lt C (tgt := 43) dX12_cutsText_28 (by decide) (fun c8 => ?_) (fun c8 => ?_)
    · have hf := it_s c8 hf
      refine b_iload_n C dX12_cutsText_43 0 rfl rfl ?_
      refine b_bipush C (v := 9) dX12_cutsText_44 (by decide) ?_
      refine b_icmp_eq C (tgt := 67) dX12_cutsText_46 (by decide) (fun c9 => ?_) (fun c9 => ?_)
      · have hf := it_s c9 hf
        refine b_sub [(0, .ref (ad B x0)), (1, .int y1)] [1, 2] rfl ?_
        exact tX12_cutsText_67 C hr hlocks hK7 hf
      · have hf := if_s c9 hf
        refine b_iload_n C dX12_cutsText_49 0 rfl rfl ?_
        refine b_bipush C (v := 10) dX12_cutsText_50 (by decide) ?_
        refine b_icmp_eq C (tgt := 67) dX12_cutsText_52 (by decide) (fun c11 => ?_) (fun c11 => ?_)
        · have hf := it_s c11 hf
          refine b_sub [(0, .ref (ad B x0)), (1, .int y1)] [1, 2] rfl ?_
          exact tX12_cutsText_67 C hr hlocks hK7 hf
        · have hf := if_s c11 hf
          refine b_iload_n C dX12_cutsText_55 0 rfl rfl ?_
          refine b_bipush C (v := 13) dX12_cutsText_56 (by decide) ?_
          refine b_icmp_eq C (tgt := 67) dX12_cutsText_58 (by decide) (fun c12 => ?_) (fun c12 => ?_)
          · have hf := it_s c12 hf
            refine b_sub [(0, .ref (ad B x0)), (1, .int y1)] [1, 2] rfl ?_
            exact tX12_cutsText_67 C hr hlocks hK7 hf
          · have hf := if_s c12 hf
            refine b_iload_n C dX12_cutsText_61 0 rfl rfl ?_
            refine b_bipush C (v := 32) dX12_cutsText_62 (by decide) ?_
            refine b_icmp_ne C (tgt := 73) dX12_cutsText_64 (by decide) (fun c13 => ?_) (fun c13 => ?_)
            · have hf := if_s c13 hf
              refine b_iload_n C dX12_cutsText_73 0 rfl rfl ?_
              obtain ⟨u16, d14, k15, hf⟩ := cb_s hf
              refine b_cSI C [] dX12_cutsText_74 (kX12_isLetter l D cy B k15) lv_X12_113 ⟨rfl, rfl, Nat.le_of_ble_eq_true rfl, Nat.le_of_ble_eq_true rfl⟩ rfl (Nat.le_of_ble_eq_true rfl) ⟨Nat.zero_le _, Nat.zero_le _⟩ rfl ?_
              refine b_if_eq C (tgt := 196) dX12_cutsText_77 (by decide) (fun c17 => ?_) (fun c17 => ?_)
              · have hf := it_s c17 hf
                refine b_iload_n C dX12_cutsText_196 0 rfl rfl ?_
                obtain ⟨u20, d18, k19, hf⟩ := cb_s hf
                refine b_cSI C [] dX12_cutsText_197 (kX12_isDigit l D cy B k19) lv_X12_117 ⟨rfl, rfl, Nat.le_of_ble_eq_true rfl, Nat.le_of_ble_eq_true rfl⟩ rfl (Nat.le_of_ble_eq_true rfl) ⟨Nat.zero_le _, Nat.zero_le _⟩ rfl ?_
                refine b_if_eq C (tgt := 275) dX12_cutsText_200 (by decide) (fun c21 => ?_) (fun c21 => ?_)
                · have hf := it_s c21 hf
                  refine b_iload_n C dX12_cutsText_275 2 rfl rfl ?_
                  refine b_aload_n C dX12_cutsText_276 1 rfl rfl ?_
                  refine b_iload_n C dX12_cutsText_277 2 rfl rfl ?_
                  refine b_iload_n C dX12_cutsText_278 0 rfl rfl ?_
                  obtain ⟨u24, d22, k23, hf⟩ := cb_s hf
                  refine b_cVI C [.int y1] dX12_cutsText_279 (kX12_sign l D cy B k23) lv_X12_120 ⟨rfl, rfl, Nat.le_of_ble_eq_true rfl, Nat.le_of_ble_eq_true rfl⟩ h3 (by decide) rfl (Nat.le_of_ble_eq_true rfl) ⟨Nat.zero_le _, Nat.zero_le _⟩ rfl ?_
                  refine b_iadd C dX12_cutsText_282 ?_
                  obtain ⟨u25, eu25, hf⟩ := bd_s hf
                  refine b_topI eu25 ?_
                  refine b_istore_n C dX12_cutsText_283 rfl [(1, .int u25), (2, .int u7), (0, .ref (ad B x0))] (by decide) rfl ?_
                  refine b_sub [(0, .ref (ad B x0)), (1, .int u25)] [2, 0] rfl ?_
                  exact tX12_cutsText_284 C hr hlocks hK7 hf
                · have hf := if_s c21 hf
                  refine b_iconst C (v := 0) dX12_cutsText_203 (by decide) ?_
                  refine b_istore_n C dX12_cutsText_204 rfl [(3, .int 0), (2, .int u7), (0, .ref (ad B x0)), (1, .int y1)] (by decide) rfl ?_
                  refine b_iconst C (v := 0) dX12_cutsText_205 (by decide) ?_
                  refine b_istore C dX12_cutsText_206 [(4, .int 0), (3, .int 0), (2, .int u7), (0, .ref (ad B x0)), (1, .int y1)] (by decide) rfl ?_
                  refine b_sub [(0, .ref (ad B x0)), (1, .int y1), (3, .int 0), (4, .int 0)] [3, 4, 1, 0] rfl ?_
                  exact tX12_cutsText_L208 C hr hlocks hK7 (y1, 0, 0, d18) hf
              · have hf := if_s c17 hf
                refine b_iconst C (v := 0) dX12_cutsText_80 (by decide) ?_
                refine b_istore_n C dX12_cutsText_81 rfl [(3, .int 0), (2, .int u7), (0, .ref (ad B x0)), (1, .int y1)] (by decide) rfl ?_
                refine b_lconst C (v := 0) dX12_cutsText_82 (by decide) ?_
                refine b_lstore C dX12_cutsText_83 [(4, .long 0), (3, .int 0), (2, .int u7), (0, .ref (ad B x0)), (1, .int y1)] (by decide) rfl ?_
                refine b_sub [(0, .ref (ad B x0)), (1, .int y1), (3, .int 0), (4, .long 0)] [3, 4, 1, 0] rfl ?_
                exact tX12_cutsText_L85 C hr hlocks hK7 (y1, 0, 0, d14) hf
            · have hf := it_s c13 hf
              refine b_sub [(0, .ref (ad B x0)), (1, .int y1)] [1, 2] rfl ?_
              exact tX12_cutsText_67 C hr hlocks hK7 hf
    · have hf := if_s c8 hf
      refine b_aload_n C dX12_cutsText_31 1 rfl rfl ?_
      refine b_iconst C (v := 0) dX12_cutsText_32 (by decide) ?_
      refine b_aload_n C dX12_cutsText_33 1 rfl rfl ?_
      refine b_gI C dX12_cutsText_34 fl_X12_97 h3 ?_
      refine b_iconst C (v := 0) dX12_cutsText_37 (by decide) ?_
      refine b_lconst C (v := 0) dX12_cutsText_38 (by decide) ?_
      obtain ⟨d75, k76, hf⟩ := cv_s hf
      refine b_cVN C [] dX12_cutsText_39 (kX12_token l D cy B k76) lv_X12_109 ⟨rfl, rfl, Nat.le_of_ble_eq_true rfl, Nat.le_of_ble_eq_true rfl⟩ h3 (by decide) rfl (Nat.le_of_ble_eq_true rfl) ⟨Nat.zero_le _, Nat.zero_le _⟩ rfl ?_
      exact b_vret C hr hlocks hf dX12_cutsText_42
def fX12_cutsText_L7 (N : Nat) (g : Gs) (x0 : Nat) : Int32 × Ds → Option (Unit × Ds) := lp (fun K7 a => fX12_cutsText_B7 N g x0 K7 a.1 a.2) N
theorem tX12_cutsText_L7 {p : Program} {l : Launch} {e : Env} {s : State} {m : MethodId} {args : Array Value} {below : List Frame} {meth : Method} {c : Code} {D : va_G} {cy : Nat → ClassId} {B : Bs} (C : Cx p s m args c cX12_cutsText 8 RX12 D cy B) (hr : meth.sig.returnType = none) (hlocks : meth.locks = false) {N : Nat} {g : Gs} {x0 : Nat}  {dz : Ds} (a : Int32 × Ds) (hf : fX12_cutsText_L7 N g x0 a = some ((), dz)) : WB p l e rmX12_cutsText s m args below meth c 8 D cy B 0 0 (MQ below (QV D cy B g dz) args s 0 0 (wA B)) g a.2 [(0, .ref (ad B x0)), (1, .int a.1)] 7 [] :=
  lp_w (fun K7 hK7 a ha => tX12_cutsText_7 C hr hlocks hK7 ha) N a hf
set_option maxRecDepth 100000 in
def fX12_cutsText (N : Nat) (g : Gs) (x0 : Nat) (d : Ds) : Option (Unit × Ds) := gd (chk g x0 11) <| bd (sI d x0 10 0) fun d2 => (fX12_cutsText_L7 N g x0 (0, d2))
set_option maxHeartbeats 4000000 in
set_option maxRecDepth 100000 in
theorem tX12_cutsText_E {p : Program} {l : Launch} {e : Env} {s : State} {m : MethodId} {args : Array Value} {below : List Frame} {meth : Method} {c : Code} {D : va_G} {cy : Nat → ClassId} {B : Bs} (C : Cx p s m args c cX12_cutsText 8 RX12 D cy B) (hr : meth.sig.returnType = none) (hlocks : meth.locks = false) {N : Nat} {g : Gs} {x0 : Nat}  {dz : Ds} {d : Ds} (hf : fX12_cutsText N g x0 d = some ((), dz)) : WB p l e rmX12_cutsText s m args below meth c 8 D cy B 0 0 (MQ below (QV D cy B g dz) args s 0 0 (wA B)) g d [(0, .ref (ad B x0))] 0 [] := by
  unfold fX12_cutsText at hf
  refine b_aload_n C dX12_cutsText_0 0 rfl rfl ?_
  refine b_iconst C (v := 0) dX12_cutsText_1 (by decide) ?_
  obtain ⟨h1, hf⟩ := gd_s hf
  obtain ⟨d2, ed2, hf⟩ := bd_s hf
  refine b_pI C dX12_cutsText_2 fl_X12_102 fp11_10 h1 ed2 ?_
  refine b_iconst C (v := 0) dX12_cutsText_5 (by decide) ?_
  refine b_istore_n C dX12_cutsText_6 rfl [(1, .int 0), (0, .ref (ad B x0))] (by decide) rfl ?_
  refine b_sub [(0, .ref (ad B x0)), (1, .int 0)] [1, 0] rfl ?_
  exact tX12_cutsText_L7 C hr hlocks (0, d2) hf
theorem kX12_cutsText (l : Launch) (D : va_G) (cy : Nat → ClassId) (B : Bs) {N : Nat} {g : Gs} {x0 : Nat}  {dz : Ds} {d : Ds} (hf : fX12_cutsText N g x0 d = some ((), dz)) : Met l yX12_cutsText (.code yX12_cutsText cX12_cutsText 8 none :: wl) rmX12_cutsText (PC D cy B [.ref (ad B x0)] g d) (QV D cy B g dz) 0 0 (wA B) :=
  met_of (by decide +kernel) (Nat.le_of_ble_eq_true rfl) (fun p e s m args below meth c C hr hlocks _ => b_sub [(0, .ref (ad B x0))] [0] rfl (tX12_cutsText_E C hr hlocks hf))
/-! KeyMatrixModel.is(I)Z -/
theorem fl_X12_124 : FLI RX12 124 11 12 := ⟨⟨RX12, TX12, 33, rfl, by decide, inl11, Or.inl (mW (mT5 (List.mem_of_getElem? (i := 103) (by decide +kernel))) rfl)⟩, by decide, by decide +kernel⟩
theorem fl_X12_127 : FLI RX12 127 11 11 := ⟨⟨RX12, TX12, 33, rfl, by decide, inl11, Or.inl (mW (mT5 (List.mem_of_getElem? (i := 102) (by decide +kernel))) rfl)⟩, by decide, by decide +kernel⟩
theorem dX12_is_0 : decode cX12_is 0 = .ok (.aload_n 0, 1) := by decide +kernel
theorem dX12_is_1 : decode cX12_is 1 = .ok (.getfield 124, 3) := by decide +kernel
theorem dX12_is_4 : decode cX12_is 4 = .ok (.ifCond .ne 20, 3) := by decide +kernel
theorem dX12_is_7 : decode cX12_is 7 = .ok (.aload_n 0, 1) := by decide +kernel
theorem dX12_is_8 : decode cX12_is 8 = .ok (.getfield 20, 3) := by decide +kernel
theorem dX12_is_11 : decode cX12_is 11 = .ok (.aload_n 0, 1) := by decide +kernel
theorem dX12_is_12 : decode cX12_is 12 = .ok (.getfield 127, 3) := by decide +kernel
theorem dX12_is_15 : decode cX12_is 15 = .ok (.iaload, 1) := by decide +kernel
theorem dX12_is_16 : decode cX12_is 16 = .ok (.iload_n 1, 1) := by decide +kernel
theorem dX12_is_17 : decode cX12_is 17 = .ok (.if_icmp .ne 7, 3) := by decide +kernel
theorem dX12_is_20 : decode cX12_is 20 = .ok (.iconst 1, 1) := by decide +kernel
theorem dX12_is_21 : decode cX12_is 21 = .ok (.goto 4, 3) := by decide +kernel
theorem dX12_is_24 : decode cX12_is 24 = .ok (.iconst 0, 1) := by decide +kernel
theorem dX12_is_25 : decode cX12_is 25 = .ok (.ireturn, 1) := by decide +kernel
def rmX12_is : Room := { frames := 0, cells := 0, slots := 0, locals := 0 }
set_option maxRecDepth 100000 in
def fX12_is_J25 (N : Nat) (g : Gs) (x0 : Nat) (x1 : Int32) (z0 : Int32) (d : Ds) : Option (Int32 × Ds) := gd (z0 = 0 ∨ z0 = 1) <| some (z0, d)
set_option maxHeartbeats 4000000 in
set_option maxRecDepth 100000 in
theorem tX12_is_25 {p : Program} {l : Launch} {e : Env} {s : State} {m : MethodId} {args : Array Value} {below : List Frame} {meth : Method} {c : Code} {D : va_G} {cy : Nat → ClassId} {B : Bs} (C : Cx p s m args c cX12_is 2 RX12 D cy B) (hr : meth.sig.returnType = (some .boolean)) (hlocks : meth.locks = false) {N : Nat} {g : Gs} {x0 : Nat} {x1 : Int32} {vz : Int32} {dz : Ds} {z0 : Int32} {d : Ds} (hf : fX12_is_J25 N g x0 x1 z0 d = some (vz, dz)) : WB p l e rmX12_is s m args below meth c 2 D cy B 0 0 (MQ below (QI D cy B vz g dz) args s 0 0 (wA B)) g d [(0, .ref (ad B x0)), (1, .int x1)] 25 [.int z0] := by
  unfold fX12_is_J25 at hf
  obtain ⟨h3, hf⟩ := gd_s hf
  exact b_zret C hr hlocks h3 hf dX12_is_25
set_option maxRecDepth 100000 in
def fX12_is_J24 (N : Nat) (g : Gs) (x0 : Nat) (x1 : Int32) (d : Ds) : Option (Int32 × Ds) := fX12_is_J25 N g x0 x1 0 d
set_option maxHeartbeats 4000000 in
set_option maxRecDepth 100000 in
theorem tX12_is_24 {p : Program} {l : Launch} {e : Env} {s : State} {m : MethodId} {args : Array Value} {below : List Frame} {meth : Method} {c : Code} {D : va_G} {cy : Nat → ClassId} {B : Bs} (C : Cx p s m args c cX12_is 2 RX12 D cy B) (hr : meth.sig.returnType = (some .boolean)) (hlocks : meth.locks = false) {N : Nat} {g : Gs} {x0 : Nat} {x1 : Int32} {vz : Int32} {dz : Ds} {d : Ds} (hf : fX12_is_J24 N g x0 x1 d = some (vz, dz)) : WB p l e rmX12_is s m args below meth c 2 D cy B 0 0 (MQ below (QI D cy B vz g dz) args s 0 0 (wA B)) g d [(0, .ref (ad B x0)), (1, .int x1)] 24 [] := by
  unfold fX12_is_J24 at hf
  refine b_iconst C (v := 0) dX12_is_24 (by decide) ?_
  refine b_sub [(0, .ref (ad B x0)), (1, .int x1)] [0, 1] rfl ?_
  exact tX12_is_25 C hr hlocks hf
set_option maxRecDepth 100000 in
def fX12_is (N : Nat) (g : Gs) (x0 : Nat) (x1 : Int32) (d : Ds) : Option (Int32 × Ds) := gd (chk g x0 11) <| if (dI d x0 12) = 0 then (ob (gR g x0 5) fun r4 => (gd (chk g r4 102) <| gd (¬ ((dI d x0 11) < 0 ∨ gL g r4 ≤ (dI d x0 11).toNatClampNeg)) <| if (dI d r4 (dI d x0 11).toNatClampNeg) = x1 then (fX12_is_J25 N g x0 x1 1 d) else (fX12_is_J24 N g x0 x1 d))) else (fX12_is_J24 N g x0 x1 d)
set_option maxHeartbeats 4000000 in
set_option maxRecDepth 100000 in
theorem tX12_is_E {p : Program} {l : Launch} {e : Env} {s : State} {m : MethodId} {args : Array Value} {below : List Frame} {meth : Method} {c : Code} {D : va_G} {cy : Nat → ClassId} {B : Bs} (C : Cx p s m args c cX12_is 2 RX12 D cy B) (hr : meth.sig.returnType = (some .boolean)) (hlocks : meth.locks = false) {N : Nat} {g : Gs} {x0 : Nat} {x1 : Int32} {vz : Int32} {dz : Ds} {d : Ds} (hf : fX12_is N g x0 x1 d = some (vz, dz)) : WB p l e rmX12_is s m args below meth c 2 D cy B 0 0 (MQ below (QI D cy B vz g dz) args s 0 0 (wA B)) g d [(0, .ref (ad B x0)), (1, .int x1)] 0 [] := by
  unfold fX12_is at hf
  refine b_aload_n C dX12_is_0 0 rfl rfl ?_
  obtain ⟨h1, hf⟩ := gd_s hf
  refine b_gI C dX12_is_1 fl_X12_124 h1 ?_
  refine b_if_ne C (tgt := 24) dX12_is_4 (by decide) (fun c2 => ?_) (fun c2 => ?_)
  · have hf := if_s c2 hf
    refine b_sub [(0, .ref (ad B x0)), (1, .int x1)] [0, 1] rfl ?_
    exact tX12_is_24 C hr hlocks hf
  · have hf := it_s c2 hf
    refine b_aload_n C dX12_is_7 0 rfl rfl ?_
    obtain ⟨r4, er4, hf⟩ := ob_s hf
    refine b_gR C dX12_is_8 fl_X12_20 h1 er4 ?_
    refine b_aload_n C dX12_is_11 0 rfl rfl ?_
    refine b_gI C dX12_is_12 fl_X12_127 h1 ?_
    obtain ⟨h5, hf⟩ := gd_s hf
    obtain ⟨h6, hf⟩ := gd_s hf
    refine b_iald C h5 h6 dX12_is_15 ?_
    refine b_iload_n C dX12_is_16 1 rfl rfl ?_
    refine b_icmp_ne C (tgt := 24) dX12_is_17 (by decide) (fun c7 => ?_) (fun c7 => ?_)
    · have hf := if_s c7 hf
      refine b_sub [(0, .ref (ad B x0)), (1, .int x1)] [0, 1] rfl ?_
      exact tX12_is_24 C hr hlocks hf
    · have hf := it_s c7 hf
      refine b_iconst C (v := 1) dX12_is_20 (by decide) ?_
      refine b_goto C (tgt := 25) dX12_is_21 (by decide) ?_
      refine b_sub [(0, .ref (ad B x0)), (1, .int x1)] [0, 1] rfl ?_
      exact tX12_is_25 C hr hlocks hf
theorem kX12_is (l : Launch) (D : va_G) (cy : Nat → ClassId) (B : Bs) {N : Nat} {g : Gs} {x0 : Nat} {x1 : Int32} {vz : Int32} {dz : Ds} {d : Ds} (hf : fX12_is N g x0 x1 d = some (vz, dz)) : Met l yX12_is (.code yX12_is cX12_is 2 (some .boolean) :: wl) rmX12_is (PC D cy B [.ref (ad B x0), .int x1] g d) (QI D cy B vz g dz) 0 0 (wA B) :=
  met_of (by decide +kernel) (Nat.le_of_ble_eq_true rfl) (fun p e s m args below meth c C hr hlocks _ => b_sub [(0, .ref (ad B x0)), (1, .int x1)] [0, 1] rfl (tX12_is_E C hr hlocks hf))
/-! KeyMatrixModel.fail(I)V -/
theorem fp11_12 : FPI 11 12 := ⟨ft11, (RX12, TX12, 33), rfl, by decide +kernel, by decide +kernel⟩
theorem fl_X12_130 : FLI RX12 130 11 13 := ⟨⟨RX12, TX12, 33, rfl, by decide, inl11, Or.inl (mW (mT5 (List.mem_of_getElem? (i := 104) (by decide +kernel))) rfl)⟩, by decide, by decide +kernel⟩
theorem fp11_13 : FPI 11 13 := ⟨ft11, (RX12, TX12, 33), rfl, by decide +kernel, by decide +kernel⟩
theorem dX12_fail_0 : decode cX12_fail 0 = .ok (.aload_n 0, 1) := by decide +kernel
theorem dX12_fail_1 : decode cX12_fail 1 = .ok (.getfield 124, 3) := by decide +kernel
theorem dX12_fail_4 : decode cX12_fail 4 = .ok (.ifCond .le 4, 3) := by decide +kernel
theorem dX12_fail_7 : decode cX12_fail 7 = .ok (.return_, 1) := by decide +kernel
theorem dX12_fail_8 : decode cX12_fail 8 = .ok (.aload_n 0, 1) := by decide +kernel
theorem dX12_fail_9 : decode cX12_fail 9 = .ok (.iload_n 1, 1) := by decide +kernel
theorem dX12_fail_10 : decode cX12_fail 10 = .ok (.putfield 124, 3) := by decide +kernel
theorem dX12_fail_13 : decode cX12_fail 13 = .ok (.aload_n 0, 1) := by decide +kernel
theorem dX12_fail_14 : decode cX12_fail 14 = .ok (.aload_n 0, 1) := by decide +kernel
theorem dX12_fail_15 : decode cX12_fail 15 = .ok (.getfield 24, 3) := by decide +kernel
theorem dX12_fail_18 : decode cX12_fail 18 = .ok (.aload_n 0, 1) := by decide +kernel
theorem dX12_fail_19 : decode cX12_fail 19 = .ok (.getfield 127, 3) := by decide +kernel
theorem dX12_fail_22 : decode cX12_fail 22 = .ok (.iaload, 1) := by decide +kernel
theorem dX12_fail_23 : decode cX12_fail 23 = .ok (.putfield 130, 3) := by decide +kernel
theorem dX12_fail_26 : decode cX12_fail 26 = .ok (.return_, 1) := by decide +kernel
def rmX12_fail : Room := { frames := 0, cells := 0, slots := 0, locals := 0 }
set_option maxRecDepth 100000 in
def fX12_fail (N : Nat) (g : Gs) (x0 : Nat) (x1 : Int32) (d : Ds) : Option (Unit × Ds) := gd (chk g x0 11) <| if (dI d x0 12) ≤ 0 then (bd (sI d x0 12 x1) fun d3 => (ob (gR g x0 6) fun r4 => (gd (chk g r4 102) <| gd (¬ ((dI d3 x0 11) < 0 ∨ gL g r4 ≤ (dI d3 x0 11).toNatClampNeg)) <| bd (sI d3 x0 13 (dI d3 r4 (dI d3 x0 11).toNatClampNeg)) fun d7 => (some ((), d7))))) else (some ((), d))
set_option maxHeartbeats 4000000 in
set_option maxRecDepth 100000 in
theorem tX12_fail_E {p : Program} {l : Launch} {e : Env} {s : State} {m : MethodId} {args : Array Value} {below : List Frame} {meth : Method} {c : Code} {D : va_G} {cy : Nat → ClassId} {B : Bs} (C : Cx p s m args c cX12_fail 2 RX12 D cy B) (hr : meth.sig.returnType = none) (hlocks : meth.locks = false) {N : Nat} {g : Gs} {x0 : Nat} {x1 : Int32}  {dz : Ds} {d : Ds} (hf : fX12_fail N g x0 x1 d = some ((), dz)) : WB p l e rmX12_fail s m args below meth c 2 D cy B 0 0 (MQ below (QV D cy B g dz) args s 0 0 (wA B)) g d [(0, .ref (ad B x0)), (1, .int x1)] 0 [] := by
  unfold fX12_fail at hf
  refine b_aload_n C dX12_fail_0 0 rfl rfl ?_
  obtain ⟨h1, hf⟩ := gd_s hf
  refine b_gI C dX12_fail_1 fl_X12_124 h1 ?_
  refine b_if_le C (tgt := 8) dX12_fail_4 (by decide) (fun c2 => ?_) (fun c2 => ?_)
  · have hf := it_s c2 hf
    refine b_aload_n C dX12_fail_8 0 rfl rfl ?_
    refine b_iload_n C dX12_fail_9 1 rfl rfl ?_
    obtain ⟨d3, ed3, hf⟩ := bd_s hf
    refine b_pI C dX12_fail_10 fl_X12_124 fp11_12 h1 ed3 ?_
    refine b_aload_n C dX12_fail_13 0 rfl rfl ?_
    refine b_aload_n C dX12_fail_14 0 rfl rfl ?_
    obtain ⟨r4, er4, hf⟩ := ob_s hf
    refine b_gR C dX12_fail_15 fl_X12_24 h1 er4 ?_
    refine b_aload_n C dX12_fail_18 0 rfl rfl ?_
    refine b_gI C dX12_fail_19 fl_X12_127 h1 ?_
    obtain ⟨h5, hf⟩ := gd_s hf
    obtain ⟨h6, hf⟩ := gd_s hf
    refine b_iald C h5 h6 dX12_fail_22 ?_
    obtain ⟨d7, ed7, hf⟩ := bd_s hf
    refine b_pI C dX12_fail_23 fl_X12_130 fp11_13 h1 ed7 ?_
    exact b_vret C hr hlocks hf dX12_fail_26
  · have hf := if_s c2 hf
    exact b_vret C hr hlocks hf dX12_fail_7
theorem kX12_fail (l : Launch) (D : va_G) (cy : Nat → ClassId) (B : Bs) {N : Nat} {g : Gs} {x0 : Nat} {x1 : Int32}  {dz : Ds} {d : Ds} (hf : fX12_fail N g x0 x1 d = some ((), dz)) : Met l yX12_fail (.code yX12_fail cX12_fail 2 none :: wl) rmX12_fail (PC D cy B [.ref (ad B x0), .int x1] g d) (QV D cy B g dz) 0 0 (wA B) :=
  met_of (by decide +kernel) (Nat.le_of_ble_eq_true rfl) (fun p e s m args below meth c C hr hlocks _ => b_sub [(0, .ref (ad B x0)), (1, .int x1)] [0, 1] rfl (tX12_fail_E C hr hlocks hf))
/-! KeyMatrixModel.wrong(II)V -/
theorem fl_X12_133 : FLI RX12 133 11 14 := ⟨⟨RX12, TX12, 33, rfl, by decide, inl11, Or.inl (mW (mT5 (List.mem_of_getElem? (i := 105) (by decide +kernel))) rfl)⟩, by decide, by decide +kernel⟩
theorem fp11_14 : FPI 11 14 := ⟨ft11, (RX12, TX12, 33), rfl, by decide +kernel, by decide +kernel⟩
theorem fl_X12_136 : FLI RX12 136 11 15 := ⟨⟨RX12, TX12, 33, rfl, by decide, inl11, Or.inl (mW (mT5 (List.mem_of_getElem? (i := 106) (by decide +kernel))) rfl)⟩, by decide, by decide +kernel⟩
theorem fp11_15 : FPI 11 15 := ⟨ft11, (RX12, TX12, 33), rfl, by decide +kernel, by decide +kernel⟩
theorem dX12_wrong_0 : decode cX12_wrong 0 = .ok (.aload_n 0, 1) := by decide +kernel
theorem dX12_wrong_1 : decode cX12_wrong 1 = .ok (.getfield 24, 3) := by decide +kernel
theorem dX12_wrong_4 : decode cX12_wrong 4 = .ok (.iload_n 2, 1) := by decide +kernel
theorem dX12_wrong_5 : decode cX12_wrong 5 = .ok (.iaload, 1) := by decide +kernel
theorem dX12_wrong_6 : decode cX12_wrong 6 = .ok (.istore_n 3, 1) := by decide +kernel
theorem dX12_wrong_7 : decode cX12_wrong 7 = .ok (.aload_n 0, 1) := by decide +kernel
theorem dX12_wrong_8 : decode cX12_wrong 8 = .ok (.getfield 124, 3) := by decide +kernel
theorem dX12_wrong_11 : decode cX12_wrong 11 = .ok (.ifCond .gt 34, 3) := by decide +kernel
theorem dX12_wrong_14 : decode cX12_wrong 14 = .ok (.aload_n 0, 1) := by decide +kernel
theorem dX12_wrong_15 : decode cX12_wrong 15 = .ok (.getfield 133, 3) := by decide +kernel
theorem dX12_wrong_18 : decode cX12_wrong 18 = .ok (.ifCond .eq 28, 3) := by decide +kernel
theorem dX12_wrong_21 : decode cX12_wrong 21 = .ok (.iload_n 3, 1) := by decide +kernel
theorem dX12_wrong_22 : decode cX12_wrong 22 = .ok (.aload_n 0, 1) := by decide +kernel
theorem dX12_wrong_23 : decode cX12_wrong 23 = .ok (.getfield 136, 3) := by decide +kernel
theorem dX12_wrong_26 : decode cX12_wrong 26 = .ok (.if_icmp .gt 19, 3) := by decide +kernel
theorem dX12_wrong_29 : decode cX12_wrong 29 = .ok (.iload_n 3, 1) := by decide +kernel
theorem dX12_wrong_30 : decode cX12_wrong 30 = .ok (.aload_n 0, 1) := by decide +kernel
theorem dX12_wrong_31 : decode cX12_wrong 31 = .ok (.getfield 136, 3) := by decide +kernel
theorem dX12_wrong_34 : decode cX12_wrong 34 = .ok (.if_icmp .ne 12, 3) := by decide +kernel
theorem dX12_wrong_37 : decode cX12_wrong 37 = .ok (.iload_n 1, 1) := by decide +kernel
theorem dX12_wrong_38 : decode cX12_wrong 38 = .ok (.aload_n 0, 1) := by decide +kernel
theorem dX12_wrong_39 : decode cX12_wrong 39 = .ok (.getfield 133, 3) := by decide +kernel
theorem dX12_wrong_42 : decode cX12_wrong 42 = .ok (.if_icmp .lt 4, 3) := by decide +kernel
theorem dX12_wrong_45 : decode cX12_wrong 45 = .ok (.return_, 1) := by decide +kernel
theorem dX12_wrong_46 : decode cX12_wrong 46 = .ok (.aload_n 0, 1) := by decide +kernel
theorem dX12_wrong_47 : decode cX12_wrong 47 = .ok (.iload_n 1, 1) := by decide +kernel
theorem dX12_wrong_48 : decode cX12_wrong 48 = .ok (.putfield 133, 3) := by decide +kernel
theorem dX12_wrong_51 : decode cX12_wrong 51 = .ok (.aload_n 0, 1) := by decide +kernel
theorem dX12_wrong_52 : decode cX12_wrong 52 = .ok (.iload_n 3, 1) := by decide +kernel
theorem dX12_wrong_53 : decode cX12_wrong 53 = .ok (.putfield 136, 3) := by decide +kernel
theorem dX12_wrong_56 : decode cX12_wrong 56 = .ok (.return_, 1) := by decide +kernel
def rmX12_wrong : Room := { frames := 0, cells := 0, slots := 0, locals := 0 }
set_option maxRecDepth 100000 in
def fX12_wrong_J45 (N : Nat) (g : Gs) (x0 : Nat) (x1 : Int32) (x2 : Int32) (d : Ds) : Option (Unit × Ds) := some ((), d)
set_option maxHeartbeats 4000000 in
set_option maxRecDepth 100000 in
theorem tX12_wrong_45 {p : Program} {l : Launch} {e : Env} {s : State} {m : MethodId} {args : Array Value} {below : List Frame} {meth : Method} {c : Code} {D : va_G} {cy : Nat → ClassId} {B : Bs} (C : Cx p s m args c cX12_wrong 4 RX12 D cy B) (hr : meth.sig.returnType = none) (hlocks : meth.locks = false) {N : Nat} {g : Gs} {x0 : Nat} {x1 : Int32} {x2 : Int32}  {dz : Ds} {d : Ds} (hf : fX12_wrong_J45 N g x0 x1 x2 d = some ((), dz)) : WB p l e rmX12_wrong s m args below meth c 4 D cy B 0 0 (MQ below (QV D cy B g dz) args s 0 0 (wA B)) g d [(0, .ref (ad B x0)), (1, .int x1), (2, .int x2)] 45 [] := by
  unfold fX12_wrong_J45 at hf
  exact b_vret C hr hlocks hf dX12_wrong_45
set_option maxRecDepth 100000 in
def fX12_wrong_J46 (N : Nat) (g : Gs) (x0 : Nat) (x1 : Int32) (x2 : Int32) (y3 : Int32) (d : Ds) : Option (Unit × Ds) := gd (chk g x0 11) <| bd (sI d x0 14 x1) fun d9 => (bd (sI d9 x0 15 y3) fun d10 => (some ((), d10)))
set_option maxHeartbeats 4000000 in
set_option maxRecDepth 100000 in
theorem tX12_wrong_46 {p : Program} {l : Launch} {e : Env} {s : State} {m : MethodId} {args : Array Value} {below : List Frame} {meth : Method} {c : Code} {D : va_G} {cy : Nat → ClassId} {B : Bs} (C : Cx p s m args c cX12_wrong 4 RX12 D cy B) (hr : meth.sig.returnType = none) (hlocks : meth.locks = false) {N : Nat} {g : Gs} {x0 : Nat} {x1 : Int32} {x2 : Int32}  {dz : Ds} {y3 : Int32} {d : Ds} (hf : fX12_wrong_J46 N g x0 x1 x2 y3 d = some ((), dz)) : WB p l e rmX12_wrong s m args below meth c 4 D cy B 0 0 (MQ below (QV D cy B g dz) args s 0 0 (wA B)) g d [(0, .ref (ad B x0)), (1, .int x1), (2, .int x2), (3, .int y3)] 46 [] := by
  unfold fX12_wrong_J46 at hf
  refine b_aload_n C dX12_wrong_46 0 rfl rfl ?_
  refine b_iload_n C dX12_wrong_47 1 rfl rfl ?_
  obtain ⟨h8, hf⟩ := gd_s hf
  obtain ⟨d9, ed9, hf⟩ := bd_s hf
  refine b_pI C dX12_wrong_48 fl_X12_133 fp11_14 h8 ed9 ?_
  refine b_aload_n C dX12_wrong_51 0 rfl rfl ?_
  refine b_iload_n C dX12_wrong_52 3 rfl rfl ?_
  obtain ⟨d10, ed10, hf⟩ := bd_s hf
  refine b_pI C dX12_wrong_53 fl_X12_136 fp11_15 h8 ed10 ?_
  exact b_vret C hr hlocks hf dX12_wrong_56
set_option maxRecDepth 100000 in
def fX12_wrong (N : Nat) (g : Gs) (x0 : Nat) (x1 : Int32) (x2 : Int32) (d : Ds) : Option (Unit × Ds) := gd (chk g x0 11) <| ob (gR g x0 6) fun r2 => (gd (chk g r2 102) <| gd (¬ (x2 < 0 ∨ gL g r2 ≤ x2.toNatClampNeg)) <| bd ((dI d r2 x2.toNatClampNeg)) fun u5 => (if 0 < (dI d x0 12) then (fX12_wrong_J45 N g x0 x1 x2 d) else (if (dI d x0 14) = 0 then (fX12_wrong_J46 N g x0 x1 x2 u5 d) else (if (dI d x0 15) < u5 then (fX12_wrong_J45 N g x0 x1 x2 d) else (if u5 = (dI d x0 15) then (if x1 < (dI d x0 14) then (fX12_wrong_J46 N g x0 x1 x2 u5 d) else (fX12_wrong_J45 N g x0 x1 x2 d)) else (fX12_wrong_J46 N g x0 x1 x2 u5 d))))))
set_option maxHeartbeats 4000000 in
set_option maxRecDepth 100000 in
theorem tX12_wrong_E {p : Program} {l : Launch} {e : Env} {s : State} {m : MethodId} {args : Array Value} {below : List Frame} {meth : Method} {c : Code} {D : va_G} {cy : Nat → ClassId} {B : Bs} (C : Cx p s m args c cX12_wrong 4 RX12 D cy B) (hr : meth.sig.returnType = none) (hlocks : meth.locks = false) {N : Nat} {g : Gs} {x0 : Nat} {x1 : Int32} {x2 : Int32}  {dz : Ds} {d : Ds} (hf : fX12_wrong N g x0 x1 x2 d = some ((), dz)) : WB p l e rmX12_wrong s m args below meth c 4 D cy B 0 0 (MQ below (QV D cy B g dz) args s 0 0 (wA B)) g d [(0, .ref (ad B x0)), (1, .int x1), (2, .int x2)] 0 [] := by
  unfold fX12_wrong at hf
  refine b_aload_n C dX12_wrong_0 0 rfl rfl ?_
  obtain ⟨h1, hf⟩ := gd_s hf
  obtain ⟨r2, er2, hf⟩ := ob_s hf
  refine b_gR C dX12_wrong_1 fl_X12_24 h1 er2 ?_
  refine b_iload_n C dX12_wrong_4 2 rfl rfl ?_
  obtain ⟨h3, hf⟩ := gd_s hf
  obtain ⟨h4, hf⟩ := gd_s hf
  refine b_iald C h3 h4 dX12_wrong_5 ?_
  obtain ⟨u5, eu5, hf⟩ := bd_s hf
  refine b_topI eu5 ?_
  refine b_istore_n C dX12_wrong_6 rfl [(3, .int u5), (0, .ref (ad B x0)), (1, .int x1), (2, .int x2)] (by decide) rfl ?_
  refine b_aload_n C dX12_wrong_7 1 rfl rfl ?_
  refine b_gI C dX12_wrong_8 fl_X12_124 h1 ?_
  refine b_if_gt C (tgt := 45) dX12_wrong_11 (by decide) (fun c6 => ?_) (fun c6 => ?_)
  · have hf := it_s c6 hf
    refine b_sub [(0, .ref (ad B x0)), (1, .int x1), (2, .int x2)] [1, 2, 3] rfl ?_
    exact tX12_wrong_45 C hr hlocks hf
  · have hf := if_s c6 hf
    refine b_aload_n C dX12_wrong_14 1 rfl rfl ?_
    refine b_gI C dX12_wrong_15 fl_X12_133 h1 ?_
    refine b_if_eq C (tgt := 46) dX12_wrong_18 (by decide) (fun c7 => ?_) (fun c7 => ?_)
    · have hf := it_s c7 hf
      refine b_sub [(0, .ref (ad B x0)), (1, .int x1), (2, .int x2), (3, .int u5)] [1, 2, 3, 0] rfl ?_
      exact tX12_wrong_46 C hr hlocks hf
    · have hf := if_s c7 hf
      refine b_iload_n C dX12_wrong_21 0 rfl rfl ?_
      refine b_aload_n C dX12_wrong_22 1 rfl rfl ?_
      refine b_gI C dX12_wrong_23 fl_X12_136 h1 ?_
      refine b_icmp_gt C (tgt := 45) dX12_wrong_26 (by decide) (fun c11 => ?_) (fun c11 => ?_)
      · have hf := it_s c11 hf
        refine b_sub [(0, .ref (ad B x0)), (1, .int x1), (2, .int x2)] [1, 2, 3] rfl ?_
        exact tX12_wrong_45 C hr hlocks hf
      · have hf := if_s c11 hf
        refine b_iload_n C dX12_wrong_29 0 rfl rfl ?_
        refine b_aload_n C dX12_wrong_30 1 rfl rfl ?_
        refine b_gI C dX12_wrong_31 fl_X12_136 h1 ?_
        refine b_icmp_ne C (tgt := 46) dX12_wrong_34 (by decide) (fun c12 => ?_) (fun c12 => ?_)
        · have hf := if_s c12 hf
          refine b_sub [(0, .ref (ad B x0)), (1, .int x1), (2, .int x2), (3, .int u5)] [1, 2, 3, 0] rfl ?_
          exact tX12_wrong_46 C hr hlocks hf
        · have hf := it_s c12 hf
          refine b_iload_n C dX12_wrong_37 2 rfl rfl ?_
          refine b_aload_n C dX12_wrong_38 1 rfl rfl ?_
          refine b_gI C dX12_wrong_39 fl_X12_133 h1 ?_
          refine b_icmp_lt C (tgt := 46) dX12_wrong_42 (by decide) (fun c13 => ?_) (fun c13 => ?_)
          · have hf := it_s c13 hf
            refine b_sub [(0, .ref (ad B x0)), (1, .int x1), (2, .int x2), (3, .int u5)] [1, 2, 3, 0] rfl ?_
            exact tX12_wrong_46 C hr hlocks hf
          · have hf := if_s c13 hf
            refine b_sub [(0, .ref (ad B x0)), (1, .int x1), (2, .int x2)] [1, 2, 3] rfl ?_
            exact tX12_wrong_45 C hr hlocks hf
theorem kX12_wrong (l : Launch) (D : va_G) (cy : Nat → ClassId) (B : Bs) {N : Nat} {g : Gs} {x0 : Nat} {x1 : Int32} {x2 : Int32}  {dz : Ds} {d : Ds} (hf : fX12_wrong N g x0 x1 x2 d = some ((), dz)) : Met l yX12_wrong (.code yX12_wrong cX12_wrong 4 none :: wl) rmX12_wrong (PC D cy B [.ref (ad B x0), .int x1, .int x2] g d) (QV D cy B g dz) 0 0 (wA B) :=
  met_of (by decide +kernel) (Nat.le_of_ble_eq_true rfl) (fun p e s m args below meth c C hr hlocks _ => b_sub [(0, .ref (ad B x0)), (1, .int x1), (2, .int x2)] [0, 1, 2] rfl (tX12_wrong_E C hr hlocks hf))
/-! KeyMatrixModel.passes()V -/
theorem fp11_11 : FPI 11 11 := ⟨ft11, (RX12, TX12, 33), rfl, by decide +kernel, by decide +kernel⟩
theorem yo_X12_fail : yX12_fail.cls ≠ "java/lang/invoke/MethodHandle" ∧ yX12_fail.cls ≠ "java/lang/invoke/VarHandle" ∧ (parseMethodDescriptor yX12_fail.desc).map (fun d => d.parameters.length) = some 1 := by decide +kernel
theorem co_X12_fail : Cond.code yX12_fail cX12_fail 2 none ∈ wl := mW (mT6 (List.mem_of_getElem? (i := 6) (by decide +kernel))) rfl
theorem in_X12_fail : Cond.initialized yX12_fail.cls ∈ wl := mW (mT1 (List.mem_of_getElem? (i := 12) (by decide +kernel))) rfl
theorem im_X12_fail : Cond.instanceMethod yX12_fail ∈ wl := mW (mT6 (List.mem_of_getElem? (i := 5) (by decide +kernel))) rfl
theorem se_X12_fail : Cond.selects yX12_fail.cls yX12_fail yX12_fail ∈ wl := mW (mT0 (List.mem_of_getElem? (i := 40) (by decide +kernel))) rfl
theorem lv_X12_139 : LV RX12 139 yX12_fail cX12_fail 2 none 1 11 := ⟨⟨(RX12, TX12, 33), rfl, rfl⟩, yo_X12_fail, mW (mT6 (List.mem_of_getElem? (i := 3) (by decide +kernel))) rfl, im_X12_fail, se_X12_fail, in_X12_fail, co_X12_fail⟩
theorem dX12_passes_0 : decode cX12_passes 0 = .ok (.aload_n 0, 1) := by decide +kernel
theorem dX12_passes_1 : decode cX12_passes 1 = .ok (.getfield 127, 3) := by decide +kernel
theorem dX12_passes_4 : decode cX12_passes 4 = .ok (.sipush 400, 3) := by decide +kernel
theorem dX12_passes_7 : decode cX12_passes 7 = .ok (.if_icmp .ne 11, 3) := by decide +kernel
theorem dX12_passes_10 : decode cX12_passes 10 = .ok (.aload_n 0, 1) := by decide +kernel
theorem dX12_passes_11 : decode cX12_passes 11 = .ok (.iconst 2, 1) := by decide +kernel
theorem dX12_passes_12 : decode cX12_passes 12 = .ok (.invokevirtual 139, 3) := by decide +kernel
theorem dX12_passes_15 : decode cX12_passes 15 = .ok (.goto 13, 3) := by decide +kernel
theorem dX12_passes_18 : decode cX12_passes 18 = .ok (.aload_n 0, 1) := by decide +kernel
theorem dX12_passes_19 : decode cX12_passes 19 = .ok (.dup, 1) := by decide +kernel
theorem dX12_passes_20 : decode cX12_passes 20 = .ok (.getfield 127, 3) := by decide +kernel
theorem dX12_passes_23 : decode cX12_passes 23 = .ok (.iconst 1, 1) := by decide +kernel
theorem dX12_passes_24 : decode cX12_passes 24 = .ok (.iadd, 1) := by decide +kernel
theorem dX12_passes_25 : decode cX12_passes 25 = .ok (.putfield 127, 3) := by decide +kernel
theorem dX12_passes_28 : decode cX12_passes 28 = .ok (.return_, 1) := by decide +kernel
def rmX12_passes : Room := { frames := 1, cells := 0, slots := 0, locals := 21 }
set_option maxRecDepth 100000 in
def fX12_passes_J28 (N : Nat) (g : Gs) (x0 : Nat) (d : Ds) : Option (Unit × Ds) := some ((), d)
set_option maxHeartbeats 4000000 in
set_option maxRecDepth 100000 in
theorem tX12_passes_28 {p : Program} {l : Launch} {e : Env} {s : State} {m : MethodId} {args : Array Value} {below : List Frame} {meth : Method} {c : Code} {D : va_G} {cy : Nat → ClassId} {B : Bs} (C : Cx p s m args c cX12_passes 1 RX12 D cy B) (hr : meth.sig.returnType = none) (hlocks : meth.locks = false) {N : Nat} {g : Gs} {x0 : Nat}  {dz : Ds} {d : Ds} (hf : fX12_passes_J28 N g x0 d = some ((), dz)) : WB p l e rmX12_passes s m args below meth c 1 D cy B 0 0 (MQ below (QV D cy B g dz) args s 0 0 (wA B)) g d [(0, .ref (ad B x0))] 28 [] := by
  unfold fX12_passes_J28 at hf
  exact b_vret C hr hlocks hf dX12_passes_28
set_option maxRecDepth 100000 in
def fX12_passes (N : Nat) (g : Gs) (x0 : Nat) (d : Ds) : Option (Unit × Ds) := gd (chk g x0 11) <| if (dI d x0 11) = (400 : Int32) then (cv (fX12_fail N g x0 2 d) fun d4 => (fX12_passes_J28 N g x0 d4)) else (bd (sI d x0 11 ((dI d x0 11) + 1)) fun d3 => (fX12_passes_J28 N g x0 d3))
set_option maxHeartbeats 4000000 in
set_option maxRecDepth 100000 in
theorem tX12_passes_E {p : Program} {l : Launch} {e : Env} {s : State} {m : MethodId} {args : Array Value} {below : List Frame} {meth : Method} {c : Code} {D : va_G} {cy : Nat → ClassId} {B : Bs} (C : Cx p s m args c cX12_passes 1 RX12 D cy B) (hr : meth.sig.returnType = none) (hlocks : meth.locks = false) {N : Nat} {g : Gs} {x0 : Nat}  {dz : Ds} {d : Ds} (hf : fX12_passes N g x0 d = some ((), dz)) : WB p l e rmX12_passes s m args below meth c 1 D cy B 0 0 (MQ below (QV D cy B g dz) args s 0 0 (wA B)) g d [(0, .ref (ad B x0))] 0 [] := by
  unfold fX12_passes at hf
  refine b_aload_n C dX12_passes_0 0 rfl rfl ?_
  obtain ⟨h1, hf⟩ := gd_s hf
  refine b_gI C dX12_passes_1 fl_X12_127 h1 ?_
  refine b_sipush C (v := 400) dX12_passes_4 (by decide) ?_
  refine b_icmp_ne C (tgt := 18) dX12_passes_7 (by decide) (fun c2 => ?_) (fun c2 => ?_)
  · have hf := if_s c2 hf
    refine b_aload_n C dX12_passes_18 0 rfl rfl ?_
    refine b_dup C dX12_passes_19 rfl ?_
    refine b_gI C dX12_passes_20 fl_X12_127 h1 ?_
    refine b_iconst C (v := 1) dX12_passes_23 (by decide) ?_
    refine b_iadd C dX12_passes_24 ?_
    obtain ⟨d3, ed3, hf⟩ := bd_s hf
    refine b_pI C dX12_passes_25 fl_X12_127 fp11_11 h1 ed3 ?_
    refine b_sub [(0, .ref (ad B x0))] [0] rfl ?_
    exact tX12_passes_28 C hr hlocks hf
  · have hf := it_s c2 hf
    refine b_aload_n C dX12_passes_10 0 rfl rfl ?_
    refine b_iconst C (v := 2) dX12_passes_11 (by decide) ?_
    obtain ⟨d4, k5, hf⟩ := cv_s hf
    refine b_cVN C [] dX12_passes_12 (kX12_fail l D cy B k5) lv_X12_139 ⟨rfl, rfl, Nat.le_of_ble_eq_true rfl, Nat.le_of_ble_eq_true rfl⟩ h1 (by decide) rfl (Nat.le_of_ble_eq_true rfl) ⟨Nat.zero_le _, Nat.zero_le _⟩ rfl ?_
    refine b_goto C (tgt := 28) dX12_passes_15 (by decide) ?_
    refine b_sub [(0, .ref (ad B x0))] [0] rfl ?_
    exact tX12_passes_28 C hr hlocks hf
theorem kX12_passes (l : Launch) (D : va_G) (cy : Nat → ClassId) (B : Bs) {N : Nat} {g : Gs} {x0 : Nat}  {dz : Ds} {d : Ds} (hf : fX12_passes N g x0 d = some ((), dz)) : Met l yX12_passes (.code yX12_passes cX12_passes 1 none :: wl) rmX12_passes (PC D cy B [.ref (ad B x0)] g d) (QV D cy B g dz) 0 0 (wA B) :=
  met_of (by decide +kernel) (Nat.le_of_ble_eq_true rfl) (fun p e s m args below meth c C hr hlocks _ => b_sub [(0, .ref (ad B x0))] [0] rfl (tX12_passes_E C hr hlocks hf))
/-! KeyMatrixModel.must(I)V -/
theorem yo_X12_is : yX12_is.cls ≠ "java/lang/invoke/MethodHandle" ∧ yX12_is.cls ≠ "java/lang/invoke/VarHandle" ∧ (parseMethodDescriptor yX12_is.desc).map (fun d => d.parameters.length) = some 1 := by decide +kernel
theorem co_X12_is : Cond.code yX12_is cX12_is 2 (some .boolean) ∈ wl := mW (mT5 (List.mem_of_getElem? (i := 238) (by decide +kernel))) rfl
theorem in_X12_is : Cond.initialized yX12_is.cls ∈ wl := mW (mT1 (List.mem_of_getElem? (i := 12) (by decide +kernel))) rfl
theorem im_X12_is : Cond.instanceMethod yX12_is ∈ wl := mW (mT5 (List.mem_of_getElem? (i := 237) (by decide +kernel))) rfl
theorem se_X12_is : Cond.selects yX12_is.cls yX12_is yX12_is ∈ wl := mW (mT0 (List.mem_of_getElem? (i := 38) (by decide +kernel))) rfl
theorem lv_X12_142 : LV RX12 142 yX12_is cX12_is 2 (some .boolean) 1 11 := ⟨⟨(RX12, TX12, 33), rfl, rfl⟩, yo_X12_is, mW (mT5 (List.mem_of_getElem? (i := 235) (by decide +kernel))) rfl, im_X12_is, se_X12_is, in_X12_is, co_X12_is⟩
theorem yo_X12_passes : yX12_passes.cls ≠ "java/lang/invoke/MethodHandle" ∧ yX12_passes.cls ≠ "java/lang/invoke/VarHandle" ∧ (parseMethodDescriptor yX12_passes.desc).map (fun d => d.parameters.length) = some 0 := by decide +kernel
theorem co_X12_passes : Cond.code yX12_passes cX12_passes 1 none ∈ wl := mW (mT6 (List.mem_of_getElem? (i := 2) (by decide +kernel))) rfl
theorem in_X12_passes : Cond.initialized yX12_passes.cls ∈ wl := mW (mT1 (List.mem_of_getElem? (i := 12) (by decide +kernel))) rfl
theorem im_X12_passes : Cond.instanceMethod yX12_passes ∈ wl := mW (mT6 (List.mem_of_getElem? (i := 1) (by decide +kernel))) rfl
theorem se_X12_passes : Cond.selects yX12_passes.cls yX12_passes yX12_passes ∈ wl := mW (mT0 (List.mem_of_getElem? (i := 39) (by decide +kernel))) rfl
theorem lv_X12_145 : LV RX12 145 yX12_passes cX12_passes 1 none 0 11 := ⟨⟨(RX12, TX12, 33), rfl, rfl⟩, yo_X12_passes, mW (mT5 (List.mem_of_getElem? (i := 239) (by decide +kernel))) rfl, im_X12_passes, se_X12_passes, in_X12_passes, co_X12_passes⟩
theorem dX12_must_0 : decode cX12_must 0 = .ok (.aload_n 0, 1) := by decide +kernel
theorem dX12_must_1 : decode cX12_must 1 = .ok (.iload_n 1, 1) := by decide +kernel
theorem dX12_must_2 : decode cX12_must 2 = .ok (.invokevirtual 142, 3) := by decide +kernel
theorem dX12_must_5 : decode cX12_must 5 = .ok (.ifCond .eq 10, 3) := by decide +kernel
theorem dX12_must_8 : decode cX12_must 8 = .ok (.aload_n 0, 1) := by decide +kernel
theorem dX12_must_9 : decode cX12_must 9 = .ok (.invokevirtual 145, 3) := by decide +kernel
theorem dX12_must_12 : decode cX12_must 12 = .ok (.goto 8, 3) := by decide +kernel
theorem dX12_must_15 : decode cX12_must 15 = .ok (.aload_n 0, 1) := by decide +kernel
theorem dX12_must_16 : decode cX12_must 16 = .ok (.iconst 1, 1) := by decide +kernel
theorem dX12_must_17 : decode cX12_must 17 = .ok (.invokevirtual 139, 3) := by decide +kernel
theorem dX12_must_20 : decode cX12_must 20 = .ok (.return_, 1) := by decide +kernel
def rmX12_must : Room := { frames := 2, cells := 0, slots := 0, locals := 41 }
set_option maxRecDepth 100000 in
def fX12_must_J20 (N : Nat) (g : Gs) (x0 : Nat) (x1 : Int32) (d : Ds) : Option (Unit × Ds) := some ((), d)
set_option maxHeartbeats 4000000 in
set_option maxRecDepth 100000 in
theorem tX12_must_20 {p : Program} {l : Launch} {e : Env} {s : State} {m : MethodId} {args : Array Value} {below : List Frame} {meth : Method} {c : Code} {D : va_G} {cy : Nat → ClassId} {B : Bs} (C : Cx p s m args c cX12_must 2 RX12 D cy B) (hr : meth.sig.returnType = none) (hlocks : meth.locks = false) {N : Nat} {g : Gs} {x0 : Nat} {x1 : Int32}  {dz : Ds} {d : Ds} (hf : fX12_must_J20 N g x0 x1 d = some ((), dz)) : WB p l e rmX12_must s m args below meth c 2 D cy B 0 0 (MQ below (QV D cy B g dz) args s 0 0 (wA B)) g d [(0, .ref (ad B x0)), (1, .int x1)] 20 [] := by
  unfold fX12_must_J20 at hf
  exact b_vret C hr hlocks hf dX12_must_20
set_option maxRecDepth 100000 in
def fX12_must (N : Nat) (g : Gs) (x0 : Nat) (x1 : Int32) (d : Ds) : Option (Unit × Ds) := gd (chk g x0 11) <| cb (fX12_is N g x0 x1 d) fun u4 d2 => (if u4 = 0 then (cv (fX12_fail N g x0 1 d2) fun d6 => (fX12_must_J20 N g x0 x1 d6)) else (cv (fX12_passes N g x0 d2) fun d8 => (fX12_must_J20 N g x0 x1 d8)))
set_option maxHeartbeats 4000000 in
set_option maxRecDepth 100000 in
theorem tX12_must_E {p : Program} {l : Launch} {e : Env} {s : State} {m : MethodId} {args : Array Value} {below : List Frame} {meth : Method} {c : Code} {D : va_G} {cy : Nat → ClassId} {B : Bs} (C : Cx p s m args c cX12_must 2 RX12 D cy B) (hr : meth.sig.returnType = none) (hlocks : meth.locks = false) {N : Nat} {g : Gs} {x0 : Nat} {x1 : Int32}  {dz : Ds} {d : Ds} (hf : fX12_must N g x0 x1 d = some ((), dz)) : WB p l e rmX12_must s m args below meth c 2 D cy B 0 0 (MQ below (QV D cy B g dz) args s 0 0 (wA B)) g d [(0, .ref (ad B x0)), (1, .int x1)] 0 [] := by
  unfold fX12_must at hf
  refine b_aload_n C dX12_must_0 0 rfl rfl ?_
  refine b_iload_n C dX12_must_1 1 rfl rfl ?_
  obtain ⟨h1, hf⟩ := gd_s hf
  obtain ⟨u4, d2, k3, hf⟩ := cb_s hf
  refine b_cVI C [] dX12_must_2 (kX12_is l D cy B k3) lv_X12_142 ⟨rfl, rfl, Nat.le_of_ble_eq_true rfl, Nat.le_of_ble_eq_true rfl⟩ h1 (by decide) rfl (Nat.le_of_ble_eq_true rfl) ⟨Nat.zero_le _, Nat.zero_le _⟩ rfl ?_
  refine b_if_eq C (tgt := 15) dX12_must_5 (by decide) (fun c5 => ?_) (fun c5 => ?_)
  · have hf := it_s c5 hf
    refine b_aload_n C dX12_must_15 0 rfl rfl ?_
    refine b_iconst C (v := 1) dX12_must_16 (by decide) ?_
    obtain ⟨d6, k7, hf⟩ := cv_s hf
    refine b_cVN C [] dX12_must_17 (kX12_fail l D cy B k7) lv_X12_139 ⟨rfl, rfl, Nat.le_of_ble_eq_true rfl, Nat.le_of_ble_eq_true rfl⟩ h1 (by decide) rfl (Nat.le_of_ble_eq_true rfl) ⟨Nat.zero_le _, Nat.zero_le _⟩ rfl ?_
    refine b_sub [(0, .ref (ad B x0)), (1, .int x1)] [0, 1] rfl ?_
    exact tX12_must_20 C hr hlocks hf
  · have hf := if_s c5 hf
    refine b_aload_n C dX12_must_8 0 rfl rfl ?_
    obtain ⟨d8, k9, hf⟩ := cv_s hf
    refine b_cVN C [] dX12_must_9 (kX12_passes l D cy B k9) lv_X12_145 ⟨rfl, rfl, Nat.le_of_ble_eq_true rfl, Nat.le_of_ble_eq_true rfl⟩ h1 (by decide) rfl (Nat.le_of_ble_eq_true rfl) ⟨Nat.zero_le _, Nat.zero_le _⟩ rfl ?_
    refine b_goto C (tgt := 20) dX12_must_12 (by decide) ?_
    refine b_sub [(0, .ref (ad B x0)), (1, .int x1)] [0, 1] rfl ?_
    exact tX12_must_20 C hr hlocks hf
theorem kX12_must (l : Launch) (D : va_G) (cy : Nat → ClassId) (B : Bs) {N : Nat} {g : Gs} {x0 : Nat} {x1 : Int32}  {dz : Ds} {d : Ds} (hf : fX12_must N g x0 x1 d = some ((), dz)) : Met l yX12_must (.code yX12_must cX12_must 2 none :: wl) rmX12_must (PC D cy B [.ref (ad B x0), .int x1] g d) (QV D cy B g dz) 0 0 (wA B) :=
  met_of (by decide +kernel) (Nat.le_of_ble_eq_true rfl) (fun p e s m args below meth c C hr hlocks _ => b_sub [(0, .ref (ad B x0)), (1, .int x1)] [0, 1] rfl (tX12_must_E C hr hlocks hf))
/-! KeyMatrixModel.deedRead()V -/
theorem yo_X12_must : yX12_must.cls ≠ "java/lang/invoke/MethodHandle" ∧ yX12_must.cls ≠ "java/lang/invoke/VarHandle" ∧ (parseMethodDescriptor yX12_must.desc).map (fun d => d.parameters.length) = some 1 := by decide +kernel
theorem co_X12_must : Cond.code yX12_must cX12_must 2 none ∈ wl := mW (mT5 (List.mem_of_getElem? (i := 234) (by decide +kernel))) rfl
theorem in_X12_must : Cond.initialized yX12_must.cls ∈ wl := mW (mT1 (List.mem_of_getElem? (i := 12) (by decide +kernel))) rfl
theorem im_X12_must : Cond.instanceMethod yX12_must ∈ wl := mW (mT5 (List.mem_of_getElem? (i := 233) (by decide +kernel))) rfl
theorem se_X12_must : Cond.selects yX12_must.cls yX12_must yX12_must ∈ wl := mW (mT0 (List.mem_of_getElem? (i := 37) (by decide +kernel))) rfl
theorem lv_X12_157 : LV RX12 157 yX12_must cX12_must 2 none 1 11 := ⟨⟨(RX12, TX12, 33), rfl, rfl⟩, yo_X12_must, mW (mT5 (List.mem_of_getElem? (i := 231) (by decide +kernel))) rfl, im_X12_must, se_X12_must, in_X12_must, co_X12_must⟩
theorem dX12_deedRead_0 : decode cX12_deedRead 0 = .ok (.aload_n 0, 1) := by decide +kernel
theorem dX12_deedRead_1 : decode cX12_deedRead 1 = .ok (.getfield 124, 3) := by decide +kernel
theorem dX12_deedRead_4 : decode cX12_deedRead 4 = .ok (.ifCond .ne 15, 3) := by decide +kernel
theorem dX12_deedRead_7 : decode cX12_deedRead 7 = .ok (.aload_n 0, 1) := by decide +kernel
theorem dX12_deedRead_8 : decode cX12_deedRead 8 = .ok (.getfield 20, 3) := by decide +kernel
theorem dX12_deedRead_11 : decode cX12_deedRead 11 = .ok (.aload_n 0, 1) := by decide +kernel
theorem dX12_deedRead_12 : decode cX12_deedRead 12 = .ok (.getfield 127, 3) := by decide +kernel
theorem dX12_deedRead_15 : decode cX12_deedRead 15 = .ok (.iaload, 1) := by decide +kernel
theorem dX12_deedRead_16 : decode cX12_deedRead 16 = .ok (.goto 4, 3) := by decide +kernel
theorem dX12_deedRead_19 : decode cX12_deedRead 19 = .ok (.iconst 0, 1) := by decide +kernel
theorem dX12_deedRead_20 : decode cX12_deedRead 20 = .ok (.istore_n 1, 1) := by decide +kernel
theorem dX12_deedRead_21 : decode cX12_deedRead 21 = .ok (.iload_n 1, 1) := by decide +kernel
theorem dX12_deedRead_22 : decode cX12_deedRead 22 = .ok (.bipush 31, 2) := by decide +kernel
theorem dX12_deedRead_24 : decode cX12_deedRead 24 = .ok (.if_icmp .lt 9, 3) := by decide +kernel
theorem dX12_deedRead_27 : decode cX12_deedRead 27 = .ok (.iload_n 1, 1) := by decide +kernel
theorem dX12_deedRead_28 : decode cX12_deedRead 28 = .ok (.bipush 39, 2) := by decide +kernel
theorem dX12_deedRead_30 : decode cX12_deedRead 30 = .ok (.if_icmp .le 9, 3) := by decide +kernel
theorem dX12_deedRead_33 : decode cX12_deedRead 33 = .ok (.aload_n 0, 1) := by decide +kernel
theorem dX12_deedRead_34 : decode cX12_deedRead 34 = .ok (.iconst 1, 1) := by decide +kernel
theorem dX12_deedRead_35 : decode cX12_deedRead 35 = .ok (.invokevirtual 139, 3) := by decide +kernel
theorem dX12_deedRead_38 : decode cX12_deedRead 38 = .ok (.return_, 1) := by decide +kernel
theorem dX12_deedRead_39 : decode cX12_deedRead 39 = .ok (.aload_n 0, 1) := by decide +kernel
theorem dX12_deedRead_40 : decode cX12_deedRead 40 = .ok (.invokevirtual 145, 3) := by decide +kernel
theorem dX12_deedRead_43 : decode cX12_deedRead 43 = .ok (.iload_n 1, 1) := by decide +kernel
theorem dX12_deedRead_44 : decode cX12_deedRead 44 = .ok (.bipush 35, 2) := by decide +kernel
theorem dX12_deedRead_46 : decode cX12_deedRead 46 = .ok (.if_icmp .eq 9, 3) := by decide +kernel
theorem dX12_deedRead_49 : decode cX12_deedRead 49 = .ok (.iload_n 1, 1) := by decide +kernel
theorem dX12_deedRead_50 : decode cX12_deedRead 50 = .ok (.bipush 36, 2) := by decide +kernel
theorem dX12_deedRead_52 : decode cX12_deedRead 52 = .ok (.if_icmp .ne 4, 3) := by decide +kernel
theorem dX12_deedRead_55 : decode cX12_deedRead 55 = .ok (.return_, 1) := by decide +kernel
theorem dX12_deedRead_56 : decode cX12_deedRead 56 = .ok (.aload_n 0, 1) := by decide +kernel
theorem dX12_deedRead_57 : decode cX12_deedRead 57 = .ok (.iconst 2, 1) := by decide +kernel
theorem dX12_deedRead_58 : decode cX12_deedRead 58 = .ok (.invokevirtual 157, 3) := by decide +kernel
theorem dX12_deedRead_61 : decode cX12_deedRead 61 = .ok (.iload_n 1, 1) := by decide +kernel
theorem dX12_deedRead_62 : decode cX12_deedRead 62 = .ok (.bipush 38, 2) := by decide +kernel
theorem dX12_deedRead_64 : decode cX12_deedRead 64 = .ok (.if_icmp .ne 8, 3) := by decide +kernel
theorem dX12_deedRead_67 : decode cX12_deedRead 67 = .ok (.aload_n 0, 1) := by decide +kernel
theorem dX12_deedRead_68 : decode cX12_deedRead 68 = .ok (.iconst 2, 1) := by decide +kernel
theorem dX12_deedRead_69 : decode cX12_deedRead 69 = .ok (.invokevirtual 157, 3) := by decide +kernel
theorem dX12_deedRead_72 : decode cX12_deedRead 72 = .ok (.iload_n 1, 1) := by decide +kernel
theorem dX12_deedRead_73 : decode cX12_deedRead 73 = .ok (.bipush 37, 2) := by decide +kernel
theorem dX12_deedRead_75 : decode cX12_deedRead 75 = .ok (.if_icmp .eq 4, 3) := by decide +kernel
theorem dX12_deedRead_78 : decode cX12_deedRead 78 = .ok (.return_, 1) := by decide +kernel
theorem dX12_deedRead_79 : decode cX12_deedRead 79 = .ok (.aload_n 0, 1) := by decide +kernel
theorem dX12_deedRead_80 : decode cX12_deedRead 80 = .ok (.bipush 33, 2) := by decide +kernel
theorem dX12_deedRead_82 : decode cX12_deedRead 82 = .ok (.invokevirtual 142, 3) := by decide +kernel
theorem dX12_deedRead_85 : decode cX12_deedRead 85 = .ok (.ifCond .ne 12, 3) := by decide +kernel
theorem dX12_deedRead_88 : decode cX12_deedRead 88 = .ok (.aload_n 0, 1) := by decide +kernel
theorem dX12_deedRead_89 : decode cX12_deedRead 89 = .ok (.bipush 32, 2) := by decide +kernel
theorem dX12_deedRead_91 : decode cX12_deedRead 91 = .ok (.invokevirtual 142, 3) := by decide +kernel
theorem dX12_deedRead_94 : decode cX12_deedRead 94 = .ok (.ifCond .eq 10, 3) := by decide +kernel
theorem dX12_deedRead_97 : decode cX12_deedRead 97 = .ok (.aload_n 0, 1) := by decide +kernel
theorem dX12_deedRead_98 : decode cX12_deedRead 98 = .ok (.invokevirtual 145, 3) := by decide +kernel
theorem dX12_deedRead_101 : decode cX12_deedRead 101 = .ok (.goto 8, 3) := by decide +kernel
theorem dX12_deedRead_104 : decode cX12_deedRead 104 = .ok (.aload_n 0, 1) := by decide +kernel
theorem dX12_deedRead_105 : decode cX12_deedRead 105 = .ok (.iconst 1, 1) := by decide +kernel
theorem dX12_deedRead_106 : decode cX12_deedRead 106 = .ok (.invokevirtual 139, 3) := by decide +kernel
theorem dX12_deedRead_109 : decode cX12_deedRead 109 = .ok (.aload_n 0, 1) := by decide +kernel
theorem dX12_deedRead_110 : decode cX12_deedRead 110 = .ok (.iconst 2, 1) := by decide +kernel
theorem dX12_deedRead_111 : decode cX12_deedRead 111 = .ok (.invokevirtual 157, 3) := by decide +kernel
theorem dX12_deedRead_114 : decode cX12_deedRead 114 = .ok (.return_, 1) := by decide +kernel
def rmX12_deedRead : Room := { frames := 3, cells := 0, slots := 0, locals := 62 }
set_option maxRecDepth 100000 in
def fX12_deedRead_J33 (N : Nat) (g : Gs) (x0 : Nat) (d : Ds) : Option (Unit × Ds) := gd (chk g x0 11) <| cv (fX12_fail N g x0 1 d) fun d5 => (some ((), d5))
set_option maxHeartbeats 4000000 in
set_option maxRecDepth 100000 in
theorem tX12_deedRead_33 {p : Program} {l : Launch} {e : Env} {s : State} {m : MethodId} {args : Array Value} {below : List Frame} {meth : Method} {c : Code} {D : va_G} {cy : Nat → ClassId} {B : Bs} (C : Cx p s m args c cX12_deedRead 2 RX12 D cy B) (hr : meth.sig.returnType = none) (hlocks : meth.locks = false) {N : Nat} {g : Gs} {x0 : Nat}  {dz : Ds} {d : Ds} (hf : fX12_deedRead_J33 N g x0 d = some ((), dz)) : WB p l e rmX12_deedRead s m args below meth c 2 D cy B 0 0 (MQ below (QV D cy B g dz) args s 0 0 (wA B)) g d [(0, .ref (ad B x0))] 33 [] := by
  unfold fX12_deedRead_J33 at hf
  refine b_aload_n C dX12_deedRead_33 0 rfl rfl ?_
  refine b_iconst C (v := 1) dX12_deedRead_34 (by decide) ?_
  obtain ⟨h4, hf⟩ := gd_s hf
  obtain ⟨d5, k6, hf⟩ := cv_s hf
  refine b_cVN C [] dX12_deedRead_35 (kX12_fail l D cy B k6) lv_X12_139 ⟨rfl, rfl, Nat.le_of_ble_eq_true rfl, Nat.le_of_ble_eq_true rfl⟩ h4 (by decide) rfl (Nat.le_of_ble_eq_true rfl) ⟨Nat.zero_le _, Nat.zero_le _⟩ rfl ?_
  exact b_vret C hr hlocks hf dX12_deedRead_38
set_option maxRecDepth 100000 in
def fX12_deedRead_J55 (N : Nat) (g : Gs) (x0 : Nat) (d : Ds) : Option (Unit × Ds) := some ((), d)
set_option maxHeartbeats 4000000 in
set_option maxRecDepth 100000 in
theorem tX12_deedRead_55 {p : Program} {l : Launch} {e : Env} {s : State} {m : MethodId} {args : Array Value} {below : List Frame} {meth : Method} {c : Code} {D : va_G} {cy : Nat → ClassId} {B : Bs} (C : Cx p s m args c cX12_deedRead 2 RX12 D cy B) (hr : meth.sig.returnType = none) (hlocks : meth.locks = false) {N : Nat} {g : Gs} {x0 : Nat}  {dz : Ds} {d : Ds} (hf : fX12_deedRead_J55 N g x0 d = some ((), dz)) : WB p l e rmX12_deedRead s m args below meth c 2 D cy B 0 0 (MQ below (QV D cy B g dz) args s 0 0 (wA B)) g d [(0, .ref (ad B x0))] 55 [] := by
  unfold fX12_deedRead_J55 at hf
  exact b_vret C hr hlocks hf dX12_deedRead_55
set_option maxRecDepth 100000 in
def fX12_deedRead_J109 (N : Nat) (g : Gs) (x0 : Nat) (d : Ds) : Option (Unit × Ds) := gd (chk g x0 11) <| cv (fX12_must N g x0 2 d) fun d26 => (some ((), d26))
set_option maxHeartbeats 4000000 in
set_option maxRecDepth 100000 in
theorem tX12_deedRead_109 {p : Program} {l : Launch} {e : Env} {s : State} {m : MethodId} {args : Array Value} {below : List Frame} {meth : Method} {c : Code} {D : va_G} {cy : Nat → ClassId} {B : Bs} (C : Cx p s m args c cX12_deedRead 2 RX12 D cy B) (hr : meth.sig.returnType = none) (hlocks : meth.locks = false) {N : Nat} {g : Gs} {x0 : Nat}  {dz : Ds} {d : Ds} (hf : fX12_deedRead_J109 N g x0 d = some ((), dz)) : WB p l e rmX12_deedRead s m args below meth c 2 D cy B 0 0 (MQ below (QV D cy B g dz) args s 0 0 (wA B)) g d [(0, .ref (ad B x0))] 109 [] := by
  unfold fX12_deedRead_J109 at hf
  refine b_aload_n C dX12_deedRead_109 0 rfl rfl ?_
  refine b_iconst C (v := 2) dX12_deedRead_110 (by decide) ?_
  obtain ⟨h25, hf⟩ := gd_s hf
  obtain ⟨d26, k27, hf⟩ := cv_s hf
  refine b_cVN C [] dX12_deedRead_111 (kX12_must l D cy B k27) lv_X12_157 ⟨rfl, rfl, Nat.le_of_ble_eq_true rfl, Nat.le_of_ble_eq_true rfl⟩ h25 (by decide) rfl (Nat.le_of_ble_eq_true rfl) ⟨Nat.zero_le _, Nat.zero_le _⟩ rfl ?_
  exact b_vret C hr hlocks hf dX12_deedRead_114
set_option maxRecDepth 100000 in
def fX12_deedRead_J97 (N : Nat) (g : Gs) (x0 : Nat) (d : Ds) : Option (Unit × Ds) := gd (chk g x0 11) <| cv (fX12_passes N g x0 d) fun d23 => (fX12_deedRead_J109 N g x0 d23)
set_option maxHeartbeats 4000000 in
set_option maxRecDepth 100000 in
theorem tX12_deedRead_97 {p : Program} {l : Launch} {e : Env} {s : State} {m : MethodId} {args : Array Value} {below : List Frame} {meth : Method} {c : Code} {D : va_G} {cy : Nat → ClassId} {B : Bs} (C : Cx p s m args c cX12_deedRead 2 RX12 D cy B) (hr : meth.sig.returnType = none) (hlocks : meth.locks = false) {N : Nat} {g : Gs} {x0 : Nat}  {dz : Ds} {d : Ds} (hf : fX12_deedRead_J97 N g x0 d = some ((), dz)) : WB p l e rmX12_deedRead s m args below meth c 2 D cy B 0 0 (MQ below (QV D cy B g dz) args s 0 0 (wA B)) g d [(0, .ref (ad B x0))] 97 [] := by
  unfold fX12_deedRead_J97 at hf
  refine b_aload_n C dX12_deedRead_97 0 rfl rfl ?_
  obtain ⟨h22, hf⟩ := gd_s hf
  obtain ⟨d23, k24, hf⟩ := cv_s hf
  refine b_cVN C [] dX12_deedRead_98 (kX12_passes l D cy B k24) lv_X12_145 ⟨rfl, rfl, Nat.le_of_ble_eq_true rfl, Nat.le_of_ble_eq_true rfl⟩ h22 (by decide) rfl (Nat.le_of_ble_eq_true rfl) ⟨Nat.zero_le _, Nat.zero_le _⟩ rfl ?_
  refine b_goto C (tgt := 109) dX12_deedRead_101 (by decide) ?_
  refine b_sub [(0, .ref (ad B x0))] [0] rfl ?_
  exact tX12_deedRead_109 C hr hlocks hf
set_option maxRecDepth 100000 in
def fX12_deedRead_J72 (N : Nat) (g : Gs) (x0 : Nat) (y1 : Int32) (d : Ds) : Option (Unit × Ds) := if y1 = (37 : Int32) then (gd (chk g x0 11) <| cb (fX12_is N g x0 33 d) fun u20 d18 => (if u20 = 0 then (cb (fX12_is N g x0 32 d18) fun u30 d28 => (if u30 = 0 then (cv (fX12_fail N g x0 1 d28) fun d32 => (fX12_deedRead_J109 N g x0 d32)) else (fX12_deedRead_J97 N g x0 d28))) else (fX12_deedRead_J97 N g x0 d18))) else (some ((), d))
set_option maxHeartbeats 4000000 in
set_option maxRecDepth 100000 in
theorem tX12_deedRead_72 {p : Program} {l : Launch} {e : Env} {s : State} {m : MethodId} {args : Array Value} {below : List Frame} {meth : Method} {c : Code} {D : va_G} {cy : Nat → ClassId} {B : Bs} (C : Cx p s m args c cX12_deedRead 2 RX12 D cy B) (hr : meth.sig.returnType = none) (hlocks : meth.locks = false) {N : Nat} {g : Gs} {x0 : Nat}  {dz : Ds} {y1 : Int32} {d : Ds} (hf : fX12_deedRead_J72 N g x0 y1 d = some ((), dz)) : WB p l e rmX12_deedRead s m args below meth c 2 D cy B 0 0 (MQ below (QV D cy B g dz) args s 0 0 (wA B)) g d [(0, .ref (ad B x0)), (1, .int y1)] 72 [] := by
  unfold fX12_deedRead_J72 at hf
  refine b_iload_n C dX12_deedRead_72 1 rfl rfl ?_
  refine b_bipush C (v := 37) dX12_deedRead_73 (by decide) ?_
  refine b_icmp_eq C (tgt := 79) dX12_deedRead_75 (by decide) (fun c16 => ?_) (fun c16 => ?_)
  · have hf := it_s c16 hf
    refine b_aload_n C dX12_deedRead_79 0 rfl rfl ?_
    refine b_bipush C (v := 33) dX12_deedRead_80 (by decide) ?_
    obtain ⟨h17, hf⟩ := gd_s hf
    obtain ⟨u20, d18, k19, hf⟩ := cb_s hf
    refine b_cVI C [] dX12_deedRead_82 (kX12_is l D cy B k19) lv_X12_142 ⟨rfl, rfl, Nat.le_of_ble_eq_true rfl, Nat.le_of_ble_eq_true rfl⟩ h17 (by decide) rfl (Nat.le_of_ble_eq_true rfl) ⟨Nat.zero_le _, Nat.zero_le _⟩ rfl ?_
    refine b_if_ne C (tgt := 97) dX12_deedRead_85 (by decide) (fun c21 => ?_) (fun c21 => ?_)
    · have hf := if_s c21 hf
      refine b_sub [(0, .ref (ad B x0))] [0] rfl ?_
      exact tX12_deedRead_97 C hr hlocks hf
    · have hf := it_s c21 hf
      refine b_aload_n C dX12_deedRead_88 0 rfl rfl ?_
      refine b_bipush C (v := 32) dX12_deedRead_89 (by decide) ?_
      obtain ⟨u30, d28, k29, hf⟩ := cb_s hf
      refine b_cVI C [] dX12_deedRead_91 (kX12_is l D cy B k29) lv_X12_142 ⟨rfl, rfl, Nat.le_of_ble_eq_true rfl, Nat.le_of_ble_eq_true rfl⟩ h17 (by decide) rfl (Nat.le_of_ble_eq_true rfl) ⟨Nat.zero_le _, Nat.zero_le _⟩ rfl ?_
      refine b_if_eq C (tgt := 104) dX12_deedRead_94 (by decide) (fun c31 => ?_) (fun c31 => ?_)
      · have hf := it_s c31 hf
        refine b_aload_n C dX12_deedRead_104 0 rfl rfl ?_
        refine b_iconst C (v := 1) dX12_deedRead_105 (by decide) ?_
        obtain ⟨d32, k33, hf⟩ := cv_s hf
        refine b_cVN C [] dX12_deedRead_106 (kX12_fail l D cy B k33) lv_X12_139 ⟨rfl, rfl, Nat.le_of_ble_eq_true rfl, Nat.le_of_ble_eq_true rfl⟩ h17 (by decide) rfl (Nat.le_of_ble_eq_true rfl) ⟨Nat.zero_le _, Nat.zero_le _⟩ rfl ?_
        refine b_sub [(0, .ref (ad B x0))] [0] rfl ?_
        exact tX12_deedRead_109 C hr hlocks hf
      · have hf := if_s c31 hf
        refine b_sub [(0, .ref (ad B x0))] [0] rfl ?_
        exact tX12_deedRead_97 C hr hlocks hf
  · have hf := if_s c16 hf
    exact b_vret C hr hlocks hf dX12_deedRead_78
set_option maxRecDepth 100000 in
def fX12_deedRead_J20 (N : Nat) (g : Gs) (x0 : Nat) (z0 : Int32) (d : Ds) : Option (Unit × Ds) := if z0 < (31 : Int32) then (fX12_deedRead_J33 N g x0 d) else (if z0 ≤ (39 : Int32) then (gd (chk g x0 11) <| cv (fX12_passes N g x0 d) fun d9 => (if z0 = (35 : Int32) then (fX12_deedRead_J55 N g x0 d9) else (if z0 = (36 : Int32) then (fX12_deedRead_J55 N g x0 d9) else (cv (fX12_must N g x0 2 d9) fun d13 => (if z0 = (38 : Int32) then (cv (fX12_must N g x0 2 d13) fun d34 => (fX12_deedRead_J72 N g x0 z0 d34)) else (fX12_deedRead_J72 N g x0 z0 d13)))))) else (fX12_deedRead_J33 N g x0 d))
set_option maxHeartbeats 4000000 in
set_option maxRecDepth 100000 in
theorem tX12_deedRead_20 {p : Program} {l : Launch} {e : Env} {s : State} {m : MethodId} {args : Array Value} {below : List Frame} {meth : Method} {c : Code} {D : va_G} {cy : Nat → ClassId} {B : Bs} (C : Cx p s m args c cX12_deedRead 2 RX12 D cy B) (hr : meth.sig.returnType = none) (hlocks : meth.locks = false) {N : Nat} {g : Gs} {x0 : Nat}  {dz : Ds} {z0 : Int32} {d : Ds} (hf : fX12_deedRead_J20 N g x0 z0 d = some ((), dz)) : WB p l e rmX12_deedRead s m args below meth c 2 D cy B 0 0 (MQ below (QV D cy B g dz) args s 0 0 (wA B)) g d [(0, .ref (ad B x0))] 20 [.int z0] := by
  unfold fX12_deedRead_J20 at hf
  refine b_istore_n C dX12_deedRead_20 rfl [(1, .int z0), (0, .ref (ad B x0))] (by decide) rfl ?_
  refine b_iload_n C dX12_deedRead_21 0 rfl rfl ?_
  refine b_bipush C (v := 31) dX12_deedRead_22 (by decide) ?_
  refine b_icmp_lt C (tgt := 33) dX12_deedRead_24 (by decide) (fun c3 => ?_) (fun c3 => ?_)
  · have hf := it_s c3 hf
    refine b_sub [(0, .ref (ad B x0))] [1] rfl ?_
    exact tX12_deedRead_33 C hr hlocks hf
  · have hf := if_s c3 hf
    refine b_iload_n C dX12_deedRead_27 0 rfl rfl ?_
    refine b_bipush C (v := 39) dX12_deedRead_28 (by decide) ?_
    refine b_icmp_le C (tgt := 39) dX12_deedRead_30 (by decide) (fun c7 => ?_) (fun c7 => ?_)
    · have hf := it_s c7 hf
      refine b_aload_n C dX12_deedRead_39 1 rfl rfl ?_
      obtain ⟨h8, hf⟩ := gd_s hf
      obtain ⟨d9, k10, hf⟩ := cv_s hf
      refine b_cVN C [] dX12_deedRead_40 (kX12_passes l D cy B k10) lv_X12_145 ⟨rfl, rfl, Nat.le_of_ble_eq_true rfl, Nat.le_of_ble_eq_true rfl⟩ h8 (by decide) rfl (Nat.le_of_ble_eq_true rfl) ⟨Nat.zero_le _, Nat.zero_le _⟩ rfl ?_
      refine b_iload_n C dX12_deedRead_43 0 rfl rfl ?_
      refine b_bipush C (v := 35) dX12_deedRead_44 (by decide) ?_
      refine b_icmp_eq C (tgt := 55) dX12_deedRead_46 (by decide) (fun c11 => ?_) (fun c11 => ?_)
      · have hf := it_s c11 hf
        refine b_sub [(0, .ref (ad B x0))] [1] rfl ?_
        exact tX12_deedRead_55 C hr hlocks hf
      · have hf := if_s c11 hf
        refine b_iload_n C dX12_deedRead_49 0 rfl rfl ?_
        refine b_bipush C (v := 36) dX12_deedRead_50 (by decide) ?_
        refine b_icmp_ne C (tgt := 56) dX12_deedRead_52 (by decide) (fun c12 => ?_) (fun c12 => ?_)
        · have hf := if_s c12 hf
          refine b_aload_n C dX12_deedRead_56 1 rfl rfl ?_
          refine b_iconst C (v := 2) dX12_deedRead_57 (by decide) ?_
          obtain ⟨d13, k14, hf⟩ := cv_s hf
          refine b_cVN C [] dX12_deedRead_58 (kX12_must l D cy B k14) lv_X12_157 ⟨rfl, rfl, Nat.le_of_ble_eq_true rfl, Nat.le_of_ble_eq_true rfl⟩ h8 (by decide) rfl (Nat.le_of_ble_eq_true rfl) ⟨Nat.zero_le _, Nat.zero_le _⟩ rfl ?_
          refine b_iload_n C dX12_deedRead_61 0 rfl rfl ?_
          refine b_bipush C (v := 38) dX12_deedRead_62 (by decide) ?_
          refine b_icmp_ne C (tgt := 72) dX12_deedRead_64 (by decide) (fun c15 => ?_) (fun c15 => ?_)
          · have hf := if_s c15 hf
            refine b_sub [(0, .ref (ad B x0)), (1, .int z0)] [1, 0] rfl ?_
            exact tX12_deedRead_72 C hr hlocks hf
          · have hf := it_s c15 hf
            refine b_aload_n C dX12_deedRead_67 1 rfl rfl ?_
            refine b_iconst C (v := 2) dX12_deedRead_68 (by decide) ?_
            obtain ⟨d34, k35, hf⟩ := cv_s hf
            refine b_cVN C [] dX12_deedRead_69 (kX12_must l D cy B k35) lv_X12_157 ⟨rfl, rfl, Nat.le_of_ble_eq_true rfl, Nat.le_of_ble_eq_true rfl⟩ h8 (by decide) rfl (Nat.le_of_ble_eq_true rfl) ⟨Nat.zero_le _, Nat.zero_le _⟩ rfl ?_
            refine b_sub [(0, .ref (ad B x0)), (1, .int z0)] [1, 0] rfl ?_
            exact tX12_deedRead_72 C hr hlocks hf
        · have hf := it_s c12 hf
          refine b_sub [(0, .ref (ad B x0))] [1] rfl ?_
          exact tX12_deedRead_55 C hr hlocks hf
    · have hf := if_s c7 hf
      refine b_sub [(0, .ref (ad B x0))] [1] rfl ?_
      exact tX12_deedRead_33 C hr hlocks hf
set_option maxRecDepth 100000 in
def fX12_deedRead (N : Nat) (g : Gs) (x0 : Nat) (d : Ds) : Option (Unit × Ds) := gd (chk g x0 11) <| if (dI d x0 12) = 0 then (ob (gR g x0 5) fun r36 => (gd (chk g r36 102) <| gd (¬ ((dI d x0 11) < 0 ∨ gL g r36 ≤ (dI d x0 11).toNatClampNeg)) <| fX12_deedRead_J20 N g x0 (dI d r36 (dI d x0 11).toNatClampNeg) d)) else (fX12_deedRead_J20 N g x0 0 d)
set_option maxHeartbeats 4000000 in
set_option maxRecDepth 100000 in
theorem tX12_deedRead_E {p : Program} {l : Launch} {e : Env} {s : State} {m : MethodId} {args : Array Value} {below : List Frame} {meth : Method} {c : Code} {D : va_G} {cy : Nat → ClassId} {B : Bs} (C : Cx p s m args c cX12_deedRead 2 RX12 D cy B) (hr : meth.sig.returnType = none) (hlocks : meth.locks = false) {N : Nat} {g : Gs} {x0 : Nat}  {dz : Ds} {d : Ds} (hf : fX12_deedRead N g x0 d = some ((), dz)) : WB p l e rmX12_deedRead s m args below meth c 2 D cy B 0 0 (MQ below (QV D cy B g dz) args s 0 0 (wA B)) g d [(0, .ref (ad B x0))] 0 [] := by
  unfold fX12_deedRead at hf
  refine b_aload_n C dX12_deedRead_0 0 rfl rfl ?_
  obtain ⟨h1, hf⟩ := gd_s hf
  refine b_gI C dX12_deedRead_1 fl_X12_124 h1 ?_
  refine b_if_ne C (tgt := 19) dX12_deedRead_4 (by decide) (fun c2 => ?_) (fun c2 => ?_)
  · have hf := if_s c2 hf
    refine b_iconst C (v := 0) dX12_deedRead_19 (by decide) ?_
    refine b_sub [(0, .ref (ad B x0))] [0] rfl ?_
    exact tX12_deedRead_20 C hr hlocks hf
  · have hf := it_s c2 hf
    refine b_aload_n C dX12_deedRead_7 0 rfl rfl ?_
    obtain ⟨r36, er36, hf⟩ := ob_s hf
    refine b_gR C dX12_deedRead_8 fl_X12_20 h1 er36 ?_
    refine b_aload_n C dX12_deedRead_11 0 rfl rfl ?_
    refine b_gI C dX12_deedRead_12 fl_X12_127 h1 ?_
    obtain ⟨h37, hf⟩ := gd_s hf
    obtain ⟨h38, hf⟩ := gd_s hf
    refine b_iald C h37 h38 dX12_deedRead_15 ?_
    refine b_goto C (tgt := 20) dX12_deedRead_16 (by decide) ?_
    refine b_sub [(0, .ref (ad B x0))] [0] rfl ?_
    exact tX12_deedRead_20 C hr hlocks hf
theorem kX12_deedRead (l : Launch) (D : va_G) (cy : Nat → ClassId) (B : Bs) {N : Nat} {g : Gs} {x0 : Nat}  {dz : Ds} {d : Ds} (hf : fX12_deedRead N g x0 d = some ((), dz)) : Met l yX12_deedRead (.code yX12_deedRead cX12_deedRead 2 none :: wl) rmX12_deedRead (PC D cy B [.ref (ad B x0)] g d) (QV D cy B g dz) 0 0 (wA B) :=
  met_of (by decide +kernel) (Nat.le_of_ble_eq_true rfl) (fun p e s m args below meth c C hr hlocks _ => b_sub [(0, .ref (ad B x0))] [0] rfl (tX12_deedRead_E C hr hlocks hf))
/-! KeyMatrixModel.tell()V -/
theorem yo_X12_deedRead : yX12_deedRead.cls ≠ "java/lang/invoke/MethodHandle" ∧ yX12_deedRead.cls ≠ "java/lang/invoke/VarHandle" ∧ (parseMethodDescriptor yX12_deedRead.desc).map (fun d => d.parameters.length) = some 0 := by decide +kernel
theorem co_X12_deedRead : Cond.code yX12_deedRead cX12_deedRead 2 none ∈ wl := mW (mT6 (List.mem_of_getElem? (i := 14) (by decide +kernel))) rfl
theorem in_X12_deedRead : Cond.initialized yX12_deedRead.cls ∈ wl := mW (mT1 (List.mem_of_getElem? (i := 12) (by decide +kernel))) rfl
theorem im_X12_deedRead : Cond.instanceMethod yX12_deedRead ∈ wl := mW (mT6 (List.mem_of_getElem? (i := 13) (by decide +kernel))) rfl
theorem se_X12_deedRead : Cond.selects yX12_deedRead.cls yX12_deedRead yX12_deedRead ∈ wl := mW (mT0 (List.mem_of_getElem? (i := 42) (by decide +kernel))) rfl
theorem lv_X12_166 : LV RX12 166 yX12_deedRead cX12_deedRead 2 none 0 11 := ⟨⟨(RX12, TX12, 33), rfl, rfl⟩, yo_X12_deedRead, mW (mT6 (List.mem_of_getElem? (i := 11) (by decide +kernel))) rfl, im_X12_deedRead, se_X12_deedRead, in_X12_deedRead, co_X12_deedRead⟩
theorem fl_X12_154 : FLI RX12 154 11 21 := ⟨⟨RX12, TX12, 33, rfl, by decide, inl11, Or.inl (mW (mT5 (List.mem_of_getElem? (i := 112) (by decide +kernel))) rfl)⟩, by decide, by decide +kernel⟩
theorem fp11_21 : FPI 11 21 := ⟨ft11, (RX12, TX12, 33), rfl, by decide +kernel, by decide +kernel⟩
theorem fl_X12_151 : FLI RX12 151 11 20 := ⟨⟨RX12, TX12, 33, rfl, by decide, inl11, Or.inl (mW (mT5 (List.mem_of_getElem? (i := 111) (by decide +kernel))) rfl)⟩, by decide, by decide +kernel⟩
theorem fp11_20 : FPI 11 20 := ⟨ft11, (RX12, TX12, 33), rfl, by decide +kernel, by decide +kernel⟩
theorem dX12_tell_0 : decode cX12_tell 0 = .ok (.aload_n 0, 1) := by decide +kernel
theorem dX12_tell_1 : decode cX12_tell 1 = .ok (.getfield 20, 3) := by decide +kernel
theorem dX12_tell_4 : decode cX12_tell 4 = .ok (.aload_n 0, 1) := by decide +kernel
theorem dX12_tell_5 : decode cX12_tell 5 = .ok (.getfield 127, 3) := by decide +kernel
theorem dX12_tell_8 : decode cX12_tell 8 = .ok (.iaload, 1) := by decide +kernel
theorem dX12_tell_9 : decode cX12_tell 9 = .ok (.istore_n 1, 1) := by decide +kernel
theorem dX12_tell_10 : decode cX12_tell 10 = .ok (.iload_n 1, 1) := by decide +kernel
theorem dX12_tell_11 : decode cX12_tell 11 = .ok (.bipush 20, 2) := by decide +kernel
theorem dX12_tell_13 : decode cX12_tell 13 = .ok (.if_icmp .le 9, 3) := by decide +kernel
theorem dX12_tell_16 : decode cX12_tell 16 = .ok (.iload_n 1, 1) := by decide +kernel
theorem dX12_tell_17 : decode cX12_tell 17 = .ok (.bipush 30, 2) := by decide +kernel
theorem dX12_tell_19 : decode cX12_tell 19 = .ok (.if_icmp .le 9, 3) := by decide +kernel
theorem dX12_tell_22 : decode cX12_tell 22 = .ok (.aload_n 0, 1) := by decide +kernel
theorem dX12_tell_23 : decode cX12_tell 23 = .ok (.iconst 1, 1) := by decide +kernel
theorem dX12_tell_24 : decode cX12_tell 24 = .ok (.invokevirtual 139, 3) := by decide +kernel
theorem dX12_tell_27 : decode cX12_tell 27 = .ok (.return_, 1) := by decide +kernel
theorem dX12_tell_28 : decode cX12_tell 28 = .ok (.iload_n 1, 1) := by decide +kernel
theorem dX12_tell_29 : decode cX12_tell 29 = .ok (.bipush 29, 2) := by decide +kernel
theorem dX12_tell_31 : decode cX12_tell 31 = .ok (.if_icmp .ne 11, 3) := by decide +kernel
theorem dX12_tell_34 : decode cX12_tell 34 = .ok (.aload_n 0, 1) := by decide +kernel
theorem dX12_tell_35 : decode cX12_tell 35 = .ok (.getfield 151, 3) := by decide +kernel
theorem dX12_tell_38 : decode cX12_tell 38 = .ok (.iconst 4, 1) := by decide +kernel
theorem dX12_tell_39 : decode cX12_tell 39 = .ok (.if_icmp .eq 17, 3) := by decide +kernel
theorem dX12_tell_42 : decode cX12_tell 42 = .ok (.iload_n 1, 1) := by decide +kernel
theorem dX12_tell_43 : decode cX12_tell 43 = .ok (.bipush 30, 2) := by decide +kernel
theorem dX12_tell_45 : decode cX12_tell 45 = .ok (.if_icmp .ne 17, 3) := by decide +kernel
theorem dX12_tell_48 : decode cX12_tell 48 = .ok (.aload_n 0, 1) := by decide +kernel
theorem dX12_tell_49 : decode cX12_tell 49 = .ok (.getfield 154, 3) := by decide +kernel
theorem dX12_tell_52 : decode cX12_tell 52 = .ok (.iconst 4, 1) := by decide +kernel
theorem dX12_tell_53 : decode cX12_tell 53 = .ok (.if_icmp .ne 9, 3) := by decide +kernel
theorem dX12_tell_56 : decode cX12_tell 56 = .ok (.aload_n 0, 1) := by decide +kernel
theorem dX12_tell_57 : decode cX12_tell 57 = .ok (.iconst 2, 1) := by decide +kernel
theorem dX12_tell_58 : decode cX12_tell 58 = .ok (.invokevirtual 139, 3) := by decide +kernel
theorem dX12_tell_61 : decode cX12_tell 61 = .ok (.return_, 1) := by decide +kernel
theorem dX12_tell_62 : decode cX12_tell 62 = .ok (.aload_n 0, 1) := by decide +kernel
theorem dX12_tell_63 : decode cX12_tell 63 = .ok (.invokevirtual 145, 3) := by decide +kernel
theorem dX12_tell_66 : decode cX12_tell 66 = .ok (.iload_n 1, 1) := by decide +kernel
theorem dX12_tell_67 : decode cX12_tell 67 = .ok (.bipush 29, 2) := by decide +kernel
theorem dX12_tell_69 : decode cX12_tell 69 = .ok (.if_icmp .ne 13, 3) := by decide +kernel
theorem dX12_tell_72 : decode cX12_tell 72 = .ok (.aload_n 0, 1) := by decide +kernel
theorem dX12_tell_73 : decode cX12_tell 73 = .ok (.dup, 1) := by decide +kernel
theorem dX12_tell_74 : decode cX12_tell 74 = .ok (.getfield 151, 3) := by decide +kernel
theorem dX12_tell_77 : decode cX12_tell 77 = .ok (.iconst 1, 1) := by decide +kernel
theorem dX12_tell_78 : decode cX12_tell 78 = .ok (.iadd, 1) := by decide +kernel
theorem dX12_tell_79 : decode cX12_tell 79 = .ok (.putfield 151, 3) := by decide +kernel
theorem dX12_tell_82 : decode cX12_tell 82 = .ok (.iload_n 1, 1) := by decide +kernel
theorem dX12_tell_83 : decode cX12_tell 83 = .ok (.bipush 30, 2) := by decide +kernel
theorem dX12_tell_85 : decode cX12_tell 85 = .ok (.if_icmp .ne 13, 3) := by decide +kernel
theorem dX12_tell_88 : decode cX12_tell 88 = .ok (.aload_n 0, 1) := by decide +kernel
theorem dX12_tell_89 : decode cX12_tell 89 = .ok (.dup, 1) := by decide +kernel
theorem dX12_tell_90 : decode cX12_tell 90 = .ok (.getfield 154, 3) := by decide +kernel
theorem dX12_tell_93 : decode cX12_tell 93 = .ok (.iconst 1, 1) := by decide +kernel
theorem dX12_tell_94 : decode cX12_tell 94 = .ok (.iadd, 1) := by decide +kernel
theorem dX12_tell_95 : decode cX12_tell 95 = .ok (.putfield 154, 3) := by decide +kernel
theorem dX12_tell_98 : decode cX12_tell 98 = .ok (.iload_n 1, 1) := by decide +kernel
theorem dX12_tell_99 : decode cX12_tell 99 = .ok (.bipush 23, 2) := by decide +kernel
theorem dX12_tell_101 : decode cX12_tell 101 = .ok (.if_icmp .lt 8, 3) := by decide +kernel
theorem dX12_tell_104 : decode cX12_tell 104 = .ok (.aload_n 0, 1) := by decide +kernel
theorem dX12_tell_105 : decode cX12_tell 105 = .ok (.iconst 2, 1) := by decide +kernel
theorem dX12_tell_106 : decode cX12_tell 106 = .ok (.invokevirtual 157, 3) := by decide +kernel
theorem dX12_tell_109 : decode cX12_tell 109 = .ok (.iload_n 1, 1) := by decide +kernel
theorem dX12_tell_110 : decode cX12_tell 110 = .ok (.bipush 27, 2) := by decide +kernel
theorem dX12_tell_112 : decode cX12_tell 112 = .ok (.if_icmp .eq 15, 3) := by decide +kernel
theorem dX12_tell_115 : decode cX12_tell 115 = .ok (.iload_n 1, 1) := by decide +kernel
theorem dX12_tell_116 : decode cX12_tell 116 = .ok (.bipush 28, 2) := by decide +kernel
theorem dX12_tell_118 : decode cX12_tell 118 = .ok (.if_icmp .eq 9, 3) := by decide +kernel
theorem dX12_tell_121 : decode cX12_tell 121 = .ok (.iload_n 1, 1) := by decide +kernel
theorem dX12_tell_122 : decode cX12_tell 122 = .ok (.bipush 29, 2) := by decide +kernel
theorem dX12_tell_124 : decode cX12_tell 124 = .ok (.if_icmp .ne 8, 3) := by decide +kernel
theorem dX12_tell_127 : decode cX12_tell 127 = .ok (.aload_n 0, 1) := by decide +kernel
theorem dX12_tell_128 : decode cX12_tell 128 = .ok (.iconst 2, 1) := by decide +kernel
theorem dX12_tell_129 : decode cX12_tell 129 = .ok (.invokevirtual 157, 3) := by decide +kernel
theorem dX12_tell_132 : decode cX12_tell 132 = .ok (.iload_n 1, 1) := by decide +kernel
theorem dX12_tell_133 : decode cX12_tell 133 = .ok (.bipush 28, 2) := by decide +kernel
theorem dX12_tell_135 : decode cX12_tell 135 = .ok (.if_icmp .eq 9, 3) := by decide +kernel
theorem dX12_tell_138 : decode cX12_tell 138 = .ok (.iload_n 1, 1) := by decide +kernel
theorem dX12_tell_139 : decode cX12_tell 139 = .ok (.bipush 29, 2) := by decide +kernel
theorem dX12_tell_141 : decode cX12_tell 141 = .ok (.if_icmp .ne 7, 3) := by decide +kernel
theorem dX12_tell_144 : decode cX12_tell 144 = .ok (.aload_n 0, 1) := by decide +kernel
theorem dX12_tell_145 : decode cX12_tell 145 = .ok (.invokevirtual 166, 3) := by decide +kernel
theorem dX12_tell_148 : decode cX12_tell 148 = .ok (.iload_n 1, 1) := by decide +kernel
theorem dX12_tell_149 : decode cX12_tell 149 = .ok (.bipush 30, 2) := by decide +kernel
theorem dX12_tell_151 : decode cX12_tell 151 = .ok (.if_icmp .ne 37, 3) := by decide +kernel
theorem dX12_tell_154 : decode cX12_tell 154 = .ok (.iconst 1, 1) := by decide +kernel
theorem dX12_tell_155 : decode cX12_tell 155 = .ok (.istore_n 2, 1) := by decide +kernel
theorem dX12_tell_156 : decode cX12_tell 156 = .ok (.aload_n 0, 1) := by decide +kernel
theorem dX12_tell_157 : decode cX12_tell 157 = .ok (.iconst 2, 1) := by decide +kernel
theorem dX12_tell_158 : decode cX12_tell 158 = .ok (.invokevirtual 142, 3) := by decide +kernel
theorem dX12_tell_161 : decode cX12_tell 161 = .ok (.ifCond .eq 27, 3) := by decide +kernel
theorem dX12_tell_164 : decode cX12_tell 164 = .ok (.iload_n 2, 1) := by decide +kernel
theorem dX12_tell_165 : decode cX12_tell 165 = .ok (.bipush 8, 2) := by decide +kernel
theorem dX12_tell_167 : decode cX12_tell 167 = .ok (.if_icmp .ne 11, 3) := by decide +kernel
theorem dX12_tell_170 : decode cX12_tell 170 = .ok (.aload_n 0, 1) := by decide +kernel
theorem dX12_tell_171 : decode cX12_tell 171 = .ok (.iconst 2, 1) := by decide +kernel
theorem dX12_tell_172 : decode cX12_tell 172 = .ok (.invokevirtual 139, 3) := by decide +kernel
theorem dX12_tell_175 : decode cX12_tell 175 = .ok (.goto 7, 3) := by decide +kernel
theorem dX12_tell_178 : decode cX12_tell 178 = .ok (.aload_n 0, 1) := by decide +kernel
theorem dX12_tell_179 : decode cX12_tell 179 = .ok (.invokevirtual 145, 3) := by decide +kernel
theorem dX12_tell_182 : decode cX12_tell 182 = .ok (.iinc 2 1, 3) := by decide +kernel
theorem dX12_tell_185 : decode cX12_tell 185 = .ok (.goto (-29), 3) := by decide +kernel
theorem dX12_tell_188 : decode cX12_tell 188 = .ok (.aload_n 0, 1) := by decide +kernel
theorem dX12_tell_189 : decode cX12_tell 189 = .ok (.iconst 4, 1) := by decide +kernel
theorem dX12_tell_190 : decode cX12_tell 190 = .ok (.invokevirtual 157, 3) := by decide +kernel
theorem dX12_tell_193 : decode cX12_tell 193 = .ok (.return_, 1) := by decide +kernel
def rmX12_tell : Room := { frames := 4, cells := 0, slots := 0, locals := 83 }
set_option maxRecDepth 100000 in
def fX12_tell_J22 (N : Nat) (g : Gs) (x0 : Nat) (d : Ds) : Option (Unit × Ds) := gd (chk g x0 11) <| cv (fX12_fail N g x0 1 d) fun d8 => (some ((), d8))
set_option maxHeartbeats 4000000 in
set_option maxRecDepth 100000 in
theorem tX12_tell_22 {p : Program} {l : Launch} {e : Env} {s : State} {m : MethodId} {args : Array Value} {below : List Frame} {meth : Method} {c : Code} {D : va_G} {cy : Nat → ClassId} {B : Bs} (C : Cx p s m args c cX12_tell 3 RX12 D cy B) (hr : meth.sig.returnType = none) (hlocks : meth.locks = false) {N : Nat} {g : Gs} {x0 : Nat}  {dz : Ds} {d : Ds} (hf : fX12_tell_J22 N g x0 d = some ((), dz)) : WB p l e rmX12_tell s m args below meth c 3 D cy B 0 0 (MQ below (QV D cy B g dz) args s 0 0 (wA B)) g d [(0, .ref (ad B x0))] 22 [] := by
  unfold fX12_tell_J22 at hf
  refine b_aload_n C dX12_tell_22 0 rfl rfl ?_
  refine b_iconst C (v := 1) dX12_tell_23 (by decide) ?_
  obtain ⟨h7, hf⟩ := gd_s hf
  obtain ⟨d8, k9, hf⟩ := cv_s hf
  refine b_cVN C [] dX12_tell_24 (kX12_fail l D cy B k9) lv_X12_139 ⟨rfl, rfl, Nat.le_of_ble_eq_true rfl, Nat.le_of_ble_eq_true rfl⟩ h7 (by decide) rfl (Nat.le_of_ble_eq_true rfl) ⟨Nat.zero_le _, Nat.zero_le _⟩ rfl ?_
  exact b_vret C hr hlocks hf dX12_tell_27
set_option maxRecDepth 100000 in
def fX12_tell_J188 (N : Nat) (g : Gs) (x0 : Nat) (d : Ds) : Option (Unit × Ds) := gd (chk g x0 11) <| cv (fX12_must N g x0 4 d) fun d29 => (some ((), d29))
set_option maxHeartbeats 4000000 in
set_option maxRecDepth 100000 in
theorem tX12_tell_188 {p : Program} {l : Launch} {e : Env} {s : State} {m : MethodId} {args : Array Value} {below : List Frame} {meth : Method} {c : Code} {D : va_G} {cy : Nat → ClassId} {B : Bs} (C : Cx p s m args c cX12_tell 3 RX12 D cy B) (hr : meth.sig.returnType = none) (hlocks : meth.locks = false) {N : Nat} {g : Gs} {x0 : Nat}  {dz : Ds} {d : Ds} (hf : fX12_tell_J188 N g x0 d = some ((), dz)) : WB p l e rmX12_tell s m args below meth c 3 D cy B 0 0 (MQ below (QV D cy B g dz) args s 0 0 (wA B)) g d [(0, .ref (ad B x0))] 188 [] := by
  unfold fX12_tell_J188 at hf
  refine b_aload_n C dX12_tell_188 0 rfl rfl ?_
  refine b_iconst C (v := 4) dX12_tell_189 (by decide) ?_
  obtain ⟨h28, hf⟩ := gd_s hf
  obtain ⟨d29, k30, hf⟩ := cv_s hf
  refine b_cVN C [] dX12_tell_190 (kX12_must l D cy B k30) lv_X12_157 ⟨rfl, rfl, Nat.le_of_ble_eq_true rfl, Nat.le_of_ble_eq_true rfl⟩ h28 (by decide) rfl (Nat.le_of_ble_eq_true rfl) ⟨Nat.zero_le _, Nat.zero_le _⟩ rfl ?_
  exact b_vret C hr hlocks hf dX12_tell_193
set_option maxRecDepth 100000 in
def fX12_tell_J182 (N : Nat) (g : Gs) (x0 : Nat) (K156 : Int32 × Ds → Option (Unit × Ds)) (y2 : Int32) (d : Ds) : Option (Unit × Ds) := bd (y2 + 1) fun u39 => (K156 (u39, d))
set_option maxHeartbeats 4000000 in
set_option maxRecDepth 100000 in
theorem tX12_tell_182 {p : Program} {l : Launch} {e : Env} {s : State} {m : MethodId} {args : Array Value} {below : List Frame} {meth : Method} {c : Code} {D : va_G} {cy : Nat → ClassId} {B : Bs} (C : Cx p s m args c cX12_tell 3 RX12 D cy B) (hr : meth.sig.returnType = none) (hlocks : meth.locks = false) {N : Nat} {g : Gs} {x0 : Nat}  {dz : Ds} {K156 : Int32 × Ds → Option (Unit × Ds)} (hK156 : ∀ a, K156 a = some ((), dz) → WB p l e rmX12_tell s m args below meth c 3 D cy B 0 0 (MQ below (QV D cy B g dz) args s 0 0 (wA B)) g a.2 [(0, .ref (ad B x0)), (2, .int a.1)] 156 []) {y2 : Int32} {d : Ds} (hf : fX12_tell_J182 N g x0 K156 y2 d = some ((), dz)) : WB p l e rmX12_tell s m args below meth c 3 D cy B 0 0 (MQ below (QV D cy B g dz) args s 0 0 (wA B)) g d [(0, .ref (ad B x0)), (2, .int y2)] 182 [] := by
  unfold fX12_tell_J182 at hf
  obtain ⟨u39, eu39, hf⟩ := bd_s hf
  refine b_iinc C dX12_tell_182 1 rfl (by rw [eu39]; rfl) [(2, .int u39), (0, .ref (ad B x0))] (by decide) rfl ?_
  refine b_goto C (tgt := 156) dX12_tell_185 (by decide) ?_
  refine b_sub [(0, .ref (ad B x0)), (2, .int u39)] [1, 0] rfl ?_
  exact hK156 (u39, d) hf
set_option maxRecDepth 100000 in
def fX12_tell_B156 (N : Nat) (g : Gs) (x0 : Nat) (K156 : Int32 × Ds → Option (Unit × Ds)) (y2 : Int32) (d : Ds) : Option (Unit × Ds) := gd (chk g x0 11) <| cb (fX12_is N g x0 2 d) fun u34 d32 => (if u34 = 0 then (fX12_tell_J188 N g x0 d32) else (if y2 = (8 : Int32) then (cv (fX12_fail N g x0 2 d32) fun d40 => (fX12_tell_J182 N g x0 K156 y2 d40)) else (cv (fX12_passes N g x0 d32) fun d37 => (fX12_tell_J182 N g x0 K156 y2 d37))))
set_option maxHeartbeats 4000000 in
set_option maxRecDepth 100000 in
theorem tX12_tell_156 {p : Program} {l : Launch} {e : Env} {s : State} {m : MethodId} {args : Array Value} {below : List Frame} {meth : Method} {c : Code} {D : va_G} {cy : Nat → ClassId} {B : Bs} (C : Cx p s m args c cX12_tell 3 RX12 D cy B) (hr : meth.sig.returnType = none) (hlocks : meth.locks = false) {N : Nat} {g : Gs} {x0 : Nat}  {dz : Ds} {K156 : Int32 × Ds → Option (Unit × Ds)} (hK156 : ∀ a, K156 a = some ((), dz) → WB p l e rmX12_tell s m args below meth c 3 D cy B 0 0 (MQ below (QV D cy B g dz) args s 0 0 (wA B)) g a.2 [(0, .ref (ad B x0)), (2, .int a.1)] 156 []) {y2 : Int32} {d : Ds} (hf : fX12_tell_B156 N g x0 K156 y2 d = some ((), dz)) : WB p l e rmX12_tell s m args below meth c 3 D cy B 0 0 (MQ below (QV D cy B g dz) args s 0 0 (wA B)) g d [(0, .ref (ad B x0)), (2, .int y2)] 156 [] := by
  unfold fX12_tell_B156 at hf
  refine b_aload_n C dX12_tell_156 0 rfl rfl ?_
  refine b_iconst C (v := 2) dX12_tell_157 (by decide) ?_
  obtain ⟨h31, hf⟩ := gd_s hf
  obtain ⟨u34, d32, k33, hf⟩ := cb_s hf
  refine b_cVI C [] dX12_tell_158 (kX12_is l D cy B k33) lv_X12_142 ⟨rfl, rfl, Nat.le_of_ble_eq_true rfl, Nat.le_of_ble_eq_true rfl⟩ h31 (by decide) rfl (Nat.le_of_ble_eq_true rfl) ⟨Nat.zero_le _, Nat.zero_le _⟩ rfl ?_
  refine b_if_eq C (tgt := 188) dX12_tell_161 (by decide) (fun c35 => ?_) (fun c35 => ?_)
  · have hf := it_s c35 hf
    refine b_sub [(0, .ref (ad B x0))] [0] rfl ?_
    exact tX12_tell_188 C hr hlocks hf
  · have hf := if_s c35 hf
    refine b_iload_n C dX12_tell_164 1 rfl rfl ?_
    refine b_bipush C (v := 8) dX12_tell_165 (by decide) ?_
    refine b_icmp_ne C (tgt := 178) dX12_tell_167 (by decide) (fun c36 => ?_) (fun c36 => ?_)
    · have hf := if_s c36 hf
      refine b_aload_n C dX12_tell_178 0 rfl rfl ?_
      obtain ⟨d37, k38, hf⟩ := cv_s hf
      refine b_cVN C [] dX12_tell_179 (kX12_passes l D cy B k38) lv_X12_145 ⟨rfl, rfl, Nat.le_of_ble_eq_true rfl, Nat.le_of_ble_eq_true rfl⟩ h31 (by decide) rfl (Nat.le_of_ble_eq_true rfl) ⟨Nat.zero_le _, Nat.zero_le _⟩ rfl ?_
      refine b_sub [(0, .ref (ad B x0)), (2, .int y2)] [0, 1] rfl ?_
      exact tX12_tell_182 C hr hlocks hK156 hf
    · have hf := it_s c36 hf
      refine b_aload_n C dX12_tell_170 0 rfl rfl ?_
      refine b_iconst C (v := 2) dX12_tell_171 (by decide) ?_
      obtain ⟨d40, k41, hf⟩ := cv_s hf
      refine b_cVN C [] dX12_tell_172 (kX12_fail l D cy B k41) lv_X12_139 ⟨rfl, rfl, Nat.le_of_ble_eq_true rfl, Nat.le_of_ble_eq_true rfl⟩ h31 (by decide) rfl (Nat.le_of_ble_eq_true rfl) ⟨Nat.zero_le _, Nat.zero_le _⟩ rfl ?_
      refine b_goto C (tgt := 182) dX12_tell_175 (by decide) ?_
      refine b_sub [(0, .ref (ad B x0)), (2, .int y2)] [0, 1] rfl ?_
      exact tX12_tell_182 C hr hlocks hK156 hf
def fX12_tell_L156 (N : Nat) (g : Gs) (x0 : Nat) : Int32 × Ds → Option (Unit × Ds) := lp (fun K156 a => fX12_tell_B156 N g x0 K156 a.1 a.2) N
theorem tX12_tell_L156 {p : Program} {l : Launch} {e : Env} {s : State} {m : MethodId} {args : Array Value} {below : List Frame} {meth : Method} {c : Code} {D : va_G} {cy : Nat → ClassId} {B : Bs} (C : Cx p s m args c cX12_tell 3 RX12 D cy B) (hr : meth.sig.returnType = none) (hlocks : meth.locks = false) {N : Nat} {g : Gs} {x0 : Nat}  {dz : Ds} (a : Int32 × Ds) (hf : fX12_tell_L156 N g x0 a = some ((), dz)) : WB p l e rmX12_tell s m args below meth c 3 D cy B 0 0 (MQ below (QV D cy B g dz) args s 0 0 (wA B)) g a.2 [(0, .ref (ad B x0)), (2, .int a.1)] 156 [] :=
  lp_w (fun K156 hK156 a ha => tX12_tell_156 C hr hlocks hK156 ha) N a hf
set_option maxRecDepth 100000 in
def fX12_tell_J148 (N : Nat) (g : Gs) (x0 : Nat) (y1 : Int32) (d : Ds) : Option (Unit × Ds) := if y1 = (30 : Int32) then (fX12_tell_L156 N g x0 (1, d)) else (fX12_tell_J188 N g x0 d)
set_option maxHeartbeats 4000000 in
set_option maxRecDepth 100000 in
theorem tX12_tell_148 {p : Program} {l : Launch} {e : Env} {s : State} {m : MethodId} {args : Array Value} {below : List Frame} {meth : Method} {c : Code} {D : va_G} {cy : Nat → ClassId} {B : Bs} (C : Cx p s m args c cX12_tell 3 RX12 D cy B) (hr : meth.sig.returnType = none) (hlocks : meth.locks = false) {N : Nat} {g : Gs} {x0 : Nat}  {dz : Ds} {y1 : Int32} {d : Ds} (hf : fX12_tell_J148 N g x0 y1 d = some ((), dz)) : WB p l e rmX12_tell s m args below meth c 3 D cy B 0 0 (MQ below (QV D cy B g dz) args s 0 0 (wA B)) g d [(0, .ref (ad B x0)), (1, .int y1)] 148 [] := by
  unfold fX12_tell_J148 at hf
  refine b_iload_n C dX12_tell_148 1 rfl rfl ?_
  refine b_bipush C (v := 30) dX12_tell_149 (by decide) ?_
  refine b_icmp_ne C (tgt := 188) dX12_tell_151 (by decide) (fun c27 => ?_) (fun c27 => ?_)
  · have hf := if_s c27 hf
    refine b_sub [(0, .ref (ad B x0))] [0] rfl ?_
    exact tX12_tell_188 C hr hlocks hf
  · have hf := it_s c27 hf
    refine b_iconst C (v := 1) dX12_tell_154 (by decide) ?_
    refine b_istore_n C dX12_tell_155 rfl [(2, .int 1), (0, .ref (ad B x0)), (1, .int y1)] (by decide) rfl ?_
    refine b_sub [(0, .ref (ad B x0)), (2, .int 1)] [1, 0] rfl ?_
    exact tX12_tell_L156 C hr hlocks (1, d) hf
set_option maxRecDepth 100000 in
def fX12_tell_J144 (N : Nat) (g : Gs) (x0 : Nat) (y1 : Int32) (d : Ds) : Option (Unit × Ds) := gd (chk g x0 11) <| cv (fX12_deedRead N g x0 d) fun d25 => (fX12_tell_J148 N g x0 y1 d25)
set_option maxHeartbeats 4000000 in
set_option maxRecDepth 100000 in
theorem tX12_tell_144 {p : Program} {l : Launch} {e : Env} {s : State} {m : MethodId} {args : Array Value} {below : List Frame} {meth : Method} {c : Code} {D : va_G} {cy : Nat → ClassId} {B : Bs} (C : Cx p s m args c cX12_tell 3 RX12 D cy B) (hr : meth.sig.returnType = none) (hlocks : meth.locks = false) {N : Nat} {g : Gs} {x0 : Nat}  {dz : Ds} {y1 : Int32} {d : Ds} (hf : fX12_tell_J144 N g x0 y1 d = some ((), dz)) : WB p l e rmX12_tell s m args below meth c 3 D cy B 0 0 (MQ below (QV D cy B g dz) args s 0 0 (wA B)) g d [(0, .ref (ad B x0)), (1, .int y1)] 144 [] := by
  unfold fX12_tell_J144 at hf
  refine b_aload_n C dX12_tell_144 0 rfl rfl ?_
  obtain ⟨h24, hf⟩ := gd_s hf
  obtain ⟨d25, k26, hf⟩ := cv_s hf
  refine b_cVN C [] dX12_tell_145 (kX12_deedRead l D cy B k26) lv_X12_166 ⟨rfl, rfl, Nat.le_of_ble_eq_true rfl, Nat.le_of_ble_eq_true rfl⟩ h24 (by decide) rfl (Nat.le_of_ble_eq_true rfl) ⟨Nat.zero_le _, Nat.zero_le _⟩ rfl ?_
  refine b_sub [(0, .ref (ad B x0)), (1, .int y1)] [0, 1] rfl ?_
  exact tX12_tell_148 C hr hlocks hf
set_option maxRecDepth 100000 in
def fX12_tell_J132 (N : Nat) (g : Gs) (x0 : Nat) (y1 : Int32) (d : Ds) : Option (Unit × Ds) := if y1 = (28 : Int32) then (fX12_tell_J144 N g x0 y1 d) else (if y1 = (29 : Int32) then (fX12_tell_J144 N g x0 y1 d) else (fX12_tell_J148 N g x0 y1 d))
set_option maxHeartbeats 4000000 in
set_option maxRecDepth 100000 in
theorem tX12_tell_132 {p : Program} {l : Launch} {e : Env} {s : State} {m : MethodId} {args : Array Value} {below : List Frame} {meth : Method} {c : Code} {D : va_G} {cy : Nat → ClassId} {B : Bs} (C : Cx p s m args c cX12_tell 3 RX12 D cy B) (hr : meth.sig.returnType = none) (hlocks : meth.locks = false) {N : Nat} {g : Gs} {x0 : Nat}  {dz : Ds} {y1 : Int32} {d : Ds} (hf : fX12_tell_J132 N g x0 y1 d = some ((), dz)) : WB p l e rmX12_tell s m args below meth c 3 D cy B 0 0 (MQ below (QV D cy B g dz) args s 0 0 (wA B)) g d [(0, .ref (ad B x0)), (1, .int y1)] 132 [] := by
  unfold fX12_tell_J132 at hf
  refine b_iload_n C dX12_tell_132 1 rfl rfl ?_
  refine b_bipush C (v := 28) dX12_tell_133 (by decide) ?_
  refine b_icmp_eq C (tgt := 144) dX12_tell_135 (by decide) (fun c23 => ?_) (fun c23 => ?_)
  · have hf := it_s c23 hf
    refine b_sub [(0, .ref (ad B x0)), (1, .int y1)] [0, 1] rfl ?_
    exact tX12_tell_144 C hr hlocks hf
  · have hf := if_s c23 hf
    refine b_iload_n C dX12_tell_138 1 rfl rfl ?_
    refine b_bipush C (v := 29) dX12_tell_139 (by decide) ?_
    refine b_icmp_ne C (tgt := 148) dX12_tell_141 (by decide) (fun c42 => ?_) (fun c42 => ?_)
    · have hf := if_s c42 hf
      refine b_sub [(0, .ref (ad B x0)), (1, .int y1)] [0, 1] rfl ?_
      exact tX12_tell_148 C hr hlocks hf
    · have hf := it_s c42 hf
      refine b_sub [(0, .ref (ad B x0)), (1, .int y1)] [0, 1] rfl ?_
      exact tX12_tell_144 C hr hlocks hf
set_option maxRecDepth 100000 in
def fX12_tell_J127 (N : Nat) (g : Gs) (x0 : Nat) (y1 : Int32) (d : Ds) : Option (Unit × Ds) := gd (chk g x0 11) <| cv (fX12_must N g x0 2 d) fun d21 => (fX12_tell_J132 N g x0 y1 d21)
set_option maxHeartbeats 4000000 in
set_option maxRecDepth 100000 in
theorem tX12_tell_127 {p : Program} {l : Launch} {e : Env} {s : State} {m : MethodId} {args : Array Value} {below : List Frame} {meth : Method} {c : Code} {D : va_G} {cy : Nat → ClassId} {B : Bs} (C : Cx p s m args c cX12_tell 3 RX12 D cy B) (hr : meth.sig.returnType = none) (hlocks : meth.locks = false) {N : Nat} {g : Gs} {x0 : Nat}  {dz : Ds} {y1 : Int32} {d : Ds} (hf : fX12_tell_J127 N g x0 y1 d = some ((), dz)) : WB p l e rmX12_tell s m args below meth c 3 D cy B 0 0 (MQ below (QV D cy B g dz) args s 0 0 (wA B)) g d [(0, .ref (ad B x0)), (1, .int y1)] 127 [] := by
  unfold fX12_tell_J127 at hf
  refine b_aload_n C dX12_tell_127 0 rfl rfl ?_
  refine b_iconst C (v := 2) dX12_tell_128 (by decide) ?_
  obtain ⟨h20, hf⟩ := gd_s hf
  obtain ⟨d21, k22, hf⟩ := cv_s hf
  refine b_cVN C [] dX12_tell_129 (kX12_must l D cy B k22) lv_X12_157 ⟨rfl, rfl, Nat.le_of_ble_eq_true rfl, Nat.le_of_ble_eq_true rfl⟩ h20 (by decide) rfl (Nat.le_of_ble_eq_true rfl) ⟨Nat.zero_le _, Nat.zero_le _⟩ rfl ?_
  refine b_sub [(0, .ref (ad B x0)), (1, .int y1)] [0, 1] rfl ?_
  exact tX12_tell_132 C hr hlocks hf
set_option maxRecDepth 100000 in
def fX12_tell_J109 (N : Nat) (g : Gs) (x0 : Nat) (y1 : Int32) (d : Ds) : Option (Unit × Ds) := if y1 = (27 : Int32) then (fX12_tell_J127 N g x0 y1 d) else (if y1 = (28 : Int32) then (fX12_tell_J127 N g x0 y1 d) else (if y1 = (29 : Int32) then (fX12_tell_J127 N g x0 y1 d) else (fX12_tell_J132 N g x0 y1 d)))
set_option maxHeartbeats 4000000 in
set_option maxRecDepth 100000 in
theorem tX12_tell_109 {p : Program} {l : Launch} {e : Env} {s : State} {m : MethodId} {args : Array Value} {below : List Frame} {meth : Method} {c : Code} {D : va_G} {cy : Nat → ClassId} {B : Bs} (C : Cx p s m args c cX12_tell 3 RX12 D cy B) (hr : meth.sig.returnType = none) (hlocks : meth.locks = false) {N : Nat} {g : Gs} {x0 : Nat}  {dz : Ds} {y1 : Int32} {d : Ds} (hf : fX12_tell_J109 N g x0 y1 d = some ((), dz)) : WB p l e rmX12_tell s m args below meth c 3 D cy B 0 0 (MQ below (QV D cy B g dz) args s 0 0 (wA B)) g d [(0, .ref (ad B x0)), (1, .int y1)] 109 [] := by
  unfold fX12_tell_J109 at hf
  refine b_iload_n C dX12_tell_109 1 rfl rfl ?_
  refine b_bipush C (v := 27) dX12_tell_110 (by decide) ?_
  refine b_icmp_eq C (tgt := 127) dX12_tell_112 (by decide) (fun c19 => ?_) (fun c19 => ?_)
  · have hf := it_s c19 hf
    refine b_sub [(0, .ref (ad B x0)), (1, .int y1)] [0, 1] rfl ?_
    exact tX12_tell_127 C hr hlocks hf
  · have hf := if_s c19 hf
    refine b_iload_n C dX12_tell_115 1 rfl rfl ?_
    refine b_bipush C (v := 28) dX12_tell_116 (by decide) ?_
    refine b_icmp_eq C (tgt := 127) dX12_tell_118 (by decide) (fun c43 => ?_) (fun c43 => ?_)
    · have hf := it_s c43 hf
      refine b_sub [(0, .ref (ad B x0)), (1, .int y1)] [0, 1] rfl ?_
      exact tX12_tell_127 C hr hlocks hf
    · have hf := if_s c43 hf
      refine b_iload_n C dX12_tell_121 1 rfl rfl ?_
      refine b_bipush C (v := 29) dX12_tell_122 (by decide) ?_
      refine b_icmp_ne C (tgt := 132) dX12_tell_124 (by decide) (fun c44 => ?_) (fun c44 => ?_)
      · have hf := if_s c44 hf
        refine b_sub [(0, .ref (ad B x0)), (1, .int y1)] [0, 1] rfl ?_
        exact tX12_tell_132 C hr hlocks hf
      · have hf := it_s c44 hf
        refine b_sub [(0, .ref (ad B x0)), (1, .int y1)] [0, 1] rfl ?_
        exact tX12_tell_127 C hr hlocks hf
set_option maxRecDepth 100000 in
def fX12_tell_J98 (N : Nat) (g : Gs) (x0 : Nat) (y1 : Int32) (d : Ds) : Option (Unit × Ds) := if y1 < (23 : Int32) then (fX12_tell_J109 N g x0 y1 d) else (gd (chk g x0 11) <| cv (fX12_must N g x0 2 d) fun d46 => (fX12_tell_J109 N g x0 y1 d46))
set_option maxHeartbeats 4000000 in
set_option maxRecDepth 100000 in
theorem tX12_tell_98 {p : Program} {l : Launch} {e : Env} {s : State} {m : MethodId} {args : Array Value} {below : List Frame} {meth : Method} {c : Code} {D : va_G} {cy : Nat → ClassId} {B : Bs} (C : Cx p s m args c cX12_tell 3 RX12 D cy B) (hr : meth.sig.returnType = none) (hlocks : meth.locks = false) {N : Nat} {g : Gs} {x0 : Nat}  {dz : Ds} {y1 : Int32} {d : Ds} (hf : fX12_tell_J98 N g x0 y1 d = some ((), dz)) : WB p l e rmX12_tell s m args below meth c 3 D cy B 0 0 (MQ below (QV D cy B g dz) args s 0 0 (wA B)) g d [(0, .ref (ad B x0)), (1, .int y1)] 98 [] := by
  unfold fX12_tell_J98 at hf
  refine b_iload_n C dX12_tell_98 1 rfl rfl ?_
  refine b_bipush C (v := 23) dX12_tell_99 (by decide) ?_
  refine b_icmp_lt C (tgt := 109) dX12_tell_101 (by decide) (fun c18 => ?_) (fun c18 => ?_)
  · have hf := it_s c18 hf
    refine b_sub [(0, .ref (ad B x0)), (1, .int y1)] [0, 1] rfl ?_
    exact tX12_tell_109 C hr hlocks hf
  · have hf := if_s c18 hf
    refine b_aload_n C dX12_tell_104 0 rfl rfl ?_
    refine b_iconst C (v := 2) dX12_tell_105 (by decide) ?_
    obtain ⟨h45, hf⟩ := gd_s hf
    obtain ⟨d46, k47, hf⟩ := cv_s hf
    refine b_cVN C [] dX12_tell_106 (kX12_must l D cy B k47) lv_X12_157 ⟨rfl, rfl, Nat.le_of_ble_eq_true rfl, Nat.le_of_ble_eq_true rfl⟩ h45 (by decide) rfl (Nat.le_of_ble_eq_true rfl) ⟨Nat.zero_le _, Nat.zero_le _⟩ rfl ?_
    refine b_sub [(0, .ref (ad B x0)), (1, .int y1)] [0, 1] rfl ?_
    exact tX12_tell_109 C hr hlocks hf
set_option maxRecDepth 100000 in
def fX12_tell_J82 (N : Nat) (g : Gs) (x0 : Nat) (y1 : Int32) (d : Ds) : Option (Unit × Ds) := if y1 = (30 : Int32) then (gd (chk g x0 11) <| bd (sI d x0 21 ((dI d x0 21) + 1)) fun d49 => (fX12_tell_J98 N g x0 y1 d49)) else (fX12_tell_J98 N g x0 y1 d)
set_option maxHeartbeats 4000000 in
set_option maxRecDepth 100000 in
theorem tX12_tell_82 {p : Program} {l : Launch} {e : Env} {s : State} {m : MethodId} {args : Array Value} {below : List Frame} {meth : Method} {c : Code} {D : va_G} {cy : Nat → ClassId} {B : Bs} (C : Cx p s m args c cX12_tell 3 RX12 D cy B) (hr : meth.sig.returnType = none) (hlocks : meth.locks = false) {N : Nat} {g : Gs} {x0 : Nat}  {dz : Ds} {y1 : Int32} {d : Ds} (hf : fX12_tell_J82 N g x0 y1 d = some ((), dz)) : WB p l e rmX12_tell s m args below meth c 3 D cy B 0 0 (MQ below (QV D cy B g dz) args s 0 0 (wA B)) g d [(0, .ref (ad B x0)), (1, .int y1)] 82 [] := by
  unfold fX12_tell_J82 at hf
  refine b_iload_n C dX12_tell_82 1 rfl rfl ?_
  refine b_bipush C (v := 30) dX12_tell_83 (by decide) ?_
  refine b_icmp_ne C (tgt := 98) dX12_tell_85 (by decide) (fun c17 => ?_) (fun c17 => ?_)
  · have hf := if_s c17 hf
    refine b_sub [(0, .ref (ad B x0)), (1, .int y1)] [0, 1] rfl ?_
    exact tX12_tell_98 C hr hlocks hf
  · have hf := it_s c17 hf
    refine b_aload_n C dX12_tell_88 0 rfl rfl ?_
    refine b_dup C dX12_tell_89 rfl ?_
    obtain ⟨h48, hf⟩ := gd_s hf
    refine b_gI C dX12_tell_90 fl_X12_154 h48 ?_
    refine b_iconst C (v := 1) dX12_tell_93 (by decide) ?_
    refine b_iadd C dX12_tell_94 ?_
    obtain ⟨d49, ed49, hf⟩ := bd_s hf
    refine b_pI C dX12_tell_95 fl_X12_154 fp11_21 h48 ed49 ?_
    refine b_sub [(0, .ref (ad B x0)), (1, .int y1)] [0, 1] rfl ?_
    exact tX12_tell_98 C hr hlocks hf
set_option maxRecDepth 100000 in
def fX12_tell_J62 (N : Nat) (g : Gs) (x0 : Nat) (y1 : Int32) (d : Ds) : Option (Unit × Ds) := gd (chk g x0 11) <| cv (fX12_passes N g x0 d) fun d14 => (if y1 = (29 : Int32) then (bd (sI d14 x0 20 ((dI d14 x0 20) + 1)) fun d50 => (fX12_tell_J82 N g x0 y1 d50)) else (fX12_tell_J82 N g x0 y1 d14))
set_option maxHeartbeats 4000000 in
set_option maxRecDepth 100000 in
theorem tX12_tell_62 {p : Program} {l : Launch} {e : Env} {s : State} {m : MethodId} {args : Array Value} {below : List Frame} {meth : Method} {c : Code} {D : va_G} {cy : Nat → ClassId} {B : Bs} (C : Cx p s m args c cX12_tell 3 RX12 D cy B) (hr : meth.sig.returnType = none) (hlocks : meth.locks = false) {N : Nat} {g : Gs} {x0 : Nat}  {dz : Ds} {y1 : Int32} {d : Ds} (hf : fX12_tell_J62 N g x0 y1 d = some ((), dz)) : WB p l e rmX12_tell s m args below meth c 3 D cy B 0 0 (MQ below (QV D cy B g dz) args s 0 0 (wA B)) g d [(0, .ref (ad B x0)), (1, .int y1)] 62 [] := by
  unfold fX12_tell_J62 at hf
  refine b_aload_n C dX12_tell_62 0 rfl rfl ?_
  obtain ⟨h13, hf⟩ := gd_s hf
  obtain ⟨d14, k15, hf⟩ := cv_s hf
  refine b_cVN C [] dX12_tell_63 (kX12_passes l D cy B k15) lv_X12_145 ⟨rfl, rfl, Nat.le_of_ble_eq_true rfl, Nat.le_of_ble_eq_true rfl⟩ h13 (by decide) rfl (Nat.le_of_ble_eq_true rfl) ⟨Nat.zero_le _, Nat.zero_le _⟩ rfl ?_
  refine b_iload_n C dX12_tell_66 1 rfl rfl ?_
  refine b_bipush C (v := 29) dX12_tell_67 (by decide) ?_
  refine b_icmp_ne C (tgt := 82) dX12_tell_69 (by decide) (fun c16 => ?_) (fun c16 => ?_)
  · have hf := if_s c16 hf
    refine b_sub [(0, .ref (ad B x0)), (1, .int y1)] [0, 1] rfl ?_
    exact tX12_tell_82 C hr hlocks hf
  · have hf := it_s c16 hf
    refine b_aload_n C dX12_tell_72 0 rfl rfl ?_
    refine b_dup C dX12_tell_73 rfl ?_
    refine b_gI C dX12_tell_74 fl_X12_151 h13 ?_
    refine b_iconst C (v := 1) dX12_tell_77 (by decide) ?_
    refine b_iadd C dX12_tell_78 ?_
    obtain ⟨d50, ed50, hf⟩ := bd_s hf
    refine b_pI C dX12_tell_79 fl_X12_151 fp11_20 h13 ed50 ?_
    refine b_sub [(0, .ref (ad B x0)), (1, .int y1)] [0, 1] rfl ?_
    exact tX12_tell_82 C hr hlocks hf
set_option maxRecDepth 100000 in
def fX12_tell_J56 (N : Nat) (g : Gs) (x0 : Nat) (d : Ds) : Option (Unit × Ds) := gd (chk g x0 11) <| cv (fX12_fail N g x0 2 d) fun d54 => (some ((), d54))
set_option maxHeartbeats 4000000 in
set_option maxRecDepth 100000 in
theorem tX12_tell_56 {p : Program} {l : Launch} {e : Env} {s : State} {m : MethodId} {args : Array Value} {below : List Frame} {meth : Method} {c : Code} {D : va_G} {cy : Nat → ClassId} {B : Bs} (C : Cx p s m args c cX12_tell 3 RX12 D cy B) (hr : meth.sig.returnType = none) (hlocks : meth.locks = false) {N : Nat} {g : Gs} {x0 : Nat}  {dz : Ds} {d : Ds} (hf : fX12_tell_J56 N g x0 d = some ((), dz)) : WB p l e rmX12_tell s m args below meth c 3 D cy B 0 0 (MQ below (QV D cy B g dz) args s 0 0 (wA B)) g d [(0, .ref (ad B x0))] 56 [] := by
  unfold fX12_tell_J56 at hf
  refine b_aload_n C dX12_tell_56 0 rfl rfl ?_
  refine b_iconst C (v := 2) dX12_tell_57 (by decide) ?_
  obtain ⟨h53, hf⟩ := gd_s hf
  obtain ⟨d54, k55, hf⟩ := cv_s hf
  refine b_cVN C [] dX12_tell_58 (kX12_fail l D cy B k55) lv_X12_139 ⟨rfl, rfl, Nat.le_of_ble_eq_true rfl, Nat.le_of_ble_eq_true rfl⟩ h53 (by decide) rfl (Nat.le_of_ble_eq_true rfl) ⟨Nat.zero_le _, Nat.zero_le _⟩ rfl ?_
  exact b_vret C hr hlocks hf dX12_tell_61
set_option maxRecDepth 100000 in
def fX12_tell_J42 (N : Nat) (g : Gs) (x0 : Nat) (y1 : Int32) (d : Ds) : Option (Unit × Ds) := if y1 = (30 : Int32) then (gd (chk g x0 11) <| if (dI d x0 21) = (4 : Int32) then (fX12_tell_J56 N g x0 d) else (fX12_tell_J62 N g x0 y1 d)) else (fX12_tell_J62 N g x0 y1 d)
set_option maxHeartbeats 4000000 in
set_option maxRecDepth 100000 in
theorem tX12_tell_42 {p : Program} {l : Launch} {e : Env} {s : State} {m : MethodId} {args : Array Value} {below : List Frame} {meth : Method} {c : Code} {D : va_G} {cy : Nat → ClassId} {B : Bs} (C : Cx p s m args c cX12_tell 3 RX12 D cy B) (hr : meth.sig.returnType = none) (hlocks : meth.locks = false) {N : Nat} {g : Gs} {x0 : Nat}  {dz : Ds} {y1 : Int32} {d : Ds} (hf : fX12_tell_J42 N g x0 y1 d = some ((), dz)) : WB p l e rmX12_tell s m args below meth c 3 D cy B 0 0 (MQ below (QV D cy B g dz) args s 0 0 (wA B)) g d [(0, .ref (ad B x0)), (1, .int y1)] 42 [] := by
  unfold fX12_tell_J42 at hf
  refine b_iload_n C dX12_tell_42 1 rfl rfl ?_
  refine b_bipush C (v := 30) dX12_tell_43 (by decide) ?_
  refine b_icmp_ne C (tgt := 62) dX12_tell_45 (by decide) (fun c12 => ?_) (fun c12 => ?_)
  · have hf := if_s c12 hf
    refine b_sub [(0, .ref (ad B x0)), (1, .int y1)] [0, 1] rfl ?_
    exact tX12_tell_62 C hr hlocks hf
  · have hf := it_s c12 hf
    refine b_aload_n C dX12_tell_48 0 rfl rfl ?_
    obtain ⟨h51, hf⟩ := gd_s hf
    refine b_gI C dX12_tell_49 fl_X12_154 h51 ?_
    refine b_iconst C (v := 4) dX12_tell_52 (by decide) ?_
    refine b_icmp_ne C (tgt := 62) dX12_tell_53 (by decide) (fun c52 => ?_) (fun c52 => ?_)
    · have hf := if_s c52 hf
      refine b_sub [(0, .ref (ad B x0)), (1, .int y1)] [0, 1] rfl ?_
      exact tX12_tell_62 C hr hlocks hf
    · have hf := it_s c52 hf
      refine b_sub [(0, .ref (ad B x0))] [0] rfl ?_
      exact tX12_tell_56 C hr hlocks hf
set_option maxRecDepth 100000 in
def fX12_tell (N : Nat) (g : Gs) (x0 : Nat) (d : Ds) : Option (Unit × Ds) := gd (chk g x0 11) <| ob (gR g x0 5) fun r2 => (gd (chk g r2 102) <| gd (¬ ((dI d x0 11) < 0 ∨ gL g r2 ≤ (dI d x0 11).toNatClampNeg)) <| bd ((dI d r2 (dI d x0 11).toNatClampNeg)) fun u5 => (if u5 ≤ (20 : Int32) then (fX12_tell_J22 N g x0 d) else (if u5 ≤ (30 : Int32) then (if u5 = (29 : Int32) then (if (dI d x0 20) = (4 : Int32) then (fX12_tell_J56 N g x0 d) else (fX12_tell_J42 N g x0 u5 d)) else (fX12_tell_J42 N g x0 u5 d)) else (fX12_tell_J22 N g x0 d))))
set_option maxHeartbeats 4000000 in
set_option maxRecDepth 100000 in
theorem tX12_tell_E {p : Program} {l : Launch} {e : Env} {s : State} {m : MethodId} {args : Array Value} {below : List Frame} {meth : Method} {c : Code} {D : va_G} {cy : Nat → ClassId} {B : Bs} (C : Cx p s m args c cX12_tell 3 RX12 D cy B) (hr : meth.sig.returnType = none) (hlocks : meth.locks = false) {N : Nat} {g : Gs} {x0 : Nat}  {dz : Ds} {d : Ds} (hf : fX12_tell N g x0 d = some ((), dz)) : WB p l e rmX12_tell s m args below meth c 3 D cy B 0 0 (MQ below (QV D cy B g dz) args s 0 0 (wA B)) g d [(0, .ref (ad B x0))] 0 [] := by
  unfold fX12_tell at hf
  refine b_aload_n C dX12_tell_0 0 rfl rfl ?_
  obtain ⟨h1, hf⟩ := gd_s hf
  obtain ⟨r2, er2, hf⟩ := ob_s hf
  refine b_gR C dX12_tell_1 fl_X12_20 h1 er2 ?_
  refine b_aload_n C dX12_tell_4 0 rfl rfl ?_
  refine b_gI C dX12_tell_5 fl_X12_127 h1 ?_
  obtain ⟨h3, hf⟩ := gd_s hf
  obtain ⟨h4, hf⟩ := gd_s hf
  refine b_iald C h3 h4 dX12_tell_8 ?_
  obtain ⟨u5, eu5, hf⟩ := bd_s hf
  refine b_topI eu5 ?_
  refine b_istore_n C dX12_tell_9 rfl [(1, .int u5), (0, .ref (ad B x0))] (by decide) rfl ?_
  refine b_iload_n C dX12_tell_10 0 rfl rfl ?_
  refine b_bipush C (v := 20) dX12_tell_11 (by decide) ?_
  refine b_icmp_le C (tgt := 22) dX12_tell_13 (by decide) (fun c6 => ?_) (fun c6 => ?_)
  · have hf := it_s c6 hf
    refine b_sub [(0, .ref (ad B x0))] [1] rfl ?_
    exact tX12_tell_22 C hr hlocks hf
  · have hf := if_s c6 hf
    refine b_iload_n C dX12_tell_16 0 rfl rfl ?_
    refine b_bipush C (v := 30) dX12_tell_17 (by decide) ?_
    refine b_icmp_le C (tgt := 28) dX12_tell_19 (by decide) (fun c10 => ?_) (fun c10 => ?_)
    · have hf := it_s c10 hf
      refine b_iload_n C dX12_tell_28 0 rfl rfl ?_
      refine b_bipush C (v := 29) dX12_tell_29 (by decide) ?_
      refine b_icmp_ne C (tgt := 42) dX12_tell_31 (by decide) (fun c11 => ?_) (fun c11 => ?_)
      · have hf := if_s c11 hf
        refine b_sub [(0, .ref (ad B x0)), (1, .int u5)] [1, 0] rfl ?_
        exact tX12_tell_42 C hr hlocks hf
      · have hf := it_s c11 hf
        refine b_aload_n C dX12_tell_34 1 rfl rfl ?_
        refine b_gI C dX12_tell_35 fl_X12_151 h1 ?_
        refine b_iconst C (v := 4) dX12_tell_38 (by decide) ?_
        refine b_icmp_eq C (tgt := 56) dX12_tell_39 (by decide) (fun c56 => ?_) (fun c56 => ?_)
        · have hf := it_s c56 hf
          refine b_sub [(0, .ref (ad B x0))] [1] rfl ?_
          exact tX12_tell_56 C hr hlocks hf
        · have hf := if_s c56 hf
          refine b_sub [(0, .ref (ad B x0)), (1, .int u5)] [1, 0] rfl ?_
          exact tX12_tell_42 C hr hlocks hf
    · have hf := if_s c10 hf
      refine b_sub [(0, .ref (ad B x0))] [1] rfl ?_
      exact tX12_tell_22 C hr hlocks hf
theorem kX12_tell (l : Launch) (D : va_G) (cy : Nat → ClassId) (B : Bs) {N : Nat} {g : Gs} {x0 : Nat}  {dz : Ds} {d : Ds} (hf : fX12_tell N g x0 d = some ((), dz)) : Met l yX12_tell (.code yX12_tell cX12_tell 3 none :: wl) rmX12_tell (PC D cy B [.ref (ad B x0)] g d) (QV D cy B g dz) 0 0 (wA B) :=
  met_of (by decide +kernel) (Nat.le_of_ble_eq_true rfl) (fun p e s m args below meth c C hr hlocks _ => b_sub [(0, .ref (ad B x0))] [0] rfl (tX12_tell_E C hr hlocks hf))
/-! KeyMatrixModel.in(III)Z -/
theorem dX12_in_0 : decode cX12_in 0 = .ok (.iload_n 0, 1) := by decide +kernel
theorem dX12_in_1 : decode cX12_in 1 = .ok (.iload_n 1, 1) := by decide +kernel
theorem dX12_in_2 : decode cX12_in 2 = .ok (.if_icmp .lt 12, 3) := by decide +kernel
theorem dX12_in_5 : decode cX12_in 5 = .ok (.iload_n 0, 1) := by decide +kernel
theorem dX12_in_6 : decode cX12_in 6 = .ok (.iload_n 2, 1) := by decide +kernel
theorem dX12_in_7 : decode cX12_in 7 = .ok (.if_icmp .gt 7, 3) := by decide +kernel
theorem dX12_in_10 : decode cX12_in 10 = .ok (.iconst 1, 1) := by decide +kernel
theorem dX12_in_11 : decode cX12_in 11 = .ok (.goto 4, 3) := by decide +kernel
theorem dX12_in_14 : decode cX12_in 14 = .ok (.iconst 0, 1) := by decide +kernel
theorem dX12_in_15 : decode cX12_in 15 = .ok (.ireturn, 1) := by decide +kernel
def rmX12_in : Room := { frames := 0, cells := 0, slots := 0, locals := 0 }
set_option maxRecDepth 100000 in
def fX12_in_J15 (N : Nat) (g : Gs) (x0 : Int32) (x1 : Int32) (x2 : Int32) (z0 : Int32) (d : Ds) : Option (Int32 × Ds) := gd (z0 = 0 ∨ z0 = 1) <| some (z0, d)
set_option maxHeartbeats 4000000 in
set_option maxRecDepth 100000 in
theorem tX12_in_15 {p : Program} {l : Launch} {e : Env} {s : State} {m : MethodId} {args : Array Value} {below : List Frame} {meth : Method} {c : Code} {D : va_G} {cy : Nat → ClassId} {B : Bs} (C : Cx p s m args c cX12_in 3 RX12 D cy B) (hr : meth.sig.returnType = (some .boolean)) (hlocks : meth.locks = false) {N : Nat} {g : Gs} {x0 : Int32} {x1 : Int32} {x2 : Int32} {vz : Int32} {dz : Ds} {z0 : Int32} {d : Ds} (hf : fX12_in_J15 N g x0 x1 x2 z0 d = some (vz, dz)) : WB p l e rmX12_in s m args below meth c 3 D cy B 0 0 (MQ below (QI D cy B vz g dz) args s 0 0 (wA B)) g d [(0, .int x0), (1, .int x1), (2, .int x2)] 15 [.int z0] := by
  unfold fX12_in_J15 at hf
  obtain ⟨h2, hf⟩ := gd_s hf
  exact b_zret C hr hlocks h2 hf dX12_in_15
set_option maxRecDepth 100000 in
def fX12_in_J14 (N : Nat) (g : Gs) (x0 : Int32) (x1 : Int32) (x2 : Int32) (d : Ds) : Option (Int32 × Ds) := fX12_in_J15 N g x0 x1 x2 0 d
set_option maxHeartbeats 4000000 in
set_option maxRecDepth 100000 in
theorem tX12_in_14 {p : Program} {l : Launch} {e : Env} {s : State} {m : MethodId} {args : Array Value} {below : List Frame} {meth : Method} {c : Code} {D : va_G} {cy : Nat → ClassId} {B : Bs} (C : Cx p s m args c cX12_in 3 RX12 D cy B) (hr : meth.sig.returnType = (some .boolean)) (hlocks : meth.locks = false) {N : Nat} {g : Gs} {x0 : Int32} {x1 : Int32} {x2 : Int32} {vz : Int32} {dz : Ds} {d : Ds} (hf : fX12_in_J14 N g x0 x1 x2 d = some (vz, dz)) : WB p l e rmX12_in s m args below meth c 3 D cy B 0 0 (MQ below (QI D cy B vz g dz) args s 0 0 (wA B)) g d [(0, .int x0), (1, .int x1), (2, .int x2)] 14 [] := by
  unfold fX12_in_J14 at hf
  refine b_iconst C (v := 0) dX12_in_14 (by decide) ?_
  refine b_sub [(0, .int x0), (1, .int x1), (2, .int x2)] [0, 1, 2] rfl ?_
  exact tX12_in_15 C hr hlocks hf
set_option maxRecDepth 100000 in
def fX12_in (N : Nat) (g : Gs) (x0 : Int32) (x1 : Int32) (x2 : Int32) (d : Ds) : Option (Int32 × Ds) := if x0 < x1 then (fX12_in_J14 N g x0 x1 x2 d) else (if x2 < x0 then (fX12_in_J14 N g x0 x1 x2 d) else (fX12_in_J15 N g x0 x1 x2 1 d))
set_option maxHeartbeats 4000000 in
set_option maxRecDepth 100000 in
theorem tX12_in_E {p : Program} {l : Launch} {e : Env} {s : State} {m : MethodId} {args : Array Value} {below : List Frame} {meth : Method} {c : Code} {D : va_G} {cy : Nat → ClassId} {B : Bs} (C : Cx p s m args c cX12_in 3 RX12 D cy B) (hr : meth.sig.returnType = (some .boolean)) (hlocks : meth.locks = false) {N : Nat} {g : Gs} {x0 : Int32} {x1 : Int32} {x2 : Int32} {vz : Int32} {dz : Ds} {d : Ds} (hf : fX12_in N g x0 x1 x2 d = some (vz, dz)) : WB p l e rmX12_in s m args below meth c 3 D cy B 0 0 (MQ below (QI D cy B vz g dz) args s 0 0 (wA B)) g d [(0, .int x0), (1, .int x1), (2, .int x2)] 0 [] := by
  unfold fX12_in at hf
  refine b_iload_n C dX12_in_0 0 rfl rfl ?_
  refine b_iload_n C dX12_in_1 1 rfl rfl ?_
  refine b_icmp_lt C (tgt := 14) dX12_in_2 (by decide) (fun c1 => ?_) (fun c1 => ?_)
  · have hf := it_s c1 hf
    refine b_sub [(0, .int x0), (1, .int x1), (2, .int x2)] [0, 1, 2] rfl ?_
    exact tX12_in_14 C hr hlocks hf
  · have hf := if_s c1 hf
    refine b_iload_n C dX12_in_5 0 rfl rfl ?_
    refine b_iload_n C dX12_in_6 2 rfl rfl ?_
    refine b_icmp_gt C (tgt := 14) dX12_in_7 (by decide) (fun c3 => ?_) (fun c3 => ?_)
    · have hf := it_s c3 hf
      refine b_sub [(0, .int x0), (1, .int x1), (2, .int x2)] [0, 1, 2] rfl ?_
      exact tX12_in_14 C hr hlocks hf
    · have hf := if_s c3 hf
      refine b_iconst C (v := 1) dX12_in_10 (by decide) ?_
      refine b_goto C (tgt := 15) dX12_in_11 (by decide) ?_
      refine b_sub [(0, .int x0), (1, .int x1), (2, .int x2)] [0, 1, 2] rfl ?_
      exact tX12_in_15 C hr hlocks hf
theorem kX12_in (l : Launch) (D : va_G) (cy : Nat → ClassId) (B : Bs) {N : Nat} {g : Gs} {x0 : Int32} {x1 : Int32} {x2 : Int32} {vz : Int32} {dz : Ds} {d : Ds} (hf : fX12_in N g x0 x1 x2 d = some (vz, dz)) : Met l yX12_in (.code yX12_in cX12_in 3 (some .boolean) :: wl) rmX12_in (PC D cy B [.int x0, .int x1, .int x2] g d) (QI D cy B vz g dz) 0 0 (wA B) :=
  met_of (by decide +kernel) (Nat.le_of_ble_eq_true rfl) (fun p e s m args below meth c C hr hlocks _ => b_sub [(0, .int x0), (1, .int x1), (2, .int x2)] [0, 1, 2] rfl (tX12_in_E C hr hlocks hf))
/-! KeyMatrixModel.within(III)I -/
theorem yo_X12_in : yX12_in.cls ≠ "java/lang/invoke/MethodHandle" ∧ yX12_in.cls ≠ "java/lang/invoke/VarHandle" ∧ (parseMethodDescriptor yX12_in.desc).map (fun d => d.parameters.length) = some 3 := by decide +kernel
theorem co_X12_in : Cond.code yX12_in cX12_in 3 (some .boolean) ∈ wl := mW (mT6 (List.mem_of_getElem? (i := 25) (by decide +kernel))) rfl
theorem in_X12_in : Cond.initialized yX12_in.cls ∈ wl := mW (mT1 (List.mem_of_getElem? (i := 12) (by decide +kernel))) rfl
theorem st_X12_in : Cond.static yX12_in ∈ wl := mW (mT6 (List.mem_of_getElem? (i := 24) (by decide +kernel))) rfl
theorem lv_X12_169 : LSt RX12 169 yX12_in cX12_in 3 (some .boolean) 3 := ⟨yo_X12_in, Or.inl (mW (mT6 (List.mem_of_getElem? (i := 23) (by decide +kernel))) rfl), st_X12_in, in_X12_in, co_X12_in⟩
theorem yo_X12_wrong : yX12_wrong.cls ≠ "java/lang/invoke/MethodHandle" ∧ yX12_wrong.cls ≠ "java/lang/invoke/VarHandle" ∧ (parseMethodDescriptor yX12_wrong.desc).map (fun d => d.parameters.length) = some 2 := by decide +kernel
theorem co_X12_wrong : Cond.code yX12_wrong cX12_wrong 4 none ∈ wl := mW (mT6 (List.mem_of_getElem? (i := 29) (by decide +kernel))) rfl
theorem in_X12_wrong : Cond.initialized yX12_wrong.cls ∈ wl := mW (mT1 (List.mem_of_getElem? (i := 12) (by decide +kernel))) rfl
theorem im_X12_wrong : Cond.instanceMethod yX12_wrong ∈ wl := mW (mT6 (List.mem_of_getElem? (i := 28) (by decide +kernel))) rfl
theorem se_X12_wrong : Cond.selects yX12_wrong.cls yX12_wrong yX12_wrong ∈ wl := mW (mT0 (List.mem_of_getElem? (i := 45) (by decide +kernel))) rfl
theorem lv_X12_173 : LV RX12 173 yX12_wrong cX12_wrong 4 none 2 11 := ⟨⟨(RX12, TX12, 33), rfl, rfl⟩, yo_X12_wrong, mW (mT6 (List.mem_of_getElem? (i := 26) (by decide +kernel))) rfl, im_X12_wrong, se_X12_wrong, in_X12_wrong, co_X12_wrong⟩
theorem dX12_within_0 : decode cX12_within 0 = .ok (.aload_n 0, 1) := by decide +kernel
theorem dX12_within_1 : decode cX12_within 1 = .ok (.getfield 27, 3) := by decide +kernel
theorem dX12_within_4 : decode cX12_within 4 = .ok (.iload_n 1, 1) := by decide +kernel
theorem dX12_within_5 : decode cX12_within 5 = .ok (.iaload, 1) := by decide +kernel
theorem dX12_within_6 : decode cX12_within 6 = .ok (.iload_n 2, 1) := by decide +kernel
theorem dX12_within_7 : decode cX12_within 7 = .ok (.iload_n 3, 1) := by decide +kernel
theorem dX12_within_8 : decode cX12_within 8 = .ok (.invokestatic 169, 3) := by decide +kernel
theorem dX12_within_11 : decode cX12_within 11 = .ok (.ifCond .ne 9, 3) := by decide +kernel
theorem dX12_within_14 : decode cX12_within 14 = .ok (.aload_n 0, 1) := by decide +kernel
theorem dX12_within_15 : decode cX12_within 15 = .ok (.iconst 5, 1) := by decide +kernel
theorem dX12_within_16 : decode cX12_within 16 = .ok (.iload_n 1, 1) := by decide +kernel
theorem dX12_within_17 : decode cX12_within 17 = .ok (.invokevirtual 173, 3) := by decide +kernel
theorem dX12_within_20 : decode cX12_within 20 = .ok (.aload_n 0, 1) := by decide +kernel
theorem dX12_within_21 : decode cX12_within 21 = .ok (.getfield 27, 3) := by decide +kernel
theorem dX12_within_24 : decode cX12_within 24 = .ok (.iload_n 1, 1) := by decide +kernel
theorem dX12_within_25 : decode cX12_within 25 = .ok (.iaload, 1) := by decide +kernel
theorem dX12_within_26 : decode cX12_within 26 = .ok (.ireturn, 1) := by decide +kernel
def rmX12_within : Room := { frames := 1, cells := 0, slots := 0, locals := 23 }
set_option maxRecDepth 100000 in
def fX12_within_J20 (N : Nat) (g : Gs) (x0 : Nat) (x1 : Int32) (x2 : Int32) (x3 : Int32) (d : Ds) : Option (Int32 × Ds) := gd (chk g x0 11) <| ob (gR g x0 7) fun r10 => (gd (chk g r10 102) <| gd (¬ (x1 < 0 ∨ gL g r10 ≤ x1.toNatClampNeg)) <| some ((dI d r10 x1.toNatClampNeg), d))
set_option maxHeartbeats 4000000 in
set_option maxRecDepth 100000 in
theorem tX12_within_20 {p : Program} {l : Launch} {e : Env} {s : State} {m : MethodId} {args : Array Value} {below : List Frame} {meth : Method} {c : Code} {D : va_G} {cy : Nat → ClassId} {B : Bs} (C : Cx p s m args c cX12_within 4 RX12 D cy B) (hr : meth.sig.returnType = (some .int)) (hlocks : meth.locks = false) {N : Nat} {g : Gs} {x0 : Nat} {x1 : Int32} {x2 : Int32} {x3 : Int32} {vz : Int32} {dz : Ds} {d : Ds} (hf : fX12_within_J20 N g x0 x1 x2 x3 d = some (vz, dz)) : WB p l e rmX12_within s m args below meth c 4 D cy B 0 0 (MQ below (QI D cy B vz g dz) args s 0 0 (wA B)) g d [(0, .ref (ad B x0)), (1, .int x1), (2, .int x2), (3, .int x3)] 20 [] := by
  unfold fX12_within_J20 at hf
  refine b_aload_n C dX12_within_20 0 rfl rfl ?_
  obtain ⟨h9, hf⟩ := gd_s hf
  obtain ⟨r10, er10, hf⟩ := ob_s hf
  refine b_gR C dX12_within_21 fl_X12_27 h9 er10 ?_
  refine b_iload_n C dX12_within_24 1 rfl rfl ?_
  obtain ⟨h11, hf⟩ := gd_s hf
  obtain ⟨h12, hf⟩ := gd_s hf
  refine b_iald C h11 h12 dX12_within_25 ?_
  exact b_iret C hr hlocks hf dX12_within_26
set_option maxRecDepth 100000 in
def fX12_within (N : Nat) (g : Gs) (x0 : Nat) (x1 : Int32) (x2 : Int32) (x3 : Int32) (d : Ds) : Option (Int32 × Ds) := gd (chk g x0 11) <| ob (gR g x0 7) fun r2 => (gd (chk g r2 102) <| gd (¬ (x1 < 0 ∨ gL g r2 ≤ x1.toNatClampNeg)) <| cb (fX12_in N g (dI d r2 x1.toNatClampNeg) x2 x3 d) fun u7 d5 => (if u7 = 0 then (cv (fX12_wrong N g x0 5 x1 d5) fun d13 => (fX12_within_J20 N g x0 x1 x2 x3 d13)) else (fX12_within_J20 N g x0 x1 x2 x3 d5)))
set_option maxHeartbeats 4000000 in
set_option maxRecDepth 100000 in
theorem tX12_within_E {p : Program} {l : Launch} {e : Env} {s : State} {m : MethodId} {args : Array Value} {below : List Frame} {meth : Method} {c : Code} {D : va_G} {cy : Nat → ClassId} {B : Bs} (C : Cx p s m args c cX12_within 4 RX12 D cy B) (hr : meth.sig.returnType = (some .int)) (hlocks : meth.locks = false) {N : Nat} {g : Gs} {x0 : Nat} {x1 : Int32} {x2 : Int32} {x3 : Int32} {vz : Int32} {dz : Ds} {d : Ds} (hf : fX12_within N g x0 x1 x2 x3 d = some (vz, dz)) : WB p l e rmX12_within s m args below meth c 4 D cy B 0 0 (MQ below (QI D cy B vz g dz) args s 0 0 (wA B)) g d [(0, .ref (ad B x0)), (1, .int x1), (2, .int x2), (3, .int x3)] 0 [] := by
  unfold fX12_within at hf
  refine b_aload_n C dX12_within_0 0 rfl rfl ?_
  obtain ⟨h1, hf⟩ := gd_s hf
  obtain ⟨r2, er2, hf⟩ := ob_s hf
  refine b_gR C dX12_within_1 fl_X12_27 h1 er2 ?_
  refine b_iload_n C dX12_within_4 1 rfl rfl ?_
  obtain ⟨h3, hf⟩ := gd_s hf
  obtain ⟨h4, hf⟩ := gd_s hf
  refine b_iald C h3 h4 dX12_within_5 ?_
  refine b_iload_n C dX12_within_6 2 rfl rfl ?_
  refine b_iload_n C dX12_within_7 3 rfl rfl ?_
  obtain ⟨u7, d5, k6, hf⟩ := cb_s hf
  refine b_cSI C [] dX12_within_8 (kX12_in l D cy B k6) lv_X12_169 ⟨rfl, rfl, Nat.le_of_ble_eq_true rfl, Nat.le_of_ble_eq_true rfl⟩ rfl (Nat.le_of_ble_eq_true rfl) ⟨Nat.zero_le _, Nat.zero_le _⟩ rfl ?_
  refine b_if_ne C (tgt := 20) dX12_within_11 (by decide) (fun c8 => ?_) (fun c8 => ?_)
  · have hf := if_s c8 hf
    refine b_sub [(0, .ref (ad B x0)), (1, .int x1), (2, .int x2), (3, .int x3)] [0, 1, 2, 3] rfl ?_
    exact tX12_within_20 C hr hlocks hf
  · have hf := it_s c8 hf
    refine b_aload_n C dX12_within_14 0 rfl rfl ?_
    refine b_iconst C (v := 5) dX12_within_15 (by decide) ?_
    refine b_iload_n C dX12_within_16 1 rfl rfl ?_
    obtain ⟨d13, k14, hf⟩ := cv_s hf
    refine b_cVN C [] dX12_within_17 (kX12_wrong l D cy B k14) lv_X12_173 ⟨rfl, rfl, Nat.le_of_ble_eq_true rfl, Nat.le_of_ble_eq_true rfl⟩ h1 (by decide) rfl (Nat.le_of_ble_eq_true rfl) ⟨Nat.zero_le _, Nat.zero_le _⟩ rfl ?_
    refine b_sub [(0, .ref (ad B x0)), (1, .int x1), (2, .int x2), (3, .int x3)] [0, 1, 2, 3] rfl ?_
    exact tX12_within_20 C hr hlocks hf
theorem kX12_within (l : Launch) (D : va_G) (cy : Nat → ClassId) (B : Bs) {N : Nat} {g : Gs} {x0 : Nat} {x1 : Int32} {x2 : Int32} {x3 : Int32} {vz : Int32} {dz : Ds} {d : Ds} (hf : fX12_within N g x0 x1 x2 x3 d = some (vz, dz)) : Met l yX12_within (.code yX12_within cX12_within 4 (some .int) :: wl) rmX12_within (PC D cy B [.ref (ad B x0), .int x1, .int x2, .int x3] g d) (QI D cy B vz g dz) 0 0 (wA B) :=
  met_of (by decide +kernel) (Nat.le_of_ble_eq_true rfl) (fun p e s m args below meth c C hr hlocks _ => b_sub [(0, .ref (ad B x0)), (1, .int x1), (2, .int x2), (3, .int x3)] [0, 1, 2, 3] rfl (tX12_within_E C hr hlocks hf))
