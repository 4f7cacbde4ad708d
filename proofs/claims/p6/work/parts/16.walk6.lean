/-! KeyMatrix.key(II)I -/
theorem yo_X11_bitOf : yX11_bitOf.cls ≠ "java/lang/invoke/MethodHandle" ∧ yX11_bitOf.cls ≠ "java/lang/invoke/VarHandle" ∧ (parseMethodDescriptor yX11_bitOf.desc).map (fun d => d.parameters.length) = some 2 := by decide +kernel
theorem co_X11_bitOf : Cond.code yX11_bitOf cX11_bitOf 2 (some .int) ∈ wl := mW (mT4 (List.mem_of_getElem? (i := 214) (by decide +kernel))) rfl
theorem in_X11_bitOf : Cond.initialized yX11_bitOf.cls ∈ wl := mW (mT1 (List.mem_of_getElem? (i := 1) (by decide +kernel))) rfl
theorem st_X11_bitOf : Cond.static yX11_bitOf ∈ wl := mW (mT4 (List.mem_of_getElem? (i := 213) (by decide +kernel))) rfl
theorem lv_X11_123 : LSt RX11 123 yX11_bitOf cX11_bitOf 2 (some .int) 2 := ⟨yo_X11_bitOf, Or.inl (mW (mT4 (List.mem_of_getElem? (i := 212) (by decide +kernel))) rfl), st_X11_bitOf, in_X11_bitOf, co_X11_bitOf⟩
theorem fl_X11_127 : FLI RX11 127 6 3 := ⟨⟨RX6, TX6, 9, rfl, by decide, inl6, Or.inr (mT2 (List.mem_of_getElem? (i := 42) (by decide +kernel)))⟩, by decide, by decide +kernel⟩
theorem fl_X11_130 : FLR RX11 130 6 4 := ⟨⟨RX6, TX6, 9, rfl, by decide, inl6, Or.inr (mT2 (List.mem_of_getElem? (i := 44) (by decide +kernel)))⟩, by decide, by decide +kernel⟩
theorem fl_X11_134 : FLR RX11 134 6 5 := ⟨⟨RX6, TX6, 9, rfl, by decide, inl6, Or.inr (mT2 (List.mem_of_getElem? (i := 46) (by decide +kernel)))⟩, by decide, by decide +kernel⟩
theorem yo_X11_floatBits : yX11_floatBits.cls ≠ "java/lang/invoke/MethodHandle" ∧ yX11_floatBits.cls ≠ "java/lang/invoke/VarHandle" ∧ (parseMethodDescriptor yX11_floatBits.desc).map (fun d => d.parameters.length) = some 1 := by decide +kernel
theorem co_X11_floatBits : Cond.code yX11_floatBits cX11_floatBits 3 (some .int) ∈ wl := mW (mT4 (List.mem_of_getElem? (i := 217) (by decide +kernel))) rfl
theorem in_X11_floatBits : Cond.initialized yX11_floatBits.cls ∈ wl := mW (mT1 (List.mem_of_getElem? (i := 1) (by decide +kernel))) rfl
theorem st_X11_floatBits : Cond.static yX11_floatBits ∈ wl := mW (mT4 (List.mem_of_getElem? (i := 216) (by decide +kernel))) rfl
theorem lv_X11_138 : LSt RX11 138 yX11_floatBits cX11_floatBits 3 (some .int) 1 := ⟨yo_X11_floatBits, Or.inl (mW (mT4 (List.mem_of_getElem? (i := 215) (by decide +kernel))) rfl), st_X11_floatBits, in_X11_floatBits, co_X11_floatBits⟩
theorem dX11_key_0 : decode cX11_key 0 = .ok (.aload_n 0, 1) := by decide +kernel
theorem dX11_key_1 : decode cX11_key 1 = .ok (.getfield 30, 3) := by decide +kernel
theorem dX11_key_4 : decode cX11_key 4 = .ok (.iload_n 1, 1) := by decide +kernel
theorem dX11_key_5 : decode cX11_key 5 = .ok (.invokevirtual 82, 3) := by decide +kernel
theorem dX11_key_8 : decode cX11_key 8 = .ok (.ifCond .ne 5, 3) := by decide +kernel
theorem dX11_key_11 : decode cX11_key 11 = .ok (.iconst (-1), 1) := by decide +kernel
theorem dX11_key_12 : decode cX11_key 12 = .ok (.ireturn, 1) := by decide +kernel
theorem dX11_key_13 : decode cX11_key 13 = .ok (.aload_n 0, 1) := by decide +kernel
theorem dX11_key_14 : decode cX11_key 14 = .ok (.getfield 46, 3) := by decide +kernel
theorem dX11_key_17 : decode cX11_key 17 = .ok (.getfield 78, 3) := by decide +kernel
theorem dX11_key_20 : decode cX11_key 20 = .ok (.astore_n 3, 1) := by decide +kernel
theorem dX11_key_21 : decode cX11_key 21 = .ok (.iload_n 2, 1) := by decide +kernel
theorem dX11_key_22 : decode cX11_key 22 = .ok (.tableswitch 91 0 5 #[38, 47, 56, 65, 74, 81], 38) := by decide +kernel
theorem dX11_key_60 : decode cX11_key 60 = .ok (.aload_n 3, 1) := by decide +kernel
theorem dX11_key_61 : decode cX11_key 61 = .ok (.getfield 86, 3) := by decide +kernel
theorem dX11_key_64 : decode cX11_key 64 = .ok (.iload_n 1, 1) := by decide +kernel
theorem dX11_key_65 : decode cX11_key 65 = .ok (.invokestatic 123, 3) := by decide +kernel
theorem dX11_key_68 : decode cX11_key 68 = .ok (.ireturn, 1) := by decide +kernel
theorem dX11_key_69 : decode cX11_key 69 = .ok (.aload_n 3, 1) := by decide +kernel
theorem dX11_key_70 : decode cX11_key 70 = .ok (.getfield 102, 3) := by decide +kernel
theorem dX11_key_73 : decode cX11_key 73 = .ok (.iload_n 1, 1) := by decide +kernel
theorem dX11_key_74 : decode cX11_key 74 = .ok (.invokestatic 123, 3) := by decide +kernel
theorem dX11_key_77 : decode cX11_key 77 = .ok (.ireturn, 1) := by decide +kernel
theorem dX11_key_78 : decode cX11_key 78 = .ok (.aload_n 3, 1) := by decide +kernel
theorem dX11_key_79 : decode cX11_key 79 = .ok (.getfield 106, 3) := by decide +kernel
theorem dX11_key_82 : decode cX11_key 82 = .ok (.iload_n 1, 1) := by decide +kernel
theorem dX11_key_83 : decode cX11_key 83 = .ok (.invokestatic 123, 3) := by decide +kernel
theorem dX11_key_86 : decode cX11_key 86 = .ok (.ireturn, 1) := by decide +kernel
theorem dX11_key_87 : decode cX11_key 87 = .ok (.aload_n 3, 1) := by decide +kernel
theorem dX11_key_88 : decode cX11_key 88 = .ok (.getfield 127, 3) := by decide +kernel
theorem dX11_key_91 : decode cX11_key 91 = .ok (.iload_n 1, 1) := by decide +kernel
theorem dX11_key_92 : decode cX11_key 92 = .ok (.invokestatic 123, 3) := by decide +kernel
theorem dX11_key_95 : decode cX11_key 95 = .ok (.ireturn, 1) := by decide +kernel
theorem dX11_key_96 : decode cX11_key 96 = .ok (.aload_n 3, 1) := by decide +kernel
theorem dX11_key_97 : decode cX11_key 97 = .ok (.getfield 130, 3) := by decide +kernel
theorem dX11_key_100 : decode cX11_key 100 = .ok (.iload_n 1, 1) := by decide +kernel
theorem dX11_key_101 : decode cX11_key 101 = .ok (.iaload, 1) := by decide +kernel
theorem dX11_key_102 : decode cX11_key 102 = .ok (.ireturn, 1) := by decide +kernel
theorem dX11_key_103 : decode cX11_key 103 = .ok (.aload_n 3, 1) := by decide +kernel
theorem dX11_key_104 : decode cX11_key 104 = .ok (.getfield 134, 3) := by decide +kernel
theorem dX11_key_107 : decode cX11_key 107 = .ok (.iload_n 1, 1) := by decide +kernel
theorem dX11_key_108 : decode cX11_key 108 = .ok (.faload, 1) := by decide +kernel
theorem dX11_key_109 : decode cX11_key 109 = .ok (.invokestatic 138, 3) := by decide +kernel
theorem dX11_key_112 : decode cX11_key 112 = .ok (.ireturn, 1) := by decide +kernel
theorem dX11_key_113 : decode cX11_key 113 = .ok (.iconst (-1), 1) := by decide +kernel
theorem dX11_key_114 : decode cX11_key 114 = .ok (.ireturn, 1) := by decide +kernel
def rmX11_key : Room := { frames := 2, cells := 0, slots := 0, locals := 41 }
set_option maxRecDepth 100000 in
def fX11_key (N : Nat) (g : Gs) (x0 : Nat) (x1 : Int32) (x2 : Int32) (d : Ds) : Option (Int32 × Ds) := gd (chk g x0 10) <| ob (gR g x0 4) fun r2 => (gd (chk g r2 0) <| cb (fX0_hasKey N g r2 x1 d) fun u6 d4 => (if u6 = 0 then (some ((-1), d4)) else (ob (gR g x0 6) fun r8 => (gd (chk g r8 1) <| ob (gR g r8 1) fun r10 => (if x2.toInt < 0 ∨ 5 < x2.toInt then (some ((-1), d4)) else if x2 = 0 then (gd (chk g r10 6) <| cb (fX11_bitOf N g (dI d4 r10 0) x1 d4) fun u16 d14 => (some (u16, d14))) else if x2 = 1 then (gd (chk g r10 6) <| cb (fX11_bitOf N g (dI d4 r10 1) x1 d4) fun u21 d19 => (some (u21, d19))) else if x2 = 2 then (gd (chk g r10 6) <| cb (fX11_bitOf N g (dI d4 r10 2) x1 d4) fun u26 d24 => (some (u26, d24))) else if x2 = 3 then (gd (chk g r10 6) <| cb (fX11_bitOf N g (dI d4 r10 3) x1 d4) fun u31 d29 => (some (u31, d29))) else if x2 = 4 then (gd (chk g r10 6) <| ob (gR g r10 4) fun r34 => (gd (chk g r34 102) <| gd (¬ (x1 < 0 ∨ gL g r34 ≤ x1.toNatClampNeg)) <| some ((dI d4 r34 x1.toNatClampNeg), d4))) else if x2 = 5 then (gd (chk g r10 6) <| ob (gR g r10 5) fun r39 => (gd (chk g r39 101) <| gd (¬ (x1 < 0 ∨ gL g r39 ≤ x1.toNatClampNeg)) <| cb (fX11_floatBits N g (dF d4 r39 x1.toNatClampNeg) d4) fun u44 d42 => (some (u44, d42)))) else none)))))
set_option maxHeartbeats 4000000 in
set_option maxRecDepth 100000 in
theorem tX11_key_E {p : Program} {l : Launch} {e : Env} {s : State} {m : MethodId} {args : Array Value} {below : List Frame} {meth : Method} {c : Code} {D : va_G} {cy : Nat → ClassId} {B : Bs} (C : Cx p s m args c cX11_key 4 RX11 D cy B) (hr : meth.sig.returnType = (some .int)) (hlocks : meth.locks = false) {N : Nat} {g : Gs} {x0 : Nat} {x1 : Int32} {x2 : Int32} {vz : Int32} {dz : Ds} {d : Ds} (hf : fX11_key N g x0 x1 x2 d = some (vz, dz)) : WB p l e rmX11_key s m args below meth c 4 D cy B 0 0 (MQ below (QI D cy B vz g dz) args s 0 0 (wA B)) g d [(0, .ref (ad B x0)), (1, .int x1), (2, .int x2)] 0 [] := by
  unfold fX11_key at hf
  refine b_aload_n C dX11_key_0 0 rfl rfl ?_
  obtain ⟨h1, hf⟩ := gd_s hf
  obtain ⟨r2, er2, hf⟩ := ob_s hf
  refine b_gR C dX11_key_1 fl_X11_30 h1 er2 ?_
  refine b_iload_n C dX11_key_4 1 rfl rfl ?_
  obtain ⟨h3, hf⟩ := gd_s hf
  obtain ⟨u6, d4, k5, hf⟩ := cb_s hf
  refine b_cVI C [] dX11_key_5 (kX0_hasKey l D cy B k5) lv_X11_82 ⟨rfl, rfl, Nat.le_of_ble_eq_true rfl, Nat.le_of_ble_eq_true rfl⟩ h3 (by decide) rfl (Nat.le_of_ble_eq_true rfl) ⟨Nat.zero_le _, Nat.zero_le _⟩ rfl ?_
  refine b_if_ne C (tgt := 13) dX11_key_8 (by decide) (fun c7 => ?_) (fun c7 => ?_)
  · have hf := if_s c7 hf
    refine b_aload_n C dX11_key_13 0 rfl rfl ?_
    obtain ⟨r8, er8, hf⟩ := ob_s hf
    refine b_gR C dX11_key_14 fl_X11_46 h1 er8 ?_
    obtain ⟨h9, hf⟩ := gd_s hf
    obtain ⟨r10, er10, hf⟩ := ob_s hf
    refine b_gR C dX11_key_17 fl_X11_78 h9 er10 ?_
    refine b_astore_n C dX11_key_20 rfl [(3, .ref (ad B r10)), (0, .ref (ad B x0)), (1, .int x1), (2, .int x2)] (by decide) rfl ?_
    refine b_iload_n C dX11_key_21 3 rfl rfl ?_
    by_cases c11 : x2.toInt < 0 ∨ 5 < x2.toInt
    · have hf := it_s c11 hf
      refine b_tabOut C (tgt := 113) dX11_key_22 c11 (by decide) ?_
      refine b_iconst C (v := (-1)) dX11_key_113 (by decide) ?_
      exact b_iret C hr hlocks hf dX11_key_114
    · have hf := if_s c11 hf
      by_cases c12 : x2 = 0
      · have hf := it_s c12 hf
        refine b_tabIn C (tgt := 60) (off := 38) dX11_key_22 c12 (by decide) (by decide) (by decide) (by decide) ?_
        refine b_aload_n C dX11_key_60 0 rfl rfl ?_
        obtain ⟨h13, hf⟩ := gd_s hf
        refine b_gI C dX11_key_61 fl_X11_86 h13 ?_
        refine b_iload_n C dX11_key_64 2 rfl rfl ?_
        obtain ⟨u16, d14, k15, hf⟩ := cb_s hf
        refine b_cSI C [] dX11_key_65 (kX11_bitOf l D cy B k15) lv_X11_123 ⟨rfl, rfl, Nat.le_of_ble_eq_true rfl, Nat.le_of_ble_eq_true rfl⟩ rfl (Nat.le_of_ble_eq_true rfl) ⟨Nat.zero_le _, Nat.zero_le _⟩ rfl ?_
        exact b_iret C hr hlocks hf dX11_key_68
      have hf := if_s c12 hf
      by_cases c17 : x2 = 1
      · have hf := it_s c17 hf
        refine b_tabIn C (tgt := 69) (off := 47) dX11_key_22 c17 (by decide) (by decide) (by decide) (by decide) ?_
        refine b_aload_n C dX11_key_69 0 rfl rfl ?_
        obtain ⟨h18, hf⟩ := gd_s hf
        refine b_gI C dX11_key_70 fl_X11_102 h18 ?_
        refine b_iload_n C dX11_key_73 2 rfl rfl ?_
        obtain ⟨u21, d19, k20, hf⟩ := cb_s hf
        refine b_cSI C [] dX11_key_74 (kX11_bitOf l D cy B k20) lv_X11_123 ⟨rfl, rfl, Nat.le_of_ble_eq_true rfl, Nat.le_of_ble_eq_true rfl⟩ rfl (Nat.le_of_ble_eq_true rfl) ⟨Nat.zero_le _, Nat.zero_le _⟩ rfl ?_
        exact b_iret C hr hlocks hf dX11_key_77
      have hf := if_s c17 hf
      by_cases c22 : x2 = 2
      · have hf := it_s c22 hf
        refine b_tabIn C (tgt := 78) (off := 56) dX11_key_22 c22 (by decide) (by decide) (by decide) (by decide) ?_
        refine b_aload_n C dX11_key_78 0 rfl rfl ?_
        obtain ⟨h23, hf⟩ := gd_s hf
        refine b_gI C dX11_key_79 fl_X11_106 h23 ?_
        refine b_iload_n C dX11_key_82 2 rfl rfl ?_
        obtain ⟨u26, d24, k25, hf⟩ := cb_s hf
        refine b_cSI C [] dX11_key_83 (kX11_bitOf l D cy B k25) lv_X11_123 ⟨rfl, rfl, Nat.le_of_ble_eq_true rfl, Nat.le_of_ble_eq_true rfl⟩ rfl (Nat.le_of_ble_eq_true rfl) ⟨Nat.zero_le _, Nat.zero_le _⟩ rfl ?_
        exact b_iret C hr hlocks hf dX11_key_86
      have hf := if_s c22 hf
      by_cases c27 : x2 = 3
      · have hf := it_s c27 hf
        refine b_tabIn C (tgt := 87) (off := 65) dX11_key_22 c27 (by decide) (by decide) (by decide) (by decide) ?_
        refine b_aload_n C dX11_key_87 0 rfl rfl ?_
        obtain ⟨h28, hf⟩ := gd_s hf
        refine b_gI C dX11_key_88 fl_X11_127 h28 ?_
        refine b_iload_n C dX11_key_91 2 rfl rfl ?_
        obtain ⟨u31, d29, k30, hf⟩ := cb_s hf
        refine b_cSI C [] dX11_key_92 (kX11_bitOf l D cy B k30) lv_X11_123 ⟨rfl, rfl, Nat.le_of_ble_eq_true rfl, Nat.le_of_ble_eq_true rfl⟩ rfl (Nat.le_of_ble_eq_true rfl) ⟨Nat.zero_le _, Nat.zero_le _⟩ rfl ?_
        exact b_iret C hr hlocks hf dX11_key_95
      have hf := if_s c27 hf
      by_cases c32 : x2 = 4
      · have hf := it_s c32 hf
        refine b_tabIn C (tgt := 96) (off := 74) dX11_key_22 c32 (by decide) (by decide) (by decide) (by decide) ?_
        refine b_aload_n C dX11_key_96 0 rfl rfl ?_
        obtain ⟨h33, hf⟩ := gd_s hf
        obtain ⟨r34, er34, hf⟩ := ob_s hf
        refine b_gR C dX11_key_97 fl_X11_130 h33 er34 ?_
        refine b_iload_n C dX11_key_100 2 rfl rfl ?_
        obtain ⟨h35, hf⟩ := gd_s hf
        obtain ⟨h36, hf⟩ := gd_s hf
        refine b_iald C h35 h36 dX11_key_101 ?_
        exact b_iret C hr hlocks hf dX11_key_102
      have hf := if_s c32 hf
      by_cases c37 : x2 = 5
      · have hf := it_s c37 hf
        refine b_tabIn C (tgt := 103) (off := 81) dX11_key_22 c37 (by decide) (by decide) (by decide) (by decide) ?_
        refine b_aload_n C dX11_key_103 0 rfl rfl ?_
        obtain ⟨h38, hf⟩ := gd_s hf
        obtain ⟨r39, er39, hf⟩ := ob_s hf
        refine b_gR C dX11_key_104 fl_X11_134 h38 er39 ?_
        refine b_iload_n C dX11_key_107 2 rfl rfl ?_
        obtain ⟨h40, hf⟩ := gd_s hf
        obtain ⟨h41, hf⟩ := gd_s hf
        refine b_fald C h40 h41 dX11_key_108 ?_
        obtain ⟨u44, d42, k43, hf⟩ := cb_s hf
        refine b_cSI C [] dX11_key_109 (kX11_floatBits l D cy B k43) lv_X11_138 ⟨rfl, rfl, Nat.le_of_ble_eq_true rfl, Nat.le_of_ble_eq_true rfl⟩ rfl (Nat.le_of_ble_eq_true rfl) ⟨Nat.zero_le _, Nat.zero_le _⟩ rfl ?_
        exact b_iret C hr hlocks hf dX11_key_112
      have hf := if_s c37 hf
      cases hf
  · have hf := it_s c7 hf
    refine b_iconst C (v := (-1)) dX11_key_11 (by decide) ?_
    exact b_iret C hr hlocks hf dX11_key_12
theorem kX11_key (l : Launch) (D : va_G) (cy : Nat → ClassId) (B : Bs) {N : Nat} {g : Gs} {x0 : Nat} {x1 : Int32} {x2 : Int32} {vz : Int32} {dz : Ds} {d : Ds} (hf : fX11_key N g x0 x1 x2 d = some (vz, dz)) : Met l yX11_key (.code yX11_key cX11_key 4 (some .int) :: wl) rmX11_key (PC D cy B [.ref (ad B x0), .int x1, .int x2] g d) (QI D cy B vz g dz) 0 0 (wA B) :=
  met_of (by decide +kernel) (Nat.le_of_ble_eq_true rfl) (fun p e s m args below meth c C hr hlocks _ => b_sub [(0, .ref (ad B x0)), (1, .int x1), (2, .int x2)] [0, 1, 2] rfl (tX11_key_E C hr hlocks hf))
/-! KeyMatrix.deed(III)I -/
theorem lv_X11_149 : LV RX11 149 yX0_toldDeed cX0_toldDeed 3 (some (.object "KeyMatrix$Deed")) 2 0 := ⟨⟨(RX0, TX0, 19), rfl, rfl⟩, yo_X0_toldDeed, mW (mT4 (List.mem_of_getElem? (i := 225) (by decide +kernel))) rfl, im_X0_toldDeed, se_X0_toldDeed, in_X0_toldDeed, co_X0_toldDeed⟩
theorem fl_X11_152 : FLI RX11 152 2 0 := ⟨⟨RX2, TX2, 3, rfl, by decide, inl2, Or.inr (mT1 (List.mem_of_getElem? (i := 74) (by decide +kernel)))⟩, by decide, by decide +kernel⟩
theorem fl_X11_157 : FLI RX11 157 2 1 := ⟨⟨RX2, TX2, 3, rfl, by decide, inl2, Or.inr (mT1 (List.mem_of_getElem? (i := 78) (by decide +kernel)))⟩, by decide, by decide +kernel⟩
theorem fl_X11_160 : FLI RX11 160 2 2 := ⟨⟨RX2, TX2, 3, rfl, by decide, inl2, Or.inr (mT1 (List.mem_of_getElem? (i := 82) (by decide +kernel)))⟩, by decide, by decide +kernel⟩
theorem lv_X11_142 : LV RX11 142 yX1_activeLayers cX1_activeLayers 3 (some .int) 0 1 := ⟨⟨(RX1, TX1, 6), rfl, rfl⟩, yo_X1_activeLayers, mW (mT4 (List.mem_of_getElem? (i := 223) (by decide +kernel))) rfl, im_X1_activeLayers, se_X1_activeLayers, in_X1_activeLayers, co_X1_activeLayers⟩
theorem lv_X11_145 : LV RX11 145 yX0_deedIn cX0_deedIn 5 (some (.object "KeyMatrix$Deed")) 2 0 := ⟨⟨(RX0, TX0, 19), rfl, rfl⟩, yo_X0_deedIn, mW (mT4 (List.mem_of_getElem? (i := 224) (by decide +kernel))) rfl, im_X0_deedIn, se_X0_deedIn, in_X0_deedIn, co_X0_deedIn⟩
theorem dX11_deed_0 : decode cX11_deed 0 = .ok (.aload_n 0, 1) := by decide +kernel
theorem dX11_deed_1 : decode cX11_deed 1 = .ok (.getfield 30, 3) := by decide +kernel
theorem dX11_deed_4 : decode cX11_deed 4 = .ok (.iload_n 2, 1) := by decide +kernel
theorem dX11_deed_5 : decode cX11_deed 5 = .ok (.invokevirtual 82, 3) := by decide +kernel
theorem dX11_deed_8 : decode cX11_deed 8 = .ok (.ifCond .ne 5, 3) := by decide +kernel
theorem dX11_deed_11 : decode cX11_deed 11 = .ok (.iconst (-1), 1) := by decide +kernel
theorem dX11_deed_12 : decode cX11_deed 12 = .ok (.ireturn, 1) := by decide +kernel
theorem dX11_deed_13 : decode cX11_deed 13 = .ok (.iload_n 1, 1) := by decide +kernel
theorem dX11_deed_14 : decode cX11_deed 14 = .ok (.iconst (-1), 1) := by decide +kernel
theorem dX11_deed_15 : decode cX11_deed 15 = .ok (.if_icmp .ne 21, 3) := by decide +kernel
theorem dX11_deed_18 : decode cX11_deed 18 = .ok (.aload_n 0, 1) := by decide +kernel
theorem dX11_deed_19 : decode cX11_deed 19 = .ok (.getfield 30, 3) := by decide +kernel
theorem dX11_deed_22 : decode cX11_deed 22 = .ok (.aload_n 0, 1) := by decide +kernel
theorem dX11_deed_23 : decode cX11_deed 23 = .ok (.getfield 46, 3) := by decide +kernel
theorem dX11_deed_26 : decode cX11_deed 26 = .ok (.invokevirtual 142, 3) := by decide +kernel
theorem dX11_deed_29 : decode cX11_deed 29 = .ok (.iload_n 2, 1) := by decide +kernel
theorem dX11_deed_30 : decode cX11_deed 30 = .ok (.invokevirtual 145, 3) := by decide +kernel
theorem dX11_deed_33 : decode cX11_deed 33 = .ok (.goto 12, 3) := by decide +kernel
theorem dX11_deed_36 : decode cX11_deed 36 = .ok (.aload_n 0, 1) := by decide +kernel
theorem dX11_deed_37 : decode cX11_deed 37 = .ok (.getfield 30, 3) := by decide +kernel
theorem dX11_deed_40 : decode cX11_deed 40 = .ok (.iload_n 1, 1) := by decide +kernel
theorem dX11_deed_41 : decode cX11_deed 41 = .ok (.iload_n 2, 1) := by decide +kernel
theorem dX11_deed_42 : decode cX11_deed 42 = .ok (.invokevirtual 149, 3) := by decide +kernel
theorem dX11_deed_45 : decode cX11_deed 45 = .ok (.astore 4, 2) := by decide +kernel
theorem dX11_deed_47 : decode cX11_deed 47 = .ok (.aload 4, 2) := by decide +kernel
theorem dX11_deed_49 : decode cX11_deed 49 = .ok (.ifnonnull 5, 3) := by decide +kernel
theorem dX11_deed_52 : decode cX11_deed 52 = .ok (.iconst (-1), 1) := by decide +kernel
theorem dX11_deed_53 : decode cX11_deed 53 = .ok (.ireturn, 1) := by decide +kernel
theorem dX11_deed_54 : decode cX11_deed 54 = .ok (.iload_n 3, 1) := by decide +kernel
theorem dX11_deed_55 : decode cX11_deed 55 = .ok (.tableswitch 43 0 2 #[25, 31, 37], 25) := by decide +kernel
theorem dX11_deed_80 : decode cX11_deed 80 = .ok (.aload 4, 2) := by decide +kernel
theorem dX11_deed_82 : decode cX11_deed 82 = .ok (.getfield 152, 3) := by decide +kernel
theorem dX11_deed_85 : decode cX11_deed 85 = .ok (.ireturn, 1) := by decide +kernel
theorem dX11_deed_86 : decode cX11_deed 86 = .ok (.aload 4, 2) := by decide +kernel
theorem dX11_deed_88 : decode cX11_deed 88 = .ok (.getfield 157, 3) := by decide +kernel
theorem dX11_deed_91 : decode cX11_deed 91 = .ok (.ireturn, 1) := by decide +kernel
theorem dX11_deed_92 : decode cX11_deed 92 = .ok (.aload 4, 2) := by decide +kernel
theorem dX11_deed_94 : decode cX11_deed 94 = .ok (.getfield 160, 3) := by decide +kernel
theorem dX11_deed_97 : decode cX11_deed 97 = .ok (.ireturn, 1) := by decide +kernel
theorem dX11_deed_98 : decode cX11_deed 98 = .ok (.iconst (-1), 1) := by decide +kernel
theorem dX11_deed_99 : decode cX11_deed 99 = .ok (.ireturn, 1) := by decide +kernel
def rmX11_deed : Room := { frames := 2, cells := 0, slots := 0, locals := 46 }
set_option maxRecDepth 100000 in
def fX11_deed_J45 (N : Nat) (g : Gs) (x0 : Nat) (x1 : Int32) (x2 : Int32) (x3 : Int32) (z0 : Option Nat) (d : Ds) : Option (Int32 × Ds) := if z0 = none then (some ((-1), d)) else (if x3.toInt < 0 ∨ 2 < x3.toInt then (some ((-1), d)) else if x3 = 0 then (ob z0 fun r15 => (gd (chk g r15 2) <| some ((dI d r15 0), d))) else if x3 = 1 then (ob z0 fun r18 => (gd (chk g r18 2) <| some ((dI d r18 1), d))) else if x3 = 2 then (ob z0 fun r21 => (gd (chk g r21 2) <| some ((dI d r21 2), d))) else none)
set_option maxHeartbeats 4000000 in
set_option maxRecDepth 100000 in
theorem tX11_deed_45 {p : Program} {l : Launch} {e : Env} {s : State} {m : MethodId} {args : Array Value} {below : List Frame} {meth : Method} {c : Code} {D : va_G} {cy : Nat → ClassId} {B : Bs} (C : Cx p s m args c cX11_deed 5 RX11 D cy B) (hr : meth.sig.returnType = (some .int)) (hlocks : meth.locks = false) {N : Nat} {g : Gs} {x0 : Nat} {x1 : Int32} {x2 : Int32} {x3 : Int32} {vz : Int32} {dz : Ds} {z0 : Option Nat} {d : Ds} (hf : fX11_deed_J45 N g x0 x1 x2 x3 z0 d = some (vz, dz)) : WB p l e rmX11_deed s m args below meth c 5 D cy B 0 0 (MQ below (QI D cy B vz g dz) args s 0 0 (wA B)) g d [(0, .ref (ad B x0)), (1, .int x1), (2, .int x2), (3, .int x3)] 45 [rv B z0] := by
  unfold fX11_deed_J45 at hf
  refine b_astoreQ C dX11_deed_45 [(4, rv B z0), (0, .ref (ad B x0)), (1, .int x1), (2, .int x2), (3, .int x3)] (by decide) rfl ?_
  refine b_aloadQ C dX11_deed_47 0 rfl ?_
  refine b_ifnonnull C (tgt := 54) dX11_deed_49 (by decide) (fun c12 => ?_) (fun c12 => ?_)
  · have hf := if_s c12 hf
    refine b_iload_n C dX11_deed_54 4 rfl rfl ?_
    by_cases c13 : x3.toInt < 0 ∨ 2 < x3.toInt
    · have hf := it_s c13 hf
      refine b_tabOut C (tgt := 98) dX11_deed_55 c13 (by decide) ?_
      refine b_iconst C (v := (-1)) dX11_deed_98 (by decide) ?_
      exact b_iret C hr hlocks hf dX11_deed_99
    · have hf := if_s c13 hf
      by_cases c14 : x3 = 0
      · have hf := it_s c14 hf
        refine b_tabIn C (tgt := 80) (off := 25) dX11_deed_55 c14 (by decide) (by decide) (by decide) (by decide) ?_
        refine b_aloadQ C dX11_deed_80 0 rfl ?_
        obtain ⟨r15, er15, hf⟩ := ob_s hf
        refine b_some er15 ?_
        obtain ⟨h16, hf⟩ := gd_s hf
        refine b_gI C dX11_deed_82 fl_X11_152 h16 ?_
        exact b_iret C hr hlocks hf dX11_deed_85
      have hf := if_s c14 hf
      by_cases c17 : x3 = 1
      · have hf := it_s c17 hf
        refine b_tabIn C (tgt := 86) (off := 31) dX11_deed_55 c17 (by decide) (by decide) (by decide) (by decide) ?_
        refine b_aloadQ C dX11_deed_86 0 rfl ?_
        obtain ⟨r18, er18, hf⟩ := ob_s hf
        refine b_some er18 ?_
        obtain ⟨h19, hf⟩ := gd_s hf
        refine b_gI C dX11_deed_88 fl_X11_157 h19 ?_
        exact b_iret C hr hlocks hf dX11_deed_91
      have hf := if_s c17 hf
      by_cases c20 : x3 = 2
      · have hf := it_s c20 hf
        refine b_tabIn C (tgt := 92) (off := 37) dX11_deed_55 c20 (by decide) (by decide) (by decide) (by decide) ?_
        refine b_aloadQ C dX11_deed_92 0 rfl ?_
        obtain ⟨r21, er21, hf⟩ := ob_s hf
        refine b_some er21 ?_
        obtain ⟨h22, hf⟩ := gd_s hf
        refine b_gI C dX11_deed_94 fl_X11_160 h22 ?_
        exact b_iret C hr hlocks hf dX11_deed_97
      have hf := if_s c20 hf
      cases hf
  · have hf := it_s c12 hf
    refine b_iconst C (v := (-1)) dX11_deed_52 (by decide) ?_
    exact b_iret C hr hlocks hf dX11_deed_53
set_option maxRecDepth 100000 in
def fX11_deed (N : Nat) (g : Gs) (x0 : Nat) (x1 : Int32) (x2 : Int32) (x3 : Int32) (d : Ds) : Option (Int32 × Ds) := gd (chk g x0 10) <| ob (gR g x0 4) fun r2 => (gd (chk g r2 0) <| cb (fX0_hasKey N g r2 x2 d) fun u6 d4 => (if u6 = 0 then (some ((-1), d4)) else (if x1 = (-1 : Int32) then (ob (gR g x0 6) fun r23 => (gd (chk g r23 1) <| cb (fX1_activeLayers N g r23 d4) fun u27 d25 => (cb (fX0_deedIn N g r2 u27 x2 d25) fun u30 d28 => (fX11_deed_J45 N g x0 x1 x2 x3 (some u30) d28)))) else (cb (fX0_toldDeed N g r2 x1 x2 d4) fun u11 d9 => (fX11_deed_J45 N g x0 x1 x2 x3 u11 d9)))))
set_option maxHeartbeats 4000000 in
set_option maxRecDepth 100000 in
theorem tX11_deed_E {p : Program} {l : Launch} {e : Env} {s : State} {m : MethodId} {args : Array Value} {below : List Frame} {meth : Method} {c : Code} {D : va_G} {cy : Nat → ClassId} {B : Bs} (C : Cx p s m args c cX11_deed 5 RX11 D cy B) (hr : meth.sig.returnType = (some .int)) (hlocks : meth.locks = false) {N : Nat} {g : Gs} {x0 : Nat} {x1 : Int32} {x2 : Int32} {x3 : Int32} {vz : Int32} {dz : Ds} {d : Ds} (hf : fX11_deed N g x0 x1 x2 x3 d = some (vz, dz)) : WB p l e rmX11_deed s m args below meth c 5 D cy B 0 0 (MQ below (QI D cy B vz g dz) args s 0 0 (wA B)) g d [(0, .ref (ad B x0)), (1, .int x1), (2, .int x2), (3, .int x3)] 0 [] := by
  unfold fX11_deed at hf
  refine b_aload_n C dX11_deed_0 0 rfl rfl ?_
  obtain ⟨h1, hf⟩ := gd_s hf
  obtain ⟨r2, er2, hf⟩ := ob_s hf
  refine b_gR C dX11_deed_1 fl_X11_30 h1 er2 ?_
  refine b_iload_n C dX11_deed_4 2 rfl rfl ?_
  obtain ⟨h3, hf⟩ := gd_s hf
  obtain ⟨u6, d4, k5, hf⟩ := cb_s hf
  refine b_cVI C [] dX11_deed_5 (kX0_hasKey l D cy B k5) lv_X11_82 ⟨rfl, rfl, Nat.le_of_ble_eq_true rfl, Nat.le_of_ble_eq_true rfl⟩ h3 (by decide) rfl (Nat.le_of_ble_eq_true rfl) ⟨Nat.zero_le _, Nat.zero_le _⟩ rfl ?_
  refine b_if_ne C (tgt := 13) dX11_deed_8 (by decide) (fun c7 => ?_) (fun c7 => ?_)
  · have hf := if_s c7 hf
    refine b_iload_n C dX11_deed_13 1 rfl rfl ?_
    refine b_iconst C (v := (-1)) dX11_deed_14 (by decide) ?_
    refine b_icmp_ne C (tgt := 36) dX11_deed_15 (by decide) (fun c8 => ?_) (fun c8 => ?_)
    · have hf := if_s c8 hf
      refine b_aload_n C dX11_deed_36 0 rfl rfl ?_
      refine b_gR C dX11_deed_37 fl_X11_30 h1 er2 ?_
      refine b_iload_n C dX11_deed_40 1 rfl rfl ?_
      refine b_iload_n C dX11_deed_41 2 rfl rfl ?_
      obtain ⟨u11, d9, k10, hf⟩ := cb_s hf
      refine b_cVQ C [] dX11_deed_42 (kX0_toldDeed l D cy B k10) lv_X11_149 ⟨rfl, rfl, Nat.le_of_ble_eq_true rfl, Nat.le_of_ble_eq_true rfl⟩ h3 (by decide) rfl (Nat.le_of_ble_eq_true rfl) ⟨Nat.zero_le _, Nat.zero_le _⟩ rfl ?_
      refine b_sub [(0, .ref (ad B x0)), (1, .int x1), (2, .int x2), (3, .int x3)] [0, 1, 2, 3] rfl ?_
      exact tX11_deed_45 C hr hlocks hf
    · have hf := it_s c8 hf
      refine b_aload_n C dX11_deed_18 0 rfl rfl ?_
      refine b_gR C dX11_deed_19 fl_X11_30 h1 er2 ?_
      refine b_aload_n C dX11_deed_22 0 rfl rfl ?_
      obtain ⟨r23, er23, hf⟩ := ob_s hf
      refine b_gR C dX11_deed_23 fl_X11_46 h1 er23 ?_
      obtain ⟨h24, hf⟩ := gd_s hf
      obtain ⟨u27, d25, k26, hf⟩ := cb_s hf
      refine b_cVI C [.ref (ad B r2)] dX11_deed_26 (kX1_activeLayers l D cy B k26) lv_X11_142 ⟨rfl, rfl, Nat.le_of_ble_eq_true rfl, Nat.le_of_ble_eq_true rfl⟩ h24 (by decide) rfl (Nat.le_of_ble_eq_true rfl) ⟨Nat.zero_le _, Nat.zero_le _⟩ rfl ?_
      refine b_iload_n C dX11_deed_29 2 rfl rfl ?_
      obtain ⟨u30, d28, k29, hf⟩ := cb_s hf
      refine b_cVR C [] dX11_deed_30 (kX0_deedIn l D cy B k29) lv_X11_145 ⟨rfl, rfl, Nat.le_of_ble_eq_true rfl, Nat.le_of_ble_eq_true rfl⟩ h3 (by decide) rfl (Nat.le_of_ble_eq_true rfl) ⟨Nat.zero_le _, Nat.zero_le _⟩ rfl ?_
      refine b_goto C (tgt := 45) dX11_deed_33 (by decide) ?_
      refine b_sub [(0, .ref (ad B x0)), (1, .int x1), (2, .int x2), (3, .int x3)] [0, 1, 2, 3] rfl ?_
      exact tX11_deed_45 C hr hlocks hf
  · have hf := it_s c7 hf
    refine b_iconst C (v := (-1)) dX11_deed_11 (by decide) ?_
    exact b_iret C hr hlocks hf dX11_deed_12
theorem kX11_deed (l : Launch) (D : va_G) (cy : Nat → ClassId) (B : Bs) {N : Nat} {g : Gs} {x0 : Nat} {x1 : Int32} {x2 : Int32} {x3 : Int32} {vz : Int32} {dz : Ds} {d : Ds} (hf : fX11_deed N g x0 x1 x2 x3 d = some (vz, dz)) : Met l yX11_deed (.code yX11_deed cX11_deed 5 (some .int) :: wl) rmX11_deed (PC D cy B [.ref (ad B x0), .int x1, .int x2, .int x3] g d) (QI D cy B vz g dz) 0 0 (wA B) :=
  met_of (by decide +kernel) (Nat.le_of_ble_eq_true rfl) (fun p e s m args below meth c C hr hlocks _ => b_sub [(0, .ref (ad B x0)), (1, .int x1), (2, .int x2), (3, .int x3)] [0, 1, 2, 3] rfl (tX11_deed_E C hr hlocks hf))
/-! KeyMatrix.does(II)I -/
theorem b_look {p : Program} {l : Launch} {e : Env} {R : Room} {s : State} {m : MethodId} {args : Array Value} {below : List Frame} {meth : Method} {c : Code} {cells slots : Nat} {Q : State → Prop} {nL : Nat} {D : va_G} {cy : Nat → ClassId} {B : Bs} {g : Gs} {d : Ds} {lv : List (Nat × Value)} {pc : Nat} {cc : ByteArray} {own : String} {rest : List Value} (C : Cx p s m args c cc nL own D cy B) {dflt off : Int} {ps : Array (Int × Int)} {len : Nat} {x : Int32} {tgt : Nat} (hdg : decode cc pc = .ok (.lookupswitch dflt ps, len)) (hp : (ps.toList.zip (ps.toList.drop 1)).all (fun (a, next) => a.1 < next.1) = true) (ho : Op.lookupswitch.offset ps.toList dflt x.toInt = off) (ht : (pc : Int) + off = (tgt : Int)) (k : WB p l e R s m args below meth c nL D cy B cells slots Q g d lv tgt rest) : WB p l e R s m args below meth c nL D cy B cells slots Q g d lv pc (.int x :: rest) := fun H locs ls hl hP hS => lv_lookup C.1 C.2.1 hdg hp ho ht (k H locs ls hl hP hS)
theorem fl_X11_163 : FLR RX11 163 1 3 := ⟨⟨RX1, TX1, 6, rfl, by decide, inl1, Or.inr (mT2 (List.mem_of_getElem? (i := 211) (by decide +kernel)))⟩, by decide, by decide +kernel⟩
theorem fl_X11_167 : FLR RX11 167 3 0 := ⟨⟨RX3, TX3, 9, rfl, by decide, inl3, Or.inr (mT2 (List.mem_of_getElem? (i := 100) (by decide +kernel)))⟩, by decide, by decide +kernel⟩
theorem fl_X11_171 : FLR RX11 171 3 1 := ⟨⟨RX3, TX3, 9, rfl, by decide, inl3, Or.inr (mT2 (List.mem_of_getElem? (i := 103) (by decide +kernel)))⟩, by decide, by decide +kernel⟩
theorem dX11_does_0 : decode cX11_does 0 = .ok (.aload_n 0, 1) := by decide +kernel
theorem dX11_does_1 : decode cX11_does 1 = .ok (.getfield 30, 3) := by decide +kernel
theorem dX11_does_4 : decode cX11_does 4 = .ok (.iload_n 1, 1) := by decide +kernel
theorem dX11_does_5 : decode cX11_does 5 = .ok (.invokevirtual 82, 3) := by decide +kernel
theorem dX11_does_8 : decode cX11_does 8 = .ok (.ifCond .ne 6, 3) := by decide +kernel
theorem dX11_does_11 : decode cX11_does 11 = .ok (.bipush (-2), 2) := by decide +kernel
theorem dX11_does_13 : decode cX11_does 13 = .ok (.ireturn, 1) := by decide +kernel
theorem dX11_does_14 : decode cX11_does 14 = .ok (.iload_n 2, 1) := by decide +kernel
theorem dX11_does_15 : decode cX11_does 15 = .ok (.lookupswitch 51 #[(0, 25), (1, 38)], 25) := by decide +kernel
theorem dX11_does_40 : decode cX11_does 40 = .ok (.aload_n 0, 1) := by decide +kernel
theorem dX11_does_41 : decode cX11_does 41 = .ok (.getfield 46, 3) := by decide +kernel
theorem dX11_does_44 : decode cX11_does 44 = .ok (.getfield 163, 3) := by decide +kernel
theorem dX11_does_47 : decode cX11_does 47 = .ok (.getfield 167, 3) := by decide +kernel
theorem dX11_does_50 : decode cX11_does 50 = .ok (.iload_n 1, 1) := by decide +kernel
theorem dX11_does_51 : decode cX11_does 51 = .ok (.iaload, 1) := by decide +kernel
theorem dX11_does_52 : decode cX11_does 52 = .ok (.ireturn, 1) := by decide +kernel
theorem dX11_does_53 : decode cX11_does 53 = .ok (.aload_n 0, 1) := by decide +kernel
theorem dX11_does_54 : decode cX11_does 54 = .ok (.getfield 46, 3) := by decide +kernel
theorem dX11_does_57 : decode cX11_does 57 = .ok (.getfield 163, 3) := by decide +kernel
theorem dX11_does_60 : decode cX11_does 60 = .ok (.getfield 171, 3) := by decide +kernel
theorem dX11_does_63 : decode cX11_does 63 = .ok (.iload_n 1, 1) := by decide +kernel
theorem dX11_does_64 : decode cX11_does 64 = .ok (.iaload, 1) := by decide +kernel
theorem dX11_does_65 : decode cX11_does 65 = .ok (.ireturn, 1) := by decide +kernel
theorem dX11_does_66 : decode cX11_does 66 = .ok (.bipush (-2), 2) := by decide +kernel
theorem dX11_does_68 : decode cX11_does 68 = .ok (.ireturn, 1) := by decide +kernel
def rmX11_does : Room := { frames := 2, cells := 0, slots := 0, locals := 41 }
set_option maxRecDepth 100000 in
def fX11_does (N : Nat) (g : Gs) (x0 : Nat) (x1 : Int32) (x2 : Int32) (d : Ds) : Option (Int32 × Ds) := gd (chk g x0 10) <| ob (gR g x0 4) fun r2 => (gd (chk g r2 0) <| cb (fX0_hasKey N g r2 x1 d) fun u6 d4 => (if u6 = 0 then (some ((-2), d4)) else (if x2 = 0 then (ob (gR g x0 6) fun r9 => (gd (chk g r9 1) <| ob (gR g r9 3) fun r11 => (gd (chk g r11 3) <| ob (gR g r11 0) fun r13 => (gd (chk g r13 102) <| gd (¬ (x1 < 0 ∨ gL g r13 ≤ x1.toNatClampNeg)) <| some ((dI d4 r13 x1.toNatClampNeg), d4))))) else if x2 = 1 then (ob (gR g x0 6) fun r17 => (gd (chk g r17 1) <| ob (gR g r17 3) fun r19 => (gd (chk g r19 3) <| ob (gR g r19 1) fun r21 => (gd (chk g r21 102) <| gd (¬ (x1 < 0 ∨ gL g r21 ≤ x1.toNatClampNeg)) <| some ((dI d4 r21 x1.toNatClampNeg), d4))))) else (some ((-2), d4)))))
set_option maxHeartbeats 4000000 in
set_option maxRecDepth 100000 in
theorem tX11_does_E {p : Program} {l : Launch} {e : Env} {s : State} {m : MethodId} {args : Array Value} {below : List Frame} {meth : Method} {c : Code} {D : va_G} {cy : Nat → ClassId} {B : Bs} (C : Cx p s m args c cX11_does 3 RX11 D cy B) (hr : meth.sig.returnType = (some .int)) (hlocks : meth.locks = false) {N : Nat} {g : Gs} {x0 : Nat} {x1 : Int32} {x2 : Int32} {vz : Int32} {dz : Ds} {d : Ds} (hf : fX11_does N g x0 x1 x2 d = some (vz, dz)) : WB p l e rmX11_does s m args below meth c 3 D cy B 0 0 (MQ below (QI D cy B vz g dz) args s 0 0 (wA B)) g d [(0, .ref (ad B x0)), (1, .int x1), (2, .int x2)] 0 [] := by
  unfold fX11_does at hf
  refine b_aload_n C dX11_does_0 0 rfl rfl ?_
  obtain ⟨h1, hf⟩ := gd_s hf
  obtain ⟨r2, er2, hf⟩ := ob_s hf
  refine b_gR C dX11_does_1 fl_X11_30 h1 er2 ?_
  refine b_iload_n C dX11_does_4 1 rfl rfl ?_
  obtain ⟨h3, hf⟩ := gd_s hf
  obtain ⟨u6, d4, k5, hf⟩ := cb_s hf
  refine b_cVI C [] dX11_does_5 (kX0_hasKey l D cy B k5) lv_X11_82 ⟨rfl, rfl, Nat.le_of_ble_eq_true rfl, Nat.le_of_ble_eq_true rfl⟩ h3 (by decide) rfl (Nat.le_of_ble_eq_true rfl) ⟨Nat.zero_le _, Nat.zero_le _⟩ rfl ?_
  refine b_if_ne C (tgt := 14) dX11_does_8 (by decide) (fun c7 => ?_) (fun c7 => ?_)
  · have hf := if_s c7 hf
    refine b_iload_n C dX11_does_14 2 rfl rfl ?_
    by_cases c8 : x2 = 0
    · have hf := it_s c8 hf
      refine b_look C (tgt := 40) (off := 25) dX11_does_15 (by decide) (by rw [c8]; decide) (by decide) ?_
      refine b_aload_n C dX11_does_40 0 rfl rfl ?_
      obtain ⟨r9, er9, hf⟩ := ob_s hf
      refine b_gR C dX11_does_41 fl_X11_46 h1 er9 ?_
      obtain ⟨h10, hf⟩ := gd_s hf
      obtain ⟨r11, er11, hf⟩ := ob_s hf
      refine b_gR C dX11_does_44 fl_X11_163 h10 er11 ?_
      obtain ⟨h12, hf⟩ := gd_s hf
      obtain ⟨r13, er13, hf⟩ := ob_s hf
      refine b_gR C dX11_does_47 fl_X11_167 h12 er13 ?_
      refine b_iload_n C dX11_does_50 1 rfl rfl ?_
      obtain ⟨h14, hf⟩ := gd_s hf
      obtain ⟨h15, hf⟩ := gd_s hf
      refine b_iald C h14 h15 dX11_does_51 ?_
      exact b_iret C hr hlocks hf dX11_does_52
    have hf := if_s c8 hf
    by_cases c16 : x2 = 1
    · have hf := it_s c16 hf
      refine b_look C (tgt := 53) (off := 38) dX11_does_15 (by decide) (by rw [c16]; decide) (by decide) ?_
      refine b_aload_n C dX11_does_53 0 rfl rfl ?_
      obtain ⟨r17, er17, hf⟩ := ob_s hf
      refine b_gR C dX11_does_54 fl_X11_46 h1 er17 ?_
      obtain ⟨h18, hf⟩ := gd_s hf
      obtain ⟨r19, er19, hf⟩ := ob_s hf
      refine b_gR C dX11_does_57 fl_X11_163 h18 er19 ?_
      obtain ⟨h20, hf⟩ := gd_s hf
      obtain ⟨r21, er21, hf⟩ := ob_s hf
      refine b_gR C dX11_does_60 fl_X11_171 h20 er21 ?_
      refine b_iload_n C dX11_does_63 1 rfl rfl ?_
      obtain ⟨h22, hf⟩ := gd_s hf
      obtain ⟨h23, hf⟩ := gd_s hf
      refine b_iald C h22 h23 dX11_does_64 ?_
      exact b_iret C hr hlocks hf dX11_does_65
    have hf := if_s c16 hf
    refine b_look C (tgt := 66) (off := 51) dX11_does_15 (by decide) ((lv_osw c8 (by decide)).trans ((lv_osw c16 (by decide)).trans rfl)) (by decide) ?_
    refine b_bipush C (v := (-2)) dX11_does_66 (by decide) ?_
    exact b_iret C hr hlocks hf dX11_does_68
  · have hf := it_s c7 hf
    refine b_bipush C (v := (-2)) dX11_does_11 (by decide) ?_
    exact b_iret C hr hlocks hf dX11_does_13
theorem kX11_does (l : Launch) (D : va_G) (cy : Nat → ClassId) (B : Bs) {N : Nat} {g : Gs} {x0 : Nat} {x1 : Int32} {x2 : Int32} {vz : Int32} {dz : Ds} {d : Ds} (hf : fX11_does N g x0 x1 x2 d = some (vz, dz)) : Met l yX11_does (.code yX11_does cX11_does 3 (some .int) :: wl) rmX11_does (PC D cy B [.ref (ad B x0), .int x1, .int x2] g d) (QI D cy B vz g dz) 0 0 (wA B) :=
  met_of (by decide +kernel) (Nat.le_of_ble_eq_true rfl) (fun p e s m args below meth c C hr hlocks _ => b_sub [(0, .ref (ad B x0)), (1, .int x1), (2, .int x2)] [0, 1, 2] rfl (tX11_does_E C hr hlocks hf))
/-! KeyMatrix.event(II)I -/
theorem fl_X11_174 : FLR RX11 174 1 2 := ⟨⟨RX1, TX1, 6, rfl, by decide, inl1, Or.inr (mT2 (List.mem_of_getElem? (i := 209) (by decide +kernel)))⟩, by decide, by decide +kernel⟩
theorem fl_X11_178 : FLI RX11 178 4 1 := ⟨⟨RX4, TX4, 3, rfl, by decide, inl4, Or.inr (mT2 (List.mem_of_getElem? (i := 82) (by decide +kernel)))⟩, by decide, by decide +kernel⟩
theorem lv_X11_183 : LV RX11 183 yX4_keyAt cX4_keyAt 2 (some .int) 1 4 := ⟨⟨(RX4, TX4, 3), rfl, rfl⟩, yo_X4_keyAt, mW (mT4 (List.mem_of_getElem? (i := 234) (by decide +kernel))) rfl, im_X4_keyAt, se_X4_keyAt, in_X4_keyAt, co_X4_keyAt⟩
theorem lv_X11_187 : LV RX11 187 yX4_isDownAt cX4_isDownAt 2 (some .boolean) 1 4 := ⟨⟨(RX4, TX4, 3), rfl, rfl⟩, yo_X4_isDownAt, mW (mT4 (List.mem_of_getElem? (i := 235) (by decide +kernel))) rfl, im_X4_isDownAt, se_X4_isDownAt, in_X4_isDownAt, co_X4_isDownAt⟩
theorem lv_X11_190 : LV RX11 190 yX4_tickAt cX4_tickAt 2 (some .int) 1 4 := ⟨⟨(RX4, TX4, 3), rfl, rfl⟩, yo_X4_tickAt, mW (mT4 (List.mem_of_getElem? (i := 236) (by decide +kernel))) rfl, im_X4_tickAt, se_X4_tickAt, in_X4_tickAt, co_X4_tickAt⟩
theorem dX11_event_0 : decode cX11_event 0 = .ok (.aload_n 0, 1) := by decide +kernel
theorem dX11_event_1 : decode cX11_event 1 = .ok (.getfield 46, 3) := by decide +kernel
theorem dX11_event_4 : decode cX11_event 4 = .ok (.getfield 174, 3) := by decide +kernel
theorem dX11_event_7 : decode cX11_event 7 = .ok (.astore_n 3, 1) := by decide +kernel
theorem dX11_event_8 : decode cX11_event 8 = .ok (.iload_n 1, 1) := by decide +kernel
theorem dX11_event_9 : decode cX11_event 9 = .ok (.iconst (-1), 1) := by decide +kernel
theorem dX11_event_10 : decode cX11_event 10 = .ok (.if_icmp .ne 8, 3) := by decide +kernel
theorem dX11_event_13 : decode cX11_event 13 = .ok (.aload_n 3, 1) := by decide +kernel
theorem dX11_event_14 : decode cX11_event 14 = .ok (.getfield 178, 3) := by decide +kernel
theorem dX11_event_17 : decode cX11_event 17 = .ok (.ireturn, 1) := by decide +kernel
theorem dX11_event_18 : decode cX11_event 18 = .ok (.iload_n 1, 1) := by decide +kernel
theorem dX11_event_19 : decode cX11_event 19 = .ok (.ifCond .lt 11, 3) := by decide +kernel
theorem dX11_event_22 : decode cX11_event 22 = .ok (.iload_n 1, 1) := by decide +kernel
theorem dX11_event_23 : decode cX11_event 23 = .ok (.aload_n 3, 1) := by decide +kernel
theorem dX11_event_24 : decode cX11_event 24 = .ok (.getfield 178, 3) := by decide +kernel
theorem dX11_event_27 : decode cX11_event 27 = .ok (.if_icmp .lt 5, 3) := by decide +kernel
theorem dX11_event_30 : decode cX11_event 30 = .ok (.iconst (-1), 1) := by decide +kernel
theorem dX11_event_31 : decode cX11_event 31 = .ok (.ireturn, 1) := by decide +kernel
theorem dX11_event_32 : decode cX11_event 32 = .ok (.iload_n 2, 1) := by decide +kernel
theorem dX11_event_33 : decode cX11_event 33 = .ok (.tableswitch 53 0 2 #[27, 33, 47], 27) := by decide +kernel
theorem dX11_event_60 : decode cX11_event 60 = .ok (.aload_n 3, 1) := by decide +kernel
theorem dX11_event_61 : decode cX11_event 61 = .ok (.iload_n 1, 1) := by decide +kernel
theorem dX11_event_62 : decode cX11_event 62 = .ok (.invokevirtual 183, 3) := by decide +kernel
theorem dX11_event_65 : decode cX11_event 65 = .ok (.ireturn, 1) := by decide +kernel
theorem dX11_event_66 : decode cX11_event 66 = .ok (.aload_n 3, 1) := by decide +kernel
theorem dX11_event_67 : decode cX11_event 67 = .ok (.iload_n 1, 1) := by decide +kernel
theorem dX11_event_68 : decode cX11_event 68 = .ok (.invokevirtual 187, 3) := by decide +kernel
theorem dX11_event_71 : decode cX11_event 71 = .ok (.ifCond .eq 7, 3) := by decide +kernel
theorem dX11_event_74 : decode cX11_event 74 = .ok (.iconst 1, 1) := by decide +kernel
theorem dX11_event_75 : decode cX11_event 75 = .ok (.goto 4, 3) := by decide +kernel
theorem dX11_event_78 : decode cX11_event 78 = .ok (.iconst 0, 1) := by decide +kernel
theorem dX11_event_79 : decode cX11_event 79 = .ok (.ireturn, 1) := by decide +kernel
theorem dX11_event_80 : decode cX11_event 80 = .ok (.aload_n 3, 1) := by decide +kernel
theorem dX11_event_81 : decode cX11_event 81 = .ok (.iload_n 1, 1) := by decide +kernel
theorem dX11_event_82 : decode cX11_event 82 = .ok (.invokevirtual 190, 3) := by decide +kernel
theorem dX11_event_85 : decode cX11_event 85 = .ok (.ireturn, 1) := by decide +kernel
theorem dX11_event_86 : decode cX11_event 86 = .ok (.iconst (-1), 1) := by decide +kernel
theorem dX11_event_87 : decode cX11_event 87 = .ok (.ireturn, 1) := by decide +kernel
def rmX11_event : Room := { frames := 1, cells := 0, slots := 0, locals := 21 }
set_option maxRecDepth 100000 in
def fX11_event_J30 (N : Nat) (g : Gs) (x0 : Nat) (x1 : Int32) (x2 : Int32) (d : Ds) : Option (Int32 × Ds) := some ((-1), d)
set_option maxHeartbeats 4000000 in
set_option maxRecDepth 100000 in
theorem tX11_event_30 {p : Program} {l : Launch} {e : Env} {s : State} {m : MethodId} {args : Array Value} {below : List Frame} {meth : Method} {c : Code} {D : va_G} {cy : Nat → ClassId} {B : Bs} (C : Cx p s m args c cX11_event 4 RX11 D cy B) (hr : meth.sig.returnType = (some .int)) (hlocks : meth.locks = false) {N : Nat} {g : Gs} {x0 : Nat} {x1 : Int32} {x2 : Int32} {vz : Int32} {dz : Ds} {d : Ds} (hf : fX11_event_J30 N g x0 x1 x2 d = some (vz, dz)) : WB p l e rmX11_event s m args below meth c 4 D cy B 0 0 (MQ below (QI D cy B vz g dz) args s 0 0 (wA B)) g d [(0, .ref (ad B x0)), (1, .int x1), (2, .int x2)] 30 [] := by
  unfold fX11_event_J30 at hf
  refine b_iconst C (v := (-1)) dX11_event_30 (by decide) ?_
  exact b_iret C hr hlocks hf dX11_event_31
set_option maxRecDepth 100000 in
def fX11_event_J79 (N : Nat) (g : Gs) (x0 : Nat) (x1 : Int32) (x2 : Int32) (z0 : Int32) (d : Ds) : Option (Int32 × Ds) := some (z0, d)
set_option maxHeartbeats 4000000 in
set_option maxRecDepth 100000 in
theorem tX11_event_79 {p : Program} {l : Launch} {e : Env} {s : State} {m : MethodId} {args : Array Value} {below : List Frame} {meth : Method} {c : Code} {D : va_G} {cy : Nat → ClassId} {B : Bs} (C : Cx p s m args c cX11_event 4 RX11 D cy B) (hr : meth.sig.returnType = (some .int)) (hlocks : meth.locks = false) {N : Nat} {g : Gs} {x0 : Nat} {x1 : Int32} {x2 : Int32} {vz : Int32} {dz : Ds} {z0 : Int32} {d : Ds} (hf : fX11_event_J79 N g x0 x1 x2 z0 d = some (vz, dz)) : WB p l e rmX11_event s m args below meth c 4 D cy B 0 0 (MQ below (QI D cy B vz g dz) args s 0 0 (wA B)) g d [(0, .ref (ad B x0)), (1, .int x1), (2, .int x2)] 79 [.int z0] := by
  unfold fX11_event_J79 at hf
  exact b_iret C hr hlocks hf dX11_event_79
set_option maxRecDepth 100000 in
def fX11_event (N : Nat) (g : Gs) (x0 : Nat) (x1 : Int32) (x2 : Int32) (d : Ds) : Option (Int32 × Ds) := gd (chk g x0 10) <| ob (gR g x0 6) fun r2 => (gd (chk g r2 1) <| ob (gR g r2 2) fun r4 => (if x1 = (-1 : Int32) then (gd (chk g r4 4) <| some ((dI d r4 1), d)) else (if x1 < 0 then (fX11_event_J30 N g x0 x1 x2 d) else (gd (chk g r4 4) <| if x1 < (dI d r4 1) then (if x2.toInt < 0 ∨ 2 < x2.toInt then (some ((-1), d)) else if x2 = 0 then (cb (fX4_keyAt N g r4 x1 d) fun u13 d11 => (some (u13, d11))) else if x2 = 1 then (cb (fX4_isDownAt N g r4 x1 d) fun u17 d15 => (if u17 = 0 then (fX11_event_J79 N g x0 x1 x2 0 d15) else (fX11_event_J79 N g x0 x1 x2 1 d15))) else if x2 = 2 then (cb (fX4_tickAt N g r4 x1 d) fun u22 d20 => (some (u22, d20))) else none) else (fX11_event_J30 N g x0 x1 x2 d)))))
set_option maxHeartbeats 4000000 in
set_option maxRecDepth 100000 in
theorem tX11_event_E {p : Program} {l : Launch} {e : Env} {s : State} {m : MethodId} {args : Array Value} {below : List Frame} {meth : Method} {c : Code} {D : va_G} {cy : Nat → ClassId} {B : Bs} (C : Cx p s m args c cX11_event 4 RX11 D cy B) (hr : meth.sig.returnType = (some .int)) (hlocks : meth.locks = false) {N : Nat} {g : Gs} {x0 : Nat} {x1 : Int32} {x2 : Int32} {vz : Int32} {dz : Ds} {d : Ds} (hf : fX11_event N g x0 x1 x2 d = some (vz, dz)) : WB p l e rmX11_event s m args below meth c 4 D cy B 0 0 (MQ below (QI D cy B vz g dz) args s 0 0 (wA B)) g d [(0, .ref (ad B x0)), (1, .int x1), (2, .int x2)] 0 [] := by
  unfold fX11_event at hf
  refine b_aload_n C dX11_event_0 0 rfl rfl ?_
  obtain ⟨h1, hf⟩ := gd_s hf
  obtain ⟨r2, er2, hf⟩ := ob_s hf
  refine b_gR C dX11_event_1 fl_X11_46 h1 er2 ?_
  obtain ⟨h3, hf⟩ := gd_s hf
  obtain ⟨r4, er4, hf⟩ := ob_s hf
  refine b_gR C dX11_event_4 fl_X11_174 h3 er4 ?_
  refine b_astore_n C dX11_event_7 rfl [(3, .ref (ad B r4)), (0, .ref (ad B x0)), (1, .int x1), (2, .int x2)] (by decide) rfl ?_
  refine b_iload_n C dX11_event_8 2 rfl rfl ?_
  refine b_iconst C (v := (-1)) dX11_event_9 (by decide) ?_
  refine b_icmp_ne C (tgt := 18) dX11_event_10 (by decide) (fun c5 => ?_) (fun c5 => ?_)
  · have hf := if_s c5 hf
    refine b_iload_n C dX11_event_18 2 rfl rfl ?_
    refine b_if_lt C (tgt := 30) dX11_event_19 (by decide) (fun c6 => ?_) (fun c6 => ?_)
    · have hf := it_s c6 hf
      refine b_sub [(0, .ref (ad B x0)), (1, .int x1), (2, .int x2)] [1, 2, 3] rfl ?_
      exact tX11_event_30 C hr hlocks hf
    · have hf := if_s c6 hf
      refine b_iload_n C dX11_event_22 2 rfl rfl ?_
      refine b_aload_n C dX11_event_23 0 rfl rfl ?_
      obtain ⟨h7, hf⟩ := gd_s hf
      refine b_gI C dX11_event_24 fl_X11_178 h7 ?_
      refine b_icmp_lt C (tgt := 32) dX11_event_27 (by decide) (fun c8 => ?_) (fun c8 => ?_)
      · have hf := it_s c8 hf
        refine b_iload_n C dX11_event_32 3 rfl rfl ?_
        by_cases c9 : x2.toInt < 0 ∨ 2 < x2.toInt
        · have hf := it_s c9 hf
          refine b_tabOut C (tgt := 86) dX11_event_33 c9 (by decide) ?_
          refine b_iconst C (v := (-1)) dX11_event_86 (by decide) ?_
          exact b_iret C hr hlocks hf dX11_event_87
        · have hf := if_s c9 hf
          by_cases c10 : x2 = 0
          · have hf := it_s c10 hf
            refine b_tabIn C (tgt := 60) (off := 27) dX11_event_33 c10 (by decide) (by decide) (by decide) (by decide) ?_
            refine b_aload_n C dX11_event_60 0 rfl rfl ?_
            refine b_iload_n C dX11_event_61 2 rfl rfl ?_
            obtain ⟨u13, d11, k12, hf⟩ := cb_s hf
            refine b_cVI C [] dX11_event_62 (kX4_keyAt l D cy B k12) lv_X11_183 ⟨rfl, rfl, Nat.le_of_ble_eq_true rfl, Nat.le_of_ble_eq_true rfl⟩ h7 (by decide) rfl (Nat.le_of_ble_eq_true rfl) ⟨Nat.zero_le _, Nat.zero_le _⟩ rfl ?_
            exact b_iret C hr hlocks hf dX11_event_65
          have hf := if_s c10 hf
          by_cases c14 : x2 = 1
          · have hf := it_s c14 hf
            refine b_tabIn C (tgt := 66) (off := 33) dX11_event_33 c14 (by decide) (by decide) (by decide) (by decide) ?_
            refine b_aload_n C dX11_event_66 0 rfl rfl ?_
            refine b_iload_n C dX11_event_67 2 rfl rfl ?_
            obtain ⟨u17, d15, k16, hf⟩ := cb_s hf
            refine b_cVI C [] dX11_event_68 (kX4_isDownAt l D cy B k16) lv_X11_187 ⟨rfl, rfl, Nat.le_of_ble_eq_true rfl, Nat.le_of_ble_eq_true rfl⟩ h7 (by decide) rfl (Nat.le_of_ble_eq_true rfl) ⟨Nat.zero_le _, Nat.zero_le _⟩ rfl ?_
            refine b_if_eq C (tgt := 78) dX11_event_71 (by decide) (fun c18 => ?_) (fun c18 => ?_)
            · have hf := it_s c18 hf
              refine b_iconst C (v := 0) dX11_event_78 (by decide) ?_
              refine b_sub [(0, .ref (ad B x0)), (1, .int x1), (2, .int x2)] [1, 2, 3] rfl ?_
              exact tX11_event_79 C hr hlocks hf
            · have hf := if_s c18 hf
              refine b_iconst C (v := 1) dX11_event_74 (by decide) ?_
              refine b_goto C (tgt := 79) dX11_event_75 (by decide) ?_
              refine b_sub [(0, .ref (ad B x0)), (1, .int x1), (2, .int x2)] [1, 2, 3] rfl ?_
              exact tX11_event_79 C hr hlocks hf
          have hf := if_s c14 hf
          by_cases c19 : x2 = 2
          · have hf := it_s c19 hf
            refine b_tabIn C (tgt := 80) (off := 47) dX11_event_33 c19 (by decide) (by decide) (by decide) (by decide) ?_
            refine b_aload_n C dX11_event_80 0 rfl rfl ?_
            refine b_iload_n C dX11_event_81 2 rfl rfl ?_
            obtain ⟨u22, d20, k21, hf⟩ := cb_s hf
            refine b_cVI C [] dX11_event_82 (kX4_tickAt l D cy B k21) lv_X11_190 ⟨rfl, rfl, Nat.le_of_ble_eq_true rfl, Nat.le_of_ble_eq_true rfl⟩ h7 (by decide) rfl (Nat.le_of_ble_eq_true rfl) ⟨Nat.zero_le _, Nat.zero_le _⟩ rfl ?_
            exact b_iret C hr hlocks hf dX11_event_85
          have hf := if_s c19 hf
          cases hf
      · have hf := if_s c8 hf
        refine b_sub [(0, .ref (ad B x0)), (1, .int x1), (2, .int x2)] [1, 2, 3] rfl ?_
        exact tX11_event_30 C hr hlocks hf
  · have hf := it_s c5 hf
    refine b_aload_n C dX11_event_13 0 rfl rfl ?_
    obtain ⟨h23, hf⟩ := gd_s hf
    refine b_gI C dX11_event_14 fl_X11_178 h23 ?_
    exact b_iret C hr hlocks hf dX11_event_17
theorem kX11_event (l : Launch) (D : va_G) (cy : Nat → ClassId) (B : Bs) {N : Nat} {g : Gs} {x0 : Nat} {x1 : Int32} {x2 : Int32} {vz : Int32} {dz : Ds} {d : Ds} (hf : fX11_event N g x0 x1 x2 d = some (vz, dz)) : Met l yX11_event (.code yX11_event cX11_event 4 (some .int) :: wl) rmX11_event (PC D cy B [.ref (ad B x0), .int x1, .int x2] g d) (QI D cy B vz g dz) 0 0 (wA B) :=
  met_of (by decide +kernel) (Nat.le_of_ble_eq_true rfl) (fun p e s m args below meth c C hr hlocks _ => b_sub [(0, .ref (ad B x0)), (1, .int x1), (2, .int x2)] [0, 1, 2] rfl (tX11_event_E C hr hlocks hf))
/-! KeyMatrix.report(II)I -/
theorem lv_X11_193 : LV RX11 193 yX5_rowOf cX5_rowOf 2 (some .int) 1 5 := ⟨⟨(RX5, TX5, 9), rfl, rfl⟩, yo_X5_rowOf, mW (mT5 (List.mem_of_getElem? (i := 1) (by decide +kernel))) rfl, im_X5_rowOf, se_X5_rowOf, in_X5_rowOf, co_X5_rowOf⟩
theorem lv_X11_205 : LV RX11 205 yX5_codeAt cX5_codeAt 3 (some .int) 2 5 := ⟨⟨(RX5, TX5, 9), rfl, rfl⟩, yo_X5_codeAt, mW (mT5 (List.mem_of_getElem? (i := 2) (by decide +kernel))) rfl, im_X5_codeAt, se_X5_codeAt, in_X5_codeAt, co_X5_codeAt⟩
theorem fl_X11_196 : FLR RX11 196 5 0 := ⟨⟨RX5, TX5, 9, rfl, by decide, inl5, Or.inr (mT2 (List.mem_of_getElem? (i := 146) (by decide +kernel)))⟩, by decide, by decide +kernel⟩
theorem fl_X11_199 : FLR RX11 199 5 1 := ⟨⟨RX5, TX5, 9, rfl, by decide, inl5, Or.inr (mT2 (List.mem_of_getElem? (i := 148) (by decide +kernel)))⟩, by decide, by decide +kernel⟩
theorem fl_X11_202 : FLR RX11 202 5 2 := ⟨⟨RX5, TX5, 9, rfl, by decide, inl5, Or.inr (mT2 (List.mem_of_getElem? (i := 150) (by decide +kernel)))⟩, by decide, by decide +kernel⟩
theorem dX11_report_0 : decode cX11_report 0 = .ok (.aload_n 0, 1) := by decide +kernel
theorem dX11_report_1 : decode cX11_report 1 = .ok (.getfield 46, 3) := by decide +kernel
theorem dX11_report_4 : decode cX11_report 4 = .ok (.getfield 111, 3) := by decide +kernel
theorem dX11_report_7 : decode cX11_report 7 = .ok (.astore_n 3, 1) := by decide +kernel
theorem dX11_report_8 : decode cX11_report 8 = .ok (.aload_n 3, 1) := by decide +kernel
theorem dX11_report_9 : decode cX11_report 9 = .ok (.iload_n 1, 1) := by decide +kernel
theorem dX11_report_10 : decode cX11_report 10 = .ok (.invokevirtual 193, 3) := by decide +kernel
theorem dX11_report_13 : decode cX11_report 13 = .ok (.istore 4, 2) := by decide +kernel
theorem dX11_report_15 : decode cX11_report 15 = .ok (.iload 4, 2) := by decide +kernel
theorem dX11_report_17 : decode cX11_report 17 = .ok (.iconst (-1), 1) := by decide +kernel
theorem dX11_report_18 : decode cX11_report 18 = .ok (.if_icmp .ne 5, 3) := by decide +kernel
theorem dX11_report_21 : decode cX11_report 21 = .ok (.iconst (-1), 1) := by decide +kernel
theorem dX11_report_22 : decode cX11_report 22 = .ok (.ireturn, 1) := by decide +kernel
theorem dX11_report_23 : decode cX11_report 23 = .ok (.iload_n 2, 1) := by decide +kernel
theorem dX11_report_24 : decode cX11_report 24 = .ok (.tableswitch 52 0 2 #[28, 36, 44], 28) := by decide +kernel
theorem dX11_report_52 : decode cX11_report 52 = .ok (.aload_n 3, 1) := by decide +kernel
theorem dX11_report_53 : decode cX11_report 53 = .ok (.getfield 196, 3) := by decide +kernel
theorem dX11_report_56 : decode cX11_report 56 = .ok (.iload 4, 2) := by decide +kernel
theorem dX11_report_58 : decode cX11_report 58 = .ok (.iaload, 1) := by decide +kernel
theorem dX11_report_59 : decode cX11_report 59 = .ok (.ireturn, 1) := by decide +kernel
theorem dX11_report_60 : decode cX11_report 60 = .ok (.aload_n 3, 1) := by decide +kernel
theorem dX11_report_61 : decode cX11_report 61 = .ok (.getfield 199, 3) := by decide +kernel
theorem dX11_report_64 : decode cX11_report 64 = .ok (.iload 4, 2) := by decide +kernel
theorem dX11_report_66 : decode cX11_report 66 = .ok (.iaload, 1) := by decide +kernel
theorem dX11_report_67 : decode cX11_report 67 = .ok (.ireturn, 1) := by decide +kernel
theorem dX11_report_68 : decode cX11_report 68 = .ok (.aload_n 3, 1) := by decide +kernel
theorem dX11_report_69 : decode cX11_report 69 = .ok (.getfield 202, 3) := by decide +kernel
theorem dX11_report_72 : decode cX11_report 72 = .ok (.iload 4, 2) := by decide +kernel
theorem dX11_report_74 : decode cX11_report 74 = .ok (.iaload, 1) := by decide +kernel
theorem dX11_report_75 : decode cX11_report 75 = .ok (.ireturn, 1) := by decide +kernel
theorem dX11_report_76 : decode cX11_report 76 = .ok (.aload_n 3, 1) := by decide +kernel
theorem dX11_report_77 : decode cX11_report 77 = .ok (.iload 4, 2) := by decide +kernel
theorem dX11_report_79 : decode cX11_report 79 = .ok (.iload_n 2, 1) := by decide +kernel
theorem dX11_report_80 : decode cX11_report 80 = .ok (.iconst 3, 1) := by decide +kernel
theorem dX11_report_81 : decode cX11_report 81 = .ok (.if_icmp .ge 7, 3) := by decide +kernel
theorem dX11_report_84 : decode cX11_report 84 = .ok (.iconst (-1), 1) := by decide +kernel
theorem dX11_report_85 : decode cX11_report 85 = .ok (.goto 6, 3) := by decide +kernel
theorem dX11_report_88 : decode cX11_report 88 = .ok (.iload_n 2, 1) := by decide +kernel
theorem dX11_report_89 : decode cX11_report 89 = .ok (.iconst 3, 1) := by decide +kernel
theorem dX11_report_90 : decode cX11_report 90 = .ok (.isub, 1) := by decide +kernel
theorem dX11_report_91 : decode cX11_report 91 = .ok (.invokevirtual 205, 3) := by decide +kernel
theorem dX11_report_94 : decode cX11_report 94 = .ok (.ireturn, 1) := by decide +kernel
def rmX11_report : Room := { frames := 1, cells := 0, slots := 0, locals := 22 }
set_option maxRecDepth 100000 in
def fX11_report_J91 (N : Nat) (g : Gs) (x0 : Nat) (x1 : Int32) (x2 : Int32) (z0 : Int32) (z1 : Int32) (z2 : Nat) (d : Ds) : Option (Int32 × Ds) := gd (chk g z2 5) <| cb (fX5_codeAt N g z2 z1 z0 d) fun u15 d13 => (some (u15, d13))
set_option maxHeartbeats 4000000 in
set_option maxRecDepth 100000 in
theorem tX11_report_91 {p : Program} {l : Launch} {e : Env} {s : State} {m : MethodId} {args : Array Value} {below : List Frame} {meth : Method} {c : Code} {D : va_G} {cy : Nat → ClassId} {B : Bs} (C : Cx p s m args c cX11_report 5 RX11 D cy B) (hr : meth.sig.returnType = (some .int)) (hlocks : meth.locks = false) {N : Nat} {g : Gs} {x0 : Nat} {x1 : Int32} {x2 : Int32} {vz : Int32} {dz : Ds} {z0 : Int32} {z1 : Int32} {z2 : Nat} {d : Ds} (hf : fX11_report_J91 N g x0 x1 x2 z0 z1 z2 d = some (vz, dz)) : WB p l e rmX11_report s m args below meth c 5 D cy B 0 0 (MQ below (QI D cy B vz g dz) args s 0 0 (wA B)) g d [(0, .ref (ad B x0)), (1, .int x1), (2, .int x2)] 91 [.int z0, .int z1, .ref (ad B z2)] := by
  unfold fX11_report_J91 at hf
  obtain ⟨h12, hf⟩ := gd_s hf
  obtain ⟨u15, d13, k14, hf⟩ := cb_s hf
  refine b_cVI C [] dX11_report_91 (kX5_codeAt l D cy B k14) lv_X11_205 ⟨rfl, rfl, Nat.le_of_ble_eq_true rfl, Nat.le_of_ble_eq_true rfl⟩ h12 (by decide) rfl (Nat.le_of_ble_eq_true rfl) ⟨Nat.zero_le _, Nat.zero_le _⟩ rfl ?_
  exact b_iret C hr hlocks hf dX11_report_94
set_option maxRecDepth 100000 in
def fX11_report (N : Nat) (g : Gs) (x0 : Nat) (x1 : Int32) (x2 : Int32) (d : Ds) : Option (Int32 × Ds) := gd (chk g x0 10) <| ob (gR g x0 6) fun r2 => (gd (chk g r2 1) <| ob (gR g r2 4) fun r4 => (gd (chk g r4 5) <| cb (fX5_rowOf N g r4 x1 d) fun u8 d6 => (if u8 = (-1 : Int32) then (some ((-1), d6)) else (if x2.toInt < 0 ∨ 2 < x2.toInt then (if (3 : Int32) ≤ x2 then (fX11_report_J91 N g x0 x1 x2 (x2 - 3) u8 r4 d6) else (fX11_report_J91 N g x0 x1 x2 (-1) u8 r4 d6)) else if x2 = 0 then (ob (gR g r4 0) fun r17 => (gd (chk g r17 102) <| gd (¬ (u8 < 0 ∨ gL g r17 ≤ u8.toNatClampNeg)) <| some ((dI d6 r17 u8.toNatClampNeg), d6))) else if x2 = 1 then (ob (gR g r4 1) fun r21 => (gd (chk g r21 102) <| gd (¬ (u8 < 0 ∨ gL g r21 ≤ u8.toNatClampNeg)) <| some ((dI d6 r21 u8.toNatClampNeg), d6))) else if x2 = 2 then (ob (gR g r4 2) fun r25 => (gd (chk g r25 102) <| gd (¬ (u8 < 0 ∨ gL g r25 ≤ u8.toNatClampNeg)) <| some ((dI d6 r25 u8.toNatClampNeg), d6))) else none))))
set_option maxHeartbeats 4000000 in
set_option maxRecDepth 100000 in
theorem tX11_report_E {p : Program} {l : Launch} {e : Env} {s : State} {m : MethodId} {args : Array Value} {below : List Frame} {meth : Method} {c : Code} {D : va_G} {cy : Nat → ClassId} {B : Bs} (C : Cx p s m args c cX11_report 5 RX11 D cy B) (hr : meth.sig.returnType = (some .int)) (hlocks : meth.locks = false) {N : Nat} {g : Gs} {x0 : Nat} {x1 : Int32} {x2 : Int32} {vz : Int32} {dz : Ds} {d : Ds} (hf : fX11_report N g x0 x1 x2 d = some (vz, dz)) : WB p l e rmX11_report s m args below meth c 5 D cy B 0 0 (MQ below (QI D cy B vz g dz) args s 0 0 (wA B)) g d [(0, .ref (ad B x0)), (1, .int x1), (2, .int x2)] 0 [] := by
  unfold fX11_report at hf
  refine b_aload_n C dX11_report_0 0 rfl rfl ?_
  obtain ⟨h1, hf⟩ := gd_s hf
  obtain ⟨r2, er2, hf⟩ := ob_s hf
  refine b_gR C dX11_report_1 fl_X11_46 h1 er2 ?_
  obtain ⟨h3, hf⟩ := gd_s hf
  obtain ⟨r4, er4, hf⟩ := ob_s hf
  refine b_gR C dX11_report_4 fl_X11_111 h3 er4 ?_
  refine b_astore_n C dX11_report_7 rfl [(3, .ref (ad B r4)), (0, .ref (ad B x0)), (1, .int x1), (2, .int x2)] (by decide) rfl ?_
  refine b_aload_n C dX11_report_8 0 rfl rfl ?_
  refine b_iload_n C dX11_report_9 2 rfl rfl ?_
  obtain ⟨h5, hf⟩ := gd_s hf
  obtain ⟨u8, d6, k7, hf⟩ := cb_s hf
  refine b_cVI C [] dX11_report_10 (kX5_rowOf l D cy B k7) lv_X11_193 ⟨rfl, rfl, Nat.le_of_ble_eq_true rfl, Nat.le_of_ble_eq_true rfl⟩ h5 (by decide) rfl (Nat.le_of_ble_eq_true rfl) ⟨Nat.zero_le _, Nat.zero_le _⟩ rfl ?_
  refine b_istore C dX11_report_13 [(4, .int u8), (3, .ref (ad B r4)), (0, .ref (ad B x0)), (1, .int x1), (2, .int x2)] (by decide) rfl ?_
  refine b_iload C dX11_report_15 0 rfl ?_
  refine b_iconst C (v := (-1)) dX11_report_17 (by decide) ?_
  refine b_icmp_ne C (tgt := 23) dX11_report_18 (by decide) (fun c9 => ?_) (fun c9 => ?_)
  · have hf := if_s c9 hf
    refine b_iload_n C dX11_report_23 4 rfl rfl ?_
    by_cases c10 : x2.toInt < 0 ∨ 2 < x2.toInt
    · have hf := it_s c10 hf
      refine b_tabOut C (tgt := 76) dX11_report_24 c10 (by decide) ?_
      refine b_aload_n C dX11_report_76 1 rfl rfl ?_
      refine b_iload C dX11_report_77 0 rfl ?_
      refine b_iload_n C dX11_report_79 4 rfl rfl ?_
      refine b_iconst C (v := 3) dX11_report_80 (by decide) ?_
      refine b_icmp_ge C (tgt := 88) dX11_report_81 (by decide) (fun c11 => ?_) (fun c11 => ?_)
      · have hf := it_s c11 hf
        refine b_iload_n C dX11_report_88 4 rfl rfl ?_
        refine b_iconst C (v := 3) dX11_report_89 (by decide) ?_
        refine b_isub C dX11_report_90 ?_
        refine b_sub [(0, .ref (ad B x0)), (1, .int x1), (2, .int x2)] [2, 3, 4] rfl ?_
        exact tX11_report_91 C hr hlocks hf
      · have hf := if_s c11 hf
        refine b_iconst C (v := (-1)) dX11_report_84 (by decide) ?_
        refine b_goto C (tgt := 91) dX11_report_85 (by decide) ?_
        refine b_sub [(0, .ref (ad B x0)), (1, .int x1), (2, .int x2)] [2, 3, 4] rfl ?_
        exact tX11_report_91 C hr hlocks hf
    · have hf := if_s c10 hf
      by_cases c16 : x2 = 0
      · have hf := it_s c16 hf
        refine b_tabIn C (tgt := 52) (off := 28) dX11_report_24 c16 (by decide) (by decide) (by decide) (by decide) ?_
        refine b_aload_n C dX11_report_52 1 rfl rfl ?_
        obtain ⟨r17, er17, hf⟩ := ob_s hf
        refine b_gR C dX11_report_53 fl_X11_196 h5 er17 ?_
        refine b_iload C dX11_report_56 0 rfl ?_
        obtain ⟨h18, hf⟩ := gd_s hf
        obtain ⟨h19, hf⟩ := gd_s hf
        refine b_iald C h18 h19 dX11_report_58 ?_
        exact b_iret C hr hlocks hf dX11_report_59
      have hf := if_s c16 hf
      by_cases c20 : x2 = 1
      · have hf := it_s c20 hf
        refine b_tabIn C (tgt := 60) (off := 36) dX11_report_24 c20 (by decide) (by decide) (by decide) (by decide) ?_
        refine b_aload_n C dX11_report_60 1 rfl rfl ?_
        obtain ⟨r21, er21, hf⟩ := ob_s hf
        refine b_gR C dX11_report_61 fl_X11_199 h5 er21 ?_
        refine b_iload C dX11_report_64 0 rfl ?_
        obtain ⟨h22, hf⟩ := gd_s hf
        obtain ⟨h23, hf⟩ := gd_s hf
        refine b_iald C h22 h23 dX11_report_66 ?_
        exact b_iret C hr hlocks hf dX11_report_67
      have hf := if_s c20 hf
      by_cases c24 : x2 = 2
      · have hf := it_s c24 hf
        refine b_tabIn C (tgt := 68) (off := 44) dX11_report_24 c24 (by decide) (by decide) (by decide) (by decide) ?_
        refine b_aload_n C dX11_report_68 1 rfl rfl ?_
        obtain ⟨r25, er25, hf⟩ := ob_s hf
        refine b_gR C dX11_report_69 fl_X11_202 h5 er25 ?_
        refine b_iload C dX11_report_72 0 rfl ?_
        obtain ⟨h26, hf⟩ := gd_s hf
        obtain ⟨h27, hf⟩ := gd_s hf
        refine b_iald C h26 h27 dX11_report_74 ?_
        exact b_iret C hr hlocks hf dX11_report_75
      have hf := if_s c24 hf
      cases hf
  · have hf := it_s c9 hf
    refine b_iconst C (v := (-1)) dX11_report_21 (by decide) ?_
    exact b_iret C hr hlocks hf dX11_report_22
theorem kX11_report (l : Launch) (D : va_G) (cy : Nat → ClassId) (B : Bs) {N : Nat} {g : Gs} {x0 : Nat} {x1 : Int32} {x2 : Int32} {vz : Int32} {dz : Ds} {d : Ds} (hf : fX11_report N g x0 x1 x2 d = some (vz, dz)) : Met l yX11_report (.code yX11_report cX11_report 5 (some .int) :: wl) rmX11_report (PC D cy B [.ref (ad B x0), .int x1, .int x2] g d) (QI D cy B vz g dz) 0 0 (wA B) :=
  met_of (by decide +kernel) (Nat.le_of_ble_eq_true rfl) (fun p e s m args below meth c C hr hlocks _ => b_sub [(0, .ref (ad B x0)), (1, .int x1), (2, .int x2)] [0, 1, 2] rfl (tX11_report_E C hr hlocks hf))
/-! KeyMatrix.sent(I)I -/
theorem lv_X11_208 : LV RX11 208 yX3_gather cX3_gather 4 none 1 3 := ⟨⟨(RX3, TX3, 9), rfl, rfl⟩, yo_X3_gather, mW (mT5 (List.mem_of_getElem? (i := 7) (by decide +kernel))) rfl, im_X3_gather, se_X3_gather, in_X3_gather, co_X3_gather⟩
theorem fl_X11_211 : FLI RX11 211 3 6 := ⟨⟨RX3, TX3, 9, rfl, by decide, inl3, Or.inr (mT2 (List.mem_of_getElem? (i := 113) (by decide +kernel)))⟩, by decide, by decide +kernel⟩
theorem fl_X11_213 : FLI RX11 213 3 8 := ⟨⟨RX3, TX3, 9, rfl, by decide, inl3, Or.inr (mT2 (List.mem_of_getElem? (i := 119) (by decide +kernel)))⟩, by decide, by decide +kernel⟩
theorem fl_X11_216 : FLR RX11 216 3 7 := ⟨⟨RX3, TX3, 9, rfl, by decide, inl3, Or.inr (mT2 (List.mem_of_getElem? (i := 116) (by decide +kernel)))⟩, by decide, by decide +kernel⟩
theorem dX11_sent_0 : decode cX11_sent 0 = .ok (.aload_n 0, 1) := by decide +kernel
theorem dX11_sent_1 : decode cX11_sent 1 = .ok (.getfield 46, 3) := by decide +kernel
theorem dX11_sent_4 : decode cX11_sent 4 = .ok (.getfield 163, 3) := by decide +kernel
theorem dX11_sent_7 : decode cX11_sent 7 = .ok (.astore_n 2, 1) := by decide +kernel
theorem dX11_sent_8 : decode cX11_sent 8 = .ok (.aload_n 2, 1) := by decide +kernel
theorem dX11_sent_9 : decode cX11_sent 9 = .ok (.iconst (-1), 1) := by decide +kernel
theorem dX11_sent_10 : decode cX11_sent 10 = .ok (.invokevirtual 208, 3) := by decide +kernel
theorem dX11_sent_13 : decode cX11_sent 13 = .ok (.iload_n 1, 1) := by decide +kernel
theorem dX11_sent_14 : decode cX11_sent 14 = .ok (.lookupswitch 36 #[(0, 26), (1, 31)], 26) := by decide +kernel
theorem dX11_sent_40 : decode cX11_sent 40 = .ok (.aload_n 2, 1) := by decide +kernel
theorem dX11_sent_41 : decode cX11_sent 41 = .ok (.getfield 211, 3) := by decide +kernel
theorem dX11_sent_44 : decode cX11_sent 44 = .ok (.ireturn, 1) := by decide +kernel
theorem dX11_sent_45 : decode cX11_sent 45 = .ok (.aload_n 2, 1) := by decide +kernel
theorem dX11_sent_46 : decode cX11_sent 46 = .ok (.getfield 213, 3) := by decide +kernel
theorem dX11_sent_49 : decode cX11_sent 49 = .ok (.ireturn, 1) := by decide +kernel
theorem dX11_sent_50 : decode cX11_sent 50 = .ok (.iload_n 1, 1) := by decide +kernel
theorem dX11_sent_51 : decode cX11_sent 51 = .ok (.iconst 2, 1) := by decide +kernel
theorem dX11_sent_52 : decode cX11_sent 52 = .ok (.if_icmp .lt 13, 3) := by decide +kernel
theorem dX11_sent_55 : decode cX11_sent 55 = .ok (.iload_n 1, 1) := by decide +kernel
theorem dX11_sent_56 : decode cX11_sent 56 = .ok (.iconst 2, 1) := by decide +kernel
theorem dX11_sent_57 : decode cX11_sent 57 = .ok (.isub, 1) := by decide +kernel
theorem dX11_sent_58 : decode cX11_sent 58 = .ok (.aload_n 2, 1) := by decide +kernel
theorem dX11_sent_59 : decode cX11_sent 59 = .ok (.getfield 213, 3) := by decide +kernel
theorem dX11_sent_62 : decode cX11_sent 62 = .ok (.if_icmp .lt 7, 3) := by decide +kernel
theorem dX11_sent_65 : decode cX11_sent 65 = .ok (.iconst (-1), 1) := by decide +kernel
theorem dX11_sent_66 : decode cX11_sent 66 = .ok (.goto 11, 3) := by decide +kernel
theorem dX11_sent_69 : decode cX11_sent 69 = .ok (.aload_n 2, 1) := by decide +kernel
theorem dX11_sent_70 : decode cX11_sent 70 = .ok (.getfield 216, 3) := by decide +kernel
theorem dX11_sent_73 : decode cX11_sent 73 = .ok (.iload_n 1, 1) := by decide +kernel
theorem dX11_sent_74 : decode cX11_sent 74 = .ok (.iconst 2, 1) := by decide +kernel
theorem dX11_sent_75 : decode cX11_sent 75 = .ok (.isub, 1) := by decide +kernel
theorem dX11_sent_76 : decode cX11_sent 76 = .ok (.iaload, 1) := by decide +kernel
theorem dX11_sent_77 : decode cX11_sent 77 = .ok (.ireturn, 1) := by decide +kernel
def rmX11_sent : Room := { frames := 2, cells := 0, slots := 0, locals := 45 }
set_option maxRecDepth 100000 in
def fX11_sent_J77 (N : Nat) (g : Gs) (x0 : Nat) (x1 : Int32) (z0 : Int32) (d : Ds) : Option (Int32 × Ds) := some (z0, d)
set_option maxHeartbeats 4000000 in
set_option maxRecDepth 100000 in
theorem tX11_sent_77 {p : Program} {l : Launch} {e : Env} {s : State} {m : MethodId} {args : Array Value} {below : List Frame} {meth : Method} {c : Code} {D : va_G} {cy : Nat → ClassId} {B : Bs} (C : Cx p s m args c cX11_sent 3 RX11 D cy B) (hr : meth.sig.returnType = (some .int)) (hlocks : meth.locks = false) {N : Nat} {g : Gs} {x0 : Nat} {x1 : Int32} {vz : Int32} {dz : Ds} {z0 : Int32} {d : Ds} (hf : fX11_sent_J77 N g x0 x1 z0 d = some (vz, dz)) : WB p l e rmX11_sent s m args below meth c 3 D cy B 0 0 (MQ below (QI D cy B vz g dz) args s 0 0 (wA B)) g d [(0, .ref (ad B x0)), (1, .int x1)] 77 [.int z0] := by
  unfold fX11_sent_J77 at hf
  exact b_iret C hr hlocks hf dX11_sent_77
set_option maxRecDepth 100000 in
def fX11_sent_J65 (N : Nat) (g : Gs) (x0 : Nat) (x1 : Int32) (d : Ds) : Option (Int32 × Ds) := fX11_sent_J77 N g x0 x1 (-1) d
set_option maxHeartbeats 4000000 in
set_option maxRecDepth 100000 in
theorem tX11_sent_65 {p : Program} {l : Launch} {e : Env} {s : State} {m : MethodId} {args : Array Value} {below : List Frame} {meth : Method} {c : Code} {D : va_G} {cy : Nat → ClassId} {B : Bs} (C : Cx p s m args c cX11_sent 3 RX11 D cy B) (hr : meth.sig.returnType = (some .int)) (hlocks : meth.locks = false) {N : Nat} {g : Gs} {x0 : Nat} {x1 : Int32} {vz : Int32} {dz : Ds} {d : Ds} (hf : fX11_sent_J65 N g x0 x1 d = some (vz, dz)) : WB p l e rmX11_sent s m args below meth c 3 D cy B 0 0 (MQ below (QI D cy B vz g dz) args s 0 0 (wA B)) g d [(0, .ref (ad B x0)), (1, .int x1)] 65 [] := by
  unfold fX11_sent_J65 at hf
  refine b_iconst C (v := (-1)) dX11_sent_65 (by decide) ?_
  refine b_goto C (tgt := 77) dX11_sent_66 (by decide) ?_
  refine b_sub [(0, .ref (ad B x0)), (1, .int x1)] [0, 1] rfl ?_
  exact tX11_sent_77 C hr hlocks hf
set_option maxRecDepth 100000 in
def fX11_sent (N : Nat) (g : Gs) (x0 : Nat) (x1 : Int32) (d : Ds) : Option (Int32 × Ds) := gd (chk g x0 10) <| ob (gR g x0 6) fun r2 => (gd (chk g r2 1) <| ob (gR g r2 3) fun r4 => (gd (chk g r4 3) <| cv (fX3_gather N g r4 (-1) d) fun d6 => (if x1 = 0 then (some ((dI d6 r4 6), d6)) else if x1 = 1 then (some ((dI d6 r4 8), d6)) else (if x1 < (2 : Int32) then (fX11_sent_J65 N g x0 x1 d6) else (if (x1 - 2) < (dI d6 r4 8) then (ob (gR g r4 7) fun r12 => (gd (chk g r12 102) <| gd (¬ ((x1 - 2) < 0 ∨ gL g r12 ≤ (x1 - 2).toNatClampNeg)) <| fX11_sent_J77 N g x0 x1 (dI d6 r12 (x1 - 2).toNatClampNeg) d6)) else (fX11_sent_J65 N g x0 x1 d6))))))
set_option maxHeartbeats 4000000 in
set_option maxRecDepth 100000 in
theorem tX11_sent_E {p : Program} {l : Launch} {e : Env} {s : State} {m : MethodId} {args : Array Value} {below : List Frame} {meth : Method} {c : Code} {D : va_G} {cy : Nat → ClassId} {B : Bs} (C : Cx p s m args c cX11_sent 3 RX11 D cy B) (hr : meth.sig.returnType = (some .int)) (hlocks : meth.locks = false) {N : Nat} {g : Gs} {x0 : Nat} {x1 : Int32} {vz : Int32} {dz : Ds} {d : Ds} (hf : fX11_sent N g x0 x1 d = some (vz, dz)) : WB p l e rmX11_sent s m args below meth c 3 D cy B 0 0 (MQ below (QI D cy B vz g dz) args s 0 0 (wA B)) g d [(0, .ref (ad B x0)), (1, .int x1)] 0 [] := by
  unfold fX11_sent at hf
  refine b_aload_n C dX11_sent_0 0 rfl rfl ?_
  obtain ⟨h1, hf⟩ := gd_s hf
  obtain ⟨r2, er2, hf⟩ := ob_s hf
  refine b_gR C dX11_sent_1 fl_X11_46 h1 er2 ?_
  obtain ⟨h3, hf⟩ := gd_s hf
  obtain ⟨r4, er4, hf⟩ := ob_s hf
  refine b_gR C dX11_sent_4 fl_X11_163 h3 er4 ?_
  refine b_astore_n C dX11_sent_7 rfl [(2, .ref (ad B r4)), (0, .ref (ad B x0)), (1, .int x1)] (by decide) rfl ?_
  refine b_aload_n C dX11_sent_8 0 rfl rfl ?_
  refine b_iconst C (v := (-1)) dX11_sent_9 (by decide) ?_
  obtain ⟨h5, hf⟩ := gd_s hf
  obtain ⟨d6, k7, hf⟩ := cv_s hf
  refine b_cVN C [] dX11_sent_10 (kX3_gather l D cy B k7) lv_X11_208 ⟨rfl, rfl, Nat.le_of_ble_eq_true rfl, Nat.le_of_ble_eq_true rfl⟩ h5 (by decide) rfl (Nat.le_of_ble_eq_true rfl) ⟨Nat.zero_le _, Nat.zero_le _⟩ rfl ?_
  refine b_iload_n C dX11_sent_13 2 rfl rfl ?_
  by_cases c8 : x1 = 0
  · have hf := it_s c8 hf
    refine b_look C (tgt := 40) (off := 26) dX11_sent_14 (by decide) (by rw [c8]; decide) (by decide) ?_
    refine b_aload_n C dX11_sent_40 0 rfl rfl ?_
    refine b_gI C dX11_sent_41 fl_X11_211 h5 ?_
    exact b_iret C hr hlocks hf dX11_sent_44
  have hf := if_s c8 hf
  by_cases c9 : x1 = 1
  · have hf := it_s c9 hf
    refine b_look C (tgt := 45) (off := 31) dX11_sent_14 (by decide) (by rw [c9]; decide) (by decide) ?_
    refine b_aload_n C dX11_sent_45 0 rfl rfl ?_
    refine b_gI C dX11_sent_46 fl_X11_213 h5 ?_
    exact b_iret C hr hlocks hf dX11_sent_49
  have hf := if_s c9 hf
  refine b_look C (tgt := 50) (off := 36) dX11_sent_14 (by decide) ((lv_osw c8 (by decide)).trans ((lv_osw c9 (by decide)).trans rfl)) (by decide) ?_
  refine b_iload_n C dX11_sent_50 2 rfl rfl ?_
  refine b_iconst C (v := 2) dX11_sent_51 (by decide) ?_
  refine b_icmp_lt C (tgt := 65) dX11_sent_52 (by decide) (fun c10 => ?_) (fun c10 => ?_)
  · have hf := it_s c10 hf
    refine b_sub [(0, .ref (ad B x0)), (1, .int x1)] [1, 2] rfl ?_
    exact tX11_sent_65 C hr hlocks hf
  · have hf := if_s c10 hf
    refine b_iload_n C dX11_sent_55 2 rfl rfl ?_
    refine b_iconst C (v := 2) dX11_sent_56 (by decide) ?_
    refine b_isub C dX11_sent_57 ?_
    refine b_aload_n C dX11_sent_58 0 rfl rfl ?_
    refine b_gI C dX11_sent_59 fl_X11_213 h5 ?_
    refine b_icmp_lt C (tgt := 69) dX11_sent_62 (by decide) (fun c11 => ?_) (fun c11 => ?_)
    · have hf := it_s c11 hf
      refine b_aload_n C dX11_sent_69 0 rfl rfl ?_
      obtain ⟨r12, er12, hf⟩ := ob_s hf
      refine b_gR C dX11_sent_70 fl_X11_216 h5 er12 ?_
      refine b_iload_n C dX11_sent_73 2 rfl rfl ?_
      refine b_iconst C (v := 2) dX11_sent_74 (by decide) ?_
      refine b_isub C dX11_sent_75 ?_
      obtain ⟨h13, hf⟩ := gd_s hf
      obtain ⟨h14, hf⟩ := gd_s hf
      refine b_iald C h13 h14 dX11_sent_76 ?_
      refine b_sub [(0, .ref (ad B x0)), (1, .int x1)] [1, 2] rfl ?_
      exact tX11_sent_77 C hr hlocks hf
    · have hf := if_s c11 hf
      refine b_sub [(0, .ref (ad B x0)), (1, .int x1)] [1, 2] rfl ?_
      exact tX11_sent_65 C hr hlocks hf
theorem kX11_sent (l : Launch) (D : va_G) (cy : Nat → ClassId) (B : Bs) {N : Nat} {g : Gs} {x0 : Nat} {x1 : Int32} {vz : Int32} {dz : Ds} {d : Ds} (hf : fX11_sent N g x0 x1 d = some (vz, dz)) : Met l yX11_sent (.code yX11_sent cX11_sent 3 (some .int) :: wl) rmX11_sent (PC D cy B [.ref (ad B x0), .int x1] g d) (QI D cy B vz g dz) 0 0 (wA B) :=
  met_of (by decide +kernel) (Nat.le_of_ble_eq_true rfl) (fun p e s m args below meth c C hr hlocks _ => b_sub [(0, .ref (ad B x0)), (1, .int x1)] [0, 1] rfl (tX11_sent_E C hr hlocks hf))
/-! KeyMatrix.host(I)I -/
theorem fl_X11_219 : FLI RX11 219 5 5 := ⟨⟨RX5, TX5, 9, rfl, by decide, inl5, Or.inr (mT2 (List.mem_of_getElem? (i := 155) (by decide +kernel)))⟩, by decide, by decide +kernel⟩
theorem fl_X11_222 : FLI RX11 222 5 6 := ⟨⟨RX5, TX5, 9, rfl, by decide, inl5, Or.inr (mT2 (List.mem_of_getElem? (i := 157) (by decide +kernel)))⟩, by decide, by decide +kernel⟩
theorem fl_X11_225 : FLI RX11 225 5 7 := ⟨⟨RX5, TX5, 9, rfl, by decide, inl5, Or.inr (mT2 (List.mem_of_getElem? (i := 159) (by decide +kernel)))⟩, by decide, by decide +kernel⟩
theorem fl_X11_228 : FLI RX11 228 5 8 := ⟨⟨RX5, TX5, 9, rfl, by decide, inl5, Or.inr (mT2 (List.mem_of_getElem? (i := 161) (by decide +kernel)))⟩, by decide, by decide +kernel⟩
theorem dX11_host_0 : decode cX11_host 0 = .ok (.aload_n 0, 1) := by decide +kernel
theorem dX11_host_1 : decode cX11_host 1 = .ok (.getfield 46, 3) := by decide +kernel
theorem dX11_host_4 : decode cX11_host 4 = .ok (.getfield 111, 3) := by decide +kernel
theorem dX11_host_7 : decode cX11_host 7 = .ok (.astore_n 2, 1) := by decide +kernel
theorem dX11_host_8 : decode cX11_host 8 = .ok (.iload_n 1, 1) := by decide +kernel
theorem dX11_host_9 : decode cX11_host 9 = .ok (.tableswitch 51 0 3 #[31, 36, 41, 46], 31) := by decide +kernel
theorem dX11_host_40 : decode cX11_host 40 = .ok (.aload_n 2, 1) := by decide +kernel
theorem dX11_host_41 : decode cX11_host 41 = .ok (.getfield 219, 3) := by decide +kernel
theorem dX11_host_44 : decode cX11_host 44 = .ok (.ireturn, 1) := by decide +kernel
theorem dX11_host_45 : decode cX11_host 45 = .ok (.aload_n 2, 1) := by decide +kernel
theorem dX11_host_46 : decode cX11_host 46 = .ok (.getfield 222, 3) := by decide +kernel
theorem dX11_host_49 : decode cX11_host 49 = .ok (.ireturn, 1) := by decide +kernel
theorem dX11_host_50 : decode cX11_host 50 = .ok (.aload_n 2, 1) := by decide +kernel
theorem dX11_host_51 : decode cX11_host 51 = .ok (.getfield 225, 3) := by decide +kernel
theorem dX11_host_54 : decode cX11_host 54 = .ok (.ireturn, 1) := by decide +kernel
theorem dX11_host_55 : decode cX11_host 55 = .ok (.aload_n 2, 1) := by decide +kernel
theorem dX11_host_56 : decode cX11_host 56 = .ok (.getfield 228, 3) := by decide +kernel
theorem dX11_host_59 : decode cX11_host 59 = .ok (.ireturn, 1) := by decide +kernel
theorem dX11_host_60 : decode cX11_host 60 = .ok (.bipush (-2), 2) := by decide +kernel
theorem dX11_host_62 : decode cX11_host 62 = .ok (.ireturn, 1) := by decide +kernel
def rmX11_host : Room := { frames := 0, cells := 0, slots := 0, locals := 0 }
set_option maxRecDepth 100000 in
def fX11_host (N : Nat) (g : Gs) (x0 : Nat) (x1 : Int32) (d : Ds) : Option (Int32 × Ds) := gd (chk g x0 10) <| ob (gR g x0 6) fun r2 => (gd (chk g r2 1) <| ob (gR g r2 4) fun r4 => (if x1.toInt < 0 ∨ 3 < x1.toInt then (some ((-2), d)) else if x1 = 0 then (gd (chk g r4 5) <| some ((dI d r4 5), d)) else if x1 = 1 then (gd (chk g r4 5) <| some ((dI d r4 6), d)) else if x1 = 2 then (gd (chk g r4 5) <| some ((dI d r4 7), d)) else if x1 = 3 then (gd (chk g r4 5) <| some ((dI d r4 8), d)) else none))
set_option maxHeartbeats 4000000 in
set_option maxRecDepth 100000 in
theorem tX11_host_E {p : Program} {l : Launch} {e : Env} {s : State} {m : MethodId} {args : Array Value} {below : List Frame} {meth : Method} {c : Code} {D : va_G} {cy : Nat → ClassId} {B : Bs} (C : Cx p s m args c cX11_host 3 RX11 D cy B) (hr : meth.sig.returnType = (some .int)) (hlocks : meth.locks = false) {N : Nat} {g : Gs} {x0 : Nat} {x1 : Int32} {vz : Int32} {dz : Ds} {d : Ds} (hf : fX11_host N g x0 x1 d = some (vz, dz)) : WB p l e rmX11_host s m args below meth c 3 D cy B 0 0 (MQ below (QI D cy B vz g dz) args s 0 0 (wA B)) g d [(0, .ref (ad B x0)), (1, .int x1)] 0 [] := by
  unfold fX11_host at hf
  refine b_aload_n C dX11_host_0 0 rfl rfl ?_
  obtain ⟨h1, hf⟩ := gd_s hf
  obtain ⟨r2, er2, hf⟩ := ob_s hf
  refine b_gR C dX11_host_1 fl_X11_46 h1 er2 ?_
  obtain ⟨h3, hf⟩ := gd_s hf
  obtain ⟨r4, er4, hf⟩ := ob_s hf
  refine b_gR C dX11_host_4 fl_X11_111 h3 er4 ?_
  refine b_astore_n C dX11_host_7 rfl [(2, .ref (ad B r4)), (0, .ref (ad B x0)), (1, .int x1)] (by decide) rfl ?_
  refine b_iload_n C dX11_host_8 2 rfl rfl ?_
  by_cases c5 : x1.toInt < 0 ∨ 3 < x1.toInt
  · have hf := it_s c5 hf
    refine b_tabOut C (tgt := 60) dX11_host_9 c5 (by decide) ?_
    refine b_bipush C (v := (-2)) dX11_host_60 (by decide) ?_
    exact b_iret C hr hlocks hf dX11_host_62
  · have hf := if_s c5 hf
    by_cases c6 : x1 = 0
    · have hf := it_s c6 hf
      refine b_tabIn C (tgt := 40) (off := 31) dX11_host_9 c6 (by decide) (by decide) (by decide) (by decide) ?_
      refine b_aload_n C dX11_host_40 0 rfl rfl ?_
      obtain ⟨h7, hf⟩ := gd_s hf
      refine b_gI C dX11_host_41 fl_X11_219 h7 ?_
      exact b_iret C hr hlocks hf dX11_host_44
    have hf := if_s c6 hf
    by_cases c8 : x1 = 1
    · have hf := it_s c8 hf
      refine b_tabIn C (tgt := 45) (off := 36) dX11_host_9 c8 (by decide) (by decide) (by decide) (by decide) ?_
      refine b_aload_n C dX11_host_45 0 rfl rfl ?_
      obtain ⟨h9, hf⟩ := gd_s hf
      refine b_gI C dX11_host_46 fl_X11_222 h9 ?_
      exact b_iret C hr hlocks hf dX11_host_49
    have hf := if_s c8 hf
    by_cases c10 : x1 = 2
    · have hf := it_s c10 hf
      refine b_tabIn C (tgt := 50) (off := 41) dX11_host_9 c10 (by decide) (by decide) (by decide) (by decide) ?_
      refine b_aload_n C dX11_host_50 0 rfl rfl ?_
      obtain ⟨h11, hf⟩ := gd_s hf
      refine b_gI C dX11_host_51 fl_X11_225 h11 ?_
      exact b_iret C hr hlocks hf dX11_host_54
    have hf := if_s c10 hf
    by_cases c12 : x1 = 3
    · have hf := it_s c12 hf
      refine b_tabIn C (tgt := 55) (off := 46) dX11_host_9 c12 (by decide) (by decide) (by decide) (by decide) ?_
      refine b_aload_n C dX11_host_55 0 rfl rfl ?_
      obtain ⟨h13, hf⟩ := gd_s hf
      refine b_gI C dX11_host_56 fl_X11_228 h13 ?_
      exact b_iret C hr hlocks hf dX11_host_59
    have hf := if_s c12 hf
    cases hf
theorem kX11_host (l : Launch) (D : va_G) (cy : Nat → ClassId) (B : Bs) {N : Nat} {g : Gs} {x0 : Nat} {x1 : Int32} {vz : Int32} {dz : Ds} {d : Ds} (hf : fX11_host N g x0 x1 d = some (vz, dz)) : Met l yX11_host (.code yX11_host cX11_host 3 (some .int) :: wl) rmX11_host (PC D cy B [.ref (ad B x0), .int x1] g d) (QI D cy B vz g dz) 0 0 (wA B) :=
  met_of (by decide +kernel) (Nat.le_of_ble_eq_true rfl) (fun p e s m args below meth c C hr hlocks _ => b_sub [(0, .ref (ad B x0)), (1, .int x1)] [0, 1] rfl (tX11_host_E C hr hlocks hf))
/-! KeyMatrix.strokes(II)I -/
theorem fl_X11_231 : FLR RX11 231 6 6 := ⟨⟨RX6, TX6, 9, rfl, by decide, inl6, Or.inr (mT2 (List.mem_of_getElem? (i := 48) (by decide +kernel)))⟩, by decide, by decide +kernel⟩
theorem fl_X11_234 : FLR RX11 234 6 7 := ⟨⟨RX6, TX6, 9, rfl, by decide, inl6, Or.inr (mT2 (List.mem_of_getElem? (i := 50) (by decide +kernel)))⟩, by decide, by decide +kernel⟩
theorem fl_X11_237 : FLR RX11 237 6 8 := ⟨⟨RX6, TX6, 9, rfl, by decide, inl6, Or.inr (mT2 (List.mem_of_getElem? (i := 52) (by decide +kernel)))⟩, by decide, by decide +kernel⟩
theorem dX11_strokes_0 : decode cX11_strokes 0 = .ok (.aload_n 0, 1) := by decide +kernel
theorem dX11_strokes_1 : decode cX11_strokes 1 = .ok (.getfield 30, 3) := by decide +kernel
theorem dX11_strokes_4 : decode cX11_strokes 4 = .ok (.iload_n 1, 1) := by decide +kernel
theorem dX11_strokes_5 : decode cX11_strokes 5 = .ok (.invokevirtual 82, 3) := by decide +kernel
theorem dX11_strokes_8 : decode cX11_strokes 8 = .ok (.ifCond .ne 6, 3) := by decide +kernel
theorem dX11_strokes_11 : decode cX11_strokes 11 = .ok (.bipush (-2), 2) := by decide +kernel
theorem dX11_strokes_13 : decode cX11_strokes 13 = .ok (.ireturn, 1) := by decide +kernel
theorem dX11_strokes_14 : decode cX11_strokes 14 = .ok (.aload_n 0, 1) := by decide +kernel
theorem dX11_strokes_15 : decode cX11_strokes 15 = .ok (.getfield 46, 3) := by decide +kernel
theorem dX11_strokes_18 : decode cX11_strokes 18 = .ok (.getfield 78, 3) := by decide +kernel
theorem dX11_strokes_21 : decode cX11_strokes 21 = .ok (.astore_n 3, 1) := by decide +kernel
theorem dX11_strokes_22 : decode cX11_strokes 22 = .ok (.iload_n 2, 1) := by decide +kernel
theorem dX11_strokes_23 : decode cX11_strokes 23 = .ok (.tableswitch 46 0 2 #[25, 32, 39], 25) := by decide +kernel
theorem dX11_strokes_48 : decode cX11_strokes 48 = .ok (.aload_n 3, 1) := by decide +kernel
theorem dX11_strokes_49 : decode cX11_strokes 49 = .ok (.getfield 231, 3) := by decide +kernel
theorem dX11_strokes_52 : decode cX11_strokes 52 = .ok (.iload_n 1, 1) := by decide +kernel
theorem dX11_strokes_53 : decode cX11_strokes 53 = .ok (.iaload, 1) := by decide +kernel
theorem dX11_strokes_54 : decode cX11_strokes 54 = .ok (.ireturn, 1) := by decide +kernel
theorem dX11_strokes_55 : decode cX11_strokes 55 = .ok (.aload_n 3, 1) := by decide +kernel
theorem dX11_strokes_56 : decode cX11_strokes 56 = .ok (.getfield 234, 3) := by decide +kernel
theorem dX11_strokes_59 : decode cX11_strokes 59 = .ok (.iload_n 1, 1) := by decide +kernel
theorem dX11_strokes_60 : decode cX11_strokes 60 = .ok (.iaload, 1) := by decide +kernel
theorem dX11_strokes_61 : decode cX11_strokes 61 = .ok (.ireturn, 1) := by decide +kernel
theorem dX11_strokes_62 : decode cX11_strokes 62 = .ok (.aload_n 3, 1) := by decide +kernel
theorem dX11_strokes_63 : decode cX11_strokes 63 = .ok (.getfield 237, 3) := by decide +kernel
theorem dX11_strokes_66 : decode cX11_strokes 66 = .ok (.iload_n 1, 1) := by decide +kernel
theorem dX11_strokes_67 : decode cX11_strokes 67 = .ok (.iaload, 1) := by decide +kernel
theorem dX11_strokes_68 : decode cX11_strokes 68 = .ok (.ireturn, 1) := by decide +kernel
theorem dX11_strokes_69 : decode cX11_strokes 69 = .ok (.bipush (-2), 2) := by decide +kernel
theorem dX11_strokes_71 : decode cX11_strokes 71 = .ok (.ireturn, 1) := by decide +kernel
def rmX11_strokes : Room := { frames := 2, cells := 0, slots := 0, locals := 41 }
set_option maxRecDepth 100000 in
def fX11_strokes (N : Nat) (g : Gs) (x0 : Nat) (x1 : Int32) (x2 : Int32) (d : Ds) : Option (Int32 × Ds) := gd (chk g x0 10) <| ob (gR g x0 4) fun r2 => (gd (chk g r2 0) <| cb (fX0_hasKey N g r2 x1 d) fun u6 d4 => (if u6 = 0 then (some ((-2), d4)) else (ob (gR g x0 6) fun r8 => (gd (chk g r8 1) <| ob (gR g r8 1) fun r10 => (if x2.toInt < 0 ∨ 2 < x2.toInt then (some ((-2), d4)) else if x2 = 0 then (gd (chk g r10 6) <| ob (gR g r10 6) fun r14 => (gd (chk g r14 102) <| gd (¬ (x1 < 0 ∨ gL g r14 ≤ x1.toNatClampNeg)) <| some ((dI d4 r14 x1.toNatClampNeg), d4))) else if x2 = 1 then (gd (chk g r10 6) <| ob (gR g r10 7) fun r19 => (gd (chk g r19 102) <| gd (¬ (x1 < 0 ∨ gL g r19 ≤ x1.toNatClampNeg)) <| some ((dI d4 r19 x1.toNatClampNeg), d4))) else if x2 = 2 then (gd (chk g r10 6) <| ob (gR g r10 8) fun r24 => (gd (chk g r24 102) <| gd (¬ (x1 < 0 ∨ gL g r24 ≤ x1.toNatClampNeg)) <| some ((dI d4 r24 x1.toNatClampNeg), d4))) else none)))))
set_option maxHeartbeats 4000000 in
set_option maxRecDepth 100000 in
theorem tX11_strokes_E {p : Program} {l : Launch} {e : Env} {s : State} {m : MethodId} {args : Array Value} {below : List Frame} {meth : Method} {c : Code} {D : va_G} {cy : Nat → ClassId} {B : Bs} (C : Cx p s m args c cX11_strokes 4 RX11 D cy B) (hr : meth.sig.returnType = (some .int)) (hlocks : meth.locks = false) {N : Nat} {g : Gs} {x0 : Nat} {x1 : Int32} {x2 : Int32} {vz : Int32} {dz : Ds} {d : Ds} (hf : fX11_strokes N g x0 x1 x2 d = some (vz, dz)) : WB p l e rmX11_strokes s m args below meth c 4 D cy B 0 0 (MQ below (QI D cy B vz g dz) args s 0 0 (wA B)) g d [(0, .ref (ad B x0)), (1, .int x1), (2, .int x2)] 0 [] := by
  unfold fX11_strokes at hf
  refine b_aload_n C dX11_strokes_0 0 rfl rfl ?_
  obtain ⟨h1, hf⟩ := gd_s hf
  obtain ⟨r2, er2, hf⟩ := ob_s hf
  refine b_gR C dX11_strokes_1 fl_X11_30 h1 er2 ?_
  refine b_iload_n C dX11_strokes_4 1 rfl rfl ?_
  obtain ⟨h3, hf⟩ := gd_s hf
  obtain ⟨u6, d4, k5, hf⟩ := cb_s hf
  refine b_cVI C [] dX11_strokes_5 (kX0_hasKey l D cy B k5) lv_X11_82 ⟨rfl, rfl, Nat.le_of_ble_eq_true rfl, Nat.le_of_ble_eq_true rfl⟩ h3 (by decide) rfl (Nat.le_of_ble_eq_true rfl) ⟨Nat.zero_le _, Nat.zero_le _⟩ rfl ?_
  refine b_if_ne C (tgt := 14) dX11_strokes_8 (by decide) (fun c7 => ?_) (fun c7 => ?_)
  · have hf := if_s c7 hf
    refine b_aload_n C dX11_strokes_14 0 rfl rfl ?_
    obtain ⟨r8, er8, hf⟩ := ob_s hf
    refine b_gR C dX11_strokes_15 fl_X11_46 h1 er8 ?_
    obtain ⟨h9, hf⟩ := gd_s hf
    obtain ⟨r10, er10, hf⟩ := ob_s hf
    refine b_gR C dX11_strokes_18 fl_X11_78 h9 er10 ?_
    refine b_astore_n C dX11_strokes_21 rfl [(3, .ref (ad B r10)), (0, .ref (ad B x0)), (1, .int x1), (2, .int x2)] (by decide) rfl ?_
    refine b_iload_n C dX11_strokes_22 3 rfl rfl ?_
    by_cases c11 : x2.toInt < 0 ∨ 2 < x2.toInt
    · have hf := it_s c11 hf
      refine b_tabOut C (tgt := 69) dX11_strokes_23 c11 (by decide) ?_
      refine b_bipush C (v := (-2)) dX11_strokes_69 (by decide) ?_
      exact b_iret C hr hlocks hf dX11_strokes_71
    · have hf := if_s c11 hf
      by_cases c12 : x2 = 0
      · have hf := it_s c12 hf
        refine b_tabIn C (tgt := 48) (off := 25) dX11_strokes_23 c12 (by decide) (by decide) (by decide) (by decide) ?_
        refine b_aload_n C dX11_strokes_48 0 rfl rfl ?_
        obtain ⟨h13, hf⟩ := gd_s hf
        obtain ⟨r14, er14, hf⟩ := ob_s hf
        refine b_gR C dX11_strokes_49 fl_X11_231 h13 er14 ?_
        refine b_iload_n C dX11_strokes_52 2 rfl rfl ?_
        obtain ⟨h15, hf⟩ := gd_s hf
        obtain ⟨h16, hf⟩ := gd_s hf
        refine b_iald C h15 h16 dX11_strokes_53 ?_
        exact b_iret C hr hlocks hf dX11_strokes_54
      have hf := if_s c12 hf
      by_cases c17 : x2 = 1
      · have hf := it_s c17 hf
        refine b_tabIn C (tgt := 55) (off := 32) dX11_strokes_23 c17 (by decide) (by decide) (by decide) (by decide) ?_
        refine b_aload_n C dX11_strokes_55 0 rfl rfl ?_
        obtain ⟨h18, hf⟩ := gd_s hf
        obtain ⟨r19, er19, hf⟩ := ob_s hf
        refine b_gR C dX11_strokes_56 fl_X11_234 h18 er19 ?_
        refine b_iload_n C dX11_strokes_59 2 rfl rfl ?_
        obtain ⟨h20, hf⟩ := gd_s hf
        obtain ⟨h21, hf⟩ := gd_s hf
        refine b_iald C h20 h21 dX11_strokes_60 ?_
        exact b_iret C hr hlocks hf dX11_strokes_61
      have hf := if_s c17 hf
      by_cases c22 : x2 = 2
      · have hf := it_s c22 hf
        refine b_tabIn C (tgt := 62) (off := 39) dX11_strokes_23 c22 (by decide) (by decide) (by decide) (by decide) ?_
        refine b_aload_n C dX11_strokes_62 0 rfl rfl ?_
        obtain ⟨h23, hf⟩ := gd_s hf
        obtain ⟨r24, er24, hf⟩ := ob_s hf
        refine b_gR C dX11_strokes_63 fl_X11_237 h23 er24 ?_
        refine b_iload_n C dX11_strokes_66 2 rfl rfl ?_
        obtain ⟨h25, hf⟩ := gd_s hf
        obtain ⟨h26, hf⟩ := gd_s hf
        refine b_iald C h25 h26 dX11_strokes_67 ?_
        exact b_iret C hr hlocks hf dX11_strokes_68
      have hf := if_s c22 hf
      cases hf
  · have hf := it_s c7 hf
    refine b_bipush C (v := (-2)) dX11_strokes_11 (by decide) ?_
    exact b_iret C hr hlocks hf dX11_strokes_13
theorem kX11_strokes (l : Launch) (D : va_G) (cy : Nat → ClassId) (B : Bs) {N : Nat} {g : Gs} {x0 : Nat} {x1 : Int32} {x2 : Int32} {vz : Int32} {dz : Ds} {d : Ds} (hf : fX11_strokes N g x0 x1 x2 d = some (vz, dz)) : Met l yX11_strokes (.code yX11_strokes cX11_strokes 4 (some .int) :: wl) rmX11_strokes (PC D cy B [.ref (ad B x0), .int x1, .int x2] g d) (QI D cy B vz g dz) 0 0 (wA B) :=
  met_of (by decide +kernel) (Nat.le_of_ble_eq_true rfl) (fun p e s m args below meth c C hr hlocks _ => b_sub [(0, .ref (ad B x0)), (1, .int x1), (2, .int x2)] [0, 1, 2] rfl (tX11_strokes_E C hr hlocks hf))
/-! KeyMatrix.chord(II)I -/
theorem fl_X11_240 : FLI RX11 240 0 12 := ⟨⟨RX0, TX0, 19, rfl, by decide, inl0, Or.inr (mT1 (List.mem_of_getElem? (i := 152) (by decide +kernel)))⟩, by decide, by decide +kernel⟩
theorem fl_X11_243 : FLR RX11 243 0 13 := ⟨⟨RX0, TX0, 19, rfl, by decide, inl0, Or.inr (mT1 (List.mem_of_getElem? (i := 155) (by decide +kernel)))⟩, by decide, by decide +kernel⟩
theorem fl_X11_246 : FLR RX11 246 0 14 := ⟨⟨RX0, TX0, 19, rfl, by decide, inl0, Or.inr (mT1 (List.mem_of_getElem? (i := 158) (by decide +kernel)))⟩, by decide, by decide +kernel⟩
theorem fl_X11_249 : FLR RX11 249 3 2 := ⟨⟨RX3, TX3, 9, rfl, by decide, inl3, Or.inr (mT2 (List.mem_of_getElem? (i := 105) (by decide +kernel)))⟩, by decide, by decide +kernel⟩
theorem dX11_chord_0 : decode cX11_chord 0 = .ok (.iload_n 1, 1) := by decide +kernel
theorem dX11_chord_1 : decode cX11_chord 1 = .ok (.iconst (-1), 1) := by decide +kernel
theorem dX11_chord_2 : decode cX11_chord 2 = .ok (.if_icmp .ne 11, 3) := by decide +kernel
theorem dX11_chord_5 : decode cX11_chord 5 = .ok (.aload_n 0, 1) := by decide +kernel
theorem dX11_chord_6 : decode cX11_chord 6 = .ok (.getfield 30, 3) := by decide +kernel
theorem dX11_chord_9 : decode cX11_chord 9 = .ok (.getfield 240, 3) := by decide +kernel
theorem dX11_chord_12 : decode cX11_chord 12 = .ok (.ireturn, 1) := by decide +kernel
theorem dX11_chord_13 : decode cX11_chord 13 = .ok (.iload_n 1, 1) := by decide +kernel
theorem dX11_chord_14 : decode cX11_chord 14 = .ok (.ifCond .lt 14, 3) := by decide +kernel
theorem dX11_chord_17 : decode cX11_chord 17 = .ok (.iload_n 1, 1) := by decide +kernel
theorem dX11_chord_18 : decode cX11_chord 18 = .ok (.aload_n 0, 1) := by decide +kernel
theorem dX11_chord_19 : decode cX11_chord 19 = .ok (.getfield 30, 3) := by decide +kernel
theorem dX11_chord_22 : decode cX11_chord 22 = .ok (.getfield 240, 3) := by decide +kernel
theorem dX11_chord_25 : decode cX11_chord 25 = .ok (.if_icmp .lt 5, 3) := by decide +kernel
theorem dX11_chord_28 : decode cX11_chord 28 = .ok (.iconst (-1), 1) := by decide +kernel
theorem dX11_chord_29 : decode cX11_chord 29 = .ok (.ireturn, 1) := by decide +kernel
theorem dX11_chord_30 : decode cX11_chord 30 = .ok (.iload_n 2, 1) := by decide +kernel
theorem dX11_chord_31 : decode cX11_chord 31 = .ok (.tableswitch 75 0 2 #[25, 35, 45], 25) := by decide +kernel
theorem dX11_chord_56 : decode cX11_chord 56 = .ok (.aload_n 0, 1) := by decide +kernel
theorem dX11_chord_57 : decode cX11_chord 57 = .ok (.getfield 30, 3) := by decide +kernel
theorem dX11_chord_60 : decode cX11_chord 60 = .ok (.getfield 243, 3) := by decide +kernel
theorem dX11_chord_63 : decode cX11_chord 63 = .ok (.iload_n 1, 1) := by decide +kernel
theorem dX11_chord_64 : decode cX11_chord 64 = .ok (.iaload, 1) := by decide +kernel
theorem dX11_chord_65 : decode cX11_chord 65 = .ok (.ireturn, 1) := by decide +kernel
theorem dX11_chord_66 : decode cX11_chord 66 = .ok (.aload_n 0, 1) := by decide +kernel
theorem dX11_chord_67 : decode cX11_chord 67 = .ok (.getfield 30, 3) := by decide +kernel
theorem dX11_chord_70 : decode cX11_chord 70 = .ok (.getfield 246, 3) := by decide +kernel
theorem dX11_chord_73 : decode cX11_chord 73 = .ok (.iload_n 1, 1) := by decide +kernel
theorem dX11_chord_74 : decode cX11_chord 74 = .ok (.iaload, 1) := by decide +kernel
theorem dX11_chord_75 : decode cX11_chord 75 = .ok (.ireturn, 1) := by decide +kernel
theorem dX11_chord_76 : decode cX11_chord 76 = .ok (.aload_n 0, 1) := by decide +kernel
theorem dX11_chord_77 : decode cX11_chord 77 = .ok (.getfield 46, 3) := by decide +kernel
theorem dX11_chord_80 : decode cX11_chord 80 = .ok (.getfield 163, 3) := by decide +kernel
theorem dX11_chord_83 : decode cX11_chord 83 = .ok (.getfield 249, 3) := by decide +kernel
theorem dX11_chord_86 : decode cX11_chord 86 = .ok (.aload_n 0, 1) := by decide +kernel
theorem dX11_chord_87 : decode cX11_chord 87 = .ok (.getfield 30, 3) := by decide +kernel
theorem dX11_chord_90 : decode cX11_chord 90 = .ok (.getfield 243, 3) := by decide +kernel
theorem dX11_chord_93 : decode cX11_chord 93 = .ok (.iload_n 1, 1) := by decide +kernel
theorem dX11_chord_94 : decode cX11_chord 94 = .ok (.iaload, 1) := by decide +kernel
theorem dX11_chord_95 : decode cX11_chord 95 = .ok (.iaload, 1) := by decide +kernel
theorem dX11_chord_96 : decode cX11_chord 96 = .ok (.iconst (-1), 1) := by decide +kernel
theorem dX11_chord_97 : decode cX11_chord 97 = .ok (.if_icmp .ne 7, 3) := by decide +kernel
theorem dX11_chord_100 : decode cX11_chord 100 = .ok (.iconst 0, 1) := by decide +kernel
theorem dX11_chord_101 : decode cX11_chord 101 = .ok (.goto 4, 3) := by decide +kernel
theorem dX11_chord_104 : decode cX11_chord 104 = .ok (.iconst 1, 1) := by decide +kernel
theorem dX11_chord_105 : decode cX11_chord 105 = .ok (.ireturn, 1) := by decide +kernel
theorem dX11_chord_106 : decode cX11_chord 106 = .ok (.iconst (-1), 1) := by decide +kernel
theorem dX11_chord_107 : decode cX11_chord 107 = .ok (.ireturn, 1) := by decide +kernel
def rmX11_chord : Room := { frames := 0, cells := 0, slots := 0, locals := 0 }
set_option maxRecDepth 100000 in
def fX11_chord_J28 (N : Nat) (g : Gs) (x0 : Nat) (x1 : Int32) (x2 : Int32) (d : Ds) : Option (Int32 × Ds) := some ((-1), d)
set_option maxHeartbeats 4000000 in
set_option maxRecDepth 100000 in
theorem tX11_chord_28 {p : Program} {l : Launch} {e : Env} {s : State} {m : MethodId} {args : Array Value} {below : List Frame} {meth : Method} {c : Code} {D : va_G} {cy : Nat → ClassId} {B : Bs} (C : Cx p s m args c cX11_chord 3 RX11 D cy B) (hr : meth.sig.returnType = (some .int)) (hlocks : meth.locks = false) {N : Nat} {g : Gs} {x0 : Nat} {x1 : Int32} {x2 : Int32} {vz : Int32} {dz : Ds} {d : Ds} (hf : fX11_chord_J28 N g x0 x1 x2 d = some (vz, dz)) : WB p l e rmX11_chord s m args below meth c 3 D cy B 0 0 (MQ below (QI D cy B vz g dz) args s 0 0 (wA B)) g d [(0, .ref (ad B x0)), (1, .int x1), (2, .int x2)] 28 [] := by
  unfold fX11_chord_J28 at hf
  refine b_iconst C (v := (-1)) dX11_chord_28 (by decide) ?_
  exact b_iret C hr hlocks hf dX11_chord_29
set_option maxRecDepth 100000 in
def fX11_chord_J105 (N : Nat) (g : Gs) (x0 : Nat) (x1 : Int32) (x2 : Int32) (z0 : Int32) (d : Ds) : Option (Int32 × Ds) := some (z0, d)
set_option maxHeartbeats 4000000 in
set_option maxRecDepth 100000 in
theorem tX11_chord_105 {p : Program} {l : Launch} {e : Env} {s : State} {m : MethodId} {args : Array Value} {below : List Frame} {meth : Method} {c : Code} {D : va_G} {cy : Nat → ClassId} {B : Bs} (C : Cx p s m args c cX11_chord 3 RX11 D cy B) (hr : meth.sig.returnType = (some .int)) (hlocks : meth.locks = false) {N : Nat} {g : Gs} {x0 : Nat} {x1 : Int32} {x2 : Int32} {vz : Int32} {dz : Ds} {z0 : Int32} {d : Ds} (hf : fX11_chord_J105 N g x0 x1 x2 z0 d = some (vz, dz)) : WB p l e rmX11_chord s m args below meth c 3 D cy B 0 0 (MQ below (QI D cy B vz g dz) args s 0 0 (wA B)) g d [(0, .ref (ad B x0)), (1, .int x1), (2, .int x2)] 105 [.int z0] := by
  unfold fX11_chord_J105 at hf
  exact b_iret C hr hlocks hf dX11_chord_105
set_option maxRecDepth 100000 in
def fX11_chord (N : Nat) (g : Gs) (x0 : Nat) (x1 : Int32) (x2 : Int32) (d : Ds) : Option (Int32 × Ds) := if x1 = (-1 : Int32) then (gd (chk g x0 10) <| ob (gR g x0 4) fun r29 => (gd (chk g r29 0) <| some ((dI d r29 12), d))) else (if x1 < 0 then (fX11_chord_J28 N g x0 x1 x2 d) else (gd (chk g x0 10) <| ob (gR g x0 4) fun r4 => (gd (chk g r4 0) <| if x1 < (dI d r4 12) then (if x2.toInt < 0 ∨ 2 < x2.toInt then (some ((-1), d)) else if x2 = 0 then (ob (gR g r4 13) fun r9 => (gd (chk g r9 102) <| gd (¬ (x1 < 0 ∨ gL g r9 ≤ x1.toNatClampNeg)) <| some ((dI d r9 x1.toNatClampNeg), d))) else if x2 = 1 then (ob (gR g r4 14) fun r13 => (gd (chk g r13 102) <| gd (¬ (x1 < 0 ∨ gL g r13 ≤ x1.toNatClampNeg)) <| some ((dI d r13 x1.toNatClampNeg), d))) else if x2 = 2 then (ob (gR g x0 6) fun r17 => (gd (chk g r17 1) <| ob (gR g r17 3) fun r19 => (gd (chk g r19 3) <| ob (gR g r19 2) fun r21 => (ob (gR g r4 13) fun r22 => (gd (chk g r22 102) <| gd (¬ (x1 < 0 ∨ gL g r22 ≤ x1.toNatClampNeg)) <| gd (chk g r21 102) <| gd (¬ ((dI d r22 x1.toNatClampNeg) < 0 ∨ gL g r21 ≤ (dI d r22 x1.toNatClampNeg).toNatClampNeg)) <| if (dI d r21 (dI d r22 x1.toNatClampNeg).toNatClampNeg) = (-1 : Int32) then (fX11_chord_J105 N g x0 x1 x2 0 d) else (fX11_chord_J105 N g x0 x1 x2 1 d)))))) else none) else (fX11_chord_J28 N g x0 x1 x2 d))))
set_option maxHeartbeats 4000000 in
set_option maxRecDepth 100000 in
theorem tX11_chord_E {p : Program} {l : Launch} {e : Env} {s : State} {m : MethodId} {args : Array Value} {below : List Frame} {meth : Method} {c : Code} {D : va_G} {cy : Nat → ClassId} {B : Bs} (C : Cx p s m args c cX11_chord 3 RX11 D cy B) (hr : meth.sig.returnType = (some .int)) (hlocks : meth.locks = false) {N : Nat} {g : Gs} {x0 : Nat} {x1 : Int32} {x2 : Int32} {vz : Int32} {dz : Ds} {d : Ds} (hf : fX11_chord N g x0 x1 x2 d = some (vz, dz)) : WB p l e rmX11_chord s m args below meth c 3 D cy B 0 0 (MQ below (QI D cy B vz g dz) args s 0 0 (wA B)) g d [(0, .ref (ad B x0)), (1, .int x1), (2, .int x2)] 0 [] := by
  unfold fX11_chord at hf
  refine b_iload_n C dX11_chord_0 1 rfl rfl ?_
  refine b_iconst C (v := (-1)) dX11_chord_1 (by decide) ?_
  refine b_icmp_ne C (tgt := 13) dX11_chord_2 (by decide) (fun c1 => ?_) (fun c1 => ?_)
  · have hf := if_s c1 hf
    refine b_iload_n C dX11_chord_13 1 rfl rfl ?_
    refine b_if_lt C (tgt := 28) dX11_chord_14 (by decide) (fun c2 => ?_) (fun c2 => ?_)
    · have hf := it_s c2 hf
      refine b_sub [(0, .ref (ad B x0)), (1, .int x1), (2, .int x2)] [0, 1, 2] rfl ?_
      exact tX11_chord_28 C hr hlocks hf
    · have hf := if_s c2 hf
      refine b_iload_n C dX11_chord_17 1 rfl rfl ?_
      refine b_aload_n C dX11_chord_18 0 rfl rfl ?_
      obtain ⟨h3, hf⟩ := gd_s hf
      obtain ⟨r4, er4, hf⟩ := ob_s hf
      refine b_gR C dX11_chord_19 fl_X11_30 h3 er4 ?_
      obtain ⟨h5, hf⟩ := gd_s hf
      refine b_gI C dX11_chord_22 fl_X11_240 h5 ?_
      refine b_icmp_lt C (tgt := 30) dX11_chord_25 (by decide) (fun c6 => ?_) (fun c6 => ?_)
      · have hf := it_s c6 hf
        refine b_iload_n C dX11_chord_30 2 rfl rfl ?_
        by_cases c7 : x2.toInt < 0 ∨ 2 < x2.toInt
        · have hf := it_s c7 hf
          refine b_tabOut C (tgt := 106) dX11_chord_31 c7 (by decide) ?_
          refine b_iconst C (v := (-1)) dX11_chord_106 (by decide) ?_
          exact b_iret C hr hlocks hf dX11_chord_107
        · have hf := if_s c7 hf
          by_cases c8 : x2 = 0
          · have hf := it_s c8 hf
            refine b_tabIn C (tgt := 56) (off := 25) dX11_chord_31 c8 (by decide) (by decide) (by decide) (by decide) ?_
            refine b_aload_n C dX11_chord_56 0 rfl rfl ?_
            refine b_gR C dX11_chord_57 fl_X11_30 h3 er4 ?_
            obtain ⟨r9, er9, hf⟩ := ob_s hf
            refine b_gR C dX11_chord_60 fl_X11_243 h5 er9 ?_
            refine b_iload_n C dX11_chord_63 1 rfl rfl ?_
            obtain ⟨h10, hf⟩ := gd_s hf
            obtain ⟨h11, hf⟩ := gd_s hf
            refine b_iald C h10 h11 dX11_chord_64 ?_
            exact b_iret C hr hlocks hf dX11_chord_65
          have hf := if_s c8 hf
          by_cases c12 : x2 = 1
          · have hf := it_s c12 hf
            refine b_tabIn C (tgt := 66) (off := 35) dX11_chord_31 c12 (by decide) (by decide) (by decide) (by decide) ?_
            refine b_aload_n C dX11_chord_66 0 rfl rfl ?_
            refine b_gR C dX11_chord_67 fl_X11_30 h3 er4 ?_
            obtain ⟨r13, er13, hf⟩ := ob_s hf
            refine b_gR C dX11_chord_70 fl_X11_246 h5 er13 ?_
            refine b_iload_n C dX11_chord_73 1 rfl rfl ?_
            obtain ⟨h14, hf⟩ := gd_s hf
            obtain ⟨h15, hf⟩ := gd_s hf
            refine b_iald C h14 h15 dX11_chord_74 ?_
            exact b_iret C hr hlocks hf dX11_chord_75
          have hf := if_s c12 hf
          by_cases c16 : x2 = 2
          · have hf := it_s c16 hf
            refine b_tabIn C (tgt := 76) (off := 45) dX11_chord_31 c16 (by decide) (by decide) (by decide) (by decide) ?_
            refine b_aload_n C dX11_chord_76 0 rfl rfl ?_
            obtain ⟨r17, er17, hf⟩ := ob_s hf
            refine b_gR C dX11_chord_77 fl_X11_46 h3 er17 ?_
            obtain ⟨h18, hf⟩ := gd_s hf
            obtain ⟨r19, er19, hf⟩ := ob_s hf
            refine b_gR C dX11_chord_80 fl_X11_163 h18 er19 ?_
            obtain ⟨h20, hf⟩ := gd_s hf
            obtain ⟨r21, er21, hf⟩ := ob_s hf
            refine b_gR C dX11_chord_83 fl_X11_249 h20 er21 ?_
            refine b_aload_n C dX11_chord_86 0 rfl rfl ?_
            refine b_gR C dX11_chord_87 fl_X11_30 h3 er4 ?_
            obtain ⟨r22, er22, hf⟩ := ob_s hf
            refine b_gR C dX11_chord_90 fl_X11_243 h5 er22 ?_
            refine b_iload_n C dX11_chord_93 1 rfl rfl ?_
            obtain ⟨h23, hf⟩ := gd_s hf
            obtain ⟨h24, hf⟩ := gd_s hf
            refine b_iald C h23 h24 dX11_chord_94 ?_
            obtain ⟨h25, hf⟩ := gd_s hf
            obtain ⟨h26, hf⟩ := gd_s hf
            refine b_iald C h25 h26 dX11_chord_95 ?_
            refine b_iconst C (v := (-1)) dX11_chord_96 (by decide) ?_
            refine b_icmp_ne C (tgt := 104) dX11_chord_97 (by decide) (fun c27 => ?_) (fun c27 => ?_)
            · have hf := if_s c27 hf
              refine b_iconst C (v := 1) dX11_chord_104 (by decide) ?_
              refine b_sub [(0, .ref (ad B x0)), (1, .int x1), (2, .int x2)] [0, 1, 2] rfl ?_
              exact tX11_chord_105 C hr hlocks hf
            · have hf := it_s c27 hf
              refine b_iconst C (v := 0) dX11_chord_100 (by decide) ?_
              refine b_goto C (tgt := 105) dX11_chord_101 (by decide) ?_
              refine b_sub [(0, .ref (ad B x0)), (1, .int x1), (2, .int x2)] [0, 1, 2] rfl ?_
              exact tX11_chord_105 C hr hlocks hf
          have hf := if_s c16 hf
          cases hf
      · have hf := if_s c6 hf
        refine b_sub [(0, .ref (ad B x0)), (1, .int x1), (2, .int x2)] [0, 1, 2] rfl ?_
        exact tX11_chord_28 C hr hlocks hf
  · have hf := it_s c1 hf
    refine b_aload_n C dX11_chord_5 0 rfl rfl ?_
    obtain ⟨h28, hf⟩ := gd_s hf
    obtain ⟨r29, er29, hf⟩ := ob_s hf
    refine b_gR C dX11_chord_6 fl_X11_30 h28 er29 ?_
    obtain ⟨h30, hf⟩ := gd_s hf
    refine b_gI C dX11_chord_9 fl_X11_240 h30 ?_
    exact b_iret C hr hlocks hf dX11_chord_12
theorem kX11_chord (l : Launch) (D : va_G) (cy : Nat → ClassId) (B : Bs) {N : Nat} {g : Gs} {x0 : Nat} {x1 : Int32} {x2 : Int32} {vz : Int32} {dz : Ds} {d : Ds} (hf : fX11_chord N g x0 x1 x2 d = some (vz, dz)) : Met l yX11_chord (.code yX11_chord cX11_chord 3 (some .int) :: wl) rmX11_chord (PC D cy B [.ref (ad B x0), .int x1, .int x2] g d) (QI D cy B vz g dz) 0 0 (wA B) :=
  met_of (by decide +kernel) (Nat.le_of_ble_eq_true rfl) (fun p e s m args below meth c C hr hlocks _ => b_sub [(0, .ref (ad B x0)), (1, .int x1), (2, .int x2)] [0, 1, 2] rfl (tX11_chord_E C hr hlocks hf))
/-! KeyMatrix.macro(II)I -/
theorem fl_X11_252 : FLI RX11 252 0 16 := ⟨⟨RX0, TX0, 19, rfl, by decide, inl0, Or.inr (mT1 (List.mem_of_getElem? (i := 162) (by decide +kernel)))⟩, by decide, by decide +kernel⟩
theorem lv_X11_258 : LV RX11 258 yX0_macroCode cX0_macroCode 3 (some .int) 2 0 := ⟨⟨(RX0, TX0, 19), rfl, rfl⟩, yo_X0_macroCode, mW (mT5 (List.mem_of_getElem? (i := 24) (by decide +kernel))) rfl, im_X0_macroCode, se_X0_macroCode, in_X0_macroCode, co_X0_macroCode⟩
theorem fl_X11_255 : FLR RX11 255 0 17 := ⟨⟨RX0, TX0, 19, rfl, by decide, inl0, Or.inr (mT1 (List.mem_of_getElem? (i := 164) (by decide +kernel)))⟩, by decide, by decide +kernel⟩
theorem dX11_macro_0 : decode cX11_macro 0 = .ok (.iload_n 1, 1) := by decide +kernel
theorem dX11_macro_1 : decode cX11_macro 1 = .ok (.ifCond .lt 14, 3) := by decide +kernel
theorem dX11_macro_4 : decode cX11_macro 4 = .ok (.iload_n 1, 1) := by decide +kernel
theorem dX11_macro_5 : decode cX11_macro 5 = .ok (.aload_n 0, 1) := by decide +kernel
theorem dX11_macro_6 : decode cX11_macro 6 = .ok (.getfield 30, 3) := by decide +kernel
theorem dX11_macro_9 : decode cX11_macro 9 = .ok (.getfield 252, 3) := by decide +kernel
theorem dX11_macro_12 : decode cX11_macro 12 = .ok (.if_icmp .lt 5, 3) := by decide +kernel
theorem dX11_macro_15 : decode cX11_macro 15 = .ok (.iconst (-1), 1) := by decide +kernel
theorem dX11_macro_16 : decode cX11_macro 16 = .ok (.ireturn, 1) := by decide +kernel
theorem dX11_macro_17 : decode cX11_macro 17 = .ok (.iload_n 2, 1) := by decide +kernel
theorem dX11_macro_18 : decode cX11_macro 18 = .ok (.iconst (-1), 1) := by decide +kernel
theorem dX11_macro_19 : decode cX11_macro 19 = .ok (.if_icmp .ne 15, 3) := by decide +kernel
theorem dX11_macro_22 : decode cX11_macro 22 = .ok (.aload_n 0, 1) := by decide +kernel
theorem dX11_macro_23 : decode cX11_macro 23 = .ok (.getfield 30, 3) := by decide +kernel
theorem dX11_macro_26 : decode cX11_macro 26 = .ok (.getfield 255, 3) := by decide +kernel
theorem dX11_macro_29 : decode cX11_macro 29 = .ok (.iload_n 1, 1) := by decide +kernel
theorem dX11_macro_30 : decode cX11_macro 30 = .ok (.iaload, 1) := by decide +kernel
theorem dX11_macro_31 : decode cX11_macro 31 = .ok (.goto 12, 3) := by decide +kernel
theorem dX11_macro_34 : decode cX11_macro 34 = .ok (.aload_n 0, 1) := by decide +kernel
theorem dX11_macro_35 : decode cX11_macro 35 = .ok (.getfield 30, 3) := by decide +kernel
theorem dX11_macro_38 : decode cX11_macro 38 = .ok (.iload_n 1, 1) := by decide +kernel
theorem dX11_macro_39 : decode cX11_macro 39 = .ok (.iload_n 2, 1) := by decide +kernel
theorem dX11_macro_40 : decode cX11_macro 40 = .ok (.invokevirtual 258, 3) := by decide +kernel
theorem dX11_macro_43 : decode cX11_macro 43 = .ok (.ireturn, 1) := by decide +kernel
def rmX11_macro : Room := { frames := 1, cells := 0, slots := 0, locals := 22 }
set_option maxRecDepth 100000 in
def fX11_macro_J15 (N : Nat) (g : Gs) (x0 : Nat) (x1 : Int32) (x2 : Int32) (d : Ds) : Option (Int32 × Ds) := some ((-1), d)
set_option maxHeartbeats 4000000 in
set_option maxRecDepth 100000 in
theorem tX11_macro_15 {p : Program} {l : Launch} {e : Env} {s : State} {m : MethodId} {args : Array Value} {below : List Frame} {meth : Method} {c : Code} {D : va_G} {cy : Nat → ClassId} {B : Bs} (C : Cx p s m args c cX11_macro 3 RX11 D cy B) (hr : meth.sig.returnType = (some .int)) (hlocks : meth.locks = false) {N : Nat} {g : Gs} {x0 : Nat} {x1 : Int32} {x2 : Int32} {vz : Int32} {dz : Ds} {d : Ds} (hf : fX11_macro_J15 N g x0 x1 x2 d = some (vz, dz)) : WB p l e rmX11_macro s m args below meth c 3 D cy B 0 0 (MQ below (QI D cy B vz g dz) args s 0 0 (wA B)) g d [(0, .ref (ad B x0)), (1, .int x1), (2, .int x2)] 15 [] := by
  unfold fX11_macro_J15 at hf
  refine b_iconst C (v := (-1)) dX11_macro_15 (by decide) ?_
  exact b_iret C hr hlocks hf dX11_macro_16
set_option maxRecDepth 100000 in
def fX11_macro_J43 (N : Nat) (g : Gs) (x0 : Nat) (x1 : Int32) (x2 : Int32) (z0 : Int32) (d : Ds) : Option (Int32 × Ds) := some (z0, d)
set_option maxHeartbeats 4000000 in
set_option maxRecDepth 100000 in
theorem tX11_macro_43 {p : Program} {l : Launch} {e : Env} {s : State} {m : MethodId} {args : Array Value} {below : List Frame} {meth : Method} {c : Code} {D : va_G} {cy : Nat → ClassId} {B : Bs} (C : Cx p s m args c cX11_macro 3 RX11 D cy B) (hr : meth.sig.returnType = (some .int)) (hlocks : meth.locks = false) {N : Nat} {g : Gs} {x0 : Nat} {x1 : Int32} {x2 : Int32} {vz : Int32} {dz : Ds} {z0 : Int32} {d : Ds} (hf : fX11_macro_J43 N g x0 x1 x2 z0 d = some (vz, dz)) : WB p l e rmX11_macro s m args below meth c 3 D cy B 0 0 (MQ below (QI D cy B vz g dz) args s 0 0 (wA B)) g d [(0, .ref (ad B x0)), (1, .int x1), (2, .int x2)] 43 [.int z0] := by
  unfold fX11_macro_J43 at hf
  exact b_iret C hr hlocks hf dX11_macro_43
set_option maxRecDepth 100000 in
def fX11_macro (N : Nat) (g : Gs) (x0 : Nat) (x1 : Int32) (x2 : Int32) (d : Ds) : Option (Int32 × Ds) := if x1 < 0 then (fX11_macro_J15 N g x0 x1 x2 d) else (gd (chk g x0 10) <| ob (gR g x0 4) fun r3 => (gd (chk g r3 0) <| if x1 < (dI d r3 16) then (if x2 = (-1 : Int32) then (ob (gR g r3 17) fun r10 => (gd (chk g r10 102) <| gd (¬ (x1 < 0 ∨ gL g r10 ≤ x1.toNatClampNeg)) <| fX11_macro_J43 N g x0 x1 x2 (dI d r10 x1.toNatClampNeg) d)) else (cb (fX0_macroCode N g r3 x1 x2 d) fun u9 d7 => (fX11_macro_J43 N g x0 x1 x2 u9 d7))) else (fX11_macro_J15 N g x0 x1 x2 d)))
set_option maxHeartbeats 4000000 in
set_option maxRecDepth 100000 in
theorem tX11_macro_E {p : Program} {l : Launch} {e : Env} {s : State} {m : MethodId} {args : Array Value} {below : List Frame} {meth : Method} {c : Code} {D : va_G} {cy : Nat → ClassId} {B : Bs} (C : Cx p s m args c cX11_macro 3 RX11 D cy B) (hr : meth.sig.returnType = (some .int)) (hlocks : meth.locks = false) {N : Nat} {g : Gs} {x0 : Nat} {x1 : Int32} {x2 : Int32} {vz : Int32} {dz : Ds} {d : Ds} (hf : fX11_macro N g x0 x1 x2 d = some (vz, dz)) : WB p l e rmX11_macro s m args below meth c 3 D cy B 0 0 (MQ below (QI D cy B vz g dz) args s 0 0 (wA B)) g d [(0, .ref (ad B x0)), (1, .int x1), (2, .int x2)] 0 [] := by
  unfold fX11_macro at hf
  refine b_iload_n C dX11_macro_0 1 rfl rfl ?_
  refine b_if_lt C (tgt := 15) dX11_macro_1 (by decide) (fun c1 => ?_) (fun c1 => ?_)
  · have hf := it_s c1 hf
    refine b_sub [(0, .ref (ad B x0)), (1, .int x1), (2, .int x2)] [0, 1, 2] rfl ?_
    exact tX11_macro_15 C hr hlocks hf
  · have hf := if_s c1 hf
    refine b_iload_n C dX11_macro_4 1 rfl rfl ?_
    refine b_aload_n C dX11_macro_5 0 rfl rfl ?_
    obtain ⟨h2, hf⟩ := gd_s hf
    obtain ⟨r3, er3, hf⟩ := ob_s hf
    refine b_gR C dX11_macro_6 fl_X11_30 h2 er3 ?_
    obtain ⟨h4, hf⟩ := gd_s hf
    refine b_gI C dX11_macro_9 fl_X11_252 h4 ?_
    refine b_icmp_lt C (tgt := 17) dX11_macro_12 (by decide) (fun c5 => ?_) (fun c5 => ?_)
    · have hf := it_s c5 hf
      refine b_iload_n C dX11_macro_17 2 rfl rfl ?_
      refine b_iconst C (v := (-1)) dX11_macro_18 (by decide) ?_
      refine b_icmp_ne C (tgt := 34) dX11_macro_19 (by decide) (fun c6 => ?_) (fun c6 => ?_)
      · have hf := if_s c6 hf
        refine b_aload_n C dX11_macro_34 0 rfl rfl ?_
        refine b_gR C dX11_macro_35 fl_X11_30 h2 er3 ?_
        refine b_iload_n C dX11_macro_38 1 rfl rfl ?_
        refine b_iload_n C dX11_macro_39 2 rfl rfl ?_
        obtain ⟨u9, d7, k8, hf⟩ := cb_s hf
        refine b_cVI C [] dX11_macro_40 (kX0_macroCode l D cy B k8) lv_X11_258 ⟨rfl, rfl, Nat.le_of_ble_eq_true rfl, Nat.le_of_ble_eq_true rfl⟩ h4 (by decide) rfl (Nat.le_of_ble_eq_true rfl) ⟨Nat.zero_le _, Nat.zero_le _⟩ rfl ?_
        refine b_sub [(0, .ref (ad B x0)), (1, .int x1), (2, .int x2)] [0, 1, 2] rfl ?_
        exact tX11_macro_43 C hr hlocks hf
      · have hf := it_s c6 hf
        refine b_aload_n C dX11_macro_22 0 rfl rfl ?_
        refine b_gR C dX11_macro_23 fl_X11_30 h2 er3 ?_
        obtain ⟨r10, er10, hf⟩ := ob_s hf
        refine b_gR C dX11_macro_26 fl_X11_255 h4 er10 ?_
        refine b_iload_n C dX11_macro_29 1 rfl rfl ?_
        obtain ⟨h11, hf⟩ := gd_s hf
        obtain ⟨h12, hf⟩ := gd_s hf
        refine b_iald C h11 h12 dX11_macro_30 ?_
        refine b_goto C (tgt := 43) dX11_macro_31 (by decide) ?_
        refine b_sub [(0, .ref (ad B x0)), (1, .int x1), (2, .int x2)] [0, 1, 2] rfl ?_
        exact tX11_macro_43 C hr hlocks hf
    · have hf := if_s c5 hf
      refine b_sub [(0, .ref (ad B x0)), (1, .int x1), (2, .int x2)] [0, 1, 2] rfl ?_
      exact tX11_macro_15 C hr hlocks hf
theorem kX11_macro (l : Launch) (D : va_G) (cy : Nat → ClassId) (B : Bs) {N : Nat} {g : Gs} {x0 : Nat} {x1 : Int32} {x2 : Int32} {vz : Int32} {dz : Ds} {d : Ds} (hf : fX11_macro N g x0 x1 x2 d = some (vz, dz)) : Met l yX11_macro (.code yX11_macro cX11_macro 3 (some .int) :: wl) rmX11_macro (PC D cy B [.ref (ad B x0), .int x1, .int x2] g d) (QI D cy B vz g dz) 0 0 (wA B) :=
  met_of (by decide +kernel) (Nat.le_of_ble_eq_true rfl) (fun p e s m args below meth c C hr hlocks _ => b_sub [(0, .ref (ad B x0)), (1, .int x1), (2, .int x2)] [0, 1, 2] rfl (tX11_macro_E C hr hlocks hf))
/-! KeyMatrix.ghosts(II)I -/
theorem lv_X11_261 : LSt RX11 261 yJ6_bitCount_0f7a4 cJ6_bitCount_0f7a4 1 (some .int) 1 := ⟨yo_J6_bitCount_0f7a4, Or.inl (mW (mT5 (List.mem_of_getElem? (i := 29) (by decide +kernel))) rfl), st_J6_bitCount_0f7a4, in_J6_bitCount_0f7a4, co_J6_bitCount_0f7a4⟩
theorem fl_X11_266 : FLI RX11 266 9 1 := ⟨⟨RX9, TX9, 4, rfl, by decide, inl9, Or.inr (mT2 (List.mem_of_getElem? (i := 8) (by decide +kernel)))⟩, by decide, by decide +kernel⟩
theorem dX11_ghosts_0 : decode cX11_ghosts 0 = .ok (.iload_n 1, 1) := by decide +kernel
theorem dX11_ghosts_1 : decode cX11_ghosts 1 = .ok (.aload_n 0, 1) := by decide +kernel
theorem dX11_ghosts_2 : decode cX11_ghosts 2 = .ok (.getfield 30, 3) := by decide +kernel
theorem dX11_ghosts_5 : decode cX11_ghosts 5 = .ok (.invokevirtual 107, 3) := by decide +kernel
theorem dX11_ghosts_8 : decode cX11_ghosts 8 = .ok (.iushr, 1) := by decide +kernel
theorem dX11_ghosts_9 : decode cX11_ghosts 9 = .ok (.ifCond .eq 5, 3) := by decide +kernel
theorem dX11_ghosts_12 : decode cX11_ghosts 12 = .ok (.iconst (-1), 1) := by decide +kernel
theorem dX11_ghosts_13 : decode cX11_ghosts 13 = .ok (.ireturn, 1) := by decide +kernel
theorem dX11_ghosts_14 : decode cX11_ghosts 14 = .ok (.aload_n 0, 1) := by decide +kernel
theorem dX11_ghosts_15 : decode cX11_ghosts 15 = .ok (.getfield 37, 3) := by decide +kernel
theorem dX11_ghosts_18 : decode cX11_ghosts 18 = .ok (.aload_n 0, 1) := by decide +kernel
theorem dX11_ghosts_19 : decode cX11_ghosts 19 = .ok (.getfield 30, 3) := by decide +kernel
theorem dX11_ghosts_22 : decode cX11_ghosts 22 = .ok (.iload_n 1, 1) := by decide +kernel
theorem dX11_ghosts_23 : decode cX11_ghosts 23 = .ok (.invokevirtual 95, 3) := by decide +kernel
theorem dX11_ghosts_26 : decode cX11_ghosts 26 = .ok (.iload_n 2, 1) := by decide +kernel
theorem dX11_ghosts_27 : decode cX11_ghosts 27 = .ok (.tableswitch 59 0 2 #[25, 40, 51], 25) := by decide +kernel
theorem dX11_ghosts_52 : decode cX11_ghosts 52 = .ok (.aload_n 0, 1) := by decide +kernel
theorem dX11_ghosts_53 : decode cX11_ghosts 53 = .ok (.getfield 37, 3) := by decide +kernel
theorem dX11_ghosts_56 : decode cX11_ghosts 56 = .ok (.getfield 99, 3) := by decide +kernel
theorem dX11_ghosts_59 : decode cX11_ghosts 59 = .ok (.iload_n 1, 1) := by decide +kernel
theorem dX11_ghosts_60 : decode cX11_ghosts 60 = .ok (.iconst (-1), 1) := by decide +kernel
theorem dX11_ghosts_61 : decode cX11_ghosts 61 = .ok (.ixor, 1) := by decide +kernel
theorem dX11_ghosts_62 : decode cX11_ghosts 62 = .ok (.iand, 1) := by decide +kernel
theorem dX11_ghosts_63 : decode cX11_ghosts 63 = .ok (.invokestatic 261, 3) := by decide +kernel
theorem dX11_ghosts_66 : decode cX11_ghosts 66 = .ok (.ireturn, 1) := by decide +kernel
theorem dX11_ghosts_67 : decode cX11_ghosts 67 = .ok (.aload_n 0, 1) := by decide +kernel
theorem dX11_ghosts_68 : decode cX11_ghosts 68 = .ok (.getfield 37, 3) := by decide +kernel
theorem dX11_ghosts_71 : decode cX11_ghosts 71 = .ok (.getfield 103, 3) := by decide +kernel
theorem dX11_ghosts_74 : decode cX11_ghosts 74 = .ok (.invokestatic 261, 3) := by decide +kernel
theorem dX11_ghosts_77 : decode cX11_ghosts 77 = .ok (.ireturn, 1) := by decide +kernel
theorem dX11_ghosts_78 : decode cX11_ghosts 78 = .ok (.aload_n 0, 1) := by decide +kernel
theorem dX11_ghosts_79 : decode cX11_ghosts 79 = .ok (.getfield 37, 3) := by decide +kernel
theorem dX11_ghosts_82 : decode cX11_ghosts 82 = .ok (.getfield 266, 3) := by decide +kernel
theorem dX11_ghosts_85 : decode cX11_ghosts 85 = .ok (.ireturn, 1) := by decide +kernel
theorem dX11_ghosts_86 : decode cX11_ghosts 86 = .ok (.iconst (-1), 1) := by decide +kernel
theorem dX11_ghosts_87 : decode cX11_ghosts 87 = .ok (.ireturn, 1) := by decide +kernel
def rmX11_ghosts : Room := { frames := 4, cells := 0, slots := 0, locals := 90 }
set_option maxRecDepth 100000 in
def fX11_ghosts (N : Nat) (g : Gs) (x0 : Nat) (x1 : Int32) (x2 : Int32) (d : Ds) : Option (Int32 × Ds) := gd (chk g x0 10) <| ob (gR g x0 4) fun r2 => (gd (chk g r2 0) <| cb (fX0_keys N g r2 d) fun u6 d4 => (if ((x1.toUInt32 >>> (u6.toUInt32 &&& Int32.toUInt32 31)).toInt32) = 0 then (ob (gR g x0 5) fun r8 => (gd (chk g r8 9) <| cv (fX9_follow N g r8 r2 x1 d4) fun d10 => (if x2.toInt < 0 ∨ 2 < x2.toInt then (some ((-1), d10)) else if x2 = 0 then (cb (fJ6_bitCount_0f7a4 N g ((dI d10 r8 2) &&& (x1 ^^^ (-1))) d10) fun u16 d14 => (some (u16, d14))) else if x2 = 1 then (cb (fJ6_bitCount_0f7a4 N g (dI d10 r8 3) d10) fun u20 d18 => (some (u20, d18))) else if x2 = 2 then (some ((dI d10 r8 1), d10)) else none))) else (some ((-1), d4))))
set_option maxHeartbeats 4000000 in
set_option maxRecDepth 100000 in
theorem tX11_ghosts_E {p : Program} {l : Launch} {e : Env} {s : State} {m : MethodId} {args : Array Value} {below : List Frame} {meth : Method} {c : Code} {D : va_G} {cy : Nat → ClassId} {B : Bs} (C : Cx p s m args c cX11_ghosts 3 RX11 D cy B) (hr : meth.sig.returnType = (some .int)) (hlocks : meth.locks = false) {N : Nat} {g : Gs} {x0 : Nat} {x1 : Int32} {x2 : Int32} {vz : Int32} {dz : Ds} {d : Ds} (hf : fX11_ghosts N g x0 x1 x2 d = some (vz, dz)) : WB p l e rmX11_ghosts s m args below meth c 3 D cy B 0 0 (MQ below (QI D cy B vz g dz) args s 0 0 (wA B)) g d [(0, .ref (ad B x0)), (1, .int x1), (2, .int x2)] 0 [] := by
  unfold fX11_ghosts at hf
  refine b_iload_n C dX11_ghosts_0 1 rfl rfl ?_
  refine b_aload_n C dX11_ghosts_1 0 rfl rfl ?_
  obtain ⟨h1, hf⟩ := gd_s hf
  obtain ⟨r2, er2, hf⟩ := ob_s hf
  refine b_gR C dX11_ghosts_2 fl_X11_30 h1 er2 ?_
  obtain ⟨h3, hf⟩ := gd_s hf
  obtain ⟨u6, d4, k5, hf⟩ := cb_s hf
  refine b_cVI C [.int x1] dX11_ghosts_5 (kX0_keys l D cy B k5) lv_X11_107 ⟨rfl, rfl, Nat.le_of_ble_eq_true rfl, Nat.le_of_ble_eq_true rfl⟩ h3 (by decide) rfl (Nat.le_of_ble_eq_true rfl) ⟨Nat.zero_le _, Nat.zero_le _⟩ rfl ?_
  refine b_iushr C dX11_ghosts_8 ?_
  refine b_if_eq C (tgt := 14) dX11_ghosts_9 (by decide) (fun c7 => ?_) (fun c7 => ?_)
  · have hf := it_s c7 hf
    refine b_aload_n C dX11_ghosts_14 0 rfl rfl ?_
    obtain ⟨r8, er8, hf⟩ := ob_s hf
    refine b_gR C dX11_ghosts_15 fl_X11_37 h1 er8 ?_
    refine b_aload_n C dX11_ghosts_18 0 rfl rfl ?_
    refine b_gR C dX11_ghosts_19 fl_X11_30 h1 er2 ?_
    refine b_iload_n C dX11_ghosts_22 1 rfl rfl ?_
    obtain ⟨h9, hf⟩ := gd_s hf
    obtain ⟨d10, k11, hf⟩ := cv_s hf
    refine b_cVN C [] dX11_ghosts_23 (kX9_follow l D cy B k11) lv_X11_95 ⟨rfl, rfl, Nat.le_of_ble_eq_true rfl, Nat.le_of_ble_eq_true rfl⟩ h9 (by decide) rfl (Nat.le_of_ble_eq_true rfl) ⟨Nat.zero_le _, Nat.zero_le _⟩ rfl ?_
    refine b_iload_n C dX11_ghosts_26 2 rfl rfl ?_
    by_cases c12 : x2.toInt < 0 ∨ 2 < x2.toInt
    · have hf := it_s c12 hf
      refine b_tabOut C (tgt := 86) dX11_ghosts_27 c12 (by decide) ?_
      refine b_iconst C (v := (-1)) dX11_ghosts_86 (by decide) ?_
      exact b_iret C hr hlocks hf dX11_ghosts_87
    · have hf := if_s c12 hf
      by_cases c13 : x2 = 0
      · have hf := it_s c13 hf
        refine b_tabIn C (tgt := 52) (off := 25) dX11_ghosts_27 c13 (by decide) (by decide) (by decide) (by decide) ?_
        refine b_aload_n C dX11_ghosts_52 0 rfl rfl ?_
        refine b_gR C dX11_ghosts_53 fl_X11_37 h1 er8 ?_
        refine b_gI C dX11_ghosts_56 fl_X11_99 h9 ?_
        refine b_iload_n C dX11_ghosts_59 1 rfl rfl ?_
        refine b_iconst C (v := (-1)) dX11_ghosts_60 (by decide) ?_
        refine b_ixor C dX11_ghosts_61 ?_
        refine b_iand C dX11_ghosts_62 ?_
        obtain ⟨u16, d14, k15, hf⟩ := cb_s hf
        refine b_cSI C [] dX11_ghosts_63 (kJ6_bitCount_0f7a4 l D cy B k15) lv_X11_261 ⟨rfl, rfl, Nat.le_of_ble_eq_true rfl, Nat.le_of_ble_eq_true rfl⟩ rfl (Nat.le_of_ble_eq_true rfl) ⟨Nat.zero_le _, Nat.zero_le _⟩ rfl ?_
        exact b_iret C hr hlocks hf dX11_ghosts_66
      have hf := if_s c13 hf
      by_cases c17 : x2 = 1
      · have hf := it_s c17 hf
        refine b_tabIn C (tgt := 67) (off := 40) dX11_ghosts_27 c17 (by decide) (by decide) (by decide) (by decide) ?_
        refine b_aload_n C dX11_ghosts_67 0 rfl rfl ?_
        refine b_gR C dX11_ghosts_68 fl_X11_37 h1 er8 ?_
        refine b_gI C dX11_ghosts_71 fl_X11_103 h9 ?_
        obtain ⟨u20, d18, k19, hf⟩ := cb_s hf
        refine b_cSI C [] dX11_ghosts_74 (kJ6_bitCount_0f7a4 l D cy B k19) lv_X11_261 ⟨rfl, rfl, Nat.le_of_ble_eq_true rfl, Nat.le_of_ble_eq_true rfl⟩ rfl (Nat.le_of_ble_eq_true rfl) ⟨Nat.zero_le _, Nat.zero_le _⟩ rfl ?_
        exact b_iret C hr hlocks hf dX11_ghosts_77
      have hf := if_s c17 hf
      by_cases c21 : x2 = 2
      · have hf := it_s c21 hf
        refine b_tabIn C (tgt := 78) (off := 51) dX11_ghosts_27 c21 (by decide) (by decide) (by decide) (by decide) ?_
        refine b_aload_n C dX11_ghosts_78 0 rfl rfl ?_
        refine b_gR C dX11_ghosts_79 fl_X11_37 h1 er8 ?_
        refine b_gI C dX11_ghosts_82 fl_X11_266 h9 ?_
        exact b_iret C hr hlocks hf dX11_ghosts_85
      have hf := if_s c21 hf
      cases hf
  · have hf := if_s c7 hf
    refine b_iconst C (v := (-1)) dX11_ghosts_12 (by decide) ?_
    exact b_iret C hr hlocks hf dX11_ghosts_13
theorem kX11_ghosts (l : Launch) (D : va_G) (cy : Nat → ClassId) (B : Bs) {N : Nat} {g : Gs} {x0 : Nat} {x1 : Int32} {x2 : Int32} {vz : Int32} {dz : Ds} {d : Ds} (hf : fX11_ghosts N g x0 x1 x2 d = some (vz, dz)) : Met l yX11_ghosts (.code yX11_ghosts cX11_ghosts 3 (some .int) :: wl) rmX11_ghosts (PC D cy B [.ref (ad B x0), .int x1, .int x2] g d) (QI D cy B vz g dz) 0 0 (wA B) :=
  met_of (by decide +kernel) (Nat.le_of_ble_eq_true rfl) (fun p e s m args below meth c C hr hlocks _ => b_sub [(0, .ref (ad B x0)), (1, .int x1), (2, .int x2)] [0, 1, 2] rfl (tX11_ghosts_E C hr hlocks hf))
/-! KeyMatrix.ahead(II)I -/
theorem fl_X11_50 : FLR RX11 50 10 7 := ⟨⟨RX11, TX11, 10, rfl, by decide, inl10, Or.inl (mW (mT2 (List.mem_of_getElem? (i := 237) (by decide +kernel))) rfl)⟩, by decide, by decide +kernel⟩
theorem yo_X1_copyFrom : yX1_copyFrom.cls ≠ "java/lang/invoke/MethodHandle" ∧ yX1_copyFrom.cls ≠ "java/lang/invoke/VarHandle" ∧ (parseMethodDescriptor yX1_copyFrom.desc).map (fun d => d.parameters.length) = some 1 := by decide +kernel
theorem co_X1_copyFrom : Cond.code yX1_copyFrom cX1_copyFrom 2 none ∈ wl := mW (mT5 (List.mem_of_getElem? (i := 37) (by decide +kernel))) rfl
theorem in_X1_copyFrom : Cond.initialized yX1_copyFrom.cls ∈ wl := mW (mT1 (List.mem_of_getElem? (i := 7) (by decide +kernel))) rfl
theorem im_X1_copyFrom : Cond.instanceMethod yX1_copyFrom ∈ wl := mW (mT5 (List.mem_of_getElem? (i := 35) (by decide +kernel))) rfl
theorem se_X1_copyFrom : Cond.selects yX1_copyFrom.cls yX1_copyFrom yX1_copyFrom ∈ wl := mW (mT5 (List.mem_of_getElem? (i := 36) (by decide +kernel))) rfl
theorem lv_X11_269 : LV RX11 269 yX1_copyFrom cX1_copyFrom 2 none 1 1 := ⟨⟨(RX1, TX1, 6), rfl, rfl⟩, yo_X1_copyFrom, mW (mT5 (List.mem_of_getElem? (i := 34) (by decide +kernel))) rfl, im_X1_copyFrom, se_X1_copyFrom, in_X1_copyFrom, co_X1_copyFrom⟩
theorem dX11_ahead_0 : decode cX11_ahead 0 = .ok (.iload_n 1, 1) := by decide +kernel
theorem dX11_ahead_1 : decode cX11_ahead 1 = .ok (.iconst 1, 1) := by decide +kernel
theorem dX11_ahead_2 : decode cX11_ahead 2 = .ok (.if_icmp .lt 28, 3) := by decide +kernel
theorem dX11_ahead_5 : decode cX11_ahead 5 = .ok (.iload_n 1, 1) := by decide +kernel
theorem dX11_ahead_6 : decode cX11_ahead 6 = .ok (.bipush 120, 2) := by decide +kernel
theorem dX11_ahead_8 : decode cX11_ahead 8 = .ok (.if_icmp .gt 22, 3) := by decide +kernel
theorem dX11_ahead_11 : decode cX11_ahead 11 = .ok (.iload_n 2, 1) := by decide +kernel
theorem dX11_ahead_12 : decode cX11_ahead 12 = .ok (.ifCond .lt 18, 3) := by decide +kernel
theorem dX11_ahead_15 : decode cX11_ahead 15 = .ok (.iload_n 2, 1) := by decide +kernel
theorem dX11_ahead_16 : decode cX11_ahead 16 = .ok (.iconst 4, 1) := by decide +kernel
theorem dX11_ahead_17 : decode cX11_ahead 17 = .ok (.if_icmp .gt 13, 3) := by decide +kernel
theorem dX11_ahead_20 : decode cX11_ahead 20 = .ok (.aload_n 0, 1) := by decide +kernel
theorem dX11_ahead_21 : decode cX11_ahead 21 = .ok (.getfield 30, 3) := by decide +kernel
theorem dX11_ahead_24 : decode cX11_ahead 24 = .ok (.invokevirtual 107, 3) := by decide +kernel
theorem dX11_ahead_27 : decode cX11_ahead 27 = .ok (.ifCond .ne 5, 3) := by decide +kernel
theorem dX11_ahead_30 : decode cX11_ahead 30 = .ok (.iconst (-1), 1) := by decide +kernel
theorem dX11_ahead_31 : decode cX11_ahead 31 = .ok (.ireturn, 1) := by decide +kernel
theorem dX11_ahead_32 : decode cX11_ahead 32 = .ok (.aload_n 0, 1) := by decide +kernel
theorem dX11_ahead_33 : decode cX11_ahead 33 = .ok (.getfield 50, 3) := by decide +kernel
theorem dX11_ahead_36 : decode cX11_ahead 36 = .ok (.aload_n 0, 1) := by decide +kernel
theorem dX11_ahead_37 : decode cX11_ahead 37 = .ok (.getfield 46, 3) := by decide +kernel
theorem dX11_ahead_40 : decode cX11_ahead 40 = .ok (.invokevirtual 269, 3) := by decide +kernel
theorem dX11_ahead_43 : decode cX11_ahead 43 = .ok (.iconst 0, 1) := by decide +kernel
theorem dX11_ahead_44 : decode cX11_ahead 44 = .ok (.istore_n 3, 1) := by decide +kernel
theorem dX11_ahead_45 : decode cX11_ahead 45 = .ok (.iload_n 3, 1) := by decide +kernel
theorem dX11_ahead_46 : decode cX11_ahead 46 = .ok (.iload_n 1, 1) := by decide +kernel
theorem dX11_ahead_47 : decode cX11_ahead 47 = .ok (.if_icmp .ge 16, 3) := by decide +kernel
theorem dX11_ahead_50 : decode cX11_ahead 50 = .ok (.aload_n 0, 1) := by decide +kernel
theorem dX11_ahead_51 : decode cX11_ahead 51 = .ok (.getfield 50, 3) := by decide +kernel
theorem dX11_ahead_54 : decode cX11_ahead 54 = .ok (.invokevirtual 120, 3) := by decide +kernel
theorem dX11_ahead_57 : decode cX11_ahead 57 = .ok (.iinc 3 1, 3) := by decide +kernel
theorem dX11_ahead_60 : decode cX11_ahead 60 = .ok (.goto (-15), 3) := by decide +kernel
theorem dX11_ahead_63 : decode cX11_ahead 63 = .ok (.aload_n 0, 1) := by decide +kernel
theorem dX11_ahead_64 : decode cX11_ahead 64 = .ok (.getfield 50, 3) := by decide +kernel
theorem dX11_ahead_67 : decode cX11_ahead 67 = .ok (.getfield 163, 3) := by decide +kernel
theorem dX11_ahead_70 : decode cX11_ahead 70 = .ok (.iconst (-1), 1) := by decide +kernel
theorem dX11_ahead_71 : decode cX11_ahead 71 = .ok (.invokevirtual 208, 3) := by decide +kernel
theorem dX11_ahead_74 : decode cX11_ahead 74 = .ok (.iload_n 2, 1) := by decide +kernel
theorem dX11_ahead_75 : decode cX11_ahead 75 = .ok (.tableswitch 81 0 3 #[29, 51, 62, 73], 29) := by decide +kernel
theorem dX11_ahead_104 : decode cX11_ahead 104 = .ok (.aload_n 0, 1) := by decide +kernel
theorem dX11_ahead_105 : decode cX11_ahead 105 = .ok (.getfield 50, 3) := by decide +kernel
theorem dX11_ahead_108 : decode cX11_ahead 108 = .ok (.getfield 111, 3) := by decide +kernel
theorem dX11_ahead_111 : decode cX11_ahead 111 = .ok (.getfield 115, 3) := by decide +kernel
theorem dX11_ahead_114 : decode cX11_ahead 114 = .ok (.aload_n 0, 1) := by decide +kernel
theorem dX11_ahead_115 : decode cX11_ahead 115 = .ok (.getfield 46, 3) := by decide +kernel
theorem dX11_ahead_118 : decode cX11_ahead 118 = .ok (.getfield 111, 3) := by decide +kernel
theorem dX11_ahead_121 : decode cX11_ahead 121 = .ok (.getfield 115, 3) := by decide +kernel
theorem dX11_ahead_124 : decode cX11_ahead 124 = .ok (.isub, 1) := by decide +kernel
theorem dX11_ahead_125 : decode cX11_ahead 125 = .ok (.ireturn, 1) := by decide +kernel
theorem dX11_ahead_126 : decode cX11_ahead 126 = .ok (.aload_n 0, 1) := by decide +kernel
theorem dX11_ahead_127 : decode cX11_ahead 127 = .ok (.getfield 50, 3) := by decide +kernel
theorem dX11_ahead_130 : decode cX11_ahead 130 = .ok (.getfield 163, 3) := by decide +kernel
theorem dX11_ahead_133 : decode cX11_ahead 133 = .ok (.getfield 211, 3) := by decide +kernel
theorem dX11_ahead_136 : decode cX11_ahead 136 = .ok (.ireturn, 1) := by decide +kernel
theorem dX11_ahead_137 : decode cX11_ahead 137 = .ok (.aload_n 0, 1) := by decide +kernel
theorem dX11_ahead_138 : decode cX11_ahead 138 = .ok (.getfield 50, 3) := by decide +kernel
theorem dX11_ahead_141 : decode cX11_ahead 141 = .ok (.getfield 163, 3) := by decide +kernel
theorem dX11_ahead_144 : decode cX11_ahead 144 = .ok (.getfield 213, 3) := by decide +kernel
theorem dX11_ahead_147 : decode cX11_ahead 147 = .ok (.ireturn, 1) := by decide +kernel
theorem dX11_ahead_148 : decode cX11_ahead 148 = .ok (.aload_n 0, 1) := by decide +kernel
theorem dX11_ahead_149 : decode cX11_ahead 149 = .ok (.getfield 50, 3) := by decide +kernel
theorem dX11_ahead_152 : decode cX11_ahead 152 = .ok (.invokevirtual 142, 3) := by decide +kernel
theorem dX11_ahead_155 : decode cX11_ahead 155 = .ok (.ireturn, 1) := by decide +kernel
theorem dX11_ahead_156 : decode cX11_ahead 156 = .ok (.aload_n 0, 1) := by decide +kernel
theorem dX11_ahead_157 : decode cX11_ahead 157 = .ok (.getfield 50, 3) := by decide +kernel
theorem dX11_ahead_160 : decode cX11_ahead 160 = .ok (.getfield 174, 3) := by decide +kernel
theorem dX11_ahead_163 : decode cX11_ahead 163 = .ok (.getfield 178, 3) := by decide +kernel
theorem dX11_ahead_166 : decode cX11_ahead 166 = .ok (.ireturn, 1) := by decide +kernel
def rmX11_ahead : Room := { frames := 7, cells := 0, slots := 0, locals := 167 }
set_option maxRecDepth 100000 in
def fX11_ahead_J30 (N : Nat) (g : Gs) (x0 : Nat) (x1 : Int32) (x2 : Int32) (d : Ds) : Option (Int32 × Ds) := some ((-1), d)
set_option maxHeartbeats 4000000 in
set_option maxRecDepth 100000 in
theorem tX11_ahead_30 {p : Program} {l : Launch} {e : Env} {s : State} {m : MethodId} {args : Array Value} {below : List Frame} {meth : Method} {c : Code} {D : va_G} {cy : Nat → ClassId} {B : Bs} (C : Cx p s m args c cX11_ahead 4 RX11 D cy B) (hr : meth.sig.returnType = (some .int)) (hlocks : meth.locks = false) {N : Nat} {g : Gs} {x0 : Nat} {x1 : Int32} {x2 : Int32} {vz : Int32} {dz : Ds} {d : Ds} (hf : fX11_ahead_J30 N g x0 x1 x2 d = some (vz, dz)) : WB p l e rmX11_ahead s m args below meth c 4 D cy B 0 0 (MQ below (QI D cy B vz g dz) args s 0 0 (wA B)) g d [(0, .ref (ad B x0)), (1, .int x1), (2, .int x2)] 30 [] := by
  unfold fX11_ahead_J30 at hf
  refine b_iconst C (v := (-1)) dX11_ahead_30 (by decide) ?_
  exact b_iret C hr hlocks hf dX11_ahead_31
set_option maxRecDepth 100000 in
def fX11_ahead_B45 (N : Nat) (g : Gs) (x0 : Nat) (x1 : Int32) (x2 : Int32) (K45 : Int32 × Ds → Option (Int32 × Ds)) (y3 : Int32) (d : Ds) : Option (Int32 × Ds) := if x1 ≤ y3 then (gd (chk g x0 10) <| ob (gR g x0 7) fun r19 => (gd (chk g r19 1) <| ob (gR g r19 3) fun r21 => (gd (chk g r21 3) <| cv (fX3_gather N g r21 (-1) d) fun d23 => (if x2.toInt < 0 ∨ 3 < x2.toInt then (ob (gR g r19 2) fun r26 => (gd (chk g r26 4) <| some ((dI d23 r26 1), d23))) else if x2 = 0 then (ob (gR g r19 4) fun r29 => (gd (chk g r29 5) <| ob (gR g x0 6) fun r31 => (gd (chk g r31 1) <| ob (gR g r31 4) fun r33 => (gd (chk g r33 5) <| some (((dI d23 r29 4) - (dI d23 r33 4)), d23))))) else if x2 = 1 then (some ((dI d23 r21 6), d23)) else if x2 = 2 then (some ((dI d23 r21 8), d23)) else if x2 = 3 then (cb (fX1_activeLayers N g r19 d23) fun u40 d38 => (some (u40, d38))) else none)))) else (gd (chk g x0 10) <| ob (gR g x0 7) fun r42 => (gd (chk g r42 1) <| cv (fX1_passTick N g r42 d) fun d44 => (bd (y3 + 1) fun u46 => (K45 (u46, d44)))))
set_option maxHeartbeats 4000000 in
set_option maxRecDepth 100000 in
theorem tX11_ahead_45 {p : Program} {l : Launch} {e : Env} {s : State} {m : MethodId} {args : Array Value} {below : List Frame} {meth : Method} {c : Code} {D : va_G} {cy : Nat → ClassId} {B : Bs} (C : Cx p s m args c cX11_ahead 4 RX11 D cy B) (hr : meth.sig.returnType = (some .int)) (hlocks : meth.locks = false) {N : Nat} {g : Gs} {x0 : Nat} {x1 : Int32} {x2 : Int32} {vz : Int32} {dz : Ds} {K45 : Int32 × Ds → Option (Int32 × Ds)} (hK45 : ∀ a, K45 a = some (vz, dz) → WB p l e rmX11_ahead s m args below meth c 4 D cy B 0 0 (MQ below (QI D cy B vz g dz) args s 0 0 (wA B)) g a.2 [(0, .ref (ad B x0)), (1, .int x1), (2, .int x2), (3, .int a.1)] 45 []) {y3 : Int32} {d : Ds} (hf : fX11_ahead_B45 N g x0 x1 x2 K45 y3 d = some (vz, dz)) : WB p l e rmX11_ahead s m args below meth c 4 D cy B 0 0 (MQ below (QI D cy B vz g dz) args s 0 0 (wA B)) g d [(0, .ref (ad B x0)), (1, .int x1), (2, .int x2), (3, .int y3)] 45 [] := by
  unfold fX11_ahead_B45 at hf
  refine b_iload_n C dX11_ahead_45 3 rfl rfl ?_
  refine b_iload_n C dX11_ahead_46 1 rfl rfl ?_
  refine b_icmp_ge C (tgt := 63) dX11_ahead_47 (by decide) (fun c17 => ?_) (fun c17 => ?_)
  · have hf := it_s c17 hf
    refine b_aload_n C dX11_ahead_63 0 rfl rfl ?_
    obtain ⟨h18, hf⟩ := gd_s hf
    obtain ⟨r19, er19, hf⟩ := ob_s hf
    refine b_gR C dX11_ahead_64 fl_X11_50 h18 er19 ?_
    obtain ⟨h20, hf⟩ := gd_s hf
    obtain ⟨r21, er21, hf⟩ := ob_s hf
    refine b_gR C dX11_ahead_67 fl_X11_163 h20 er21 ?_
    refine b_iconst C (v := (-1)) dX11_ahead_70 (by decide) ?_
    obtain ⟨h22, hf⟩ := gd_s hf
    obtain ⟨d23, k24, hf⟩ := cv_s hf
    refine b_cVN C [] dX11_ahead_71 (kX3_gather l D cy B k24) lv_X11_208 ⟨rfl, rfl, Nat.le_of_ble_eq_true rfl, Nat.le_of_ble_eq_true rfl⟩ h22 (by decide) rfl (Nat.le_of_ble_eq_true rfl) ⟨Nat.zero_le _, Nat.zero_le _⟩ rfl ?_
    refine b_iload_n C dX11_ahead_74 2 rfl rfl ?_
    by_cases c25 : x2.toInt < 0 ∨ 3 < x2.toInt
    · have hf := it_s c25 hf
      refine b_tabOut C (tgt := 156) dX11_ahead_75 c25 (by decide) ?_
      refine b_aload_n C dX11_ahead_156 0 rfl rfl ?_
      refine b_gR C dX11_ahead_157 fl_X11_50 h18 er19 ?_
      obtain ⟨r26, er26, hf⟩ := ob_s hf
      refine b_gR C dX11_ahead_160 fl_X11_174 h20 er26 ?_
      obtain ⟨h27, hf⟩ := gd_s hf
      refine b_gI C dX11_ahead_163 fl_X11_178 h27 ?_
      exact b_iret C hr hlocks hf dX11_ahead_166
    · have hf := if_s c25 hf
      by_cases c28 : x2 = 0
      · have hf := it_s c28 hf
        refine b_tabIn C (tgt := 104) (off := 29) dX11_ahead_75 c28 (by decide) (by decide) (by decide) (by decide) ?_
        refine b_aload_n C dX11_ahead_104 0 rfl rfl ?_
        refine b_gR C dX11_ahead_105 fl_X11_50 h18 er19 ?_
        obtain ⟨r29, er29, hf⟩ := ob_s hf
        refine b_gR C dX11_ahead_108 fl_X11_111 h20 er29 ?_
        obtain ⟨h30, hf⟩ := gd_s hf
        refine b_gI C dX11_ahead_111 fl_X11_115 h30 ?_
        refine b_aload_n C dX11_ahead_114 0 rfl rfl ?_
        obtain ⟨r31, er31, hf⟩ := ob_s hf
        refine b_gR C dX11_ahead_115 fl_X11_46 h18 er31 ?_
        obtain ⟨h32, hf⟩ := gd_s hf
        obtain ⟨r33, er33, hf⟩ := ob_s hf
        refine b_gR C dX11_ahead_118 fl_X11_111 h32 er33 ?_
        obtain ⟨h34, hf⟩ := gd_s hf
        refine b_gI C dX11_ahead_121 fl_X11_115 h34 ?_
        refine b_isub C dX11_ahead_124 ?_
        exact b_iret C hr hlocks hf dX11_ahead_125
      have hf := if_s c28 hf
      by_cases c35 : x2 = 1
      · have hf := it_s c35 hf
        refine b_tabIn C (tgt := 126) (off := 51) dX11_ahead_75 c35 (by decide) (by decide) (by decide) (by decide) ?_
        refine b_aload_n C dX11_ahead_126 0 rfl rfl ?_
        refine b_gR C dX11_ahead_127 fl_X11_50 h18 er19 ?_
        refine b_gR C dX11_ahead_130 fl_X11_163 h20 er21 ?_
        refine b_gI C dX11_ahead_133 fl_X11_211 h22 ?_
        exact b_iret C hr hlocks hf dX11_ahead_136
      have hf := if_s c35 hf
      by_cases c36 : x2 = 2
      · have hf := it_s c36 hf
        refine b_tabIn C (tgt := 137) (off := 62) dX11_ahead_75 c36 (by decide) (by decide) (by decide) (by decide) ?_
        refine b_aload_n C dX11_ahead_137 0 rfl rfl ?_
        refine b_gR C dX11_ahead_138 fl_X11_50 h18 er19 ?_
        refine b_gR C dX11_ahead_141 fl_X11_163 h20 er21 ?_
        refine b_gI C dX11_ahead_144 fl_X11_213 h22 ?_
        exact b_iret C hr hlocks hf dX11_ahead_147
      have hf := if_s c36 hf
      by_cases c37 : x2 = 3
      · have hf := it_s c37 hf
        refine b_tabIn C (tgt := 148) (off := 73) dX11_ahead_75 c37 (by decide) (by decide) (by decide) (by decide) ?_
        refine b_aload_n C dX11_ahead_148 0 rfl rfl ?_
        refine b_gR C dX11_ahead_149 fl_X11_50 h18 er19 ?_
        obtain ⟨u40, d38, k39, hf⟩ := cb_s hf
        refine b_cVI C [] dX11_ahead_152 (kX1_activeLayers l D cy B k39) lv_X11_142 ⟨rfl, rfl, Nat.le_of_ble_eq_true rfl, Nat.le_of_ble_eq_true rfl⟩ h20 (by decide) rfl (Nat.le_of_ble_eq_true rfl) ⟨Nat.zero_le _, Nat.zero_le _⟩ rfl ?_
        exact b_iret C hr hlocks hf dX11_ahead_155
      have hf := if_s c37 hf
      cases hf
  · have hf := if_s c17 hf
    refine b_aload_n C dX11_ahead_50 0 rfl rfl ?_
    obtain ⟨h41, hf⟩ := gd_s hf
    obtain ⟨r42, er42, hf⟩ := ob_s hf
    refine b_gR C dX11_ahead_51 fl_X11_50 h41 er42 ?_
    obtain ⟨h43, hf⟩ := gd_s hf
    obtain ⟨d44, k45, hf⟩ := cv_s hf
    refine b_cVN C [] dX11_ahead_54 (kX1_passTick l D cy B k45) lv_X11_120 ⟨rfl, rfl, Nat.le_of_ble_eq_true rfl, Nat.le_of_ble_eq_true rfl⟩ h43 (by decide) rfl (Nat.le_of_ble_eq_true rfl) ⟨Nat.zero_le _, Nat.zero_le _⟩ rfl ?_
    obtain ⟨u46, eu46, hf⟩ := bd_s hf
    refine b_iinc C dX11_ahead_57 3 rfl (by rw [eu46]; rfl) [(3, .int u46), (0, .ref (ad B x0)), (1, .int x1), (2, .int x2)] (by decide) rfl ?_
    refine b_goto C (tgt := 45) dX11_ahead_60 (by decide) ?_
    refine b_sub [(0, .ref (ad B x0)), (1, .int x1), (2, .int x2), (3, .int u46)] [1, 2, 3, 0] rfl ?_
    exact hK45 (u46, d44) hf
def fX11_ahead_L45 (N : Nat) (g : Gs) (x0 : Nat) (x1 : Int32) (x2 : Int32) : Int32 × Ds → Option (Int32 × Ds) := lp (fun K45 a => fX11_ahead_B45 N g x0 x1 x2 K45 a.1 a.2) N
theorem tX11_ahead_L45 {p : Program} {l : Launch} {e : Env} {s : State} {m : MethodId} {args : Array Value} {below : List Frame} {meth : Method} {c : Code} {D : va_G} {cy : Nat → ClassId} {B : Bs} (C : Cx p s m args c cX11_ahead 4 RX11 D cy B) (hr : meth.sig.returnType = (some .int)) (hlocks : meth.locks = false) {N : Nat} {g : Gs} {x0 : Nat} {x1 : Int32} {x2 : Int32} {vz : Int32} {dz : Ds} (a : Int32 × Ds) (hf : fX11_ahead_L45 N g x0 x1 x2 a = some (vz, dz)) : WB p l e rmX11_ahead s m args below meth c 4 D cy B 0 0 (MQ below (QI D cy B vz g dz) args s 0 0 (wA B)) g a.2 [(0, .ref (ad B x0)), (1, .int x1), (2, .int x2), (3, .int a.1)] 45 [] :=
  lp_w (fun K45 hK45 a ha => tX11_ahead_45 C hr hlocks hK45 ha) N a hf
set_option maxRecDepth 100000 in
def fX11_ahead (N : Nat) (g : Gs) (x0 : Nat) (x1 : Int32) (x2 : Int32) (d : Ds) : Option (Int32 × Ds) := if x1 < (1 : Int32) then (fX11_ahead_J30 N g x0 x1 x2 d) else (if (120 : Int32) < x1 then (fX11_ahead_J30 N g x0 x1 x2 d) else (if x2 < 0 then (fX11_ahead_J30 N g x0 x1 x2 d) else (if (4 : Int32) < x2 then (fX11_ahead_J30 N g x0 x1 x2 d) else (gd (chk g x0 10) <| ob (gR g x0 4) fun r6 => (gd (chk g r6 0) <| cb (fX0_keys N g r6 d) fun u10 d8 => (if u10 = 0 then (fX11_ahead_J30 N g x0 x1 x2 d8) else (ob (gR g x0 7) fun r12 => (ob (gR g x0 6) fun r13 => (gd (chk g r12 1) <| cv (fX1_copyFrom N g r12 r13 d8) fun d15 => (fX11_ahead_L45 N g x0 x1 x2 (0, d15)))))))))))
set_option maxHeartbeats 4000000 in
set_option maxRecDepth 100000 in
theorem tX11_ahead_E {p : Program} {l : Launch} {e : Env} {s : State} {m : MethodId} {args : Array Value} {below : List Frame} {meth : Method} {c : Code} {D : va_G} {cy : Nat → ClassId} {B : Bs} (C : Cx p s m args c cX11_ahead 4 RX11 D cy B) (hr : meth.sig.returnType = (some .int)) (hlocks : meth.locks = false) {N : Nat} {g : Gs} {x0 : Nat} {x1 : Int32} {x2 : Int32} {vz : Int32} {dz : Ds} {d : Ds} (hf : fX11_ahead N g x0 x1 x2 d = some (vz, dz)) : WB p l e rmX11_ahead s m args below meth c 4 D cy B 0 0 (MQ below (QI D cy B vz g dz) args s 0 0 (wA B)) g d [(0, .ref (ad B x0)), (1, .int x1), (2, .int x2)] 0 [] := by
  unfold fX11_ahead at hf
  refine b_iload_n C dX11_ahead_0 1 rfl rfl ?_
  refine b_iconst C (v := 1) dX11_ahead_1 (by decide) ?_
  refine b_icmp_lt C (tgt := 30) dX11_ahead_2 (by decide) (fun c1 => ?_) (fun c1 => ?_)
  · have hf := it_s c1 hf
    refine b_sub [(0, .ref (ad B x0)), (1, .int x1), (2, .int x2)] [0, 1, 2] rfl ?_
    exact tX11_ahead_30 C hr hlocks hf
  · have hf := if_s c1 hf
    refine b_iload_n C dX11_ahead_5 1 rfl rfl ?_
    refine b_bipush C (v := 120) dX11_ahead_6 (by decide) ?_
    refine b_icmp_gt C (tgt := 30) dX11_ahead_8 (by decide) (fun c2 => ?_) (fun c2 => ?_)
    · have hf := it_s c2 hf
      refine b_sub [(0, .ref (ad B x0)), (1, .int x1), (2, .int x2)] [0, 1, 2] rfl ?_
      exact tX11_ahead_30 C hr hlocks hf
    · have hf := if_s c2 hf
      refine b_iload_n C dX11_ahead_11 2 rfl rfl ?_
      refine b_if_lt C (tgt := 30) dX11_ahead_12 (by decide) (fun c3 => ?_) (fun c3 => ?_)
      · have hf := it_s c3 hf
        refine b_sub [(0, .ref (ad B x0)), (1, .int x1), (2, .int x2)] [0, 1, 2] rfl ?_
        exact tX11_ahead_30 C hr hlocks hf
      · have hf := if_s c3 hf
        refine b_iload_n C dX11_ahead_15 2 rfl rfl ?_
        refine b_iconst C (v := 4) dX11_ahead_16 (by decide) ?_
        refine b_icmp_gt C (tgt := 30) dX11_ahead_17 (by decide) (fun c4 => ?_) (fun c4 => ?_)
        · have hf := it_s c4 hf
          refine b_sub [(0, .ref (ad B x0)), (1, .int x1), (2, .int x2)] [0, 1, 2] rfl ?_
          exact tX11_ahead_30 C hr hlocks hf
        · have hf := if_s c4 hf
          refine b_aload_n C dX11_ahead_20 0 rfl rfl ?_
          obtain ⟨h5, hf⟩ := gd_s hf
          obtain ⟨r6, er6, hf⟩ := ob_s hf
          refine b_gR C dX11_ahead_21 fl_X11_30 h5 er6 ?_
          obtain ⟨h7, hf⟩ := gd_s hf
          obtain ⟨u10, d8, k9, hf⟩ := cb_s hf
          refine b_cVI C [] dX11_ahead_24 (kX0_keys l D cy B k9) lv_X11_107 ⟨rfl, rfl, Nat.le_of_ble_eq_true rfl, Nat.le_of_ble_eq_true rfl⟩ h7 (by decide) rfl (Nat.le_of_ble_eq_true rfl) ⟨Nat.zero_le _, Nat.zero_le _⟩ rfl ?_
          refine b_if_ne C (tgt := 32) dX11_ahead_27 (by decide) (fun c11 => ?_) (fun c11 => ?_)
          · have hf := if_s c11 hf
            refine b_aload_n C dX11_ahead_32 0 rfl rfl ?_
            obtain ⟨r12, er12, hf⟩ := ob_s hf
            refine b_gR C dX11_ahead_33 fl_X11_50 h5 er12 ?_
            refine b_aload_n C dX11_ahead_36 0 rfl rfl ?_
            obtain ⟨r13, er13, hf⟩ := ob_s hf
            refine b_gR C dX11_ahead_37 fl_X11_46 h5 er13 ?_
            obtain ⟨h14, hf⟩ := gd_s hf
            obtain ⟨d15, k16, hf⟩ := cv_s hf
            refine b_cVN C [] dX11_ahead_40 (kX1_copyFrom l D cy B k16) lv_X11_269 ⟨rfl, rfl, Nat.le_of_ble_eq_true rfl, Nat.le_of_ble_eq_true rfl⟩ h14 (by decide) rfl (Nat.le_of_ble_eq_true rfl) ⟨Nat.zero_le _, Nat.zero_le _⟩ rfl ?_
            refine b_iconst C (v := 0) dX11_ahead_43 (by decide) ?_
            refine b_istore_n C dX11_ahead_44 rfl [(3, .int 0), (0, .ref (ad B x0)), (1, .int x1), (2, .int x2)] (by decide) rfl ?_
            refine b_sub [(0, .ref (ad B x0)), (1, .int x1), (2, .int x2), (3, .int 0)] [1, 2, 3, 0] rfl ?_
            exact tX11_ahead_L45 C hr hlocks (0, d15) hf
          · have hf := it_s c11 hf
            refine b_sub [(0, .ref (ad B x0)), (1, .int x1), (2, .int x2)] [0, 1, 2] rfl ?_
            exact tX11_ahead_30 C hr hlocks hf
theorem kX11_ahead (l : Launch) (D : va_G) (cy : Nat → ClassId) (B : Bs) {N : Nat} {g : Gs} {x0 : Nat} {x1 : Int32} {x2 : Int32} {vz : Int32} {dz : Ds} {d : Ds} (hf : fX11_ahead N g x0 x1 x2 d = some (vz, dz)) : Met l yX11_ahead (.code yX11_ahead cX11_ahead 4 (some .int) :: wl) rmX11_ahead (PC D cy B [.ref (ad B x0), .int x1, .int x2] g d) (QI D cy B vz g dz) 0 0 (wA B) :=
  met_of (by decide +kernel) (Nat.le_of_ble_eq_true rfl) (fun p e s m args below meth c C hr hlocks _ => b_sub [(0, .ref (ad B x0)), (1, .int x1), (2, .int x2)] [0, 1, 2] rfl (tX11_ahead_E C hr hlocks hf))
/-! KeyMatrix.hold(I)Z -/
theorem dX11_hold_0 : decode cX11_hold 0 = .ok (.iload_n 1, 1) := by decide +kernel
theorem dX11_hold_1 : decode cX11_hold 1 = .ok (.ifCond .lt 8, 3) := by decide +kernel
theorem dX11_hold_4 : decode cX11_hold 4 = .ok (.iload_n 1, 1) := by decide +kernel
theorem dX11_hold_5 : decode cX11_hold 5 = .ok (.iconst 3, 1) := by decide +kernel
theorem dX11_hold_6 : decode cX11_hold 6 = .ok (.if_icmp .lt 5, 3) := by decide +kernel
theorem dX11_hold_9 : decode cX11_hold 9 = .ok (.iconst 0, 1) := by decide +kernel
theorem dX11_hold_10 : decode cX11_hold 10 = .ok (.ireturn, 1) := by decide +kernel
theorem dX11_hold_11 : decode cX11_hold 11 = .ok (.aload_n 0, 1) := by decide +kernel
theorem dX11_hold_12 : decode cX11_hold 12 = .ok (.getfield 53, 3) := by decide +kernel
theorem dX11_hold_15 : decode cX11_hold 15 = .ok (.iload_n 1, 1) := by decide +kernel
theorem dX11_hold_16 : decode cX11_hold 16 = .ok (.aaload, 1) := by decide +kernel
theorem dX11_hold_17 : decode cX11_hold 17 = .ok (.aload_n 0, 1) := by decide +kernel
theorem dX11_hold_18 : decode cX11_hold 18 = .ok (.getfield 46, 3) := by decide +kernel
theorem dX11_hold_21 : decode cX11_hold 21 = .ok (.invokevirtual 269, 3) := by decide +kernel
theorem dX11_hold_24 : decode cX11_hold 24 = .ok (.aload_n 0, 1) := by decide +kernel
theorem dX11_hold_25 : decode cX11_hold 25 = .ok (.dup, 1) := by decide +kernel
theorem dX11_hold_26 : decode cX11_hold 26 = .ok (.getfield 57, 3) := by decide +kernel
theorem dX11_hold_29 : decode cX11_hold 29 = .ok (.iconst 1, 1) := by decide +kernel
theorem dX11_hold_30 : decode cX11_hold 30 = .ok (.iload_n 1, 1) := by decide +kernel
theorem dX11_hold_31 : decode cX11_hold 31 = .ok (.ishl, 1) := by decide +kernel
theorem dX11_hold_32 : decode cX11_hold 32 = .ok (.ior, 1) := by decide +kernel
theorem dX11_hold_33 : decode cX11_hold 33 = .ok (.putfield 57, 3) := by decide +kernel
theorem dX11_hold_36 : decode cX11_hold 36 = .ok (.iconst 1, 1) := by decide +kernel
theorem dX11_hold_37 : decode cX11_hold 37 = .ok (.ireturn, 1) := by decide +kernel
def rmX11_hold : Room := { frames := 3, cells := 0, slots := 0, locals := 82 }
set_option maxRecDepth 100000 in
def fX11_hold_J9 (N : Nat) (g : Gs) (x0 : Nat) (x1 : Int32) (d : Ds) : Option (Int32 × Ds) := some (0, d)
set_option maxHeartbeats 4000000 in
set_option maxRecDepth 100000 in
theorem tX11_hold_9 {p : Program} {l : Launch} {e : Env} {s : State} {m : MethodId} {args : Array Value} {below : List Frame} {meth : Method} {c : Code} {D : va_G} {cy : Nat → ClassId} {B : Bs} (C : Cx p s m args c cX11_hold 2 RX11 D cy B) (hr : meth.sig.returnType = (some .boolean)) (hlocks : meth.locks = false) {N : Nat} {g : Gs} {x0 : Nat} {x1 : Int32} {vz : Int32} {dz : Ds} {d : Ds} (hf : fX11_hold_J9 N g x0 x1 d = some (vz, dz)) : WB p l e rmX11_hold s m args below meth c 2 D cy B 0 0 (MQ below (QI D cy B vz g dz) args s 0 0 (wA B)) g d [(0, .ref (ad B x0)), (1, .int x1)] 9 [] := by
  unfold fX11_hold_J9 at hf
  refine b_iconst C (v := 0) dX11_hold_9 (by decide) ?_
  exact b_zret C hr hlocks (by decide) hf dX11_hold_10
set_option maxRecDepth 100000 in
def fX11_hold (N : Nat) (g : Gs) (x0 : Nat) (x1 : Int32) (d : Ds) : Option (Int32 × Ds) := if x1 < 0 then (fX11_hold_J9 N g x0 x1 d) else (if x1 < (3 : Int32) then (gd (chk g x0 10) <| ob (gR g x0 8) fun r4 => (gd (chk g r4 106) <| gd (¬ (x1 < 0 ∨ gL g r4 ≤ x1.toNatClampNeg)) <| ob (gR g r4 x1.toNatClampNeg) fun r7 => (ob (gR g x0 6) fun r8 => (gd (chk g r7 1) <| cv (fX1_copyFrom N g r7 r8 d) fun d10 => (bd (sI d10 x0 9 ((dI d10 x0 9) ||| ((1 : Int32) <<< (x1 &&& 31)))) fun d12 => (some (1, d12))))))) else (fX11_hold_J9 N g x0 x1 d))
set_option maxHeartbeats 4000000 in
set_option maxRecDepth 100000 in
theorem tX11_hold_E {p : Program} {l : Launch} {e : Env} {s : State} {m : MethodId} {args : Array Value} {below : List Frame} {meth : Method} {c : Code} {D : va_G} {cy : Nat → ClassId} {B : Bs} (C : Cx p s m args c cX11_hold 2 RX11 D cy B) (hr : meth.sig.returnType = (some .boolean)) (hlocks : meth.locks = false) {N : Nat} {g : Gs} {x0 : Nat} {x1 : Int32} {vz : Int32} {dz : Ds} {d : Ds} (hf : fX11_hold N g x0 x1 d = some (vz, dz)) : WB p l e rmX11_hold s m args below meth c 2 D cy B 0 0 (MQ below (QI D cy B vz g dz) args s 0 0 (wA B)) g d [(0, .ref (ad B x0)), (1, .int x1)] 0 [] := by
  unfold fX11_hold at hf
  refine b_iload_n C dX11_hold_0 1 rfl rfl ?_
  refine b_if_lt C (tgt := 9) dX11_hold_1 (by decide) (fun c1 => ?_) (fun c1 => ?_)
  · have hf := it_s c1 hf
    refine b_sub [(0, .ref (ad B x0)), (1, .int x1)] [0, 1] rfl ?_
    exact tX11_hold_9 C hr hlocks hf
  · have hf := if_s c1 hf
    refine b_iload_n C dX11_hold_4 1 rfl rfl ?_
    refine b_iconst C (v := 3) dX11_hold_5 (by decide) ?_
    refine b_icmp_lt C (tgt := 11) dX11_hold_6 (by decide) (fun c2 => ?_) (fun c2 => ?_)
    · have hf := it_s c2 hf
      refine b_aload_n C dX11_hold_11 0 rfl rfl ?_
      obtain ⟨h3, hf⟩ := gd_s hf
      obtain ⟨r4, er4, hf⟩ := ob_s hf
      refine b_gR C dX11_hold_12 fl_X11_53 h3 er4 ?_
      refine b_iload_n C dX11_hold_15 1 rfl rfl ?_
      obtain ⟨h5, hf⟩ := gd_s hf
      obtain ⟨h6, hf⟩ := gd_s hf
      obtain ⟨r7, er7, hf⟩ := ob_s hf
      refine b_aaldC C (by exact h5) h6 er7 dX11_hold_16 ?_
      refine b_aload_n C dX11_hold_17 0 rfl rfl ?_
      obtain ⟨r8, er8, hf⟩ := ob_s hf
      refine b_gR C dX11_hold_18 fl_X11_46 h3 er8 ?_
      obtain ⟨h9, hf⟩ := gd_s hf
      obtain ⟨d10, k11, hf⟩ := cv_s hf
      refine b_cVN C [] dX11_hold_21 (kX1_copyFrom l D cy B k11) lv_X11_269 ⟨rfl, rfl, Nat.le_of_ble_eq_true rfl, Nat.le_of_ble_eq_true rfl⟩ h9 (by decide) rfl (Nat.le_of_ble_eq_true rfl) ⟨Nat.zero_le _, Nat.zero_le _⟩ rfl ?_
      refine b_aload_n C dX11_hold_24 0 rfl rfl ?_
      refine b_dup C dX11_hold_25 rfl ?_
      refine b_gI C dX11_hold_26 fl_X11_57 h3 ?_
      refine b_iconst C (v := 1) dX11_hold_29 (by decide) ?_
      refine b_iload_n C dX11_hold_30 1 rfl rfl ?_
      refine b_ishl C dX11_hold_31 ?_
      refine b_ior C dX11_hold_32 ?_
      obtain ⟨d12, ed12, hf⟩ := bd_s hf
      refine b_pI C dX11_hold_33 fl_X11_57 fp10_9 h3 ed12 ?_
      refine b_iconst C (v := 1) dX11_hold_36 (by decide) ?_
      exact b_zret C hr hlocks (by decide) hf dX11_hold_37
    · have hf := if_s c2 hf
      refine b_sub [(0, .ref (ad B x0)), (1, .int x1)] [0, 1] rfl ?_
      exact tX11_hold_9 C hr hlocks hf
theorem kX11_hold (l : Launch) (D : va_G) (cy : Nat → ClassId) (B : Bs) {N : Nat} {g : Gs} {x0 : Nat} {x1 : Int32} {vz : Int32} {dz : Ds} {d : Ds} (hf : fX11_hold N g x0 x1 d = some (vz, dz)) : Met l yX11_hold (.code yX11_hold cX11_hold 2 (some .boolean) :: wl) rmX11_hold (PC D cy B [.ref (ad B x0), .int x1] g d) (QI D cy B vz g dz) 0 0 (wA B) :=
  met_of (by decide +kernel) (Nat.le_of_ble_eq_true rfl) (fun p e s m args below meth c C hr hlocks _ => b_sub [(0, .ref (ad B x0)), (1, .int x1)] [0, 1] rfl (tX11_hold_E C hr hlocks hf))
/-! KeyMatrix.restore(I)Z -/
theorem dX11_restore_0 : decode cX11_restore 0 = .ok (.iload_n 1, 1) := by decide +kernel
theorem dX11_restore_1 : decode cX11_restore 1 = .ok (.ifCond .lt 19, 3) := by decide +kernel
theorem dX11_restore_4 : decode cX11_restore 4 = .ok (.iload_n 1, 1) := by decide +kernel
theorem dX11_restore_5 : decode cX11_restore 5 = .ok (.iconst 3, 1) := by decide +kernel
theorem dX11_restore_6 : decode cX11_restore 6 = .ok (.if_icmp .ge 14, 3) := by decide +kernel
theorem dX11_restore_9 : decode cX11_restore 9 = .ok (.aload_n 0, 1) := by decide +kernel
theorem dX11_restore_10 : decode cX11_restore 10 = .ok (.getfield 57, 3) := by decide +kernel
theorem dX11_restore_13 : decode cX11_restore 13 = .ok (.iload_n 1, 1) := by decide +kernel
theorem dX11_restore_14 : decode cX11_restore 14 = .ok (.invokestatic 91, 3) := by decide +kernel
theorem dX11_restore_17 : decode cX11_restore 17 = .ok (.ifCond .ne 5, 3) := by decide +kernel
theorem dX11_restore_20 : decode cX11_restore 20 = .ok (.iconst 0, 1) := by decide +kernel
theorem dX11_restore_21 : decode cX11_restore 21 = .ok (.ireturn, 1) := by decide +kernel
theorem dX11_restore_22 : decode cX11_restore 22 = .ok (.aload_n 0, 1) := by decide +kernel
theorem dX11_restore_23 : decode cX11_restore 23 = .ok (.getfield 46, 3) := by decide +kernel
theorem dX11_restore_26 : decode cX11_restore 26 = .ok (.aload_n 0, 1) := by decide +kernel
theorem dX11_restore_27 : decode cX11_restore 27 = .ok (.getfield 53, 3) := by decide +kernel
theorem dX11_restore_30 : decode cX11_restore 30 = .ok (.iload_n 1, 1) := by decide +kernel
theorem dX11_restore_31 : decode cX11_restore 31 = .ok (.aaload, 1) := by decide +kernel
theorem dX11_restore_32 : decode cX11_restore 32 = .ok (.invokevirtual 269, 3) := by decide +kernel
theorem dX11_restore_35 : decode cX11_restore 35 = .ok (.iconst 1, 1) := by decide +kernel
theorem dX11_restore_36 : decode cX11_restore 36 = .ok (.ireturn, 1) := by decide +kernel
def rmX11_restore : Room := { frames := 3, cells := 0, slots := 0, locals := 82 }
set_option maxRecDepth 100000 in
def fX11_restore_J20 (N : Nat) (g : Gs) (x0 : Nat) (x1 : Int32) (d : Ds) : Option (Int32 × Ds) := some (0, d)
set_option maxHeartbeats 4000000 in
set_option maxRecDepth 100000 in
theorem tX11_restore_20 {p : Program} {l : Launch} {e : Env} {s : State} {m : MethodId} {args : Array Value} {below : List Frame} {meth : Method} {c : Code} {D : va_G} {cy : Nat → ClassId} {B : Bs} (C : Cx p s m args c cX11_restore 2 RX11 D cy B) (hr : meth.sig.returnType = (some .boolean)) (hlocks : meth.locks = false) {N : Nat} {g : Gs} {x0 : Nat} {x1 : Int32} {vz : Int32} {dz : Ds} {d : Ds} (hf : fX11_restore_J20 N g x0 x1 d = some (vz, dz)) : WB p l e rmX11_restore s m args below meth c 2 D cy B 0 0 (MQ below (QI D cy B vz g dz) args s 0 0 (wA B)) g d [(0, .ref (ad B x0)), (1, .int x1)] 20 [] := by
  unfold fX11_restore_J20 at hf
  refine b_iconst C (v := 0) dX11_restore_20 (by decide) ?_
  exact b_zret C hr hlocks (by decide) hf dX11_restore_21
set_option maxRecDepth 100000 in
def fX11_restore (N : Nat) (g : Gs) (x0 : Nat) (x1 : Int32) (d : Ds) : Option (Int32 × Ds) := if x1 < 0 then (fX11_restore_J20 N g x0 x1 d) else (if (3 : Int32) ≤ x1 then (fX11_restore_J20 N g x0 x1 d) else (gd (chk g x0 10) <| cb (fX11_isIn N g (dI d x0 9) x1 d) fun u6 d4 => (if u6 = 0 then (fX11_restore_J20 N g x0 x1 d4) else (ob (gR g x0 6) fun r8 => (ob (gR g x0 8) fun r9 => (gd (chk g r9 106) <| gd (¬ (x1 < 0 ∨ gL g r9 ≤ x1.toNatClampNeg)) <| ob (gR g r9 x1.toNatClampNeg) fun r12 => (gd (chk g r8 1) <| cv (fX1_copyFrom N g r8 r12 d4) fun d14 => (some (1, d14)))))))))
set_option maxHeartbeats 4000000 in
set_option maxRecDepth 100000 in
theorem tX11_restore_E {p : Program} {l : Launch} {e : Env} {s : State} {m : MethodId} {args : Array Value} {below : List Frame} {meth : Method} {c : Code} {D : va_G} {cy : Nat → ClassId} {B : Bs} (C : Cx p s m args c cX11_restore 2 RX11 D cy B) (hr : meth.sig.returnType = (some .boolean)) (hlocks : meth.locks = false) {N : Nat} {g : Gs} {x0 : Nat} {x1 : Int32} {vz : Int32} {dz : Ds} {d : Ds} (hf : fX11_restore N g x0 x1 d = some (vz, dz)) : WB p l e rmX11_restore s m args below meth c 2 D cy B 0 0 (MQ below (QI D cy B vz g dz) args s 0 0 (wA B)) g d [(0, .ref (ad B x0)), (1, .int x1)] 0 [] := by
  unfold fX11_restore at hf
  refine b_iload_n C dX11_restore_0 1 rfl rfl ?_
  refine b_if_lt C (tgt := 20) dX11_restore_1 (by decide) (fun c1 => ?_) (fun c1 => ?_)
  · have hf := it_s c1 hf
    refine b_sub [(0, .ref (ad B x0)), (1, .int x1)] [0, 1] rfl ?_
    exact tX11_restore_20 C hr hlocks hf
  · have hf := if_s c1 hf
    refine b_iload_n C dX11_restore_4 1 rfl rfl ?_
    refine b_iconst C (v := 3) dX11_restore_5 (by decide) ?_
    refine b_icmp_ge C (tgt := 20) dX11_restore_6 (by decide) (fun c2 => ?_) (fun c2 => ?_)
    · have hf := it_s c2 hf
      refine b_sub [(0, .ref (ad B x0)), (1, .int x1)] [0, 1] rfl ?_
      exact tX11_restore_20 C hr hlocks hf
    · have hf := if_s c2 hf
      refine b_aload_n C dX11_restore_9 0 rfl rfl ?_
      obtain ⟨h3, hf⟩ := gd_s hf
      refine b_gI C dX11_restore_10 fl_X11_57 h3 ?_
      refine b_iload_n C dX11_restore_13 1 rfl rfl ?_
      obtain ⟨u6, d4, k5, hf⟩ := cb_s hf
      refine b_cSI C [] dX11_restore_14 (kX11_isIn l D cy B k5) lv_X11_91 ⟨rfl, rfl, Nat.le_of_ble_eq_true rfl, Nat.le_of_ble_eq_true rfl⟩ rfl (Nat.le_of_ble_eq_true rfl) ⟨Nat.zero_le _, Nat.zero_le _⟩ rfl ?_
      refine b_if_ne C (tgt := 22) dX11_restore_17 (by decide) (fun c7 => ?_) (fun c7 => ?_)
      · have hf := if_s c7 hf
        refine b_aload_n C dX11_restore_22 0 rfl rfl ?_
        obtain ⟨r8, er8, hf⟩ := ob_s hf
        refine b_gR C dX11_restore_23 fl_X11_46 h3 er8 ?_
        refine b_aload_n C dX11_restore_26 0 rfl rfl ?_
        obtain ⟨r9, er9, hf⟩ := ob_s hf
        refine b_gR C dX11_restore_27 fl_X11_53 h3 er9 ?_
        refine b_iload_n C dX11_restore_30 1 rfl rfl ?_
        obtain ⟨h10, hf⟩ := gd_s hf
        obtain ⟨h11, hf⟩ := gd_s hf
        obtain ⟨r12, er12, hf⟩ := ob_s hf
        refine b_aaldC C (by exact h10) h11 er12 dX11_restore_31 ?_
        obtain ⟨h13, hf⟩ := gd_s hf
        obtain ⟨d14, k15, hf⟩ := cv_s hf
        refine b_cVN C [] dX11_restore_32 (kX1_copyFrom l D cy B k15) lv_X11_269 ⟨rfl, rfl, Nat.le_of_ble_eq_true rfl, Nat.le_of_ble_eq_true rfl⟩ h13 (by decide) rfl (Nat.le_of_ble_eq_true rfl) ⟨Nat.zero_le _, Nat.zero_le _⟩ rfl ?_
        refine b_iconst C (v := 1) dX11_restore_35 (by decide) ?_
        exact b_zret C hr hlocks (by decide) hf dX11_restore_36
      · have hf := it_s c7 hf
        refine b_sub [(0, .ref (ad B x0)), (1, .int x1)] [0, 1] rfl ?_
        exact tX11_restore_20 C hr hlocks hf
theorem kX11_restore (l : Launch) (D : va_G) (cy : Nat → ClassId) (B : Bs) {N : Nat} {g : Gs} {x0 : Nat} {x1 : Int32} {vz : Int32} {dz : Ds} {d : Ds} (hf : fX11_restore N g x0 x1 d = some (vz, dz)) : Met l yX11_restore (.code yX11_restore cX11_restore 2 (some .boolean) :: wl) rmX11_restore (PC D cy B [.ref (ad B x0), .int x1] g d) (QI D cy B vz g dz) 0 0 (wA B) :=
  met_of (by decide +kernel) (Nat.le_of_ble_eq_true rfl) (fun p e s m args below meth c C hr hlocks _ => b_sub [(0, .ref (ad B x0)), (1, .int x1)] [0, 1] rfl (tX11_restore_E C hr hlocks hf))
/-! KeyMatrix.setting(I)I -/
theorem fl_X11_288 : FLI RX11 288 0 2 := ⟨⟨RX0, TX0, 19, rfl, by decide, inl0, Or.inr (mT1 (List.mem_of_getElem? (i := 119) (by decide +kernel)))⟩, by decide, by decide +kernel⟩
theorem fl_X11_292 : FLI RX11 292 0 3 := ⟨⟨RX0, TX0, 19, rfl, by decide, inl0, Or.inr (mT1 (List.mem_of_getElem? (i := 123) (by decide +kernel)))⟩, by decide, by decide +kernel⟩
theorem fl_X11_295 : FLI RX11 295 0 4 := ⟨⟨RX0, TX0, 19, rfl, by decide, inl0, Or.inr (mT1 (List.mem_of_getElem? (i := 127) (by decide +kernel)))⟩, by decide, by decide +kernel⟩
theorem fl_X11_298 : FLI RX11 298 0 5 := ⟨⟨RX0, TX0, 19, rfl, by decide, inl0, Or.inr (mT1 (List.mem_of_getElem? (i := 131) (by decide +kernel)))⟩, by decide, by decide +kernel⟩
theorem fl_X11_301 : FLI RX11 301 0 6 := ⟨⟨RX0, TX0, 19, rfl, by decide, inl0, Or.inr (mT1 (List.mem_of_getElem? (i := 135) (by decide +kernel)))⟩, by decide, by decide +kernel⟩
theorem fl_X11_304 : FLI RX11 304 0 7 := ⟨⟨RX0, TX0, 19, rfl, by decide, inl0, Or.inr (mT1 (List.mem_of_getElem? (i := 139) (by decide +kernel)))⟩, by decide, by decide +kernel⟩
theorem fl_X11_307 : FLI RX11 307 0 8 := ⟨⟨RX0, TX0, 19, rfl, by decide, inl0, Or.inr (mT1 (List.mem_of_getElem? (i := 143) (by decide +kernel)))⟩, by decide, by decide +kernel⟩
theorem fl_X11_310 : FLI RX11 310 0 9 := ⟨⟨RX0, TX0, 19, rfl, by decide, inl0, Or.inr (mT1 (List.mem_of_getElem? (i := 147) (by decide +kernel)))⟩, by decide, by decide +kernel⟩
theorem dX11_setting_0 : decode cX11_setting 0 = .ok (.iload_n 1, 1) := by decide +kernel
theorem dX11_setting_1 : decode cX11_setting 1 = .ok (.tableswitch 139 13 21 #[51, 67, 83, 91, 99, 107, 115, 123, 131], 51) := by decide +kernel
theorem dX11_setting_52 : decode cX11_setting 52 = .ok (.aload_n 0, 1) := by decide +kernel
theorem dX11_setting_53 : decode cX11_setting 53 = .ok (.getfield 30, 3) := by decide +kernel
theorem dX11_setting_56 : decode cX11_setting 56 = .ok (.getfield 288, 3) := by decide +kernel
theorem dX11_setting_59 : decode cX11_setting 59 = .ok (.ifCond .eq 7, 3) := by decide +kernel
theorem dX11_setting_62 : decode cX11_setting 62 = .ok (.iconst 1, 1) := by decide +kernel
theorem dX11_setting_63 : decode cX11_setting 63 = .ok (.goto 4, 3) := by decide +kernel
theorem dX11_setting_66 : decode cX11_setting 66 = .ok (.iconst 0, 1) := by decide +kernel
theorem dX11_setting_67 : decode cX11_setting 67 = .ok (.ireturn, 1) := by decide +kernel
theorem dX11_setting_68 : decode cX11_setting 68 = .ok (.aload_n 0, 1) := by decide +kernel
theorem dX11_setting_69 : decode cX11_setting 69 = .ok (.getfield 30, 3) := by decide +kernel
theorem dX11_setting_72 : decode cX11_setting 72 = .ok (.getfield 292, 3) := by decide +kernel
theorem dX11_setting_75 : decode cX11_setting 75 = .ok (.ifCond .eq 7, 3) := by decide +kernel
theorem dX11_setting_78 : decode cX11_setting 78 = .ok (.iconst 1, 1) := by decide +kernel
theorem dX11_setting_79 : decode cX11_setting 79 = .ok (.goto 4, 3) := by decide +kernel
theorem dX11_setting_82 : decode cX11_setting 82 = .ok (.iconst 0, 1) := by decide +kernel
theorem dX11_setting_83 : decode cX11_setting 83 = .ok (.ireturn, 1) := by decide +kernel
theorem dX11_setting_84 : decode cX11_setting 84 = .ok (.aload_n 0, 1) := by decide +kernel
theorem dX11_setting_85 : decode cX11_setting 85 = .ok (.getfield 30, 3) := by decide +kernel
theorem dX11_setting_88 : decode cX11_setting 88 = .ok (.getfield 295, 3) := by decide +kernel
theorem dX11_setting_91 : decode cX11_setting 91 = .ok (.ireturn, 1) := by decide +kernel
theorem dX11_setting_92 : decode cX11_setting 92 = .ok (.aload_n 0, 1) := by decide +kernel
theorem dX11_setting_93 : decode cX11_setting 93 = .ok (.getfield 30, 3) := by decide +kernel
theorem dX11_setting_96 : decode cX11_setting 96 = .ok (.getfield 298, 3) := by decide +kernel
theorem dX11_setting_99 : decode cX11_setting 99 = .ok (.ireturn, 1) := by decide +kernel
theorem dX11_setting_100 : decode cX11_setting 100 = .ok (.aload_n 0, 1) := by decide +kernel
theorem dX11_setting_101 : decode cX11_setting 101 = .ok (.getfield 30, 3) := by decide +kernel
theorem dX11_setting_104 : decode cX11_setting 104 = .ok (.getfield 301, 3) := by decide +kernel
theorem dX11_setting_107 : decode cX11_setting 107 = .ok (.ireturn, 1) := by decide +kernel
theorem dX11_setting_108 : decode cX11_setting 108 = .ok (.aload_n 0, 1) := by decide +kernel
theorem dX11_setting_109 : decode cX11_setting 109 = .ok (.getfield 30, 3) := by decide +kernel
theorem dX11_setting_112 : decode cX11_setting 112 = .ok (.getfield 304, 3) := by decide +kernel
theorem dX11_setting_115 : decode cX11_setting 115 = .ok (.ireturn, 1) := by decide +kernel
theorem dX11_setting_116 : decode cX11_setting 116 = .ok (.aload_n 0, 1) := by decide +kernel
theorem dX11_setting_117 : decode cX11_setting 117 = .ok (.getfield 30, 3) := by decide +kernel
theorem dX11_setting_120 : decode cX11_setting 120 = .ok (.getfield 252, 3) := by decide +kernel
theorem dX11_setting_123 : decode cX11_setting 123 = .ok (.ireturn, 1) := by decide +kernel
theorem dX11_setting_124 : decode cX11_setting 124 = .ok (.aload_n 0, 1) := by decide +kernel
theorem dX11_setting_125 : decode cX11_setting 125 = .ok (.getfield 30, 3) := by decide +kernel
theorem dX11_setting_128 : decode cX11_setting 128 = .ok (.getfield 307, 3) := by decide +kernel
theorem dX11_setting_131 : decode cX11_setting 131 = .ok (.ireturn, 1) := by decide +kernel
theorem dX11_setting_132 : decode cX11_setting 132 = .ok (.aload_n 0, 1) := by decide +kernel
theorem dX11_setting_133 : decode cX11_setting 133 = .ok (.getfield 30, 3) := by decide +kernel
theorem dX11_setting_136 : decode cX11_setting 136 = .ok (.getfield 310, 3) := by decide +kernel
theorem dX11_setting_139 : decode cX11_setting 139 = .ok (.ireturn, 1) := by decide +kernel
theorem dX11_setting_140 : decode cX11_setting 140 = .ok (.iconst (-1), 1) := by decide +kernel
theorem dX11_setting_141 : decode cX11_setting 141 = .ok (.ireturn, 1) := by decide +kernel
def rmX11_setting : Room := { frames := 0, cells := 0, slots := 0, locals := 0 }
set_option maxRecDepth 100000 in
def fX11_setting_J67 (N : Nat) (g : Gs) (x0 : Nat) (x1 : Int32) (z0 : Int32) (d : Ds) : Option (Int32 × Ds) := some (z0, d)
set_option maxHeartbeats 4000000 in
set_option maxRecDepth 100000 in
theorem tX11_setting_67 {p : Program} {l : Launch} {e : Env} {s : State} {m : MethodId} {args : Array Value} {below : List Frame} {meth : Method} {c : Code} {D : va_G} {cy : Nat → ClassId} {B : Bs} (C : Cx p s m args c cX11_setting 2 RX11 D cy B) (hr : meth.sig.returnType = (some .int)) (hlocks : meth.locks = false) {N : Nat} {g : Gs} {x0 : Nat} {x1 : Int32} {vz : Int32} {dz : Ds} {z0 : Int32} {d : Ds} (hf : fX11_setting_J67 N g x0 x1 z0 d = some (vz, dz)) : WB p l e rmX11_setting s m args below meth c 2 D cy B 0 0 (MQ below (QI D cy B vz g dz) args s 0 0 (wA B)) g d [(0, .ref (ad B x0)), (1, .int x1)] 67 [.int z0] := by
  unfold fX11_setting_J67 at hf
  exact b_iret C hr hlocks hf dX11_setting_67
set_option maxRecDepth 100000 in
def fX11_setting_J83 (N : Nat) (g : Gs) (x0 : Nat) (x1 : Int32) (z0 : Int32) (d : Ds) : Option (Int32 × Ds) := some (z0, d)
set_option maxHeartbeats 4000000 in
set_option maxRecDepth 100000 in
theorem tX11_setting_83 {p : Program} {l : Launch} {e : Env} {s : State} {m : MethodId} {args : Array Value} {below : List Frame} {meth : Method} {c : Code} {D : va_G} {cy : Nat → ClassId} {B : Bs} (C : Cx p s m args c cX11_setting 2 RX11 D cy B) (hr : meth.sig.returnType = (some .int)) (hlocks : meth.locks = false) {N : Nat} {g : Gs} {x0 : Nat} {x1 : Int32} {vz : Int32} {dz : Ds} {z0 : Int32} {d : Ds} (hf : fX11_setting_J83 N g x0 x1 z0 d = some (vz, dz)) : WB p l e rmX11_setting s m args below meth c 2 D cy B 0 0 (MQ below (QI D cy B vz g dz) args s 0 0 (wA B)) g d [(0, .ref (ad B x0)), (1, .int x1)] 83 [.int z0] := by
  unfold fX11_setting_J83 at hf
  exact b_iret C hr hlocks hf dX11_setting_83
set_option maxRecDepth 100000 in
def fX11_setting (N : Nat) (g : Gs) (x0 : Nat) (x1 : Int32) (d : Ds) : Option (Int32 × Ds) := if x1.toInt < 13 ∨ 21 < x1.toInt then (some ((-1), d)) else if x1 = 13 then (gd (chk g x0 10) <| ob (gR g x0 4) fun r4 => (gd (chk g r4 0) <| if (dI d r4 2) = 0 then (fX11_setting_J67 N g x0 x1 0 d) else (fX11_setting_J67 N g x0 x1 1 d))) else if x1 = 14 then (gd (chk g x0 10) <| ob (gR g x0 4) fun r9 => (gd (chk g r9 0) <| if (dI d r9 3) = 0 then (fX11_setting_J83 N g x0 x1 0 d) else (fX11_setting_J83 N g x0 x1 1 d))) else if x1 = 15 then (gd (chk g x0 10) <| ob (gR g x0 4) fun r14 => (gd (chk g r14 0) <| some ((dI d r14 4), d))) else if x1 = 16 then (gd (chk g x0 10) <| ob (gR g x0 4) fun r18 => (gd (chk g r18 0) <| some ((dI d r18 5), d))) else if x1 = 17 then (gd (chk g x0 10) <| ob (gR g x0 4) fun r22 => (gd (chk g r22 0) <| some ((dI d r22 6), d))) else if x1 = 18 then (gd (chk g x0 10) <| ob (gR g x0 4) fun r26 => (gd (chk g r26 0) <| some ((dI d r26 7), d))) else if x1 = 19 then (gd (chk g x0 10) <| ob (gR g x0 4) fun r30 => (gd (chk g r30 0) <| some ((dI d r30 16), d))) else if x1 = 20 then (gd (chk g x0 10) <| ob (gR g x0 4) fun r34 => (gd (chk g r34 0) <| some ((dI d r34 8), d))) else if x1 = 21 then (gd (chk g x0 10) <| ob (gR g x0 4) fun r38 => (gd (chk g r38 0) <| some ((dI d r38 9), d))) else none
set_option maxHeartbeats 4000000 in
set_option maxRecDepth 100000 in
theorem tX11_setting_E {p : Program} {l : Launch} {e : Env} {s : State} {m : MethodId} {args : Array Value} {below : List Frame} {meth : Method} {c : Code} {D : va_G} {cy : Nat → ClassId} {B : Bs} (C : Cx p s m args c cX11_setting 2 RX11 D cy B) (hr : meth.sig.returnType = (some .int)) (hlocks : meth.locks = false) {N : Nat} {g : Gs} {x0 : Nat} {x1 : Int32} {vz : Int32} {dz : Ds} {d : Ds} (hf : fX11_setting N g x0 x1 d = some (vz, dz)) : WB p l e rmX11_setting s m args below meth c 2 D cy B 0 0 (MQ below (QI D cy B vz g dz) args s 0 0 (wA B)) g d [(0, .ref (ad B x0)), (1, .int x1)] 0 [] := by
  unfold fX11_setting at hf
  refine b_iload_n C dX11_setting_0 1 rfl rfl ?_
  by_cases c1 : x1.toInt < 13 ∨ 21 < x1.toInt
  · have hf := it_s c1 hf
    refine b_tabOut C (tgt := 140) dX11_setting_1 c1 (by decide) ?_
    refine b_iconst C (v := (-1)) dX11_setting_140 (by decide) ?_
    exact b_iret C hr hlocks hf dX11_setting_141
  · have hf := if_s c1 hf
    by_cases c2 : x1 = 13
    · have hf := it_s c2 hf
      refine b_tabIn C (tgt := 52) (off := 51) dX11_setting_1 c2 (by decide) (by decide) (by decide) (by decide) ?_
      refine b_aload_n C dX11_setting_52 0 rfl rfl ?_
      obtain ⟨h3, hf⟩ := gd_s hf
      obtain ⟨r4, er4, hf⟩ := ob_s hf
      refine b_gR C dX11_setting_53 fl_X11_30 h3 er4 ?_
      obtain ⟨h5, hf⟩ := gd_s hf
      refine b_gI C dX11_setting_56 fl_X11_288 h5 ?_
      refine b_if_eq C (tgt := 66) dX11_setting_59 (by decide) (fun c6 => ?_) (fun c6 => ?_)
      · have hf := it_s c6 hf
        refine b_iconst C (v := 0) dX11_setting_66 (by decide) ?_
        refine b_sub [(0, .ref (ad B x0)), (1, .int x1)] [0, 1] rfl ?_
        exact tX11_setting_67 C hr hlocks hf
      · have hf := if_s c6 hf
        refine b_iconst C (v := 1) dX11_setting_62 (by decide) ?_
        refine b_goto C (tgt := 67) dX11_setting_63 (by decide) ?_
        refine b_sub [(0, .ref (ad B x0)), (1, .int x1)] [0, 1] rfl ?_
        exact tX11_setting_67 C hr hlocks hf
    have hf := if_s c2 hf
    by_cases c7 : x1 = 14
    · have hf := it_s c7 hf
      refine b_tabIn C (tgt := 68) (off := 67) dX11_setting_1 c7 (by decide) (by decide) (by decide) (by decide) ?_
      refine b_aload_n C dX11_setting_68 0 rfl rfl ?_
      obtain ⟨h8, hf⟩ := gd_s hf
      obtain ⟨r9, er9, hf⟩ := ob_s hf
      refine b_gR C dX11_setting_69 fl_X11_30 h8 er9 ?_
      obtain ⟨h10, hf⟩ := gd_s hf
      refine b_gI C dX11_setting_72 fl_X11_292 h10 ?_
      refine b_if_eq C (tgt := 82) dX11_setting_75 (by decide) (fun c11 => ?_) (fun c11 => ?_)
      · have hf := it_s c11 hf
        refine b_iconst C (v := 0) dX11_setting_82 (by decide) ?_
        refine b_sub [(0, .ref (ad B x0)), (1, .int x1)] [0, 1] rfl ?_
        exact tX11_setting_83 C hr hlocks hf
      · have hf := if_s c11 hf
        refine b_iconst C (v := 1) dX11_setting_78 (by decide) ?_
        refine b_goto C (tgt := 83) dX11_setting_79 (by decide) ?_
        refine b_sub [(0, .ref (ad B x0)), (1, .int x1)] [0, 1] rfl ?_
        exact tX11_setting_83 C hr hlocks hf
    have hf := if_s c7 hf
    by_cases c12 : x1 = 15
    · have hf := it_s c12 hf
      refine b_tabIn C (tgt := 84) (off := 83) dX11_setting_1 c12 (by decide) (by decide) (by decide) (by decide) ?_
      refine b_aload_n C dX11_setting_84 0 rfl rfl ?_
      obtain ⟨h13, hf⟩ := gd_s hf
      obtain ⟨r14, er14, hf⟩ := ob_s hf
      refine b_gR C dX11_setting_85 fl_X11_30 h13 er14 ?_
      obtain ⟨h15, hf⟩ := gd_s hf
      refine b_gI C dX11_setting_88 fl_X11_295 h15 ?_
      exact b_iret C hr hlocks hf dX11_setting_91
    have hf := if_s c12 hf
    by_cases c16 : x1 = 16
    · have hf := it_s c16 hf
      refine b_tabIn C (tgt := 92) (off := 91) dX11_setting_1 c16 (by decide) (by decide) (by decide) (by decide) ?_
      refine b_aload_n C dX11_setting_92 0 rfl rfl ?_
      obtain ⟨h17, hf⟩ := gd_s hf
      obtain ⟨r18, er18, hf⟩ := ob_s hf
      refine b_gR C dX11_setting_93 fl_X11_30 h17 er18 ?_
      obtain ⟨h19, hf⟩ := gd_s hf
      refine b_gI C dX11_setting_96 fl_X11_298 h19 ?_
      exact b_iret C hr hlocks hf dX11_setting_99
    have hf := if_s c16 hf
    by_cases c20 : x1 = 17
    · have hf := it_s c20 hf
      refine b_tabIn C (tgt := 100) (off := 99) dX11_setting_1 c20 (by decide) (by decide) (by decide) (by decide) ?_
      refine b_aload_n C dX11_setting_100 0 rfl rfl ?_
      obtain ⟨h21, hf⟩ := gd_s hf
      obtain ⟨r22, er22, hf⟩ := ob_s hf
      refine b_gR C dX11_setting_101 fl_X11_30 h21 er22 ?_
      obtain ⟨h23, hf⟩ := gd_s hf
      refine b_gI C dX11_setting_104 fl_X11_301 h23 ?_
      exact b_iret C hr hlocks hf dX11_setting_107
    have hf := if_s c20 hf
    by_cases c24 : x1 = 18
    · have hf := it_s c24 hf
      refine b_tabIn C (tgt := 108) (off := 107) dX11_setting_1 c24 (by decide) (by decide) (by decide) (by decide) ?_
      refine b_aload_n C dX11_setting_108 0 rfl rfl ?_
      obtain ⟨h25, hf⟩ := gd_s hf
      obtain ⟨r26, er26, hf⟩ := ob_s hf
      refine b_gR C dX11_setting_109 fl_X11_30 h25 er26 ?_
      obtain ⟨h27, hf⟩ := gd_s hf
      refine b_gI C dX11_setting_112 fl_X11_304 h27 ?_
      exact b_iret C hr hlocks hf dX11_setting_115
    have hf := if_s c24 hf
    by_cases c28 : x1 = 19
    · have hf := it_s c28 hf
      refine b_tabIn C (tgt := 116) (off := 115) dX11_setting_1 c28 (by decide) (by decide) (by decide) (by decide) ?_
      refine b_aload_n C dX11_setting_116 0 rfl rfl ?_
      obtain ⟨h29, hf⟩ := gd_s hf
      obtain ⟨r30, er30, hf⟩ := ob_s hf
      refine b_gR C dX11_setting_117 fl_X11_30 h29 er30 ?_
      obtain ⟨h31, hf⟩ := gd_s hf
      refine b_gI C dX11_setting_120 fl_X11_252 h31 ?_
      exact b_iret C hr hlocks hf dX11_setting_123
    have hf := if_s c28 hf
    by_cases c32 : x1 = 20
    · have hf := it_s c32 hf
      refine b_tabIn C (tgt := 124) (off := 123) dX11_setting_1 c32 (by decide) (by decide) (by decide) (by decide) ?_
      refine b_aload_n C dX11_setting_124 0 rfl rfl ?_
      obtain ⟨h33, hf⟩ := gd_s hf
      obtain ⟨r34, er34, hf⟩ := ob_s hf
      refine b_gR C dX11_setting_125 fl_X11_30 h33 er34 ?_
      obtain ⟨h35, hf⟩ := gd_s hf
      refine b_gI C dX11_setting_128 fl_X11_307 h35 ?_
      exact b_iret C hr hlocks hf dX11_setting_131
    have hf := if_s c32 hf
    by_cases c36 : x1 = 21
    · have hf := it_s c36 hf
      refine b_tabIn C (tgt := 132) (off := 131) dX11_setting_1 c36 (by decide) (by decide) (by decide) (by decide) ?_
      refine b_aload_n C dX11_setting_132 0 rfl rfl ?_
      obtain ⟨h37, hf⟩ := gd_s hf
      obtain ⟨r38, er38, hf⟩ := ob_s hf
      refine b_gR C dX11_setting_133 fl_X11_30 h37 er38 ?_
      obtain ⟨h39, hf⟩ := gd_s hf
      refine b_gI C dX11_setting_136 fl_X11_310 h39 ?_
      exact b_iret C hr hlocks hf dX11_setting_139
    have hf := if_s c36 hf
    cases hf
theorem kX11_setting (l : Launch) (D : va_G) (cy : Nat → ClassId) (B : Bs) {N : Nat} {g : Gs} {x0 : Nat} {x1 : Int32} {vz : Int32} {dz : Ds} {d : Ds} (hf : fX11_setting N g x0 x1 d = some (vz, dz)) : Met l yX11_setting (.code yX11_setting cX11_setting 2 (some .int) :: wl) rmX11_setting (PC D cy B [.ref (ad B x0), .int x1] g d) (QI D cy B vz g dz) 0 0 (wA B) :=
  met_of (by decide +kernel) (Nat.le_of_ble_eq_true rfl) (fun p e s m args below meth c C hr hlocks _ => b_sub [(0, .ref (ad B x0)), (1, .int x1)] [0, 1] rfl (tX11_setting_E C hr hlocks hf))
/-! KeyMatrix.count(I)I -/
theorem yo_X11_setting : yX11_setting.cls ≠ "java/lang/invoke/MethodHandle" ∧ yX11_setting.cls ≠ "java/lang/invoke/VarHandle" ∧ (parseMethodDescriptor yX11_setting.desc).map (fun d => d.parameters.length) = some 1 := by decide +kernel
theorem co_X11_setting : Cond.code yX11_setting cX11_setting 2 (some .int) ∈ wl := mW (mT5 (List.mem_of_getElem? (i := 71) (by decide +kernel))) rfl
theorem in_X11_setting : Cond.initialized yX11_setting.cls ∈ wl := mW (mT1 (List.mem_of_getElem? (i := 1) (by decide +kernel))) rfl
theorem im_X11_setting : Cond.instanceMethod yX11_setting ∈ wl := mW (mT5 (List.mem_of_getElem? (i := 70) (by decide +kernel))) rfl
theorem se_X11_setting : Cond.selects yX11_setting.cls yX11_setting yX11_setting ∈ wl := mW (mT0 (List.mem_of_getElem? (i := 30) (by decide +kernel))) rfl
theorem lv_X11_285 : LV RX11 285 yX11_setting cX11_setting 2 (some .int) 1 10 := ⟨⟨(RX11, TX11, 10), rfl, rfl⟩, yo_X11_setting, mW (mT5 (List.mem_of_getElem? (i := 68) (by decide +kernel))) rfl, im_X11_setting, se_X11_setting, in_X11_setting, co_X11_setting⟩
theorem fl_X11_272 : FLI RX11 272 0 0 := ⟨⟨RX0, TX0, 19, rfl, by decide, inl0, Or.inr (mT1 (List.mem_of_getElem? (i := 111) (by decide +kernel)))⟩, by decide, by decide +kernel⟩
theorem fl_X11_275 : FLI RX11 275 0 1 := ⟨⟨RX0, TX0, 19, rfl, by decide, inl0, Or.inr (mT1 (List.mem_of_getElem? (i := 115) (by decide +kernel)))⟩, by decide, by decide +kernel⟩
theorem fl_X11_278 : FLI RX11 278 1 5 := ⟨⟨RX1, TX1, 6, rfl, by decide, inl1, Or.inr (mT2 (List.mem_of_getElem? (i := 215) (by decide +kernel)))⟩, by decide, by decide +kernel⟩
theorem fl_X11_281 : FLI RX11 281 3 5 := ⟨⟨RX3, TX3, 9, rfl, by decide, inl3, Or.inr (mT2 (List.mem_of_getElem? (i := 110) (by decide +kernel)))⟩, by decide, by decide +kernel⟩
theorem fl_X11_284 : FLI RX11 284 4 2 := ⟨⟨RX4, TX4, 3, rfl, by decide, inl4, Or.inr (mT2 (List.mem_of_getElem? (i := 84) (by decide +kernel)))⟩, by decide, by decide +kernel⟩
theorem dX11_count_0 : decode cX11_count 0 = .ok (.iload_n 1, 1) := by decide +kernel
theorem dX11_count_1 : decode cX11_count 1 = .ok (.tableswitch 189 0 12 #[67, 75, 83, 91, 102, 110, 121, 132, 143, 154, 165, 176, 181], 67) := by decide +kernel
theorem dX11_count_68 : decode cX11_count 68 = .ok (.aload_n 0, 1) := by decide +kernel
theorem dX11_count_69 : decode cX11_count 69 = .ok (.getfield 30, 3) := by decide +kernel
theorem dX11_count_72 : decode cX11_count 72 = .ok (.getfield 272, 3) := by decide +kernel
theorem dX11_count_75 : decode cX11_count 75 = .ok (.ireturn, 1) := by decide +kernel
theorem dX11_count_76 : decode cX11_count 76 = .ok (.aload_n 0, 1) := by decide +kernel
theorem dX11_count_77 : decode cX11_count 77 = .ok (.getfield 30, 3) := by decide +kernel
theorem dX11_count_80 : decode cX11_count 80 = .ok (.getfield 275, 3) := by decide +kernel
theorem dX11_count_83 : decode cX11_count 83 = .ok (.ireturn, 1) := by decide +kernel
theorem dX11_count_84 : decode cX11_count 84 = .ok (.aload_n 0, 1) := by decide +kernel
theorem dX11_count_85 : decode cX11_count 85 = .ok (.getfield 46, 3) := by decide +kernel
theorem dX11_count_88 : decode cX11_count 88 = .ok (.getfield 278, 3) := by decide +kernel
theorem dX11_count_91 : decode cX11_count 91 = .ok (.ireturn, 1) := by decide +kernel
theorem dX11_count_92 : decode cX11_count 92 = .ok (.aload_n 0, 1) := by decide +kernel
theorem dX11_count_93 : decode cX11_count 93 = .ok (.getfield 46, 3) := by decide +kernel
theorem dX11_count_96 : decode cX11_count 96 = .ok (.getfield 111, 3) := by decide +kernel
theorem dX11_count_99 : decode cX11_count 99 = .ok (.getfield 115, 3) := by decide +kernel
theorem dX11_count_102 : decode cX11_count 102 = .ok (.ireturn, 1) := by decide +kernel
theorem dX11_count_103 : decode cX11_count 103 = .ok (.aload_n 0, 1) := by decide +kernel
theorem dX11_count_104 : decode cX11_count 104 = .ok (.getfield 46, 3) := by decide +kernel
theorem dX11_count_107 : decode cX11_count 107 = .ok (.invokevirtual 142, 3) := by decide +kernel
theorem dX11_count_110 : decode cX11_count 110 = .ok (.ireturn, 1) := by decide +kernel
theorem dX11_count_111 : decode cX11_count 111 = .ok (.aload_n 0, 1) := by decide +kernel
theorem dX11_count_112 : decode cX11_count 112 = .ok (.getfield 46, 3) := by decide +kernel
theorem dX11_count_115 : decode cX11_count 115 = .ok (.getfield 163, 3) := by decide +kernel
theorem dX11_count_118 : decode cX11_count 118 = .ok (.getfield 281, 3) := by decide +kernel
theorem dX11_count_121 : decode cX11_count 121 = .ok (.ireturn, 1) := by decide +kernel
theorem dX11_count_122 : decode cX11_count 122 = .ok (.aload_n 0, 1) := by decide +kernel
theorem dX11_count_123 : decode cX11_count 123 = .ok (.getfield 46, 3) := by decide +kernel
theorem dX11_count_126 : decode cX11_count 126 = .ok (.getfield 78, 3) := by decide +kernel
theorem dX11_count_129 : decode cX11_count 129 = .ok (.getfield 127, 3) := by decide +kernel
theorem dX11_count_132 : decode cX11_count 132 = .ok (.ireturn, 1) := by decide +kernel
theorem dX11_count_133 : decode cX11_count 133 = .ok (.aload_n 0, 1) := by decide +kernel
theorem dX11_count_134 : decode cX11_count 134 = .ok (.getfield 46, 3) := by decide +kernel
theorem dX11_count_137 : decode cX11_count 137 = .ok (.getfield 78, 3) := by decide +kernel
theorem dX11_count_140 : decode cX11_count 140 = .ok (.getfield 86, 3) := by decide +kernel
theorem dX11_count_143 : decode cX11_count 143 = .ok (.ireturn, 1) := by decide +kernel
theorem dX11_count_144 : decode cX11_count 144 = .ok (.aload_n 0, 1) := by decide +kernel
theorem dX11_count_145 : decode cX11_count 145 = .ok (.getfield 46, 3) := by decide +kernel
theorem dX11_count_148 : decode cX11_count 148 = .ok (.getfield 78, 3) := by decide +kernel
theorem dX11_count_151 : decode cX11_count 151 = .ok (.getfield 102, 3) := by decide +kernel
theorem dX11_count_154 : decode cX11_count 154 = .ok (.ireturn, 1) := by decide +kernel
theorem dX11_count_155 : decode cX11_count 155 = .ok (.aload_n 0, 1) := by decide +kernel
theorem dX11_count_156 : decode cX11_count 156 = .ok (.getfield 46, 3) := by decide +kernel
theorem dX11_count_159 : decode cX11_count 159 = .ok (.getfield 78, 3) := by decide +kernel
theorem dX11_count_162 : decode cX11_count 162 = .ok (.getfield 106, 3) := by decide +kernel
theorem dX11_count_165 : decode cX11_count 165 = .ok (.ireturn, 1) := by decide +kernel
theorem dX11_count_166 : decode cX11_count 166 = .ok (.aload_n 0, 1) := by decide +kernel
theorem dX11_count_167 : decode cX11_count 167 = .ok (.getfield 46, 3) := by decide +kernel
theorem dX11_count_170 : decode cX11_count 170 = .ok (.getfield 174, 3) := by decide +kernel
theorem dX11_count_173 : decode cX11_count 173 = .ok (.getfield 284, 3) := by decide +kernel
theorem dX11_count_176 : decode cX11_count 176 = .ok (.ireturn, 1) := by decide +kernel
theorem dX11_count_177 : decode cX11_count 177 = .ok (.aload_n 0, 1) := by decide +kernel
theorem dX11_count_178 : decode cX11_count 178 = .ok (.getfield 13, 3) := by decide +kernel
theorem dX11_count_181 : decode cX11_count 181 = .ok (.ireturn, 1) := by decide +kernel
theorem dX11_count_182 : decode cX11_count 182 = .ok (.aload_n 0, 1) := by decide +kernel
theorem dX11_count_183 : decode cX11_count 183 = .ok (.getfield 57, 3) := by decide +kernel
theorem dX11_count_186 : decode cX11_count 186 = .ok (.invokestatic 261, 3) := by decide +kernel
theorem dX11_count_189 : decode cX11_count 189 = .ok (.ireturn, 1) := by decide +kernel
theorem dX11_count_190 : decode cX11_count 190 = .ok (.aload_n 0, 1) := by decide +kernel
theorem dX11_count_191 : decode cX11_count 191 = .ok (.iload_n 1, 1) := by decide +kernel
theorem dX11_count_192 : decode cX11_count 192 = .ok (.invokevirtual 285, 3) := by decide +kernel
theorem dX11_count_195 : decode cX11_count 195 = .ok (.ireturn, 1) := by decide +kernel
def rmX11_count : Room := { frames := 2, cells := 0, slots := 0, locals := 43 }
set_option maxRecDepth 100000 in
def fX11_count (N : Nat) (g : Gs) (x0 : Nat) (x1 : Int32) (d : Ds) : Option (Int32 × Ds) := if x1.toInt < 0 ∨ 12 < x1.toInt then (gd (chk g x0 10) <| cb (fX11_setting N g x0 x1 d) fun u5 d3 => (some (u5, d3))) else if x1 = 0 then (gd (chk g x0 10) <| ob (gR g x0 4) fun r8 => (gd (chk g r8 0) <| some ((dI d r8 0), d))) else if x1 = 1 then (gd (chk g x0 10) <| ob (gR g x0 4) fun r12 => (gd (chk g r12 0) <| some ((dI d r12 1), d))) else if x1 = 2 then (gd (chk g x0 10) <| ob (gR g x0 6) fun r16 => (gd (chk g r16 1) <| some ((dI d r16 5), d))) else if x1 = 3 then (gd (chk g x0 10) <| ob (gR g x0 6) fun r20 => (gd (chk g r20 1) <| ob (gR g r20 4) fun r22 => (gd (chk g r22 5) <| some ((dI d r22 4), d)))) else if x1 = 4 then (gd (chk g x0 10) <| ob (gR g x0 6) fun r26 => (gd (chk g r26 1) <| cb (fX1_activeLayers N g r26 d) fun u30 d28 => (some (u30, d28)))) else if x1 = 5 then (gd (chk g x0 10) <| ob (gR g x0 6) fun r33 => (gd (chk g r33 1) <| ob (gR g r33 3) fun r35 => (gd (chk g r35 3) <| some ((dI d r35 5), d)))) else if x1 = 6 then (gd (chk g x0 10) <| ob (gR g x0 6) fun r39 => (gd (chk g r39 1) <| ob (gR g r39 1) fun r41 => (gd (chk g r41 6) <| some ((dI d r41 3), d)))) else if x1 = 7 then (gd (chk g x0 10) <| ob (gR g x0 6) fun r45 => (gd (chk g r45 1) <| ob (gR g r45 1) fun r47 => (gd (chk g r47 6) <| some ((dI d r47 0), d)))) else if x1 = 8 then (gd (chk g x0 10) <| ob (gR g x0 6) fun r51 => (gd (chk g r51 1) <| ob (gR g r51 1) fun r53 => (gd (chk g r53 6) <| some ((dI d r53 1), d)))) else if x1 = 9 then (gd (chk g x0 10) <| ob (gR g x0 6) fun r57 => (gd (chk g r57 1) <| ob (gR g r57 1) fun r59 => (gd (chk g r59 6) <| some ((dI d r59 2), d)))) else if x1 = 10 then (gd (chk g x0 10) <| ob (gR g x0 6) fun r63 => (gd (chk g r63 1) <| ob (gR g r63 2) fun r65 => (gd (chk g r65 4) <| some ((dI d r65 2), d)))) else if x1 = 11 then (gd (chk g x0 10) <| some ((dI d x0 1), d)) else if x1 = 12 then (gd (chk g x0 10) <| cb (fJ6_bitCount_0f7a4 N g (dI d x0 9) d) fun u73 d71 => (some (u73, d71))) else none
set_option maxHeartbeats 4000000 in
set_option maxRecDepth 100000 in
theorem tX11_count_E {p : Program} {l : Launch} {e : Env} {s : State} {m : MethodId} {args : Array Value} {below : List Frame} {meth : Method} {c : Code} {D : va_G} {cy : Nat → ClassId} {B : Bs} (C : Cx p s m args c cX11_count 2 RX11 D cy B) (hr : meth.sig.returnType = (some .int)) (hlocks : meth.locks = false) {N : Nat} {g : Gs} {x0 : Nat} {x1 : Int32} {vz : Int32} {dz : Ds} {d : Ds} (hf : fX11_count N g x0 x1 d = some (vz, dz)) : WB p l e rmX11_count s m args below meth c 2 D cy B 0 0 (MQ below (QI D cy B vz g dz) args s 0 0 (wA B)) g d [(0, .ref (ad B x0)), (1, .int x1)] 0 [] := by
  unfold fX11_count at hf
  refine b_iload_n C dX11_count_0 1 rfl rfl ?_
  by_cases c1 : x1.toInt < 0 ∨ 12 < x1.toInt
  · have hf := it_s c1 hf
    refine b_tabOut C (tgt := 190) dX11_count_1 c1 (by decide) ?_
    refine b_aload_n C dX11_count_190 0 rfl rfl ?_
    refine b_iload_n C dX11_count_191 1 rfl rfl ?_
    obtain ⟨h2, hf⟩ := gd_s hf
    obtain ⟨u5, d3, k4, hf⟩ := cb_s hf
    refine b_cVI C [] dX11_count_192 (kX11_setting l D cy B k4) lv_X11_285 ⟨rfl, rfl, Nat.le_of_ble_eq_true rfl, Nat.le_of_ble_eq_true rfl⟩ h2 (by decide) rfl (Nat.le_of_ble_eq_true rfl) ⟨Nat.zero_le _, Nat.zero_le _⟩ rfl ?_
    exact b_iret C hr hlocks hf dX11_count_195
  · have hf := if_s c1 hf
    by_cases c6 : x1 = 0
    · have hf := it_s c6 hf
      refine b_tabIn C (tgt := 68) (off := 67) dX11_count_1 c6 (by decide) (by decide) (by decide) (by decide) ?_
      refine b_aload_n C dX11_count_68 0 rfl rfl ?_
      obtain ⟨h7, hf⟩ := gd_s hf
      obtain ⟨r8, er8, hf⟩ := ob_s hf
      refine b_gR C dX11_count_69 fl_X11_30 h7 er8 ?_
      obtain ⟨h9, hf⟩ := gd_s hf
      refine b_gI C dX11_count_72 fl_X11_272 h9 ?_
      exact b_iret C hr hlocks hf dX11_count_75
    have hf := if_s c6 hf
    by_cases c10 : x1 = 1
    · have hf := it_s c10 hf
      refine b_tabIn C (tgt := 76) (off := 75) dX11_count_1 c10 (by decide) (by decide) (by decide) (by decide) ?_
      refine b_aload_n C dX11_count_76 0 rfl rfl ?_
      obtain ⟨h11, hf⟩ := gd_s hf
      obtain ⟨r12, er12, hf⟩ := ob_s hf
      refine b_gR C dX11_count_77 fl_X11_30 h11 er12 ?_
      obtain ⟨h13, hf⟩ := gd_s hf
      refine b_gI C dX11_count_80 fl_X11_275 h13 ?_
      exact b_iret C hr hlocks hf dX11_count_83
    have hf := if_s c10 hf
    by_cases c14 : x1 = 2
    · have hf := it_s c14 hf
      refine b_tabIn C (tgt := 84) (off := 83) dX11_count_1 c14 (by decide) (by decide) (by decide) (by decide) ?_
      refine b_aload_n C dX11_count_84 0 rfl rfl ?_
      obtain ⟨h15, hf⟩ := gd_s hf
      obtain ⟨r16, er16, hf⟩ := ob_s hf
      refine b_gR C dX11_count_85 fl_X11_46 h15 er16 ?_
      obtain ⟨h17, hf⟩ := gd_s hf
      refine b_gI C dX11_count_88 fl_X11_278 h17 ?_
      exact b_iret C hr hlocks hf dX11_count_91
    have hf := if_s c14 hf
    by_cases c18 : x1 = 3
    · have hf := it_s c18 hf
      refine b_tabIn C (tgt := 92) (off := 91) dX11_count_1 c18 (by decide) (by decide) (by decide) (by decide) ?_
      refine b_aload_n C dX11_count_92 0 rfl rfl ?_
      obtain ⟨h19, hf⟩ := gd_s hf
      obtain ⟨r20, er20, hf⟩ := ob_s hf
      refine b_gR C dX11_count_93 fl_X11_46 h19 er20 ?_
      obtain ⟨h21, hf⟩ := gd_s hf
      obtain ⟨r22, er22, hf⟩ := ob_s hf
      refine b_gR C dX11_count_96 fl_X11_111 h21 er22 ?_
      obtain ⟨h23, hf⟩ := gd_s hf
      refine b_gI C dX11_count_99 fl_X11_115 h23 ?_
      exact b_iret C hr hlocks hf dX11_count_102
    have hf := if_s c18 hf
    by_cases c24 : x1 = 4
    · have hf := it_s c24 hf
      refine b_tabIn C (tgt := 103) (off := 102) dX11_count_1 c24 (by decide) (by decide) (by decide) (by decide) ?_
      refine b_aload_n C dX11_count_103 0 rfl rfl ?_
      obtain ⟨h25, hf⟩ := gd_s hf
      obtain ⟨r26, er26, hf⟩ := ob_s hf
      refine b_gR C dX11_count_104 fl_X11_46 h25 er26 ?_
      obtain ⟨h27, hf⟩ := gd_s hf
      obtain ⟨u30, d28, k29, hf⟩ := cb_s hf
      refine b_cVI C [] dX11_count_107 (kX1_activeLayers l D cy B k29) lv_X11_142 ⟨rfl, rfl, Nat.le_of_ble_eq_true rfl, Nat.le_of_ble_eq_true rfl⟩ h27 (by decide) rfl (Nat.le_of_ble_eq_true rfl) ⟨Nat.zero_le _, Nat.zero_le _⟩ rfl ?_
      exact b_iret C hr hlocks hf dX11_count_110
    have hf := if_s c24 hf
    by_cases c31 : x1 = 5
    · have hf := it_s c31 hf
      refine b_tabIn C (tgt := 111) (off := 110) dX11_count_1 c31 (by decide) (by decide) (by decide) (by decide) ?_
      refine b_aload_n C dX11_count_111 0 rfl rfl ?_
      obtain ⟨h32, hf⟩ := gd_s hf
      obtain ⟨r33, er33, hf⟩ := ob_s hf
      refine b_gR C dX11_count_112 fl_X11_46 h32 er33 ?_
      obtain ⟨h34, hf⟩ := gd_s hf
      obtain ⟨r35, er35, hf⟩ := ob_s hf
      refine b_gR C dX11_count_115 fl_X11_163 h34 er35 ?_
      obtain ⟨h36, hf⟩ := gd_s hf
      refine b_gI C dX11_count_118 fl_X11_281 h36 ?_
      exact b_iret C hr hlocks hf dX11_count_121
    have hf := if_s c31 hf
    by_cases c37 : x1 = 6
    · have hf := it_s c37 hf
      refine b_tabIn C (tgt := 122) (off := 121) dX11_count_1 c37 (by decide) (by decide) (by decide) (by decide) ?_
      refine b_aload_n C dX11_count_122 0 rfl rfl ?_
      obtain ⟨h38, hf⟩ := gd_s hf
      obtain ⟨r39, er39, hf⟩ := ob_s hf
      refine b_gR C dX11_count_123 fl_X11_46 h38 er39 ?_
      obtain ⟨h40, hf⟩ := gd_s hf
      obtain ⟨r41, er41, hf⟩ := ob_s hf
      refine b_gR C dX11_count_126 fl_X11_78 h40 er41 ?_
      obtain ⟨h42, hf⟩ := gd_s hf
      refine b_gI C dX11_count_129 fl_X11_127 h42 ?_
      exact b_iret C hr hlocks hf dX11_count_132
    have hf := if_s c37 hf
    by_cases c43 : x1 = 7
    · have hf := it_s c43 hf
      refine b_tabIn C (tgt := 133) (off := 132) dX11_count_1 c43 (by decide) (by decide) (by decide) (by decide) ?_
      refine b_aload_n C dX11_count_133 0 rfl rfl ?_
      obtain ⟨h44, hf⟩ := gd_s hf
      obtain ⟨r45, er45, hf⟩ := ob_s hf
      refine b_gR C dX11_count_134 fl_X11_46 h44 er45 ?_
      obtain ⟨h46, hf⟩ := gd_s hf
      obtain ⟨r47, er47, hf⟩ := ob_s hf
      refine b_gR C dX11_count_137 fl_X11_78 h46 er47 ?_
      obtain ⟨h48, hf⟩ := gd_s hf
      refine b_gI C dX11_count_140 fl_X11_86 h48 ?_
      exact b_iret C hr hlocks hf dX11_count_143
    have hf := if_s c43 hf
    by_cases c49 : x1 = 8
    · have hf := it_s c49 hf
      refine b_tabIn C (tgt := 144) (off := 143) dX11_count_1 c49 (by decide) (by decide) (by decide) (by decide) ?_
      refine b_aload_n C dX11_count_144 0 rfl rfl ?_
      obtain ⟨h50, hf⟩ := gd_s hf
      obtain ⟨r51, er51, hf⟩ := ob_s hf
      refine b_gR C dX11_count_145 fl_X11_46 h50 er51 ?_
      obtain ⟨h52, hf⟩ := gd_s hf
      obtain ⟨r53, er53, hf⟩ := ob_s hf
      refine b_gR C dX11_count_148 fl_X11_78 h52 er53 ?_
      obtain ⟨h54, hf⟩ := gd_s hf
      refine b_gI C dX11_count_151 fl_X11_102 h54 ?_
      exact b_iret C hr hlocks hf dX11_count_154
    have hf := if_s c49 hf
    by_cases c55 : x1 = 9
    · have hf := it_s c55 hf
      refine b_tabIn C (tgt := 155) (off := 154) dX11_count_1 c55 (by decide) (by decide) (by decide) (by decide) ?_
      refine b_aload_n C dX11_count_155 0 rfl rfl ?_
      obtain ⟨h56, hf⟩ := gd_s hf
      obtain ⟨r57, er57, hf⟩ := ob_s hf
      refine b_gR C dX11_count_156 fl_X11_46 h56 er57 ?_
      obtain ⟨h58, hf⟩ := gd_s hf
      obtain ⟨r59, er59, hf⟩ := ob_s hf
      refine b_gR C dX11_count_159 fl_X11_78 h58 er59 ?_
      obtain ⟨h60, hf⟩ := gd_s hf
      refine b_gI C dX11_count_162 fl_X11_106 h60 ?_
      exact b_iret C hr hlocks hf dX11_count_165
    have hf := if_s c55 hf
    by_cases c61 : x1 = 10
    · have hf := it_s c61 hf
      refine b_tabIn C (tgt := 166) (off := 165) dX11_count_1 c61 (by decide) (by decide) (by decide) (by decide) ?_
      refine b_aload_n C dX11_count_166 0 rfl rfl ?_
      obtain ⟨h62, hf⟩ := gd_s hf
      obtain ⟨r63, er63, hf⟩ := ob_s hf
      refine b_gR C dX11_count_167 fl_X11_46 h62 er63 ?_
      obtain ⟨h64, hf⟩ := gd_s hf
      obtain ⟨r65, er65, hf⟩ := ob_s hf
      refine b_gR C dX11_count_170 fl_X11_174 h64 er65 ?_
      obtain ⟨h66, hf⟩ := gd_s hf
      refine b_gI C dX11_count_173 fl_X11_284 h66 ?_
      exact b_iret C hr hlocks hf dX11_count_176
    have hf := if_s c61 hf
    by_cases c67 : x1 = 11
    · have hf := it_s c67 hf
      refine b_tabIn C (tgt := 177) (off := 176) dX11_count_1 c67 (by decide) (by decide) (by decide) (by decide) ?_
      refine b_aload_n C dX11_count_177 0 rfl rfl ?_
      obtain ⟨h68, hf⟩ := gd_s hf
      refine b_gI C dX11_count_178 fl_X11_13 h68 ?_
      exact b_iret C hr hlocks hf dX11_count_181
    have hf := if_s c67 hf
    by_cases c69 : x1 = 12
    · have hf := it_s c69 hf
      refine b_tabIn C (tgt := 182) (off := 181) dX11_count_1 c69 (by decide) (by decide) (by decide) (by decide) ?_
      refine b_aload_n C dX11_count_182 0 rfl rfl ?_
      obtain ⟨h70, hf⟩ := gd_s hf
      refine b_gI C dX11_count_183 fl_X11_57 h70 ?_
      obtain ⟨u73, d71, k72, hf⟩ := cb_s hf
      refine b_cSI C [] dX11_count_186 (kJ6_bitCount_0f7a4 l D cy B k72) lv_X11_261 ⟨rfl, rfl, Nat.le_of_ble_eq_true rfl, Nat.le_of_ble_eq_true rfl⟩ rfl (Nat.le_of_ble_eq_true rfl) ⟨Nat.zero_le _, Nat.zero_le _⟩ rfl ?_
      exact b_iret C hr hlocks hf dX11_count_189
    have hf := if_s c69 hf
    cases hf
theorem kX11_count (l : Launch) (D : va_G) (cy : Nat → ClassId) (B : Bs) {N : Nat} {g : Gs} {x0 : Nat} {x1 : Int32} {vz : Int32} {dz : Ds} {d : Ds} (hf : fX11_count N g x0 x1 d = some (vz, dz)) : Met l yX11_count (.code yX11_count cX11_count 2 (some .int) :: wl) rmX11_count (PC D cy B [.ref (ad B x0), .int x1] g d) (QI D cy B vz g dz) 0 0 (wA B) :=
  met_of (by decide +kernel) (Nat.le_of_ble_eq_true rfl) (fun p e s m args below meth c C hr hlocks _ => b_sub [(0, .ref (ad B x0)), (1, .int x1)] [0, 1] rfl (tX11_count_E C hr hlocks hf))
/-! KeyMatrixModel.appends(JI)J -/
theorem ct_X12_100 : Cond.constantLong RX12 100 27 ∈ wl := mW (mT5 (List.mem_of_getElem? (i := 84) (by decide +kernel))) rfl
theorem dX12_appends_0 : decode cX12_appends 0 = .ok (.iload_n 2, 1) := by decide +kernel
theorem dX12_appends_1 : decode cX12_appends 1 = .ok (.ifCond .ne 7, 3) := by decide +kernel
theorem dX12_appends_4 : decode cX12_appends 4 = .ok (.lload_n 0, 1) := by decide +kernel
theorem dX12_appends_5 : decode cX12_appends 5 = .ok (.goto 16, 3) := by decide +kernel
theorem dX12_appends_8 : decode cX12_appends 8 = .ok (.ldc2_w 100, 3) := by decide +kernel
theorem dX12_appends_11 : decode cX12_appends 11 = .ok (.lload_n 0, 1) := by decide +kernel
theorem dX12_appends_12 : decode cX12_appends 12 = .ok (.lmul, 1) := by decide +kernel
theorem dX12_appends_13 : decode cX12_appends 13 = .ok (.iload_n 2, 1) := by decide +kernel
theorem dX12_appends_14 : decode cX12_appends 14 = .ok (.bipush 97, 2) := by decide +kernel
theorem dX12_appends_16 : decode cX12_appends 16 = .ok (.isub, 1) := by decide +kernel
theorem dX12_appends_17 : decode cX12_appends 17 = .ok (.iconst 1, 1) := by decide +kernel
theorem dX12_appends_18 : decode cX12_appends 18 = .ok (.iadd, 1) := by decide +kernel
theorem dX12_appends_19 : decode cX12_appends 19 = .ok (.i2l, 1) := by decide +kernel
theorem dX12_appends_20 : decode cX12_appends 20 = .ok (.ladd, 1) := by decide +kernel
theorem dX12_appends_21 : decode cX12_appends 21 = .ok (.lreturn, 1) := by decide +kernel
def rmX12_appends : Room := { frames := 0, cells := 0, slots := 0, locals := 0 }
set_option maxRecDepth 100000 in
def fX12_appends_J21 (N : Nat) (g : Gs) (x0 : Int64) (x2 : Int32) (z0 : Int64) (d : Ds) : Option (Int64 × Ds) := some (z0, d)
set_option maxHeartbeats 4000000 in
set_option maxRecDepth 100000 in
theorem tX12_appends_21 {p : Program} {l : Launch} {e : Env} {s : State} {m : MethodId} {args : Array Value} {below : List Frame} {meth : Method} {c : Code} {D : va_G} {cy : Nat → ClassId} {B : Bs} (C : Cx p s m args c cX12_appends 3 RX12 D cy B) (hr : meth.sig.returnType = (some .long)) (hlocks : meth.locks = false) {N : Nat} {g : Gs} {x0 : Int64} {x2 : Int32} {vz : Int64} {dz : Ds} {z0 : Int64} {d : Ds} (hf : fX12_appends_J21 N g x0 x2 z0 d = some (vz, dz)) : WB p l e rmX12_appends s m args below meth c 3 D cy B 0 0 (MQ below (QJ D cy B vz g dz) args s 0 0 (wA B)) g d [(0, .long x0), (2, .int x2)] 21 [.long z0] := by
  unfold fX12_appends_J21 at hf
  exact b_lret C hr hlocks hf dX12_appends_21
set_option maxRecDepth 100000 in
def fX12_appends (N : Nat) (g : Gs) (x0 : Int64) (x2 : Int32) (d : Ds) : Option (Int64 × Ds) := if x2 = 0 then (fX12_appends_J21 N g x0 x2 x0 d) else (fX12_appends_J21 N g x0 x2 ((27 * x0) + (((x2 - 97) + 1).toInt64)) d)
set_option maxHeartbeats 4000000 in
set_option maxRecDepth 100000 in
theorem tX12_appends_E {p : Program} {l : Launch} {e : Env} {s : State} {m : MethodId} {args : Array Value} {below : List Frame} {meth : Method} {c : Code} {D : va_G} {cy : Nat → ClassId} {B : Bs} (C : Cx p s m args c cX12_appends 3 RX12 D cy B) (hr : meth.sig.returnType = (some .long)) (hlocks : meth.locks = false) {N : Nat} {g : Gs} {x0 : Int64} {x2 : Int32} {vz : Int64} {dz : Ds} {d : Ds} (hf : fX12_appends N g x0 x2 d = some (vz, dz)) : WB p l e rmX12_appends s m args below meth c 3 D cy B 0 0 (MQ below (QJ D cy B vz g dz) args s 0 0 (wA B)) g d [(0, .long x0), (2, .int x2)] 0 [] := by
  unfold fX12_appends at hf
  refine b_iload_n C dX12_appends_0 1 rfl rfl ?_
  refine b_if_ne C (tgt := 8) dX12_appends_1 (by decide) (fun c1 => ?_) (fun c1 => ?_)
  · have hf := if_s c1 hf
    refine b_ldc2 C ct_X12_100 dX12_appends_8 ?_
    refine b_lload_n C dX12_appends_11 0 rfl rfl ?_
    refine b_lmul C dX12_appends_12 ?_
    refine b_iload_n C dX12_appends_13 1 rfl rfl ?_
    refine b_bipush C (v := 97) dX12_appends_14 (by decide) ?_
    refine b_isub C dX12_appends_16 ?_
    refine b_iconst C (v := 1) dX12_appends_17 (by decide) ?_
    refine b_iadd C dX12_appends_18 ?_
    refine b_i2l C dX12_appends_19 ?_
    refine b_ladd C dX12_appends_20 ?_
    refine b_sub [(0, .long x0), (2, .int x2)] [0, 1] rfl ?_
    exact tX12_appends_21 C hr hlocks hf
  · have hf := it_s c1 hf
    refine b_lload_n C dX12_appends_4 0 rfl rfl ?_
    refine b_goto C (tgt := 21) dX12_appends_5 (by decide) ?_
    refine b_sub [(0, .long x0), (2, .int x2)] [0, 1] rfl ?_
    exact tX12_appends_21 C hr hlocks hf
theorem kX12_appends (l : Launch) (D : va_G) (cy : Nat → ClassId) (B : Bs) {N : Nat} {g : Gs} {x0 : Int64} {x2 : Int32} {vz : Int64} {dz : Ds} {d : Ds} (hf : fX12_appends N g x0 x2 d = some (vz, dz)) : Met l yX12_appends (.code yX12_appends cX12_appends 3 (some .long) :: wl) rmX12_appends (PC D cy B [.long x0, .int x2] g d) (QJ D cy B vz g dz) 0 0 (wA B) :=
  met_of (by decide +kernel) (Nat.le_of_ble_eq_true rfl) (fun p e s m args below meth c C hr hlocks _ => b_sub [(0, .long x0), (2, .int x2)] [0, 1] rfl (tX12_appends_E C hr hlocks hf))
/-! KeyMatrixModel.letters(IIIIIII)J -/
theorem yo_X12_appends : yX12_appends.cls ≠ "java/lang/invoke/MethodHandle" ∧ yX12_appends.cls ≠ "java/lang/invoke/VarHandle" ∧ (parseMethodDescriptor yX12_appends.desc).map (fun d => d.parameters.length) = some 2 := by decide +kernel
theorem co_X12_appends : Cond.code yX12_appends cX12_appends 3 (some .long) ∈ wl := mW (mT5 (List.mem_of_getElem? (i := 83) (by decide +kernel))) rfl
theorem in_X12_appends : Cond.initialized yX12_appends.cls ∈ wl := mW (mT1 (List.mem_of_getElem? (i := 12) (by decide +kernel))) rfl
theorem st_X12_appends : Cond.static yX12_appends ∈ wl := mW (mT5 (List.mem_of_getElem? (i := 82) (by decide +kernel))) rfl
theorem lv_X12_79 : LSt RX12 79 yX12_appends cX12_appends 3 (some .long) 2 := ⟨yo_X12_appends, Or.inl (mW (mT5 (List.mem_of_getElem? (i := 81) (by decide +kernel))) rfl), st_X12_appends, in_X12_appends, co_X12_appends⟩
theorem dX12_letters_0 : decode cX12_letters 0 = .ok (.lconst 0, 1) := by decide +kernel
theorem dX12_letters_1 : decode cX12_letters 1 = .ok (.iload_n 0, 1) := by decide +kernel
theorem dX12_letters_2 : decode cX12_letters 2 = .ok (.invokestatic 79, 3) := by decide +kernel
theorem dX12_letters_5 : decode cX12_letters 5 = .ok (.iload_n 1, 1) := by decide +kernel
theorem dX12_letters_6 : decode cX12_letters 6 = .ok (.invokestatic 79, 3) := by decide +kernel
theorem dX12_letters_9 : decode cX12_letters 9 = .ok (.iload_n 2, 1) := by decide +kernel
theorem dX12_letters_10 : decode cX12_letters 10 = .ok (.invokestatic 79, 3) := by decide +kernel
theorem dX12_letters_13 : decode cX12_letters 13 = .ok (.iload_n 3, 1) := by decide +kernel
theorem dX12_letters_14 : decode cX12_letters 14 = .ok (.invokestatic 79, 3) := by decide +kernel
theorem dX12_letters_17 : decode cX12_letters 17 = .ok (.iload 4, 2) := by decide +kernel
theorem dX12_letters_19 : decode cX12_letters 19 = .ok (.invokestatic 79, 3) := by decide +kernel
theorem dX12_letters_22 : decode cX12_letters 22 = .ok (.iload 5, 2) := by decide +kernel
theorem dX12_letters_24 : decode cX12_letters 24 = .ok (.invokestatic 79, 3) := by decide +kernel
theorem dX12_letters_27 : decode cX12_letters 27 = .ok (.iload 6, 2) := by decide +kernel
theorem dX12_letters_29 : decode cX12_letters 29 = .ok (.invokestatic 79, 3) := by decide +kernel
theorem dX12_letters_32 : decode cX12_letters 32 = .ok (.lreturn, 1) := by decide +kernel
def rmX12_letters : Room := { frames := 1, cells := 0, slots := 0, locals := 22 }
set_option maxRecDepth 100000 in
def fX12_letters (N : Nat) (g : Gs) (x0 : Int32) (x1 : Int32) (x2 : Int32) (x3 : Int32) (x4 : Int32) (x5 : Int32) (x6 : Int32) (d : Ds) : Option (Int64 × Ds) := cb (fX12_appends N g 0 x0 d) fun u3 d1 => (cb (fX12_appends N g u3 x1 d1) fun u6 d4 => (cb (fX12_appends N g u6 x2 d4) fun u9 d7 => (cb (fX12_appends N g u9 x3 d7) fun u12 d10 => (cb (fX12_appends N g u12 x4 d10) fun u15 d13 => (cb (fX12_appends N g u15 x5 d13) fun u18 d16 => (cb (fX12_appends N g u18 x6 d16) fun u21 d19 => (some (u21, d19))))))))
set_option maxHeartbeats 4000000 in
set_option maxRecDepth 100000 in
theorem tX12_letters_E {p : Program} {l : Launch} {e : Env} {s : State} {m : MethodId} {args : Array Value} {below : List Frame} {meth : Method} {c : Code} {D : va_G} {cy : Nat → ClassId} {B : Bs} (C : Cx p s m args c cX12_letters 7 RX12 D cy B) (hr : meth.sig.returnType = (some .long)) (hlocks : meth.locks = false) {N : Nat} {g : Gs} {x0 : Int32} {x1 : Int32} {x2 : Int32} {x3 : Int32} {x4 : Int32} {x5 : Int32} {x6 : Int32} {vz : Int64} {dz : Ds} {d : Ds} (hf : fX12_letters N g x0 x1 x2 x3 x4 x5 x6 d = some (vz, dz)) : WB p l e rmX12_letters s m args below meth c 7 D cy B 0 0 (MQ below (QJ D cy B vz g dz) args s 0 0 (wA B)) g d [(0, .int x0), (1, .int x1), (2, .int x2), (3, .int x3), (4, .int x4), (5, .int x5), (6, .int x6)] 0 [] := by
  unfold fX12_letters at hf
  refine b_lconst C (v := 0) dX12_letters_0 (by decide) ?_
  refine b_iload_n C dX12_letters_1 0 rfl rfl ?_
  obtain ⟨u3, d1, k2, hf⟩ := cb_s hf
  refine b_cSJ C [] dX12_letters_2 (kX12_appends l D cy B k2) lv_X12_79 ⟨rfl, rfl, Nat.le_of_ble_eq_true rfl, Nat.le_of_ble_eq_true rfl⟩ rfl (Nat.le_of_ble_eq_true rfl) ⟨Nat.zero_le _, Nat.zero_le _⟩ rfl ?_
  refine b_iload_n C dX12_letters_5 1 rfl rfl ?_
  obtain ⟨u6, d4, k5, hf⟩ := cb_s hf
  refine b_cSJ C [] dX12_letters_6 (kX12_appends l D cy B k5) lv_X12_79 ⟨rfl, rfl, Nat.le_of_ble_eq_true rfl, Nat.le_of_ble_eq_true rfl⟩ rfl (Nat.le_of_ble_eq_true rfl) ⟨Nat.zero_le _, Nat.zero_le _⟩ rfl ?_
  refine b_iload_n C dX12_letters_9 2 rfl rfl ?_
  obtain ⟨u9, d7, k8, hf⟩ := cb_s hf
  refine b_cSJ C [] dX12_letters_10 (kX12_appends l D cy B k8) lv_X12_79 ⟨rfl, rfl, Nat.le_of_ble_eq_true rfl, Nat.le_of_ble_eq_true rfl⟩ rfl (Nat.le_of_ble_eq_true rfl) ⟨Nat.zero_le _, Nat.zero_le _⟩ rfl ?_
  refine b_iload_n C dX12_letters_13 3 rfl rfl ?_
  obtain ⟨u12, d10, k11, hf⟩ := cb_s hf
  refine b_cSJ C [] dX12_letters_14 (kX12_appends l D cy B k11) lv_X12_79 ⟨rfl, rfl, Nat.le_of_ble_eq_true rfl, Nat.le_of_ble_eq_true rfl⟩ rfl (Nat.le_of_ble_eq_true rfl) ⟨Nat.zero_le _, Nat.zero_le _⟩ rfl ?_
  refine b_iload C dX12_letters_17 4 rfl ?_
  obtain ⟨u15, d13, k14, hf⟩ := cb_s hf
  refine b_cSJ C [] dX12_letters_19 (kX12_appends l D cy B k14) lv_X12_79 ⟨rfl, rfl, Nat.le_of_ble_eq_true rfl, Nat.le_of_ble_eq_true rfl⟩ rfl (Nat.le_of_ble_eq_true rfl) ⟨Nat.zero_le _, Nat.zero_le _⟩ rfl ?_
  refine b_iload C dX12_letters_22 5 rfl ?_
  obtain ⟨u18, d16, k17, hf⟩ := cb_s hf
  refine b_cSJ C [] dX12_letters_24 (kX12_appends l D cy B k17) lv_X12_79 ⟨rfl, rfl, Nat.le_of_ble_eq_true rfl, Nat.le_of_ble_eq_true rfl⟩ rfl (Nat.le_of_ble_eq_true rfl) ⟨Nat.zero_le _, Nat.zero_le _⟩ rfl ?_
  refine b_iload C dX12_letters_27 6 rfl ?_
  obtain ⟨u21, d19, k20, hf⟩ := cb_s hf
  refine b_cSJ C [] dX12_letters_29 (kX12_appends l D cy B k20) lv_X12_79 ⟨rfl, rfl, Nat.le_of_ble_eq_true rfl, Nat.le_of_ble_eq_true rfl⟩ rfl (Nat.le_of_ble_eq_true rfl) ⟨Nat.zero_le _, Nat.zero_le _⟩ rfl ?_
  exact b_lret C hr hlocks hf dX12_letters_32
theorem kX12_letters (l : Launch) (D : va_G) (cy : Nat → ClassId) (B : Bs) {N : Nat} {g : Gs} {x0 : Int32} {x1 : Int32} {x2 : Int32} {x3 : Int32} {x4 : Int32} {x5 : Int32} {x6 : Int32} {vz : Int64} {dz : Ds} {d : Ds} (hf : fX12_letters N g x0 x1 x2 x3 x4 x5 x6 d = some (vz, dz)) : Met l yX12_letters (.code yX12_letters cX12_letters 7 (some .long) :: wl) rmX12_letters (PC D cy B [.int x0, .int x1, .int x2, .int x3, .int x4, .int x5, .int x6] g d) (QJ D cy B vz g dz) 0 0 (wA B) :=
  met_of (by decide +kernel) (Nat.le_of_ble_eq_true rfl) (fun p e s m args below meth c C hr hlocks _ => b_sub [(0, .int x0), (1, .int x1), (2, .int x2), (3, .int x3), (4, .int x4), (5, .int x5), (6, .int x6)] [0, 1, 2, 3, 4, 5, 6] rfl (tX12_letters_E C hr hlocks hf))
/-! KeyMatrixModel.begins([I)V -/
theorem dX12_begins_0 : decode cX12_begins 0 = .ok (.iconst 0, 1) := by decide +kernel
theorem dX12_begins_1 : decode cX12_begins 1 = .ok (.istore_n 1, 1) := by decide +kernel
theorem dX12_begins_2 : decode cX12_begins 2 = .ok (.iload_n 1, 1) := by decide +kernel
theorem dX12_begins_3 : decode cX12_begins 3 = .ok (.sipush 352, 3) := by decide +kernel
theorem dX12_begins_6 : decode cX12_begins 6 = .ok (.if_icmp .ge 13, 3) := by decide +kernel
theorem dX12_begins_9 : decode cX12_begins 9 = .ok (.aload_n 0, 1) := by decide +kernel
theorem dX12_begins_10 : decode cX12_begins 10 = .ok (.iload_n 1, 1) := by decide +kernel
theorem dX12_begins_11 : decode cX12_begins 11 = .ok (.iconst 0, 1) := by decide +kernel
theorem dX12_begins_12 : decode cX12_begins 12 = .ok (.iastore, 1) := by decide +kernel
theorem dX12_begins_13 : decode cX12_begins 13 = .ok (.iinc 1 1, 3) := by decide +kernel
theorem dX12_begins_16 : decode cX12_begins 16 = .ok (.goto (-14), 3) := by decide +kernel
theorem dX12_begins_19 : decode cX12_begins 19 = .ok (.aload_n 0, 1) := by decide +kernel
theorem dX12_begins_20 : decode cX12_begins 20 = .ok (.iconst 4, 1) := by decide +kernel
theorem dX12_begins_21 : decode cX12_begins 21 = .ok (.iconst 2, 1) := by decide +kernel
theorem dX12_begins_22 : decode cX12_begins 22 = .ok (.iastore, 1) := by decide +kernel
theorem dX12_begins_23 : decode cX12_begins 23 = .ok (.aload_n 0, 1) := by decide +kernel
theorem dX12_begins_24 : decode cX12_begins 24 = .ok (.iconst 5, 1) := by decide +kernel
theorem dX12_begins_25 : decode cX12_begins 25 = .ok (.bipush 8, 2) := by decide +kernel
theorem dX12_begins_27 : decode cX12_begins 27 = .ok (.iastore, 1) := by decide +kernel
theorem dX12_begins_28 : decode cX12_begins 28 = .ok (.aload_n 0, 1) := by decide +kernel
theorem dX12_begins_29 : decode cX12_begins 29 = .ok (.bipush 6, 2) := by decide +kernel
theorem dX12_begins_31 : decode cX12_begins 31 = .ok (.iconst 3, 1) := by decide +kernel
theorem dX12_begins_32 : decode cX12_begins 32 = .ok (.iastore, 1) := by decide +kernel
theorem dX12_begins_33 : decode cX12_begins 33 = .ok (.aload_n 0, 1) := by decide +kernel
theorem dX12_begins_34 : decode cX12_begins 34 = .ok (.bipush 7, 2) := by decide +kernel
theorem dX12_begins_36 : decode cX12_begins 36 = .ok (.bipush 6, 2) := by decide +kernel
theorem dX12_begins_38 : decode cX12_begins 38 = .ok (.iastore, 1) := by decide +kernel
theorem dX12_begins_39 : decode cX12_begins 39 = .ok (.aload_n 0, 1) := by decide +kernel
theorem dX12_begins_40 : decode cX12_begins 40 = .ok (.bipush 8, 2) := by decide +kernel
theorem dX12_begins_42 : decode cX12_begins 42 = .ok (.bipush 20, 2) := by decide +kernel
theorem dX12_begins_44 : decode cX12_begins 44 = .ok (.iastore, 1) := by decide +kernel
theorem dX12_begins_45 : decode cX12_begins 45 = .ok (.aload_n 0, 1) := by decide +kernel
theorem dX12_begins_46 : decode cX12_begins 46 = .ok (.bipush 9, 2) := by decide +kernel
theorem dX12_begins_48 : decode cX12_begins 48 = .ok (.iconst 5, 1) := by decide +kernel
theorem dX12_begins_49 : decode cX12_begins 49 = .ok (.iastore, 1) := by decide +kernel
theorem dX12_begins_50 : decode cX12_begins 50 = .ok (.iconst 0, 1) := by decide +kernel
theorem dX12_begins_51 : decode cX12_begins 51 = .ok (.istore_n 1, 1) := by decide +kernel
theorem dX12_begins_52 : decode cX12_begins 52 = .ok (.iload_n 1, 1) := by decide +kernel
theorem dX12_begins_53 : decode cX12_begins 53 = .ok (.bipush 96, 2) := by decide +kernel
theorem dX12_begins_55 : decode cX12_begins 55 = .ok (.if_icmp .ge 50, 3) := by decide +kernel
theorem dX12_begins_58 : decode cX12_begins 58 = .ok (.aload_n 0, 1) := by decide +kernel
theorem dX12_begins_59 : decode cX12_begins 59 = .ok (.bipush 12, 2) := by decide +kernel
theorem dX12_begins_61 : decode cX12_begins 61 = .ok (.iconst 3, 1) := by decide +kernel
theorem dX12_begins_62 : decode cX12_begins 62 = .ok (.iload_n 1, 1) := by decide +kernel
theorem dX12_begins_63 : decode cX12_begins 63 = .ok (.imul, 1) := by decide +kernel
theorem dX12_begins_64 : decode cX12_begins 64 = .ok (.iadd, 1) := by decide +kernel
theorem dX12_begins_65 : decode cX12_begins 65 = .ok (.iload_n 1, 1) := by decide +kernel
theorem dX12_begins_66 : decode cX12_begins 66 = .ok (.bipush 24, 2) := by decide +kernel
theorem dX12_begins_68 : decode cX12_begins 68 = .ok (.if_icmp .ge 7, 3) := by decide +kernel
theorem dX12_begins_71 : decode cX12_begins 71 = .ok (.iconst 4, 1) := by decide +kernel
theorem dX12_begins_72 : decode cX12_begins 72 = .ok (.goto 4, 3) := by decide +kernel
theorem dX12_begins_75 : decode cX12_begins 75 = .ok (.iconst 5, 1) := by decide +kernel
theorem dX12_begins_76 : decode cX12_begins 76 = .ok (.iastore, 1) := by decide +kernel
theorem dX12_begins_77 : decode cX12_begins 77 = .ok (.aload_n 0, 1) := by decide +kernel
theorem dX12_begins_78 : decode cX12_begins 78 = .ok (.bipush 12, 2) := by decide +kernel
theorem dX12_begins_80 : decode cX12_begins 80 = .ok (.iconst 3, 1) := by decide +kernel
theorem dX12_begins_81 : decode cX12_begins 81 = .ok (.iload_n 1, 1) := by decide +kernel
theorem dX12_begins_82 : decode cX12_begins 82 = .ok (.imul, 1) := by decide +kernel
theorem dX12_begins_83 : decode cX12_begins 83 = .ok (.iadd, 1) := by decide +kernel
theorem dX12_begins_84 : decode cX12_begins 84 = .ok (.iconst 1, 1) := by decide +kernel
theorem dX12_begins_85 : decode cX12_begins 85 = .ok (.iadd, 1) := by decide +kernel
theorem dX12_begins_86 : decode cX12_begins 86 = .ok (.iconst (-1), 1) := by decide +kernel
theorem dX12_begins_87 : decode cX12_begins 87 = .ok (.iastore, 1) := by decide +kernel
theorem dX12_begins_88 : decode cX12_begins 88 = .ok (.aload_n 0, 1) := by decide +kernel
theorem dX12_begins_89 : decode cX12_begins 89 = .ok (.bipush 12, 2) := by decide +kernel
theorem dX12_begins_91 : decode cX12_begins 91 = .ok (.iconst 3, 1) := by decide +kernel
theorem dX12_begins_92 : decode cX12_begins 92 = .ok (.iload_n 1, 1) := by decide +kernel
theorem dX12_begins_93 : decode cX12_begins 93 = .ok (.imul, 1) := by decide +kernel
theorem dX12_begins_94 : decode cX12_begins 94 = .ok (.iadd, 1) := by decide +kernel
theorem dX12_begins_95 : decode cX12_begins 95 = .ok (.iconst 2, 1) := by decide +kernel
theorem dX12_begins_96 : decode cX12_begins 96 = .ok (.iadd, 1) := by decide +kernel
theorem dX12_begins_97 : decode cX12_begins 97 = .ok (.iconst (-1), 1) := by decide +kernel
theorem dX12_begins_98 : decode cX12_begins 98 = .ok (.iastore, 1) := by decide +kernel
theorem dX12_begins_99 : decode cX12_begins 99 = .ok (.iinc 1 1, 3) := by decide +kernel
theorem dX12_begins_102 : decode cX12_begins 102 = .ok (.goto (-50), 3) := by decide +kernel
theorem dX12_begins_105 : decode cX12_begins 105 = .ok (.return_, 1) := by decide +kernel
def rmX12_begins : Room := { frames := 0, cells := 0, slots := 0, locals := 0 }
set_option maxRecDepth 100000 in
def fX12_begins_J76 (N : Nat) (g : Gs) (x0 : Nat) (K52 : Int32 × Ds → Option (Unit × Ds)) (y1 : Int32) (z0 : Int32) (z1 : Int32) (z2 : Nat) (d : Ds) : Option (Unit × Ds) := gd (chk g z2 102) <| gd (¬ (z1 < 0 ∨ gL g z2 ≤ z1.toNatClampNeg)) <| bd (sI d z2 z1.toNatClampNeg z0) fun d19 => (gd (chk g x0 102) <| gd (¬ ((((12 : Int32) + ((3 : Int32) * y1)) + 1) < 0 ∨ gL g x0 ≤ (((12 : Int32) + ((3 : Int32) * y1)) + 1).toNatClampNeg)) <| bd (sI d19 x0 (((12 : Int32) + ((3 : Int32) * y1)) + 1).toNatClampNeg (-1)) fun d22 => (gd (¬ ((((12 : Int32) + ((3 : Int32) * y1)) + 2) < 0 ∨ gL g x0 ≤ (((12 : Int32) + ((3 : Int32) * y1)) + 2).toNatClampNeg)) <| bd (sI d22 x0 (((12 : Int32) + ((3 : Int32) * y1)) + 2).toNatClampNeg (-1)) fun d24 => (bd (y1 + 1) fun u25 => (K52 (u25, d24)))))
set_option maxHeartbeats 4000000 in
set_option maxRecDepth 100000 in
theorem tX12_begins_76 {p : Program} {l : Launch} {e : Env} {s : State} {m : MethodId} {args : Array Value} {below : List Frame} {meth : Method} {c : Code} {D : va_G} {cy : Nat → ClassId} {B : Bs} (C : Cx p s m args c cX12_begins 2 RX12 D cy B) (hr : meth.sig.returnType = none) (hlocks : meth.locks = false) {N : Nat} {g : Gs} {x0 : Nat}  {dz : Ds} {K52 : Int32 × Ds → Option (Unit × Ds)} (hK52 : ∀ a, K52 a = some ((), dz) → WB p l e rmX12_begins s m args below meth c 2 D cy B 0 0 (MQ below (QV D cy B g dz) args s 0 0 (wA B)) g a.2 [(0, .ref (ad B x0)), (1, .int a.1)] 52 []) {y1 : Int32} {z0 : Int32} {z1 : Int32} {z2 : Nat} {d : Ds} (hf : fX12_begins_J76 N g x0 K52 y1 z0 z1 z2 d = some ((), dz)) : WB p l e rmX12_begins s m args below meth c 2 D cy B 0 0 (MQ below (QV D cy B g dz) args s 0 0 (wA B)) g d [(0, .ref (ad B x0)), (1, .int y1)] 76 [.int z0, .int z1, .ref (ad B z2)] := by
  unfold fX12_begins_J76 at hf
  obtain ⟨h17, hf⟩ := gd_s hf
  obtain ⟨h18, hf⟩ := gd_s hf
  obtain ⟨d19, ed19, hf⟩ := bd_s hf
  refine b_iast C h17 h18 ed19 dX12_begins_76 ?_
  refine b_aload_n C dX12_begins_77 0 rfl rfl ?_
  refine b_bipush C (v := 12) dX12_begins_78 (by decide) ?_
  refine b_iconst C (v := 3) dX12_begins_80 (by decide) ?_
  refine b_iload_n C dX12_begins_81 1 rfl rfl ?_
  refine b_imul C dX12_begins_82 ?_
  refine b_iadd C dX12_begins_83 ?_
  refine b_iconst C (v := 1) dX12_begins_84 (by decide) ?_
  refine b_iadd C dX12_begins_85 ?_
  refine b_iconst C (v := (-1)) dX12_begins_86 (by decide) ?_
  obtain ⟨h20, hf⟩ := gd_s hf
  obtain ⟨h21, hf⟩ := gd_s hf
  obtain ⟨d22, ed22, hf⟩ := bd_s hf
  refine b_iast C h20 h21 ed22 dX12_begins_87 ?_
  refine b_aload_n C dX12_begins_88 0 rfl rfl ?_
  refine b_bipush C (v := 12) dX12_begins_89 (by decide) ?_
  refine b_iconst C (v := 3) dX12_begins_91 (by decide) ?_
  refine b_iload_n C dX12_begins_92 1 rfl rfl ?_
  refine b_imul C dX12_begins_93 ?_
  refine b_iadd C dX12_begins_94 ?_
  refine b_iconst C (v := 2) dX12_begins_95 (by decide) ?_
  refine b_iadd C dX12_begins_96 ?_
  refine b_iconst C (v := (-1)) dX12_begins_97 (by decide) ?_
  obtain ⟨h23, hf⟩ := gd_s hf
  obtain ⟨d24, ed24, hf⟩ := bd_s hf
  refine b_iast C h20 h23 ed24 dX12_begins_98 ?_
  obtain ⟨u25, eu25, hf⟩ := bd_s hf
  refine b_iinc C dX12_begins_99 1 rfl (by rw [eu25]; rfl) [(1, .int u25), (0, .ref (ad B x0))] (by decide) rfl ?_
  refine b_goto C (tgt := 52) dX12_begins_102 (by decide) ?_
  refine b_sub [(0, .ref (ad B x0)), (1, .int u25)] [1, 0] rfl ?_
  exact hK52 (u25, d24) hf
set_option maxRecDepth 100000 in
def fX12_begins_B52 (N : Nat) (g : Gs) (x0 : Nat) (K52 : Int32 × Ds → Option (Unit × Ds)) (y1 : Int32) (d : Ds) : Option (Unit × Ds) := if (96 : Int32) ≤ y1 then (some ((), d)) else (if (24 : Int32) ≤ y1 then (fX12_begins_J76 N g x0 K52 y1 5 ((12 : Int32) + ((3 : Int32) * y1)) x0 d) else (fX12_begins_J76 N g x0 K52 y1 4 ((12 : Int32) + ((3 : Int32) * y1)) x0 d))
set_option maxHeartbeats 4000000 in
set_option maxRecDepth 100000 in
theorem tX12_begins_52 {p : Program} {l : Launch} {e : Env} {s : State} {m : MethodId} {args : Array Value} {below : List Frame} {meth : Method} {c : Code} {D : va_G} {cy : Nat → ClassId} {B : Bs} (C : Cx p s m args c cX12_begins 2 RX12 D cy B) (hr : meth.sig.returnType = none) (hlocks : meth.locks = false) {N : Nat} {g : Gs} {x0 : Nat}  {dz : Ds} {K52 : Int32 × Ds → Option (Unit × Ds)} (hK52 : ∀ a, K52 a = some ((), dz) → WB p l e rmX12_begins s m args below meth c 2 D cy B 0 0 (MQ below (QV D cy B g dz) args s 0 0 (wA B)) g a.2 [(0, .ref (ad B x0)), (1, .int a.1)] 52 []) {y1 : Int32} {d : Ds} (hf : fX12_begins_B52 N g x0 K52 y1 d = some ((), dz)) : WB p l e rmX12_begins s m args below meth c 2 D cy B 0 0 (MQ below (QV D cy B g dz) args s 0 0 (wA B)) g d [(0, .ref (ad B x0)), (1, .int y1)] 52 [] := by
  unfold fX12_begins_B52 at hf
  refine b_iload_n C dX12_begins_52 1 rfl rfl ?_
  refine b_bipush C (v := 96) dX12_begins_53 (by decide) ?_
  refine b_icmp_ge C (tgt := 105) dX12_begins_55 (by decide) (fun c15 => ?_) (fun c15 => ?_)
  · have hf := it_s c15 hf
    exact b_vret C hr hlocks hf dX12_begins_105
  · have hf := if_s c15 hf
    refine b_aload_n C dX12_begins_58 0 rfl rfl ?_
    refine b_bipush C (v := 12) dX12_begins_59 (by decide) ?_
    refine b_iconst C (v := 3) dX12_begins_61 (by decide) ?_
    refine b_iload_n C dX12_begins_62 1 rfl rfl ?_
    refine b_imul C dX12_begins_63 ?_
    refine b_iadd C dX12_begins_64 ?_
    refine b_iload_n C dX12_begins_65 1 rfl rfl ?_
    refine b_bipush C (v := 24) dX12_begins_66 (by decide) ?_
    refine b_icmp_ge C (tgt := 75) dX12_begins_68 (by decide) (fun c16 => ?_) (fun c16 => ?_)
    · have hf := it_s c16 hf
      refine b_iconst C (v := 5) dX12_begins_75 (by decide) ?_
      refine b_sub [(0, .ref (ad B x0)), (1, .int y1)] [0, 1] rfl ?_
      exact tX12_begins_76 C hr hlocks hK52 hf
    · have hf := if_s c16 hf
      refine b_iconst C (v := 4) dX12_begins_71 (by decide) ?_
      refine b_goto C (tgt := 76) dX12_begins_72 (by decide) ?_
      refine b_sub [(0, .ref (ad B x0)), (1, .int y1)] [0, 1] rfl ?_
      exact tX12_begins_76 C hr hlocks hK52 hf
def fX12_begins_L52 (N : Nat) (g : Gs) (x0 : Nat) : Int32 × Ds → Option (Unit × Ds) := lp (fun K52 a => fX12_begins_B52 N g x0 K52 a.1 a.2) N
theorem tX12_begins_L52 {p : Program} {l : Launch} {e : Env} {s : State} {m : MethodId} {args : Array Value} {below : List Frame} {meth : Method} {c : Code} {D : va_G} {cy : Nat → ClassId} {B : Bs} (C : Cx p s m args c cX12_begins 2 RX12 D cy B) (hr : meth.sig.returnType = none) (hlocks : meth.locks = false) {N : Nat} {g : Gs} {x0 : Nat}  {dz : Ds} (a : Int32 × Ds) (hf : fX12_begins_L52 N g x0 a = some ((), dz)) : WB p l e rmX12_begins s m args below meth c 2 D cy B 0 0 (MQ below (QV D cy B g dz) args s 0 0 (wA B)) g a.2 [(0, .ref (ad B x0)), (1, .int a.1)] 52 [] :=
  lp_w (fun K52 hK52 a ha => tX12_begins_52 C hr hlocks hK52 ha) N a hf
set_option maxRecDepth 100000 in
def fX12_begins_B2 (N : Nat) (g : Gs) (x0 : Nat) (K2 : Int32 × Ds → Option (Unit × Ds)) (y1 : Int32) (d : Ds) : Option (Unit × Ds) := if (352 : Int32) ≤ y1 then (gd (chk g x0 102) <| gd (¬ ((4 : Int32) < 0 ∨ gL g x0 ≤ (4 : Int32).toNatClampNeg)) <| bd (sI d x0 (4 : Int32).toNatClampNeg 2) fun d4 => (gd (¬ ((5 : Int32) < 0 ∨ gL g x0 ≤ (5 : Int32).toNatClampNeg)) <| bd (sI d4 x0 (5 : Int32).toNatClampNeg 8) fun d6 => (gd (¬ ((6 : Int32) < 0 ∨ gL g x0 ≤ (6 : Int32).toNatClampNeg)) <| bd (sI d6 x0 (6 : Int32).toNatClampNeg 3) fun d8 => (gd (¬ ((7 : Int32) < 0 ∨ gL g x0 ≤ (7 : Int32).toNatClampNeg)) <| bd (sI d8 x0 (7 : Int32).toNatClampNeg 6) fun d10 => (gd (¬ ((8 : Int32) < 0 ∨ gL g x0 ≤ (8 : Int32).toNatClampNeg)) <| bd (sI d10 x0 (8 : Int32).toNatClampNeg 20) fun d12 => (gd (¬ ((9 : Int32) < 0 ∨ gL g x0 ≤ (9 : Int32).toNatClampNeg)) <| bd (sI d12 x0 (9 : Int32).toNatClampNeg 5) fun d14 => (fX12_begins_L52 N g x0 (0, d14)))))))) else (gd (chk g x0 102) <| gd (¬ (y1 < 0 ∨ gL g x0 ≤ y1.toNatClampNeg)) <| bd (sI d x0 y1.toNatClampNeg 0) fun d28 => (bd (y1 + 1) fun u29 => (K2 (u29, d28))))
set_option maxHeartbeats 4000000 in
set_option maxRecDepth 100000 in
theorem tX12_begins_2 {p : Program} {l : Launch} {e : Env} {s : State} {m : MethodId} {args : Array Value} {below : List Frame} {meth : Method} {c : Code} {D : va_G} {cy : Nat → ClassId} {B : Bs} (C : Cx p s m args c cX12_begins 2 RX12 D cy B) (hr : meth.sig.returnType = none) (hlocks : meth.locks = false) {N : Nat} {g : Gs} {x0 : Nat}  {dz : Ds} {K2 : Int32 × Ds → Option (Unit × Ds)} (hK2 : ∀ a, K2 a = some ((), dz) → WB p l e rmX12_begins s m args below meth c 2 D cy B 0 0 (MQ below (QV D cy B g dz) args s 0 0 (wA B)) g a.2 [(0, .ref (ad B x0)), (1, .int a.1)] 2 []) {y1 : Int32} {d : Ds} (hf : fX12_begins_B2 N g x0 K2 y1 d = some ((), dz)) : WB p l e rmX12_begins s m args below meth c 2 D cy B 0 0 (MQ below (QV D cy B g dz) args s 0 0 (wA B)) g d [(0, .ref (ad B x0)), (1, .int y1)] 2 [] := by
  unfold fX12_begins_B2 at hf
  refine b_iload_n C dX12_begins_2 1 rfl rfl ?_
  refine b_sipush C (v := 352) dX12_begins_3 (by decide) ?_
  refine b_icmp_ge C (tgt := 19) dX12_begins_6 (by decide) (fun c1 => ?_) (fun c1 => ?_)
  · have hf := it_s c1 hf
    refine b_aload_n C dX12_begins_19 0 rfl rfl ?_
    refine b_iconst C (v := 4) dX12_begins_20 (by decide) ?_
    refine b_iconst C (v := 2) dX12_begins_21 (by decide) ?_
    obtain ⟨h2, hf⟩ := gd_s hf
    obtain ⟨h3, hf⟩ := gd_s hf
    obtain ⟨d4, ed4, hf⟩ := bd_s hf
    refine b_iast C h2 h3 ed4 dX12_begins_22 ?_
    refine b_aload_n C dX12_begins_23 0 rfl rfl ?_
    refine b_iconst C (v := 5) dX12_begins_24 (by decide) ?_
    refine b_bipush C (v := 8) dX12_begins_25 (by decide) ?_
    obtain ⟨h5, hf⟩ := gd_s hf
    obtain ⟨d6, ed6, hf⟩ := bd_s hf
    refine b_iast C h2 h5 ed6 dX12_begins_27 ?_
    refine b_aload_n C dX12_begins_28 0 rfl rfl ?_
    refine b_bipush C (v := 6) dX12_begins_29 (by decide) ?_
    refine b_iconst C (v := 3) dX12_begins_31 (by decide) ?_
    obtain ⟨h7, hf⟩ := gd_s hf
    obtain ⟨d8, ed8, hf⟩ := bd_s hf
    refine b_iast C h2 h7 ed8 dX12_begins_32 ?_
    refine b_aload_n C dX12_begins_33 0 rfl rfl ?_
    refine b_bipush C (v := 7) dX12_begins_34 (by decide) ?_
    refine b_bipush C (v := 6) dX12_begins_36 (by decide) ?_
    obtain ⟨h9, hf⟩ := gd_s hf
    obtain ⟨d10, ed10, hf⟩ := bd_s hf
    refine b_iast C h2 h9 ed10 dX12_begins_38 ?_
    refine b_aload_n C dX12_begins_39 0 rfl rfl ?_
    refine b_bipush C (v := 8) dX12_begins_40 (by decide) ?_
    refine b_bipush C (v := 20) dX12_begins_42 (by decide) ?_
    obtain ⟨h11, hf⟩ := gd_s hf
    obtain ⟨d12, ed12, hf⟩ := bd_s hf
    refine b_iast C h2 h11 ed12 dX12_begins_44 ?_
    refine b_aload_n C dX12_begins_45 0 rfl rfl ?_
    refine b_bipush C (v := 9) dX12_begins_46 (by decide) ?_
    refine b_iconst C (v := 5) dX12_begins_48 (by decide) ?_
    obtain ⟨h13, hf⟩ := gd_s hf
    obtain ⟨d14, ed14, hf⟩ := bd_s hf
    refine b_iast C h2 h13 ed14 dX12_begins_49 ?_
    refine b_iconst C (v := 0) dX12_begins_50 (by decide) ?_
    refine b_istore_n C dX12_begins_51 rfl [(1, .int 0), (0, .ref (ad B x0))] (by decide) rfl ?_
    refine b_sub [(0, .ref (ad B x0)), (1, .int 0)] [1, 0] rfl ?_
    exact tX12_begins_L52 C hr hlocks (0, d14) hf
  · have hf := if_s c1 hf
    refine b_aload_n C dX12_begins_9 0 rfl rfl ?_
    refine b_iload_n C dX12_begins_10 1 rfl rfl ?_
    refine b_iconst C (v := 0) dX12_begins_11 (by decide) ?_
    obtain ⟨h26, hf⟩ := gd_s hf
    obtain ⟨h27, hf⟩ := gd_s hf
    obtain ⟨d28, ed28, hf⟩ := bd_s hf
    refine b_iast C h26 h27 ed28 dX12_begins_12 ?_
    obtain ⟨u29, eu29, hf⟩ := bd_s hf
    refine b_iinc C dX12_begins_13 1 rfl (by rw [eu29]; rfl) [(1, .int u29), (0, .ref (ad B x0))] (by decide) rfl ?_
    refine b_goto C (tgt := 2) dX12_begins_16 (by decide) ?_
    refine b_sub [(0, .ref (ad B x0)), (1, .int u29)] [1, 0] rfl ?_
    exact hK2 (u29, d28) hf
def fX12_begins_L2 (N : Nat) (g : Gs) (x0 : Nat) : Int32 × Ds → Option (Unit × Ds) := lp (fun K2 a => fX12_begins_B2 N g x0 K2 a.1 a.2) N
theorem tX12_begins_L2 {p : Program} {l : Launch} {e : Env} {s : State} {m : MethodId} {args : Array Value} {below : List Frame} {meth : Method} {c : Code} {D : va_G} {cy : Nat → ClassId} {B : Bs} (C : Cx p s m args c cX12_begins 2 RX12 D cy B) (hr : meth.sig.returnType = none) (hlocks : meth.locks = false) {N : Nat} {g : Gs} {x0 : Nat}  {dz : Ds} (a : Int32 × Ds) (hf : fX12_begins_L2 N g x0 a = some ((), dz)) : WB p l e rmX12_begins s m args below meth c 2 D cy B 0 0 (MQ below (QV D cy B g dz) args s 0 0 (wA B)) g a.2 [(0, .ref (ad B x0)), (1, .int a.1)] 2 [] :=
  lp_w (fun K2 hK2 a ha => tX12_begins_2 C hr hlocks hK2 ha) N a hf
set_option maxRecDepth 100000 in
def fX12_begins (N : Nat) (g : Gs) (x0 : Nat) (d : Ds) : Option (Unit × Ds) := fX12_begins_L2 N g x0 (0, d)
set_option maxHeartbeats 4000000 in
set_option maxRecDepth 100000 in
theorem tX12_begins_E {p : Program} {l : Launch} {e : Env} {s : State} {m : MethodId} {args : Array Value} {below : List Frame} {meth : Method} {c : Code} {D : va_G} {cy : Nat → ClassId} {B : Bs} (C : Cx p s m args c cX12_begins 2 RX12 D cy B) (hr : meth.sig.returnType = none) (hlocks : meth.locks = false) {N : Nat} {g : Gs} {x0 : Nat}  {dz : Ds} {d : Ds} (hf : fX12_begins N g x0 d = some ((), dz)) : WB p l e rmX12_begins s m args below meth c 2 D cy B 0 0 (MQ below (QV D cy B g dz) args s 0 0 (wA B)) g d [(0, .ref (ad B x0))] 0 [] := by
  unfold fX12_begins at hf
  refine b_iconst C (v := 0) dX12_begins_0 (by decide) ?_
  refine b_istore_n C dX12_begins_1 rfl [(1, .int 0), (0, .ref (ad B x0))] (by decide) rfl ?_
  refine b_sub [(0, .ref (ad B x0)), (1, .int 0)] [1, 0] rfl ?_
  exact tX12_begins_L2 C hr hlocks (0, d) hf
theorem kX12_begins (l : Launch) (D : va_G) (cy : Nat → ClassId) (B : Bs) {N : Nat} {g : Gs} {x0 : Nat}  {dz : Ds} {d : Ds} (hf : fX12_begins N g x0 d = some ((), dz)) : Met l yX12_begins (.code yX12_begins cX12_begins 2 none :: wl) rmX12_begins (PC D cy B [.ref (ad B x0)] g d) (QV D cy B g dz) 0 0 (wA B) :=
  met_of (by decide +kernel) (Nat.le_of_ble_eq_true rfl) (fun p e s m args below meth c C hr hlocks _ => b_sub [(0, .ref (ad B x0))] [0] rfl (tX12_begins_E C hr hlocks hf))
