/-! KeyMatrix.sent(I)I -/
theorem lv_X11_208 : LV RX11 208 yX3_gather cX3_gather 4 none 1 3 := ⟨⟨(RX3, TX3, 9), rfl, rfl⟩, yo_X3_gather, mW (mT5 (List.mem_of_getElem? (i := 7) (by decide +kernel))) rfl, im_X3_gather, se_X3_gather, in_X3_gather, co_X3_gather⟩
theorem fl_X11_211 : FLI RX11 211 3 6 := ⟨⟨RX3, TX3, 9, rfl, by decide, inl3, Or.inr (mT2 (List.mem_of_getElem? (i := 113) (by decide +kernel)))⟩, by decide, by decide +kernel⟩
theorem fl_X11_213 : FLI RX11 213 3 8 := ⟨⟨RX3, TX3, 9, rfl, by decide, inl3, Or.inr (mT2 (List.mem_of_getElem? (i := 119) (by decide +kernel)))⟩, by decide, by decide +kernel⟩
theorem fl_X11_216 : FLR RX11 216 3 7 := ⟨⟨RX3, TX3, 9, rfl, by decide, inl3, Or.inr (mT2 (List.mem_of_getElem? (i := 116) (by decide +kernel)))⟩, by decide, by decide +kernel⟩
theorem dX11_sent_0 : decode cX11_sent 0 = .ok (.aload_n 0, 1) := by decide +kernel
theorem dX11_sent_1 : decode cX11_sent 1 = .ok (.getfield 46, 3) := by decide +kernel
theorem dX11_sent_4 : decode cX11_sent 4 = .ok (.getfield 163, 3) := by decide +kernel
theorem dX11_sent_7 : decode cX11_sent 7 = .ok (.astore_n 2, 1) := by decide +kernel
theorem dX11_sent_8 : decode cX11_sent 8 = .ok (.aload_n 2, 1) := by decide +kernel
theorem dX11_sent_9 : decode cX11_sent 9 = .ok (.iconst (-1), 1) := by decide +kernel
theorem dX11_sent_10 : decode cX11_sent 10 = .ok (.invokevirtual 208, 3) := by decide +kernel
theorem dX11_sent_13 : decode cX11_sent 13 = .ok (.iload_n 1, 1) := by decide +kernel
theorem dX11_sent_14 : decode cX11_sent 14 = .ok (.lookupswitch 36 #[(0, 26), (1, 31)], 26) := by decide +kernel
theorem dX11_sent_40 : decode cX11_sent 40 = .ok (.aload_n 2, 1) := by decide +kernel
theorem dX11_sent_41 : decode cX11_sent 41 = .ok (.getfield 211, 3) := by decide +kernel
theorem dX11_sent_44 : decode cX11_sent 44 = .ok (.ireturn, 1) := by decide +kernel
theorem dX11_sent_45 : decode cX11_sent 45 = .ok (.aload_n 2, 1) := by decide +kernel
theorem dX11_sent_46 : decode cX11_sent 46 = .ok (.getfield 213, 3) := by decide +kernel
theorem dX11_sent_49 : decode cX11_sent 49 = .ok (.ireturn, 1) := by decide +kernel
theorem dX11_sent_50 : decode cX11_sent 50 = .ok (.iload_n 1, 1) := by decide +kernel
theorem dX11_sent_51 : decode cX11_sent 51 = .ok (.iconst 2, 1) := by decide +kernel
theorem dX11_sent_52 : decode cX11_sent 52 = .ok (.if_icmp .lt 13, 3) := by decide +kernel
theorem dX11_sent_55 : decode cX11_sent 55 = .ok (.iload_n 1, 1) := by decide +kernel
theorem dX11_sent_56 : decode cX11_sent 56 = .ok (.iconst 2, 1) := by decide +kernel
theorem dX11_sent_57 : decode cX11_sent 57 = .ok (.isub, 1) := by decide +kernel
theorem dX11_sent_58 : decode cX11_sent 58 = .ok (.aload_n 2, 1) := by decide +kernel
theorem dX11_sent_59 : decode cX11_sent 59 = .ok (.getfield 213, 3) := by decide +kernel
theorem dX11_sent_62 : decode cX11_sent 62 = .ok (.if_icmp .lt 7, 3) := by decide +kernel
theorem dX11_sent_65 : decode cX11_sent 65 = .ok (.iconst (-1), 1) := by decide +kernel
theorem dX11_sent_66 : decode cX11_sent 66 = .ok (.goto 11, 3) := by decide +kernel
theorem dX11_sent_69 : decode cX11_sent 69 = .ok (.aload_n 2, 1) := by decide +kernel
theorem dX11_sent_70 : decode cX11_sent 70 = .ok (.getfield 216, 3) := by decide +kernel
theorem dX11_sent_73 : decode cX11_sent 73 = .ok (.iload_n 1, 1) := by decide +kernel
theorem dX11_sent_74 : decode cX11_sent 74 = .ok (.iconst 2, 1) := by decide +kernel
theorem dX11_sent_75 : decode cX11_sent 75 = .ok (.isub, 1) := by decide +kernel
theorem dX11_sent_76 : decode cX11_sent 76 = .ok (.iaload, 1) := by decide +kernel
theorem dX11_sent_77 : decode cX11_sent 77 = .ok (.ireturn, 1) := by decide +kernel
def rmX11_sent : Room := { frames := 2, cells := 0, slots := 0, locals := 45 }
set_option maxRecDepth 100000 in
def fX11_sent_J77 (N : Nat) (g : Gs) (x0 : Nat) (x1 : Int32) (z0 : Int32) (d : Ds) : Option (Int32 × Ds) := some (z0, d)
set_option maxHeartbeats 4000000 in
set_option maxRecDepth 100000 in
theorem tX11_sent_77 {p : Program} {l : Launch} {e : Env} {s : State} {m : MethodId} {args : Array Value} {below : List Frame} {meth : Method} {c : Code} {D : va_G} {cy : Nat → ClassId} {B : Bs} (C : Cx p s m args c cX11_sent 3 RX11 D cy B) (hr : meth.sig.returnType = (some .int)) (hlocks : meth.locks = false) {N : Nat} {g : Gs} {x0 : Nat} {x1 : Int32} {vz : Int32} {dz : Ds} {z0 : Int32} {d : Ds} (hf : fX11_sent_J77 N g x0 x1 z0 d = some (vz, dz)) : WB p l e rmX11_sent s m args below meth c 3 D cy B 0 0 (MQ below (QI D cy B vz g dz) args s 0 0 (wA B)) g d [(0, .ref (ad B x0)), (1, .int x1)] 77 [.int z0] := by
  unfold fX11_sent_J77 at hf
  exact b_iret C hr hlocks hf dX11_sent_77
set_option maxRecDepth 100000 in
def fX11_sent_J65 (N : Nat) (g : Gs) (x0 : Nat) (x1 : Int32) (d : Ds) : Option (Int32 × Ds) := fX11_sent_J77 N g x0 x1 (-1) d
set_option maxHeartbeats 4000000 in
set_option maxRecDepth 100000 in
theorem tX11_sent_65 {p : Program} {l : Launch} {e : Env} {s : State} {m : MethodId} {args : Array Value} {below : List Frame} {meth : Method} {c : Code} {D : va_G} {cy : Nat → ClassId} {B : Bs} (C : Cx p s m args c cX11_sent 3 RX11 D cy B) (hr : meth.sig.returnType = (some .int)) (hlocks : meth.locks = false) {N : Nat} {g : Gs} {x0 : Nat} {x1 : Int32} {vz : Int32} {dz : Ds} {d : Ds} (hf : fX11_sent_J65 N g x0 x1 d = some (vz, dz)) : WB p l e rmX11_sent s m args below meth c 3 D cy B 0 0 (MQ below (QI D cy B vz g dz) args s 0 0 (wA B)) g d [(0, .ref (ad B x0)), (1, .int x1)] 65 [] := by
  unfold fX11_sent_J65 at hf
  refine b_iconst C (v := (-1)) dX11_sent_65 (by decide) ?_
  refine b_goto C (tgt := 77) dX11_sent_66 (by decide) ?_
  refine b_sub [(0, .ref (ad B x0)), (1, .int x1)] [0, 1] rfl ?_
  exact tX11_sent_77 C hr hlocks hf
set_option maxRecDepth 100000 in
def fX11_sent (N : Nat) (g : Gs) (x0 : Nat) (x1 : Int32) (d : Ds) : Option (Int32 × Ds) := gd (chk g x0 10) <| ob (gR g x0 6) fun r2 => (gd (chk g r2 1) <| ob (gR g r2 3) fun r4 => (gd (chk g r4 3) <| cv (fX3_gather N g r4 (-1) d) fun d6 => (if x1 = 0 then (some ((dI d6 r4 6), d6)) else if x1 = 1 then (some ((dI d6 r4 8), d6)) else (if x1 < (2 : Int32) then (fX11_sent_J65 N g x0 x1 d6) else (if (x1 - 2) < (dI d6 r4 8) then (ob (gR g r4 7) fun r12 => (gd (chk g r12 102) <| gd (¬ ((x1 - 2) < 0 ∨ gL g r12 ≤ (x1 - 2).toNatClampNeg)) <| fX11_sent_J77 N g x0 x1 (dI d6 r12 (x1 - 2).toNatClampNeg) d6)) else (fX11_sent_J65 N g x0 x1 d6))))))
set_option maxHeartbeats 4000000 in
set_option maxRecDepth 100000 in
theorem tX11_sent_E {p : Program} {l : Launch} {e : Env} {s : State} {m : MethodId} {args : Array Value} {below : List Frame} {meth : Method} {c : Code} {D : va_G} {cy : Nat → ClassId} {B : Bs} (C : Cx p s m args c cX11_sent 3 RX11 D cy B) (hr : meth.sig.returnType = (some .int)) (hlocks : meth.locks = false) {N : Nat} {g : Gs} {x0 : Nat} {x1 : Int32} {vz : Int32} {dz : Ds} {d : Ds} (hf : fX11_sent N g x0 x1 d = some (vz, dz)) : WB p l e rmX11_sent s m args below meth c 3 D cy B 0 0 (MQ below (QI D cy B vz g dz) args s 0 0 (wA B)) g d [(0, .ref (ad B x0)), (1, .int x1)] 0 [] := by
  unfold fX11_sent at hf
  refine b_aload_n C dX11_sent_0 0 rfl rfl ?_
  obtain ⟨h1, hf⟩ := gd_s hf
  obtain ⟨r2, er2, hf⟩ := ob_s hf
  refine b_gR C dX11_sent_1 fl_X11_46 h1 er2 ?_
  obtain ⟨h3, hf⟩ := gd_s hf
  obtain ⟨r4, er4, hf⟩ := ob_s hf
  refine b_gR C dX11_sent_4 fl_X11_163 h3 er4 ?_
  refine b_astore_n C dX11_sent_7 rfl [(2, .ref (ad B r4)), (0, .ref (ad B x0)), (1, .int x1)] (by decide) rfl ?_
  refine b_aload_n C dX11_sent_8 0 rfl rfl ?_
  refine b_iconst C (v := (-1)) dX11_sent_9 (by decide) ?_
  obtain ⟨h5, hf⟩ := gd_s hf
  obtain ⟨d6, k7, hf⟩ := cv_s hf
  refine b_cVN C [] dX11_sent_10 (kX3_gather l D cy B k7) lv_X11_208 ⟨rfl, rfl, Nat.le_of_ble_eq_true rfl, Nat.le_of_ble_eq_true rfl⟩ h5 (by decide) rfl (Nat.le_of_ble_eq_true rfl) ⟨Nat.zero_le _, Nat.zero_le _⟩ rfl ?_
  refine b_iload_n C dX11_sent_13 2 rfl rfl ?_
  by_cases c8 : x1 = 0
  · have hf := it_s c8 hf
    refine b_look C (tgt := 40) (off := 26) dX11_sent_14 (by decide) (by rw [c8]; decide) (by decide) ?_
    refine b_aload_n C dX11_sent_40 0 rfl rfl ?_
    refine b_gI C dX11_sent_41 fl_X11_211 h5 ?_
    exact b_iret C hr hlocks hf dX11_sent_44
  have hf := if_s c8 hf
  by_cases c9 : x1 = 1
  · have hf := it_s c9 hf
    refine b_look C (tgt := 45) (off := 31) dX11_sent_14 (by decide) (by rw [c9]; decide) (by decide) ?_
    refine b_aload_n C dX11_sent_45 0 rfl rfl ?_
    refine b_gI C dX11_sent_46 fl_X11_213 h5 ?_
    exact b_iret C hr hlocks hf dX11_sent_49
  have hf := if_s c9 hf
  refine b_look C (tgt := 50) (off := 36) dX11_sent_14 (by decide) ((lv_osw c8 (by decide)).trans ((lv_osw c9 (by decide)).trans rfl)) (by decide) ?_
  refine b_iload_n C dX11_sent_50 2 rfl rfl ?_
  refine b_iconst C (v := 2) dX11_sent_51 (by decide) ?_
  refine b_icmp_lt C (tgt := 65) dX11_sent_52 (by decide) (fun c10 => ?_) (fun c10 => ?_)
  · have hf := it_s c10 hf
    refine b_sub [(0, .ref (ad B x0)), (1, .int x1)] [1, 2] rfl ?_
    exact tX11_sent_65 C hr hlocks hf
  · have hf := if_s c10 hf
    refine b_iload_n C dX11_sent_55 2 rfl rfl ?_
    refine b_iconst C (v := 2) dX11_sent_56 (by decide) ?_
    refine b_isub C dX11_sent_57 ?_
    refine b_aload_n C dX11_sent_58 0 rfl rfl ?_
    refine b_gI C dX11_sent_59 fl_X11_213 h5 ?_
    refine b_icmp_lt C (tgt := 69) dX11_sent_62 (by decide) (fun c11 => ?_) (fun c11 => ?_)
    · have hf := it_s c11 hf
      refine b_aload_n C dX11_sent_69 0 rfl rfl ?_
      obtain ⟨r12, er12, hf⟩ := ob_s hf
      refine b_gR C dX11_sent_70 fl_X11_216 h5 er12 ?_
      refine b_iload_n C dX11_sent_73 2 rfl rfl ?_
      refine b_iconst C (v := 2) dX11_sent_74 (by decide) ?_
      refine b_isub C dX11_sent_75 ?_
      obtain ⟨h13, hf⟩ := gd_s hf
      obtain ⟨h14, hf⟩ := gd_s hf
      refine b_iald C h13 h14 dX11_sent_76 ?_
      refine b_sub [(0, .ref (ad B x0)), (1, .int x1)] [1, 2] rfl ?_
      exact tX11_sent_77 C hr hlocks hf
    · have hf := if_s c11 hf
      refine b_sub [(0, .ref (ad B x0)), (1, .int x1)] [1, 2] rfl ?_
      exact tX11_sent_65 C hr hlocks hf
theorem kX11_sent (l : Launch) (D : va_G) (cy : Nat → ClassId) (B : Bs) {N : Nat} {g : Gs} {x0 : Nat} {x1 : Int32} {vz : Int32} {dz : Ds} {d : Ds} (hf : fX11_sent N g x0 x1 d = some (vz, dz)) : Met l yX11_sent (.code yX11_sent cX11_sent 3 (some .int) :: wl) rmX11_sent (PC D cy B [.ref (ad B x0), .int x1] g d) (QI D cy B vz g dz) 0 0 (wA B) :=
  met_of (by decide +kernel) (Nat.le_of_ble_eq_true rfl) (fun p e s m args below meth c C hr hlocks _ => b_sub [(0, .ref (ad B x0)), (1, .int x1)] [0, 1] rfl (tX11_sent_E C hr hlocks hf))
/-! KeyMatrix.host(I)I -/
theorem fl_X11_219 : FLI RX11 219 5 5 := ⟨⟨RX5, TX5, 9, rfl, by decide, inl5, Or.inr (mT2 (List.mem_of_getElem? (i := 155) (by decide +kernel)))⟩, by decide, by decide +kernel⟩
theorem fl_X11_222 : FLI RX11 222 5 6 := ⟨⟨RX5, TX5, 9, rfl, by decide, inl5, Or.inr (mT2 (List.mem_of_getElem? (i := 157) (by decide +kernel)))⟩, by decide, by decide +kernel⟩
theorem fl_X11_225 : FLI RX11 225 5 7 := ⟨⟨RX5, TX5, 9, rfl, by decide, inl5, Or.inr (mT2 (List.mem_of_getElem? (i := 159) (by decide +kernel)))⟩, by decide, by decide +kernel⟩
theorem fl_X11_228 : FLI RX11 228 5 8 := ⟨⟨RX5, TX5, 9, rfl, by decide, inl5, Or.inr (mT2 (List.mem_of_getElem? (i := 161) (by decide +kernel)))⟩, by decide, by decide +kernel⟩
theorem dX11_host_0 : decode cX11_host 0 = .ok (.aload_n 0, 1) := by decide +kernel
theorem dX11_host_1 : decode cX11_host 1 = .ok (.getfield 46, 3) := by decide +kernel
theorem dX11_host_4 : decode cX11_host 4 = .ok (.getfield 111, 3) := by decide +kernel
theorem dX11_host_7 : decode cX11_host 7 = .ok (.astore_n 2, 1) := by decide +kernel
theorem dX11_host_8 : decode cX11_host 8 = .ok (.iload_n 1, 1) := by decide +kernel
theorem dX11_host_9 : decode cX11_host 9 = .ok (.tableswitch 51 0 3 #[31, 36, 41, 46], 31) := by decide +kernel
theorem dX11_host_40 : decode cX11_host 40 = .ok (.aload_n 2, 1) := by decide +kernel
theorem dX11_host_41 : decode cX11_host 41 = .ok (.getfield 219, 3) := by decide +kernel
theorem dX11_host_44 : decode cX11_host 44 = .ok (.ireturn, 1) := by decide +kernel
theorem dX11_host_45 : decode cX11_host 45 = .ok (.aload_n 2, 1) := by decide +kernel
theorem dX11_host_46 : decode cX11_host 46 = .ok (.getfield 222, 3) := by decide +kernel
theorem dX11_host_49 : decode cX11_host 49 = .ok (.ireturn, 1) := by decide +kernel
theorem dX11_host_50 : decode cX11_host 50 = .ok (.aload_n 2, 1) := by decide +kernel
theorem dX11_host_51 : decode cX11_host 51 = .ok (.getfield 225, 3) := by decide +kernel
theorem dX11_host_54 : decode cX11_host 54 = .ok (.ireturn, 1) := by decide +kernel
theorem dX11_host_55 : decode cX11_host 55 = .ok (.aload_n 2, 1) := by decide +kernel
theorem dX11_host_56 : decode cX11_host 56 = .ok (.getfield 228, 3) := by decide +kernel
theorem dX11_host_59 : decode cX11_host 59 = .ok (.ireturn, 1) := by decide +kernel
theorem dX11_host_60 : decode cX11_host 60 = .ok (.bipush (-2), 2) := by decide +kernel
theorem dX11_host_62 : decode cX11_host 62 = .ok (.ireturn, 1) := by decide +kernel
def rmX11_host : Room := { frames := 0, cells := 0, slots := 0, locals := 0 }
set_option maxRecDepth 100000 in
def fX11_host (N : Nat) (g : Gs) (x0 : Nat) (x1 : Int32) (d : Ds) : Option (Int32 × Ds) := gd (chk g x0 10) <| ob (gR g x0 6) fun r2 => (gd (chk g r2 1) <| ob (gR g r2 4) fun r4 => (if x1.toInt < 0 ∨ 3 < x1.toInt then (some ((-2), d)) else if x1 = 0 then (gd (chk g r4 5) <| some ((dI d r4 5), d)) else if x1 = 1 then (gd (chk g r4 5) <| some ((dI d r4 6), d)) else if x1 = 2 then (gd (chk g r4 5) <| some ((dI d r4 7), d)) else if x1 = 3 then (gd (chk g r4 5) <| some ((dI d r4 8), d)) else none))
set_option maxHeartbeats 4000000 in
set_option maxRecDepth 100000 in
theorem tX11_host_E {p : Program} {l : Launch} {e : Env} {s : State} {m : MethodId} {args : Array Value} {below : List Frame} {meth : Method} {c : Code} {D : va_G} {cy : Nat → ClassId} {B : Bs} (C : Cx p s m args c cX11_host 3 RX11 D cy B) (hr : meth.sig.returnType = (some .int)) (hlocks : meth.locks = false) {N : Nat} {g : Gs} {x0 : Nat} {x1 : Int32} {vz : Int32} {dz : Ds} {d : Ds} (hf : fX11_host N g x0 x1 d = some (vz, dz)) : WB p l e rmX11_host s m args below meth c 3 D cy B 0 0 (MQ below (QI D cy B vz g dz) args s 0 0 (wA B)) g d [(0, .ref (ad B x0)), (1, .int x1)] 0 [] := by
  unfold fX11_host at hf
  refine b_aload_n C dX11_host_0 0 rfl rfl ?_
  obtain ⟨h1, hf⟩ := gd_s hf
  obtain ⟨r2, er2, hf⟩ := ob_s hf
  refine b_gR C dX11_host_1 fl_X11_46 h1 er2 ?_
  obtain ⟨h3, hf⟩ := gd_s hf
  obtain ⟨r4, er4, hf⟩ := ob_s hf
  refine b_gR C dX11_host_4 fl_X11_111 h3 er4 ?_
  refine b_astore_n C dX11_host_7 rfl [(2, .ref (ad B r4)), (0, .ref (ad B x0)), (1, .int x1)] (by decide) rfl ?_
  refine b_iload_n C dX11_host_8 2 rfl rfl ?_
  by_cases c5 : x1.toInt < 0 ∨ 3 < x1.toInt
  · have hf := it_s c5 hf
    refine b_tabOut C (tgt := 60) dX11_host_9 c5 (by decide) ?_
    refine b_bipush C (v := (-2)) dX11_host_60 (by decide) ?_
    exact b_iret C hr hlocks hf dX11_host_62
  · have hf := if_s c5 hf
    by_cases c6 : x1 = 0
    · have hf := it_s c6 hf
      refine b_tabIn C (tgt := 40) (off := 31) dX11_host_9 c6 (by decide) (by decide) (by decide) (by decide) ?_
      refine b_aload_n C dX11_host_40 0 rfl rfl ?_
      obtain ⟨h7, hf⟩ := gd_s hf
      refine b_gI C dX11_host_41 fl_X11_219 h7 ?_
      exact b_iret C hr hlocks hf dX11_host_44
    have hf := if_s c6 hf
    by_cases c8 : x1 = 1
    · have hf := it_s c8 hf
      refine b_tabIn C (tgt := 45) (off := 36) dX11_host_9 c8 (by decide) (by decide) (by decide) (by decide) ?_
      refine b_aload_n C dX11_host_45 0 rfl rfl ?_
      obtain ⟨h9, hf⟩ := gd_s hf
      refine b_gI C dX11_host_46 fl_X11_222 h9 ?_
      exact b_iret C hr hlocks hf dX11_host_49
    have hf := if_s c8 hf
    by_cases c10 : x1 = 2
    · have hf := it_s c10 hf
      refine b_tabIn C (tgt := 50) (off := 41) dX11_host_9 c10 (by decide) (by decide) (by decide) (by decide) ?_
      refine b_aload_n C dX11_host_50 0 rfl rfl ?_
      obtain ⟨h11, hf⟩ := gd_s hf
      refine b_gI C dX11_host_51 fl_X11_225 h11 ?_
      exact b_iret C hr hlocks hf dX11_host_54
    have hf := if_s c10 hf
    by_cases c12 : x1 = 3
    · have hf := it_s c12 hf
      refine b_tabIn C (tgt := 55) (off := 46) dX11_host_9 c12 (by decide) (by decide) (by decide) (by decide) ?_
      refine b_aload_n C dX11_host_55 0 rfl rfl ?_
      obtain ⟨h13, hf⟩ := gd_s hf
      refine b_gI C dX11_host_56 fl_X11_228 h13 ?_
      exact b_iret C hr hlocks hf dX11_host_59
    have hf := if_s c12 hf
    cases hf
theorem kX11_host (l : Launch) (D : va_G) (cy : Nat → ClassId) (B : Bs) {N : Nat} {g : Gs} {x0 : Nat} {x1 : Int32} {vz : Int32} {dz : Ds} {d : Ds} (hf : fX11_host N g x0 x1 d = some (vz, dz)) : Met l yX11_host (.code yX11_host cX11_host 3 (some .int) :: wl) rmX11_host (PC D cy B [.ref (ad B x0), .int x1] g d) (QI D cy B vz g dz) 0 0 (wA B) :=
  met_of (by decide +kernel) (Nat.le_of_ble_eq_true rfl) (fun p e s m args below meth c C hr hlocks _ => b_sub [(0, .ref (ad B x0)), (1, .int x1)] [0, 1] rfl (tX11_host_E C hr hlocks hf))
/-! KeyMatrix.strokes(II)I -/
theorem fl_X11_231 : FLR RX11 231 6 6 := ⟨⟨RX6, TX6, 9, rfl, by decide, inl6, Or.inr (mT2 (List.mem_of_getElem? (i := 48) (by decide +kernel)))⟩, by decide, by decide +kernel⟩
theorem fl_X11_234 : FLR RX11 234 6 7 := ⟨⟨RX6, TX6, 9, rfl, by decide, inl6, Or.inr (mT2 (List.mem_of_getElem? (i := 50) (by decide +kernel)))⟩, by decide, by decide +kernel⟩
theorem fl_X11_237 : FLR RX11 237 6 8 := ⟨⟨RX6, TX6, 9, rfl, by decide, inl6, Or.inr (mT2 (List.mem_of_getElem? (i := 52) (by decide +kernel)))⟩, by decide, by decide +kernel⟩
theorem dX11_strokes_0 : decode cX11_strokes 0 = .ok (.aload_n 0, 1) := by decide +kernel
theorem dX11_strokes_1 : decode cX11_strokes 1 = .ok (.getfield 30, 3) := by decide +kernel
theorem dX11_strokes_4 : decode cX11_strokes 4 = .ok (.iload_n 1, 1) := by decide +kernel
theorem dX11_strokes_5 : decode cX11_strokes 5 = .ok (.invokevirtual 82, 3) := by decide +kernel
theorem dX11_strokes_8 : decode cX11_strokes 8 = .ok (.ifCond .ne 6, 3) := by decide +kernel
theorem dX11_strokes_11 : decode cX11_strokes 11 = .ok (.bipush (-2), 2) := by decide +kernel
theorem dX11_strokes_13 : decode cX11_strokes 13 = .ok (.ireturn, 1) := by decide +kernel
theorem dX11_strokes_14 : decode cX11_strokes 14 = .ok (.aload_n 0, 1) := by decide +kernel
theorem dX11_strokes_15 : decode cX11_strokes 15 = .ok (.getfield 46, 3) := by decide +kernel
theorem dX11_strokes_18 : decode cX11_strokes 18 = .ok (.getfield 78, 3) := by decide +kernel
theorem dX11_strokes_21 : decode cX11_strokes 21 = .ok (.astore_n 3, 1) := by decide +kernel
theorem dX11_strokes_22 : decode cX11_strokes 22 = .ok (.iload_n 2, 1) := by decide +kernel
theorem dX11_strokes_23 : decode cX11_strokes 23 = .ok (.tableswitch 46 0 2 #[25, 32, 39], 25) := by decide +kernel
theorem dX11_strokes_48 : decode cX11_strokes 48 = .ok (.aload_n 3, 1) := by decide +kernel
theorem dX11_strokes_49 : decode cX11_strokes 49 = .ok (.getfield 231, 3) := by decide +kernel
theorem dX11_strokes_52 : decode cX11_strokes 52 = .ok (.iload_n 1, 1) := by decide +kernel
theorem dX11_strokes_53 : decode cX11_strokes 53 = .ok (.iaload, 1) := by decide +kernel
theorem dX11_strokes_54 : decode cX11_strokes 54 = .ok (.ireturn, 1) := by decide +kernel
theorem dX11_strokes_55 : decode cX11_strokes 55 = .ok (.aload_n 3, 1) := by decide +kernel
theorem dX11_strokes_56 : decode cX11_strokes 56 = .ok (.getfield 234, 3) := by decide +kernel
theorem dX11_strokes_59 : decode cX11_strokes 59 = .ok (.iload_n 1, 1) := by decide +kernel
theorem dX11_strokes_60 : decode cX11_strokes 60 = .ok (.iaload, 1) := by decide +kernel
theorem dX11_strokes_61 : decode cX11_strokes 61 = .ok (.ireturn, 1) := by decide +kernel
theorem dX11_strokes_62 : decode cX11_strokes 62 = .ok (.aload_n 3, 1) := by decide +kernel
theorem dX11_strokes_63 : decode cX11_strokes 63 = .ok (.getfield 237, 3) := by decide +kernel
theorem dX11_strokes_66 : decode cX11_strokes 66 = .ok (.iload_n 1, 1) := by decide +kernel
theorem dX11_strokes_67 : decode cX11_strokes 67 = .ok (.iaload, 1) := by decide +kernel
theorem dX11_strokes_68 : decode cX11_strokes 68 = .ok (.ireturn, 1) := by decide +kernel
theorem dX11_strokes_69 : decode cX11_strokes 69 = .ok (.bipush (-2), 2) := by decide +kernel
theorem dX11_strokes_71 : decode cX11_strokes 71 = .ok (.ireturn, 1) := by decide +kernel
def rmX11_strokes : Room := { frames := 2, cells := 0, slots := 0, locals := 41 }
set_option maxRecDepth 100000 in
def fX11_strokes (N : Nat) (g : Gs) (x0 : Nat) (x1 : Int32) (x2 : Int32) (d : Ds) : Option (Int32 × Ds) := gd (chk g x0 10) <| ob (gR g x0 4) fun r2 => (gd (chk g r2 0) <| cb (fX0_hasKey N g r2 x1 d) fun u6 d4 => (if u6 = 0 then (some ((-2), d4)) else (ob (gR g x0 6) fun r8 => (gd (chk g r8 1) <| ob (gR g r8 1) fun r10 => (if x2.toInt < 0 ∨ 2 < x2.toInt then (some ((-2), d4)) else if x2 = 0 then (gd (chk g r10 6) <| ob (gR g r10 6) fun r14 => (gd (chk g r14 102) <| gd (¬ (x1 < 0 ∨ gL g r14 ≤ x1.toNatClampNeg)) <| some ((dI d4 r14 x1.toNatClampNeg), d4))) else if x2 = 1 then (gd (chk g r10 6) <| ob (gR g r10 7) fun r19 => (gd (chk g r19 102) <| gd (¬ (x1 < 0 ∨ gL g r19 ≤ x1.toNatClampNeg)) <| some ((dI d4 r19 x1.toNatClampNeg), d4))) else if x2 = 2 then (gd (chk g r10 6) <| ob (gR g r10 8) fun r24 => (gd (chk g r24 102) <| gd (¬ (x1 < 0 ∨ gL g r24 ≤ x1.toNatClampNeg)) <| some ((dI d4 r24 x1.toNatClampNeg), d4))) else none)))))
set_option maxHeartbeats 4000000 in
set_option maxRecDepth 100000 in
theorem tX11_strokes_E {p : Program} {l : Launch} {e : Env} {s : State} {m : MethodId} {args : Array Value} {below : List Frame} {meth : Method} {c : Code} {D : va_G} {cy : Nat → ClassId} {B : Bs} (C : Cx p s m args c cX11_strokes 4 RX11 D cy B) (hr : meth.sig.returnType = (some .int)) (hlocks : meth.locks = false) {N : Nat} {g : Gs} {x0 : Nat} {x1 : Int32} {x2 : Int32} {vz : Int32} {dz : Ds} {d : Ds} (hf : fX11_strokes N g x0 x1 x2 d = some (vz, dz)) : WB p l e rmX11_strokes s m args below meth c 4 D cy B 0 0 (MQ below (QI D cy B vz g dz) args s 0 0 (wA B)) g d [(0, .ref (ad B x0)), (1, .int x1), (2, .int x2)] 0 [] := by
  unfold fX11_strokes at hf
  refine b_aload_n C dX11_strokes_0 0 rfl rfl ?_
  obtain ⟨h1, hf⟩ := gd_s hf
  obtain ⟨r2, er2, hf⟩ := ob_s hf
  refine b_gR C dX11_strokes_1 fl_X11_30 h1 er2 ?_
  refine b_iload_n C dX11_strokes_4 1 rfl rfl ?_
  obtain ⟨h3, hf⟩ := gd_s hf
  obtain ⟨u6, d4, k5, hf⟩ := cb_s hf
  refine b_cVI C [] dX11_strokes_5 (kX0_hasKey l D cy B k5) lv_X11_82 ⟨rfl, rfl, Nat.le_of_ble_eq_true rfl, Nat.le_of_ble_eq_true rfl⟩ h3 (by decide) rfl (Nat.le_of_ble_eq_true rfl) ⟨Nat.zero_le _, Nat.zero_le _⟩ rfl ?_
  refine b_if_ne C (tgt := 14) dX11_strokes_8 (by decide) (fun c7 => ?_) (fun c7 => ?_)
  · have hf := if_s c7 hf
    refine b_aload_n C dX11_strokes_14 0 rfl rfl ?_
    obtain ⟨r8, er8, hf⟩ := ob_s hf
    refine b_gR C dX11_strokes_15 fl_X11_46 h1 er8 ?_
    obtain ⟨h9, hf⟩ := gd_s hf
    obtain ⟨r10, er10, hf⟩ := ob_s hf
    refine b_gR C dX11_strokes_18 fl_X11_78 h9 er10 ?_
    refine b_astore_n C dX11_strokes_21 rfl [(3, .ref (ad B r10)), (0, .ref (ad B x0)), (1, .int x1), (2, .int x2)] (by decide) rfl ?_
    refine b_iload_n C dX11_strokes_22 3 rfl rfl ?_
    by_cases c11 : x2.toInt < 0 ∨ 2 < x2.toInt
    · have hf := it_s c11 hf
      refine b_tabOut C (tgt := 69) dX11_strokes_23 c11 (by decide) ?_
      refine b_bipush C (v := (-2)) dX11_strokes_69 (by decide) ?_
      exact b_iret C hr hlocks hf dX11_strokes_71
    · have hf := if_s c11 hf
      by_cases c12 : x2 = 0
      · have hf := it_s c12 hf
        refine b_tabIn C (tgt := 48) (off := 25) dX11_strokes_23 c12 (by decide) (by decide) (by decide) (by decide) ?_
        refine b_aload_n C dX11_strokes_48 0 rfl rfl ?_
        obtain ⟨h13, hf⟩ := gd_s hf
        obtain ⟨r14, er14, hf⟩ := ob_s hf
        refine b_gR C dX11_strokes_49 fl_X11_231 h13 er14 ?_
        refine b_iload_n C dX11_strokes_52 2 rfl rfl ?_
        obtain ⟨h15, hf⟩ := gd_s hf
        obtain ⟨h16, hf⟩ := gd_s hf
        refine b_iald C h15 h16 dX11_strokes_53 ?_
        exact b_iret C hr hlocks hf dX11_strokes_54
      have hf := if_s c12 hf
      by_cases c17 : x2 = 1
      · have hf := it_s c17 hf
        refine b_tabIn C (tgt := 55) (off := 32) dX11_strokes_23 c17 (by decide) (by decide) (by decide) (by decide) ?_
        refine b_aload_n C dX11_strokes_55 0 rfl rfl ?_
        obtain ⟨h18, hf⟩ := gd_s hf
        obtain ⟨r19, er19, hf⟩ := ob_s hf
        refine b_gR C dX11_strokes_56 fl_X11_234 h18 er19 ?_
        refine b_iload_n C dX11_strokes_59 2 rfl rfl ?_
        obtain ⟨h20, hf⟩ := gd_s hf
        obtain ⟨h21, hf⟩ := gd_s hf
        refine b_iald C h20 h21 dX11_strokes_60 ?_
        exact b_iret C hr hlocks hf dX11_strokes_61
      have hf := if_s c17 hf
      by_cases c22 : x2 = 2
      · have hf := it_s c22 hf
        refine b_tabIn C (tgt := 62) (off := 39) dX11_strokes_23 c22 (by decide) (by decide) (by decide) (by decide) ?_
        refine b_aload_n C dX11_strokes_62 0 rfl rfl ?_
        obtain ⟨h23, hf⟩ := gd_s hf
        obtain ⟨r24, er24, hf⟩ := ob_s hf
        refine b_gR C dX11_strokes_63 fl_X11_237 h23 er24 ?_
        refine b_iload_n C dX11_strokes_66 2 rfl rfl ?_
        obtain ⟨h25, hf⟩ := gd_s hf
        obtain ⟨h26, hf⟩ := gd_s hf
        refine b_iald C h25 h26 dX11_strokes_67 ?_
        exact b_iret C hr hlocks hf dX11_strokes_68
      have hf := if_s c22 hf
      cases hf
  · have hf := it_s c7 hf
    refine b_bipush C (v := (-2)) dX11_strokes_11 (by decide) ?_
    exact b_iret C hr hlocks hf dX11_strokes_13
theorem kX11_strokes (l : Launch) (D : va_G) (cy : Nat → ClassId) (B : Bs) {N : Nat} {g : Gs} {x0 : Nat} {x1 : Int32} {x2 : Int32} {vz : Int32} {dz : Ds} {d : Ds} (hf : fX11_strokes N g x0 x1 x2 d = some (vz, dz)) : Met l yX11_strokes (.code yX11_strokes cX11_strokes 4 (some .int) :: wl) rmX11_strokes (PC D cy B [.ref (ad B x0), .int x1, .int x2] g d) (QI D cy B vz g dz) 0 0 (wA B) :=
  met_of (by decide +kernel) (Nat.le_of_ble_eq_true rfl) (fun p e s m args below meth c C hr hlocks _ => b_sub [(0, .ref (ad B x0)), (1, .int x1), (2, .int x2)] [0, 1, 2] rfl (tX11_strokes_E C hr hlocks hf))
/-! KeyMatrix.chord(II)I -/
theorem fl_X11_240 : FLI RX11 240 0 12 := ⟨⟨RX0, TX0, 19, rfl, by decide, inl0, Or.inr (mT1 (List.mem_of_getElem? (i := 152) (by decide +kernel)))⟩, by decide, by decide +kernel⟩
theorem fl_X11_243 : FLR RX11 243 0 13 := ⟨⟨RX0, TX0, 19, rfl, by decide, inl0, Or.inr (mT1 (List.mem_of_getElem? (i := 155) (by decide +kernel)))⟩, by decide, by decide +kernel⟩
theorem fl_X11_246 : FLR RX11 246 0 14 := ⟨⟨RX0, TX0, 19, rfl, by decide, inl0, Or.inr (mT1 (List.mem_of_getElem? (i := 158) (by decide +kernel)))⟩, by decide, by decide +kernel⟩
theorem fl_X11_249 : FLR RX11 249 3 2 := ⟨⟨RX3, TX3, 9, rfl, by decide, inl3, Or.inr (mT2 (List.mem_of_getElem? (i := 105) (by decide +kernel)))⟩, by decide, by decide +kernel⟩
theorem dX11_chord_0 : decode cX11_chord 0 = .ok (.iload_n 1, 1) := by decide +kernel
theorem dX11_chord_1 : decode cX11_chord 1 = .ok (.iconst (-1), 1) := by decide +kernel
theorem dX11_chord_2 : decode cX11_chord 2 = .ok (.if_icmp .ne 11, 3) := by decide +kernel
theorem dX11_chord_5 : decode cX11_chord 5 = .ok (.aload_n 0, 1) := by decide +kernel
theorem dX11_chord_6 : decode cX11_chord 6 = .ok (.getfield 30, 3) := by decide +kernel
theorem dX11_chord_9 : decode cX11_chord 9 = .ok (.getfield 240, 3) := by decide +kernel
theorem dX11_chord_12 : decode cX11_chord 12 = .ok (.ireturn, 1) := by decide +kernel
theorem dX11_chord_13 : decode cX11_chord 13 = .ok (.iload_n 1, 1) := by decide +kernel
theorem dX11_chord_14 : decode cX11_chord 14 = .ok (.ifCond .lt 14, 3) := by decide +kernel
theorem dX11_chord_17 : decode cX11_chord 17 = .ok (.iload_n 1, 1) := by decide +kernel
theorem dX11_chord_18 : decode cX11_chord 18 = .ok (.aload_n 0, 1) := by decide +kernel
theorem dX11_chord_19 : decode cX11_chord 19 = .ok (.getfield 30, 3) := by decide +kernel
theorem dX11_chord_22 : decode cX11_chord 22 = .ok (.getfield 240, 3) := by decide +kernel
theorem dX11_chord_25 : decode cX11_chord 25 = .ok (.if_icmp .lt 5, 3) := by decide +kernel
theorem dX11_chord_28 : decode cX11_chord 28 = .ok (.iconst (-1), 1) := by decide +kernel
theorem dX11_chord_29 : decode cX11_chord 29 = .ok (.ireturn, 1) := by decide +kernel
theorem dX11_chord_30 : decode cX11_chord 30 = .ok (.iload_n 2, 1) := by decide +kernel
theorem dX11_chord_31 : decode cX11_chord 31 = .ok (.tableswitch 75 0 2 #[25, 35, 45], 25) := by decide +kernel
theorem dX11_chord_56 : decode cX11_chord 56 = .ok (.aload_n 0, 1) := by decide +kernel
theorem dX11_chord_57 : decode cX11_chord 57 = .ok (.getfield 30, 3) := by decide +kernel
theorem dX11_chord_60 : decode cX11_chord 60 = .ok (.getfield 243, 3) := by decide +kernel
theorem dX11_chord_63 : decode cX11_chord 63 = .ok (.iload_n 1, 1) := by decide +kernel
theorem dX11_chord_64 : decode cX11_chord 64 = .ok (.iaload, 1) := by decide +kernel
theorem dX11_chord_65 : decode cX11_chord 65 = .ok (.ireturn, 1) := by decide +kernel
theorem dX11_chord_66 : decode cX11_chord 66 = .ok (.aload_n 0, 1) := by decide +kernel
theorem dX11_chord_67 : decode cX11_chord 67 = .ok (.getfield 30, 3) := by decide +kernel
theorem dX11_chord_70 : decode cX11_chord 70 = .ok (.getfield 246, 3) := by decide +kernel
theorem dX11_chord_73 : decode cX11_chord 73 = .ok (.iload_n 1, 1) := by decide +kernel
theorem dX11_chord_74 : decode cX11_chord 74 = .ok (.iaload, 1) := by decide +kernel
theorem dX11_chord_75 : decode cX11_chord 75 = .ok (.ireturn, 1) := by decide +kernel
theorem dX11_chord_76 : decode cX11_chord 76 = .ok (.aload_n 0, 1) := by decide +kernel
theorem dX11_chord_77 : decode cX11_chord 77 = .ok (.getfield 46, 3) := by decide +kernel
theorem dX11_chord_80 : decode cX11_chord 80 = .ok (.getfield 163, 3) := by decide +kernel
theorem dX11_chord_83 : decode cX11_chord 83 = .ok (.getfield 249, 3) := by decide +kernel
theorem dX11_chord_86 : decode cX11_chord 86 = .ok (.aload_n 0, 1) := by decide +kernel
theorem dX11_chord_87 : decode cX11_chord 87 = .ok (.getfield 30, 3) := by decide +kernel
theorem dX11_chord_90 : decode cX11_chord 90 = .ok (.getfield 243, 3) := by decide +kernel
theorem dX11_chord_93 : decode cX11_chord 93 = .ok (.iload_n 1, 1) := by decide +kernel
theorem dX11_chord_94 : decode cX11_chord 94 = .ok (.iaload, 1) := by decide +kernel
theorem dX11_chord_95 : decode cX11_chord 95 = .ok (.iaload, 1) := by decide +kernel
theorem dX11_chord_96 : decode cX11_chord 96 = .ok (.iconst (-1), 1) := by decide +kernel
theorem dX11_chord_97 : decode cX11_chord 97 = .ok (.if_icmp .ne 7, 3) := by decide +kernel
theorem dX11_chord_100 : decode cX11_chord 100 = .ok (.iconst 0, 1) := by decide +kernel
theorem dX11_chord_101 : decode cX11_chord 101 = .ok (.goto 4, 3) := by decide +kernel
theorem dX11_chord_104 : decode cX11_chord 104 = .ok (.iconst 1, 1) := by decide +kernel
theorem dX11_chord_105 : decode cX11_chord 105 = .ok (.ireturn, 1) := by decide +kernel
theorem dX11_chord_106 : decode cX11_chord 106 = .ok (.iconst (-1), 1) := by decide +kernel
theorem dX11_chord_107 : decode cX11_chord 107 = .ok (.ireturn, 1) := by decide +kernel
def rmX11_chord : Room := { frames := 0, cells := 0, slots := 0, locals := 0 }
set_option maxRecDepth 100000 in
def fX11_chord_J28 (N : Nat) (g : Gs) (x0 : Nat) (x1 : Int32) (x2 : Int32) (d : Ds) : Option (Int32 × Ds) := some ((-1), d)
set_option maxHeartbeats 4000000 in
set_option maxRecDepth 100000 in
theorem tX11_chord_28 {p : Program} {l : Launch} {e : Env} {s : State} {m : MethodId} {args : Array Value} {below : List Frame} {meth : Method} {c : Code} {D : va_G} {cy : Nat → ClassId} {B : Bs} (C : Cx p s m args c cX11_chord 3 RX11 D cy B) (hr : meth.sig.returnType = (some .int)) (hlocks : meth.locks = false) {N : Nat} {g : Gs} {x0 : Nat} {x1 : Int32} {x2 : Int32} {vz : Int32} {dz : Ds} {d : Ds} (hf : fX11_chord_J28 N g x0 x1 x2 d = some (vz, dz)) : WB p l e rmX11_chord s m args below meth c 3 D cy B 0 0 (MQ below (QI D cy B vz g dz) args s 0 0 (wA B)) g d [(0, .ref (ad B x0)), (1, .int x1), (2, .int x2)] 28 [] := by
  unfold fX11_chord_J28 at hf
  refine b_iconst C (v := (-1)) dX11_chord_28 (by decide) ?_
  exact b_iret C hr hlocks hf dX11_chord_29
set_option maxRecDepth 100000 in
def fX11_chord_J105 (N : Nat) (g : Gs) (x0 : Nat) (x1 : Int32) (x2 : Int32) (z0 : Int32) (d : Ds) : Option (Int32 × Ds) := some (z0, d)
set_option maxHeartbeats 4000000 in
set_option maxRecDepth 100000 in
theorem tX11_chord_105 {p : Program} {l : Launch} {e : Env} {s : State} {m : MethodId} {args : Array Value} {below : List Frame} {meth : Method} {c : Code} {D : va_G} {cy : Nat → ClassId} {B : Bs} (C : Cx p s m args c cX11_chord 3 RX11 D cy B) (hr : meth.sig.returnType = (some .int)) (hlocks : meth.locks = false) {N : Nat} {g : Gs} {x0 : Nat} {x1 : Int32} {x2 : Int32} {vz : Int32} {dz : Ds} {z0 : Int32} {d : Ds} (hf : fX11_chord_J105 N g x0 x1 x2 z0 d = some (vz, dz)) : WB p l e rmX11_chord s m args below meth c 3 D cy B 0 0 (MQ below (QI D cy B vz g dz) args s 0 0 (wA B)) g d [(0, .ref (ad B x0)), (1, .int x1), (2, .int x2)] 105 [.int z0] := by
  unfold fX11_chord_J105 at hf
  exact b_iret C hr hlocks hf dX11_chord_105
set_option maxRecDepth 100000 in
def fX11_chord (N : Nat) (g : Gs) (x0 : Nat) (x1 : Int32) (x2 : Int32) (d : Ds) : Option (Int32 × Ds) := if x1 = (-1 : Int32) then (gd (chk g x0 10) <| ob (gR g x0 4) fun r29 => (gd (chk g r29 0) <| some ((dI d r29 12), d))) else (if x1 < 0 then (fX11_chord_J28 N g x0 x1 x2 d) else (gd (chk g x0 10) <| ob (gR g x0 4) fun r4 => (gd (chk g r4 0) <| if x1 < (dI d r4 12) then (if x2.toInt < 0 ∨ 2 < x2.toInt then (some ((-1), d)) else if x2 = 0 then (ob (gR g r4 13) fun r9 => (gd (chk g r9 102) <| gd (¬ (x1 < 0 ∨ gL g r9 ≤ x1.toNatClampNeg)) <| some ((dI d r9 x1.toNatClampNeg), d))) else if x2 = 1 then (ob (gR g r4 14) fun r13 => (gd (chk g r13 102) <| gd (¬ (x1 < 0 ∨ gL g r13 ≤ x1.toNatClampNeg)) <| some ((dI d r13 x1.toNatClampNeg), d))) else if x2 = 2 then (ob (gR g x0 6) fun r17 => (gd (chk g r17 1) <| ob (gR g r17 3) fun r19 => (gd (chk g r19 3) <| ob (gR g r19 2) fun r21 => (ob (gR g r4 13) fun r22 => (gd (chk g r22 102) <| gd (¬ (x1 < 0 ∨ gL g r22 ≤ x1.toNatClampNeg)) <| gd (chk g r21 102) <| gd (¬ ((dI d r22 x1.toNatClampNeg) < 0 ∨ gL g r21 ≤ (dI d r22 x1.toNatClampNeg).toNatClampNeg)) <| if (dI d r21 (dI d r22 x1.toNatClampNeg).toNatClampNeg) = (-1 : Int32) then (fX11_chord_J105 N g x0 x1 x2 0 d) else (fX11_chord_J105 N g x0 x1 x2 1 d)))))) else none) else (fX11_chord_J28 N g x0 x1 x2 d))))
set_option maxHeartbeats 4000000 in
set_option maxRecDepth 100000 in
theorem tX11_chord_E {p : Program} {l : Launch} {e : Env} {s : State} {m : MethodId} {args : Array Value} {below : List Frame} {meth : Method} {c : Code} {D : va_G} {cy : Nat → ClassId} {B : Bs} (C : Cx p s m args c cX11_chord 3 RX11 D cy B) (hr : meth.sig.returnType = (some .int)) (hlocks : meth.locks = false) {N : Nat} {g : Gs} {x0 : Nat} {x1 : Int32} {x2 : Int32} {vz : Int32} {dz : Ds} {d : Ds} (hf : fX11_chord N g x0 x1 x2 d = some (vz, dz)) : WB p l e rmX11_chord s m args below meth c 3 D cy B 0 0 (MQ below (QI D cy B vz g dz) args s 0 0 (wA B)) g d [(0, .ref (ad B x0)), (1, .int x1), (2, .int x2)] 0 [] := by
  unfold fX11_chord at hf
  refine b_iload_n C dX11_chord_0 1 rfl rfl ?_
  refine b_iconst C (v := (-1)) dX11_chord_1 (by decide) ?_
  refine b_icmp_ne C (tgt := 13) dX11_chord_2 (by decide) (fun c1 => ?_) (fun c1 => ?_)
  · have hf := if_s c1 hf
    refine b_iload_n C dX11_chord_13 1 rfl rfl ?_
    refine b_if_lt C (tgt := 28) dX11_chord_14 (by decide) (fun c2 => ?_) (fun c2 => ?_)
    · have hf := it_s c2 hf
      refine b_sub [(0, .ref (ad B x0)), (1, .int x1), (2, .int x2)] [0, 1, 2] rfl ?_
      exact tX11_chord_28 C hr hlocks hf
    · have hf := if_s c2 hf
      refine b_iload_n C dX11_chord_17 1 rfl rfl ?_
      refine b_aload_n C dX11_chord_18 0 rfl rfl ?_
      obtain ⟨h3, hf⟩ := gd_s hf
      obtain ⟨r4, er4, hf⟩ := ob_s hf
      refine b_gR C dX11_chord_19 fl_X11_30 h3 er4 ?_
      obtain ⟨h5, hf⟩ := gd_s hf
      refine b_gI C dX11_chord_22 fl_X11_240 h5 ?_
      refine b_icmp_lt C (tgt := 30) dX11_chord_25 (by decide) (fun c6 => ?_) (fun c6 => ?_)
      · have hf := it_s c6 hf
        refine b_iload_n C dX11_chord_30 2 rfl rfl ?_
        by_cases c7 : x2.toInt < 0 ∨ 2 < x2.toInt
        · have hf := it_s c7 hf
          refine b_tabOut C (tgt := 106) dX11_chord_31 c7 (by decide) ?_
          refine b_iconst C (v := (-1)) dX11_chord_106 (by decide) ?_
          exact b_iret C hr hlocks hf dX11_chord_107
        · have hf := if_s c7 hf
          by_cases c8 : x2 = 0
          · have hf := it_s c8 hf
            refine b_tabIn C (tgt := 56) (off := 25) dX11_chord_31 c8 (by decide) (by decide) (by decide) (by decide) ?_
            refine b_aload_n C dX11_chord_56 0 rfl rfl ?_
            refine b_gR C dX11_chord_57 fl_X11_30 h3 er4 ?_
            obtain ⟨r9, er9, hf⟩ := ob_s hf
            refine b_gR C dX11_chord_60 fl_X11_243 h5 er9 ?_
            refine b_iload_n C dX11_chord_63 1 rfl rfl ?_
            obtain ⟨h10, hf⟩ := gd_s hf
            obtain ⟨h11, hf⟩ := gd_s hf
            refine b_iald C h10 h11 dX11_chord_64 ?_
            exact b_iret C hr hlocks hf dX11_chord_65
          have hf := if_s c8 hf
          by_cases c12 : x2 = 1
          · have hf := it_s c12 hf
            refine b_tabIn C (tgt := 66) (off := 35) dX11_chord_31 c12 (by decide) (by decide) (by decide) (by decide) ?_
            refine b_aload_n C dX11_chord_66 0 rfl rfl ?_
            refine b_gR C dX11_chord_67 fl_X11_30 h3 er4 ?_
            obtain ⟨r13, er13, hf⟩ := ob_s hf
            refine b_gR C dX11_chord_70 fl_X11_246 h5 er13 ?_
            refine b_iload_n C dX11_chord_73 1 rfl rfl ?_
            obtain ⟨h14, hf⟩ := gd_s hf
            obtain ⟨h15, hf⟩ := gd_s hf
            refine b_iald C h14 h15 dX11_chord_74 ?_
            exact b_iret C hr hlocks hf dX11_chord_75
          have hf := if_s c12 hf
          by_cases c16 : x2 = 2
          · have hf := it_s c16 hf
            refine b_tabIn C (tgt := 76) (off := 45) dX11_chord_31 c16 (by decide) (by decide) (by decide) (by decide) ?_
            refine b_aload_n C dX11_chord_76 0 rfl rfl ?_
            obtain ⟨r17, er17, hf⟩ := ob_s hf
            refine b_gR C dX11_chord_77 fl_X11_46 h3 er17 ?_
            obtain ⟨h18, hf⟩ := gd_s hf
            obtain ⟨r19, er19, hf⟩ := ob_s hf
            refine b_gR C dX11_chord_80 fl_X11_163 h18 er19 ?_
            obtain ⟨h20, hf⟩ := gd_s hf
            obtain ⟨r21, er21, hf⟩ := ob_s hf
            refine b_gR C dX11_chord_83 fl_X11_249 h20 er21 ?_
            refine b_aload_n C dX11_chord_86 0 rfl rfl ?_
            refine b_gR C dX11_chord_87 fl_X11_30 h3 er4 ?_
            obtain ⟨r22, er22, hf⟩ := ob_s hf
            refine b_gR C dX11_chord_90 fl_X11_243 h5 er22 ?_
            refine b_iload_n C dX11_chord_93 1 rfl rfl ?_
            obtain ⟨h23, hf⟩ := gd_s hf
            obtain ⟨h24, hf⟩ := gd_s hf
            refine b_iald C h23 h24 dX11_chord_94 ?_
            obtain ⟨h25, hf⟩ := gd_s hf
            obtain ⟨h26, hf⟩ := gd_s hf
            refine b_iald C h25 h26 dX11_chord_95 ?_
            refine b_iconst C (v := (-1)) dX11_chord_96 (by decide) ?_
            refine b_icmp_ne C (tgt := 104) dX11_chord_97 (by decide) (fun c27 => ?_) (fun c27 => ?_)
            · have hf := if_s c27 hf
              refine b_iconst C (v := 1) dX11_chord_104 (by decide) ?_
              refine b_sub [(0, .ref (ad B x0)), (1, .int x1), (2, .int x2)] [0, 1, 2] rfl ?_
              exact tX11_chord_105 C hr hlocks hf
            · have hf := it_s c27 hf
              refine b_iconst C (v := 0) dX11_chord_100 (by decide) ?_
              refine b_goto C (tgt := 105) dX11_chord_101 (by decide) ?_
              refine b_sub [(0, .ref (ad B x0)), (1, .int x1), (2, .int x2)] [0, 1, 2] rfl ?_
              exact tX11_chord_105 C hr hlocks hf
          have hf := if_s c16 hf
          cases hf
      · have hf := if_s c6 hf
        refine b_sub [(0, .ref (ad B x0)), (1, .int x1), (2, .int x2)] [0, 1, 2] rfl ?_
        exact tX11_chord_28 C hr hlocks hf
  · have hf := it_s c1 hf
    refine b_aload_n C dX11_chord_5 0 rfl rfl ?_
    obtain ⟨h28, hf⟩ := gd_s hf
    obtain ⟨r29, er29, hf⟩ := ob_s hf
    refine b_gR C dX11_chord_6 fl_X11_30 h28 er29 ?_
    obtain ⟨h30, hf⟩ := gd_s hf
    refine b_gI C dX11_chord_9 fl_X11_240 h30 ?_
    exact b_iret C hr hlocks hf dX11_chord_12
theorem kX11_chord (l : Launch) (D : va_G) (cy : Nat → ClassId) (B : Bs) {N : Nat} {g : Gs} {x0 : Nat} {x1 : Int32} {x2 : Int32} {vz : Int32} {dz : Ds} {d : Ds} (hf : fX11_chord N g x0 x1 x2 d = some (vz, dz)) : Met l yX11_chord (.code yX11_chord cX11_chord 3 (some .int) :: wl) rmX11_chord (PC D cy B [.ref (ad B x0), .int x1, .int x2] g d) (QI D cy B vz g dz) 0 0 (wA B) :=
  met_of (by decide +kernel) (Nat.le_of_ble_eq_true rfl) (fun p e s m args below meth c C hr hlocks _ => b_sub [(0, .ref (ad B x0)), (1, .int x1), (2, .int x2)] [0, 1, 2] rfl (tX11_chord_E C hr hlocks hf))
/-! KeyMatrix.macro(II)I -/
theorem fl_X11_252 : FLI RX11 252 0 16 := ⟨⟨RX0, TX0, 19, rfl, by decide, inl0, Or.inr (mT1 (List.mem_of_getElem? (i := 162) (by decide +kernel)))⟩, by decide, by decide +kernel⟩
theorem lv_X11_258 : LV RX11 258 yX0_macroCode cX0_macroCode 3 (some .int) 2 0 := ⟨⟨(RX0, TX0, 19), rfl, rfl⟩, yo_X0_macroCode, mW (mT5 (List.mem_of_getElem? (i := 24) (by decide +kernel))) rfl, im_X0_macroCode, se_X0_macroCode, in_X0_macroCode, co_X0_macroCode⟩
theorem fl_X11_255 : FLR RX11 255 0 17 := ⟨⟨RX0, TX0, 19, rfl, by decide, inl0, Or.inr (mT1 (List.mem_of_getElem? (i := 164) (by decide +kernel)))⟩, by decide, by decide +kernel⟩
theorem dX11_macro_0 : decode cX11_macro 0 = .ok (.iload_n 1, 1) := by decide +kernel
theorem dX11_macro_1 : decode cX11_macro 1 = .ok (.ifCond .lt 14, 3) := by decide +kernel
theorem dX11_macro_4 : decode cX11_macro 4 = .ok (.iload_n 1, 1) := by decide +kernel
theorem dX11_macro_5 : decode cX11_macro 5 = .ok (.aload_n 0, 1) := by decide +kernel
theorem dX11_macro_6 : decode cX11_macro 6 = .ok (.getfield 30, 3) := by decide +kernel
theorem dX11_macro_9 : decode cX11_macro 9 = .ok (.getfield 252, 3) := by decide +kernel
theorem dX11_macro_12 : decode cX11_macro 12 = .ok (.if_icmp .lt 5, 3) := by decide +kernel
theorem dX11_macro_15 : decode cX11_macro 15 = .ok (.iconst (-1), 1) := by decide +kernel
theorem dX11_macro_16 : decode cX11_macro 16 = .ok (.ireturn, 1) := by decide +kernel
theorem dX11_macro_17 : decode cX11_macro 17 = .ok (.iload_n 2, 1) := by decide +kernel
theorem dX11_macro_18 : decode cX11_macro 18 = .ok (.iconst (-1), 1) := by decide +kernel
theorem dX11_macro_19 : decode cX11_macro 19 = .ok (.if_icmp .ne 15, 3) := by decide +kernel
theorem dX11_macro_22 : decode cX11_macro 22 = .ok (.aload_n 0, 1) := by decide +kernel
theorem dX11_macro_23 : decode cX11_macro 23 = .ok (.getfield 30, 3) := by decide +kernel
theorem dX11_macro_26 : decode cX11_macro 26 = .ok (.getfield 255, 3) := by decide +kernel
theorem dX11_macro_29 : decode cX11_macro 29 = .ok (.iload_n 1, 1) := by decide +kernel
theorem dX11_macro_30 : decode cX11_macro 30 = .ok (.iaload, 1) := by decide +kernel
theorem dX11_macro_31 : decode cX11_macro 31 = .ok (.goto 12, 3) := by decide +kernel
theorem dX11_macro_34 : decode cX11_macro 34 = .ok (.aload_n 0, 1) := by decide +kernel
theorem dX11_macro_35 : decode cX11_macro 35 = .ok (.getfield 30, 3) := by decide +kernel
theorem dX11_macro_38 : decode cX11_macro 38 = .ok (.iload_n 1, 1) := by decide +kernel
theorem dX11_macro_39 : decode cX11_macro 39 = .ok (.iload_n 2, 1) := by decide +kernel
theorem dX11_macro_40 : decode cX11_macro 40 = .ok (.invokevirtual 258, 3) := by decide +kernel
theorem dX11_macro_43 : decode cX11_macro 43 = .ok (.ireturn, 1) := by decide +kernel
def rmX11_macro : Room := { frames := 1, cells := 0, slots := 0, locals := 22 }
set_option maxRecDepth 100000 in
def fX11_macro_J15 (N : Nat) (g : Gs) (x0 : Nat) (x1 : Int32) (x2 : Int32) (d : Ds) : Option (Int32 × Ds) := some ((-1), d)
set_option maxHeartbeats 4000000 in
set_option maxRecDepth 100000 in
theorem tX11_macro_15 {p : Program} {l : Launch} {e : Env} {s : State} {m : MethodId} {args : Array Value} {below : List Frame} {meth : Method} {c : Code} {D : va_G} {cy : Nat → ClassId} {B : Bs} (C : Cx p s m args c cX11_macro 3 RX11 D cy B) (hr : meth.sig.returnType = (some .int)) (hlocks : meth.locks = false) {N : Nat} {g : Gs} {x0 : Nat} {x1 : Int32} {x2 : Int32} {vz : Int32} {dz : Ds} {d : Ds} (hf : fX11_macro_J15 N g x0 x1 x2 d = some (vz, dz)) : WB p l e rmX11_macro s m args below meth c 3 D cy B 0 0 (MQ below (QI D cy B vz g dz) args s 0 0 (wA B)) g d [(0, .ref (ad B x0)), (1, .int x1), (2, .int x2)] 15 [] := by
  unfold fX11_macro_J15 at hf
  refine b_iconst C (v := (-1)) dX11_macro_15 (by decide) ?_
  exact b_iret C hr hlocks hf dX11_macro_16
set_option maxRecDepth 100000 in
def fX11_macro_J43 (N : Nat) (g : Gs) (x0 : Nat) (x1 : Int32) (x2 : Int32) (z0 : Int32) (d : Ds) : Option (Int32 × Ds) := some (z0, d)
set_option maxHeartbeats 4000000 in
set_option maxRecDepth 100000 in
theorem tX11_macro_43 {p : Program} {l : Launch} {e : Env} {s : State} {m : MethodId} {args : Array Value} {below : List Frame} {meth : Method} {c : Code} {D : va_G} {cy : Nat → ClassId} {B : Bs} (C : Cx p s m args c cX11_macro 3 RX11 D cy B) (hr : meth.sig.returnType = (some .int)) (hlocks : meth.locks = false) {N : Nat} {g : Gs} {x0 : Nat} {x1 : Int32} {x2 : Int32} {vz : Int32} {dz : Ds} {z0 : Int32} {d : Ds} (hf : fX11_macro_J43 N g x0 x1 x2 z0 d = some (vz, dz)) : WB p l e rmX11_macro s m args below meth c 3 D cy B 0 0 (MQ below (QI D cy B vz g dz) args s 0 0 (wA B)) g d [(0, .ref (ad B x0)), (1, .int x1), (2, .int x2)] 43 [.int z0] := by
  unfold fX11_macro_J43 at hf
  exact b_iret C hr hlocks hf dX11_macro_43
set_option maxRecDepth 100000 in
def fX11_macro (N : Nat) (g : Gs) (x0 : Nat) (x1 : Int32) (x2 : Int32) (d : Ds) : Option (Int32 × Ds) := if x1 < 0 then (fX11_macro_J15 N g x0 x1 x2 d) else (gd (chk g x0 10) <| ob (gR g x0 4) fun r3 => (gd (chk g r3 0) <| if x1 < (dI d r3 16) then (if x2 = (-1 : Int32) then (ob (gR g r3 17) fun r10 => (gd (chk g r10 102) <| gd (¬ (x1 < 0 ∨ gL g r10 ≤ x1.toNatClampNeg)) <| fX11_macro_J43 N g x0 x1 x2 (dI d r10 x1.toNatClampNeg) d)) else (cb (fX0_macroCode N g r3 x1 x2 d) fun u9 d7 => (fX11_macro_J43 N g x0 x1 x2 u9 d7))) else (fX11_macro_J15 N g x0 x1 x2 d)))
set_option maxHeartbeats 4000000 in
set_option maxRecDepth 100000 in
theorem tX11_macro_E {p : Program} {l : Launch} {e : Env} {s : State} {m : MethodId} {args : Array Value} {below : List Frame} {meth : Method} {c : Code} {D : va_G} {cy : Nat → ClassId} {B : Bs} (C : Cx p s m args c cX11_macro 3 RX11 D cy B) (hr : meth.sig.returnType = (some .int)) (hlocks : meth.locks = false) {N : Nat} {g : Gs} {x0 : Nat} {x1 : Int32} {x2 : Int32} {vz : Int32} {dz : Ds} {d : Ds} (hf : fX11_macro N g x0 x1 x2 d = some (vz, dz)) : WB p l e rmX11_macro s m args below meth c 3 D cy B 0 0 (MQ below (QI D cy B vz g dz) args s 0 0 (wA B)) g d [(0, .ref (ad B x0)), (1, .int x1), (2, .int x2)] 0 [] := by
  unfold fX11_macro at hf
  refine b_iload_n C dX11_macro_0 1 rfl rfl ?_
  refine b_if_lt C (tgt := 15) dX11_macro_1 (by decide) (fun c1 => ?_) (fun c1 => ?_)
  · have hf := it_s c1 hf
    refine b_sub [(0, .ref (ad B x0)), (1, .int x1), (2, .int x2)] [0, 1, 2] rfl ?_
    exact tX11_macro_15 C hr hlocks hf
  · have hf := if_s c1 hf
    refine b_iload_n C dX11_macro_4 1 rfl rfl ?_
    refine b_aload_n C dX11_macro_5 0 rfl rfl ?_
    obtain ⟨h2, hf⟩ := gd_s hf
    obtain ⟨r3, er3, hf⟩ := ob_s hf
    refine b_gR C dX11_macro_6 fl_X11_30 h2 er3 ?_
    obtain ⟨h4, hf⟩ := gd_s hf
    refine b_gI C dX11_macro_9 fl_X11_252 h4 ?_
    refine b_icmp_lt C (tgt := 17) dX11_macro_12 (by decide) (fun c5 => ?_) (fun c5 => ?_)
    · have hf := it_s c5 hf
      refine b_iload_n C dX11_macro_17 2 rfl rfl ?_
      refine b_iconst C (v := (-1)) dX11_macro_18 (by decide) ?_
      refine b_icmp_ne C (tgt := 34) dX11_macro_19 (by decide) (fun c6 => ?_) (fun c6 => ?_)
      · have hf := if_s c6 hf
        refine b_aload_n C dX11_macro_34 0 rfl rfl ?_
        refine b_gR C dX11_macro_35 fl_X11_30 h2 er3 ?_
        refine b_iload_n C dX11_macro_38 1 rfl rfl ?_
        refine b_iload_n C dX11_macro_39 2 rfl rfl ?_
        obtain ⟨u9, d7, k8, hf⟩ := cb_s hf
        refine b_cVI C [] dX11_macro_40 (kX0_macroCode l D cy B k8) lv_X11_258 ⟨rfl, rfl, Nat.le_of_ble_eq_true rfl, Nat.le_of_ble_eq_true rfl⟩ h4 (by decide) rfl (Nat.le_of_ble_eq_true rfl) ⟨Nat.zero_le _, Nat.zero_le _⟩ rfl ?_
        refine b_sub [(0, .ref (ad B x0)), (1, .int x1), (2, .int x2)] [0, 1, 2] rfl ?_
        exact tX11_macro_43 C hr hlocks hf
      · have hf := it_s c6 hf
        refine b_aload_n C dX11_macro_22 0 rfl rfl ?_
        refine b_gR C dX11_macro_23 fl_X11_30 h2 er3 ?_
        obtain ⟨r10, er10, hf⟩ := ob_s hf
        refine b_gR C dX11_macro_26 fl_X11_255 h4 er10 ?_
        refine b_iload_n C dX11_macro_29 1 rfl rfl ?_
        obtain ⟨h11, hf⟩ := gd_s hf
        obtain ⟨h12, hf⟩ := gd_s hf
        refine b_iald C h11 h12 dX11_macro_30 ?_
        refine b_goto C (tgt := 43) dX11_macro_31 (by decide) ?_
        refine b_sub [(0, .ref (ad B x0)), (1, .int x1), (2, .int x2)] [0, 1, 2] rfl ?_
        exact tX11_macro_43 C hr hlocks hf
    · have hf := if_s c5 hf
      refine b_sub [(0, .ref (ad B x0)), (1, .int x1), (2, .int x2)] [0, 1, 2] rfl ?_
      exact tX11_macro_15 C hr hlocks hf
theorem kX11_macro (l : Launch) (D : va_G) (cy : Nat → ClassId) (B : Bs) {N : Nat} {g : Gs} {x0 : Nat} {x1 : Int32} {x2 : Int32} {vz : Int32} {dz : Ds} {d : Ds} (hf : fX11_macro N g x0 x1 x2 d = some (vz, dz)) : Met l yX11_macro (.code yX11_macro cX11_macro 3 (some .int) :: wl) rmX11_macro (PC D cy B [.ref (ad B x0), .int x1, .int x2] g d) (QI D cy B vz g dz) 0 0 (wA B) :=
  met_of (by decide +kernel) (Nat.le_of_ble_eq_true rfl) (fun p e s m args below meth c C hr hlocks _ => b_sub [(0, .ref (ad B x0)), (1, .int x1), (2, .int x2)] [0, 1, 2] rfl (tX11_macro_E C hr hlocks hf))
/-! KeyMatrix.ghosts(II)I -/
theorem lv_X11_261 : LSt RX11 261 yJ6_bitCount_0f7a4 cJ6_bitCount_0f7a4 1 (some .int) 1 := ⟨yo_J6_bitCount_0f7a4, Or.inl (mW (mT5 (List.mem_of_getElem? (i := 29) (by decide +kernel))) rfl), st_J6_bitCount_0f7a4, in_J6_bitCount_0f7a4, co_J6_bitCount_0f7a4⟩
theorem fl_X11_266 : FLI RX11 266 9 1 := ⟨⟨RX9, TX9, 4, rfl, by decide, inl9, Or.inr (mT2 (List.mem_of_getElem? (i := 8) (by decide +kernel)))⟩, by decide, by decide +kernel⟩
theorem dX11_ghosts_0 : decode cX11_ghosts 0 = .ok (.iload_n 1, 1) := by decide +kernel
theorem dX11_ghosts_1 : decode cX11_ghosts 1 = .ok (.aload_n 0, 1) := by decide +kernel
theorem dX11_ghosts_2 : decode cX11_ghosts 2 = .ok (.getfield 30, 3) := by decide +kernel
theorem dX11_ghosts_5 : decode cX11_ghosts 5 = .ok (.invokevirtual 107, 3) := by decide +kernel
theorem dX11_ghosts_8 : decode cX11_ghosts 8 = .ok (.iushr, 1) := by decide +kernel
theorem dX11_ghosts_9 : decode cX11_ghosts 9 = .ok (.ifCond .eq 5, 3) := by decide +kernel
theorem dX11_ghosts_12 : decode cX11_ghosts 12 = .ok (.iconst (-1), 1) := by decide +kernel
theorem dX11_ghosts_13 : decode cX11_ghosts 13 = .ok (.ireturn, 1) := by decide +kernel
theorem dX11_ghosts_14 : decode cX11_ghosts 14 = .ok (.aload_n 0, 1) := by decide +kernel
theorem dX11_ghosts_15 : decode cX11_ghosts 15 = .ok (.getfield 37, 3) := by decide +kernel
theorem dX11_ghosts_18 : decode cX11_ghosts 18 = .ok (.aload_n 0, 1) := by decide +kernel
theorem dX11_ghosts_19 : decode cX11_ghosts 19 = .ok (.getfield 30, 3) := by decide +kernel
theorem dX11_ghosts_22 : decode cX11_ghosts 22 = .ok (.iload_n 1, 1) := by decide +kernel
theorem dX11_ghosts_23 : decode cX11_ghosts 23 = .ok (.invokevirtual 95, 3) := by decide +kernel
theorem dX11_ghosts_26 : decode cX11_ghosts 26 = .ok (.iload_n 2, 1) := by decide +kernel
theorem dX11_ghosts_27 : decode cX11_ghosts 27 = .ok (.tableswitch 59 0 2 #[25, 40, 51], 25) := by decide +kernel
theorem dX11_ghosts_52 : decode cX11_ghosts 52 = .ok (.aload_n 0, 1) := by decide +kernel
theorem dX11_ghosts_53 : decode cX11_ghosts 53 = .ok (.getfield 37, 3) := by decide +kernel
theorem dX11_ghosts_56 : decode cX11_ghosts 56 = .ok (.getfield 99, 3) := by decide +kernel
theorem dX11_ghosts_59 : decode cX11_ghosts 59 = .ok (.iload_n 1, 1) := by decide +kernel
theorem dX11_ghosts_60 : decode cX11_ghosts 60 = .ok (.iconst (-1), 1) := by decide +kernel
theorem dX11_ghosts_61 : decode cX11_ghosts 61 = .ok (.ixor, 1) := by decide +kernel
theorem dX11_ghosts_62 : decode cX11_ghosts 62 = .ok (.iand, 1) := by decide +kernel
theorem dX11_ghosts_63 : decode cX11_ghosts 63 = .ok (.invokestatic 261, 3) := by decide +kernel
theorem dX11_ghosts_66 : decode cX11_ghosts 66 = .ok (.ireturn, 1) := by decide +kernel
theorem dX11_ghosts_67 : decode cX11_ghosts 67 = .ok (.aload_n 0, 1) := by decide +kernel
theorem dX11_ghosts_68 : decode cX11_ghosts 68 = .ok (.getfield 37, 3) := by decide +kernel
theorem dX11_ghosts_71 : decode cX11_ghosts 71 = .ok (.getfield 103, 3) := by decide +kernel
theorem dX11_ghosts_74 : decode cX11_ghosts 74 = .ok (.invokestatic 261, 3) := by decide +kernel
theorem dX11_ghosts_77 : decode cX11_ghosts 77 = .ok (.ireturn, 1) := by decide +kernel
theorem dX11_ghosts_78 : decode cX11_ghosts 78 = .ok (.aload_n 0, 1) := by decide +kernel
theorem dX11_ghosts_79 : decode cX11_ghosts 79 = .ok (.getfield 37, 3) := by decide +kernel
theorem dX11_ghosts_82 : decode cX11_ghosts 82 = .ok (.getfield 266, 3) := by decide +kernel
theorem dX11_ghosts_85 : decode cX11_ghosts 85 = .ok (.ireturn, 1) := by decide +kernel
theorem dX11_ghosts_86 : decode cX11_ghosts 86 = .ok (.iconst (-1), 1) := by decide +kernel
theorem dX11_ghosts_87 : decode cX11_ghosts 87 = .ok (.ireturn, 1) := by decide +kernel
def rmX11_ghosts : Room := { frames := 4, cells := 0, slots := 0, locals := 90 }
set_option maxRecDepth 100000 in
def fX11_ghosts (N : Nat) (g : Gs) (x0 : Nat) (x1 : Int32) (x2 : Int32) (d : Ds) : Option (Int32 × Ds) := gd (chk g x0 10) <| ob (gR g x0 4) fun r2 => (gd (chk g r2 0) <| cb (fX0_keys N g r2 d) fun u6 d4 => (if ((x1.toUInt32 >>> (u6.toUInt32 &&& Int32.toUInt32 31)).toInt32) = 0 then (ob (gR g x0 5) fun r8 => (gd (chk g r8 9) <| cv (fX9_follow N g r8 r2 x1 d4) fun d10 => (if x2.toInt < 0 ∨ 2 < x2.toInt then (some ((-1), d10)) else if x2 = 0 then (cb (fJ6_bitCount_0f7a4 N g ((dI d10 r8 2) &&& (x1 ^^^ (-1))) d10) fun u16 d14 => (some (u16, d14))) else if x2 = 1 then (cb (fJ6_bitCount_0f7a4 N g (dI d10 r8 3) d10) fun u20 d18 => (some (u20, d18))) else if x2 = 2 then (some ((dI d10 r8 1), d10)) else none))) else (some ((-1), d4))))
set_option maxHeartbeats 4000000 in
set_option maxRecDepth 100000 in
theorem tX11_ghosts_E {p : Program} {l : Launch} {e : Env} {s : State} {m : MethodId} {args : Array Value} {below : List Frame} {meth : Method} {c : Code} {D : va_G} {cy : Nat → ClassId} {B : Bs} (C : Cx p s m args c cX11_ghosts 3 RX11 D cy B) (hr : meth.sig.returnType = (some .int)) (hlocks : meth.locks = false) {N : Nat} {g : Gs} {x0 : Nat} {x1 : Int32} {x2 : Int32} {vz : Int32} {dz : Ds} {d : Ds} (hf : fX11_ghosts N g x0 x1 x2 d = some (vz, dz)) : WB p l e rmX11_ghosts s m args below meth c 3 D cy B 0 0 (MQ below (QI D cy B vz g dz) args s 0 0 (wA B)) g d [(0, .ref (ad B x0)), (1, .int x1), (2, .int x2)] 0 [] := by
  unfold fX11_ghosts at hf
  refine b_iload_n C dX11_ghosts_0 1 rfl rfl ?_
  refine b_aload_n C dX11_ghosts_1 0 rfl rfl ?_
  obtain ⟨h1, hf⟩ := gd_s hf
  obtain ⟨r2, er2, hf⟩ := ob_s hf
  refine b_gR C dX11_ghosts_2 fl_X11_30 h1 er2 ?_
  obtain ⟨h3, hf⟩ := gd_s hf
  obtain ⟨u6, d4, k5, hf⟩ := cb_s hf
  refine b_cVI C [.int x1] dX11_ghosts_5 (kX0_keys l D cy B k5) lv_X11_107 ⟨rfl, rfl, Nat.le_of_ble_eq_true rfl, Nat.le_of_ble_eq_true rfl⟩ h3 (by decide) rfl (Nat.le_of_ble_eq_true rfl) ⟨Nat.zero_le _, Nat.zero_le _⟩ rfl ?_
  refine b_iushr C dX11_ghosts_8 ?_
  refine b_if_eq C (tgt := 14) dX11_ghosts_9 (by decide) (fun c7 => ?_) (fun c7 => ?_)
  · have hf := it_s c7 hf
    refine b_aload_n C dX11_ghosts_14 0 rfl rfl ?_
    obtain ⟨r8, er8, hf⟩ := ob_s hf
    refine b_gR C dX11_ghosts_15 fl_X11_37 h1 er8 ?_
    refine b_aload_n C dX11_ghosts_18 0 rfl rfl ?_
    refine b_gR C dX11_ghosts_19 fl_X11_30 h1 er2 ?_
    refine b_iload_n C dX11_ghosts_22 1 rfl rfl ?_
    obtain ⟨h9, hf⟩ := gd_s hf
    obtain ⟨d10, k11, hf⟩ := cv_s hf
    refine b_cVN C [] dX11_ghosts_23 (kX9_follow l D cy B k11) lv_X11_95 ⟨rfl, rfl, Nat.le_of_ble_eq_true rfl, Nat.le_of_ble_eq_true rfl⟩ h9 (by decide) rfl (Nat.le_of_ble_eq_true rfl) ⟨Nat.zero_le _, Nat.zero_le _⟩ rfl ?_
    refine b_iload_n C dX11_ghosts_26 2 rfl rfl ?_
    by_cases c12 : x2.toInt < 0 ∨ 2 < x2.toInt
    · have hf := it_s c12 hf
      refine b_tabOut C (tgt := 86) dX11_ghosts_27 c12 (by decide) ?_
      refine b_iconst C (v := (-1)) dX11_ghosts_86 (by decide) ?_
      exact b_iret C hr hlocks hf dX11_ghosts_87
    · have hf := if_s c12 hf
      by_cases c13 : x2 = 0
      · have hf := it_s c13 hf
        refine b_tabIn C (tgt := 52) (off := 25) dX11_ghosts_27 c13 (by decide) (by decide) (by decide) (by decide) ?_
        refine b_aload_n C dX11_ghosts_52 0 rfl rfl ?_
        refine b_gR C dX11_ghosts_53 fl_X11_37 h1 er8 ?_
        refine b_gI C dX11_ghosts_56 fl_X11_99 h9 ?_
        refine b_iload_n C dX11_ghosts_59 1 rfl rfl ?_
        refine b_iconst C (v := (-1)) dX11_ghosts_60 (by decide) ?_
        refine b_ixor C dX11_ghosts_61 ?_
        refine b_iand C dX11_ghosts_62 ?_
        obtain ⟨u16, d14, k15, hf⟩ := cb_s hf
        refine b_cSI C [] dX11_ghosts_63 (kJ6_bitCount_0f7a4 l D cy B k15) lv_X11_261 ⟨rfl, rfl, Nat.le_of_ble_eq_true rfl, Nat.le_of_ble_eq_true rfl⟩ rfl (Nat.le_of_ble_eq_true rfl) ⟨Nat.zero_le _, Nat.zero_le _⟩ rfl ?_
        exact b_iret C hr hlocks hf dX11_ghosts_66
      have hf := if_s c13 hf
      by_cases c17 : x2 = 1
      · have hf := it_s c17 hf
        refine b_tabIn C (tgt := 67) (off := 40) dX11_ghosts_27 c17 (by decide) (by decide) (by decide) (by decide) ?_
        refine b_aload_n C dX11_ghosts_67 0 rfl rfl ?_
        refine b_gR C dX11_ghosts_68 fl_X11_37 h1 er8 ?_
        refine b_gI C dX11_ghosts_71 fl_X11_103 h9 ?_
        obtain ⟨u20, d18, k19, hf⟩ := cb_s hf
        refine b_cSI C [] dX11_ghosts_74 (kJ6_bitCount_0f7a4 l D cy B k19) lv_X11_261 ⟨rfl, rfl, Nat.le_of_ble_eq_true rfl, Nat.le_of_ble_eq_true rfl⟩ rfl (Nat.le_of_ble_eq_true rfl) ⟨Nat.zero_le _, Nat.zero_le _⟩ rfl ?_
        exact b_iret C hr hlocks hf dX11_ghosts_77
      have hf := if_s c17 hf
      by_cases c21 : x2 = 2
      · have hf := it_s c21 hf
        refine b_tabIn C (tgt := 78) (off := 51) dX11_ghosts_27 c21 (by decide) (by decide) (by decide) (by decide) ?_
        refine b_aload_n C dX11_ghosts_78 0 rfl rfl ?_
        refine b_gR C dX11_ghosts_79 fl_X11_37 h1 er8 ?_
        refine b_gI C dX11_ghosts_82 fl_X11_266 h9 ?_
        exact b_iret C hr hlocks hf dX11_ghosts_85
      have hf := if_s c21 hf
      cases hf
  · have hf := if_s c7 hf
    refine b_iconst C (v := (-1)) dX11_ghosts_12 (by decide) ?_
    exact b_iret C hr hlocks hf dX11_ghosts_13
theorem kX11_ghosts (l : Launch) (D : va_G) (cy : Nat → ClassId) (B : Bs) {N : Nat} {g : Gs} {x0 : Nat} {x1 : Int32} {x2 : Int32} {vz : Int32} {dz : Ds} {d : Ds} (hf : fX11_ghosts N g x0 x1 x2 d = some (vz, dz)) : Met l yX11_ghosts (.code yX11_ghosts cX11_ghosts 3 (some .int) :: wl) rmX11_ghosts (PC D cy B [.ref (ad B x0), .int x1, .int x2] g d) (QI D cy B vz g dz) 0 0 (wA B) :=
  met_of (by decide +kernel) (Nat.le_of_ble_eq_true rfl) (fun p e s m args below meth c C hr hlocks _ => b_sub [(0, .ref (ad B x0)), (1, .int x1), (2, .int x2)] [0, 1, 2] rfl (tX11_ghosts_E C hr hlocks hf))
/-! KeyMatrix.ahead(II)I -/
theorem fl_X11_50 : FLR RX11 50 10 7 := ⟨⟨RX11, TX11, 10, rfl, by decide, inl10, Or.inl (mW (mT2 (List.mem_of_getElem? (i := 237) (by decide +kernel))) rfl)⟩, by decide, by decide +kernel⟩
theorem yo_X1_copyFrom : yX1_copyFrom.cls ≠ "java/lang/invoke/MethodHandle" ∧ yX1_copyFrom.cls ≠ "java/lang/invoke/VarHandle" ∧ (parseMethodDescriptor yX1_copyFrom.desc).map (fun d => d.parameters.length) = some 1 := by decide +kernel
theorem co_X1_copyFrom : Cond.code yX1_copyFrom cX1_copyFrom 2 none ∈ wl := mW (mT5 (List.mem_of_getElem? (i := 37) (by decide +kernel))) rfl
theorem in_X1_copyFrom : Cond.initialized yX1_copyFrom.cls ∈ wl := mW (mT1 (List.mem_of_getElem? (i := 7) (by decide +kernel))) rfl
theorem im_X1_copyFrom : Cond.instanceMethod yX1_copyFrom ∈ wl := mW (mT5 (List.mem_of_getElem? (i := 35) (by decide +kernel))) rfl
theorem se_X1_copyFrom : Cond.selects yX1_copyFrom.cls yX1_copyFrom yX1_copyFrom ∈ wl := mW (mT5 (List.mem_of_getElem? (i := 36) (by decide +kernel))) rfl
theorem lv_X11_269 : LV RX11 269 yX1_copyFrom cX1_copyFrom 2 none 1 1 := ⟨⟨(RX1, TX1, 6), rfl, rfl⟩, yo_X1_copyFrom, mW (mT5 (List.mem_of_getElem? (i := 34) (by decide +kernel))) rfl, im_X1_copyFrom, se_X1_copyFrom, in_X1_copyFrom, co_X1_copyFrom⟩
theorem dX11_ahead_0 : decode cX11_ahead 0 = .ok (.iload_n 1, 1) := by decide +kernel
theorem dX11_ahead_1 : decode cX11_ahead 1 = .ok (.iconst 1, 1) := by decide +kernel
theorem dX11_ahead_2 : decode cX11_ahead 2 = .ok (.if_icmp .lt 28, 3) := by decide +kernel
theorem dX11_ahead_5 : decode cX11_ahead 5 = .ok (.iload_n 1, 1) := by decide +kernel
theorem dX11_ahead_6 : decode cX11_ahead 6 = .ok (.bipush 120, 2) := by decide +kernel
theorem dX11_ahead_8 : decode cX11_ahead 8 = .ok (.if_icmp .gt 22, 3) := by decide +kernel
theorem dX11_ahead_11 : decode cX11_ahead 11 = .ok (.iload_n 2, 1) := by decide +kernel
theorem dX11_ahead_12 : decode cX11_ahead 12 = .ok (.ifCond .lt 18, 3) := by decide +kernel
theorem dX11_ahead_15 : decode cX11_ahead 15 = .ok (.iload_n 2, 1) := by decide +kernel
theorem dX11_ahead_16 : decode cX11_ahead 16 = .ok (.iconst 4, 1) := by decide +kernel
theorem dX11_ahead_17 : decode cX11_ahead 17 = .ok (.if_icmp .gt 13, 3) := by decide +kernel
theorem dX11_ahead_20 : decode cX11_ahead 20 = .ok (.aload_n 0, 1) := by decide +kernel
theorem dX11_ahead_21 : decode cX11_ahead 21 = .ok (.getfield 30, 3) := by decide +kernel
theorem dX11_ahead_24 : decode cX11_ahead 24 = .ok (.invokevirtual 107, 3) := by decide +kernel
theorem dX11_ahead_27 : decode cX11_ahead 27 = .ok (.ifCond .ne 5, 3) := by decide +kernel
theorem dX11_ahead_30 : decode cX11_ahead 30 = .ok (.iconst (-1), 1) := by decide +kernel
theorem dX11_ahead_31 : decode cX11_ahead 31 = .ok (.ireturn, 1) := by decide +kernel
theorem dX11_ahead_32 : decode cX11_ahead 32 = .ok (.aload_n 0, 1) := by decide +kernel
theorem dX11_ahead_33 : decode cX11_ahead 33 = .ok (.getfield 50, 3) := by decide +kernel
theorem dX11_ahead_36 : decode cX11_ahead 36 = .ok (.aload_n 0, 1) := by decide +kernel
theorem dX11_ahead_37 : decode cX11_ahead 37 = .ok (.getfield 46, 3) := by decide +kernel
theorem dX11_ahead_40 : decode cX11_ahead 40 = .ok (.invokevirtual 269, 3) := by decide +kernel
theorem dX11_ahead_43 : decode cX11_ahead 43 = .ok (.iconst 0, 1) := by decide +kernel
theorem dX11_ahead_44 : decode cX11_ahead 44 = .ok (.istore_n 3, 1) := by decide +kernel
theorem dX11_ahead_45 : decode cX11_ahead 45 = .ok (.iload_n 3, 1) := by decide +kernel
theorem dX11_ahead_46 : decode cX11_ahead 46 = .ok (.iload_n 1, 1) := by decide +kernel
theorem dX11_ahead_47 : decode cX11_ahead 47 = .ok (.if_icmp .ge 16, 3) := by decide +kernel
theorem dX11_ahead_50 : decode cX11_ahead 50 = .ok (.aload_n 0, 1) := by decide +kernel
theorem dX11_ahead_51 : decode cX11_ahead 51 = .ok (.getfield 50, 3) := by decide +kernel
theorem dX11_ahead_54 : decode cX11_ahead 54 = .ok (.invokevirtual 120, 3) := by decide +kernel
theorem dX11_ahead_57 : decode cX11_ahead 57 = .ok (.iinc 3 1, 3) := by decide +kernel
theorem dX11_ahead_60 : decode cX11_ahead 60 = .ok (.goto (-15), 3) := by decide +kernel
theorem dX11_ahead_63 : decode cX11_ahead 63 = .ok (.aload_n 0, 1) := by decide +kernel
theorem dX11_ahead_64 : decode cX11_ahead 64 = .ok (.getfield 50, 3) := by decide +kernel
theorem dX11_ahead_67 : decode cX11_ahead 67 = .ok (.getfield 163, 3) := by decide +kernel
theorem dX11_ahead_70 : decode cX11_ahead 70 = .ok (.iconst (-1), 1) := by decide +kernel
theorem dX11_ahead_71 : decode cX11_ahead 71 = .ok (.invokevirtual 208, 3) := by decide +kernel
theorem dX11_ahead_74 : decode cX11_ahead 74 = .ok (.iload_n 2, 1) := by decide +kernel
theorem dX11_ahead_75 : decode cX11_ahead 75 = .ok (.tableswitch 81 0 3 #[29, 51, 62, 73], 29) := by decide +kernel
theorem dX11_ahead_104 : decode cX11_ahead 104 = .ok (.aload_n 0, 1) := by decide +kernel
theorem dX11_ahead_105 : decode cX11_ahead 105 = .ok (.getfield 50, 3) := by decide +kernel
theorem dX11_ahead_108 : decode cX11_ahead 108 = .ok (.getfield 111, 3) := by decide +kernel
theorem dX11_ahead_111 : decode cX11_ahead 111 = .ok (.getfield 115, 3) := by decide +kernel
theorem dX11_ahead_114 : decode cX11_ahead 114 = .ok (.aload_n 0, 1) := by decide +kernel
theorem dX11_ahead_115 : decode cX11_ahead 115 = .ok (.getfield 46, 3) := by decide +kernel
theorem dX11_ahead_118 : decode cX11_ahead 118 = .ok (.getfield 111, 3) := by decide +kernel
theorem dX11_ahead_121 : decode cX11_ahead 121 = .ok (.getfield 115, 3) := by decide +kernel
theorem dX11_ahead_124 : decode cX11_ahead 124 = .ok (.isub, 1) := by decide +kernel
theorem dX11_ahead_125 : decode cX11_ahead 125 = .ok (.ireturn, 1) := by decide +kernel
theorem dX11_ahead_126 : decode cX11_ahead 126 = .ok (.aload_n 0, 1) := by decide +kernel
theorem dX11_ahead_127 : decode cX11_ahead 127 = .ok (.getfield 50, 3) := by decide +kernel
theorem dX11_ahead_130 : decode cX11_ahead 130 = .ok (.getfield 163, 3) := by decide +kernel
theorem dX11_ahead_133 : decode cX11_ahead 133 = .ok (.getfield 211, 3) := by decide +kernel
theorem dX11_ahead_136 : decode cX11_ahead 136 = .ok (.ireturn, 1) := by decide +kernel
theorem dX11_ahead_137 : decode cX11_ahead 137 = .ok (.aload_n 0, 1) := by decide +kernel
theorem dX11_ahead_138 : decode cX11_ahead 138 = .ok (.getfield 50, 3) := by decide +kernel
theorem dX11_ahead_141 : decode cX11_ahead 141 = .ok (.getfield 163, 3) := by decide +kernel
theorem dX11_ahead_144 : decode cX11_ahead 144 = .ok (.getfield 213, 3) := by decide +kernel
theorem dX11_ahead_147 : decode cX11_ahead 147 = .ok (.ireturn, 1) := by decide +kernel
theorem dX11_ahead_148 : decode cX11_ahead 148 = .ok (.aload_n 0, 1) := by decide +kernel
theorem dX11_ahead_149 : decode cX11_ahead 149 = .ok (.getfield 50, 3) := by decide +kernel
theorem dX11_ahead_152 : decode cX11_ahead 152 = .ok (.invokevirtual 142, 3) := by decide +kernel
theorem dX11_ahead_155 : decode cX11_ahead 155 = .ok (.ireturn, 1) := by decide +kernel
theorem dX11_ahead_156 : decode cX11_ahead 156 = .ok (.aload_n 0, 1) := by decide +kernel
theorem dX11_ahead_157 : decode cX11_ahead 157 = .ok (.getfield 50, 3) := by decide +kernel
theorem dX11_ahead_160 : decode cX11_ahead 160 = .ok (.getfield 174, 3) := by decide +kernel
theorem dX11_ahead_163 : decode cX11_ahead 163 = .ok (.getfield 178, 3) := by decide +kernel
theorem dX11_ahead_166 : decode cX11_ahead 166 = .ok (.ireturn, 1) := by decide +kernel
def rmX11_ahead : Room := { frames := 7, cells := 0, slots := 0, locals := 167 }
set_option maxRecDepth 100000 in
def fX11_ahead_J30 (N : Nat) (g : Gs) (x0 : Nat) (x1 : Int32) (x2 : Int32) (d : Ds) : Option (Int32 × Ds) := some ((-1), d)
set_option maxHeartbeats 4000000 in
set_option maxRecDepth 100000 in
theorem tX11_ahead_30 {p : Program} {l : Launch} {e : Env} {s : State} {m : MethodId} {args : Array Value} {below : List Frame} {meth : Method} {c : Code} {D : va_G} {cy : Nat → ClassId} {B : Bs} (C : Cx p s m args c cX11_ahead 4 RX11 D cy B) (hr : meth.sig.returnType = (some .int)) (hlocks : meth.locks = false) {N : Nat} {g : Gs} {x0 : Nat} {x1 : Int32} {x2 : Int32} {vz : Int32} {dz : Ds} {d : Ds} (hf : fX11_ahead_J30 N g x0 x1 x2 d = some (vz, dz)) : WB p l e rmX11_ahead s m args below meth c 4 D cy B 0 0 (MQ below (QI D cy B vz g dz) args s 0 0 (wA B)) g d [(0, .ref (ad B x0)), (1, .int x1), (2, .int x2)] 30 [] := by
  unfold fX11_ahead_J30 at hf
  refine b_iconst C (v := (-1)) dX11_ahead_30 (by decide) ?_
  exact b_iret C hr hlocks hf dX11_ahead_31
set_option maxRecDepth 100000 in
def fX11_ahead_B45 (N : Nat) (g : Gs) (x0 : Nat) (x1 : Int32) (x2 : Int32) (K45 : Int32 × Ds → Option (Int32 × Ds)) (y3 : Int32) (d : Ds) : Option (Int32 × Ds) := if x1 ≤ y3 then (gd (chk g x0 10) <| ob (gR g x0 7) fun r19 => (gd (chk g r19 1) <| ob (gR g r19 3) fun r21 => (gd (chk g r21 3) <| cv (fX3_gather N g r21 (-1) d) fun d23 => (if x2.toInt < 0 ∨ 3 < x2.toInt then (ob (gR g r19 2) fun r26 => (gd (chk g r26 4) <| some ((dI d23 r26 1), d23))) else if x2 = 0 then (ob (gR g r19 4) fun r29 => (gd (chk g r29 5) <| ob (gR g x0 6) fun r31 => (gd (chk g r31 1) <| ob (gR g r31 4) fun r33 => (gd (chk g r33 5) <| some (((dI d23 r29 4) - (dI d23 r33 4)), d23))))) else if x2 = 1 then (some ((dI d23 r21 6), d23)) else if x2 = 2 then (some ((dI d23 r21 8), d23)) else if x2 = 3 then (cb (fX1_activeLayers N g r19 d23) fun u40 d38 => (some (u40, d38))) else none)))) else (gd (chk g x0 10) <| ob (gR g x0 7) fun r42 => (gd (chk g r42 1) <| cv (fX1_passTick N g r42 d) fun d44 => (bd (y3 + 1) fun u46 => (K45 (u46, d44)))))
set_option maxHeartbeats 4000000 in
set_option maxRecDepth 100000 in
theorem tX11_ahead_45 {p : Program} {l : Launch} {e : Env} {s : State} {m : MethodId} {args : Array Value} {below : List Frame} {meth : Method} {c : Code} {D : va_G} {cy : Nat → ClassId} {B : Bs} (C : Cx p s m args c cX11_ahead 4 RX11 D cy B) (hr : meth.sig.returnType = (some .int)) (hlocks : meth.locks = false) {N : Nat} {g : Gs} {x0 : Nat} {x1 : Int32} {x2 : Int32} {vz : Int32} {dz : Ds} {K45 : Int32 × Ds → Option (Int32 × Ds)} (hK45 : ∀ a, K45 a = some (vz, dz) → WB p l e rmX11_ahead s m args below meth c 4 D cy B 0 0 (MQ below (QI D cy B vz g dz) args s 0 0 (wA B)) g a.2 [(0, .ref (ad B x0)), (1, .int x1), (2, .int x2), (3, .int a.1)] 45 []) {y3 : Int32} {d : Ds} (hf : fX11_ahead_B45 N g x0 x1 x2 K45 y3 d = some (vz, dz)) : WB p l e rmX11_ahead s m args below meth c 4 D cy B 0 0 (MQ below (QI D cy B vz g dz) args s 0 0 (wA B)) g d [(0, .ref (ad B x0)), (1, .int x1), (2, .int x2), (3, .int y3)] 45 [] := by
  unfold fX11_ahead_B45 at hf
  refine b_iload_n C dX11_ahead_45 3 rfl rfl ?_
  refine b_iload_n C dX11_ahead_46 1 rfl rfl ?_
  refine b_icmp_ge C (tgt := 63) dX11_ahead_47 (by decide) (fun c17 => ?_) (fun c17 => ?_)
  · have hf := it_s c17 hf
    refine b_aload_n C dX11_ahead_63 0 rfl rfl ?_
    obtain ⟨h18, hf⟩ := gd_s hf
    obtain ⟨r19, er19, hf⟩ := ob_s hf
    refine b_gR C dX11_ahead_64 fl_X11_50 h18 er19 ?_
    obtain ⟨h20, hf⟩ := gd_s hf
    obtain ⟨r21, er21, hf⟩ := ob_s hf
    refine b_gR C dX11_ahead_67 fl_X11_163 h20 er21 ?_
    refine b_iconst C (v := (-1)) dX11_ahead_70 (by decide) ?_
    obtain ⟨h22, hf⟩ := gd_s hf
    obtain ⟨d23, k24, hf⟩ := cv_s hf
    refine b_cVN C [] dX11_ahead_71 (kX3_gather l D cy B k24) lv_X11_208 ⟨rfl, rfl, Nat.le_of_ble_eq_true rfl, Nat.le_of_ble_eq_true rfl⟩ h22 (by decide) rfl (Nat.le_of_ble_eq_true rfl) ⟨Nat.zero_le _, Nat.zero_le _⟩ rfl ?_
    refine b_iload_n C dX11_ahead_74 2 rfl rfl ?_
    by_cases c25 : x2.toInt < 0 ∨ 3 < x2.toInt
    · have hf := it_s c25 hf
      refine b_tabOut C (tgt := 156) dX11_ahead_75 c25 (by decide) ?_
      refine b_aload_n C dX11_ahead_156 0 rfl rfl ?_
      refine b_gR C dX11_ahead_157 fl_X11_50 h18 er19 ?_
      obtain ⟨r26, er26, hf⟩ := ob_s hf
      refine b_gR C dX11_ahead_160 fl_X11_174 h20 er26 ?_
      obtain ⟨h27, hf⟩ := gd_s hf
      refine b_gI C dX11_ahead_163 fl_X11_178 h27 ?_
      exact b_iret C hr hlocks hf dX11_ahead_166
    · have hf := if_s c25 hf
      by_cases c28 : x2 = 0
      · have hf := it_s c28 hf
        refine b_tabIn C (tgt := 104) (off := 29) dX11_ahead_75 c28 (by decide) (by decide) (by decide) (by decide) ?_
        refine b_aload_n C dX11_ahead_104 0 rfl rfl ?_
        refine b_gR C dX11_ahead_105 fl_X11_50 h18 er19 ?_
        obtain ⟨r29, er29, hf⟩ := ob_s hf
        refine b_gR C dX11_ahead_108 fl_X11_111 h20 er29 ?_
        obtain ⟨h30, hf⟩ := gd_s hf
        refine b_gI C dX11_ahead_111 fl_X11_115 h30 ?_
        refine b_aload_n C dX11_ahead_114 0 rfl rfl ?_
        obtain ⟨r31, er31, hf⟩ := ob_s hf
        refine b_gR C dX11_ahead_115 fl_X11_46 h18 er31 ?_
        obtain ⟨h32, hf⟩ := gd_s hf
        obtain ⟨r33, er33, hf⟩ := ob_s hf
        refine b_gR C dX11_ahead_118 fl_X11_111 h32 er33 ?_
        obtain ⟨h34, hf⟩ := gd_s hf
        refine b_gI C dX11_ahead_121 fl_X11_115 h34 ?_
        refine b_isub C dX11_ahead_124 ?_
        exact b_iret C hr hlocks hf dX11_ahead_125
      have hf := if_s c28 hf
      by_cases c35 : x2 = 1
      · have hf := it_s c35 hf
        refine b_tabIn C (tgt := 126) (off := 51) dX11_ahead_75 c35 (by decide) (by decide) (by decide) (by decide) ?_
        refine b_aload_n C dX11_ahead_126 0 rfl rfl ?_
        refine b_gR C dX11_ahead_127 fl_X11_50 h18 er19 ?_
        refine b_gR C dX11_ahead_130 fl_X11_163 h20 er21 ?_
        refine b_gI C dX11_ahead_133 fl_X11_211 h22 ?_
        exact b_iret C hr hlocks hf dX11_ahead_136
      have hf := if_s c35 hf
      by_cases c36 : x2 = 2
      · have hf := it_s c36 hf
        refine b_tabIn C (tgt := 137) (off := 62) dX11_ahead_75 c36 (by decide) (by decide) (by decide) (by decide) ?_
        refine b_aload_n C dX11_ahead_137 0 rfl rfl ?_
        refine b_gR C dX11_ahead_138 fl_X11_50 h18 er19 ?_
        refine b_gR C dX11_ahead_141 fl_X11_163 h20 er21 ?_
        refine b_gI C dX11_ahead_144 fl_X11_213 h22 ?_
        exact b_iret C hr hlocks hf dX11_ahead_147
      have hf := if_s c36 hf
      by_cases c37 : x2 = 3
      · have hf := it_s c37 hf
        refine b_tabIn C (tgt := 148) (off := 73) dX11_ahead_75 c37 (by decide) (by decide) (by decide) (by decide) ?_
        refine b_aload_n C dX11_ahead_148 0 rfl rfl ?_
        refine b_gR C dX11_ahead_149 fl_X11_50 h18 er19 ?_
        obtain ⟨u40, d38, k39, hf⟩ := cb_s hf
        refine b_cVI C [] dX11_ahead_152 (kX1_activeLayers l D cy B k39) lv_X11_142 ⟨rfl, rfl, Nat.le_of_ble_eq_true rfl, Nat.le_of_ble_eq_true rfl⟩ h20 (by decide) rfl (Nat.le_of_ble_eq_true rfl) ⟨Nat.zero_le _, Nat.zero_le _⟩ rfl ?_
        exact b_iret C hr hlocks hf dX11_ahead_155
      have hf := if_s c37 hf
      cases hf
  · have hf := if_s c17 hf
    refine b_aload_n C dX11_ahead_50 0 rfl rfl ?_
    obtain ⟨h41, hf⟩ := gd_s hf
    obtain ⟨r42, er42, hf⟩ := ob_s hf
    refine b_gR C dX11_ahead_51 fl_X11_50 h41 er42 ?_
    obtain ⟨h43, hf⟩ := gd_s hf
    obtain ⟨d44, k45, hf⟩ := cv_s hf
    refine b_cVN C [] dX11_ahead_54 (kX1_passTick l D cy B k45) lv_X11_120 ⟨rfl, rfl, Nat.le_of_ble_eq_true rfl, Nat.le_of_ble_eq_true rfl⟩ h43 (by decide) rfl (Nat.le_of_ble_eq_true rfl) ⟨Nat.zero_le _, Nat.zero_le _⟩ rfl ?_
    obtain ⟨u46, eu46, hf⟩ := bd_s hf
    refine b_iinc C dX11_ahead_57 3 rfl (by rw [eu46]; rfl) [(3, .int u46), (0, .ref (ad B x0)), (1, .int x1), (2, .int x2)] (by decide) rfl ?_
    refine b_goto C (tgt := 45) dX11_ahead_60 (by decide) ?_
    refine b_sub [(0, .ref (ad B x0)), (1, .int x1), (2, .int x2), (3, .int u46)] [1, 2, 3, 0] rfl ?_
    exact hK45 (u46, d44) hf
def fX11_ahead_L45 (N : Nat) (g : Gs) (x0 : Nat) (x1 : Int32) (x2 : Int32) : Int32 × Ds → Option (Int32 × Ds) := lp (fun K45 a => fX11_ahead_B45 N g x0 x1 x2 K45 a.1 a.2) N
theorem tX11_ahead_L45 {p : Program} {l : Launch} {e : Env} {s : State} {m : MethodId} {args : Array Value} {below : List Frame} {meth : Method} {c : Code} {D : va_G} {cy : Nat → ClassId} {B : Bs} (C : Cx p s m args c cX11_ahead 4 RX11 D cy B) (hr : meth.sig.returnType = (some .int)) (hlocks : meth.locks = false) {N : Nat} {g : Gs} {x0 : Nat} {x1 : Int32} {x2 : Int32} {vz : Int32} {dz : Ds} (a : Int32 × Ds) (hf : fX11_ahead_L45 N g x0 x1 x2 a = some (vz, dz)) : WB p l e rmX11_ahead s m args below meth c 4 D cy B 0 0 (MQ below (QI D cy B vz g dz) args s 0 0 (wA B)) g a.2 [(0, .ref (ad B x0)), (1, .int x1), (2, .int x2), (3, .int a.1)] 45 [] :=
  lp_w (fun K45 hK45 a ha => tX11_ahead_45 C hr hlocks hK45 ha) N a hf
set_option maxRecDepth 100000 in
def fX11_ahead (N : Nat) (g : Gs) (x0 : Nat) (x1 : Int32) (x2 : Int32) (d : Ds) : Option (Int32 × Ds) := if x1 < (1 : Int32) then (fX11_ahead_J30 N g x0 x1 x2 d) else (if (120 : Int32) < x1 then (fX11_ahead_J30 N g x0 x1 x2 d) else (if x2 < 0 then (fX11_ahead_J30 N g x0 x1 x2 d) else (if (4 : Int32) < x2 then (fX11_ahead_J30 N g x0 x1 x2 d) else (gd (chk g x0 10) <| ob (gR g x0 4) fun r6 => (gd (chk g r6 0) <| cb (fX0_keys N g r6 d) fun u10 d8 => (if u10 = 0 then (fX11_ahead_J30 N g x0 x1 x2 d8) else (ob (gR g x0 7) fun r12 => (ob (gR g x0 6) fun r13 => (gd (chk g r12 1) <| cv (fX1_copyFrom N g r12 r13 d8) fun d15 => (fX11_ahead_L45 N g x0 x1 x2 (0, d15)))))))))))
set_option maxHeartbeats 4000000 in
set_option maxRecDepth 100000 in
theorem tX11_ahead_E {p : Program} {l : Launch} {e : Env} {s : State} {m : MethodId} {args : Array Value} {below : List Frame} {meth : Method} {c : Code} {D : va_G} {cy : Nat → ClassId} {B : Bs} (C : Cx p s m args c cX11_ahead 4 RX11 D cy B) (hr : meth.sig.returnType = (some .int)) (hlocks : meth.locks = false) {N : Nat} {g : Gs} {x0 : Nat} {x1 : Int32} {x2 : Int32} {vz : Int32} {dz : Ds} {d : Ds} (hf : fX11_ahead N g x0 x1 x2 d = some (vz, dz)) : WB p l e rmX11_ahead s m args below meth c 4 D cy B 0 0 (MQ below (QI D cy B vz g dz) args s 0 0 (wA B)) g d [(0, .ref (ad B x0)), (1, .int x1), (2, .int x2)] 0 [] := by
  unfold fX11_ahead at hf
  refine b_iload_n C dX11_ahead_0 1 rfl rfl ?_
  refine b_iconst C (v := 1) dX11_ahead_1 (by decide) ?_
  refine b_icmp_lt C (tgt := 30) dX11_ahead_2 (by decide) (fun c1 => ?_) (fun c1 => ?_)
  · have hf := it_s c1 hf
    refine b_sub [(0, .ref (ad B x0)), (1, .int x1), (2, .int x2)] [0, 1, 2] rfl ?_
    exact tX11_ahead_30 C hr hlocks hf
  · have hf := if_s c1 hf
    refine b_iload_n C dX11_ahead_5 1 rfl rfl ?_
    refine b_bipush C (v := 120) dX11_ahead_6 (by decide) ?_
    refine b_icmp_gt C (tgt := 30) dX11_ahead_8 (by decide) (fun c2 => ?_) (fun c2 => ?_)
    · have hf := it_s c2 hf
      refine b_sub [(0, .ref (ad B x0)), (1, .int x1), (2, .int x2)] [0, 1, 2] rfl ?_
      exact tX11_ahead_30 C hr hlocks hf
    · have hf := if_s c2 hf
      refine b_iload_n C dX11_ahead_11 2 rfl rfl ?_
      refine b_if_lt C (tgt := 30) dX11_ahead_12 (by decide) (fun c3 => ?_) (fun c3 => ?_)
      · have hf := it_s c3 hf
        refine b_sub [(0, .ref (ad B x0)), (1, .int x1), (2, .int x2)] [0, 1, 2] rfl ?_
        exact tX11_ahead_30 C hr hlocks hf
      · have hf := if_s c3 hf
        refine b_iload_n C dX11_ahead_15 2 rfl rfl ?_
        refine b_iconst C (v := 4) dX11_ahead_16 (by decide) ?_
        refine b_icmp_gt C (tgt := 30) dX11_ahead_17 (by decide) (fun c4 => ?_) (fun c4 => ?_)
        · have hf := it_s c4 hf
          refine b_sub [(0, .ref (ad B x0)), (1, .int x1), (2, .int x2)] [0, 1, 2] rfl ?_
          exact tX11_ahead_30 C hr hlocks hf
        · have hf := if_s c4 hf
          refine b_aload_n C dX11_ahead_20 0 rfl rfl ?_
          obtain ⟨h5, hf⟩ := gd_s hf
          obtain ⟨r6, er6, hf⟩ := ob_s hf
          refine b_gR C dX11_ahead_21 fl_X11_30 h5 er6 ?_
          obtain ⟨h7, hf⟩ := gd_s hf
          obtain ⟨u10, d8, k9, hf⟩ := cb_s hf
          refine b_cVI C [] dX11_ahead_24 (kX0_keys l D cy B k9) lv_X11_107 ⟨rfl, rfl, Nat.le_of_ble_eq_true rfl, Nat.le_of_ble_eq_true rfl⟩ h7 (by decide) rfl (Nat.le_of_ble_eq_true rfl) ⟨Nat.zero_le _, Nat.zero_le _⟩ rfl ?_
          refine b_if_ne C (tgt := 32) dX11_ahead_27 (by decide) (fun c11 => ?_) (fun c11 => ?_)
          · have hf := if_s c11 hf
            refine b_aload_n C dX11_ahead_32 0 rfl rfl ?_
            obtain ⟨r12, er12, hf⟩ := ob_s hf
            refine b_gR C dX11_ahead_33 fl_X11_50 h5 er12 ?_
            refine b_aload_n C dX11_ahead_36 0 rfl rfl ?_
            obtain ⟨r13, er13, hf⟩ := ob_s hf
            refine b_gR C dX11_ahead_37 fl_X11_46 h5 er13 ?_
            obtain ⟨h14, hf⟩ := gd_s hf
            obtain ⟨d15, k16, hf⟩ := cv_s hf
            refine b_cVN C [] dX11_ahead_40 (kX1_copyFrom l D cy B k16) lv_X11_269 ⟨rfl, rfl, Nat.le_of_ble_eq_true rfl, Nat.le_of_ble_eq_true rfl⟩ h14 (by decide) rfl (Nat.le_of_ble_eq_true rfl) ⟨Nat.zero_le _, Nat.zero_le _⟩ rfl ?_
            refine b_iconst C (v := 0) dX11_ahead_43 (by decide) ?_
            refine b_istore_n C dX11_ahead_44 rfl [(3, .int 0), (0, .ref (ad B x0)), (1, .int x1), (2, .int x2)] (by decide) rfl ?_
            refine b_sub [(0, .ref (ad B x0)), (1, .int x1), (2, .int x2), (3, .int 0)] [1, 2, 3, 0] rfl ?_
            exact tX11_ahead_L45 C hr hlocks (0, d15) hf
          · have hf := it_s c11 hf
            refine b_sub [(0, .ref (ad B x0)), (1, .int x1), (2, .int x2)] [0, 1, 2] rfl ?_
            exact tX11_ahead_30 C hr hlocks hf
theorem kX11_ahead (l : Launch) (D : va_G) (cy : Nat → ClassId) (B : Bs) {N : Nat} {g : Gs} {x0 : Nat} {x1 : Int32} {x2 : Int32} {vz : Int32} {dz : Ds} {d : Ds} (hf : fX11_ahead N g x0 x1 x2 d = some (vz, dz)) : Met l yX11_ahead (.code yX11_ahead cX11_ahead 4 (some .int) :: wl) rmX11_ahead (PC D cy B [.ref (ad B x0), .int x1, .int x2] g d) (QI D cy B vz g dz) 0 0 (wA B) :=
  met_of (by decide +kernel) (Nat.le_of_ble_eq_true rfl) (fun p e s m args below meth c C hr hlocks _ => b_sub [(0, .ref (ad B x0)), (1, .int x1), (2, .int x2)] [0, 1, 2] rfl (tX11_ahead_E C hr hlocks hf))
/-! KeyMatrix.hold(I)Z -/
theorem dX11_hold_0 : decode cX11_hold 0 = .ok (.iload_n 1, 1) := by decide +kernel
theorem dX11_hold_1 : decode cX11_hold 1 = .ok (.ifCond .lt 8, 3) := by decide +kernel
theorem dX11_hold_4 : decode cX11_hold 4 = .ok (.iload_n 1, 1) := by decide +kernel
theorem dX11_hold_5 : decode cX11_hold 5 = .ok (.iconst 3, 1) := by decide +kernel
theorem dX11_hold_6 : decode cX11_hold 6 = .ok (.if_icmp .lt 5, 3) := by decide +kernel
theorem dX11_hold_9 : decode cX11_hold 9 = .ok (.iconst 0, 1) := by decide +kernel
theorem dX11_hold_10 : decode cX11_hold 10 = .ok (.ireturn, 1) := by decide +kernel
theorem dX11_hold_11 : decode cX11_hold 11 = .ok (.aload_n 0, 1) := by decide +kernel
theorem dX11_hold_12 : decode cX11_hold 12 = .ok (.getfield 53, 3) := by decide +kernel
theorem dX11_hold_15 : decode cX11_hold 15 = .ok (.iload_n 1, 1) := by decide +kernel
theorem dX11_hold_16 : decode cX11_hold 16 = .ok (.aaload, 1) := by decide +kernel
theorem dX11_hold_17 : decode cX11_hold 17 = .ok (.aload_n 0, 1) := by decide +kernel
theorem dX11_hold_18 : decode cX11_hold 18 = .ok (.getfield 46, 3) := by decide +kernel
theorem dX11_hold_21 : decode cX11_hold 21 = .ok (.invokevirtual 269, 3) := by decide +kernel
theorem dX11_hold_24 : decode cX11_hold 24 = .ok (.aload_n 0, 1) := by decide +kernel
theorem dX11_hold_25 : decode cX11_hold 25 = .ok (.dup, 1) := by decide +kernel
theorem dX11_hold_26 : decode cX11_hold 26 = .ok (.getfield 57, 3) := by decide +kernel
theorem dX11_hold_29 : decode cX11_hold 29 = .ok (.iconst 1, 1) := by decide +kernel
theorem dX11_hold_30 : decode cX11_hold 30 = .ok (.iload_n 1, 1) := by decide +kernel
theorem dX11_hold_31 : decode cX11_hold 31 = .ok (.ishl, 1) := by decide +kernel
theorem dX11_hold_32 : decode cX11_hold 32 = .ok (.ior, 1) := by decide +kernel
theorem dX11_hold_33 : decode cX11_hold 33 = .ok (.putfield 57, 3) := by decide +kernel
theorem dX11_hold_36 : decode cX11_hold 36 = .ok (.iconst 1, 1) := by decide +kernel
theorem dX11_hold_37 : decode cX11_hold 37 = .ok (.ireturn, 1) := by decide +kernel
def rmX11_hold : Room := { frames := 3, cells := 0, slots := 0, locals := 82 }
set_option maxRecDepth 100000 in
def fX11_hold_J9 (N : Nat) (g : Gs) (x0 : Nat) (x1 : Int32) (d : Ds) : Option (Int32 × Ds) := some (0, d)
set_option maxHeartbeats 4000000 in
set_option maxRecDepth 100000 in
theorem tX11_hold_9 {p : Program} {l : Launch} {e : Env} {s : State} {m : MethodId} {args : Array Value} {below : List Frame} {meth : Method} {c : Code} {D : va_G} {cy : Nat → ClassId} {B : Bs} (C : Cx p s m args c cX11_hold 2 RX11 D cy B) (hr : meth.sig.returnType = (some .boolean)) (hlocks : meth.locks = false) {N : Nat} {g : Gs} {x0 : Nat} {x1 : Int32} {vz : Int32} {dz : Ds} {d : Ds} (hf : fX11_hold_J9 N g x0 x1 d = some (vz, dz)) : WB p l e rmX11_hold s m args below meth c 2 D cy B 0 0 (MQ below (QI D cy B vz g dz) args s 0 0 (wA B)) g d [(0, .ref (ad B x0)), (1, .int x1)] 9 [] := by
  unfold fX11_hold_J9 at hf
  refine b_iconst C (v := 0) dX11_hold_9 (by decide) ?_
  exact b_zret C hr hlocks (by decide) hf dX11_hold_10
set_option maxRecDepth 100000 in
def fX11_hold (N : Nat) (g : Gs) (x0 : Nat) (x1 : Int32) (d : Ds) : Option (Int32 × Ds) := if x1 < 0 then (fX11_hold_J9 N g x0 x1 d) else (if x1 < (3 : Int32) then (gd (chk g x0 10) <| ob (gR g x0 8) fun r4 => (gd (chk g r4 106) <| gd (¬ (x1 < 0 ∨ gL g r4 ≤ x1.toNatClampNeg)) <| ob (gR g r4 x1.toNatClampNeg) fun r7 => (ob (gR g x0 6) fun r8 => (gd (chk g r7 1) <| cv (fX1_copyFrom N g r7 r8 d) fun d10 => (bd (sI d10 x0 9 ((dI d10 x0 9) ||| ((1 : Int32) <<< (x1 &&& 31)))) fun d12 => (some (1, d12))))))) else (fX11_hold_J9 N g x0 x1 d))
set_option maxHeartbeats 4000000 in
set_option maxRecDepth 100000 in
theorem tX11_hold_E {p : Program} {l : Launch} {e : Env} {s : State} {m : MethodId} {args : Array Value} {below : List Frame} {meth : Method} {c : Code} {D : va_G} {cy : Nat → ClassId} {B : Bs} (C : Cx p s m args c cX11_hold 2 RX11 D cy B) (hr : meth.sig.returnType = (some .boolean)) (hlocks : meth.locks = false) {N : Nat} {g : Gs} {x0 : Nat} {x1 : Int32} {vz : Int32} {dz : Ds} {d : Ds} (hf : fX11_hold N g x0 x1 d = some (vz, dz)) : WB p l e rmX11_hold s m args below meth c 2 D cy B 0 0 (MQ below (QI D cy B vz g dz) args s 0 0 (wA B)) g d [(0, .ref (ad B x0)), (1, .int x1)] 0 [] := by
  unfold fX11_hold at hf
  refine b_iload_n C dX11_hold_0 1 rfl rfl ?_
  refine b_if_lt C (tgt := 9) dX11_hold_1 (by decide) (fun c1 => ?_) (fun c1 => ?_)
  · have hf := it_s c1 hf
    refine b_sub [(0, .ref (ad B x0)), (1, .int x1)] [0, 1] rfl ?_
    exact tX11_hold_9 C hr hlocks hf
  · have hf := if_s c1 hf
    refine b_iload_n C dX11_hold_4 1 rfl rfl ?_
    refine b_iconst C (v := 3) dX11_hold_5 (by decide) ?_
    refine b_icmp_lt C (tgt := 11) dX11_hold_6 (by decide) (fun c2 => ?_) (fun c2 => ?_)
    · have hf := it_s c2 hf
      refine b_aload_n C dX11_hold_11 0 rfl rfl ?_
      obtain ⟨h3, hf⟩ := gd_s hf
      obtain ⟨r4, er4, hf⟩ := ob_s hf
      refine b_gR C dX11_hold_12 fl_X11_53 h3 er4 ?_
      refine b_iload_n C dX11_hold_15 1 rfl rfl ?_
      obtain ⟨h5, hf⟩ := gd_s hf
      obtain ⟨h6, hf⟩ := gd_s hf
      obtain ⟨r7, er7, hf⟩ := ob_s hf
      refine b_aaldC C (by exact h5) h6 er7 dX11_hold_16 ?_
      refine b_aload_n C dX11_hold_17 0 rfl rfl ?_
      obtain ⟨r8, er8, hf⟩ := ob_s hf
      refine b_gR C dX11_hold_18 fl_X11_46 h3 er8 ?_
      obtain ⟨h9, hf⟩ := gd_s hf
      obtain ⟨d10, k11, hf⟩ := cv_s hf
      refine b_cVN C [] dX11_hold_21 (kX1_copyFrom l D cy B k11) lv_X11_269 ⟨rfl, rfl, Nat.le_of_ble_eq_true rfl, Nat.le_of_ble_eq_true rfl⟩ h9 (by decide) rfl (Nat.le_of_ble_eq_true rfl) ⟨Nat.zero_le _, Nat.zero_le _⟩ rfl ?_
      refine b_aload_n C dX11_hold_24 0 rfl rfl ?_
      refine b_dup C dX11_hold_25 rfl ?_
      refine b_gI C dX11_hold_26 fl_X11_57 h3 ?_
      refine b_iconst C (v := 1) dX11_hold_29 (by decide) ?_
      refine b_iload_n C dX11_hold_30 1 rfl rfl ?_
      refine b_ishl C dX11_hold_31 ?_
      refine b_ior C dX11_hold_32 ?_
      obtain ⟨d12, ed12, hf⟩ := bd_s hf
      refine b_pI C dX11_hold_33 fl_X11_57 fp10_9 h3 ed12 ?_
      refine b_iconst C (v := 1) dX11_hold_36 (by decide) ?_
      exact b_zret C hr hlocks (by decide) hf dX11_hold_37
    · have hf := if_s c2 hf
      refine b_sub [(0, .ref (ad B x0)), (1, .int x1)] [0, 1] rfl ?_
      exact tX11_hold_9 C hr hlocks hf
theorem kX11_hold (l : Launch) (D : va_G) (cy : Nat → ClassId) (B : Bs) {N : Nat} {g : Gs} {x0 : Nat} {x1 : Int32} {vz : Int32} {dz : Ds} {d : Ds} (hf : fX11_hold N g x0 x1 d = some (vz, dz)) : Met l yX11_hold (.code yX11_hold cX11_hold 2 (some .boolean) :: wl) rmX11_hold (PC D cy B [.ref (ad B x0), .int x1] g d) (QI D cy B vz g dz) 0 0 (wA B) :=
  met_of (by decide +kernel) (Nat.le_of_ble_eq_true rfl) (fun p e s m args below meth c C hr hlocks _ => b_sub [(0, .ref (ad B x0)), (1, .int x1)] [0, 1] rfl (tX11_hold_E C hr hlocks hf))
/-! KeyMatrix.restore(I)Z -/
theorem dX11_restore_0 : decode cX11_restore 0 = .ok (.iload_n 1, 1) := by decide +kernel
theorem dX11_restore_1 : decode cX11_restore 1 = .ok (.ifCond .lt 19, 3) := by decide +kernel
theorem dX11_restore_4 : decode cX11_restore 4 = .ok (.iload_n 1, 1) := by decide +kernel
theorem dX11_restore_5 : decode cX11_restore 5 = .ok (.iconst 3, 1) := by decide +kernel
theorem dX11_restore_6 : decode cX11_restore 6 = .ok (.if_icmp .ge 14, 3) := by decide +kernel
theorem dX11_restore_9 : decode cX11_restore 9 = .ok (.aload_n 0, 1) := by decide +kernel
theorem dX11_restore_10 : decode cX11_restore 10 = .ok (.getfield 57, 3) := by decide +kernel
theorem dX11_restore_13 : decode cX11_restore 13 = .ok (.iload_n 1, 1) := by decide +kernel
theorem dX11_restore_14 : decode cX11_restore 14 = .ok (.invokestatic 91, 3) := by decide +kernel
theorem dX11_restore_17 : decode cX11_restore 17 = .ok (.ifCond .ne 5, 3) := by decide +kernel
theorem dX11_restore_20 : decode cX11_restore 20 = .ok (.iconst 0, 1) := by decide +kernel
theorem dX11_restore_21 : decode cX11_restore 21 = .ok (.ireturn, 1) := by decide +kernel
theorem dX11_restore_22 : decode cX11_restore 22 = .ok (.aload_n 0, 1) := by decide +kernel
theorem dX11_restore_23 : decode cX11_restore 23 = .ok (.getfield 46, 3) := by decide +kernel
theorem dX11_restore_26 : decode cX11_restore 26 = .ok (.aload_n 0, 1) := by decide +kernel
theorem dX11_restore_27 : decode cX11_restore 27 = .ok (.getfield 53, 3) := by decide +kernel
theorem dX11_restore_30 : decode cX11_restore 30 = .ok (.iload_n 1, 1) := by decide +kernel
theorem dX11_restore_31 : decode cX11_restore 31 = .ok (.aaload, 1) := by decide +kernel
theorem dX11_restore_32 : decode cX11_restore 32 = .ok (.invokevirtual 269, 3) := by decide +kernel
theorem dX11_restore_35 : decode cX11_restore 35 = .ok (.iconst 1, 1) := by decide +kernel
theorem dX11_restore_36 : decode cX11_restore 36 = .ok (.ireturn, 1) := by decide +kernel
def rmX11_restore : Room := { frames := 3, cells := 0, slots := 0, locals := 82 }
set_option maxRecDepth 100000 in
def fX11_restore_J20 (N : Nat) (g : Gs) (x0 : Nat) (x1 : Int32) (d : Ds) : Option (Int32 × Ds) := some (0, d)
set_option maxHeartbeats 4000000 in
set_option maxRecDepth 100000 in
theorem tX11_restore_20 {p : Program} {l : Launch} {e : Env} {s : State} {m : MethodId} {args : Array Value} {below : List Frame} {meth : Method} {c : Code} {D : va_G} {cy : Nat → ClassId} {B : Bs} (C : Cx p s m args c cX11_restore 2 RX11 D cy B) (hr : meth.sig.returnType = (some .boolean)) (hlocks : meth.locks = false) {N : Nat} {g : Gs} {x0 : Nat} {x1 : Int32} {vz : Int32} {dz : Ds} {d : Ds} (hf : fX11_restore_J20 N g x0 x1 d = some (vz, dz)) : WB p l e rmX11_restore s m args below meth c 2 D cy B 0 0 (MQ below (QI D cy B vz g dz) args s 0 0 (wA B)) g d [(0, .ref (ad B x0)), (1, .int x1)] 20 [] := by
  unfold fX11_restore_J20 at hf
  refine b_iconst C (v := 0) dX11_restore_20 (by decide) ?_
  exact b_zret C hr hlocks (by decide) hf dX11_restore_21
set_option maxRecDepth 100000 in
def fX11_restore (N : Nat) (g : Gs) (x0 : Nat) (x1 : Int32) (d : Ds) : Option (Int32 × Ds) := if x1 < 0 then (fX11_restore_J20 N g x0 x1 d) else (if (3 : Int32) ≤ x1 then (fX11_restore_J20 N g x0 x1 d) else (gd (chk g x0 10) <| cb (fX11_isIn N g (dI d x0 9) x1 d) fun u6 d4 => (if u6 = 0 then (fX11_restore_J20 N g x0 x1 d4) else (ob (gR g x0 6) fun r8 => (ob (gR g x0 8) fun r9 => (gd (chk g r9 106) <| gd (¬ (x1 < 0 ∨ gL g r9 ≤ x1.toNatClampNeg)) <| ob (gR g r9 x1.toNatClampNeg) fun r12 => (gd (chk g r8 1) <| cv (fX1_copyFrom N g r8 r12 d4) fun d14 => (some (1, d14)))))))))
set_option maxHeartbeats 4000000 in
set_option maxRecDepth 100000 in
theorem tX11_restore_E {p : Program} {l : Launch} {e : Env} {s : State} {m : MethodId} {args : Array Value} {below : List Frame} {meth : Method} {c : Code} {D : va_G} {cy : Nat → ClassId} {B : Bs} (C : Cx p s m args c cX11_restore 2 RX11 D cy B) (hr : meth.sig.returnType = (some .boolean)) (hlocks : meth.locks = false) {N : Nat} {g : Gs} {x0 : Nat} {x1 : Int32} {vz : Int32} {dz : Ds} {d : Ds} (hf : fX11_restore N g x0 x1 d = some (vz, dz)) : WB p l e rmX11_restore s m args below meth c 2 D cy B 0 0 (MQ below (QI D cy B vz g dz) args s 0 0 (wA B)) g d [(0, .ref (ad B x0)), (1, .int x1)] 0 [] := by
  unfold fX11_restore at hf
  refine b_iload_n C dX11_restore_0 1 rfl rfl ?_
  refine b_if_lt C (tgt := 20) dX11_restore_1 (by decide) (fun c1 => ?_) (fun c1 => ?_)
  · have hf := it_s c1 hf
    refine b_sub [(0, .ref (ad B x0)), (1, .int x1)] [0, 1] rfl ?_
    exact tX11_restore_20 C hr hlocks hf
  · have hf := if_s c1 hf
    refine b_iload_n C dX11_restore_4 1 rfl rfl ?_
    refine b_iconst C (v := 3) dX11_restore_5 (by decide) ?_
    refine b_icmp_ge C (tgt := 20) dX11_restore_6 (by decide) (fun c2 => ?_) (fun c2 => ?_)
    · have hf := it_s c2 hf
      refine b_sub [(0, .ref (ad B x0)), (1, .int x1)] [0, 1] rfl ?_
      exact tX11_restore_20 C hr hlocks hf
    · have hf := if_s c2 hf
      refine b_aload_n C dX11_restore_9 0 rfl rfl ?_
      obtain ⟨h3, hf⟩ := gd_s hf
      refine b_gI C dX11_restore_10 fl_X11_57 h3 ?_
      refine b_iload_n C dX11_restore_13 1 rfl rfl ?_
      obtain ⟨u6, d4, k5, hf⟩ := cb_s hf
      refine b_cSI C [] dX11_restore_14 (kX11_isIn l D cy B k5) lv_X11_91 ⟨rfl, rfl, Nat.le_of_ble_eq_true rfl, Nat.le_of_ble_eq_true rfl⟩ rfl (Nat.le_of_ble_eq_true rfl) ⟨Nat.zero_le _, Nat.zero_le _⟩ rfl ?_
      refine b_if_ne C (tgt := 22) dX11_restore_17 (by decide) (fun c7 => ?_) (fun c7 => ?_)
      · have hf := if_s c7 hf
        refine b_aload_n C dX11_restore_22 0 rfl rfl ?_
        obtain ⟨r8, er8, hf⟩ := ob_s hf
        refine b_gR C dX11_restore_23 fl_X11_46 h3 er8 ?_
        refine b_aload_n C dX11_restore_26 0 rfl rfl ?_
        obtain ⟨r9, er9, hf⟩ := ob_s hf
        refine b_gR C dX11_restore_27 fl_X11_53 h3 er9 ?_
        refine b_iload_n C dX11_restore_30 1 rfl rfl ?_
        obtain ⟨h10, hf⟩ := gd_s hf
        obtain ⟨h11, hf⟩ := gd_s hf
        obtain ⟨r12, er12, hf⟩ := ob_s hf
        refine b_aaldC C (by exact h10) h11 er12 dX11_restore_31 ?_
        obtain ⟨h13, hf⟩ := gd_s hf
        obtain ⟨d14, k15, hf⟩ := cv_s hf
        refine b_cVN C [] dX11_restore_32 (kX1_copyFrom l D cy B k15) lv_X11_269 ⟨rfl, rfl, Nat.le_of_ble_eq_true rfl, Nat.le_of_ble_eq_true rfl⟩ h13 (by decide) rfl (Nat.le_of_ble_eq_true rfl) ⟨Nat.zero_le _, Nat.zero_le _⟩ rfl ?_
        refine b_iconst C (v := 1) dX11_restore_35 (by decide) ?_
        exact b_zret C hr hlocks (by decide) hf dX11_restore_36
      · have hf := it_s c7 hf
        refine b_sub [(0, .ref (ad B x0)), (1, .int x1)] [0, 1] rfl ?_
        exact tX11_restore_20 C hr hlocks hf
theorem kX11_restore (l : Launch) (D : va_G) (cy : Nat → ClassId) (B : Bs) {N : Nat} {g : Gs} {x0 : Nat} {x1 : Int32} {vz : Int32} {dz : Ds} {d : Ds} (hf : fX11_restore N g x0 x1 d = some (vz, dz)) : Met l yX11_restore (.code yX11_restore cX11_restore 2 (some .boolean) :: wl) rmX11_restore (PC D cy B [.ref (ad B x0), .int x1] g d) (QI D cy B vz g dz) 0 0 (wA B) :=
  met_of (by decide +kernel) (Nat.le_of_ble_eq_true rfl) (fun p e s m args below meth c C hr hlocks _ => b_sub [(0, .ref (ad B x0)), (1, .int x1)] [0, 1] rfl (tX11_restore_E C hr hlocks hf))
/-! KeyMatrix.setting(I)I -/
theorem fl_X11_288 : FLI RX11 288 0 2 := ⟨⟨RX0, TX0, 19, rfl, by decide, inl0, Or.inr (mT1 (List.mem_of_getElem? (i := 119) (by decide +kernel)))⟩, by decide, by decide +kernel⟩
theorem fl_X11_292 : FLI RX11 292 0 3 := ⟨⟨RX0, TX0, 19, rfl, by decide, inl0, Or.inr (mT1 (List.mem_of_getElem? (i := 123) (by decide +kernel)))⟩, by decide, by decide +kernel⟩
theorem fl_X11_295 : FLI RX11 295 0 4 := ⟨⟨RX0, TX0, 19, rfl, by decide, inl0, Or.inr (mT1 (List.mem_of_getElem? (i := 127) (by decide +kernel)))⟩, by decide, by decide +kernel⟩
theorem fl_X11_298 : FLI RX11 298 0 5 := ⟨⟨RX0, TX0, 19, rfl, by decide, inl0, Or.inr (mT1 (List.mem_of_getElem? (i := 131) (by decide +kernel)))⟩, by decide, by decide +kernel⟩
theorem fl_X11_301 : FLI RX11 301 0 6 := ⟨⟨RX0, TX0, 19, rfl, by decide, inl0, Or.inr (mT1 (List.mem_of_getElem? (i := 135) (by decide +kernel)))⟩, by decide, by decide +kernel⟩
theorem fl_X11_304 : FLI RX11 304 0 7 := ⟨⟨RX0, TX0, 19, rfl, by decide, inl0, Or.inr (mT1 (List.mem_of_getElem? (i := 139) (by decide +kernel)))⟩, by decide, by decide +kernel⟩
theorem fl_X11_307 : FLI RX11 307 0 8 := ⟨⟨RX0, TX0, 19, rfl, by decide, inl0, Or.inr (mT1 (List.mem_of_getElem? (i := 143) (by decide +kernel)))⟩, by decide, by decide +kernel⟩
theorem fl_X11_310 : FLI RX11 310 0 9 := ⟨⟨RX0, TX0, 19, rfl, by decide, inl0, Or.inr (mT1 (List.mem_of_getElem? (i := 147) (by decide +kernel)))⟩, by decide, by decide +kernel⟩
theorem dX11_setting_0 : decode cX11_setting 0 = .ok (.iload_n 1, 1) := by decide +kernel
theorem dX11_setting_1 : decode cX11_setting 1 = .ok (.tableswitch 139 13 21 #[51, 67, 83, 91, 99, 107, 115, 123, 131], 51) := by decide +kernel
theorem dX11_setting_52 : decode cX11_setting 52 = .ok (.aload_n 0, 1) := by decide +kernel
theorem dX11_setting_53 : decode cX11_setting 53 = .ok (.getfield 30, 3) := by decide +kernel
theorem dX11_setting_56 : decode cX11_setting 56 = .ok (.getfield 288, 3) := by decide +kernel
theorem dX11_setting_59 : decode cX11_setting 59 = .ok (.ifCond .eq 7, 3) := by decide +kernel
theorem dX11_setting_62 : decode cX11_setting 62 = .ok (.iconst 1, 1) := by decide +kernel
theorem dX11_setting_63 : decode cX11_setting 63 = .ok (.goto 4, 3) := by decide +kernel
theorem dX11_setting_66 : decode cX11_setting 66 = .ok (.iconst 0, 1) := by decide +kernel
theorem dX11_setting_67 : decode cX11_setting 67 = .ok (.ireturn, 1) := by decide +kernel
theorem dX11_setting_68 : decode cX11_setting 68 = .ok (.aload_n 0, 1) := by decide +kernel
theorem dX11_setting_69 : decode cX11_setting 69 = .ok (.getfield 30, 3) := by decide +kernel
theorem dX11_setting_72 : decode cX11_setting 72 = .ok (.getfield 292, 3) := by decide +kernel
theorem dX11_setting_75 : decode cX11_setting 75 = .ok (.ifCond .eq 7, 3) := by decide +kernel
theorem dX11_setting_78 : decode cX11_setting 78 = .ok (.iconst 1, 1) := by decide +kernel
theorem dX11_setting_79 : decode cX11_setting 79 = .ok (.goto 4, 3) := by decide +kernel
theorem dX11_setting_82 : decode cX11_setting 82 = .ok (.iconst 0, 1) := by decide +kernel
theorem dX11_setting_83 : decode cX11_setting 83 = .ok (.ireturn, 1) := by decide +kernel
theorem dX11_setting_84 : decode cX11_setting 84 = .ok (.aload_n 0, 1) := by decide +kernel
theorem dX11_setting_85 : decode cX11_setting 85 = .ok (.getfield 30, 3) := by decide +kernel
theorem dX11_setting_88 : decode cX11_setting 88 = .ok (.getfield 295, 3) := by decide +kernel
theorem dX11_setting_91 : decode cX11_setting 91 = .ok (.ireturn, 1) := by decide +kernel
theorem dX11_setting_92 : decode cX11_setting 92 = .ok (.aload_n 0, 1) := by decide +kernel
theorem dX11_setting_93 : decode cX11_setting 93 = .ok (.getfield 30, 3) := by decide +kernel
theorem dX11_setting_96 : decode cX11_setting 96 = .ok (.getfield 298, 3) := by decide +kernel
theorem dX11_setting_99 : decode cX11_setting 99 = .ok (.ireturn, 1) := by decide +kernel
theorem dX11_setting_100 : decode cX11_setting 100 = .ok (.aload_n 0, 1) := by decide +kernel
theorem dX11_setting_101 : decode cX11_setting 101 = .ok (.getfield 30, 3) := by decide +kernel
theorem dX11_setting_104 : decode cX11_setting 104 = .ok (.getfield 301, 3) := by decide +kernel
theorem dX11_setting_107 : decode cX11_setting 107 = .ok (.ireturn, 1) := by decide +kernel
theorem dX11_setting_108 : decode cX11_setting 108 = .ok (.aload_n 0, 1) := by decide +kernel
theorem dX11_setting_109 : decode cX11_setting 109 = .ok (.getfield 30, 3) := by decide +kernel
theorem dX11_setting_112 : decode cX11_setting 112 = .ok (.getfield 304, 3) := by decide +kernel
theorem dX11_setting_115 : decode cX11_setting 115 = .ok (.ireturn, 1) := by decide +kernel
theorem dX11_setting_116 : decode cX11_setting 116 = .ok (.aload_n 0, 1) := by decide +kernel
theorem dX11_setting_117 : decode cX11_setting 117 = .ok (.getfield 30, 3) := by decide +kernel
theorem dX11_setting_120 : decode cX11_setting 120 = .ok (.getfield 252, 3) := by decide +kernel
theorem dX11_setting_123 : decode cX11_setting 123 = .ok (.ireturn, 1) := by decide +kernel
theorem dX11_setting_124 : decode cX11_setting 124 = .ok (.aload_n 0, 1) := by decide +kernel
theorem dX11_setting_125 : decode cX11_setting 125 = .ok (.getfield 30, 3) := by decide +kernel
theorem dX11_setting_128 : decode cX11_setting 128 = .ok (.getfield 307, 3) := by decide +kernel
theorem dX11_setting_131 : decode cX11_setting 131 = .ok (.ireturn, 1) := by decide +kernel
theorem dX11_setting_132 : decode cX11_setting 132 = .ok (.aload_n 0, 1) := by decide +kernel
theorem dX11_setting_133 : decode cX11_setting 133 = .ok (.getfield 30, 3) := by decide +kernel
theorem dX11_setting_136 : decode cX11_setting 136 = .ok (.getfield 310, 3) := by decide +kernel
theorem dX11_setting_139 : decode cX11_setting 139 = .ok (.ireturn, 1) := by decide +kernel
theorem dX11_setting_140 : decode cX11_setting 140 = .ok (.iconst (-1), 1) := by decide +kernel
theorem dX11_setting_141 : decode cX11_setting 141 = .ok (.ireturn, 1) := by decide +kernel
def rmX11_setting : Room := { frames := 0, cells := 0, slots := 0, locals := 0 }
set_option maxRecDepth 100000 in
def fX11_setting_J67 (N : Nat) (g : Gs) (x0 : Nat) (x1 : Int32) (z0 : Int32) (d : Ds) : Option (Int32 × Ds) := some (z0, d)
set_option maxHeartbeats 4000000 in
set_option maxRecDepth 100000 in
theorem tX11_setting_67 {p : Program} {l : Launch} {e : Env} {s : State} {m : MethodId} {args : Array Value} {below : List Frame} {meth : Method} {c : Code} {D : va_G} {cy : Nat → ClassId} {B : Bs} (C : Cx p s m args c cX11_setting 2 RX11 D cy B) (hr : meth.sig.returnType = (some .int)) (hlocks : meth.locks = false) {N : Nat} {g : Gs} {x0 : Nat} {x1 : Int32} {vz : Int32} {dz : Ds} {z0 : Int32} {d : Ds} (hf : fX11_setting_J67 N g x0 x1 z0 d = some (vz, dz)) : WB p l e rmX11_setting s m args below meth c 2 D cy B 0 0 (MQ below (QI D cy B vz g dz) args s 0 0 (wA B)) g d [(0, .ref (ad B x0)), (1, .int x1)] 67 [.int z0] := by
  unfold fX11_setting_J67 at hf
  exact b_iret C hr hlocks hf dX11_setting_67
set_option maxRecDepth 100000 in
def fX11_setting_J83 (N : Nat) (g : Gs) (x0 : Nat) (x1 : Int32) (z0 : Int32) (d : Ds) : Option (Int32 × Ds) := some (z0, d)
set_option maxHeartbeats 4000000 in
set_option maxRecDepth 100000 in
theorem tX11_setting_83 {p : Program} {l : Launch} {e : Env} {s : State} {m : MethodId} {args : Array Value} {below : List Frame} {meth : Method} {c : Code} {D : va_G} {cy : Nat → ClassId} {B : Bs} (C : Cx p s m args c cX11_setting 2 RX11 D cy B) (hr : meth.sig.returnType = (some .int)) (hlocks : meth.locks = false) {N : Nat} {g : Gs} {x0 : Nat} {x1 : Int32} {vz : Int32} {dz : Ds} {z0 : Int32} {d : Ds} (hf : fX11_setting_J83 N g x0 x1 z0 d = some (vz, dz)) : WB p l e rmX11_setting s m args below meth c 2 D cy B 0 0 (MQ below (QI D cy B vz g dz) args s 0 0 (wA B)) g d [(0, .ref (ad B x0)), (1, .int x1)] 83 [.int z0] := by
  unfold fX11_setting_J83 at hf
  exact b_iret C hr hlocks hf dX11_setting_83
set_option maxRecDepth 100000 in
def fX11_setting (N : Nat) (g : Gs) (x0 : Nat) (x1 : Int32) (d : Ds) : Option (Int32 × Ds) := if x1.toInt < 13 ∨ 21 < x1.toInt then (some ((-1), d)) else if x1 = 13 then (gd (chk g x0 10) <| ob (gR g x0 4) fun r4 => (gd (chk g r4 0) <| if (dI d r4 2) = 0 then (fX11_setting_J67 N g x0 x1 0 d) else (fX11_setting_J67 N g x0 x1 1 d))) else if x1 = 14 then (gd (chk g x0 10) <| ob (gR g x0 4) fun r9 => (gd (chk g r9 0) <| if (dI d r9 3) = 0 then (fX11_setting_J83 N g x0 x1 0 d) else (fX11_setting_J83 N g x0 x1 1 d))) else if x1 = 15 then (gd (chk g x0 10) <| ob (gR g x0 4) fun r14 => (gd (chk g r14 0) <| some ((dI d r14 4), d))) else if x1 = 16 then (gd (chk g x0 10) <| ob (gR g x0 4) fun r18 => (gd (chk g r18 0) <| some ((dI d r18 5), d))) else if x1 = 17 then (gd (chk g x0 10) <| ob (gR g x0 4) fun r22 => (gd (chk g r22 0) <| some ((dI d r22 6), d))) else if x1 = 18 then (gd (chk g x0 10) <| ob (gR g x0 4) fun r26 => (gd (chk g r26 0) <| some ((dI d r26 7), d))) else if x1 = 19 then (gd (chk g x0 10) <| ob (gR g x0 4) fun r30 => (gd (chk g r30 0) <| some ((dI d r30 16), d))) else if x1 = 20 then (gd (chk g x0 10) <| ob (gR g x0 4) fun r34 => (gd (chk g r34 0) <| some ((dI d r34 8), d))) else if x1 = 21 then (gd (chk g x0 10) <| ob (gR g x0 4) fun r38 => (gd (chk g r38 0) <| some ((dI d r38 9), d))) else none
set_option maxHeartbeats 4000000 in
set_option maxRecDepth 100000 in
theorem tX11_setting_E {p : Program} {l : Launch} {e : Env} {s : State} {m : MethodId} {args : Array Value} {below : List Frame} {meth : Method} {c : Code} {D : va_G} {cy : Nat → ClassId} {B : Bs} (C : Cx p s m args c cX11_setting 2 RX11 D cy B) (hr : meth.sig.returnType = (some .int)) (hlocks : meth.locks = false) {N : Nat} {g : Gs} {x0 : Nat} {x1 : Int32} {vz : Int32} {dz : Ds} {d : Ds} (hf : fX11_setting N g x0 x1 d = some (vz, dz)) : WB p l e rmX11_setting s m args below meth c 2 D cy B 0 0 (MQ below (QI D cy B vz g dz) args s 0 0 (wA B)) g d [(0, .ref (ad B x0)), (1, .int x1)] 0 [] := by
  unfold fX11_setting at hf
  refine b_iload_n C dX11_setting_0 1 rfl rfl ?_
  by_cases c1 : x1.toInt < 13 ∨ 21 < x1.toInt
  · have hf := it_s c1 hf
    refine b_tabOut C (tgt := 140) dX11_setting_1 c1 (by decide) ?_
    refine b_iconst C (v := (-1)) dX11_setting_140 (by decide) ?_
    exact b_iret C hr hlocks hf dX11_setting_141
  · have hf := if_s c1 hf
    by_cases c2 : x1 = 13
    · have hf := it_s c2 hf
      refine b_tabIn C (tgt := 52) (off := 51) dX11_setting_1 c2 (by decide) (by decide) (by decide) (by decide) ?_
      refine b_aload_n C dX11_setting_52 0 rfl rfl ?_
      obtain ⟨h3, hf⟩ := gd_s hf
      obtain ⟨r4, er4, hf⟩ := ob_s hf
      refine b_gR C dX11_setting_53 fl_X11_30 h3 er4 ?_
      obtain ⟨h5, hf⟩ := gd_s hf
      refine b_gI C dX11_setting_56 fl_X11_288 h5 ?_
      refine b_if_eq C (tgt := 66) dX11_setting_59 (by decide) (fun c6 => ?_) (fun c6 => ?_)
      · have hf := it_s c6 hf
        refine b_iconst C (v := 0) dX11_setting_66 (by decide) ?_
        refine b_sub [(0, .ref (ad B x0)), (1, .int x1)] [0, 1] rfl ?_
        exact tX11_setting_67 C hr hlocks hf
      · have hf := if_s c6 hf
        refine b_iconst C (v := 1) dX11_setting_62 (by decide) ?_
        refine b_goto C (tgt := 67) dX11_setting_63 (by decide) ?_
        refine b_sub [(0, .ref (ad B x0)), (1, .int x1)] [0, 1] rfl ?_
        exact tX11_setting_67 C hr hlocks hf
    have hf := if_s c2 hf
    by_cases c7 : x1 = 14
    · have hf := it_s c7 hf
      refine b_tabIn C (tgt := 68) (off := 67) dX11_setting_1 c7 (by decide) (by decide) (by decide) (by decide) ?_
      refine b_aload_n C dX11_setting_68 0 rfl rfl ?_
      obtain ⟨h8, hf⟩ := gd_s hf
      obtain ⟨r9, er9, hf⟩ := ob_s hf
      refine b_gR C dX11_setting_69 fl_X11_30 h8 er9 ?_
      obtain ⟨h10, hf⟩ := gd_s hf
      refine b_gI C dX11_setting_72 fl_X11_292 h10 ?_
      refine b_if_eq C (tgt := 82) dX11_setting_75 (by decide) (fun c11 => ?_) (fun c11 => ?_)
      · have hf := it_s c11 hf
        refine b_iconst C (v := 0) dX11_setting_82 (by decide) ?_
        refine b_sub [(0, .ref (ad B x0)), (1, .int x1)] [0, 1] rfl ?_
        exact tX11_setting_83 C hr hlocks hf
      · have hf := if_s c11 hf
        refine b_iconst C (v := 1) dX11_setting_78 (by decide) ?_
        refine b_goto C (tgt := 83) dX11_setting_79 (by decide) ?_
        refine b_sub [(0, .ref (ad B x0)), (1, .int x1)] [0, 1] rfl ?_
        exact tX11_setting_83 C hr hlocks hf
    have hf := if_s c7 hf
    by_cases c12 : x1 = 15
    · have hf := it_s c12 hf
      refine b_tabIn C (tgt := 84) (off := 83) dX11_setting_1 c12 (by decide) (by decide) (by decide) (by decide) ?_
      refine b_aload_n C dX11_setting_84 0 rfl rfl ?_
      obtain ⟨h13, hf⟩ := gd_s hf
      obtain ⟨r14, er14, hf⟩ := ob_s hf
      refine b_gR C dX11_setting_85 fl_X11_30 h13 er14 ?_
      obtain ⟨h15, hf⟩ := gd_s hf
      refine b_gI C dX11_setting_88 fl_X11_295 h15 ?_
      exact b_iret C hr hlocks hf dX11_setting_91
    have hf := if_s c12 hf
    by_cases c16 : x1 = 16
    · have hf := it_s c16 hf
      refine b_tabIn C (tgt := 92) (off := 91) dX11_setting_1 c16 (by decide) (by decide) (by decide) (by decide) ?_
      refine b_aload_n C dX11_setting_92 0 rfl rfl ?_
      obtain ⟨h17, hf⟩ := gd_s hf
      obtain ⟨r18, er18, hf⟩ := ob_s hf
      refine b_gR C dX11_setting_93 fl_X11_30 h17 er18 ?_
      obtain ⟨h19, hf⟩ := gd_s hf
      refine b_gI C dX11_setting_96 fl_X11_298 h19 ?_
      exact b_iret C hr hlocks hf dX11_setting_99
    have hf := if_s c16 hf
    by_cases c20 : x1 = 17
    · have hf := it_s c20 hf
      refine b_tabIn C (tgt := 100) (off := 99) dX11_setting_1 c20 (by decide) (by decide) (by decide) (by decide) ?_
      refine b_aload_n C dX11_setting_100 0 rfl rfl ?_
      obtain ⟨h21, hf⟩ := gd_s hf
      obtain ⟨r22, er22, hf⟩ := ob_s hf
      refine b_gR C dX11_setting_101 fl_X11_30 h21 er22 ?_
      obtain ⟨h23, hf⟩ := gd_s hf
      refine b_gI C dX11_setting_104 fl_X11_301 h23 ?_
      exact b_iret C hr hlocks hf dX11_setting_107
    have hf := if_s c20 hf
    by_cases c24 : x1 = 18
    · have hf := it_s c24 hf
      refine b_tabIn C (tgt := 108) (off := 107) dX11_setting_1 c24 (by decide) (by decide) (by decide) (by decide) ?_
      refine b_aload_n C dX11_setting_108 0 rfl rfl ?_
      obtain ⟨h25, hf⟩ := gd_s hf
      obtain ⟨r26, er26, hf⟩ := ob_s hf
      refine b_gR C dX11_setting_109 fl_X11_30 h25 er26 ?_
      obtain ⟨h27, hf⟩ := gd_s hf
      refine b_gI C dX11_setting_112 fl_X11_304 h27 ?_
      exact b_iret C hr hlocks hf dX11_setting_115
    have hf := if_s c24 hf
    by_cases c28 : x1 = 19
    · have hf := it_s c28 hf
      refine b_tabIn C (tgt := 116) (off := 115) dX11_setting_1 c28 (by decide) (by decide) (by decide) (by decide) ?_
      refine b_aload_n C dX11_setting_116 0 rfl rfl ?_
      obtain ⟨h29, hf⟩ := gd_s hf
      obtain ⟨r30, er30, hf⟩ := ob_s hf
      refine b_gR C dX11_setting_117 fl_X11_30 h29 er30 ?_
      obtain ⟨h31, hf⟩ := gd_s hf
      refine b_gI C dX11_setting_120 fl_X11_252 h31 ?_
      exact b_iret C hr hlocks hf dX11_setting_123
    have hf := if_s c28 hf
    by_cases c32 : x1 = 20
    · have hf := it_s c32 hf
      refine b_tabIn C (tgt := 124) (off := 123) dX11_setting_1 c32 (by decide) (by decide) (by decide) (by decide) ?_
      refine b_aload_n C dX11_setting_124 0 rfl rfl ?_
      obtain ⟨h33, hf⟩ := gd_s hf
      obtain ⟨r34, er34, hf⟩ := ob_s hf
      refine b_gR C dX11_setting_125 fl_X11_30 h33 er34 ?_
      obtain ⟨h35, hf⟩ := gd_s hf
      refine b_gI C dX11_setting_128 fl_X11_307 h35 ?_
      exact b_iret C hr hlocks hf dX11_setting_131
    have hf := if_s c32 hf
    by_cases c36 : x1 = 21
    · have hf := it_s c36 hf
      refine b_tabIn C (tgt := 132) (off := 131) dX11_setting_1 c36 (by decide) (by decide) (by decide) (by decide) ?_
      refine b_aload_n C dX11_setting_132 0 rfl rfl ?_
      obtain ⟨h37, hf⟩ := gd_s hf
      obtain ⟨r38, er38, hf⟩ := ob_s hf
      refine b_gR C dX11_setting_133 fl_X11_30 h37 er38 ?_
      obtain ⟨h39, hf⟩ := gd_s hf
      refine b_gI C dX11_setting_136 fl_X11_310 h39 ?_
      exact b_iret C hr hlocks hf dX11_setting_139
    have hf := if_s c36 hf
    cases hf
theorem kX11_setting (l : Launch) (D : va_G) (cy : Nat → ClassId) (B : Bs) {N : Nat} {g : Gs} {x0 : Nat} {x1 : Int32} {vz : Int32} {dz : Ds} {d : Ds} (hf : fX11_setting N g x0 x1 d = some (vz, dz)) : Met l yX11_setting (.code yX11_setting cX11_setting 2 (some .int) :: wl) rmX11_setting (PC D cy B [.ref (ad B x0), .int x1] g d) (QI D cy B vz g dz) 0 0 (wA B) :=
  met_of (by decide +kernel) (Nat.le_of_ble_eq_true rfl) (fun p e s m args below meth c C hr hlocks _ => b_sub [(0, .ref (ad B x0)), (1, .int x1)] [0, 1] rfl (tX11_setting_E C hr hlocks hf))
/-! KeyMatrix.count(I)I -/
theorem yo_X11_setting : yX11_setting.cls ≠ "java/lang/invoke/MethodHandle" ∧ yX11_setting.cls ≠ "java/lang/invoke/VarHandle" ∧ (parseMethodDescriptor yX11_setting.desc).map (fun d => d.parameters.length) = some 1 := by decide +kernel
theorem co_X11_setting : Cond.code yX11_setting cX11_setting 2 (some .int) ∈ wl := mW (mT5 (List.mem_of_getElem? (i := 71) (by decide +kernel))) rfl
theorem in_X11_setting : Cond.initialized yX11_setting.cls ∈ wl := mW (mT1 (List.mem_of_getElem? (i := 1) (by decide +kernel))) rfl
theorem im_X11_setting : Cond.instanceMethod yX11_setting ∈ wl := mW (mT5 (List.mem_of_getElem? (i := 70) (by decide +kernel))) rfl
theorem se_X11_setting : Cond.selects yX11_setting.cls yX11_setting yX11_setting ∈ wl := mW (mT0 (List.mem_of_getElem? (i := 30) (by decide +kernel))) rfl
theorem lv_X11_285 : LV RX11 285 yX11_setting cX11_setting 2 (some .int) 1 10 := ⟨⟨(RX11, TX11, 10), rfl, rfl⟩, yo_X11_setting, mW (mT5 (List.mem_of_getElem? (i := 68) (by decide +kernel))) rfl, im_X11_setting, se_X11_setting, in_X11_setting, co_X11_setting⟩
theorem fl_X11_272 : FLI RX11 272 0 0 := ⟨⟨RX0, TX0, 19, rfl, by decide, inl0, Or.inr (mT1 (List.mem_of_getElem? (i := 111) (by decide +kernel)))⟩, by decide, by decide +kernel⟩
theorem fl_X11_275 : FLI RX11 275 0 1 := ⟨⟨RX0, TX0, 19, rfl, by decide, inl0, Or.inr (mT1 (List.mem_of_getElem? (i := 115) (by decide +kernel)))⟩, by decide, by decide +kernel⟩
theorem fl_X11_278 : FLI RX11 278 1 5 := ⟨⟨RX1, TX1, 6, rfl, by decide, inl1, Or.inr (mT2 (List.mem_of_getElem? (i := 215) (by decide +kernel)))⟩, by decide, by decide +kernel⟩
theorem fl_X11_281 : FLI RX11 281 3 5 := ⟨⟨RX3, TX3, 9, rfl, by decide, inl3, Or.inr (mT2 (List.mem_of_getElem? (i := 110) (by decide +kernel)))⟩, by decide, by decide +kernel⟩
theorem fl_X11_284 : FLI RX11 284 4 2 := ⟨⟨RX4, TX4, 3, rfl, by decide, inl4, Or.inr (mT2 (List.mem_of_getElem? (i := 84) (by decide +kernel)))⟩, by decide, by decide +kernel⟩
theorem dX11_count_0 : decode cX11_count 0 = .ok (.iload_n 1, 1) := by decide +kernel
theorem dX11_count_1 : decode cX11_count 1 = .ok (.tableswitch 189 0 12 #[67, 75, 83, 91, 102, 110, 121, 132, 143, 154, 165, 176, 181], 67) := by decide +kernel
theorem dX11_count_68 : decode cX11_count 68 = .ok (.aload_n 0, 1) := by decide +kernel
theorem dX11_count_69 : decode cX11_count 69 = .ok (.getfield 30, 3) := by decide +kernel
theorem dX11_count_72 : decode cX11_count 72 = .ok (.getfield 272, 3) := by decide +kernel
theorem dX11_count_75 : decode cX11_count 75 = .ok (.ireturn, 1) := by decide +kernel
theorem dX11_count_76 : decode cX11_count 76 = .ok (.aload_n 0, 1) := by decide +kernel
theorem dX11_count_77 : decode cX11_count 77 = .ok (.getfield 30, 3) := by decide +kernel
theorem dX11_count_80 : decode cX11_count 80 = .ok (.getfield 275, 3) := by decide +kernel
theorem dX11_count_83 : decode cX11_count 83 = .ok (.ireturn, 1) := by decide +kernel
theorem dX11_count_84 : decode cX11_count 84 = .ok (.aload_n 0, 1) := by decide +kernel
theorem dX11_count_85 : decode cX11_count 85 = .ok (.getfield 46, 3) := by decide +kernel
theorem dX11_count_88 : decode cX11_count 88 = .ok (.getfield 278, 3) := by decide +kernel
theorem dX11_count_91 : decode cX11_count 91 = .ok (.ireturn, 1) := by decide +kernel
theorem dX11_count_92 : decode cX11_count 92 = .ok (.aload_n 0, 1) := by decide +kernel
theorem dX11_count_93 : decode cX11_count 93 = .ok (.getfield 46, 3) := by decide +kernel
theorem dX11_count_96 : decode cX11_count 96 = .ok (.getfield 111, 3) := by decide +kernel
theorem dX11_count_99 : decode cX11_count 99 = .ok (.getfield 115, 3) := by decide +kernel
theorem dX11_count_102 : decode cX11_count 102 = .ok (.ireturn, 1) := by decide +kernel
theorem dX11_count_103 : decode cX11_count 103 = .ok (.aload_n 0, 1) := by decide +kernel
theorem dX11_count_104 : decode cX11_count 104 = .ok (.getfield 46, 3) := by decide +kernel
theorem dX11_count_107 : decode cX11_count 107 = .ok (.invokevirtual 142, 3) := by decide +kernel
theorem dX11_count_110 : decode cX11_count 110 = .ok (.ireturn, 1) := by decide +kernel
theorem dX11_count_111 : decode cX11_count 111 = .ok (.aload_n 0, 1) := by decide +kernel
theorem dX11_count_112 : decode cX11_count 112 = .ok (.getfield 46, 3) := by decide +kernel
theorem dX11_count_115 : decode cX11_count 115 = .ok (.getfield 163, 3) := by decide +kernel
theorem dX11_count_118 : decode cX11_count 118 = .ok (.getfield 281, 3) := by decide +kernel
theorem dX11_count_121 : decode cX11_count 121 = .ok (.ireturn, 1) := by decide +kernel
theorem dX11_count_122 : decode cX11_count 122 = .ok (.aload_n 0, 1) := by decide +kernel
theorem dX11_count_123 : decode cX11_count 123 = .ok (.getfield 46, 3) := by decide +kernel
theorem dX11_count_126 : decode cX11_count 126 = .ok (.getfield 78, 3) := by decide +kernel
theorem dX11_count_129 : decode cX11_count 129 = .ok (.getfield 127, 3) := by decide +kernel
theorem dX11_count_132 : decode cX11_count 132 = .ok (.ireturn, 1) := by decide +kernel
theorem dX11_count_133 : decode cX11_count 133 = .ok (.aload_n 0, 1) := by decide +kernel
theorem dX11_count_134 : decode cX11_count 134 = .ok (.getfield 46, 3) := by decide +kernel
theorem dX11_count_137 : decode cX11_count 137 = .ok (.getfield 78, 3) := by decide +kernel
theorem dX11_count_140 : decode cX11_count 140 = .ok (.getfield 86, 3) := by decide +kernel
theorem dX11_count_143 : decode cX11_count 143 = .ok (.ireturn, 1) := by decide +kernel
theorem dX11_count_144 : decode cX11_count 144 = .ok (.aload_n 0, 1) := by decide +kernel
theorem dX11_count_145 : decode cX11_count 145 = .ok (.getfield 46, 3) := by decide +kernel
theorem dX11_count_148 : decode cX11_count 148 = .ok (.getfield 78, 3) := by decide +kernel
theorem dX11_count_151 : decode cX11_count 151 = .ok (.getfield 102, 3) := by decide +kernel
theorem dX11_count_154 : decode cX11_count 154 = .ok (.ireturn, 1) := by decide +kernel
theorem dX11_count_155 : decode cX11_count 155 = .ok (.aload_n 0, 1) := by decide +kernel
theorem dX11_count_156 : decode cX11_count 156 = .ok (.getfield 46, 3) := by decide +kernel
theorem dX11_count_159 : decode cX11_count 159 = .ok (.getfield 78, 3) := by decide +kernel
theorem dX11_count_162 : decode cX11_count 162 = .ok (.getfield 106, 3) := by decide +kernel
theorem dX11_count_165 : decode cX11_count 165 = .ok (.ireturn, 1) := by decide +kernel
theorem dX11_count_166 : decode cX11_count 166 = .ok (.aload_n 0, 1) := by decide +kernel
theorem dX11_count_167 : decode cX11_count 167 = .ok (.getfield 46, 3) := by decide +kernel
theorem dX11_count_170 : decode cX11_count 170 = .ok (.getfield 174, 3) := by decide +kernel
theorem dX11_count_173 : decode cX11_count 173 = .ok (.getfield 284, 3) := by decide +kernel
theorem dX11_count_176 : decode cX11_count 176 = .ok (.ireturn, 1) := by decide +kernel
theorem dX11_count_177 : decode cX11_count 177 = .ok (.aload_n 0, 1) := by decide +kernel
theorem dX11_count_178 : decode cX11_count 178 = .ok (.getfield 13, 3) := by decide +kernel
theorem dX11_count_181 : decode cX11_count 181 = .ok (.ireturn, 1) := by decide +kernel
theorem dX11_count_182 : decode cX11_count 182 = .ok (.aload_n 0, 1) := by decide +kernel
theorem dX11_count_183 : decode cX11_count 183 = .ok (.getfield 57, 3) := by decide +kernel
theorem dX11_count_186 : decode cX11_count 186 = .ok (.invokestatic 261, 3) := by decide +kernel
theorem dX11_count_189 : decode cX11_count 189 = .ok (.ireturn, 1) := by decide +kernel
theorem dX11_count_190 : decode cX11_count 190 = .ok (.aload_n 0, 1) := by decide +kernel
theorem dX11_count_191 : decode cX11_count 191 = .ok (.iload_n 1, 1) := by decide +kernel
theorem dX11_count_192 : decode cX11_count 192 = .ok (.invokevirtual 285, 3) := by decide +kernel
theorem dX11_count_195 : decode cX11_count 195 = .ok (.ireturn, 1) := by decide +kernel
def rmX11_count : Room := { frames := 2, cells := 0, slots := 0, locals := 43 }
set_option maxRecDepth 100000 in
def fX11_count (N : Nat) (g : Gs) (x0 : Nat) (x1 : Int32) (d : Ds) : Option (Int32 × Ds) := if x1.toInt < 0 ∨ 12 < x1.toInt then (gd (chk g x0 10) <| cb (fX11_setting N g x0 x1 d) fun u5 d3 => (some (u5, d3))) else if x1 = 0 then (gd (chk g x0 10) <| ob (gR g x0 4) fun r8 => (gd (chk g r8 0) <| some ((dI d r8 0), d))) else if x1 = 1 then (gd (chk g x0 10) <| ob (gR g x0 4) fun r12 => (gd (chk g r12 0) <| some ((dI d r12 1), d))) else if x1 = 2 then (gd (chk g x0 10) <| ob (gR g x0 6) fun r16 => (gd (chk g r16 1) <| some ((dI d r16 5), d))) else if x1 = 3 then (gd (chk g x0 10) <| ob (gR g x0 6) fun r20 => (gd (chk g r20 1) <| ob (gR g r20 4) fun r22 => (gd (chk g r22 5) <| some ((dI d r22 4), d)))) else if x1 = 4 then (gd (chk g x0 10) <| ob (gR g x0 6) fun r26 => (gd (chk g r26 1) <| cb (fX1_activeLayers N g r26 d) fun u30 d28 => (some (u30, d28)))) else if x1 = 5 then (gd (chk g x0 10) <| ob (gR g x0 6) fun r33 => (gd (chk g r33 1) <| ob (gR g r33 3) fun r35 => (gd (chk g r35 3) <| some ((dI d r35 5), d)))) else if x1 = 6 then (gd (chk g x0 10) <| ob (gR g x0 6) fun r39 => (gd (chk g r39 1) <| ob (gR g r39 1) fun r41 => (gd (chk g r41 6) <| some ((dI d r41 3), d)))) else if x1 = 7 then (gd (chk g x0 10) <| ob (gR g x0 6) fun r45 => (gd (chk g r45 1) <| ob (gR g r45 1) fun r47 => (gd (chk g r47 6) <| some ((dI d r47 0), d)))) else if x1 = 8 then (gd (chk g x0 10) <| ob (gR g x0 6) fun r51 => (gd (chk g r51 1) <| ob (gR g r51 1) fun r53 => (gd (chk g r53 6) <| some ((dI d r53 1), d)))) else if x1 = 9 then (gd (chk g x0 10) <| ob (gR g x0 6) fun r57 => (gd (chk g r57 1) <| ob (gR g r57 1) fun r59 => (gd (chk g r59 6) <| some ((dI d r59 2), d)))) else if x1 = 10 then (gd (chk g x0 10) <| ob (gR g x0 6) fun r63 => (gd (chk g r63 1) <| ob (gR g r63 2) fun r65 => (gd (chk g r65 4) <| some ((dI d r65 2), d)))) else if x1 = 11 then (gd (chk g x0 10) <| some ((dI d x0 1), d)) else if x1 = 12 then (gd (chk g x0 10) <| cb (fJ6_bitCount_0f7a4 N g (dI d x0 9) d) fun u73 d71 => (some (u73, d71))) else none
set_option maxHeartbeats 4000000 in
set_option maxRecDepth 100000 in
theorem tX11_count_E {p : Program} {l : Launch} {e : Env} {s : State} {m : MethodId} {args : Array Value} {below : List Frame} {meth : Method} {c : Code} {D : va_G} {cy : Nat → ClassId} {B : Bs} (C : Cx p s m args c cX11_count 2 RX11 D cy B) (hr : meth.sig.returnType = (some .int)) (hlocks : meth.locks = false) {N : Nat} {g : Gs} {x0 : Nat} {x1 : Int32} {vz : Int32} {dz : Ds} {d : Ds} (hf : fX11_count N g x0 x1 d = some (vz, dz)) : WB p l e rmX11_count s m args below meth c 2 D cy B 0 0 (MQ below (QI D cy B vz g dz) args s 0 0 (wA B)) g d [(0, .ref (ad B x0)), (1, .int x1)] 0 [] := by
  unfold fX11_count at hf
  refine b_iload_n C dX11_count_0 1 rfl rfl ?_
  by_cases c1 : x1.toInt < 0 ∨ 12 < x1.toInt
  · have hf := it_s c1 hf
    refine b_tabOut C (tgt := 190) dX11_count_1 c1 (by decide) ?_
    refine b_aload_n C dX11_count_190 0 rfl rfl ?_
    refine b_iload_n C dX11_count_191 1 rfl rfl ?_
    obtain ⟨h2, hf⟩ := gd_s hf
    obtain ⟨u5, d3, k4, hf⟩ := cb_s hf
    refine b_cVI C [] dX11_count_192 (kX11_setting l D cy B k4) lv_X11_285 ⟨rfl, rfl, Nat.le_of_ble_eq_true rfl, Nat.le_of_ble_eq_true rfl⟩ h2 (by decide) rfl (Nat.le_of_ble_eq_true rfl) ⟨Nat.zero_le _, Nat.zero_le _⟩ rfl ?_
    exact b_iret C hr hlocks hf dX11_count_195
  · have hf := if_s c1 hf
    by_cases c6 : x1 = 0
    · have hf := it_s c6 hf
      refine b_tabIn C (tgt := 68) (off := 67) dX11_count_1 c6 (by decide) (by decide) (by decide) (by decide) ?_
      refine b_aload_n C dX11_count_68 0 rfl rfl ?_
      obtain ⟨h7, hf⟩ := gd_s hf
      obtain ⟨r8, er8, hf⟩ := ob_s hf
      refine b_gR C dX11_count_69 fl_X11_30 h7 er8 ?_
      obtain ⟨h9, hf⟩ := gd_s hf
      refine b_gI C dX11_count_72 fl_X11_272 h9 ?_
      exact b_iret C hr hlocks hf dX11_count_75
    have hf := if_s c6 hf
    by_cases c10 : x1 = 1
    · have hf := it_s c10 hf
      refine b_tabIn C (tgt := 76) (off := 75) dX11_count_1 c10 (by decide) (by decide) (by decide) (by decide) ?_
      refine b_aload_n C dX11_count_76 0 rfl rfl ?_
      obtain ⟨h11, hf⟩ := gd_s hf
      obtain ⟨r12, er12, hf⟩ := ob_s hf
      refine b_gR C dX11_count_77 fl_X11_30 h11 er12 ?_
      obtain ⟨h13, hf⟩ := gd_s hf
      refine b_gI C dX11_count_80 fl_X11_275 h13 ?_
      exact b_iret C hr hlocks hf dX11_count_83
    have hf := if_s c10 hf
    by_cases c14 : x1 = 2
    · have hf := it_s c14 hf
      refine b_tabIn C (tgt := 84) (off := 83) dX11_count_1 c14 (by decide) (by decide) (by decide) (by decide) ?_
      refine b_aload_n C dX11_count_84 0 rfl rfl ?_
      obtain ⟨h15, hf⟩ := gd_s hf
      obtain ⟨r16, er16, hf⟩ := ob_s hf
      refine b_gR C dX11_count_85 fl_X11_46 h15 er16 ?_
      obtain ⟨h17, hf⟩ := gd_s hf
      refine b_gI C dX11_count_88 fl_X11_278 h17 ?_
      exact b_iret C hr hlocks hf dX11_count_91
    have hf := if_s c14 hf
    by_cases c18 : x1 = 3
    · have hf := it_s c18 hf
      refine b_tabIn C (tgt := 92) (off := 91) dX11_count_1 c18 (by decide) (by decide) (by decide) (by decide) ?_
      refine b_aload_n C dX11_count_92 0 rfl rfl ?_
      obtain ⟨h19, hf⟩ := gd_s hf
      obtain ⟨r20, er20, hf⟩ := ob_s hf
      refine b_gR C dX11_count_93 fl_X11_46 h19 er20 ?_
      obtain ⟨h21, hf⟩ := gd_s hf
      obtain ⟨r22, er22, hf⟩ := ob_s hf
      refine b_gR C dX11_count_96 fl_X11_111 h21 er22 ?_
      obtain ⟨h23, hf⟩ := gd_s hf
      refine b_gI C dX11_count_99 fl_X11_115 h23 ?_
      exact b_iret C hr hlocks hf dX11_count_102
    have hf := if_s c18 hf
    by_cases c24 : x1 = 4
    · have hf := it_s c24 hf
      refine b_tabIn C (tgt := 103) (off := 102) dX11_count_1 c24 (by decide) (by decide) (by decide) (by decide) ?_
      refine b_aload_n C dX11_count_103 0 rfl rfl ?_
      obtain ⟨h25, hf⟩ := gd_s hf
      obtain ⟨r26, er26, hf⟩ := ob_s hf
      refine b_gR C dX11_count_104 fl_X11_46 h25 er26 ?_
      obtain ⟨h27, hf⟩ := gd_s hf
      obtain ⟨u30, d28, k29, hf⟩ := cb_s hf
      refine b_cVI C [] dX11_count_107 (kX1_activeLayers l D cy B k29) lv_X11_142 ⟨rfl, rfl, Nat.le_of_ble_eq_true rfl, Nat.le_of_ble_eq_true rfl⟩ h27 (by decide) rfl (Nat.le_of_ble_eq_true rfl) ⟨Nat.zero_le _, Nat.zero_le _⟩ rfl ?_
      exact b_iret C hr hlocks hf dX11_count_110
    have hf := if_s c24 hf
    by_cases c31 : x1 = 5
    · have hf := it_s c31 hf
      refine b_tabIn C (tgt := 111) (off := 110) dX11_count_1 c31 (by decide) (by decide) (by decide) (by decide) ?_
      refine b_aload_n C dX11_count_111 0 rfl rfl ?_
      obtain ⟨h32, hf⟩ := gd_s hf
      obtain ⟨r33, er33, hf⟩ := ob_s hf
      refine b_gR C dX11_count_112 fl_X11_46 h32 er33 ?_
      obtain ⟨h34, hf⟩ := gd_s hf
      obtain ⟨r35, er35, hf⟩ := ob_s hf
      refine b_gR C dX11_count_115 fl_X11_163 h34 er35 ?_
      obtain ⟨h36, hf⟩ := gd_s hf
      refine b_gI C dX11_count_118 fl_X11_281 h36 ?_
      exact b_iret C hr hlocks hf dX11_count_121
    have hf := if_s c31 hf
    by_cases c37 : x1 = 6
    · have hf := it_s c37 hf
      refine b_tabIn C (tgt := 122) (off := 121) dX11_count_1 c37 (by decide) (by decide) (by decide) (by decide) ?_
      refine b_aload_n C dX11_count_122 0 rfl rfl ?_
      obtain ⟨h38, hf⟩ := gd_s hf
      obtain ⟨r39, er39, hf⟩ := ob_s hf
      refine b_gR C dX11_count_123 fl_X11_46 h38 er39 ?_
      obtain ⟨h40, hf⟩ := gd_s hf
      obtain ⟨r41, er41, hf⟩ := ob_s hf
      refine b_gR C dX11_count_126 fl_X11_78 h40 er41 ?_
      obtain ⟨h42, hf⟩ := gd_s hf
      refine b_gI C dX11_count_129 fl_X11_127 h42 ?_
      exact b_iret C hr hlocks hf dX11_count_132
    have hf := if_s c37 hf
    by_cases c43 : x1 = 7
    · have hf := it_s c43 hf
      refine b_tabIn C (tgt := 133) (off := 132) dX11_count_1 c43 (by decide) (by decide) (by decide) (by decide) ?_
      refine b_aload_n C dX11_count_133 0 rfl rfl ?_
      obtain ⟨h44, hf⟩ := gd_s hf
      obtain ⟨r45, er45, hf⟩ := ob_s hf
      refine b_gR C dX11_count_134 fl_X11_46 h44 er45 ?_
      obtain ⟨h46, hf⟩ := gd_s hf
      obtain ⟨r47, er47, hf⟩ := ob_s hf
      refine b_gR C dX11_count_137 fl_X11_78 h46 er47 ?_
      obtain ⟨h48, hf⟩ := gd_s hf
      refine b_gI C dX11_count_140 fl_X11_86 h48 ?_
      exact b_iret C hr hlocks hf dX11_count_143
    have hf := if_s c43 hf
    by_cases c49 : x1 = 8
    · have hf := it_s c49 hf
      refine b_tabIn C (tgt := 144) (off := 143) dX11_count_1 c49 (by decide) (by decide) (by decide) (by decide) ?_
      refine b_aload_n C dX11_count_144 0 rfl rfl ?_
      obtain ⟨h50, hf⟩ := gd_s hf
      obtain ⟨r51, er51, hf⟩ := ob_s hf
      refine b_gR C dX11_count_145 fl_X11_46 h50 er51 ?_
      obtain ⟨h52, hf⟩ := gd_s hf
      obtain ⟨r53, er53, hf⟩ := ob_s hf
      refine b_gR C dX11_count_148 fl_X11_78 h52 er53 ?_
      obtain ⟨h54, hf⟩ := gd_s hf
      refine b_gI C dX11_count_151 fl_X11_102 h54 ?_
      exact b_iret C hr hlocks hf dX11_count_154
    have hf := if_s c49 hf
    by_cases c55 : x1 = 9
    · have hf := it_s c55 hf
      refine b_tabIn C (tgt := 155) (off := 154) dX11_count_1 c55 (by decide) (by decide) (by decide) (by decide) ?_
      refine b_aload_n C dX11_count_155 0 rfl rfl ?_
      obtain ⟨h56, hf⟩ := gd_s hf
      obtain ⟨r57, er57, hf⟩ := ob_s hf
      refine b_gR C dX11_count_156 fl_X11_46 h56 er57 ?_
      obtain ⟨h58, hf⟩ := gd_s hf
      obtain ⟨r59, er59, hf⟩ := ob_s hf
      refine b_gR C dX11_count_159 fl_X11_78 h58 er59 ?_
      obtain ⟨h60, hf⟩ := gd_s hf
      refine b_gI C dX11_count_162 fl_X11_106 h60 ?_
      exact b_iret C hr hlocks hf dX11_count_165
    have hf := if_s c55 hf
    by_cases c61 : x1 = 10
    · have hf := it_s c61 hf
      refine b_tabIn C (tgt := 166) (off := 165) dX11_count_1 c61 (by decide) (by decide) (by decide) (by decide) ?_
      refine b_aload_n C dX11_count_166 0 rfl rfl ?_
      obtain ⟨h62, hf⟩ := gd_s hf
      obtain ⟨r63, er63, hf⟩ := ob_s hf
      refine b_gR C dX11_count_167 fl_X11_46 h62 er63 ?_
      obtain ⟨h64, hf⟩ := gd_s hf
      obtain ⟨r65, er65, hf⟩ := ob_s hf
      refine b_gR C dX11_count_170 fl_X11_174 h64 er65 ?_
      obtain ⟨h66, hf⟩ := gd_s hf
      refine b_gI C dX11_count_173 fl_X11_284 h66 ?_
      exact b_iret C hr hlocks hf dX11_count_176
    have hf := if_s c61 hf
    by_cases c67 : x1 = 11
    · have hf := it_s c67 hf
      refine b_tabIn C (tgt := 177) (off := 176) dX11_count_1 c67 (by decide) (by decide) (by decide) (by decide) ?_
      refine b_aload_n C dX11_count_177 0 rfl rfl ?_
      obtain ⟨h68, hf⟩ := gd_s hf
      refine b_gI C dX11_count_178 fl_X11_13 h68 ?_
      exact b_iret C hr hlocks hf dX11_count_181
    have hf := if_s c67 hf
    by_cases c69 : x1 = 12
    · have hf := it_s c69 hf
      refine b_tabIn C (tgt := 182) (off := 181) dX11_count_1 c69 (by decide) (by decide) (by decide) (by decide) ?_
      refine b_aload_n C dX11_count_182 0 rfl rfl ?_
      obtain ⟨h70, hf⟩ := gd_s hf
      refine b_gI C dX11_count_183 fl_X11_57 h70 ?_
      obtain ⟨u73, d71, k72, hf⟩ := cb_s hf
      refine b_cSI C [] dX11_count_186 (kJ6_bitCount_0f7a4 l D cy B k72) lv_X11_261 ⟨rfl, rfl, Nat.le_of_ble_eq_true rfl, Nat.le_of_ble_eq_true rfl⟩ rfl (Nat.le_of_ble_eq_true rfl) ⟨Nat.zero_le _, Nat.zero_le _⟩ rfl ?_
      exact b_iret C hr hlocks hf dX11_count_189
    have hf := if_s c69 hf
    cases hf
theorem kX11_count (l : Launch) (D : va_G) (cy : Nat → ClassId) (B : Bs) {N : Nat} {g : Gs} {x0 : Nat} {x1 : Int32} {vz : Int32} {dz : Ds} {d : Ds} (hf : fX11_count N g x0 x1 d = some (vz, dz)) : Met l yX11_count (.code yX11_count cX11_count 2 (some .int) :: wl) rmX11_count (PC D cy B [.ref (ad B x0), .int x1] g d) (QI D cy B vz g dz) 0 0 (wA B) :=
  met_of (by decide +kernel) (Nat.le_of_ble_eq_true rfl) (fun p e s m args below meth c C hr hlocks _ => b_sub [(0, .ref (ad B x0)), (1, .int x1)] [0, 1] rfl (tX11_count_E C hr hlocks hf))
/-! KeyMatrixModel.appends(JI)J -/
theorem ct_X12_100 : Cond.constantLong RX12 100 27 ∈ wl := mW (mT5 (List.mem_of_getElem? (i := 84) (by decide +kernel))) rfl
theorem dX12_appends_0 : decode cX12_appends 0 = .ok (.iload_n 2, 1) := by decide +kernel
theorem dX12_appends_1 : decode cX12_appends 1 = .ok (.ifCond .ne 7, 3) := by decide +kernel
theorem dX12_appends_4 : decode cX12_appends 4 = .ok (.lload_n 0, 1) := by decide +kernel
theorem dX12_appends_5 : decode cX12_appends 5 = .ok (.goto 16, 3) := by decide +kernel
theorem dX12_appends_8 : decode cX12_appends 8 = .ok (.ldc2_w 100, 3) := by decide +kernel
theorem dX12_appends_11 : decode cX12_appends 11 = .ok (.lload_n 0, 1) := by decide +kernel
theorem dX12_appends_12 : decode cX12_appends 12 = .ok (.lmul, 1) := by decide +kernel
theorem dX12_appends_13 : decode cX12_appends 13 = .ok (.iload_n 2, 1) := by decide +kernel
theorem dX12_appends_14 : decode cX12_appends 14 = .ok (.bipush 97, 2) := by decide +kernel
theorem dX12_appends_16 : decode cX12_appends 16 = .ok (.isub, 1) := by decide +kernel
theorem dX12_appends_17 : decode cX12_appends 17 = .ok (.iconst 1, 1) := by decide +kernel
theorem dX12_appends_18 : decode cX12_appends 18 = .ok (.iadd, 1) := by decide +kernel
theorem dX12_appends_19 : decode cX12_appends 19 = .ok (.i2l, 1) := by decide +kernel
theorem dX12_appends_20 : decode cX12_appends 20 = .ok (.ladd, 1) := by decide +kernel
theorem dX12_appends_21 : decode cX12_appends 21 = .ok (.lreturn, 1) := by decide +kernel
def rmX12_appends : Room := { frames := 0, cells := 0, slots := 0, locals := 0 }
set_option maxRecDepth 100000 in
def fX12_appends_J21 (N : Nat) (g : Gs) (x0 : Int64) (x2 : Int32) (z0 : Int64) (d : Ds) : Option (Int64 × Ds) := some (z0, d)
set_option maxHeartbeats 4000000 in
set_option maxRecDepth 100000 in
theorem tX12_appends_21 {p : Program} {l : Launch} {e : Env} {s : State} {m : MethodId} {args : Array Value} {below : List Frame} {meth : Method} {c : Code} {D : va_G} {cy : Nat → ClassId} {B : Bs} (C : Cx p s m args c cX12_appends 3 RX12 D cy B) (hr : meth.sig.returnType = (some .long)) (hlocks : meth.locks = false) {N : Nat} {g : Gs} {x0 : Int64} {x2 : Int32} {vz : Int64} {dz : Ds} {z0 : Int64} {d : Ds} (hf : fX12_appends_J21 N g x0 x2 z0 d = some (vz, dz)) : WB p l e rmX12_appends s m args below meth c 3 D cy B 0 0 (MQ below (QJ D cy B vz g dz) args s 0 0 (wA B)) g d [(0, .long x0), (2, .int x2)] 21 [.long z0] := by
  unfold fX12_appends_J21 at hf
  exact b_lret C hr hlocks hf dX12_appends_21
set_option maxRecDepth 100000 in
def fX12_appends (N : Nat) (g : Gs) (x0 : Int64) (x2 : Int32) (d : Ds) : Option (Int64 × Ds) := if x2 = 0 then (fX12_appends_J21 N g x0 x2 x0 d) else (fX12_appends_J21 N g x0 x2 ((27 * x0) + (((x2 - 97) + 1).toInt64)) d)
set_option maxHeartbeats 4000000 in
set_option maxRecDepth 100000 in
theorem tX12_appends_E {p : Program} {l : Launch} {e : Env} {s : State} {m : MethodId} {args : Array Value} {below : List Frame} {meth : Method} {c : Code} {D : va_G} {cy : Nat → ClassId} {B : Bs} (C : Cx p s m args c cX12_appends 3 RX12 D cy B) (hr : meth.sig.returnType = (some .long)) (hlocks : meth.locks = false) {N : Nat} {g : Gs} {x0 : Int64} {x2 : Int32} {vz : Int64} {dz : Ds} {d : Ds} (hf : fX12_appends N g x0 x2 d = some (vz, dz)) : WB p l e rmX12_appends s m args below meth c 3 D cy B 0 0 (MQ below (QJ D cy B vz g dz) args s 0 0 (wA B)) g d [(0, .long x0), (2, .int x2)] 0 [] := by
  unfold fX12_appends at hf
  refine b_iload_n C dX12_appends_0 1 rfl rfl ?_
  refine b_if_ne C (tgt := 8) dX12_appends_1 (by decide) (fun c1 => ?_) (fun c1 => ?_)
  · have hf := if_s c1 hf
    refine b_ldc2 C ct_X12_100 dX12_appends_8 ?_
    refine b_lload_n C dX12_appends_11 0 rfl rfl ?_
    refine b_lmul C dX12_appends_12 ?_
    refine b_iload_n C dX12_appends_13 1 rfl rfl ?_
    refine b_bipush C (v := 97) dX12_appends_14 (by decide) ?_
    refine b_isub C dX12_appends_16 ?_
    refine b_iconst C (v := 1) dX12_appends_17 (by decide) ?_
    refine b_iadd C dX12_appends_18 ?_
    refine b_i2l C dX12_appends_19 ?_
    refine b_ladd C dX12_appends_20 ?_
    refine b_sub [(0, .long x0), (2, .int x2)] [0, 1] rfl ?_
    exact tX12_appends_21 C hr hlocks hf
  · have hf := it_s c1 hf
    refine b_lload_n C dX12_appends_4 0 rfl rfl ?_
    refine b_goto C (tgt := 21) dX12_appends_5 (by decide) ?_
    refine b_sub [(0, .long x0), (2, .int x2)] [0, 1] rfl ?_
    exact tX12_appends_21 C hr hlocks hf
theorem kX12_appends (l : Launch) (D : va_G) (cy : Nat → ClassId) (B : Bs) {N : Nat} {g : Gs} {x0 : Int64} {x2 : Int32} {vz : Int64} {dz : Ds} {d : Ds} (hf : fX12_appends N g x0 x2 d = some (vz, dz)) : Met l yX12_appends (.code yX12_appends cX12_appends 3 (some .long) :: wl) rmX12_appends (PC D cy B [.long x0, .int x2] g d) (QJ D cy B vz g dz) 0 0 (wA B) :=
  met_of (by decide +kernel) (Nat.le_of_ble_eq_true rfl) (fun p e s m args below meth c C hr hlocks _ => b_sub [(0, .long x0), (2, .int x2)] [0, 1] rfl (tX12_appends_E C hr hlocks hf))
/-! KeyMatrixModel.letters(IIIIIII)J -/
theorem yo_X12_appends : yX12_appends.cls ≠ "java/lang/invoke/MethodHandle" ∧ yX12_appends.cls ≠ "java/lang/invoke/VarHandle" ∧ (parseMethodDescriptor yX12_appends.desc).map (fun d => d.parameters.length) = some 2 := by decide +kernel
theorem co_X12_appends : Cond.code yX12_appends cX12_appends 3 (some .long) ∈ wl := mW (mT5 (List.mem_of_getElem? (i := 83) (by decide +kernel))) rfl
theorem in_X12_appends : Cond.initialized yX12_appends.cls ∈ wl := mW (mT1 (List.mem_of_getElem? (i := 12) (by decide +kernel))) rfl
theorem st_X12_appends : Cond.static yX12_appends ∈ wl := mW (mT5 (List.mem_of_getElem? (i := 82) (by decide +kernel))) rfl
theorem lv_X12_79 : LSt RX12 79 yX12_appends cX12_appends 3 (some .long) 2 := ⟨yo_X12_appends, Or.inl (mW (mT5 (List.mem_of_getElem? (i := 81) (by decide +kernel))) rfl), st_X12_appends, in_X12_appends, co_X12_appends⟩
theorem dX12_letters_0 : decode cX12_letters 0 = .ok (.lconst 0, 1) := by decide +kernel
theorem dX12_letters_1 : decode cX12_letters 1 = .ok (.iload_n 0, 1) := by decide +kernel
theorem dX12_letters_2 : decode cX12_letters 2 = .ok (.invokestatic 79, 3) := by decide +kernel
theorem dX12_letters_5 : decode cX12_letters 5 = .ok (.iload_n 1, 1) := by decide +kernel
theorem dX12_letters_6 : decode cX12_letters 6 = .ok (.invokestatic 79, 3) := by decide +kernel
theorem dX12_letters_9 : decode cX12_letters 9 = .ok (.iload_n 2, 1) := by decide +kernel
theorem dX12_letters_10 : decode cX12_letters 10 = .ok (.invokestatic 79, 3) := by decide +kernel
theorem dX12_letters_13 : decode cX12_letters 13 = .ok (.iload_n 3, 1) := by decide +kernel
theorem dX12_letters_14 : decode cX12_letters 14 = .ok (.invokestatic 79, 3) := by decide +kernel
theorem dX12_letters_17 : decode cX12_letters 17 = .ok (.iload 4, 2) := by decide +kernel
theorem dX12_letters_19 : decode cX12_letters 19 = .ok (.invokestatic 79, 3) := by decide +kernel
theorem dX12_letters_22 : decode cX12_letters 22 = .ok (.iload 5, 2) := by decide +kernel
theorem dX12_letters_24 : decode cX12_letters 24 = .ok (.invokestatic 79, 3) := by decide +kernel
theorem dX12_letters_27 : decode cX12_letters 27 = .ok (.iload 6, 2) := by decide +kernel
theorem dX12_letters_29 : decode cX12_letters 29 = .ok (.invokestatic 79, 3) := by decide +kernel
theorem dX12_letters_32 : decode cX12_letters 32 = .ok (.lreturn, 1) := by decide +kernel
def rmX12_letters : Room := { frames := 1, cells := 0, slots := 0, locals := 22 }
set_option maxRecDepth 100000 in
def fX12_letters (N : Nat) (g : Gs) (x0 : Int32) (x1 : Int32) (x2 : Int32) (x3 : Int32) (x4 : Int32) (x5 : Int32) (x6 : Int32) (d : Ds) : Option (Int64 × Ds) := cb (fX12_appends N g 0 x0 d) fun u3 d1 => (cb (fX12_appends N g u3 x1 d1) fun u6 d4 => (cb (fX12_appends N g u6 x2 d4) fun u9 d7 => (cb (fX12_appends N g u9 x3 d7) fun u12 d10 => (cb (fX12_appends N g u12 x4 d10) fun u15 d13 => (cb (fX12_appends N g u15 x5 d13) fun u18 d16 => (cb (fX12_appends N g u18 x6 d16) fun u21 d19 => (some (u21, d19))))))))
set_option maxHeartbeats 4000000 in
set_option maxRecDepth 100000 in
theorem tX12_letters_E {p : Program} {l : Launch} {e : Env} {s : State} {m : MethodId} {args : Array Value} {below : List Frame} {meth : Method} {c : Code} {D : va_G} {cy : Nat → ClassId} {B : Bs} (C : Cx p s m args c cX12_letters 7 RX12 D cy B) (hr : meth.sig.returnType = (some .long)) (hlocks : meth.locks = false) {N : Nat} {g : Gs} {x0 : Int32} {x1 : Int32} {x2 : Int32} {x3 : Int32} {x4 : Int32} {x5 : Int32} {x6 : Int32} {vz : Int64} {dz : Ds} {d : Ds} (hf : fX12_letters N g x0 x1 x2 x3 x4 x5 x6 d = some (vz, dz)) : WB p l e rmX12_letters s m args below meth c 7 D cy B 0 0 (MQ below (QJ D cy B vz g dz) args s 0 0 (wA B)) g d [(0, .int x0), (1, .int x1), (2, .int x2), (3, .int x3), (4, .int x4), (5, .int x5), (6, .int x6)] 0 [] := by
  unfold fX12_letters at hf
  refine b_lconst C (v := 0) dX12_letters_0 (by decide) ?_
  refine b_iload_n C dX12_letters_1 0 rfl rfl ?_
  obtain ⟨u3, d1, k2, hf⟩ := cb_s hf
  refine b_cSJ C [] dX12_letters_2 (kX12_appends l D cy B k2) lv_X12_79 ⟨rfl, rfl, Nat.le_of_ble_eq_true rfl, Nat.le_of_ble_eq_true rfl⟩ rfl (Nat.le_of_ble_eq_true rfl) ⟨Nat.zero_le _, Nat.zero_le _⟩ rfl ?_
  refine b_iload_n C dX12_letters_5 1 rfl rfl ?_
  obtain ⟨u6, d4, k5, hf⟩ := cb_s hf
  refine b_cSJ C [] dX12_letters_6 (kX12_appends l D cy B k5) lv_X12_79 ⟨rfl, rfl, Nat.le_of_ble_eq_true rfl, Nat.le_of_ble_eq_true rfl⟩ rfl (Nat.le_of_ble_eq_true rfl) ⟨Nat.zero_le _, Nat.zero_le _⟩ rfl ?_
  refine b_iload_n C dX12_letters_9 2 rfl rfl ?_
  obtain ⟨u9, d7, k8, hf⟩ := cb_s hf
  refine b_cSJ C [] dX12_letters_10 (kX12_appends l D cy B k8) lv_X12_79 ⟨rfl, rfl, Nat.le_of_ble_eq_true rfl, Nat.le_of_ble_eq_true rfl⟩ rfl (Nat.le_of_ble_eq_true rfl) ⟨Nat.zero_le _, Nat.zero_le _⟩ rfl ?_
  refine b_iload_n C dX12_letters_13 3 rfl rfl ?_
  obtain ⟨u12, d10, k11, hf⟩ := cb_s hf
  refine b_cSJ C [] dX12_letters_14 (kX12_appends l D cy B k11) lv_X12_79 ⟨rfl, rfl, Nat.le_of_ble_eq_true rfl, Nat.le_of_ble_eq_true rfl⟩ rfl (Nat.le_of_ble_eq_true rfl) ⟨Nat.zero_le _, Nat.zero_le _⟩ rfl ?_
  refine b_iload C dX12_letters_17 4 rfl ?_
  obtain ⟨u15, d13, k14, hf⟩ := cb_s hf
  refine b_cSJ C [] dX12_letters_19 (kX12_appends l D cy B k14) lv_X12_79 ⟨rfl, rfl, Nat.le_of_ble_eq_true rfl, Nat.le_of_ble_eq_true rfl⟩ rfl (Nat.le_of_ble_eq_true rfl) ⟨Nat.zero_le _, Nat.zero_le _⟩ rfl ?_
  refine b_iload C dX12_letters_22 5 rfl ?_
  obtain ⟨u18, d16, k17, hf⟩ := cb_s hf
  refine b_cSJ C [] dX12_letters_24 (kX12_appends l D cy B k17) lv_X12_79 ⟨rfl, rfl, Nat.le_of_ble_eq_true rfl, Nat.le_of_ble_eq_true rfl⟩ rfl (Nat.le_of_ble_eq_true rfl) ⟨Nat.zero_le _, Nat.zero_le _⟩ rfl ?_
  refine b_iload C dX12_letters_27 6 rfl ?_
  obtain ⟨u21, d19, k20, hf⟩ := cb_s hf
  refine b_cSJ C [] dX12_letters_29 (kX12_appends l D cy B k20) lv_X12_79 ⟨rfl, rfl, Nat.le_of_ble_eq_true rfl, Nat.le_of_ble_eq_true rfl⟩ rfl (Nat.le_of_ble_eq_true rfl) ⟨Nat.zero_le _, Nat.zero_le _⟩ rfl ?_
  exact b_lret C hr hlocks hf dX12_letters_32
theorem kX12_letters (l : Launch) (D : va_G) (cy : Nat → ClassId) (B : Bs) {N : Nat} {g : Gs} {x0 : Int32} {x1 : Int32} {x2 : Int32} {x3 : Int32} {x4 : Int32} {x5 : Int32} {x6 : Int32} {vz : Int64} {dz : Ds} {d : Ds} (hf : fX12_letters N g x0 x1 x2 x3 x4 x5 x6 d = some (vz, dz)) : Met l yX12_letters (.code yX12_letters cX12_letters 7 (some .long) :: wl) rmX12_letters (PC D cy B [.int x0, .int x1, .int x2, .int x3, .int x4, .int x5, .int x6] g d) (QJ D cy B vz g dz) 0 0 (wA B) :=
  met_of (by decide +kernel) (Nat.le_of_ble_eq_true rfl) (fun p e s m args below meth c C hr hlocks _ => b_sub [(0, .int x0), (1, .int x1), (2, .int x2), (3, .int x3), (4, .int x4), (5, .int x5), (6, .int x6)] [0, 1, 2, 3, 4, 5, 6] rfl (tX12_letters_E C hr hlocks hf))
/-! KeyMatrixModel.begins([I)V -/
theorem dX12_begins_0 : decode cX12_begins 0 = .ok (.iconst 0, 1) := by decide +kernel
theorem dX12_begins_1 : decode cX12_begins 1 = .ok (.istore_n 1, 1) := by decide +kernel
theorem dX12_begins_2 : decode cX12_begins 2 = .ok (.iload_n 1, 1) := by decide +kernel
theorem dX12_begins_3 : decode cX12_begins 3 = .ok (.sipush 352, 3) := by decide +kernel
theorem dX12_begins_6 : decode cX12_begins 6 = .ok (.if_icmp .ge 13, 3) := by decide +kernel
theorem dX12_begins_9 : decode cX12_begins 9 = .ok (.aload_n 0, 1) := by decide +kernel
theorem dX12_begins_10 : decode cX12_begins 10 = .ok (.iload_n 1, 1) := by decide +kernel
theorem dX12_begins_11 : decode cX12_begins 11 = .ok (.iconst 0, 1) := by decide +kernel
theorem dX12_begins_12 : decode cX12_begins 12 = .ok (.iastore, 1) := by decide +kernel
theorem dX12_begins_13 : decode cX12_begins 13 = .ok (.iinc 1 1, 3) := by decide +kernel
theorem dX12_begins_16 : decode cX12_begins 16 = .ok (.goto (-14), 3) := by decide +kernel
theorem dX12_begins_19 : decode cX12_begins 19 = .ok (.aload_n 0, 1) := by decide +kernel
theorem dX12_begins_20 : decode cX12_begins 20 = .ok (.iconst 4, 1) := by decide +kernel
theorem dX12_begins_21 : decode cX12_begins 21 = .ok (.iconst 2, 1) := by decide +kernel
theorem dX12_begins_22 : decode cX12_begins 22 = .ok (.iastore, 1) := by decide +kernel
theorem dX12_begins_23 : decode cX12_begins 23 = .ok (.aload_n 0, 1) := by decide +kernel
theorem dX12_begins_24 : decode cX12_begins 24 = .ok (.iconst 5, 1) := by decide +kernel
theorem dX12_begins_25 : decode cX12_begins 25 = .ok (.bipush 8, 2) := by decide +kernel
theorem dX12_begins_27 : decode cX12_begins 27 = .ok (.iastore, 1) := by decide +kernel
theorem dX12_begins_28 : decode cX12_begins 28 = .ok (.aload_n 0, 1) := by decide +kernel
theorem dX12_begins_29 : decode cX12_begins 29 = .ok (.bipush 6, 2) := by decide +kernel
theorem dX12_begins_31 : decode cX12_begins 31 = .ok (.iconst 3, 1) := by decide +kernel
theorem dX12_begins_32 : decode cX12_begins 32 = .ok (.iastore, 1) := by decide +kernel
theorem dX12_begins_33 : decode cX12_begins 33 = .ok (.aload_n 0, 1) := by decide +kernel
theorem dX12_begins_34 : decode cX12_begins 34 = .ok (.bipush 7, 2) := by decide +kernel
theorem dX12_begins_36 : decode cX12_begins 36 = .ok (.bipush 6, 2) := by decide +kernel
theorem dX12_begins_38 : decode cX12_begins 38 = .ok (.iastore, 1) := by decide +kernel
theorem dX12_begins_39 : decode cX12_begins 39 = .ok (.aload_n 0, 1) := by decide +kernel
theorem dX12_begins_40 : decode cX12_begins 40 = .ok (.bipush 8, 2) := by decide +kernel
theorem dX12_begins_42 : decode cX12_begins 42 = .ok (.bipush 20, 2) := by decide +kernel
theorem dX12_begins_44 : decode cX12_begins 44 = .ok (.iastore, 1) := by decide +kernel
theorem dX12_begins_45 : decode cX12_begins 45 = .ok (.aload_n 0, 1) := by decide +kernel
theorem dX12_begins_46 : decode cX12_begins 46 = .ok (.bipush 9, 2) := by decide +kernel
theorem dX12_begins_48 : decode cX12_begins 48 = .ok (.iconst 5, 1) := by decide +kernel
theorem dX12_begins_49 : decode cX12_begins 49 = .ok (.iastore, 1) := by decide +kernel
theorem dX12_begins_50 : decode cX12_begins 50 = .ok (.iconst 0, 1) := by decide +kernel
theorem dX12_begins_51 : decode cX12_begins 51 = .ok (.istore_n 1, 1) := by decide +kernel
theorem dX12_begins_52 : decode cX12_begins 52 = .ok (.iload_n 1, 1) := by decide +kernel
theorem dX12_begins_53 : decode cX12_begins 53 = .ok (.bipush 96, 2) := by decide +kernel
theorem dX12_begins_55 : decode cX12_begins 55 = .ok (.if_icmp .ge 50, 3) := by decide +kernel
theorem dX12_begins_58 : decode cX12_begins 58 = .ok (.aload_n 0, 1) := by decide +kernel
theorem dX12_begins_59 : decode cX12_begins 59 = .ok (.bipush 12, 2) := by decide +kernel
theorem dX12_begins_61 : decode cX12_begins 61 = .ok (.iconst 3, 1) := by decide +kernel
theorem dX12_begins_62 : decode cX12_begins 62 = .ok (.iload_n 1, 1) := by decide +kernel
theorem dX12_begins_63 : decode cX12_begins 63 = .ok (.imul, 1) := by decide +kernel
theorem dX12_begins_64 : decode cX12_begins 64 = .ok (.iadd, 1) := by decide +kernel
theorem dX12_begins_65 : decode cX12_begins 65 = .ok (.iload_n 1, 1) := by decide +kernel
theorem dX12_begins_66 : decode cX12_begins 66 = .ok (.bipush 24, 2) := by decide +kernel
theorem dX12_begins_68 : decode cX12_begins 68 = .ok (.if_icmp .ge 7, 3) := by decide +kernel
theorem dX12_begins_71 : decode cX12_begins 71 = .ok (.iconst 4, 1) := by decide +kernel
theorem dX12_begins_72 : decode cX12_begins 72 = .ok (.goto 4, 3) := by decide +kernel
theorem dX12_begins_75 : decode cX12_begins 75 = .ok (.iconst 5, 1) := by decide +kernel
theorem dX12_begins_76 : decode cX12_begins 76 = .ok (.iastore, 1) := by decide +kernel
theorem dX12_begins_77 : decode cX12_begins 77 = .ok (.aload_n 0, 1) := by decide +kernel
theorem dX12_begins_78 : decode cX12_begins 78 = .ok (.bipush 12, 2) := by decide +kernel
theorem dX12_begins_80 : decode cX12_begins 80 = .ok (.iconst 3, 1) := by decide +kernel
theorem dX12_begins_81 : decode cX12_begins 81 = .ok (.iload_n 1, 1) := by decide +kernel
theorem dX12_begins_82 : decode cX12_begins 82 = .ok (.imul, 1) := by decide +kernel
theorem dX12_begins_83 : decode cX12_begins 83 = .ok (.iadd, 1) := by decide +kernel
theorem dX12_begins_84 : decode cX12_begins 84 = .ok (.iconst 1, 1) := by decide +kernel
theorem dX12_begins_85 : decode cX12_begins 85 = .ok (.iadd, 1) := by decide +kernel
theorem dX12_begins_86 : decode cX12_begins 86 = .ok (.iconst (-1), 1) := by decide +kernel
theorem dX12_begins_87 : decode cX12_begins 87 = .ok (.iastore, 1) := by decide +kernel
theorem dX12_begins_88 : decode cX12_begins 88 = .ok (.aload_n 0, 1) := by decide +kernel
theorem dX12_begins_89 : decode cX12_begins 89 = .ok (.bipush 12, 2) := by decide +kernel
theorem dX12_begins_91 : decode cX12_begins 91 = .ok (.iconst 3, 1) := by decide +kernel
theorem dX12_begins_92 : decode cX12_begins 92 = .ok (.iload_n 1, 1) := by decide +kernel
theorem dX12_begins_93 : decode cX12_begins 93 = .ok (.imul, 1) := by decide +kernel
theorem dX12_begins_94 : decode cX12_begins 94 = .ok (.iadd, 1) := by decide +kernel
theorem dX12_begins_95 : decode cX12_begins 95 = .ok (.iconst 2, 1) := by decide +kernel
theorem dX12_begins_96 : decode cX12_begins 96 = .ok (.iadd, 1) := by decide +kernel
theorem dX12_begins_97 : decode cX12_begins 97 = .ok (.iconst (-1), 1) := by decide +kernel
theorem dX12_begins_98 : decode cX12_begins 98 = .ok (.iastore, 1) := by decide +kernel
theorem dX12_begins_99 : decode cX12_begins 99 = .ok (.iinc 1 1, 3) := by decide +kernel
theorem dX12_begins_102 : decode cX12_begins 102 = .ok (.goto (-50), 3) := by decide +kernel
theorem dX12_begins_105 : decode cX12_begins 105 = .ok (.return_, 1) := by decide +kernel
def rmX12_begins : Room := { frames := 0, cells := 0, slots := 0, locals := 0 }
set_option maxRecDepth 100000 in
def fX12_begins_J76 (N : Nat) (g : Gs) (x0 : Nat) (K52 : Int32 × Ds → Option (Unit × Ds)) (y1 : Int32) (z0 : Int32) (z1 : Int32) (z2 : Nat) (d : Ds) : Option (Unit × Ds) := gd (chk g z2 102) <| gd (¬ (z1 < 0 ∨ gL g z2 ≤ z1.toNatClampNeg)) <| bd (sI d z2 z1.toNatClampNeg z0) fun d19 => (gd (chk g x0 102) <| gd (¬ ((((12 : Int32) + ((3 : Int32) * y1)) + 1) < 0 ∨ gL g x0 ≤ (((12 : Int32) + ((3 : Int32) * y1)) + 1).toNatClampNeg)) <| bd (sI d19 x0 (((12 : Int32) + ((3 : Int32) * y1)) + 1).toNatClampNeg (-1)) fun d22 => (gd (¬ ((((12 : Int32) + ((3 : Int32) * y1)) + 2) < 0 ∨ gL g x0 ≤ (((12 : Int32) + ((3 : Int32) * y1)) + 2).toNatClampNeg)) <| bd (sI d22 x0 (((12 : Int32) + ((3 : Int32) * y1)) + 2).toNatClampNeg (-1)) fun d24 => (bd (y1 + 1) fun u25 => (K52 (u25, d24)))))
set_option maxHeartbeats 4000000 in
set_option maxRecDepth 100000 in
theorem tX12_begins_76 {p : Program} {l : Launch} {e : Env} {s : State} {m : MethodId} {args : Array Value} {below : List Frame} {meth : Method} {c : Code} {D : va_G} {cy : Nat → ClassId} {B : Bs} (C : Cx p s m args c cX12_begins 2 RX12 D cy B) (hr : meth.sig.returnType = none) (hlocks : meth.locks = false) {N : Nat} {g : Gs} {x0 : Nat}  {dz : Ds} {K52 : Int32 × Ds → Option (Unit × Ds)} (hK52 : ∀ a, K52 a = some ((), dz) → WB p l e rmX12_begins s m args below meth c 2 D cy B 0 0 (MQ below (QV D cy B g dz) args s 0 0 (wA B)) g a.2 [(0, .ref (ad B x0)), (1, .int a.1)] 52 []) {y1 : Int32} {z0 : Int32} {z1 : Int32} {z2 : Nat} {d : Ds} (hf : fX12_begins_J76 N g x0 K52 y1 z0 z1 z2 d = some ((), dz)) : WB p l e rmX12_begins s m args below meth c 2 D cy B 0 0 (MQ below (QV D cy B g dz) args s 0 0 (wA B)) g d [(0, .ref (ad B x0)), (1, .int y1)] 76 [.int z0, .int z1, .ref (ad B z2)] := by
  unfold fX12_begins_J76 at hf
  obtain ⟨h17, hf⟩ := gd_s hf
  obtain ⟨h18, hf⟩ := gd_s hf
  obtain ⟨d19, ed19, hf⟩ := bd_s hf
  refine b_iast C h17 h18 ed19 dX12_begins_76 ?_
  refine b_aload_n C dX12_begins_77 0 rfl rfl ?_
  refine b_bipush C (v := 12) dX12_begins_78 (by decide) ?_
  refine b_iconst C (v := 3) dX12_begins_80 (by decide) ?_
  refine b_iload_n C dX12_begins_81 1 rfl rfl ?_
  refine b_imul C dX12_begins_82 ?_
  refine b_iadd C dX12_begins_83 ?_
  refine b_iconst C (v := 1) dX12_begins_84 (by decide) ?_
  refine b_iadd C dX12_begins_85 ?_
  refine b_iconst C (v := (-1)) dX12_begins_86 (by decide) ?_
  obtain ⟨h20, hf⟩ := gd_s hf
  obtain ⟨h21, hf⟩ := gd_s hf
  obtain ⟨d22, ed22, hf⟩ := bd_s hf
  refine b_iast C h20 h21 ed22 dX12_begins_87 ?_
  refine b_aload_n C dX12_begins_88 0 rfl rfl ?_
  refine b_bipush C (v := 12) dX12_begins_89 (by decide) ?_
  refine b_iconst C (v := 3) dX12_begins_91 (by decide) ?_
  refine b_iload_n C dX12_begins_92 1 rfl rfl ?_
  refine b_imul C dX12_begins_93 ?_
  refine b_iadd C dX12_begins_94 ?_
  refine b_iconst C (v := 2) dX12_begins_95 (by decide) ?_
  refine b_iadd C dX12_begins_96 ?_
  refine b_iconst C (v := (-1)) dX12_begins_97 (by decide) ?_
  obtain ⟨h23, hf⟩ := gd_s hf
  obtain ⟨d24, ed24, hf⟩ := bd_s hf
  refine b_iast C h20 h23 ed24 dX12_begins_98 ?_
  obtain ⟨u25, eu25, hf⟩ := bd_s hf
  refine b_iinc C dX12_begins_99 1 rfl (by rw [eu25]; rfl) [(1, .int u25), (0, .ref (ad B x0))] (by decide) rfl ?_
  refine b_goto C (tgt := 52) dX12_begins_102 (by decide) ?_
  refine b_sub [(0, .ref (ad B x0)), (1, .int u25)] [1, 0] rfl ?_
  exact hK52 (u25, d24) hf
set_option maxRecDepth 100000 in
def fX12_begins_B52 (N : Nat) (g : Gs) (x0 : Nat) (K52 : Int32 × Ds → Option (Unit × Ds)) (y1 : Int32) (d : Ds) : Option (Unit × Ds) := if (96 : Int32) ≤ y1 then (some ((), d)) else (if (24 : Int32) ≤ y1 then (fX12_begins_J76 N g x0 K52 y1 5 ((12 : Int32) + ((3 : Int32) * y1)) x0 d) else (fX12_begins_J76 N g x0 K52 y1 4 ((12 : Int32) + ((3 : Int32) * y1)) x0 d))
set_option maxHeartbeats 4000000 in
set_option maxRecDepth 100000 in
theorem tX12_begins_52 {p : Program} {l : Launch} {e : Env} {s : State} {m : MethodId} {args : Array Value} {below : List Frame} {meth : Method} {c : Code} {D : va_G} {cy : Nat → ClassId} {B : Bs} (C : Cx p s m args c cX12_begins 2 RX12 D cy B) (hr : meth.sig.returnType = none) (hlocks : meth.locks = false) {N : Nat} {g : Gs} {x0 : Nat}  {dz : Ds} {K52 : Int32 × Ds → Option (Unit × Ds)} (hK52 : ∀ a, K52 a = some ((), dz) → WB p l e rmX12_begins s m args below meth c 2 D cy B 0 0 (MQ below (QV D cy B g dz) args s 0 0 (wA B)) g a.2 [(0, .ref (ad B x0)), (1, .int a.1)] 52 []) {y1 : Int32} {d : Ds} (hf : fX12_begins_B52 N g x0 K52 y1 d = some ((), dz)) : WB p l e rmX12_begins s m args below meth c 2 D cy B 0 0 (MQ below (QV D cy B g dz) args s 0 0 (wA B)) g d [(0, .ref (ad B x0)), (1, .int y1)] 52 [] := by
  unfold fX12_begins_B52 at hf
  refine b_iload_n C dX12_begins_52 1 rfl rfl ?_
  refine b_bipush C (v := 96) dX12_begins_53 (by decide) ?_
  refine b_icmp_ge C (tgt := 105) dX12_begins_55 (by decide) (fun c15 => ?_) (fun c15 => ?_)
  · have hf := it_s c15 hf
    exact b_vret C hr hlocks hf dX12_begins_105
  · have hf := if_s c15 hf
    refine b_aload_n C dX12_begins_58 0 rfl rfl ?_
    refine b_bipush C (v := 12) dX12_begins_59 (by decide) ?_
    refine b_iconst C (v := 3) dX12_begins_61 (by decide) ?_
    refine b_iload_n C dX12_begins_62 1 rfl rfl ?_
    refine b_imul C dX12_begins_63 ?_
    refine b_iadd C dX12_begins_64 ?_
    refine b_iload_n C dX12_begins_65 1 rfl rfl ?_
    refine b_bipush C (v := 24) dX12_begins_66 (by decide) ?_
    refine b_icmp_ge C (tgt := 75) dX12_begins_68 (by decide) (fun c16 => ?_) (fun c16 => ?_)
    · have hf := it_s c16 hf
      refine b_iconst C (v := 5) dX12_begins_75 (by decide) ?_
      refine b_sub [(0, .ref (ad B x0)), (1, .int y1)] [0, 1] rfl ?_
      exact tX12_begins_76 C hr hlocks hK52 hf
    · have hf := if_s c16 hf
      refine b_iconst C (v := 4) dX12_begins_71 (by decide) ?_
      refine b_goto C (tgt := 76) dX12_begins_72 (by decide) ?_
      refine b_sub [(0, .ref (ad B x0)), (1, .int y1)] [0, 1] rfl ?_
      exact tX12_begins_76 C hr hlocks hK52 hf
def fX12_begins_L52 (N : Nat) (g : Gs) (x0 : Nat) : Int32 × Ds → Option (Unit × Ds) := lp (fun K52 a => fX12_begins_B52 N g x0 K52 a.1 a.2) N
theorem tX12_begins_L52 {p : Program} {l : Launch} {e : Env} {s : State} {m : MethodId} {args : Array Value} {below : List Frame} {meth : Method} {c : Code} {D : va_G} {cy : Nat → ClassId} {B : Bs} (C : Cx p s m args c cX12_begins 2 RX12 D cy B) (hr : meth.sig.returnType = none) (hlocks : meth.locks = false) {N : Nat} {g : Gs} {x0 : Nat}  {dz : Ds} (a : Int32 × Ds) (hf : fX12_begins_L52 N g x0 a = some ((), dz)) : WB p l e rmX12_begins s m args below meth c 2 D cy B 0 0 (MQ below (QV D cy B g dz) args s 0 0 (wA B)) g a.2 [(0, .ref (ad B x0)), (1, .int a.1)] 52 [] :=
  lp_w (fun K52 hK52 a ha => tX12_begins_52 C hr hlocks hK52 ha) N a hf
set_option maxRecDepth 100000 in
def fX12_begins_B2 (N : Nat) (g : Gs) (x0 : Nat) (K2 : Int32 × Ds → Option (Unit × Ds)) (y1 : Int32) (d : Ds) : Option (Unit × Ds) := if (352 : Int32) ≤ y1 then (gd (chk g x0 102) <| gd (¬ ((4 : Int32) < 0 ∨ gL g x0 ≤ (4 : Int32).toNatClampNeg)) <| bd (sI d x0 (4 : Int32).toNatClampNeg 2) fun d4 => (gd (¬ ((5 : Int32) < 0 ∨ gL g x0 ≤ (5 : Int32).toNatClampNeg)) <| bd (sI d4 x0 (5 : Int32).toNatClampNeg 8) fun d6 => (gd (¬ ((6 : Int32) < 0 ∨ gL g x0 ≤ (6 : Int32).toNatClampNeg)) <| bd (sI d6 x0 (6 : Int32).toNatClampNeg 3) fun d8 => (gd (¬ ((7 : Int32) < 0 ∨ gL g x0 ≤ (7 : Int32).toNatClampNeg)) <| bd (sI d8 x0 (7 : Int32).toNatClampNeg 6) fun d10 => (gd (¬ ((8 : Int32) < 0 ∨ gL g x0 ≤ (8 : Int32).toNatClampNeg)) <| bd (sI d10 x0 (8 : Int32).toNatClampNeg 20) fun d12 => (gd (¬ ((9 : Int32) < 0 ∨ gL g x0 ≤ (9 : Int32).toNatClampNeg)) <| bd (sI d12 x0 (9 : Int32).toNatClampNeg 5) fun d14 => (fX12_begins_L52 N g x0 (0, d14)))))))) else (gd (chk g x0 102) <| gd (¬ (y1 < 0 ∨ gL g x0 ≤ y1.toNatClampNeg)) <| bd (sI d x0 y1.toNatClampNeg 0) fun d28 => (bd (y1 + 1) fun u29 => (K2 (u29, d28))))
set_option maxHeartbeats 4000000 in
set_option maxRecDepth 100000 in
theorem tX12_begins_2 {p : Program} {l : Launch} {e : Env} {s : State} {m : MethodId} {args : Array Value} {below : List Frame} {meth : Method} {c : Code} {D : va_G} {cy : Nat → ClassId} {B : Bs} (C : Cx p s m args c cX12_begins 2 RX12 D cy B) (hr : meth.sig.returnType = none) (hlocks : meth.locks = false) {N : Nat} {g : Gs} {x0 : Nat}  {dz : Ds} {K2 : Int32 × Ds → Option (Unit × Ds)} (hK2 : ∀ a, K2 a = some ((), dz) → WB p l e rmX12_begins s m args below meth c 2 D cy B 0 0 (MQ below (QV D cy B g dz) args s 0 0 (wA B)) g a.2 [(0, .ref (ad B x0)), (1, .int a.1)] 2 []) {y1 : Int32} {d : Ds} (hf : fX12_begins_B2 N g x0 K2 y1 d = some ((), dz)) : WB p l e rmX12_begins s m args below meth c 2 D cy B 0 0 (MQ below (QV D cy B g dz) args s 0 0 (wA B)) g d [(0, .ref (ad B x0)), (1, .int y1)] 2 [] := by
  unfold fX12_begins_B2 at hf
  refine b_iload_n C dX12_begins_2 1 rfl rfl ?_
  refine b_sipush C (v := 352) dX12_begins_3 (by decide) ?_
  refine b_icmp_ge C (tgt := 19) dX12_begins_6 (by decide) (fun c1 => ?_) (fun c1 => ?_)
  · have hf := it_s c1 hf
    refine b_aload_n C dX12_begins_19 0 rfl rfl ?_
    refine b_iconst C (v := 4) dX12_begins_20 (by decide) ?_
    refine b_iconst C (v := 2) dX12_begins_21 (by decide) ?_
    obtain ⟨h2, hf⟩ := gd_s hf
    obtain ⟨h3, hf⟩ := gd_s hf
    obtain ⟨d4, ed4, hf⟩ := bd_s hf
    refine b_iast C h2 h3 ed4 dX12_begins_22 ?_
    refine b_aload_n C dX12_begins_23 0 rfl rfl ?_
    refine b_iconst C (v := 5) dX12_begins_24 (by decide) ?_
    refine b_bipush C (v := 8) dX12_begins_25 (by decide) ?_
    obtain ⟨h5, hf⟩ := gd_s hf
    obtain ⟨d6, ed6, hf⟩ := bd_s hf
    refine b_iast C h2 h5 ed6 dX12_begins_27 ?_
    refine b_aload_n C dX12_begins_28 0 rfl rfl ?_
    refine b_bipush C (v := 6) dX12_begins_29 (by decide) ?_
    refine b_iconst C (v := 3) dX12_begins_31 (by decide) ?_
    obtain ⟨h7, hf⟩ := gd_s hf
    obtain ⟨d8, ed8, hf⟩ := bd_s hf
    refine b_iast C h2 h7 ed8 dX12_begins_32 ?_
    refine b_aload_n C dX12_begins_33 0 rfl rfl ?_
    refine b_bipush C (v := 7) dX12_begins_34 (by decide) ?_
    refine b_bipush C (v := 6) dX12_begins_36 (by decide) ?_
    obtain ⟨h9, hf⟩ := gd_s hf
    obtain ⟨d10, ed10, hf⟩ := bd_s hf
    refine b_iast C h2 h9 ed10 dX12_begins_38 ?_
    refine b_aload_n C dX12_begins_39 0 rfl rfl ?_
    refine b_bipush C (v := 8) dX12_begins_40 (by decide) ?_
    refine b_bipush C (v := 20) dX12_begins_42 (by decide) ?_
    obtain ⟨h11, hf⟩ := gd_s hf
    obtain ⟨d12, ed12, hf⟩ := bd_s hf
    refine b_iast C h2 h11 ed12 dX12_begins_44 ?_
    refine b_aload_n C dX12_begins_45 0 rfl rfl ?_
    refine b_bipush C (v := 9) dX12_begins_46 (by decide) ?_
    refine b_iconst C (v := 5) dX12_begins_48 (by decide) ?_
    obtain ⟨h13, hf⟩ := gd_s hf
    obtain ⟨d14, ed14, hf⟩ := bd_s hf
    refine b_iast C h2 h13 ed14 dX12_begins_49 ?_
    refine b_iconst C (v := 0) dX12_begins_50 (by decide) ?_
    refine b_istore_n C dX12_begins_51 rfl [(1, .int 0), (0, .ref (ad B x0))] (by decide) rfl ?_
    refine b_sub [(0, .ref (ad B x0)), (1, .int 0)] [1, 0] rfl ?_
    exact tX12_begins_L52 C hr hlocks (0, d14) hf
  · have hf := if_s c1 hf
    refine b_aload_n C dX12_begins_9 0 rfl rfl ?_
    refine b_iload_n C dX12_begins_10 1 rfl rfl ?_
    refine b_iconst C (v := 0) dX12_begins_11 (by decide) ?_
    obtain ⟨h26, hf⟩ := gd_s hf
    obtain ⟨h27, hf⟩ := gd_s hf
    obtain ⟨d28, ed28, hf⟩ := bd_s hf
    refine b_iast C h26 h27 ed28 dX12_begins_12 ?_
    obtain ⟨u29, eu29, hf⟩ := bd_s hf
    refine b_iinc C dX12_begins_13 1 rfl (by rw [eu29]; rfl) [(1, .int u29), (0, .ref (ad B x0))] (by decide) rfl ?_
    refine b_goto C (tgt := 2) dX12_begins_16 (by decide) ?_
    refine b_sub [(0, .ref (ad B x0)), (1, .int u29)] [1, 0] rfl ?_
    exact hK2 (u29, d28) hf
def fX12_begins_L2 (N : Nat) (g : Gs) (x0 : Nat) : Int32 × Ds → Option (Unit × Ds) := lp (fun K2 a => fX12_begins_B2 N g x0 K2 a.1 a.2) N
theorem tX12_begins_L2 {p : Program} {l : Launch} {e : Env} {s : State} {m : MethodId} {args : Array Value} {below : List Frame} {meth : Method} {c : Code} {D : va_G} {cy : Nat → ClassId} {B : Bs} (C : Cx p s m args c cX12_begins 2 RX12 D cy B) (hr : meth.sig.returnType = none) (hlocks : meth.locks = false) {N : Nat} {g : Gs} {x0 : Nat}  {dz : Ds} (a : Int32 × Ds) (hf : fX12_begins_L2 N g x0 a = some ((), dz)) : WB p l e rmX12_begins s m args below meth c 2 D cy B 0 0 (MQ below (QV D cy B g dz) args s 0 0 (wA B)) g a.2 [(0, .ref (ad B x0)), (1, .int a.1)] 2 [] :=
  lp_w (fun K2 hK2 a ha => tX12_begins_2 C hr hlocks hK2 ha) N a hf
set_option maxRecDepth 100000 in
def fX12_begins (N : Nat) (g : Gs) (x0 : Nat) (d : Ds) : Option (Unit × Ds) := fX12_begins_L2 N g x0 (0, d)
set_option maxHeartbeats 4000000 in
set_option maxRecDepth 100000 in
theorem tX12_begins_E {p : Program} {l : Launch} {e : Env} {s : State} {m : MethodId} {args : Array Value} {below : List Frame} {meth : Method} {c : Code} {D : va_G} {cy : Nat → ClassId} {B : Bs} (C : Cx p s m args c cX12_begins 2 RX12 D cy B) (hr : meth.sig.returnType = none) (hlocks : meth.locks = false) {N : Nat} {g : Gs} {x0 : Nat}  {dz : Ds} {d : Ds} (hf : fX12_begins N g x0 d = some ((), dz)) : WB p l e rmX12_begins s m args below meth c 2 D cy B 0 0 (MQ below (QV D cy B g dz) args s 0 0 (wA B)) g d [(0, .ref (ad B x0))] 0 [] := by
  unfold fX12_begins at hf
  refine b_iconst C (v := 0) dX12_begins_0 (by decide) ?_
  refine b_istore_n C dX12_begins_1 rfl [(1, .int 0), (0, .ref (ad B x0))] (by decide) rfl ?_
  refine b_sub [(0, .ref (ad B x0)), (1, .int 0)] [1, 0] rfl ?_
  exact tX12_begins_L2 C hr hlocks (0, d) hf
theorem kX12_begins (l : Launch) (D : va_G) (cy : Nat → ClassId) (B : Bs) {N : Nat} {g : Gs} {x0 : Nat}  {dz : Ds} {d : Ds} (hf : fX12_begins N g x0 d = some ((), dz)) : Met l yX12_begins (.code yX12_begins cX12_begins 2 none :: wl) rmX12_begins (PC D cy B [.ref (ad B x0)] g d) (QV D cy B g dz) 0 0 (wA B) :=
  met_of (by decide +kernel) (Nat.le_of_ble_eq_true rfl) (fun p e s m args below meth c C hr hlocks _ => b_sub [(0, .ref (ad B x0))] [0] rfl (tX12_begins_E C hr hlocks hf))
/-! KeyMatrixModel.startsAnew()V -/
theorem inl11 : ∀ w ∈ u_ws RX12 TX12 33, w ∈ wl := by
  have h0 : u_ws RX12 TX12 33 = [Cond.lays "KeyMatrixModel" "KeyMatrixModel" "thrown" "I", Cond.laysFinal "KeyMatrixModel" "KeyMatrixModel" "tape" "[B", Cond.lays "KeyMatrixModel" "KeyMatrixModel" "taped" "I", Cond.laysFinal "KeyMatrixModel" "KeyMatrixModel" "text" "[B", Cond.lays "KeyMatrixModel" "KeyMatrixModel" "size" "I", Cond.laysFinal "KeyMatrixModel" "KeyMatrixModel" "tKind" "[I", Cond.laysFinal "KeyMatrixModel" "KeyMatrixModel" "tPlace" "[I", Cond.laysFinal "KeyMatrixModel" "KeyMatrixModel" "tValue" "[I", Cond.laysFinal "KeyMatrixModel" "KeyMatrixModel" "tName" "[J", Cond.laysFinal "KeyMatrixModel" "KeyMatrixModel" "keys" "[J", Cond.lays "KeyMatrixModel" "KeyMatrixModel" "tokens" "I", Cond.lays "KeyMatrixModel" "KeyMatrixModel" "t" "I", Cond.lays "KeyMatrixModel" "KeyMatrixModel" "fault" "I", Cond.lays "KeyMatrixModel" "KeyMatrixModel" "faultPlace" "I", Cond.lays "KeyMatrixModel" "KeyMatrixModel" "worst" "I", Cond.lays "KeyMatrixModel" "KeyMatrixModel" "worstPlace" "I", Cond.lays "KeyMatrixModel" "KeyMatrixModel" "place" "I", Cond.laysFinal "KeyMatrixModel" "KeyMatrixModel" "now" "[I", Cond.laysFinal "KeyMatrixModel" "KeyMatrixModel" "draft" "[I", Cond.laysFinal "KeyMatrixModel" "KeyMatrixModel" "steady" "[F", Cond.lays "KeyMatrixModel" "KeyMatrixModel" "chordLines" "I", Cond.lays "KeyMatrixModel" "KeyMatrixModel" "macroLines" "I", Cond.lays "KeyMatrixModel" "KeyMatrixModel" "isBoard" "Z", Cond.laysFinal "KeyMatrixModel" "KeyMatrixModel" "deedTold" "[I", Cond.laysFinal "KeyMatrixModel" "KeyMatrixModel" "partOf" "[I", Cond.lays "KeyMatrixModel" "KeyMatrixModel" "sentMods" "I", Cond.lays "KeyMatrixModel" "KeyMatrixModel" "sentMany" "I", Cond.laysFinal "KeyMatrixModel" "KeyMatrixModel" "sentCodes" "[I", Cond.laysFinal "KeyMatrixModel" "KeyMatrixModel" "aside" "[I", Cond.laysFinal "KeyMatrixModel" "KeyMatrixModel" "asideSteady" "[F", Cond.laysFinal "KeyMatrixModel" "KeyMatrixModel" "held" "[I", Cond.laysFinal "KeyMatrixModel" "KeyMatrixModel" "heldSteady" "[F", Cond.laysFinal "KeyMatrixModel" "KeyMatrixModel" "isHeld" "[Z"] := by decide +kernel
  rw [h0]
  exact List.forall_mem_cons.mpr ⟨mW (mT5 (List.mem_of_getElem? (i := 124) (by decide +kernel))) rfl, List.forall_mem_cons.mpr ⟨mW (mT5 (List.mem_of_getElem? (i := 126) (by decide +kernel))) rfl, List.forall_mem_cons.mpr ⟨mW (mT5 (List.mem_of_getElem? (i := 128) (by decide +kernel))) rfl, List.forall_mem_cons.mpr ⟨mW (mT5 (List.mem_of_getElem? (i := 130) (by decide +kernel))) rfl, List.forall_mem_cons.mpr ⟨mW (mT5 (List.mem_of_getElem? (i := 132) (by decide +kernel))) rfl, List.forall_mem_cons.mpr ⟨mW (mT5 (List.mem_of_getElem? (i := 134) (by decide +kernel))) rfl, List.forall_mem_cons.mpr ⟨mW (mT5 (List.mem_of_getElem? (i := 136) (by decide +kernel))) rfl, List.forall_mem_cons.mpr ⟨mW (mT5 (List.mem_of_getElem? (i := 138) (by decide +kernel))) rfl, List.forall_mem_cons.mpr ⟨mW (mT5 (List.mem_of_getElem? (i := 140) (by decide +kernel))) rfl, List.forall_mem_cons.mpr ⟨mW (mT5 (List.mem_of_getElem? (i := 142) (by decide +kernel))) rfl, List.forall_mem_cons.mpr ⟨mW (mT5 (List.mem_of_getElem? (i := 144) (by decide +kernel))) rfl, List.forall_mem_cons.mpr ⟨mW (mT5 (List.mem_of_getElem? (i := 146) (by decide +kernel))) rfl, List.forall_mem_cons.mpr ⟨mW (mT5 (List.mem_of_getElem? (i := 148) (by decide +kernel))) rfl, List.forall_mem_cons.mpr ⟨mW (mT5 (List.mem_of_getElem? (i := 150) (by decide +kernel))) rfl, List.forall_mem_cons.mpr ⟨mW (mT5 (List.mem_of_getElem? (i := 152) (by decide +kernel))) rfl, List.forall_mem_cons.mpr ⟨mW (mT5 (List.mem_of_getElem? (i := 154) (by decide +kernel))) rfl, List.forall_mem_cons.mpr ⟨mW (mT5 (List.mem_of_getElem? (i := 156) (by decide +kernel))) rfl, List.forall_mem_cons.mpr ⟨mW (mT5 (List.mem_of_getElem? (i := 158) (by decide +kernel))) rfl, List.forall_mem_cons.mpr ⟨mW (mT5 (List.mem_of_getElem? (i := 160) (by decide +kernel))) rfl, List.forall_mem_cons.mpr ⟨mW (mT5 (List.mem_of_getElem? (i := 162) (by decide +kernel))) rfl, List.forall_mem_cons.mpr ⟨mW (mT5 (List.mem_of_getElem? (i := 164) (by decide +kernel))) rfl, List.forall_mem_cons.mpr ⟨mW (mT5 (List.mem_of_getElem? (i := 166) (by decide +kernel))) rfl, List.forall_mem_cons.mpr ⟨mW (mT5 (List.mem_of_getElem? (i := 168) (by decide +kernel))) rfl, List.forall_mem_cons.mpr ⟨mW (mT5 (List.mem_of_getElem? (i := 170) (by decide +kernel))) rfl, List.forall_mem_cons.mpr ⟨mW (mT5 (List.mem_of_getElem? (i := 172) (by decide +kernel))) rfl, List.forall_mem_cons.mpr ⟨mW (mT5 (List.mem_of_getElem? (i := 174) (by decide +kernel))) rfl, List.forall_mem_cons.mpr ⟨mW (mT5 (List.mem_of_getElem? (i := 176) (by decide +kernel))) rfl, List.forall_mem_cons.mpr ⟨mW (mT5 (List.mem_of_getElem? (i := 178) (by decide +kernel))) rfl, List.forall_mem_cons.mpr ⟨mW (mT5 (List.mem_of_getElem? (i := 180) (by decide +kernel))) rfl, List.forall_mem_cons.mpr ⟨mW (mT5 (List.mem_of_getElem? (i := 182) (by decide +kernel))) rfl, List.forall_mem_cons.mpr ⟨mW (mT5 (List.mem_of_getElem? (i := 184) (by decide +kernel))) rfl, List.forall_mem_cons.mpr ⟨mW (mT5 (List.mem_of_getElem? (i := 186) (by decide +kernel))) rfl, List.forall_mem_cons.mpr ⟨mW (mT5 (List.mem_of_getElem? (i := 188) (by decide +kernel))) rfl, fun _ h => absurd h List.not_mem_nil⟩⟩⟩⟩⟩⟩⟩⟩⟩⟩⟩⟩⟩⟩⟩⟩⟩⟩⟩⟩⟩⟩⟩⟩⟩⟩⟩⟩⟩⟩⟩⟩⟩
theorem fl_X12_40 : FLR RX12 40 11 17 := ⟨⟨RX12, TX12, 33, rfl, by decide, inl11, Or.inl (mW (mT5 (List.mem_of_getElem? (i := 108) (by decide +kernel))) rfl)⟩, by decide, by decide +kernel⟩
theorem fl_X12_46 : FLR RX12 46 11 19 := ⟨⟨RX12, TX12, 33, rfl, by decide, inl11, Or.inl (mW (mT5 (List.mem_of_getElem? (i := 110) (by decide +kernel))) rfl)⟩, by decide, by decide +kernel⟩
theorem dX12_startsAnew_0 : decode cX12_startsAnew 0 = .ok (.sipush 352, 3) := by decide +kernel
theorem dX12_startsAnew_3 : decode cX12_startsAnew 3 = .ok (.istore_n 1, 1) := by decide +kernel
theorem dX12_startsAnew_4 : decode cX12_startsAnew 4 = .ok (.iload_n 1, 1) := by decide +kernel
theorem dX12_startsAnew_5 : decode cX12_startsAnew 5 = .ok (.sipush 9178, 3) := by decide +kernel
theorem dX12_startsAnew_8 : decode cX12_startsAnew 8 = .ok (.if_icmp .ge 16, 3) := by decide +kernel
theorem dX12_startsAnew_11 : decode cX12_startsAnew 11 = .ok (.aload_n 0, 1) := by decide +kernel
theorem dX12_startsAnew_12 : decode cX12_startsAnew 12 = .ok (.getfield 40, 3) := by decide +kernel
theorem dX12_startsAnew_15 : decode cX12_startsAnew 15 = .ok (.iload_n 1, 1) := by decide +kernel
theorem dX12_startsAnew_16 : decode cX12_startsAnew 16 = .ok (.iconst 0, 1) := by decide +kernel
theorem dX12_startsAnew_17 : decode cX12_startsAnew 17 = .ok (.iastore, 1) := by decide +kernel
theorem dX12_startsAnew_18 : decode cX12_startsAnew 18 = .ok (.iinc 1 1, 3) := by decide +kernel
theorem dX12_startsAnew_21 : decode cX12_startsAnew 21 = .ok (.goto (-17), 3) := by decide +kernel
theorem dX12_startsAnew_24 : decode cX12_startsAnew 24 = .ok (.iconst 0, 1) := by decide +kernel
theorem dX12_startsAnew_25 : decode cX12_startsAnew 25 = .ok (.istore_n 1, 1) := by decide +kernel
theorem dX12_startsAnew_26 : decode cX12_startsAnew 26 = .ok (.iload_n 1, 1) := by decide +kernel
theorem dX12_startsAnew_27 : decode cX12_startsAnew 27 = .ok (.bipush 24, 2) := by decide +kernel
theorem dX12_startsAnew_29 : decode cX12_startsAnew 29 = .ok (.if_icmp .ge 55, 3) := by decide +kernel
theorem dX12_startsAnew_32 : decode cX12_startsAnew 32 = .ok (.aload_n 0, 1) := by decide +kernel
theorem dX12_startsAnew_33 : decode cX12_startsAnew 33 = .ok (.getfield 46, 3) := by decide +kernel
theorem dX12_startsAnew_36 : decode cX12_startsAnew 36 = .ok (.iload_n 1, 1) := by decide +kernel
theorem dX12_startsAnew_37 : decode cX12_startsAnew 37 = .ok (.fconst 0, 1) := by decide +kernel
theorem dX12_startsAnew_38 : decode cX12_startsAnew 38 = .ok (.fastore, 1) := by decide +kernel
theorem dX12_startsAnew_39 : decode cX12_startsAnew 39 = .ok (.aload_n 0, 1) := by decide +kernel
theorem dX12_startsAnew_40 : decode cX12_startsAnew 40 = .ok (.getfield 40, 3) := by decide +kernel
theorem dX12_startsAnew_43 : decode cX12_startsAnew 43 = .ok (.sipush 379, 3) := by decide +kernel
theorem dX12_startsAnew_46 : decode cX12_startsAnew 46 = .ok (.iconst 3, 1) := by decide +kernel
theorem dX12_startsAnew_47 : decode cX12_startsAnew 47 = .ok (.iload_n 1, 1) := by decide +kernel
theorem dX12_startsAnew_48 : decode cX12_startsAnew 48 = .ok (.imul, 1) := by decide +kernel
theorem dX12_startsAnew_49 : decode cX12_startsAnew 49 = .ok (.iadd, 1) := by decide +kernel
theorem dX12_startsAnew_50 : decode cX12_startsAnew 50 = .ok (.iconst (-1), 1) := by decide +kernel
theorem dX12_startsAnew_51 : decode cX12_startsAnew 51 = .ok (.iastore, 1) := by decide +kernel
theorem dX12_startsAnew_52 : decode cX12_startsAnew 52 = .ok (.aload_n 0, 1) := by decide +kernel
theorem dX12_startsAnew_53 : decode cX12_startsAnew 53 = .ok (.getfield 40, 3) := by decide +kernel
theorem dX12_startsAnew_56 : decode cX12_startsAnew 56 = .ok (.sipush 379, 3) := by decide +kernel
theorem dX12_startsAnew_59 : decode cX12_startsAnew 59 = .ok (.iconst 3, 1) := by decide +kernel
theorem dX12_startsAnew_60 : decode cX12_startsAnew 60 = .ok (.iload_n 1, 1) := by decide +kernel
theorem dX12_startsAnew_61 : decode cX12_startsAnew 61 = .ok (.imul, 1) := by decide +kernel
theorem dX12_startsAnew_62 : decode cX12_startsAnew 62 = .ok (.iadd, 1) := by decide +kernel
theorem dX12_startsAnew_63 : decode cX12_startsAnew 63 = .ok (.iconst 1, 1) := by decide +kernel
theorem dX12_startsAnew_64 : decode cX12_startsAnew 64 = .ok (.iadd, 1) := by decide +kernel
theorem dX12_startsAnew_65 : decode cX12_startsAnew 65 = .ok (.iconst (-1), 1) := by decide +kernel
theorem dX12_startsAnew_66 : decode cX12_startsAnew 66 = .ok (.iastore, 1) := by decide +kernel
theorem dX12_startsAnew_67 : decode cX12_startsAnew 67 = .ok (.aload_n 0, 1) := by decide +kernel
theorem dX12_startsAnew_68 : decode cX12_startsAnew 68 = .ok (.getfield 40, 3) := by decide +kernel
theorem dX12_startsAnew_71 : decode cX12_startsAnew 71 = .ok (.sipush 507, 3) := by decide +kernel
theorem dX12_startsAnew_74 : decode cX12_startsAnew 74 = .ok (.iload_n 1, 1) := by decide +kernel
theorem dX12_startsAnew_75 : decode cX12_startsAnew 75 = .ok (.iadd, 1) := by decide +kernel
theorem dX12_startsAnew_76 : decode cX12_startsAnew 76 = .ok (.iconst (-1), 1) := by decide +kernel
theorem dX12_startsAnew_77 : decode cX12_startsAnew 77 = .ok (.iastore, 1) := by decide +kernel
theorem dX12_startsAnew_78 : decode cX12_startsAnew 78 = .ok (.iinc 1 1, 3) := by decide +kernel
theorem dX12_startsAnew_81 : decode cX12_startsAnew 81 = .ok (.goto (-55), 3) := by decide +kernel
theorem dX12_startsAnew_84 : decode cX12_startsAnew 84 = .ok (.aload_n 0, 1) := by decide +kernel
theorem dX12_startsAnew_85 : decode cX12_startsAnew 85 = .ok (.getfield 40, 3) := by decide +kernel
theorem dX12_startsAnew_88 : decode cX12_startsAnew 88 = .ok (.sipush 454, 3) := by decide +kernel
theorem dX12_startsAnew_91 : decode cX12_startsAnew 91 = .ok (.iconst (-1), 1) := by decide +kernel
theorem dX12_startsAnew_92 : decode cX12_startsAnew 92 = .ok (.iastore, 1) := by decide +kernel
theorem dX12_startsAnew_93 : decode cX12_startsAnew 93 = .ok (.aload_n 0, 1) := by decide +kernel
theorem dX12_startsAnew_94 : decode cX12_startsAnew 94 = .ok (.getfield 40, 3) := by decide +kernel
theorem dX12_startsAnew_97 : decode cX12_startsAnew 97 = .ok (.sipush 455, 3) := by decide +kernel
theorem dX12_startsAnew_100 : decode cX12_startsAnew 100 = .ok (.iconst (-1), 1) := by decide +kernel
theorem dX12_startsAnew_101 : decode cX12_startsAnew 101 = .ok (.iastore, 1) := by decide +kernel
theorem dX12_startsAnew_102 : decode cX12_startsAnew 102 = .ok (.aload_n 0, 1) := by decide +kernel
theorem dX12_startsAnew_103 : decode cX12_startsAnew 103 = .ok (.getfield 40, 3) := by decide +kernel
theorem dX12_startsAnew_106 : decode cX12_startsAnew 106 = .ok (.sipush 456, 3) := by decide +kernel
theorem dX12_startsAnew_109 : decode cX12_startsAnew 109 = .ok (.iconst (-1), 1) := by decide +kernel
theorem dX12_startsAnew_110 : decode cX12_startsAnew 110 = .ok (.iastore, 1) := by decide +kernel
theorem dX12_startsAnew_111 : decode cX12_startsAnew 111 = .ok (.aload_n 0, 1) := by decide +kernel
theorem dX12_startsAnew_112 : decode cX12_startsAnew 112 = .ok (.getfield 40, 3) := by decide +kernel
theorem dX12_startsAnew_115 : decode cX12_startsAnew 115 = .ok (.sipush 458, 3) := by decide +kernel
theorem dX12_startsAnew_118 : decode cX12_startsAnew 118 = .ok (.iconst (-1), 1) := by decide +kernel
theorem dX12_startsAnew_119 : decode cX12_startsAnew 119 = .ok (.iastore, 1) := by decide +kernel
theorem dX12_startsAnew_120 : decode cX12_startsAnew 120 = .ok (.return_, 1) := by decide +kernel
def rmX12_startsAnew : Room := { frames := 0, cells := 0, slots := 0, locals := 0 }
set_option maxRecDepth 100000 in
def fX12_startsAnew_B26 (N : Nat) (g : Gs) (x0 : Nat) (K26 : Int32 × Ds → Option (Unit × Ds)) (y1 : Int32) (d : Ds) : Option (Unit × Ds) := if (24 : Int32) ≤ y1 then (gd (chk g x0 11) <| ob (gR g x0 17) fun r4 => (gd (chk g r4 102) <| gd (¬ ((454 : Int32) < 0 ∨ gL g r4 ≤ (454 : Int32).toNatClampNeg)) <| bd (sI d r4 (454 : Int32).toNatClampNeg (-1)) fun d7 => (gd (¬ ((455 : Int32) < 0 ∨ gL g r4 ≤ (455 : Int32).toNatClampNeg)) <| bd (sI d7 r4 (455 : Int32).toNatClampNeg (-1)) fun d9 => (gd (¬ ((456 : Int32) < 0 ∨ gL g r4 ≤ (456 : Int32).toNatClampNeg)) <| bd (sI d9 r4 (456 : Int32).toNatClampNeg (-1)) fun d11 => (gd (¬ ((458 : Int32) < 0 ∨ gL g r4 ≤ (458 : Int32).toNatClampNeg)) <| bd (sI d11 r4 (458 : Int32).toNatClampNeg (-1)) fun d13 => (some ((), d13))))))) else (gd (chk g x0 11) <| ob (gR g x0 19) fun r15 => (gd (chk g r15 101) <| gd (¬ (y1 < 0 ∨ gL g r15 ≤ y1.toNatClampNeg)) <| bd (sF d r15 y1.toNatClampNeg FP.fconst0) fun d18 => (ob (gR g x0 17) fun r19 => (gd (chk g r19 102) <| gd (¬ (((379 : Int32) + ((3 : Int32) * y1)) < 0 ∨ gL g r19 ≤ ((379 : Int32) + ((3 : Int32) * y1)).toNatClampNeg)) <| bd (sI d18 r19 ((379 : Int32) + ((3 : Int32) * y1)).toNatClampNeg (-1)) fun d22 => (gd (¬ ((((379 : Int32) + ((3 : Int32) * y1)) + 1) < 0 ∨ gL g r19 ≤ (((379 : Int32) + ((3 : Int32) * y1)) + 1).toNatClampNeg)) <| bd (sI d22 r19 (((379 : Int32) + ((3 : Int32) * y1)) + 1).toNatClampNeg (-1)) fun d24 => (gd (¬ (((507 : Int32) + y1) < 0 ∨ gL g r19 ≤ ((507 : Int32) + y1).toNatClampNeg)) <| bd (sI d24 r19 ((507 : Int32) + y1).toNatClampNeg (-1)) fun d26 => (bd (y1 + 1) fun u27 => (K26 (u27, d26)))))))))
set_option maxHeartbeats 4000000 in
set_option maxRecDepth 100000 in
theorem tX12_startsAnew_26 {p : Program} {l : Launch} {e : Env} {s : State} {m : MethodId} {args : Array Value} {below : List Frame} {meth : Method} {c : Code} {D : va_G} {cy : Nat → ClassId} {B : Bs} (C : Cx p s m args c cX12_startsAnew 2 RX12 D cy B) (hr : meth.sig.returnType = none) (hlocks : meth.locks = false) {N : Nat} {g : Gs} {x0 : Nat}  {dz : Ds} {K26 : Int32 × Ds → Option (Unit × Ds)} (hK26 : ∀ a, K26 a = some ((), dz) → WB p l e rmX12_startsAnew s m args below meth c 2 D cy B 0 0 (MQ below (QV D cy B g dz) args s 0 0 (wA B)) g a.2 [(0, .ref (ad B x0)), (1, .int a.1)] 26 []) {y1 : Int32} {d : Ds} (hf : fX12_startsAnew_B26 N g x0 K26 y1 d = some ((), dz)) : WB p l e rmX12_startsAnew s m args below meth c 2 D cy B 0 0 (MQ below (QV D cy B g dz) args s 0 0 (wA B)) g d [(0, .ref (ad B x0)), (1, .int y1)] 26 [] := by
  unfold fX12_startsAnew_B26 at hf
  refine b_iload_n C dX12_startsAnew_26 1 rfl rfl ?_
  refine b_bipush C (v := 24) dX12_startsAnew_27 (by decide) ?_
  refine b_icmp_ge C (tgt := 84) dX12_startsAnew_29 (by decide) (fun c2 => ?_) (fun c2 => ?_)
  · have hf := it_s c2 hf
    refine b_aload_n C dX12_startsAnew_84 0 rfl rfl ?_
    obtain ⟨h3, hf⟩ := gd_s hf
    obtain ⟨r4, er4, hf⟩ := ob_s hf
    refine b_gR C dX12_startsAnew_85 fl_X12_40 h3 er4 ?_
    refine b_sipush C (v := 454) dX12_startsAnew_88 (by decide) ?_
    refine b_iconst C (v := (-1)) dX12_startsAnew_91 (by decide) ?_
    obtain ⟨h5, hf⟩ := gd_s hf
    obtain ⟨h6, hf⟩ := gd_s hf
    obtain ⟨d7, ed7, hf⟩ := bd_s hf
    refine b_iast C h5 h6 ed7 dX12_startsAnew_92 ?_
    refine b_aload_n C dX12_startsAnew_93 0 rfl rfl ?_
    refine b_gR C dX12_startsAnew_94 fl_X12_40 h3 er4 ?_
    refine b_sipush C (v := 455) dX12_startsAnew_97 (by decide) ?_
    refine b_iconst C (v := (-1)) dX12_startsAnew_100 (by decide) ?_
    obtain ⟨h8, hf⟩ := gd_s hf
    obtain ⟨d9, ed9, hf⟩ := bd_s hf
    refine b_iast C h5 h8 ed9 dX12_startsAnew_101 ?_
    refine b_aload_n C dX12_startsAnew_102 0 rfl rfl ?_
    refine b_gR C dX12_startsAnew_103 fl_X12_40 h3 er4 ?_
    refine b_sipush C (v := 456) dX12_startsAnew_106 (by decide) ?_
    refine b_iconst C (v := (-1)) dX12_startsAnew_109 (by decide) ?_
    obtain ⟨h10, hf⟩ := gd_s hf
    obtain ⟨d11, ed11, hf⟩ := bd_s hf
    refine b_iast C h5 h10 ed11 dX12_startsAnew_110 ?_
    refine b_aload_n C dX12_startsAnew_111 0 rfl rfl ?_
    refine b_gR C dX12_startsAnew_112 fl_X12_40 h3 er4 ?_
    refine b_sipush C (v := 458) dX12_startsAnew_115 (by decide) ?_
    refine b_iconst C (v := (-1)) dX12_startsAnew_118 (by decide) ?_
    obtain ⟨h12, hf⟩ := gd_s hf
    obtain ⟨d13, ed13, hf⟩ := bd_s hf
    refine b_iast C h5 h12 ed13 dX12_startsAnew_119 ?_
    exact b_vret C hr hlocks hf dX12_startsAnew_120
  · have hf := if_s c2 hf
    refine b_aload_n C dX12_startsAnew_32 0 rfl rfl ?_
    obtain ⟨h14, hf⟩ := gd_s hf
    obtain ⟨r15, er15, hf⟩ := ob_s hf
    refine b_gR C dX12_startsAnew_33 fl_X12_46 h14 er15 ?_
    refine b_iload_n C dX12_startsAnew_36 1 rfl rfl ?_
    refine b_fconst0 C dX12_startsAnew_37 ?_
    obtain ⟨h16, hf⟩ := gd_s hf
    obtain ⟨h17, hf⟩ := gd_s hf
    obtain ⟨d18, ed18, hf⟩ := bd_s hf
    refine b_fast C h16 h17 ed18 dX12_startsAnew_38 ?_
    refine b_aload_n C dX12_startsAnew_39 0 rfl rfl ?_
    obtain ⟨r19, er19, hf⟩ := ob_s hf
    refine b_gR C dX12_startsAnew_40 fl_X12_40 h14 er19 ?_
    refine b_sipush C (v := 379) dX12_startsAnew_43 (by decide) ?_
    refine b_iconst C (v := 3) dX12_startsAnew_46 (by decide) ?_
    refine b_iload_n C dX12_startsAnew_47 1 rfl rfl ?_
    refine b_imul C dX12_startsAnew_48 ?_
    refine b_iadd C dX12_startsAnew_49 ?_
    refine b_iconst C (v := (-1)) dX12_startsAnew_50 (by decide) ?_
    obtain ⟨h20, hf⟩ := gd_s hf
    obtain ⟨h21, hf⟩ := gd_s hf
    obtain ⟨d22, ed22, hf⟩ := bd_s hf
    refine b_iast C h20 h21 ed22 dX12_startsAnew_51 ?_
    refine b_aload_n C dX12_startsAnew_52 0 rfl rfl ?_
    refine b_gR C dX12_startsAnew_53 fl_X12_40 h14 er19 ?_
    refine b_sipush C (v := 379) dX12_startsAnew_56 (by decide) ?_
    refine b_iconst C (v := 3) dX12_startsAnew_59 (by decide) ?_
    refine b_iload_n C dX12_startsAnew_60 1 rfl rfl ?_
    refine b_imul C dX12_startsAnew_61 ?_
    refine b_iadd C dX12_startsAnew_62 ?_
    refine b_iconst C (v := 1) dX12_startsAnew_63 (by decide) ?_
    refine b_iadd C dX12_startsAnew_64 ?_
    refine b_iconst C (v := (-1)) dX12_startsAnew_65 (by decide) ?_
    obtain ⟨h23, hf⟩ := gd_s hf
    obtain ⟨d24, ed24, hf⟩ := bd_s hf
    refine b_iast C h20 h23 ed24 dX12_startsAnew_66 ?_
    refine b_aload_n C dX12_startsAnew_67 0 rfl rfl ?_
    refine b_gR C dX12_startsAnew_68 fl_X12_40 h14 er19 ?_
    refine b_sipush C (v := 507) dX12_startsAnew_71 (by decide) ?_
    refine b_iload_n C dX12_startsAnew_74 1 rfl rfl ?_
    refine b_iadd C dX12_startsAnew_75 ?_
    refine b_iconst C (v := (-1)) dX12_startsAnew_76 (by decide) ?_
    obtain ⟨h25, hf⟩ := gd_s hf
    obtain ⟨d26, ed26, hf⟩ := bd_s hf
    refine b_iast C h20 h25 ed26 dX12_startsAnew_77 ?_
    obtain ⟨u27, eu27, hf⟩ := bd_s hf
    refine b_iinc C dX12_startsAnew_78 1 rfl (by rw [eu27]; rfl) [(1, .int u27), (0, .ref (ad B x0))] (by decide) rfl ?_
    refine b_goto C (tgt := 26) dX12_startsAnew_81 (by decide) ?_
    refine b_sub [(0, .ref (ad B x0)), (1, .int u27)] [1, 0] rfl ?_
    exact hK26 (u27, d26) hf
def fX12_startsAnew_L26 (N : Nat) (g : Gs) (x0 : Nat) : Int32 × Ds → Option (Unit × Ds) := lp (fun K26 a => fX12_startsAnew_B26 N g x0 K26 a.1 a.2) N
theorem tX12_startsAnew_L26 {p : Program} {l : Launch} {e : Env} {s : State} {m : MethodId} {args : Array Value} {below : List Frame} {meth : Method} {c : Code} {D : va_G} {cy : Nat → ClassId} {B : Bs} (C : Cx p s m args c cX12_startsAnew 2 RX12 D cy B) (hr : meth.sig.returnType = none) (hlocks : meth.locks = false) {N : Nat} {g : Gs} {x0 : Nat}  {dz : Ds} (a : Int32 × Ds) (hf : fX12_startsAnew_L26 N g x0 a = some ((), dz)) : WB p l e rmX12_startsAnew s m args below meth c 2 D cy B 0 0 (MQ below (QV D cy B g dz) args s 0 0 (wA B)) g a.2 [(0, .ref (ad B x0)), (1, .int a.1)] 26 [] :=
  lp_w (fun K26 hK26 a ha => tX12_startsAnew_26 C hr hlocks hK26 ha) N a hf
set_option maxRecDepth 100000 in
def fX12_startsAnew_B4 (N : Nat) (g : Gs) (x0 : Nat) (K4 : Int32 × Ds → Option (Unit × Ds)) (y1 : Int32) (d : Ds) : Option (Unit × Ds) := if (9178 : Int32) ≤ y1 then (fX12_startsAnew_L26 N g x0 (0, d)) else (gd (chk g x0 11) <| ob (gR g x0 17) fun r29 => (gd (chk g r29 102) <| gd (¬ (y1 < 0 ∨ gL g r29 ≤ y1.toNatClampNeg)) <| bd (sI d r29 y1.toNatClampNeg 0) fun d32 => (bd (y1 + 1) fun u33 => (K4 (u33, d32)))))
set_option maxHeartbeats 4000000 in
set_option maxRecDepth 100000 in
theorem tX12_startsAnew_4 {p : Program} {l : Launch} {e : Env} {s : State} {m : MethodId} {args : Array Value} {below : List Frame} {meth : Method} {c : Code} {D : va_G} {cy : Nat → ClassId} {B : Bs} (C : Cx p s m args c cX12_startsAnew 2 RX12 D cy B) (hr : meth.sig.returnType = none) (hlocks : meth.locks = false) {N : Nat} {g : Gs} {x0 : Nat}  {dz : Ds} {K4 : Int32 × Ds → Option (Unit × Ds)} (hK4 : ∀ a, K4 a = some ((), dz) → WB p l e rmX12_startsAnew s m args below meth c 2 D cy B 0 0 (MQ below (QV D cy B g dz) args s 0 0 (wA B)) g a.2 [(0, .ref (ad B x0)), (1, .int a.1)] 4 []) {y1 : Int32} {d : Ds} (hf : fX12_startsAnew_B4 N g x0 K4 y1 d = some ((), dz)) : WB p l e rmX12_startsAnew s m args below meth c 2 D cy B 0 0 (MQ below (QV D cy B g dz) args s 0 0 (wA B)) g d [(0, .ref (ad B x0)), (1, .int y1)] 4 [] := by
  unfold fX12_startsAnew_B4 at hf
  refine b_iload_n C dX12_startsAnew_4 1 rfl rfl ?_
  refine b_sipush C (v := 9178) dX12_startsAnew_5 (by decide) ?_
  refine b_icmp_ge C (tgt := 24) dX12_startsAnew_8 (by decide) (fun c1 => ?_) (fun c1 => ?_)
  · have hf := it_s c1 hf
    refine b_iconst C (v := 0) dX12_startsAnew_24 (by decide) ?_
    refine b_istore_n C dX12_startsAnew_25 rfl [(1, .int 0), (0, .ref (ad B x0))] (by decide) rfl ?_
    refine b_sub [(0, .ref (ad B x0)), (1, .int 0)] [1, 0] rfl ?_
    exact tX12_startsAnew_L26 C hr hlocks (0, d) hf
  · have hf := if_s c1 hf
    refine b_aload_n C dX12_startsAnew_11 0 rfl rfl ?_
    obtain ⟨h28, hf⟩ := gd_s hf
    obtain ⟨r29, er29, hf⟩ := ob_s hf
    refine b_gR C dX12_startsAnew_12 fl_X12_40 h28 er29 ?_
    refine b_iload_n C dX12_startsAnew_15 1 rfl rfl ?_
    refine b_iconst C (v := 0) dX12_startsAnew_16 (by decide) ?_
    obtain ⟨h30, hf⟩ := gd_s hf
    obtain ⟨h31, hf⟩ := gd_s hf
    obtain ⟨d32, ed32, hf⟩ := bd_s hf
    refine b_iast C h30 h31 ed32 dX12_startsAnew_17 ?_
    obtain ⟨u33, eu33, hf⟩ := bd_s hf
    refine b_iinc C dX12_startsAnew_18 1 rfl (by rw [eu33]; rfl) [(1, .int u33), (0, .ref (ad B x0))] (by decide) rfl ?_
    refine b_goto C (tgt := 4) dX12_startsAnew_21 (by decide) ?_
    refine b_sub [(0, .ref (ad B x0)), (1, .int u33)] [1, 0] rfl ?_
    exact hK4 (u33, d32) hf
def fX12_startsAnew_L4 (N : Nat) (g : Gs) (x0 : Nat) : Int32 × Ds → Option (Unit × Ds) := lp (fun K4 a => fX12_startsAnew_B4 N g x0 K4 a.1 a.2) N
theorem tX12_startsAnew_L4 {p : Program} {l : Launch} {e : Env} {s : State} {m : MethodId} {args : Array Value} {below : List Frame} {meth : Method} {c : Code} {D : va_G} {cy : Nat → ClassId} {B : Bs} (C : Cx p s m args c cX12_startsAnew 2 RX12 D cy B) (hr : meth.sig.returnType = none) (hlocks : meth.locks = false) {N : Nat} {g : Gs} {x0 : Nat}  {dz : Ds} (a : Int32 × Ds) (hf : fX12_startsAnew_L4 N g x0 a = some ((), dz)) : WB p l e rmX12_startsAnew s m args below meth c 2 D cy B 0 0 (MQ below (QV D cy B g dz) args s 0 0 (wA B)) g a.2 [(0, .ref (ad B x0)), (1, .int a.1)] 4 [] :=
  lp_w (fun K4 hK4 a ha => tX12_startsAnew_4 C hr hlocks hK4 ha) N a hf
set_option maxRecDepth 100000 in
def fX12_startsAnew (N : Nat) (g : Gs) (x0 : Nat) (d : Ds) : Option (Unit × Ds) := fX12_startsAnew_L4 N g x0 (352, d)
set_option maxHeartbeats 4000000 in
set_option maxRecDepth 100000 in
theorem tX12_startsAnew_E {p : Program} {l : Launch} {e : Env} {s : State} {m : MethodId} {args : Array Value} {below : List Frame} {meth : Method} {c : Code} {D : va_G} {cy : Nat → ClassId} {B : Bs} (C : Cx p s m args c cX12_startsAnew 2 RX12 D cy B) (hr : meth.sig.returnType = none) (hlocks : meth.locks = false) {N : Nat} {g : Gs} {x0 : Nat}  {dz : Ds} {d : Ds} (hf : fX12_startsAnew N g x0 d = some ((), dz)) : WB p l e rmX12_startsAnew s m args below meth c 2 D cy B 0 0 (MQ below (QV D cy B g dz) args s 0 0 (wA B)) g d [(0, .ref (ad B x0))] 0 [] := by
  unfold fX12_startsAnew at hf
  refine b_sipush C (v := 352) dX12_startsAnew_0 (by decide) ?_
  refine b_istore_n C dX12_startsAnew_3 rfl [(1, .int 352), (0, .ref (ad B x0))] (by decide) rfl ?_
  refine b_sub [(0, .ref (ad B x0)), (1, .int 352)] [1, 0] rfl ?_
  exact tX12_startsAnew_L4 C hr hlocks (352, d) hf
theorem kX12_startsAnew (l : Launch) (D : va_G) (cy : Nat → ClassId) (B : Bs) {N : Nat} {g : Gs} {x0 : Nat}  {dz : Ds} {d : Ds} (hf : fX12_startsAnew N g x0 d = some ((), dz)) : Met l yX12_startsAnew (.code yX12_startsAnew cX12_startsAnew 2 none :: wl) rmX12_startsAnew (PC D cy B [.ref (ad B x0)] g d) (QV D cy B g dz) 0 0 (wA B) :=
  met_of (by decide +kernel) (Nat.le_of_ble_eq_true rfl) (fun p e s m args below meth c C hr hlocks _ => b_sub [(0, .ref (ad B x0))] [0] rfl (tX12_startsAnew_E C hr hlocks hf))
/-! KeyMatrixModel.<init>()V -/
theorem oi_X12_7 : Cond.methodLink RX12 7 objectInit ∈ wl := mW (mT5 (List.mem_of_getElem? (i := 77) (by decide +kernel))) rfl
theorem fq_X12_13 : FLP RX12 13 11 1 := ⟨⟨RX12, TX12, 33, rfl, by decide, inl11, mW (mT5 (List.mem_of_getElem? (i := 92) (by decide +kernel))) rfl⟩, by decide, by decide +kernel⟩
theorem ft11 : FT 11 := ⟨RX12, TX12, 33, tyX12, rfl, tyX12_ok, nmX12⟩
theorem fr11_1 : FPR 11 1 RX12 := ⟨ft11, (RX12, TX12, 33), rfl, by decide +kernel, rfl, fun ty h a => by rw [tyX12_ok 1 (by decide)] at h; cases h; exact ⟨rfl, rfl⟩⟩
theorem fq_X12_17 : FLP RX12 17 11 3 := ⟨⟨RX12, TX12, 33, rfl, by decide, inl11, mW (mT5 (List.mem_of_getElem? (i := 94) (by decide +kernel))) rfl⟩, by decide, by decide +kernel⟩
theorem fr11_3 : FPR 11 3 RX12 := ⟨ft11, (RX12, TX12, 33), rfl, by decide +kernel, rfl, fun ty h a => by rw [tyX12_ok 3 (by decide)] at h; cases h; exact ⟨rfl, rfl⟩⟩
theorem fq_X12_20 : FLP RX12 20 11 5 := ⟨⟨RX12, TX12, 33, rfl, by decide, inl11, mW (mT5 (List.mem_of_getElem? (i := 96) (by decide +kernel))) rfl⟩, by decide, by decide +kernel⟩
theorem fr11_5 : FPR 11 5 RX12 := ⟨ft11, (RX12, TX12, 33), rfl, by decide +kernel, rfl, fun ty h a => by rw [tyX12_ok 5 (by decide)] at h; cases h; exact ⟨rfl, rfl⟩⟩
theorem fq_X12_24 : FLP RX12 24 11 6 := ⟨⟨RX12, TX12, 33, rfl, by decide, inl11, mW (mT5 (List.mem_of_getElem? (i := 97) (by decide +kernel))) rfl⟩, by decide, by decide +kernel⟩
theorem fr11_6 : FPR 11 6 RX12 := ⟨ft11, (RX12, TX12, 33), rfl, by decide +kernel, rfl, fun ty h a => by rw [tyX12_ok 6 (by decide)] at h; cases h; exact ⟨rfl, rfl⟩⟩
theorem fq_X12_27 : FLP RX12 27 11 7 := ⟨⟨RX12, TX12, 33, rfl, by decide, inl11, mW (mT5 (List.mem_of_getElem? (i := 98) (by decide +kernel))) rfl⟩, by decide, by decide +kernel⟩
theorem fr11_7 : FPR 11 7 RX12 := ⟨ft11, (RX12, TX12, 33), rfl, by decide +kernel, rfl, fun ty h a => by rw [tyX12_ok 7 (by decide)] at h; cases h; exact ⟨rfl, rfl⟩⟩
theorem ar_long : Cond.arrayClass (newarray.typeOf .long) ∈ wl := mW (mT5 (List.mem_of_getElem? (i := 191) (by decide +kernel))) rfl
theorem fq_X12_30 : FLP RX12 30 11 8 := ⟨⟨RX12, TX12, 33, rfl, by decide, inl11, mW (mT5 (List.mem_of_getElem? (i := 99) (by decide +kernel))) rfl⟩, by decide, by decide +kernel⟩
theorem fr11_8 : FPR 11 8 RX12 := ⟨ft11, (RX12, TX12, 33), rfl, by decide +kernel, rfl, fun ty h a => by rw [tyX12_ok 8 (by decide)] at h; cases h; exact ⟨rfl, rfl⟩⟩
theorem fq_X12_34 : FLP RX12 34 11 9 := ⟨⟨RX12, TX12, 33, rfl, by decide, inl11, mW (mT5 (List.mem_of_getElem? (i := 100) (by decide +kernel))) rfl⟩, by decide, by decide +kernel⟩
theorem fr11_9 : FPR 11 9 RX12 := ⟨ft11, (RX12, TX12, 33), rfl, by decide +kernel, rfl, fun ty h a => by rw [tyX12_ok 9 (by decide)] at h; cases h; exact ⟨rfl, rfl⟩⟩
theorem fl_X12_37 : FLI RX12 37 11 16 := ⟨⟨RX12, TX12, 33, rfl, by decide, inl11, Or.inl (mW (mT5 (List.mem_of_getElem? (i := 107) (by decide +kernel))) rfl)⟩, by decide, by decide +kernel⟩
theorem fp11_16 : FPI 11 16 := ⟨ft11, (RX12, TX12, 33), rfl, by decide +kernel, by decide +kernel⟩
theorem fq_X12_40 : FLP RX12 40 11 17 := ⟨⟨RX12, TX12, 33, rfl, by decide, inl11, mW (mT5 (List.mem_of_getElem? (i := 108) (by decide +kernel))) rfl⟩, by decide, by decide +kernel⟩
theorem fr11_17 : FPR 11 17 RX12 := ⟨ft11, (RX12, TX12, 33), rfl, by decide +kernel, rfl, fun ty h a => by rw [tyX12_ok 17 (by decide)] at h; cases h; exact ⟨rfl, rfl⟩⟩
theorem fq_X12_43 : FLP RX12 43 11 18 := ⟨⟨RX12, TX12, 33, rfl, by decide, inl11, mW (mT5 (List.mem_of_getElem? (i := 109) (by decide +kernel))) rfl⟩, by decide, by decide +kernel⟩
theorem fr11_18 : FPR 11 18 RX12 := ⟨ft11, (RX12, TX12, 33), rfl, by decide +kernel, rfl, fun ty h a => by rw [tyX12_ok 18 (by decide)] at h; cases h; exact ⟨rfl, rfl⟩⟩
theorem fq_X12_46 : FLP RX12 46 11 19 := ⟨⟨RX12, TX12, 33, rfl, by decide, inl11, mW (mT5 (List.mem_of_getElem? (i := 110) (by decide +kernel))) rfl⟩, by decide, by decide +kernel⟩
theorem fr11_19 : FPR 11 19 RX12 := ⟨ft11, (RX12, TX12, 33), rfl, by decide +kernel, rfl, fun ty h a => by rw [tyX12_ok 19 (by decide)] at h; cases h; exact ⟨rfl, rfl⟩⟩
theorem fq_X12_50 : FLP RX12 50 11 23 := ⟨⟨RX12, TX12, 33, rfl, by decide, inl11, mW (mT5 (List.mem_of_getElem? (i := 114) (by decide +kernel))) rfl⟩, by decide, by decide +kernel⟩
theorem fr11_23 : FPR 11 23 RX12 := ⟨ft11, (RX12, TX12, 33), rfl, by decide +kernel, rfl, fun ty h a => by rw [tyX12_ok 23 (by decide)] at h; cases h; exact ⟨rfl, rfl⟩⟩
theorem fq_X12_53 : FLP RX12 53 11 24 := ⟨⟨RX12, TX12, 33, rfl, by decide, inl11, mW (mT5 (List.mem_of_getElem? (i := 115) (by decide +kernel))) rfl⟩, by decide, by decide +kernel⟩
theorem fr11_24 : FPR 11 24 RX12 := ⟨ft11, (RX12, TX12, 33), rfl, by decide +kernel, rfl, fun ty h a => by rw [tyX12_ok 24 (by decide)] at h; cases h; exact ⟨rfl, rfl⟩⟩
theorem fq_X12_56 : FLP RX12 56 11 27 := ⟨⟨RX12, TX12, 33, rfl, by decide, inl11, mW (mT5 (List.mem_of_getElem? (i := 118) (by decide +kernel))) rfl⟩, by decide, by decide +kernel⟩
theorem fr11_27 : FPR 11 27 RX12 := ⟨ft11, (RX12, TX12, 33), rfl, by decide +kernel, rfl, fun ty h a => by rw [tyX12_ok 27 (by decide)] at h; cases h; exact ⟨rfl, rfl⟩⟩
theorem fq_X12_59 : FLP RX12 59 11 28 := ⟨⟨RX12, TX12, 33, rfl, by decide, inl11, mW (mT5 (List.mem_of_getElem? (i := 119) (by decide +kernel))) rfl⟩, by decide, by decide +kernel⟩
theorem fr11_28 : FPR 11 28 RX12 := ⟨ft11, (RX12, TX12, 33), rfl, by decide +kernel, rfl, fun ty h a => by rw [tyX12_ok 28 (by decide)] at h; cases h; exact ⟨rfl, rfl⟩⟩
theorem fq_X12_62 : FLP RX12 62 11 29 := ⟨⟨RX12, TX12, 33, rfl, by decide, inl11, mW (mT5 (List.mem_of_getElem? (i := 120) (by decide +kernel))) rfl⟩, by decide, by decide +kernel⟩
theorem fr11_29 : FPR 11 29 RX12 := ⟨ft11, (RX12, TX12, 33), rfl, by decide +kernel, rfl, fun ty h a => by rw [tyX12_ok 29 (by decide)] at h; cases h; exact ⟨rfl, rfl⟩⟩
theorem fq_X12_65 : FLP RX12 65 11 30 := ⟨⟨RX12, TX12, 33, rfl, by decide, inl11, mW (mT5 (List.mem_of_getElem? (i := 121) (by decide +kernel))) rfl⟩, by decide, by decide +kernel⟩
theorem fr11_30 : FPR 11 30 RX12 := ⟨ft11, (RX12, TX12, 33), rfl, by decide +kernel, rfl, fun ty h a => by rw [tyX12_ok 30 (by decide)] at h; cases h; exact ⟨rfl, rfl⟩⟩
theorem fq_X12_68 : FLP RX12 68 11 31 := ⟨⟨RX12, TX12, 33, rfl, by decide, inl11, mW (mT5 (List.mem_of_getElem? (i := 122) (by decide +kernel))) rfl⟩, by decide, by decide +kernel⟩
theorem fr11_31 : FPR 11 31 RX12 := ⟨ft11, (RX12, TX12, 33), rfl, by decide +kernel, rfl, fun ty h a => by rw [tyX12_ok 31 (by decide)] at h; cases h; exact ⟨rfl, rfl⟩⟩
theorem ar_boolean : Cond.arrayClass (newarray.typeOf .boolean) ∈ wl := mW (mT5 (List.mem_of_getElem? (i := 192) (by decide +kernel))) rfl
theorem fq_X12_71 : FLP RX12 71 11 32 := ⟨⟨RX12, TX12, 33, rfl, by decide, inl11, mW (mT5 (List.mem_of_getElem? (i := 123) (by decide +kernel))) rfl⟩, by decide, by decide +kernel⟩
theorem fr11_32 : FPR 11 32 RX12 := ⟨ft11, (RX12, TX12, 33), rfl, by decide +kernel, rfl, fun ty h a => by rw [tyX12_ok 32 (by decide)] at h; cases h; exact ⟨rfl, rfl⟩⟩
theorem fl_X12_34 : FLR RX12 34 11 9 := ⟨⟨RX12, TX12, 33, rfl, by decide, inl11, Or.inl (mW (mT5 (List.mem_of_getElem? (i := 100) (by decide +kernel))) rfl)⟩, by decide, by decide +kernel⟩
theorem yo_X12_letters : yX12_letters.cls ≠ "java/lang/invoke/MethodHandle" ∧ yX12_letters.cls ≠ "java/lang/invoke/VarHandle" ∧ (parseMethodDescriptor yX12_letters.desc).map (fun d => d.parameters.length) = some 7 := by decide +kernel
theorem co_X12_letters : Cond.code yX12_letters cX12_letters 7 (some .long) ∈ wl := mW (mT5 (List.mem_of_getElem? (i := 80) (by decide +kernel))) rfl
theorem in_X12_letters : Cond.initialized yX12_letters.cls ∈ wl := mW (mT1 (List.mem_of_getElem? (i := 12) (by decide +kernel))) rfl
theorem st_X12_letters : Cond.static yX12_letters ∈ wl := mW (mT5 (List.mem_of_getElem? (i := 79) (by decide +kernel))) rfl
theorem lv_X12_75 : LSt RX12 75 yX12_letters cX12_letters 7 (some .long) 7 := ⟨yo_X12_letters, Or.inl (mW (mT5 (List.mem_of_getElem? (i := 78) (by decide +kernel))) rfl), st_X12_letters, in_X12_letters, co_X12_letters⟩
theorem yo_X12_begins : yX12_begins.cls ≠ "java/lang/invoke/MethodHandle" ∧ yX12_begins.cls ≠ "java/lang/invoke/VarHandle" ∧ (parseMethodDescriptor yX12_begins.desc).map (fun d => d.parameters.length) = some 1 := by decide +kernel
theorem co_X12_begins : Cond.code yX12_begins cX12_begins 2 none ∈ wl := mW (mT5 (List.mem_of_getElem? (i := 87) (by decide +kernel))) rfl
theorem in_X12_begins : Cond.initialized yX12_begins.cls ∈ wl := mW (mT1 (List.mem_of_getElem? (i := 12) (by decide +kernel))) rfl
theorem st_X12_begins : Cond.static yX12_begins ∈ wl := mW (mT5 (List.mem_of_getElem? (i := 86) (by decide +kernel))) rfl
theorem lv_X12_83 : LSt RX12 83 yX12_begins cX12_begins 2 none 1 := ⟨yo_X12_begins, Or.inl (mW (mT5 (List.mem_of_getElem? (i := 85) (by decide +kernel))) rfl), st_X12_begins, in_X12_begins, co_X12_begins⟩
theorem yo_X12_startsAnew : yX12_startsAnew.cls ≠ "java/lang/invoke/MethodHandle" ∧ yX12_startsAnew.cls ≠ "java/lang/invoke/VarHandle" ∧ (parseMethodDescriptor yX12_startsAnew.desc).map (fun d => d.parameters.length) = some 0 := by decide +kernel
theorem co_X12_startsAnew : Cond.code yX12_startsAnew cX12_startsAnew 2 none ∈ wl := mW (mT5 (List.mem_of_getElem? (i := 91) (by decide +kernel))) rfl
theorem in_X12_startsAnew : Cond.initialized yX12_startsAnew.cls ∈ wl := mW (mT1 (List.mem_of_getElem? (i := 12) (by decide +kernel))) rfl
theorem im_X12_startsAnew : Cond.instanceMethod yX12_startsAnew ∈ wl := mW (mT5 (List.mem_of_getElem? (i := 90) (by decide +kernel))) rfl
theorem se_X12_startsAnew : Cond.selects yX12_startsAnew.cls yX12_startsAnew yX12_startsAnew ∈ wl := mW (mT0 (List.mem_of_getElem? (i := 31) (by decide +kernel))) rfl
theorem lv_X12_87 : LV RX12 87 yX12_startsAnew cX12_startsAnew 2 none 0 11 := ⟨⟨(RX12, TX12, 33), rfl, rfl⟩, yo_X12_startsAnew, mW (mT5 (List.mem_of_getElem? (i := 88) (by decide +kernel))) rfl, im_X12_startsAnew, se_X12_startsAnew, in_X12_startsAnew, co_X12_startsAnew⟩
theorem dX12_init_0 : decode cX12_init 0 = .ok (.aload_n 0, 1) := by decide +kernel
theorem dX12_init_1 : decode cX12_init 1 = .ok (.invokespecial 7, 3) := by decide +kernel
theorem dX12_init_4 : decode cX12_init 4 = .ok (.aload_n 0, 1) := by decide +kernel
theorem dX12_init_5 : decode cX12_init 5 = .ok (.sipush 2000, 3) := by decide +kernel
theorem dX12_init_8 : decode cX12_init 8 = .ok (.newarray .byte, 2) := by decide +kernel
theorem dX12_init_10 : decode cX12_init 10 = .ok (.putfield 13, 3) := by decide +kernel
theorem dX12_init_13 : decode cX12_init 13 = .ok (.aload_n 0, 1) := by decide +kernel
theorem dX12_init_14 : decode cX12_init 14 = .ok (.sipush 2000, 3) := by decide +kernel
theorem dX12_init_17 : decode cX12_init 17 = .ok (.newarray .byte, 2) := by decide +kernel
theorem dX12_init_19 : decode cX12_init 19 = .ok (.putfield 17, 3) := by decide +kernel
theorem dX12_init_22 : decode cX12_init 22 = .ok (.aload_n 0, 1) := by decide +kernel
theorem dX12_init_23 : decode cX12_init 23 = .ok (.sipush 403, 3) := by decide +kernel
theorem dX12_init_26 : decode cX12_init 26 = .ok (.newarray .int, 2) := by decide +kernel
theorem dX12_init_28 : decode cX12_init 28 = .ok (.putfield 20, 3) := by decide +kernel
theorem dX12_init_31 : decode cX12_init 31 = .ok (.aload_n 0, 1) := by decide +kernel
theorem dX12_init_32 : decode cX12_init 32 = .ok (.sipush 403, 3) := by decide +kernel
theorem dX12_init_35 : decode cX12_init 35 = .ok (.newarray .int, 2) := by decide +kernel
theorem dX12_init_37 : decode cX12_init 37 = .ok (.putfield 24, 3) := by decide +kernel
theorem dX12_init_40 : decode cX12_init 40 = .ok (.aload_n 0, 1) := by decide +kernel
theorem dX12_init_41 : decode cX12_init 41 = .ok (.sipush 403, 3) := by decide +kernel
theorem dX12_init_44 : decode cX12_init 44 = .ok (.newarray .int, 2) := by decide +kernel
theorem dX12_init_46 : decode cX12_init 46 = .ok (.putfield 27, 3) := by decide +kernel
theorem dX12_init_49 : decode cX12_init 49 = .ok (.aload_n 0, 1) := by decide +kernel
theorem dX12_init_50 : decode cX12_init 50 = .ok (.sipush 403, 3) := by decide +kernel
theorem dX12_init_53 : decode cX12_init 53 = .ok (.newarray .long, 2) := by decide +kernel
theorem dX12_init_55 : decode cX12_init 55 = .ok (.putfield 30, 3) := by decide +kernel
theorem dX12_init_58 : decode cX12_init 58 = .ok (.aload_n 0, 1) := by decide +kernel
theorem dX12_init_59 : decode cX12_init 59 = .ok (.bipush 20, 2) := by decide +kernel
theorem dX12_init_61 : decode cX12_init 61 = .ok (.newarray .long, 2) := by decide +kernel
theorem dX12_init_63 : decode cX12_init 63 = .ok (.putfield 34, 3) := by decide +kernel
theorem dX12_init_66 : decode cX12_init 66 = .ok (.aload_n 0, 1) := by decide +kernel
theorem dX12_init_67 : decode cX12_init 67 = .ok (.iconst (-1), 1) := by decide +kernel
theorem dX12_init_68 : decode cX12_init 68 = .ok (.putfield 37, 3) := by decide +kernel
theorem dX12_init_71 : decode cX12_init 71 = .ok (.aload_n 0, 1) := by decide +kernel
theorem dX12_init_72 : decode cX12_init 72 = .ok (.sipush 9178, 3) := by decide +kernel
theorem dX12_init_75 : decode cX12_init 75 = .ok (.newarray .int, 2) := by decide +kernel
theorem dX12_init_77 : decode cX12_init 77 = .ok (.putfield 40, 3) := by decide +kernel
theorem dX12_init_80 : decode cX12_init 80 = .ok (.aload_n 0, 1) := by decide +kernel
theorem dX12_init_81 : decode cX12_init 81 = .ok (.sipush 352, 3) := by decide +kernel
theorem dX12_init_84 : decode cX12_init 84 = .ok (.newarray .int, 2) := by decide +kernel
theorem dX12_init_86 : decode cX12_init 86 = .ok (.putfield 43, 3) := by decide +kernel
theorem dX12_init_89 : decode cX12_init 89 = .ok (.aload_n 0, 1) := by decide +kernel
theorem dX12_init_90 : decode cX12_init 90 = .ok (.bipush 24, 2) := by decide +kernel
theorem dX12_init_92 : decode cX12_init 92 = .ok (.newarray .float, 2) := by decide +kernel
theorem dX12_init_94 : decode cX12_init 94 = .ok (.putfield 46, 3) := by decide +kernel
theorem dX12_init_97 : decode cX12_init 97 = .ok (.aload_n 0, 1) := by decide +kernel
theorem dX12_init_98 : decode cX12_init 98 = .ok (.iconst 3, 1) := by decide +kernel
theorem dX12_init_99 : decode cX12_init 99 = .ok (.newarray .int, 2) := by decide +kernel
theorem dX12_init_101 : decode cX12_init 101 = .ok (.putfield 50, 3) := by decide +kernel
theorem dX12_init_104 : decode cX12_init 104 = .ok (.aload_n 0, 1) := by decide +kernel
theorem dX12_init_105 : decode cX12_init 105 = .ok (.bipush 10, 2) := by decide +kernel
theorem dX12_init_107 : decode cX12_init 107 = .ok (.newarray .int, 2) := by decide +kernel
theorem dX12_init_109 : decode cX12_init 109 = .ok (.putfield 53, 3) := by decide +kernel
theorem dX12_init_112 : decode cX12_init 112 = .ok (.aload_n 0, 1) := by decide +kernel
theorem dX12_init_113 : decode cX12_init 113 = .ok (.bipush 25, 2) := by decide +kernel
theorem dX12_init_115 : decode cX12_init 115 = .ok (.newarray .int, 2) := by decide +kernel
theorem dX12_init_117 : decode cX12_init 117 = .ok (.putfield 56, 3) := by decide +kernel
theorem dX12_init_120 : decode cX12_init 120 = .ok (.aload_n 0, 1) := by decide +kernel
theorem dX12_init_121 : decode cX12_init 121 = .ok (.sipush 9178, 3) := by decide +kernel
theorem dX12_init_124 : decode cX12_init 124 = .ok (.newarray .int, 2) := by decide +kernel
theorem dX12_init_126 : decode cX12_init 126 = .ok (.putfield 59, 3) := by decide +kernel
theorem dX12_init_129 : decode cX12_init 129 = .ok (.aload_n 0, 1) := by decide +kernel
theorem dX12_init_130 : decode cX12_init 130 = .ok (.bipush 24, 2) := by decide +kernel
theorem dX12_init_132 : decode cX12_init 132 = .ok (.newarray .float, 2) := by decide +kernel
theorem dX12_init_134 : decode cX12_init 134 = .ok (.putfield 62, 3) := by decide +kernel
theorem dX12_init_137 : decode cX12_init 137 = .ok (.aload_n 0, 1) := by decide +kernel
theorem dX12_init_138 : decode cX12_init 138 = .ok (.sipush 27534, 3) := by decide +kernel
theorem dX12_init_141 : decode cX12_init 141 = .ok (.newarray .int, 2) := by decide +kernel
theorem dX12_init_143 : decode cX12_init 143 = .ok (.putfield 65, 3) := by decide +kernel
theorem dX12_init_146 : decode cX12_init 146 = .ok (.aload_n 0, 1) := by decide +kernel
theorem dX12_init_147 : decode cX12_init 147 = .ok (.bipush 72, 2) := by decide +kernel
theorem dX12_init_149 : decode cX12_init 149 = .ok (.newarray .float, 2) := by decide +kernel
theorem dX12_init_151 : decode cX12_init 151 = .ok (.putfield 68, 3) := by decide +kernel
theorem dX12_init_154 : decode cX12_init 154 = .ok (.aload_n 0, 1) := by decide +kernel
theorem dX12_init_155 : decode cX12_init 155 = .ok (.iconst 3, 1) := by decide +kernel
theorem dX12_init_156 : decode cX12_init 156 = .ok (.newarray .boolean, 2) := by decide +kernel
theorem dX12_init_158 : decode cX12_init 158 = .ok (.putfield 71, 3) := by decide +kernel
theorem dX12_init_161 : decode cX12_init 161 = .ok (.aload_n 0, 1) := by decide +kernel
theorem dX12_init_162 : decode cX12_init 162 = .ok (.getfield 34, 3) := by decide +kernel
theorem dX12_init_165 : decode cX12_init 165 = .ok (.iconst 0, 1) := by decide +kernel
theorem dX12_init_166 : decode cX12_init 166 = .ok (.bipush 98, 2) := by decide +kernel
theorem dX12_init_168 : decode cX12_init 168 = .ok (.bipush 111, 2) := by decide +kernel
theorem dX12_init_170 : decode cX12_init 170 = .ok (.bipush 97, 2) := by decide +kernel
theorem dX12_init_172 : decode cX12_init 172 = .ok (.bipush 114, 2) := by decide +kernel
theorem dX12_init_174 : decode cX12_init 174 = .ok (.bipush 100, 2) := by decide +kernel
theorem dX12_init_176 : decode cX12_init 176 = .ok (.iconst 0, 1) := by decide +kernel
theorem dX12_init_177 : decode cX12_init 177 = .ok (.iconst 0, 1) := by decide +kernel
theorem dX12_init_178 : decode cX12_init 178 = .ok (.invokestatic 75, 3) := by decide +kernel
theorem dX12_init_181 : decode cX12_init 181 = .ok (.lastore, 1) := by decide +kernel
theorem dX12_init_182 : decode cX12_init 182 = .ok (.aload_n 0, 1) := by decide +kernel
theorem dX12_init_183 : decode cX12_init 183 = .ok (.getfield 34, 3) := by decide +kernel
theorem dX12_init_186 : decode cX12_init 186 = .ok (.iconst 1, 1) := by decide +kernel
theorem dX12_init_187 : decode cX12_init 187 = .ok (.bipush 100, 2) := by decide +kernel
theorem dX12_init_189 : decode cX12_init 189 = .ok (.bipush 105, 2) := by decide +kernel
theorem dX12_init_191 : decode cX12_init 191 = .ok (.bipush 111, 2) := by decide +kernel
theorem dX12_init_193 : decode cX12_init 193 = .ok (.bipush 100, 2) := by decide +kernel
theorem dX12_init_195 : decode cX12_init 195 = .ok (.bipush 101, 2) := by decide +kernel
theorem dX12_init_197 : decode cX12_init 197 = .ok (.bipush 115, 2) := by decide +kernel
theorem dX12_init_199 : decode cX12_init 199 = .ok (.iconst 0, 1) := by decide +kernel
theorem dX12_init_200 : decode cX12_init 200 = .ok (.invokestatic 75, 3) := by decide +kernel
theorem dX12_init_203 : decode cX12_init 203 = .ok (.lastore, 1) := by decide +kernel
theorem dX12_init_204 : decode cX12_init 204 = .ok (.aload_n 0, 1) := by decide +kernel
theorem dX12_init_205 : decode cX12_init 205 = .ok (.getfield 34, 3) := by decide +kernel
theorem dX12_init_208 : decode cX12_init 208 = .ok (.iconst 2, 1) := by decide +kernel
theorem dX12_init_209 : decode cX12_init 209 = .ok (.bipush 115, 2) := by decide +kernel
theorem dX12_init_211 : decode cX12_init 211 = .ok (.bipush 105, 2) := by decide +kernel
theorem dX12_init_213 : decode cX12_init 213 = .ok (.bipush 120, 2) := by decide +kernel
theorem dX12_init_215 : decode cX12_init 215 = .ok (.iconst 0, 1) := by decide +kernel
theorem dX12_init_216 : decode cX12_init 216 = .ok (.iconst 0, 1) := by decide +kernel
theorem dX12_init_217 : decode cX12_init 217 = .ok (.iconst 0, 1) := by decide +kernel
theorem dX12_init_218 : decode cX12_init 218 = .ok (.iconst 0, 1) := by decide +kernel
theorem dX12_init_219 : decode cX12_init 219 = .ok (.invokestatic 75, 3) := by decide +kernel
theorem dX12_init_222 : decode cX12_init 222 = .ok (.lastore, 1) := by decide +kernel
theorem dX12_init_223 : decode cX12_init 223 = .ok (.aload_n 0, 1) := by decide +kernel
theorem dX12_init_224 : decode cX12_init 224 = .ok (.getfield 34, 3) := by decide +kernel
theorem dX12_init_227 : decode cX12_init 227 = .ok (.iconst 3, 1) := by decide +kernel
theorem dX12_init_228 : decode cX12_init 228 = .ok (.bipush 98, 2) := by decide +kernel
theorem dX12_init_230 : decode cX12_init 230 = .ok (.bipush 111, 2) := by decide +kernel
theorem dX12_init_232 : decode cX12_init 232 = .ok (.bipush 117, 2) := by decide +kernel
theorem dX12_init_234 : decode cX12_init 234 = .ok (.bipush 110, 2) := by decide +kernel
theorem dX12_init_236 : decode cX12_init 236 = .ok (.bipush 99, 2) := by decide +kernel
theorem dX12_init_238 : decode cX12_init 238 = .ok (.bipush 101, 2) := by decide +kernel
theorem dX12_init_240 : decode cX12_init 240 = .ok (.iconst 0, 1) := by decide +kernel
theorem dX12_init_241 : decode cX12_init 241 = .ok (.invokestatic 75, 3) := by decide +kernel
theorem dX12_init_244 : decode cX12_init 244 = .ok (.lastore, 1) := by decide +kernel
theorem dX12_init_245 : decode cX12_init 245 = .ok (.aload_n 0, 1) := by decide +kernel
theorem dX12_init_246 : decode cX12_init 246 = .ok (.getfield 34, 3) := by decide +kernel
theorem dX12_init_249 : decode cX12_init 249 = .ok (.iconst 4, 1) := by decide +kernel
theorem dX12_init_250 : decode cX12_init 250 = .ok (.bipush 116, 2) := by decide +kernel
theorem dX12_init_252 : decode cX12_init 252 = .ok (.bipush 101, 2) := by decide +kernel
theorem dX12_init_254 : decode cX12_init 254 = .ok (.bipush 114, 2) := by decide +kernel
theorem dX12_init_256 : decode cX12_init 256 = .ok (.bipush 109, 2) := by decide +kernel
theorem dX12_init_258 : decode cX12_init 258 = .ok (.iconst 0, 1) := by decide +kernel
theorem dX12_init_259 : decode cX12_init 259 = .ok (.iconst 0, 1) := by decide +kernel
theorem dX12_init_260 : decode cX12_init 260 = .ok (.iconst 0, 1) := by decide +kernel
theorem dX12_init_261 : decode cX12_init 261 = .ok (.invokestatic 75, 3) := by decide +kernel
theorem dX12_init_264 : decode cX12_init 264 = .ok (.lastore, 1) := by decide +kernel
theorem dX12_init_265 : decode cX12_init 265 = .ok (.aload_n 0, 1) := by decide +kernel
theorem dX12_init_266 : decode cX12_init 266 = .ok (.getfield 34, 3) := by decide +kernel
theorem dX12_init_269 : decode cX12_init 269 = .ok (.iconst 5, 1) := by decide +kernel
theorem dX12_init_270 : decode cX12_init 270 = .ok (.bipush 99, 2) := by decide +kernel
theorem dX12_init_272 : decode cX12_init 272 = .ok (.bipush 104, 2) := by decide +kernel
theorem dX12_init_274 : decode cX12_init 274 = .ok (.bipush 111, 2) := by decide +kernel
theorem dX12_init_276 : decode cX12_init 276 = .ok (.bipush 114, 2) := by decide +kernel
theorem dX12_init_278 : decode cX12_init 278 = .ok (.bipush 100, 2) := by decide +kernel
theorem dX12_init_280 : decode cX12_init 280 = .ok (.bipush 105, 2) := by decide +kernel
theorem dX12_init_282 : decode cX12_init 282 = .ok (.bipush 110, 2) := by decide +kernel
theorem dX12_init_284 : decode cX12_init 284 = .ok (.invokestatic 75, 3) := by decide +kernel
theorem dX12_init_287 : decode cX12_init 287 = .ok (.bipush 103, 2) := by decide +kernel
theorem dX12_init_289 : decode cX12_init 289 = .ok (.invokestatic 79, 3) := by decide +kernel
theorem dX12_init_292 : decode cX12_init 292 = .ok (.lastore, 1) := by decide +kernel
theorem dX12_init_293 : decode cX12_init 293 = .ok (.aload_n 0, 1) := by decide +kernel
theorem dX12_init_294 : decode cX12_init 294 = .ok (.getfield 34, 3) := by decide +kernel
theorem dX12_init_297 : decode cX12_init 297 = .ok (.bipush 6, 2) := by decide +kernel
theorem dX12_init_299 : decode cX12_init 299 = .ok (.bipush 116, 2) := by decide +kernel
theorem dX12_init_301 : decode cX12_init 301 = .ok (.bipush 119, 2) := by decide +kernel
theorem dX12_init_303 : decode cX12_init 303 = .ok (.bipush 105, 2) := by decide +kernel
theorem dX12_init_305 : decode cX12_init 305 = .ok (.bipush 99, 2) := by decide +kernel
theorem dX12_init_307 : decode cX12_init 307 = .ok (.bipush 101, 2) := by decide +kernel
theorem dX12_init_309 : decode cX12_init 309 = .ok (.iconst 0, 1) := by decide +kernel
theorem dX12_init_310 : decode cX12_init 310 = .ok (.iconst 0, 1) := by decide +kernel
theorem dX12_init_311 : decode cX12_init 311 = .ok (.invokestatic 75, 3) := by decide +kernel
theorem dX12_init_314 : decode cX12_init 314 = .ok (.lastore, 1) := by decide +kernel
theorem dX12_init_315 : decode cX12_init 315 = .ok (.aload_n 0, 1) := by decide +kernel
theorem dX12_init_316 : decode cX12_init 316 = .ok (.getfield 34, 3) := by decide +kernel
theorem dX12_init_319 : decode cX12_init 319 = .ok (.bipush 7, 2) := by decide +kernel
theorem dX12_init_321 : decode cX12_init 321 = .ok (.bipush 114, 2) := by decide +kernel
theorem dX12_init_323 : decode cX12_init 323 = .ok (.bipush 101, 2) := by decide +kernel
theorem dX12_init_325 : decode cX12_init 325 = .ok (.bipush 112, 2) := by decide +kernel
theorem dX12_init_327 : decode cX12_init 327 = .ok (.bipush 101, 2) := by decide +kernel
theorem dX12_init_329 : decode cX12_init 329 = .ok (.bipush 97, 2) := by decide +kernel
theorem dX12_init_331 : decode cX12_init 331 = .ok (.bipush 116, 2) := by decide +kernel
theorem dX12_init_333 : decode cX12_init 333 = .ok (.iconst 0, 1) := by decide +kernel
theorem dX12_init_334 : decode cX12_init 334 = .ok (.invokestatic 75, 3) := by decide +kernel
theorem dX12_init_337 : decode cX12_init 337 = .ok (.lastore, 1) := by decide +kernel
theorem dX12_init_338 : decode cX12_init 338 = .ok (.aload_n 0, 1) := by decide +kernel
theorem dX12_init_339 : decode cX12_init 339 = .ok (.getfield 34, 3) := by decide +kernel
theorem dX12_init_342 : decode cX12_init 342 = .ok (.bipush 8, 2) := by decide +kernel
theorem dX12_init_344 : decode cX12_init 344 = .ok (.bipush 107, 2) := by decide +kernel
theorem dX12_init_346 : decode cX12_init 346 = .ok (.bipush 101, 2) := by decide +kernel
theorem dX12_init_348 : decode cX12_init 348 = .ok (.bipush 121, 2) := by decide +kernel
theorem dX12_init_350 : decode cX12_init 350 = .ok (.iconst 0, 1) := by decide +kernel
theorem dX12_init_351 : decode cX12_init 351 = .ok (.iconst 0, 1) := by decide +kernel
theorem dX12_init_352 : decode cX12_init 352 = .ok (.iconst 0, 1) := by decide +kernel
theorem dX12_init_353 : decode cX12_init 353 = .ok (.iconst 0, 1) := by decide +kernel
theorem dX12_init_354 : decode cX12_init 354 = .ok (.invokestatic 75, 3) := by decide +kernel
theorem dX12_init_357 : decode cX12_init 357 = .ok (.lastore, 1) := by decide +kernel
theorem dX12_init_358 : decode cX12_init 358 = .ok (.aload_n 0, 1) := by decide +kernel
theorem dX12_init_359 : decode cX12_init 359 = .ok (.getfield 34, 3) := by decide +kernel
theorem dX12_init_362 : decode cX12_init 362 = .ok (.bipush 9, 2) := by decide +kernel
theorem dX12_init_364 : decode cX12_init 364 = .ok (.bipush 99, 2) := by decide +kernel
theorem dX12_init_366 : decode cX12_init 366 = .ok (.bipush 104, 2) := by decide +kernel
theorem dX12_init_368 : decode cX12_init 368 = .ok (.bipush 111, 2) := by decide +kernel
theorem dX12_init_370 : decode cX12_init 370 = .ok (.bipush 114, 2) := by decide +kernel
theorem dX12_init_372 : decode cX12_init 372 = .ok (.bipush 100, 2) := by decide +kernel
theorem dX12_init_374 : decode cX12_init 374 = .ok (.iconst 0, 1) := by decide +kernel
theorem dX12_init_375 : decode cX12_init 375 = .ok (.iconst 0, 1) := by decide +kernel
theorem dX12_init_376 : decode cX12_init 376 = .ok (.invokestatic 75, 3) := by decide +kernel
theorem dX12_init_379 : decode cX12_init 379 = .ok (.lastore, 1) := by decide +kernel
theorem dX12_init_380 : decode cX12_init 380 = .ok (.aload_n 0, 1) := by decide +kernel
theorem dX12_init_381 : decode cX12_init 381 = .ok (.getfield 34, 3) := by decide +kernel
theorem dX12_init_384 : decode cX12_init 384 = .ok (.bipush 10, 2) := by decide +kernel
theorem dX12_init_386 : decode cX12_init 386 = .ok (.bipush 109, 2) := by decide +kernel
theorem dX12_init_388 : decode cX12_init 388 = .ok (.bipush 97, 2) := by decide +kernel
theorem dX12_init_390 : decode cX12_init 390 = .ok (.bipush 99, 2) := by decide +kernel
theorem dX12_init_392 : decode cX12_init 392 = .ok (.bipush 114, 2) := by decide +kernel
theorem dX12_init_394 : decode cX12_init 394 = .ok (.bipush 111, 2) := by decide +kernel
theorem dX12_init_396 : decode cX12_init 396 = .ok (.iconst 0, 1) := by decide +kernel
theorem dX12_init_397 : decode cX12_init 397 = .ok (.iconst 0, 1) := by decide +kernel
theorem dX12_init_398 : decode cX12_init 398 = .ok (.invokestatic 75, 3) := by decide +kernel
theorem dX12_init_401 : decode cX12_init 401 = .ok (.lastore, 1) := by decide +kernel
theorem dX12_init_402 : decode cX12_init 402 = .ok (.aload_n 0, 1) := by decide +kernel
theorem dX12_init_403 : decode cX12_init 403 = .ok (.getfield 34, 3) := by decide +kernel
theorem dX12_init_406 : decode cX12_init 406 = .ok (.bipush 11, 2) := by decide +kernel
theorem dX12_init_408 : decode cX12_init 408 = .ok (.bipush 99, 2) := by decide +kernel
theorem dX12_init_410 : decode cX12_init 410 = .ok (.bipush 111, 2) := by decide +kernel
theorem dX12_init_412 : decode cX12_init 412 = .ok (.bipush 100, 2) := by decide +kernel
theorem dX12_init_414 : decode cX12_init 414 = .ok (.bipush 101, 2) := by decide +kernel
theorem dX12_init_416 : decode cX12_init 416 = .ok (.iconst 0, 1) := by decide +kernel
theorem dX12_init_417 : decode cX12_init 417 = .ok (.iconst 0, 1) := by decide +kernel
theorem dX12_init_418 : decode cX12_init 418 = .ok (.iconst 0, 1) := by decide +kernel
theorem dX12_init_419 : decode cX12_init 419 = .ok (.invokestatic 75, 3) := by decide +kernel
theorem dX12_init_422 : decode cX12_init 422 = .ok (.lastore, 1) := by decide +kernel
theorem dX12_init_423 : decode cX12_init 423 = .ok (.aload_n 0, 1) := by decide +kernel
theorem dX12_init_424 : decode cX12_init 424 = .ok (.getfield 34, 3) := by decide +kernel
theorem dX12_init_427 : decode cX12_init 427 = .ok (.bipush 12, 2) := by decide +kernel
theorem dX12_init_429 : decode cX12_init 429 = .ok (.bipush 109, 2) := by decide +kernel
theorem dX12_init_431 : decode cX12_init 431 = .ok (.bipush 111, 2) := by decide +kernel
theorem dX12_init_433 : decode cX12_init 433 = .ok (.bipush 100, 2) := by decide +kernel
theorem dX12_init_435 : decode cX12_init 435 = .ok (.iconst 0, 1) := by decide +kernel
theorem dX12_init_436 : decode cX12_init 436 = .ok (.iconst 0, 1) := by decide +kernel
theorem dX12_init_437 : decode cX12_init 437 = .ok (.iconst 0, 1) := by decide +kernel
theorem dX12_init_438 : decode cX12_init 438 = .ok (.iconst 0, 1) := by decide +kernel
theorem dX12_init_439 : decode cX12_init 439 = .ok (.invokestatic 75, 3) := by decide +kernel
theorem dX12_init_442 : decode cX12_init 442 = .ok (.lastore, 1) := by decide +kernel
theorem dX12_init_443 : decode cX12_init 443 = .ok (.aload_n 0, 1) := by decide +kernel
theorem dX12_init_444 : decode cX12_init 444 = .ok (.getfield 34, 3) := by decide +kernel
theorem dX12_init_447 : decode cX12_init 447 = .ok (.bipush 13, 2) := by decide +kernel
theorem dX12_init_449 : decode cX12_init 449 = .ok (.bipush 108, 2) := by decide +kernel
theorem dX12_init_451 : decode cX12_init 451 = .ok (.bipush 97, 2) := by decide +kernel
theorem dX12_init_453 : decode cX12_init 453 = .ok (.bipush 121, 2) := by decide +kernel
theorem dX12_init_455 : decode cX12_init 455 = .ok (.bipush 101, 2) := by decide +kernel
theorem dX12_init_457 : decode cX12_init 457 = .ok (.bipush 114, 2) := by decide +kernel
theorem dX12_init_459 : decode cX12_init 459 = .ok (.iconst 0, 1) := by decide +kernel
theorem dX12_init_460 : decode cX12_init 460 = .ok (.iconst 0, 1) := by decide +kernel
theorem dX12_init_461 : decode cX12_init 461 = .ok (.invokestatic 75, 3) := by decide +kernel
theorem dX12_init_464 : decode cX12_init 464 = .ok (.lastore, 1) := by decide +kernel
theorem dX12_init_465 : decode cX12_init 465 = .ok (.aload_n 0, 1) := by decide +kernel
theorem dX12_init_466 : decode cX12_init 466 = .ok (.getfield 34, 3) := by decide +kernel
theorem dX12_init_469 : decode cX12_init 469 = .ok (.bipush 14, 2) := by decide +kernel
theorem dX12_init_471 : decode cX12_init 471 = .ok (.bipush 116, 2) := by decide +kernel
theorem dX12_init_473 : decode cX12_init 473 = .ok (.bipush 111, 2) := by decide +kernel
theorem dX12_init_475 : decode cX12_init 475 = .ok (.bipush 103, 2) := by decide +kernel
theorem dX12_init_477 : decode cX12_init 477 = .ok (.bipush 103, 2) := by decide +kernel
theorem dX12_init_479 : decode cX12_init 479 = .ok (.bipush 108, 2) := by decide +kernel
theorem dX12_init_481 : decode cX12_init 481 = .ok (.bipush 101, 2) := by decide +kernel
theorem dX12_init_483 : decode cX12_init 483 = .ok (.iconst 0, 1) := by decide +kernel
theorem dX12_init_484 : decode cX12_init 484 = .ok (.invokestatic 75, 3) := by decide +kernel
theorem dX12_init_487 : decode cX12_init 487 = .ok (.lastore, 1) := by decide +kernel
theorem dX12_init_488 : decode cX12_init 488 = .ok (.aload_n 0, 1) := by decide +kernel
theorem dX12_init_489 : decode cX12_init 489 = .ok (.getfield 34, 3) := by decide +kernel
theorem dX12_init_492 : decode cX12_init 492 = .ok (.bipush 15, 2) := by decide +kernel
theorem dX12_init_494 : decode cX12_init 494 = .ok (.bipush 110, 2) := by decide +kernel
theorem dX12_init_496 : decode cX12_init 496 = .ok (.bipush 111, 2) := by decide +kernel
theorem dX12_init_498 : decode cX12_init 498 = .ok (.bipush 116, 2) := by decide +kernel
theorem dX12_init_500 : decode cX12_init 500 = .ok (.bipush 104, 2) := by decide +kernel
theorem dX12_init_502 : decode cX12_init 502 = .ok (.bipush 105, 2) := by decide +kernel
theorem dX12_init_504 : decode cX12_init 504 = .ok (.bipush 110, 2) := by decide +kernel
theorem dX12_init_506 : decode cX12_init 506 = .ok (.bipush 103, 2) := by decide +kernel
theorem dX12_init_508 : decode cX12_init 508 = .ok (.invokestatic 75, 3) := by decide +kernel
theorem dX12_init_511 : decode cX12_init 511 = .ok (.lastore, 1) := by decide +kernel
theorem dX12_init_512 : decode cX12_init 512 = .ok (.aload_n 0, 1) := by decide +kernel
theorem dX12_init_513 : decode cX12_init 513 = .ok (.getfield 34, 3) := by decide +kernel
theorem dX12_init_516 : decode cX12_init 516 = .ok (.bipush 16, 2) := by decide +kernel
theorem dX12_init_518 : decode cX12_init 518 = .ok (.bipush 98, 2) := by decide +kernel
theorem dX12_init_520 : decode cX12_init 520 = .ok (.bipush 101, 2) := by decide +kernel
theorem dX12_init_522 : decode cX12_init 522 = .ok (.bipush 108, 2) := by decide +kernel
theorem dX12_init_524 : decode cX12_init 524 = .ok (.bipush 111, 2) := by decide +kernel
theorem dX12_init_526 : decode cX12_init 526 = .ok (.bipush 119, 2) := by decide +kernel
theorem dX12_init_528 : decode cX12_init 528 = .ok (.iconst 0, 1) := by decide +kernel
theorem dX12_init_529 : decode cX12_init 529 = .ok (.iconst 0, 1) := by decide +kernel
theorem dX12_init_530 : decode cX12_init 530 = .ok (.invokestatic 75, 3) := by decide +kernel
theorem dX12_init_533 : decode cX12_init 533 = .ok (.lastore, 1) := by decide +kernel
theorem dX12_init_534 : decode cX12_init 534 = .ok (.aload_n 0, 1) := by decide +kernel
theorem dX12_init_535 : decode cX12_init 535 = .ok (.getfield 34, 3) := by decide +kernel
theorem dX12_init_538 : decode cX12_init 538 = .ok (.bipush 17, 2) := by decide +kernel
theorem dX12_init_540 : decode cX12_init 540 = .ok (.bipush 104, 2) := by decide +kernel
theorem dX12_init_542 : decode cX12_init 542 = .ok (.bipush 111, 2) := by decide +kernel
theorem dX12_init_544 : decode cX12_init 544 = .ok (.bipush 108, 2) := by decide +kernel
theorem dX12_init_546 : decode cX12_init 546 = .ok (.bipush 100, 2) := by decide +kernel
theorem dX12_init_548 : decode cX12_init 548 = .ok (.iconst 0, 1) := by decide +kernel
theorem dX12_init_549 : decode cX12_init 549 = .ok (.iconst 0, 1) := by decide +kernel
theorem dX12_init_550 : decode cX12_init 550 = .ok (.iconst 0, 1) := by decide +kernel
theorem dX12_init_551 : decode cX12_init 551 = .ok (.invokestatic 75, 3) := by decide +kernel
theorem dX12_init_554 : decode cX12_init 554 = .ok (.lastore, 1) := by decide +kernel
theorem dX12_init_555 : decode cX12_init 555 = .ok (.aload_n 0, 1) := by decide +kernel
theorem dX12_init_556 : decode cX12_init 556 = .ok (.getfield 34, 3) := by decide +kernel
theorem dX12_init_559 : decode cX12_init 559 = .ok (.bipush 18, 2) := by decide +kernel
theorem dX12_init_561 : decode cX12_init 561 = .ok (.bipush 100, 2) := by decide +kernel
theorem dX12_init_563 : decode cX12_init 563 = .ok (.bipush 111, 2) := by decide +kernel
theorem dX12_init_565 : decode cX12_init 565 = .ok (.bipush 117, 2) := by decide +kernel
theorem dX12_init_567 : decode cX12_init 567 = .ok (.bipush 98, 2) := by decide +kernel
theorem dX12_init_569 : decode cX12_init 569 = .ok (.bipush 108, 2) := by decide +kernel
theorem dX12_init_571 : decode cX12_init 571 = .ok (.bipush 101, 2) := by decide +kernel
theorem dX12_init_573 : decode cX12_init 573 = .ok (.iconst 0, 1) := by decide +kernel
theorem dX12_init_574 : decode cX12_init 574 = .ok (.invokestatic 75, 3) := by decide +kernel
theorem dX12_init_577 : decode cX12_init 577 = .ok (.lastore, 1) := by decide +kernel
theorem dX12_init_578 : decode cX12_init 578 = .ok (.aload_n 0, 1) := by decide +kernel
theorem dX12_init_579 : decode cX12_init 579 = .ok (.getfield 34, 3) := by decide +kernel
theorem dX12_init_582 : decode cX12_init 582 = .ok (.bipush 19, 2) := by decide +kernel
theorem dX12_init_584 : decode cX12_init 584 = .ok (.bipush 112, 2) := by decide +kernel
theorem dX12_init_586 : decode cX12_init 586 = .ok (.bipush 108, 2) := by decide +kernel
theorem dX12_init_588 : decode cX12_init 588 = .ok (.bipush 97, 2) := by decide +kernel
theorem dX12_init_590 : decode cX12_init 590 = .ok (.bipush 121, 2) := by decide +kernel
theorem dX12_init_592 : decode cX12_init 592 = .ok (.iconst 0, 1) := by decide +kernel
theorem dX12_init_593 : decode cX12_init 593 = .ok (.iconst 0, 1) := by decide +kernel
theorem dX12_init_594 : decode cX12_init 594 = .ok (.iconst 0, 1) := by decide +kernel
theorem dX12_init_595 : decode cX12_init 595 = .ok (.invokestatic 75, 3) := by decide +kernel
theorem dX12_init_598 : decode cX12_init 598 = .ok (.lastore, 1) := by decide +kernel
theorem dX12_init_599 : decode cX12_init 599 = .ok (.aload_n 0, 1) := by decide +kernel
theorem dX12_init_600 : decode cX12_init 600 = .ok (.getfield 40, 3) := by decide +kernel
theorem dX12_init_603 : decode cX12_init 603 = .ok (.invokestatic 83, 3) := by decide +kernel
theorem dX12_init_606 : decode cX12_init 606 = .ok (.aload_n 0, 1) := by decide +kernel
theorem dX12_init_607 : decode cX12_init 607 = .ok (.invokevirtual 87, 3) := by decide +kernel
theorem dX12_init_610 : decode cX12_init 610 = .ok (.return_, 1) := by decide +kernel
def rmX12_init : Room := { frames := 2, cells := 18, slots := 52035, locals := 48 }
set_option maxRecDepth 100000 in
def fX12_init_J555 (N : Nat)  (x0 : Nat) (n0 s0 : Nat) (g : Gs) (d : Ds) : Option (Gs × Ds) := gd (chk g x0 11) <| ob (gR g x0 9) fun r295 => (gd (gN g - n0 ≤ 18 ∧ gS g - s0 ≤ 52035) <| cb (fX12_letters N g 100 111 117 98 108 101 0 d) fun u299 d297 => (gd (chk g r295 103) <| gd (¬ ((18 : Int32) < 0 ∨ gL g r295 ≤ (18 : Int32).toNatClampNeg)) <| bd (sL d297 r295 (18 : Int32).toNatClampNeg u299) fun d302 => (cb (fX12_letters N g 112 108 97 121 0 0 0 d302) fun u305 d303 => (gd (¬ ((19 : Int32) < 0 ∨ gL g r295 ≤ (19 : Int32).toNatClampNeg)) <| bd (sL d303 r295 (19 : Int32).toNatClampNeg u305) fun d307 => (ob (gR g x0 17) fun r308 => (cv (fX12_begins N g r308 d307) fun d309 => (cv (fX12_startsAnew N g x0 d309) fun d311 => (gd (gN g = n0 + 18 ∧ gS g = s0 + 52035) <| some (g, d311)))))))))
set_option maxHeartbeats 4000000 in
set_option maxRecDepth 100000 in
theorem tX12_init_555 {p : Program} {l : Launch} {e : Env} {s : State} {m : MethodId} {args : Array Value} {below : List Frame} {meth : Method} {c : Code} {D : va_G} {cy : Nat → ClassId} {B : Bs} (C : Cx p s m args c cX12_init 1 RX12 D cy B) (hr : meth.sig.returnType = none) (hlocks : meth.locks = false) (hin : meth.name = "<init>") {n0 s0 : Nat} (hz : s.heap.size = B.1 + n0) {N : Nat} {x0 : Nat} {gz : Gs} {dz : Ds} {g : Gs} {d : Ds} (hn : n0 ≤ gN g) (hs : s0 ≤ gS g) (hf : fX12_init_J555 N x0 n0 s0 g d = some (gz, dz)) : WB p l e rmX12_init s m args below meth c 1 D cy B (gN g - n0) (gS g - s0) (MQ below (QV D cy B gz dz) args s 18 52035 (wA B)) g d [(0, .ref (ad B x0))] 555 [] := by
  unfold fX12_init_J555 at hf
  refine b_aload_n C dX12_init_555 0 rfl rfl ?_
  obtain ⟨h294, hf⟩ := gd_s hf
  obtain ⟨r295, er295, hf⟩ := ob_s hf
  refine b_gR C dX12_init_556 fl_X12_34 h294 er295 ?_
  refine b_bipush C (v := 18) dX12_init_559 (by decide) ?_
  refine b_bipush C (v := 100) dX12_init_561 (by decide) ?_
  refine b_bipush C (v := 111) dX12_init_563 (by decide) ?_
  refine b_bipush C (v := 117) dX12_init_565 (by decide) ?_
  refine b_bipush C (v := 98) dX12_init_567 (by decide) ?_
  refine b_bipush C (v := 108) dX12_init_569 (by decide) ?_
  refine b_bipush C (v := 101) dX12_init_571 (by decide) ?_
  refine b_iconst C (v := 0) dX12_init_573 (by decide) ?_
  obtain ⟨h296, hf⟩ := gd_s hf
  obtain ⟨u299, d297, k298, hf⟩ := cb_s hf
  refine b_cSJ C [.int 18, .ref (ad B r295)] dX12_init_574 (kX12_letters l D cy B k298) lv_X12_75 ⟨rfl, rfl, Nat.le_of_ble_eq_true rfl, Nat.le_of_ble_eq_true rfl⟩ rfl (Nat.le_of_ble_eq_true rfl) h296 rfl ?_
  obtain ⟨h300, hf⟩ := gd_s hf
  obtain ⟨h301, hf⟩ := gd_s hf
  obtain ⟨d302, ed302, hf⟩ := bd_s hf
  refine b_last C h300 h301 ed302 dX12_init_577 ?_
  refine b_aload_n C dX12_init_578 0 rfl rfl ?_
  refine b_gR C dX12_init_579 fl_X12_34 h294 er295 ?_
  refine b_bipush C (v := 19) dX12_init_582 (by decide) ?_
  refine b_bipush C (v := 112) dX12_init_584 (by decide) ?_
  refine b_bipush C (v := 108) dX12_init_586 (by decide) ?_
  refine b_bipush C (v := 97) dX12_init_588 (by decide) ?_
  refine b_bipush C (v := 121) dX12_init_590 (by decide) ?_
  refine b_iconst C (v := 0) dX12_init_592 (by decide) ?_
  refine b_iconst C (v := 0) dX12_init_593 (by decide) ?_
  refine b_iconst C (v := 0) dX12_init_594 (by decide) ?_
  obtain ⟨u305, d303, k304, hf⟩ := cb_s hf
  refine b_cSJ C [.int 19, .ref (ad B r295)] dX12_init_595 (kX12_letters l D cy B k304) lv_X12_75 ⟨rfl, rfl, Nat.le_of_ble_eq_true rfl, Nat.le_of_ble_eq_true rfl⟩ rfl (Nat.le_of_ble_eq_true rfl) h296 rfl ?_
  obtain ⟨h306, hf⟩ := gd_s hf
  obtain ⟨d307, ed307, hf⟩ := bd_s hf
  refine b_last C h300 h306 ed307 dX12_init_598 ?_
  refine b_aload_n C dX12_init_599 0 rfl rfl ?_
  obtain ⟨r308, er308, hf⟩ := ob_s hf
  refine b_gR C dX12_init_600 fl_X12_40 h294 er308 ?_
  obtain ⟨d309, k310, hf⟩ := cv_s hf
  refine b_cSN C [] dX12_init_603 (kX12_begins l D cy B k310) lv_X12_83 ⟨rfl, rfl, Nat.le_of_ble_eq_true rfl, Nat.le_of_ble_eq_true rfl⟩ rfl (Nat.le_of_ble_eq_true rfl) h296 rfl ?_
  refine b_aload_n C dX12_init_606 0 rfl rfl ?_
  obtain ⟨d311, k312, hf⟩ := cv_s hf
  refine b_cVN C [] dX12_init_607 (kX12_startsAnew l D cy B k312) lv_X12_87 ⟨rfl, rfl, Nat.le_of_ble_eq_true rfl, Nat.le_of_ble_eq_true rfl⟩ h294 (by decide) rfl (Nat.le_of_ble_eq_true rfl) h296 rfl ?_
  obtain ⟨h313, hf⟩ := gd_s hf
  exact b_vretC C hr hlocks h313 hf dX12_init_610
set_option maxRecDepth 100000 in
def fX12_init_J423 (N : Nat)  (x0 : Nat) (n0 s0 : Nat) (g : Gs) (d : Ds) : Option (Gs × Ds) := gd (chk g x0 11) <| ob (gR g x0 9) fun r261 => (gd (gN g - n0 ≤ 18 ∧ gS g - s0 ≤ 52035) <| cb (fX12_letters N g 109 111 100 0 0 0 0 d) fun u265 d263 => (gd (chk g r261 103) <| gd (¬ ((12 : Int32) < 0 ∨ gL g r261 ≤ (12 : Int32).toNatClampNeg)) <| bd (sL d263 r261 (12 : Int32).toNatClampNeg u265) fun d268 => (cb (fX12_letters N g 108 97 121 101 114 0 0 d268) fun u271 d269 => (gd (¬ ((13 : Int32) < 0 ∨ gL g r261 ≤ (13 : Int32).toNatClampNeg)) <| bd (sL d269 r261 (13 : Int32).toNatClampNeg u271) fun d273 => (cb (fX12_letters N g 116 111 103 103 108 101 0 d273) fun u276 d274 => (gd (¬ ((14 : Int32) < 0 ∨ gL g r261 ≤ (14 : Int32).toNatClampNeg)) <| bd (sL d274 r261 (14 : Int32).toNatClampNeg u276) fun d278 => (cb (fX12_letters N g 110 111 116 104 105 110 103 d278) fun u281 d279 => (gd (¬ ((15 : Int32) < 0 ∨ gL g r261 ≤ (15 : Int32).toNatClampNeg)) <| bd (sL d279 r261 (15 : Int32).toNatClampNeg u281) fun d283 => (cb (fX12_letters N g 98 101 108 111 119 0 0 d283) fun u286 d284 => (gd (¬ ((16 : Int32) < 0 ∨ gL g r261 ≤ (16 : Int32).toNatClampNeg)) <| bd (sL d284 r261 (16 : Int32).toNatClampNeg u286) fun d288 => (cb (fX12_letters N g 104 111 108 100 0 0 0 d288) fun u291 d289 => (gd (¬ ((17 : Int32) < 0 ∨ gL g r261 ≤ (17 : Int32).toNatClampNeg)) <| bd (sL d289 r261 (17 : Int32).toNatClampNeg u291) fun d293 => (fX12_init_J555 N x0 n0 s0 g d293)))))))))))))
set_option maxHeartbeats 4000000 in
set_option maxRecDepth 100000 in
theorem tX12_init_423 {p : Program} {l : Launch} {e : Env} {s : State} {m : MethodId} {args : Array Value} {below : List Frame} {meth : Method} {c : Code} {D : va_G} {cy : Nat → ClassId} {B : Bs} (C : Cx p s m args c cX12_init 1 RX12 D cy B) (hr : meth.sig.returnType = none) (hlocks : meth.locks = false) (hin : meth.name = "<init>") {n0 s0 : Nat} (hz : s.heap.size = B.1 + n0) {N : Nat} {x0 : Nat} {gz : Gs} {dz : Ds} {g : Gs} {d : Ds} (hn : n0 ≤ gN g) (hs : s0 ≤ gS g) (hf : fX12_init_J423 N x0 n0 s0 g d = some (gz, dz)) : WB p l e rmX12_init s m args below meth c 1 D cy B (gN g - n0) (gS g - s0) (MQ below (QV D cy B gz dz) args s 18 52035 (wA B)) g d [(0, .ref (ad B x0))] 423 [] := by
  unfold fX12_init_J423 at hf
  refine b_aload_n C dX12_init_423 0 rfl rfl ?_
  obtain ⟨h260, hf⟩ := gd_s hf
  obtain ⟨r261, er261, hf⟩ := ob_s hf
  refine b_gR C dX12_init_424 fl_X12_34 h260 er261 ?_
  refine b_bipush C (v := 12) dX12_init_427 (by decide) ?_
  refine b_bipush C (v := 109) dX12_init_429 (by decide) ?_
  refine b_bipush C (v := 111) dX12_init_431 (by decide) ?_
  refine b_bipush C (v := 100) dX12_init_433 (by decide) ?_
  refine b_iconst C (v := 0) dX12_init_435 (by decide) ?_
  refine b_iconst C (v := 0) dX12_init_436 (by decide) ?_
  refine b_iconst C (v := 0) dX12_init_437 (by decide) ?_
  refine b_iconst C (v := 0) dX12_init_438 (by decide) ?_
  obtain ⟨h262, hf⟩ := gd_s hf
  obtain ⟨u265, d263, k264, hf⟩ := cb_s hf
  refine b_cSJ C [.int 12, .ref (ad B r261)] dX12_init_439 (kX12_letters l D cy B k264) lv_X12_75 ⟨rfl, rfl, Nat.le_of_ble_eq_true rfl, Nat.le_of_ble_eq_true rfl⟩ rfl (Nat.le_of_ble_eq_true rfl) h262 rfl ?_
  obtain ⟨h266, hf⟩ := gd_s hf
  obtain ⟨h267, hf⟩ := gd_s hf
  obtain ⟨d268, ed268, hf⟩ := bd_s hf
  refine b_last C h266 h267 ed268 dX12_init_442 ?_
  refine b_aload_n C dX12_init_443 0 rfl rfl ?_
  refine b_gR C dX12_init_444 fl_X12_34 h260 er261 ?_
  refine b_bipush C (v := 13) dX12_init_447 (by decide) ?_
  refine b_bipush C (v := 108) dX12_init_449 (by decide) ?_
  refine b_bipush C (v := 97) dX12_init_451 (by decide) ?_
  refine b_bipush C (v := 121) dX12_init_453 (by decide) ?_
  refine b_bipush C (v := 101) dX12_init_455 (by decide) ?_
  refine b_bipush C (v := 114) dX12_init_457 (by decide) ?_
  refine b_iconst C (v := 0) dX12_init_459 (by decide) ?_
  refine b_iconst C (v := 0) dX12_init_460 (by decide) ?_
  obtain ⟨u271, d269, k270, hf⟩ := cb_s hf
  refine b_cSJ C [.int 13, .ref (ad B r261)] dX12_init_461 (kX12_letters l D cy B k270) lv_X12_75 ⟨rfl, rfl, Nat.le_of_ble_eq_true rfl, Nat.le_of_ble_eq_true rfl⟩ rfl (Nat.le_of_ble_eq_true rfl) h262 rfl ?_
  obtain ⟨h272, hf⟩ := gd_s hf
  obtain ⟨d273, ed273, hf⟩ := bd_s hf
  refine b_last C h266 h272 ed273 dX12_init_464 ?_
  refine b_aload_n C dX12_init_465 0 rfl rfl ?_
  refine b_gR C dX12_init_466 fl_X12_34 h260 er261 ?_
  refine b_bipush C (v := 14) dX12_init_469 (by decide) ?_
  refine b_bipush C (v := 116) dX12_init_471 (by decide) ?_
  refine b_bipush C (v := 111) dX12_init_473 (by decide) ?_
  refine b_bipush C (v := 103) dX12_init_475 (by decide) ?_
  refine b_bipush C (v := 103) dX12_init_477 (by decide) ?_
  refine b_bipush C (v := 108) dX12_init_479 (by decide) ?_
  refine b_bipush C (v := 101) dX12_init_481 (by decide) ?_
  refine b_iconst C (v := 0) dX12_init_483 (by decide) ?_
  obtain ⟨u276, d274, k275, hf⟩ := cb_s hf
  refine b_cSJ C [.int 14, .ref (ad B r261)] dX12_init_484 (kX12_letters l D cy B k275) lv_X12_75 ⟨rfl, rfl, Nat.le_of_ble_eq_true rfl, Nat.le_of_ble_eq_true rfl⟩ rfl (Nat.le_of_ble_eq_true rfl) h262 rfl ?_
  obtain ⟨h277, hf⟩ := gd_s hf
  obtain ⟨d278, ed278, hf⟩ := bd_s hf
  refine b_last C h266 h277 ed278 dX12_init_487 ?_
  refine b_aload_n C dX12_init_488 0 rfl rfl ?_
  refine b_gR C dX12_init_489 fl_X12_34 h260 er261 ?_
  refine b_bipush C (v := 15) dX12_init_492 (by decide) ?_
  refine b_bipush C (v := 110) dX12_init_494 (by decide) ?_
  refine b_bipush C (v := 111) dX12_init_496 (by decide) ?_
  refine b_bipush C (v := 116) dX12_init_498 (by decide) ?_
  refine b_bipush C (v := 104) dX12_init_500 (by decide) ?_
  refine b_bipush C (v := 105) dX12_init_502 (by decide) ?_
  refine b_bipush C (v := 110) dX12_init_504 (by decide) ?_
  refine b_bipush C (v := 103) dX12_init_506 (by decide) ?_
  obtain ⟨u281, d279, k280, hf⟩ := cb_s hf
  refine b_cSJ C [.int 15, .ref (ad B r261)] dX12_init_508 (kX12_letters l D cy B k280) lv_X12_75 ⟨rfl, rfl, Nat.le_of_ble_eq_true rfl, Nat.le_of_ble_eq_true rfl⟩ rfl (Nat.le_of_ble_eq_true rfl) h262 rfl ?_
  obtain ⟨h282, hf⟩ := gd_s hf
  obtain ⟨d283, ed283, hf⟩ := bd_s hf
  refine b_last C h266 h282 ed283 dX12_init_511 ?_
  refine b_aload_n C dX12_init_512 0 rfl rfl ?_
  refine b_gR C dX12_init_513 fl_X12_34 h260 er261 ?_
  refine b_bipush C (v := 16) dX12_init_516 (by decide) ?_
  refine b_bipush C (v := 98) dX12_init_518 (by decide) ?_
  refine b_bipush C (v := 101) dX12_init_520 (by decide) ?_
  refine b_bipush C (v := 108) dX12_init_522 (by decide) ?_
  refine b_bipush C (v := 111) dX12_init_524 (by decide) ?_
  refine b_bipush C (v := 119) dX12_init_526 (by decide) ?_
  refine b_iconst C (v := 0) dX12_init_528 (by decide) ?_
  refine b_iconst C (v := 0) dX12_init_529 (by decide) ?_
  obtain ⟨u286, d284, k285, hf⟩ := cb_s hf
  refine b_cSJ C [.int 16, .ref (ad B r261)] dX12_init_530 (kX12_letters l D cy B k285) lv_X12_75 ⟨rfl, rfl, Nat.le_of_ble_eq_true rfl, Nat.le_of_ble_eq_true rfl⟩ rfl (Nat.le_of_ble_eq_true rfl) h262 rfl ?_
  obtain ⟨h287, hf⟩ := gd_s hf
  obtain ⟨d288, ed288, hf⟩ := bd_s hf
  refine b_last C h266 h287 ed288 dX12_init_533 ?_
  refine b_aload_n C dX12_init_534 0 rfl rfl ?_
  refine b_gR C dX12_init_535 fl_X12_34 h260 er261 ?_
  refine b_bipush C (v := 17) dX12_init_538 (by decide) ?_
  refine b_bipush C (v := 104) dX12_init_540 (by decide) ?_
  refine b_bipush C (v := 111) dX12_init_542 (by decide) ?_
  refine b_bipush C (v := 108) dX12_init_544 (by decide) ?_
  refine b_bipush C (v := 100) dX12_init_546 (by decide) ?_
  refine b_iconst C (v := 0) dX12_init_548 (by decide) ?_
  refine b_iconst C (v := 0) dX12_init_549 (by decide) ?_
  refine b_iconst C (v := 0) dX12_init_550 (by decide) ?_
  obtain ⟨u291, d289, k290, hf⟩ := cb_s hf
  refine b_cSJ C [.int 17, .ref (ad B r261)] dX12_init_551 (kX12_letters l D cy B k290) lv_X12_75 ⟨rfl, rfl, Nat.le_of_ble_eq_true rfl, Nat.le_of_ble_eq_true rfl⟩ rfl (Nat.le_of_ble_eq_true rfl) h262 rfl ?_
  obtain ⟨h292, hf⟩ := gd_s hf
  obtain ⟨d293, ed293, hf⟩ := bd_s hf
  refine b_last C h266 h292 ed293 dX12_init_554 ?_
  refine b_sub [(0, .ref (ad B x0))] [0] rfl ?_
  exact tX12_init_555 C hr hlocks hin hz hn hs hf
set_option maxRecDepth 100000 in
def fX12_init_J293 (N : Nat)  (x0 : Nat) (n0 s0 : Nat) (g : Gs) (d : Ds) : Option (Gs × Ds) := gd (chk g x0 11) <| ob (gR g x0 9) fun r227 => (gd (gN g - n0 ≤ 18 ∧ gS g - s0 ≤ 52035) <| cb (fX12_letters N g 116 119 105 99 101 0 0 d) fun u231 d229 => (gd (chk g r227 103) <| gd (¬ ((6 : Int32) < 0 ∨ gL g r227 ≤ (6 : Int32).toNatClampNeg)) <| bd (sL d229 r227 (6 : Int32).toNatClampNeg u231) fun d234 => (cb (fX12_letters N g 114 101 112 101 97 116 0 d234) fun u237 d235 => (gd (¬ ((7 : Int32) < 0 ∨ gL g r227 ≤ (7 : Int32).toNatClampNeg)) <| bd (sL d235 r227 (7 : Int32).toNatClampNeg u237) fun d239 => (cb (fX12_letters N g 107 101 121 0 0 0 0 d239) fun u242 d240 => (gd (¬ ((8 : Int32) < 0 ∨ gL g r227 ≤ (8 : Int32).toNatClampNeg)) <| bd (sL d240 r227 (8 : Int32).toNatClampNeg u242) fun d244 => (cb (fX12_letters N g 99 104 111 114 100 0 0 d244) fun u247 d245 => (gd (¬ ((9 : Int32) < 0 ∨ gL g r227 ≤ (9 : Int32).toNatClampNeg)) <| bd (sL d245 r227 (9 : Int32).toNatClampNeg u247) fun d249 => (cb (fX12_letters N g 109 97 99 114 111 0 0 d249) fun u252 d250 => (gd (¬ ((10 : Int32) < 0 ∨ gL g r227 ≤ (10 : Int32).toNatClampNeg)) <| bd (sL d250 r227 (10 : Int32).toNatClampNeg u252) fun d254 => (cb (fX12_letters N g 99 111 100 101 0 0 0 d254) fun u257 d255 => (gd (¬ ((11 : Int32) < 0 ∨ gL g r227 ≤ (11 : Int32).toNatClampNeg)) <| bd (sL d255 r227 (11 : Int32).toNatClampNeg u257) fun d259 => (fX12_init_J423 N x0 n0 s0 g d259)))))))))))))
set_option maxHeartbeats 4000000 in
set_option maxRecDepth 100000 in
theorem tX12_init_293 {p : Program} {l : Launch} {e : Env} {s : State} {m : MethodId} {args : Array Value} {below : List Frame} {meth : Method} {c : Code} {D : va_G} {cy : Nat → ClassId} {B : Bs} (C : Cx p s m args c cX12_init 1 RX12 D cy B) (hr : meth.sig.returnType = none) (hlocks : meth.locks = false) (hin : meth.name = "<init>") {n0 s0 : Nat} (hz : s.heap.size = B.1 + n0) {N : Nat} {x0 : Nat} {gz : Gs} {dz : Ds} {g : Gs} {d : Ds} (hn : n0 ≤ gN g) (hs : s0 ≤ gS g) (hf : fX12_init_J293 N x0 n0 s0 g d = some (gz, dz)) : WB p l e rmX12_init s m args below meth c 1 D cy B (gN g - n0) (gS g - s0) (MQ below (QV D cy B gz dz) args s 18 52035 (wA B)) g d [(0, .ref (ad B x0))] 293 [] := by
  unfold fX12_init_J293 at hf
  refine b_aload_n C dX12_init_293 0 rfl rfl ?_
  obtain ⟨h226, hf⟩ := gd_s hf
  obtain ⟨r227, er227, hf⟩ := ob_s hf
  refine b_gR C dX12_init_294 fl_X12_34 h226 er227 ?_
  refine b_bipush C (v := 6) dX12_init_297 (by decide) ?_
  refine b_bipush C (v := 116) dX12_init_299 (by decide) ?_
  refine b_bipush C (v := 119) dX12_init_301 (by decide) ?_
  refine b_bipush C (v := 105) dX12_init_303 (by decide) ?_
  refine b_bipush C (v := 99) dX12_init_305 (by decide) ?_
  refine b_bipush C (v := 101) dX12_init_307 (by decide) ?_
  refine b_iconst C (v := 0) dX12_init_309 (by decide) ?_
  refine b_iconst C (v := 0) dX12_init_310 (by decide) ?_
  obtain ⟨h228, hf⟩ := gd_s hf
  obtain ⟨u231, d229, k230, hf⟩ := cb_s hf
  refine b_cSJ C [.int 6, .ref (ad B r227)] dX12_init_311 (kX12_letters l D cy B k230) lv_X12_75 ⟨rfl, rfl, Nat.le_of_ble_eq_true rfl, Nat.le_of_ble_eq_true rfl⟩ rfl (Nat.le_of_ble_eq_true rfl) h228 rfl ?_
  obtain ⟨h232, hf⟩ := gd_s hf
  obtain ⟨h233, hf⟩ := gd_s hf
  obtain ⟨d234, ed234, hf⟩ := bd_s hf
  refine b_last C h232 h233 ed234 dX12_init_314 ?_
  refine b_aload_n C dX12_init_315 0 rfl rfl ?_
  refine b_gR C dX12_init_316 fl_X12_34 h226 er227 ?_
  refine b_bipush C (v := 7) dX12_init_319 (by decide) ?_
  refine b_bipush C (v := 114) dX12_init_321 (by decide) ?_
  refine b_bipush C (v := 101) dX12_init_323 (by decide) ?_
  refine b_bipush C (v := 112) dX12_init_325 (by decide) ?_
  refine b_bipush C (v := 101) dX12_init_327 (by decide) ?_
  refine b_bipush C (v := 97) dX12_init_329 (by decide) ?_
  refine b_bipush C (v := 116) dX12_init_331 (by decide) ?_
  refine b_iconst C (v := 0) dX12_init_333 (by decide) ?_
  obtain ⟨u237, d235, k236, hf⟩ := cb_s hf
  refine b_cSJ C [.int 7, .ref (ad B r227)] dX12_init_334 (kX12_letters l D cy B k236) lv_X12_75 ⟨rfl, rfl, Nat.le_of_ble_eq_true rfl, Nat.le_of_ble_eq_true rfl⟩ rfl (Nat.le_of_ble_eq_true rfl) h228 rfl ?_
  obtain ⟨h238, hf⟩ := gd_s hf
  obtain ⟨d239, ed239, hf⟩ := bd_s hf
  refine b_last C h232 h238 ed239 dX12_init_337 ?_
  refine b_aload_n C dX12_init_338 0 rfl rfl ?_
  refine b_gR C dX12_init_339 fl_X12_34 h226 er227 ?_
  refine b_bipush C (v := 8) dX12_init_342 (by decide) ?_
  refine b_bipush C (v := 107) dX12_init_344 (by decide) ?_
  refine b_bipush C (v := 101) dX12_init_346 (by decide) ?_
  refine b_bipush C (v := 121) dX12_init_348 (by decide) ?_
  refine b_iconst C (v := 0) dX12_init_350 (by decide) ?_
  refine b_iconst C (v := 0) dX12_init_351 (by decide) ?_
  refine b_iconst C (v := 0) dX12_init_352 (by decide) ?_
  refine b_iconst C (v := 0) dX12_init_353 (by decide) ?_
  obtain ⟨u242, d240, k241, hf⟩ := cb_s hf
  refine b_cSJ C [.int 8, .ref (ad B r227)] dX12_init_354 (kX12_letters l D cy B k241) lv_X12_75 ⟨rfl, rfl, Nat.le_of_ble_eq_true rfl, Nat.le_of_ble_eq_true rfl⟩ rfl (Nat.le_of_ble_eq_true rfl) h228 rfl ?_
  obtain ⟨h243, hf⟩ := gd_s hf
  obtain ⟨d244, ed244, hf⟩ := bd_s hf
  refine b_last C h232 h243 ed244 dX12_init_357 ?_
  refine b_aload_n C dX12_init_358 0 rfl rfl ?_
  refine b_gR C dX12_init_359 fl_X12_34 h226 er227 ?_
  refine b_bipush C (v := 9) dX12_init_362 (by decide) ?_
  refine b_bipush C (v := 99) dX12_init_364 (by decide) ?_
  refine b_bipush C (v := 104) dX12_init_366 (by decide) ?_
  refine b_bipush C (v := 111) dX12_init_368 (by decide) ?_
  refine b_bipush C (v := 114) dX12_init_370 (by decide) ?_
  refine b_bipush C (v := 100) dX12_init_372 (by decide) ?_
  refine b_iconst C (v := 0) dX12_init_374 (by decide) ?_
  refine b_iconst C (v := 0) dX12_init_375 (by decide) ?_
  obtain ⟨u247, d245, k246, hf⟩ := cb_s hf
  refine b_cSJ C [.int 9, .ref (ad B r227)] dX12_init_376 (kX12_letters l D cy B k246) lv_X12_75 ⟨rfl, rfl, Nat.le_of_ble_eq_true rfl, Nat.le_of_ble_eq_true rfl⟩ rfl (Nat.le_of_ble_eq_true rfl) h228 rfl ?_
  obtain ⟨h248, hf⟩ := gd_s hf
  obtain ⟨d249, ed249, hf⟩ := bd_s hf
  refine b_last C h232 h248 ed249 dX12_init_379 ?_
  refine b_aload_n C dX12_init_380 0 rfl rfl ?_
  refine b_gR C dX12_init_381 fl_X12_34 h226 er227 ?_
  refine b_bipush C (v := 10) dX12_init_384 (by decide) ?_
  refine b_bipush C (v := 109) dX12_init_386 (by decide) ?_
  refine b_bipush C (v := 97) dX12_init_388 (by decide) ?_
  refine b_bipush C (v := 99) dX12_init_390 (by decide) ?_
  refine b_bipush C (v := 114) dX12_init_392 (by decide) ?_
  refine b_bipush C (v := 111) dX12_init_394 (by decide) ?_
  refine b_iconst C (v := 0) dX12_init_396 (by decide) ?_
  refine b_iconst C (v := 0) dX12_init_397 (by decide) ?_
  obtain ⟨u252, d250, k251, hf⟩ := cb_s hf
  refine b_cSJ C [.int 10, .ref (ad B r227)] dX12_init_398 (kX12_letters l D cy B k251) lv_X12_75 ⟨rfl, rfl, Nat.le_of_ble_eq_true rfl, Nat.le_of_ble_eq_true rfl⟩ rfl (Nat.le_of_ble_eq_true rfl) h228 rfl ?_
  obtain ⟨h253, hf⟩ := gd_s hf
  obtain ⟨d254, ed254, hf⟩ := bd_s hf
  refine b_last C h232 h253 ed254 dX12_init_401 ?_
  refine b_aload_n C dX12_init_402 0 rfl rfl ?_
  refine b_gR C dX12_init_403 fl_X12_34 h226 er227 ?_
  refine b_bipush C (v := 11) dX12_init_406 (by decide) ?_
  refine b_bipush C (v := 99) dX12_init_408 (by decide) ?_
  refine b_bipush C (v := 111) dX12_init_410 (by decide) ?_
  refine b_bipush C (v := 100) dX12_init_412 (by decide) ?_
  refine b_bipush C (v := 101) dX12_init_414 (by decide) ?_
  refine b_iconst C (v := 0) dX12_init_416 (by decide) ?_
  refine b_iconst C (v := 0) dX12_init_417 (by decide) ?_
  refine b_iconst C (v := 0) dX12_init_418 (by decide) ?_
  obtain ⟨u257, d255, k256, hf⟩ := cb_s hf
  refine b_cSJ C [.int 11, .ref (ad B r227)] dX12_init_419 (kX12_letters l D cy B k256) lv_X12_75 ⟨rfl, rfl, Nat.le_of_ble_eq_true rfl, Nat.le_of_ble_eq_true rfl⟩ rfl (Nat.le_of_ble_eq_true rfl) h228 rfl ?_
  obtain ⟨h258, hf⟩ := gd_s hf
  obtain ⟨d259, ed259, hf⟩ := bd_s hf
  refine b_last C h232 h258 ed259 dX12_init_422 ?_
  refine b_sub [(0, .ref (ad B x0))] [0] rfl ?_
  exact tX12_init_423 C hr hlocks hin hz hn hs hf
set_option maxRecDepth 100000 in
def fX12_init_J154 (N : Nat)  (x0 : Nat) (n0 s0 : Nat) (g : Gs) (d : Ds) : Option (Gs × Ds) := gd (¬ (3 : Int32) < 0) <| gd ((3 : Int32).toNatClampNeg ≤ 60000000) <| gd (gN g < 100000) <| gd (gN g + 1 - n0 ≤ 18 ∧ gS g + (3 : Int32).toNatClampNeg - s0 ≤ 52035) <| bd (nG g 104 (3 : Int32).toNatClampNeg (3 : Int32).toNatClampNeg) fun g182 => (bd (nD g d) fun d183 => (bd (gN g) fun r184 => (gd (chk g182 x0 11) <| bd (sR g182 x0 32 r184) fun g187 => (gd (chk g187 x0 11) <| ob (gR g187 x0 9) fun r190 => (gd (gN g187 - n0 ≤ 18 ∧ gS g187 - s0 ≤ 52035) <| cb (fX12_letters N g187 98 111 97 114 100 0 0 d183) fun u194 d192 => (gd (chk g187 r190 103) <| gd (¬ ((0 : Int32) < 0 ∨ gL g187 r190 ≤ (0 : Int32).toNatClampNeg)) <| bd (sL d192 r190 (0 : Int32).toNatClampNeg u194) fun d197 => (cb (fX12_letters N g187 100 105 111 100 101 115 0 d197) fun u200 d198 => (gd (¬ ((1 : Int32) < 0 ∨ gL g187 r190 ≤ (1 : Int32).toNatClampNeg)) <| bd (sL d198 r190 (1 : Int32).toNatClampNeg u200) fun d202 => (cb (fX12_letters N g187 115 105 120 0 0 0 0 d202) fun u205 d203 => (gd (¬ ((2 : Int32) < 0 ∨ gL g187 r190 ≤ (2 : Int32).toNatClampNeg)) <| bd (sL d203 r190 (2 : Int32).toNatClampNeg u205) fun d207 => (cb (fX12_letters N g187 98 111 117 110 99 101 0 d207) fun u210 d208 => (gd (¬ ((3 : Int32) < 0 ∨ gL g187 r190 ≤ (3 : Int32).toNatClampNeg)) <| bd (sL d208 r190 (3 : Int32).toNatClampNeg u210) fun d212 => (cb (fX12_letters N g187 116 101 114 109 0 0 0 d212) fun u215 d213 => (gd (¬ ((4 : Int32) < 0 ∨ gL g187 r190 ≤ (4 : Int32).toNatClampNeg)) <| bd (sL d213 r190 (4 : Int32).toNatClampNeg u215) fun d217 => (cb (fX12_letters N g187 99 104 111 114 100 105 110 d217) fun u220 d218 => (cb (fX12_appends N g187 u220 103 d218) fun u223 d221 => (gd (¬ ((5 : Int32) < 0 ∨ gL g187 r190 ≤ (5 : Int32).toNatClampNeg)) <| bd (sL d221 r190 (5 : Int32).toNatClampNeg u223) fun d225 => (fX12_init_J293 N x0 n0 s0 g187 d225))))))))))))))))))
set_option maxHeartbeats 4000000 in
set_option maxRecDepth 100000 in
theorem tX12_init_154 {p : Program} {l : Launch} {e : Env} {s : State} {m : MethodId} {args : Array Value} {below : List Frame} {meth : Method} {c : Code} {D : va_G} {cy : Nat → ClassId} {B : Bs} (C : Cx p s m args c cX12_init 1 RX12 D cy B) (hr : meth.sig.returnType = none) (hlocks : meth.locks = false) (hin : meth.name = "<init>") {n0 s0 : Nat} (hz : s.heap.size = B.1 + n0) {N : Nat} {x0 : Nat} {gz : Gs} {dz : Ds} {g : Gs} {d : Ds} (hn : n0 ≤ gN g) (hs : s0 ≤ gS g) (hf : fX12_init_J154 N x0 n0 s0 g d = some (gz, dz)) : WB p l e rmX12_init s m args below meth c 1 D cy B (gN g - n0) (gS g - s0) (MQ below (QV D cy B gz dz) args s 18 52035 (wA B)) g d [(0, .ref (ad B x0))] 154 [] := by
  unfold fX12_init_J154 at hf
  refine b_aload_n C dX12_init_154 0 rfl rfl ?_
  refine b_iconst C (v := 3) dX12_init_155 (by decide) ?_
  obtain ⟨h178, hf⟩ := gd_s hf
  obtain ⟨h179, hf⟩ := gd_s hf
  obtain ⟨h180, hf⟩ := gd_s hf
  obtain ⟨h181, hf⟩ := gd_s hf
  obtain ⟨g182, eg182, hf⟩ := bd_s hf
  obtain ⟨d183, ed183, hf⟩ := bd_s hf
  obtain ⟨r184, er184, hf⟩ := bd_s hf
  refine b_newaZ C dX12_init_156 ar_boolean hz hn hs h180 h178 h179 h181 eg182 ed183 (fun hn185 hn185s => ?_)
  refine b_topR er184 ?_
  obtain ⟨h186, hf⟩ := gd_s hf
  obtain ⟨g187, eg187, hf⟩ := bd_s hf
  refine b_pRC C dX12_init_158 fq_X12_71 fr11_32 hin h186 eg187 ?_
  have hn188 : n0 ≤ gN g187 := by rw [eg187]; exact hn185
  have hn188s : s0 ≤ gS g187 := by rw [eg187]; exact hn185s
  refine b_aload_n C dX12_init_161 0 rfl rfl ?_
  obtain ⟨h189, hf⟩ := gd_s hf
  obtain ⟨r190, er190, hf⟩ := ob_s hf
  refine b_gR C dX12_init_162 fl_X12_34 h189 er190 ?_
  refine b_iconst C (v := 0) dX12_init_165 (by decide) ?_
  refine b_bipush C (v := 98) dX12_init_166 (by decide) ?_
  refine b_bipush C (v := 111) dX12_init_168 (by decide) ?_
  refine b_bipush C (v := 97) dX12_init_170 (by decide) ?_
  refine b_bipush C (v := 114) dX12_init_172 (by decide) ?_
  refine b_bipush C (v := 100) dX12_init_174 (by decide) ?_
  refine b_iconst C (v := 0) dX12_init_176 (by decide) ?_
  refine b_iconst C (v := 0) dX12_init_177 (by decide) ?_
  obtain ⟨h191, hf⟩ := gd_s hf
  obtain ⟨u194, d192, k193, hf⟩ := cb_s hf
  refine b_cSJ C [.int 0, .ref (ad B r190)] dX12_init_178 (kX12_letters l D cy B k193) lv_X12_75 ⟨rfl, rfl, Nat.le_of_ble_eq_true rfl, Nat.le_of_ble_eq_true rfl⟩ rfl (Nat.le_of_ble_eq_true rfl) h191 rfl ?_
  obtain ⟨h195, hf⟩ := gd_s hf
  obtain ⟨h196, hf⟩ := gd_s hf
  obtain ⟨d197, ed197, hf⟩ := bd_s hf
  refine b_last C h195 h196 ed197 dX12_init_181 ?_
  refine b_aload_n C dX12_init_182 0 rfl rfl ?_
  refine b_gR C dX12_init_183 fl_X12_34 h189 er190 ?_
  refine b_iconst C (v := 1) dX12_init_186 (by decide) ?_
  refine b_bipush C (v := 100) dX12_init_187 (by decide) ?_
  refine b_bipush C (v := 105) dX12_init_189 (by decide) ?_
  refine b_bipush C (v := 111) dX12_init_191 (by decide) ?_
  refine b_bipush C (v := 100) dX12_init_193 (by decide) ?_
  refine b_bipush C (v := 101) dX12_init_195 (by decide) ?_
  refine b_bipush C (v := 115) dX12_init_197 (by decide) ?_
  refine b_iconst C (v := 0) dX12_init_199 (by decide) ?_
  obtain ⟨u200, d198, k199, hf⟩ := cb_s hf
  refine b_cSJ C [.int 1, .ref (ad B r190)] dX12_init_200 (kX12_letters l D cy B k199) lv_X12_75 ⟨rfl, rfl, Nat.le_of_ble_eq_true rfl, Nat.le_of_ble_eq_true rfl⟩ rfl (Nat.le_of_ble_eq_true rfl) h191 rfl ?_
  obtain ⟨h201, hf⟩ := gd_s hf
  obtain ⟨d202, ed202, hf⟩ := bd_s hf
  refine b_last C h195 h201 ed202 dX12_init_203 ?_
  refine b_aload_n C dX12_init_204 0 rfl rfl ?_
  refine b_gR C dX12_init_205 fl_X12_34 h189 er190 ?_
  refine b_iconst C (v := 2) dX12_init_208 (by decide) ?_
  refine b_bipush C (v := 115) dX12_init_209 (by decide) ?_
  refine b_bipush C (v := 105) dX12_init_211 (by decide) ?_
  refine b_bipush C (v := 120) dX12_init_213 (by decide) ?_
  refine b_iconst C (v := 0) dX12_init_215 (by decide) ?_
  refine b_iconst C (v := 0) dX12_init_216 (by decide) ?_
  refine b_iconst C (v := 0) dX12_init_217 (by decide) ?_
  refine b_iconst C (v := 0) dX12_init_218 (by decide) ?_
  obtain ⟨u205, d203, k204, hf⟩ := cb_s hf
  refine b_cSJ C [.int 2, .ref (ad B r190)] dX12_init_219 (kX12_letters l D cy B k204) lv_X12_75 ⟨rfl, rfl, Nat.le_of_ble_eq_true rfl, Nat.le_of_ble_eq_true rfl⟩ rfl (Nat.le_of_ble_eq_true rfl) h191 rfl ?_
  obtain ⟨h206, hf⟩ := gd_s hf
  obtain ⟨d207, ed207, hf⟩ := bd_s hf
  refine b_last C h195 h206 ed207 dX12_init_222 ?_
  refine b_aload_n C dX12_init_223 0 rfl rfl ?_
  refine b_gR C dX12_init_224 fl_X12_34 h189 er190 ?_
  refine b_iconst C (v := 3) dX12_init_227 (by decide) ?_
  refine b_bipush C (v := 98) dX12_init_228 (by decide) ?_
  refine b_bipush C (v := 111) dX12_init_230 (by decide) ?_
  refine b_bipush C (v := 117) dX12_init_232 (by decide) ?_
  refine b_bipush C (v := 110) dX12_init_234 (by decide) ?_
  refine b_bipush C (v := 99) dX12_init_236 (by decide) ?_
  refine b_bipush C (v := 101) dX12_init_238 (by decide) ?_
  refine b_iconst C (v := 0) dX12_init_240 (by decide) ?_
  obtain ⟨u210, d208, k209, hf⟩ := cb_s hf
  refine b_cSJ C [.int 3, .ref (ad B r190)] dX12_init_241 (kX12_letters l D cy B k209) lv_X12_75 ⟨rfl, rfl, Nat.le_of_ble_eq_true rfl, Nat.le_of_ble_eq_true rfl⟩ rfl (Nat.le_of_ble_eq_true rfl) h191 rfl ?_
  obtain ⟨h211, hf⟩ := gd_s hf
  obtain ⟨d212, ed212, hf⟩ := bd_s hf
  refine b_last C h195 h211 ed212 dX12_init_244 ?_
  refine b_aload_n C dX12_init_245 0 rfl rfl ?_
  refine b_gR C dX12_init_246 fl_X12_34 h189 er190 ?_
  refine b_iconst C (v := 4) dX12_init_249 (by decide) ?_
  refine b_bipush C (v := 116) dX12_init_250 (by decide) ?_
  refine b_bipush C (v := 101) dX12_init_252 (by decide) ?_
  refine b_bipush C (v := 114) dX12_init_254 (by decide) ?_
  refine b_bipush C (v := 109) dX12_init_256 (by decide) ?_
  refine b_iconst C (v := 0) dX12_init_258 (by decide) ?_
  refine b_iconst C (v := 0) dX12_init_259 (by decide) ?_
  refine b_iconst C (v := 0) dX12_init_260 (by decide) ?_
  obtain ⟨u215, d213, k214, hf⟩ := cb_s hf
  refine b_cSJ C [.int 4, .ref (ad B r190)] dX12_init_261 (kX12_letters l D cy B k214) lv_X12_75 ⟨rfl, rfl, Nat.le_of_ble_eq_true rfl, Nat.le_of_ble_eq_true rfl⟩ rfl (Nat.le_of_ble_eq_true rfl) h191 rfl ?_
  obtain ⟨h216, hf⟩ := gd_s hf
  obtain ⟨d217, ed217, hf⟩ := bd_s hf
  refine b_last C h195 h216 ed217 dX12_init_264 ?_
  refine b_aload_n C dX12_init_265 0 rfl rfl ?_
  refine b_gR C dX12_init_266 fl_X12_34 h189 er190 ?_
  refine b_iconst C (v := 5) dX12_init_269 (by decide) ?_
  refine b_bipush C (v := 99) dX12_init_270 (by decide) ?_
  refine b_bipush C (v := 104) dX12_init_272 (by decide) ?_
  refine b_bipush C (v := 111) dX12_init_274 (by decide) ?_
  refine b_bipush C (v := 114) dX12_init_276 (by decide) ?_
  refine b_bipush C (v := 100) dX12_init_278 (by decide) ?_
  refine b_bipush C (v := 105) dX12_init_280 (by decide) ?_
  refine b_bipush C (v := 110) dX12_init_282 (by decide) ?_
  obtain ⟨u220, d218, k219, hf⟩ := cb_s hf
  refine b_cSJ C [.int 5, .ref (ad B r190)] dX12_init_284 (kX12_letters l D cy B k219) lv_X12_75 ⟨rfl, rfl, Nat.le_of_ble_eq_true rfl, Nat.le_of_ble_eq_true rfl⟩ rfl (Nat.le_of_ble_eq_true rfl) h191 rfl ?_
  refine b_bipush C (v := 103) dX12_init_287 (by decide) ?_
  obtain ⟨u223, d221, k222, hf⟩ := cb_s hf
  refine b_cSJ C [.int 5, .ref (ad B r190)] dX12_init_289 (kX12_appends l D cy B k222) lv_X12_79 ⟨rfl, rfl, Nat.le_of_ble_eq_true rfl, Nat.le_of_ble_eq_true rfl⟩ rfl (Nat.le_of_ble_eq_true rfl) h191 rfl ?_
  obtain ⟨h224, hf⟩ := gd_s hf
  obtain ⟨d225, ed225, hf⟩ := bd_s hf
  refine b_last C h195 h224 ed225 dX12_init_292 ?_
  refine b_sub [(0, .ref (ad B x0))] [0] rfl ?_
  exact tX12_init_293 C hr hlocks hin hz hn188 hn188s hf
set_option maxRecDepth 100000 in
def fX12_init_E (N : Nat) (x0 : Nat) (n0 s0 : Nat) (g : Gs) (d : Ds) : Option (Gs × Ds) := gd (¬ (2000 : Int32) < 0) <| gd ((2000 : Int32).toNatClampNeg ≤ 60000000) <| gd (gN g < 100000) <| gd (gN g + 1 - n0 ≤ 18 ∧ gS g + (2000 : Int32).toNatClampNeg - s0 ≤ 52035) <| bd (nG g 100 (2000 : Int32).toNatClampNeg (2000 : Int32).toNatClampNeg) fun g5 => (bd (nD g d) fun d6 => (bd (gN g) fun r7 => (gd (chk g5 x0 11) <| bd (sR g5 x0 1 r7) fun g10 => (gd (gN g10 < 100000) <| gd (gN g10 + 1 - n0 ≤ 18 ∧ gS g10 + (2000 : Int32).toNatClampNeg - s0 ≤ 52035) <| bd (nG g10 100 (2000 : Int32).toNatClampNeg (2000 : Int32).toNatClampNeg) fun g14 => (bd (nD g10 d6) fun d15 => (bd (gN g10) fun r16 => (gd (chk g14 x0 11) <| bd (sR g14 x0 3 r16) fun g19 => (gd (¬ (403 : Int32) < 0) <| gd ((403 : Int32).toNatClampNeg ≤ 60000000) <| gd (gN g19 < 100000) <| gd (gN g19 + 1 - n0 ≤ 18 ∧ gS g19 + (403 : Int32).toNatClampNeg - s0 ≤ 52035) <| bd (nG g19 102 (403 : Int32).toNatClampNeg (403 : Int32).toNatClampNeg) fun g25 => (bd (nD g19 d15) fun d26 => (bd (gN g19) fun r27 => (gd (chk g25 x0 11) <| bd (sR g25 x0 5 r27) fun g30 => (gd (gN g30 < 100000) <| gd (gN g30 + 1 - n0 ≤ 18 ∧ gS g30 + (403 : Int32).toNatClampNeg - s0 ≤ 52035) <| bd (nG g30 102 (403 : Int32).toNatClampNeg (403 : Int32).toNatClampNeg) fun g34 => (bd (nD g30 d26) fun d35 => (bd (gN g30) fun r36 => (gd (chk g34 x0 11) <| bd (sR g34 x0 6 r36) fun g39 => (gd (gN g39 < 100000) <| gd (gN g39 + 1 - n0 ≤ 18 ∧ gS g39 + (403 : Int32).toNatClampNeg - s0 ≤ 52035) <| bd (nG g39 102 (403 : Int32).toNatClampNeg (403 : Int32).toNatClampNeg) fun g43 => (bd (nD g39 d35) fun d44 => (bd (gN g39) fun r45 => (gd (chk g43 x0 11) <| bd (sR g43 x0 7 r45) fun g48 => (gd (gN g48 < 100000) <| gd (gN g48 + 1 - n0 ≤ 18 ∧ gS g48 + (403 : Int32).toNatClampNeg - s0 ≤ 52035) <| bd (nG g48 103 (403 : Int32).toNatClampNeg (403 : Int32).toNatClampNeg) fun g52 => (bd (nD g48 d44) fun d53 => (bd (gN g48) fun r54 => (gd (chk g52 x0 11) <| bd (sR g52 x0 8 r54) fun g57 => (gd (¬ (20 : Int32) < 0) <| gd ((20 : Int32).toNatClampNeg ≤ 60000000) <| gd (gN g57 < 100000) <| gd (gN g57 + 1 - n0 ≤ 18 ∧ gS g57 + (20 : Int32).toNatClampNeg - s0 ≤ 52035) <| bd (nG g57 103 (20 : Int32).toNatClampNeg (20 : Int32).toNatClampNeg) fun g63 => (bd (nD g57 d53) fun d64 => (bd (gN g57) fun r65 => (gd (chk g63 x0 11) <| bd (sR g63 x0 9 r65) fun g68 => (gd (chk g68 x0 11) <| bd (sI d64 x0 16 (-1)) fun d71 => (gd (¬ (9178 : Int32) < 0) <| gd ((9178 : Int32).toNatClampNeg ≤ 60000000) <| gd (gN g68 < 100000) <| gd (gN g68 + 1 - n0 ≤ 18 ∧ gS g68 + (9178 : Int32).toNatClampNeg - s0 ≤ 52035) <| bd (nG g68 102 (9178 : Int32).toNatClampNeg (9178 : Int32).toNatClampNeg) fun g76 => (bd (nD g68 d71) fun d77 => (bd (gN g68) fun r78 => (gd (chk g76 x0 11) <| bd (sR g76 x0 17 r78) fun g81 => (gd (¬ (352 : Int32) < 0) <| gd ((352 : Int32).toNatClampNeg ≤ 60000000) <| gd (gN g81 < 100000) <| gd (gN g81 + 1 - n0 ≤ 18 ∧ gS g81 + (352 : Int32).toNatClampNeg - s0 ≤ 52035) <| bd (nG g81 102 (352 : Int32).toNatClampNeg (352 : Int32).toNatClampNeg) fun g87 => (bd (nD g81 d77) fun d88 => (bd (gN g81) fun r89 => (gd (chk g87 x0 11) <| bd (sR g87 x0 18 r89) fun g92 => (gd (¬ (24 : Int32) < 0) <| gd ((24 : Int32).toNatClampNeg ≤ 60000000) <| gd (gN g92 < 100000) <| gd (gN g92 + 1 - n0 ≤ 18 ∧ gS g92 + (24 : Int32).toNatClampNeg - s0 ≤ 52035) <| bd (nG g92 101 (24 : Int32).toNatClampNeg (24 : Int32).toNatClampNeg) fun g98 => (bd (nD g92 d88) fun d99 => (bd (gN g92) fun r100 => (gd (chk g98 x0 11) <| bd (sR g98 x0 19 r100) fun g103 => (gd (¬ (3 : Int32) < 0) <| gd ((3 : Int32).toNatClampNeg ≤ 60000000) <| gd (gN g103 < 100000) <| gd (gN g103 + 1 - n0 ≤ 18 ∧ gS g103 + (3 : Int32).toNatClampNeg - s0 ≤ 52035) <| bd (nG g103 102 (3 : Int32).toNatClampNeg (3 : Int32).toNatClampNeg) fun g109 => (bd (nD g103 d99) fun d110 => (bd (gN g103) fun r111 => (gd (chk g109 x0 11) <| bd (sR g109 x0 23 r111) fun g114 => (gd (¬ (10 : Int32) < 0) <| gd ((10 : Int32).toNatClampNeg ≤ 60000000) <| gd (gN g114 < 100000) <| gd (gN g114 + 1 - n0 ≤ 18 ∧ gS g114 + (10 : Int32).toNatClampNeg - s0 ≤ 52035) <| bd (nG g114 102 (10 : Int32).toNatClampNeg (10 : Int32).toNatClampNeg) fun g120 => (bd (nD g114 d110) fun d121 => (bd (gN g114) fun r122 => (gd (chk g120 x0 11) <| bd (sR g120 x0 24 r122) fun g125 => (gd (¬ (25 : Int32) < 0) <| gd ((25 : Int32).toNatClampNeg ≤ 60000000) <| gd (gN g125 < 100000) <| gd (gN g125 + 1 - n0 ≤ 18 ∧ gS g125 + (25 : Int32).toNatClampNeg - s0 ≤ 52035) <| bd (nG g125 102 (25 : Int32).toNatClampNeg (25 : Int32).toNatClampNeg) fun g131 => (bd (nD g125 d121) fun d132 => (bd (gN g125) fun r133 => (gd (chk g131 x0 11) <| bd (sR g131 x0 27 r133) fun g136 => (gd (gN g136 < 100000) <| gd (gN g136 + 1 - n0 ≤ 18 ∧ gS g136 + (9178 : Int32).toNatClampNeg - s0 ≤ 52035) <| bd (nG g136 102 (9178 : Int32).toNatClampNeg (9178 : Int32).toNatClampNeg) fun g140 => (bd (nD g136 d132) fun d141 => (bd (gN g136) fun r142 => (gd (chk g140 x0 11) <| bd (sR g140 x0 28 r142) fun g145 => (gd (gN g145 < 100000) <| gd (gN g145 + 1 - n0 ≤ 18 ∧ gS g145 + (24 : Int32).toNatClampNeg - s0 ≤ 52035) <| bd (nG g145 101 (24 : Int32).toNatClampNeg (24 : Int32).toNatClampNeg) fun g149 => (bd (nD g145 d141) fun d150 => (bd (gN g145) fun r151 => (gd (chk g149 x0 11) <| bd (sR g149 x0 29 r151) fun g154 => (gd (¬ (27534 : Int32) < 0) <| gd ((27534 : Int32).toNatClampNeg ≤ 60000000) <| gd (gN g154 < 100000) <| gd (gN g154 + 1 - n0 ≤ 18 ∧ gS g154 + (27534 : Int32).toNatClampNeg - s0 ≤ 52035) <| bd (nG g154 102 (27534 : Int32).toNatClampNeg (27534 : Int32).toNatClampNeg) fun g160 => (bd (nD g154 d150) fun d161 => (bd (gN g154) fun r162 => (gd (chk g160 x0 11) <| bd (sR g160 x0 30 r162) fun g165 => (gd (¬ (72 : Int32) < 0) <| gd ((72 : Int32).toNatClampNeg ≤ 60000000) <| gd (gN g165 < 100000) <| gd (gN g165 + 1 - n0 ≤ 18 ∧ gS g165 + (72 : Int32).toNatClampNeg - s0 ≤ 52035) <| bd (nG g165 101 (72 : Int32).toNatClampNeg (72 : Int32).toNatClampNeg) fun g171 => (bd (nD g165 d161) fun d172 => (bd (gN g165) fun r173 => (gd (chk g171 x0 11) <| bd (sR g171 x0 31 r173) fun g176 => (fX12_init_J154 N x0 n0 s0 g176 d172)))))))))))))))))))))))))))))))))))))))))))))))))))))))))))))))))))))
def fX12_init (N : Nat) (x0 : Nat) (g : Gs) (d : Ds) : Option (Gs × Ds) := fX12_init_E N x0 (gN g) (gS g) g d
set_option maxHeartbeats 4000000 in
set_option maxRecDepth 100000 in
theorem tX12_init_E {p : Program} {l : Launch} {e : Env} {s : State} {m : MethodId} {args : Array Value} {below : List Frame} {meth : Method} {c : Code} {D : va_G} {cy : Nat → ClassId} {B : Bs} (C : Cx p s m args c cX12_init 1 RX12 D cy B) (hr : meth.sig.returnType = none) (hlocks : meth.locks = false) (hin : meth.name = "<init>") {n0 s0 : Nat} (hz : s.heap.size = B.1 + n0) {N : Nat} {x0 : Nat} {gz : Gs} {dz : Ds} {g : Gs} {d : Ds} (hn : n0 ≤ gN g) (hs : s0 ≤ gS g) (hf : fX12_init_E N x0 n0 s0 g d = some (gz, dz)) : WB p l e rmX12_init s m args below meth c 1 D cy B (gN g - n0) (gS g - s0) (MQ below (QV D cy B gz dz) args s 18 52035 (wA B)) g d [(0, .ref (ad B x0))] 0 [] := by
  unfold fX12_init_E at hf
  refine b_aload_n C dX12_init_0 0 rfl rfl ?_
  refine b_objInit C oi_X12_7 oi_i oi_c (by decide) (by decide) dX12_init_1 ?_
  refine b_aload_n C dX12_init_4 0 rfl rfl ?_
  refine b_sipush C (v := 2000) dX12_init_5 (by decide) ?_
  obtain ⟨h1, hf⟩ := gd_s hf
  obtain ⟨h2, hf⟩ := gd_s hf
  obtain ⟨h3, hf⟩ := gd_s hf
  obtain ⟨h4, hf⟩ := gd_s hf
  obtain ⟨g5, eg5, hf⟩ := bd_s hf
  obtain ⟨d6, ed6, hf⟩ := bd_s hf
  obtain ⟨r7, er7, hf⟩ := bd_s hf
  refine b_newaB C dX12_init_8 ar_byte hz hn hs h3 h1 h2 h4 eg5 ed6 (fun hn8 hn8s => ?_)
  refine b_topR er7 ?_
  obtain ⟨h9, hf⟩ := gd_s hf
  obtain ⟨g10, eg10, hf⟩ := bd_s hf
  refine b_pRC C dX12_init_10 fq_X12_13 fr11_1 hin h9 eg10 ?_
  have hn11 : n0 ≤ gN g10 := by rw [eg10]; exact hn8
  have hn11s : s0 ≤ gS g10 := by rw [eg10]; exact hn8s
  refine b_aload_n C dX12_init_13 0 rfl rfl ?_
  refine b_sipush C (v := 2000) dX12_init_14 (by decide) ?_
  obtain ⟨h12, hf⟩ := gd_s hf
  obtain ⟨h13, hf⟩ := gd_s hf
  obtain ⟨g14, eg14, hf⟩ := bd_s hf
  obtain ⟨d15, ed15, hf⟩ := bd_s hf
  obtain ⟨r16, er16, hf⟩ := bd_s hf
  refine b_newaB C dX12_init_17 ar_byte hz hn11 hn11s h12 h1 h2 h13 eg14 ed15 (fun hn17 hn17s => ?_)
  refine b_topR er16 ?_
  obtain ⟨h18, hf⟩ := gd_s hf
  obtain ⟨g19, eg19, hf⟩ := bd_s hf
  refine b_pRC C dX12_init_19 fq_X12_17 fr11_3 hin h18 eg19 ?_
  have hn20 : n0 ≤ gN g19 := by rw [eg19]; exact hn17
  have hn20s : s0 ≤ gS g19 := by rw [eg19]; exact hn17s
  refine b_aload_n C dX12_init_22 0 rfl rfl ?_
  refine b_sipush C (v := 403) dX12_init_23 (by decide) ?_
  obtain ⟨h21, hf⟩ := gd_s hf
  obtain ⟨h22, hf⟩ := gd_s hf
  obtain ⟨h23, hf⟩ := gd_s hf
  obtain ⟨h24, hf⟩ := gd_s hf
  obtain ⟨g25, eg25, hf⟩ := bd_s hf
  obtain ⟨d26, ed26, hf⟩ := bd_s hf
  obtain ⟨r27, er27, hf⟩ := bd_s hf
  refine b_newaI C dX12_init_26 ar_int hz hn20 hn20s h23 h21 h22 h24 eg25 ed26 (fun hn28 hn28s => ?_)
  refine b_topR er27 ?_
  obtain ⟨h29, hf⟩ := gd_s hf
  obtain ⟨g30, eg30, hf⟩ := bd_s hf
  refine b_pRC C dX12_init_28 fq_X12_20 fr11_5 hin h29 eg30 ?_
  have hn31 : n0 ≤ gN g30 := by rw [eg30]; exact hn28
  have hn31s : s0 ≤ gS g30 := by rw [eg30]; exact hn28s
  refine b_aload_n C dX12_init_31 0 rfl rfl ?_
  refine b_sipush C (v := 403) dX12_init_32 (by decide) ?_
  obtain ⟨h32, hf⟩ := gd_s hf
  obtain ⟨h33, hf⟩ := gd_s hf
  obtain ⟨g34, eg34, hf⟩ := bd_s hf
  obtain ⟨d35, ed35, hf⟩ := bd_s hf
  obtain ⟨r36, er36, hf⟩ := bd_s hf
  refine b_newaI C dX12_init_35 ar_int hz hn31 hn31s h32 h21 h22 h33 eg34 ed35 (fun hn37 hn37s => ?_)
  refine b_topR er36 ?_
  obtain ⟨h38, hf⟩ := gd_s hf
  obtain ⟨g39, eg39, hf⟩ := bd_s hf
  refine b_pRC C dX12_init_37 fq_X12_24 fr11_6 hin h38 eg39 ?_
  have hn40 : n0 ≤ gN g39 := by rw [eg39]; exact hn37
  have hn40s : s0 ≤ gS g39 := by rw [eg39]; exact hn37s
  refine b_aload_n C dX12_init_40 0 rfl rfl ?_
  refine b_sipush C (v := 403) dX12_init_41 (by decide) ?_
  obtain ⟨h41, hf⟩ := gd_s hf
  obtain ⟨h42, hf⟩ := gd_s hf
  obtain ⟨g43, eg43, hf⟩ := bd_s hf
  obtain ⟨d44, ed44, hf⟩ := bd_s hf
  obtain ⟨r45, er45, hf⟩ := bd_s hf
  refine b_newaI C dX12_init_44 ar_int hz hn40 hn40s h41 h21 h22 h42 eg43 ed44 (fun hn46 hn46s => ?_)
  refine b_topR er45 ?_
  obtain ⟨h47, hf⟩ := gd_s hf
  obtain ⟨g48, eg48, hf⟩ := bd_s hf
  refine b_pRC C dX12_init_46 fq_X12_27 fr11_7 hin h47 eg48 ?_
  have hn49 : n0 ≤ gN g48 := by rw [eg48]; exact hn46
  have hn49s : s0 ≤ gS g48 := by rw [eg48]; exact hn46s
  refine b_aload_n C dX12_init_49 0 rfl rfl ?_
  refine b_sipush C (v := 403) dX12_init_50 (by decide) ?_
  obtain ⟨h50, hf⟩ := gd_s hf
  obtain ⟨h51, hf⟩ := gd_s hf
  obtain ⟨g52, eg52, hf⟩ := bd_s hf
  obtain ⟨d53, ed53, hf⟩ := bd_s hf
  obtain ⟨r54, er54, hf⟩ := bd_s hf
  refine b_newaJ C dX12_init_53 ar_long hz hn49 hn49s h50 h21 h22 h51 eg52 ed53 (fun hn55 hn55s => ?_)
  refine b_topR er54 ?_
  obtain ⟨h56, hf⟩ := gd_s hf
  obtain ⟨g57, eg57, hf⟩ := bd_s hf
  refine b_pRC C dX12_init_55 fq_X12_30 fr11_8 hin h56 eg57 ?_
  have hn58 : n0 ≤ gN g57 := by rw [eg57]; exact hn55
  have hn58s : s0 ≤ gS g57 := by rw [eg57]; exact hn55s
  refine b_aload_n C dX12_init_58 0 rfl rfl ?_
  refine b_bipush C (v := 20) dX12_init_59 (by decide) ?_
  obtain ⟨h59, hf⟩ := gd_s hf
  obtain ⟨h60, hf⟩ := gd_s hf
  obtain ⟨h61, hf⟩ := gd_s hf
  obtain ⟨h62, hf⟩ := gd_s hf
  obtain ⟨g63, eg63, hf⟩ := bd_s hf
  obtain ⟨d64, ed64, hf⟩ := bd_s hf
  obtain ⟨r65, er65, hf⟩ := bd_s hf
  refine b_newaJ C dX12_init_61 ar_long hz hn58 hn58s h61 h59 h60 h62 eg63 ed64 (fun hn66 hn66s => ?_)
  refine b_topR er65 ?_
  obtain ⟨h67, hf⟩ := gd_s hf
  obtain ⟨g68, eg68, hf⟩ := bd_s hf
  refine b_pRC C dX12_init_63 fq_X12_34 fr11_9 hin h67 eg68 ?_
  have hn69 : n0 ≤ gN g68 := by rw [eg68]; exact hn66
  have hn69s : s0 ≤ gS g68 := by rw [eg68]; exact hn66s
  refine b_aload_n C dX12_init_66 0 rfl rfl ?_
  refine b_iconst C (v := (-1)) dX12_init_67 (by decide) ?_
  obtain ⟨h70, hf⟩ := gd_s hf
  obtain ⟨d71, ed71, hf⟩ := bd_s hf
  refine b_pI C dX12_init_68 fl_X12_37 fp11_16 h70 ed71 ?_
  refine b_aload_n C dX12_init_71 0 rfl rfl ?_
  refine b_sipush C (v := 9178) dX12_init_72 (by decide) ?_
  obtain ⟨h72, hf⟩ := gd_s hf
  obtain ⟨h73, hf⟩ := gd_s hf
  obtain ⟨h74, hf⟩ := gd_s hf
  obtain ⟨h75, hf⟩ := gd_s hf
  obtain ⟨g76, eg76, hf⟩ := bd_s hf
  obtain ⟨d77, ed77, hf⟩ := bd_s hf
  obtain ⟨r78, er78, hf⟩ := bd_s hf
  refine b_newaI C dX12_init_75 ar_int hz hn69 hn69s h74 h72 h73 h75 eg76 ed77 (fun hn79 hn79s => ?_)
  refine b_topR er78 ?_
  obtain ⟨h80, hf⟩ := gd_s hf
  obtain ⟨g81, eg81, hf⟩ := bd_s hf
  refine b_pRC C dX12_init_77 fq_X12_40 fr11_17 hin h80 eg81 ?_
  have hn82 : n0 ≤ gN g81 := by rw [eg81]; exact hn79
  have hn82s : s0 ≤ gS g81 := by rw [eg81]; exact hn79s
  refine b_aload_n C dX12_init_80 0 rfl rfl ?_
  refine b_sipush C (v := 352) dX12_init_81 (by decide) ?_
  obtain ⟨h83, hf⟩ := gd_s hf
  obtain ⟨h84, hf⟩ := gd_s hf
  obtain ⟨h85, hf⟩ := gd_s hf
  obtain ⟨h86, hf⟩ := gd_s hf
  obtain ⟨g87, eg87, hf⟩ := bd_s hf
  obtain ⟨d88, ed88, hf⟩ := bd_s hf
  obtain ⟨r89, er89, hf⟩ := bd_s hf
  refine b_newaI C dX12_init_84 ar_int hz hn82 hn82s h85 h83 h84 h86 eg87 ed88 (fun hn90 hn90s => ?_)
  refine b_topR er89 ?_
  obtain ⟨h91, hf⟩ := gd_s hf
  obtain ⟨g92, eg92, hf⟩ := bd_s hf
  refine b_pRC C dX12_init_86 fq_X12_43 fr11_18 hin h91 eg92 ?_
  have hn93 : n0 ≤ gN g92 := by rw [eg92]; exact hn90
  have hn93s : s0 ≤ gS g92 := by rw [eg92]; exact hn90s
  refine b_aload_n C dX12_init_89 0 rfl rfl ?_
  refine b_bipush C (v := 24) dX12_init_90 (by decide) ?_
  obtain ⟨h94, hf⟩ := gd_s hf
  obtain ⟨h95, hf⟩ := gd_s hf
  obtain ⟨h96, hf⟩ := gd_s hf
  obtain ⟨h97, hf⟩ := gd_s hf
  obtain ⟨g98, eg98, hf⟩ := bd_s hf
  obtain ⟨d99, ed99, hf⟩ := bd_s hf
  obtain ⟨r100, er100, hf⟩ := bd_s hf
  refine b_newaF C dX12_init_92 ar_float hz hn93 hn93s h96 h94 h95 h97 eg98 ed99 (fun hn101 hn101s => ?_)
  refine b_topR er100 ?_
  obtain ⟨h102, hf⟩ := gd_s hf
  obtain ⟨g103, eg103, hf⟩ := bd_s hf
  refine b_pRC C dX12_init_94 fq_X12_46 fr11_19 hin h102 eg103 ?_
  have hn104 : n0 ≤ gN g103 := by rw [eg103]; exact hn101
  have hn104s : s0 ≤ gS g103 := by rw [eg103]; exact hn101s
  refine b_aload_n C dX12_init_97 0 rfl rfl ?_
  refine b_iconst C (v := 3) dX12_init_98 (by decide) ?_
  obtain ⟨h105, hf⟩ := gd_s hf
  obtain ⟨h106, hf⟩ := gd_s hf
  obtain ⟨h107, hf⟩ := gd_s hf
  obtain ⟨h108, hf⟩ := gd_s hf
  obtain ⟨g109, eg109, hf⟩ := bd_s hf
  obtain ⟨d110, ed110, hf⟩ := bd_s hf
  obtain ⟨r111, er111, hf⟩ := bd_s hf
  refine b_newaI C dX12_init_99 ar_int hz hn104 hn104s h107 h105 h106 h108 eg109 ed110 (fun hn112 hn112s => ?_)
  refine b_topR er111 ?_
  obtain ⟨h113, hf⟩ := gd_s hf
  obtain ⟨g114, eg114, hf⟩ := bd_s hf
  refine b_pRC C dX12_init_101 fq_X12_50 fr11_23 hin h113 eg114 ?_
  have hn115 : n0 ≤ gN g114 := by rw [eg114]; exact hn112
  have hn115s : s0 ≤ gS g114 := by rw [eg114]; exact hn112s
  refine b_aload_n C dX12_init_104 0 rfl rfl ?_
  refine b_bipush C (v := 10) dX12_init_105 (by decide) ?_
  obtain ⟨h116, hf⟩ := gd_s hf
  obtain ⟨h117, hf⟩ := gd_s hf
  obtain ⟨h118, hf⟩ := gd_s hf
  obtain ⟨h119, hf⟩ := gd_s hf
  obtain ⟨g120, eg120, hf⟩ := bd_s hf
  obtain ⟨d121, ed121, hf⟩ := bd_s hf
  obtain ⟨r122, er122, hf⟩ := bd_s hf
  refine b_newaI C dX12_init_107 ar_int hz hn115 hn115s h118 h116 h117 h119 eg120 ed121 (fun hn123 hn123s => ?_)
  refine b_topR er122 ?_
  obtain ⟨h124, hf⟩ := gd_s hf
  obtain ⟨g125, eg125, hf⟩ := bd_s hf
  refine b_pRC C dX12_init_109 fq_X12_53 fr11_24 hin h124 eg125 ?_
  have hn126 : n0 ≤ gN g125 := by rw [eg125]; exact hn123
  have hn126s : s0 ≤ gS g125 := by rw [eg125]; exact hn123s
  refine b_aload_n C dX12_init_112 0 rfl rfl ?_
  refine b_bipush C (v := 25) dX12_init_113 (by decide) ?_
  obtain ⟨h127, hf⟩ := gd_s hf
  obtain ⟨h128, hf⟩ := gd_s hf
  obtain ⟨h129, hf⟩ := gd_s hf
  obtain ⟨h130, hf⟩ := gd_s hf
  obtain ⟨g131, eg131, hf⟩ := bd_s hf
  obtain ⟨d132, ed132, hf⟩ := bd_s hf
  obtain ⟨r133, er133, hf⟩ := bd_s hf
  refine b_newaI C dX12_init_115 ar_int hz hn126 hn126s h129 h127 h128 h130 eg131 ed132 (fun hn134 hn134s => ?_)
  refine b_topR er133 ?_
  obtain ⟨h135, hf⟩ := gd_s hf
  obtain ⟨g136, eg136, hf⟩ := bd_s hf
  refine b_pRC C dX12_init_117 fq_X12_56 fr11_27 hin h135 eg136 ?_
  have hn137 : n0 ≤ gN g136 := by rw [eg136]; exact hn134
  have hn137s : s0 ≤ gS g136 := by rw [eg136]; exact hn134s
  refine b_aload_n C dX12_init_120 0 rfl rfl ?_
  refine b_sipush C (v := 9178) dX12_init_121 (by decide) ?_
  obtain ⟨h138, hf⟩ := gd_s hf
  obtain ⟨h139, hf⟩ := gd_s hf
  obtain ⟨g140, eg140, hf⟩ := bd_s hf
  obtain ⟨d141, ed141, hf⟩ := bd_s hf
  obtain ⟨r142, er142, hf⟩ := bd_s hf
  refine b_newaI C dX12_init_124 ar_int hz hn137 hn137s h138 h72 h73 h139 eg140 ed141 (fun hn143 hn143s => ?_)
  refine b_topR er142 ?_
  obtain ⟨h144, hf⟩ := gd_s hf
  obtain ⟨g145, eg145, hf⟩ := bd_s hf
  refine b_pRC C dX12_init_126 fq_X12_59 fr11_28 hin h144 eg145 ?_
  have hn146 : n0 ≤ gN g145 := by rw [eg145]; exact hn143
  have hn146s : s0 ≤ gS g145 := by rw [eg145]; exact hn143s
  refine b_aload_n C dX12_init_129 0 rfl rfl ?_
  refine b_bipush C (v := 24) dX12_init_130 (by decide) ?_
  obtain ⟨h147, hf⟩ := gd_s hf
  obtain ⟨h148, hf⟩ := gd_s hf
  obtain ⟨g149, eg149, hf⟩ := bd_s hf
  obtain ⟨d150, ed150, hf⟩ := bd_s hf
  obtain ⟨r151, er151, hf⟩ := bd_s hf
  refine b_newaF C dX12_init_132 ar_float hz hn146 hn146s h147 h94 h95 h148 eg149 ed150 (fun hn152 hn152s => ?_)
  refine b_topR er151 ?_
  obtain ⟨h153, hf⟩ := gd_s hf
  obtain ⟨g154, eg154, hf⟩ := bd_s hf
  refine b_pRC C dX12_init_134 fq_X12_62 fr11_29 hin h153 eg154 ?_
  have hn155 : n0 ≤ gN g154 := by rw [eg154]; exact hn152
  have hn155s : s0 ≤ gS g154 := by rw [eg154]; exact hn152s
  refine b_aload_n C dX12_init_137 0 rfl rfl ?_
  refine b_sipush C (v := 27534) dX12_init_138 (by decide) ?_
  obtain ⟨h156, hf⟩ := gd_s hf
  obtain ⟨h157, hf⟩ := gd_s hf
  obtain ⟨h158, hf⟩ := gd_s hf
  obtain ⟨h159, hf⟩ := gd_s hf
  obtain ⟨g160, eg160, hf⟩ := bd_s hf
  obtain ⟨d161, ed161, hf⟩ := bd_s hf
  obtain ⟨r162, er162, hf⟩ := bd_s hf
  refine b_newaI C dX12_init_141 ar_int hz hn155 hn155s h158 h156 h157 h159 eg160 ed161 (fun hn163 hn163s => ?_)
  refine b_topR er162 ?_
  obtain ⟨h164, hf⟩ := gd_s hf
  obtain ⟨g165, eg165, hf⟩ := bd_s hf
  refine b_pRC C dX12_init_143 fq_X12_65 fr11_30 hin h164 eg165 ?_
  have hn166 : n0 ≤ gN g165 := by rw [eg165]; exact hn163
  have hn166s : s0 ≤ gS g165 := by rw [eg165]; exact hn163s
  refine b_aload_n C dX12_init_146 0 rfl rfl ?_
  refine b_bipush C (v := 72) dX12_init_147 (by decide) ?_
  obtain ⟨h167, hf⟩ := gd_s hf
  obtain ⟨h168, hf⟩ := gd_s hf
  obtain ⟨h169, hf⟩ := gd_s hf
  obtain ⟨h170, hf⟩ := gd_s hf
  obtain ⟨g171, eg171, hf⟩ := bd_s hf
  obtain ⟨d172, ed172, hf⟩ := bd_s hf
  obtain ⟨r173, er173, hf⟩ := bd_s hf
  refine b_newaF C dX12_init_149 ar_float hz hn166 hn166s h169 h167 h168 h170 eg171 ed172 (fun hn174 hn174s => ?_)
  refine b_topR er173 ?_
  obtain ⟨h175, hf⟩ := gd_s hf
  obtain ⟨g176, eg176, hf⟩ := bd_s hf
  refine b_pRC C dX12_init_151 fq_X12_68 fr11_31 hin h175 eg176 ?_
  have hn177 : n0 ≤ gN g176 := by rw [eg176]; exact hn174
  have hn177s : s0 ≤ gS g176 := by rw [eg176]; exact hn174s
  refine b_sub [(0, .ref (ad B x0))] [0] rfl ?_
  exact tX12_init_154 C hr hlocks hin hz hn177 hn177s hf
theorem kX12_init (l : Launch) (D : va_G) (cy : Nat → ClassId) (B : Bs) {N : Nat} {g : Gs} {x0 : Nat} {gz : Gs} {dz : Ds} {d : Ds} (hf : fX12_init N x0 g d = some (gz, dz)) : Met l yX12_init (.code yX12_init cX12_init 1 none :: wl) rmX12_init (PCC D cy B [.ref (ad B x0)] g d) (QV D cy B gz dz) 18 52035 (wA B) :=
  met_ofC (by decide +kernel) (Nat.le_of_ble_eq_true rfl) (fun p e s m args below meth c C hr hlocks hin hz => b_sub [(0, .ref (ad B x0))] [0] rfl (tX12_init_E C hr hlocks hin hz (Nat.le_refl _) (Nat.le_refl _) hf))
