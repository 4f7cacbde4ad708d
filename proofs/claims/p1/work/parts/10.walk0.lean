/-! KeyMatrix$Deed.<init>()V -/
theorem oi_X2_3 : Cond.methodLink RX2 3 objectInit ∈ wl := mW (mT1 (List.mem_of_getElem? (i := 70) (by decide +kernel))) rfl
theorem oi_i : Cond.instanceMethod objectInit ∈ wl := mW (mT1 (List.mem_of_getElem? (i := 28) (by decide +kernel))) rfl
theorem oi_c : Cond.code objectInit ⟨#[0xb1]⟩ 1 none ∈ wl := mW (mT1 (List.mem_of_getElem? (i := 29) (by decide +kernel))) rfl
theorem inl2 : ∀ w ∈ u_ws RX2 TX2 3, w ∈ wl := by
  have h0 : u_ws RX2 TX2 3 = [Cond.lays "KeyMatrix$Deed" "KeyMatrix$Deed" "kind" "I", Cond.lays "KeyMatrix$Deed" "KeyMatrix$Deed" "first" "I", Cond.lays "KeyMatrix$Deed" "KeyMatrix$Deed" "second" "I"] := by decide +kernel
  rw [h0]
  exact List.forall_mem_cons.mpr ⟨mW (mT1 (List.mem_of_getElem? (i := 84) (by decide +kernel))) rfl, List.forall_mem_cons.mpr ⟨mW (mT1 (List.mem_of_getElem? (i := 86) (by decide +kernel))) rfl, List.forall_mem_cons.mpr ⟨mW (mT1 (List.mem_of_getElem? (i := 88) (by decide +kernel))) rfl, fun _ h => absurd h List.not_mem_nil⟩⟩⟩
theorem fl_X2_9 : FLI RX2 9 2 0 := ⟨⟨RX2, TX2, 3, rfl, by decide, inl2, Or.inl (mW (mT1 (List.mem_of_getElem? (i := 71) (by decide +kernel))) rfl)⟩, by decide, by decide +kernel⟩
theorem ft2 : FT 2 := ⟨RX2, TX2, 3, tyX2, rfl, tyX2_ok, nmX2⟩
theorem fp2_0 : FPI 2 0 := ⟨ft2, (RX2, TX2, 3), rfl, by decide +kernel, by decide +kernel⟩
theorem fl_X2_15 : FLI RX2 15 2 1 := ⟨⟨RX2, TX2, 3, rfl, by decide, inl2, Or.inl (mW (mT1 (List.mem_of_getElem? (i := 76) (by decide +kernel))) rfl)⟩, by decide, by decide +kernel⟩
theorem fp2_1 : FPI 2 1 := ⟨ft2, (RX2, TX2, 3), rfl, by decide +kernel, by decide +kernel⟩
theorem fl_X2_18 : FLI RX2 18 2 2 := ⟨⟨RX2, TX2, 3, rfl, by decide, inl2, Or.inl (mW (mT1 (List.mem_of_getElem? (i := 80) (by decide +kernel))) rfl)⟩, by decide, by decide +kernel⟩
theorem fp2_2 : FPI 2 2 := ⟨ft2, (RX2, TX2, 3), rfl, by decide +kernel, by decide +kernel⟩
theorem dX2_init_0 : decode cX2_init 0 = .ok (.aload_n 0, 1) := by decide +kernel
theorem dX2_init_1 : decode cX2_init 1 = .ok (.invokespecial 3, 3) := by decide +kernel
theorem dX2_init_4 : decode cX2_init 4 = .ok (.aload_n 0, 1) := by decide +kernel
theorem dX2_init_5 : decode cX2_init 5 = .ok (.iconst 4, 1) := by decide +kernel
theorem dX2_init_6 : decode cX2_init 6 = .ok (.putfield 9, 3) := by decide +kernel
theorem dX2_init_9 : decode cX2_init 9 = .ok (.aload_n 0, 1) := by decide +kernel
theorem dX2_init_10 : decode cX2_init 10 = .ok (.iconst (-1), 1) := by decide +kernel
theorem dX2_init_11 : decode cX2_init 11 = .ok (.putfield 15, 3) := by decide +kernel
theorem dX2_init_14 : decode cX2_init 14 = .ok (.aload_n 0, 1) := by decide +kernel
theorem dX2_init_15 : decode cX2_init 15 = .ok (.iconst (-1), 1) := by decide +kernel
theorem dX2_init_16 : decode cX2_init 16 = .ok (.putfield 18, 3) := by decide +kernel
theorem dX2_init_19 : decode cX2_init 19 = .ok (.return_, 1) := by decide +kernel
def rmX2_init : Room := { frames := 1, cells := 0, slots := 0, locals := 20 }
set_option maxRecDepth 100000 in
def fX2_init_E (N : Nat) (x0 : Nat) (n0 s0 : Nat) (g : Gs) (d : Ds) : Option (Gs × Ds) := gd (chk g x0 2) <| bd (sI d x0 0 4) fun d2 => (bd (sI d2 x0 1 (-1)) fun d3 => (bd (sI d3 x0 2 (-1)) fun d4 => (gd (gN g = n0 + 0 ∧ gS g = s0 + 0) <| some (g, d4))))
def fX2_init (N : Nat) (x0 : Nat) (g : Gs) (d : Ds) : Option (Gs × Ds) := fX2_init_E N x0 (gN g) (gS g) g d
set_option maxHeartbeats 4000000 in
set_option maxRecDepth 100000 in
theorem tX2_init_E {p : Program} {l : Launch} {e : Env} {s : State} {m : MethodId} {args : Array Value} {below : List Frame} {meth : Method} {c : Code} {D : va_G} {cy : Nat → ClassId} {B : Bs} (C : Cx p s m args c cX2_init 1 RX2 D cy B) (hr : meth.sig.returnType = none) (hlocks : meth.locks = false) (hin : meth.name = "<init>") {n0 s0 : Nat} (hz : s.heap.size = B.1 + n0) {N : Nat} {x0 : Nat} {gz : Gs} {dz : Ds} {g : Gs} {d : Ds} (hn : n0 ≤ gN g) (hs : s0 ≤ gS g) (hf : fX2_init_E N x0 n0 s0 g d = some (gz, dz)) : WB p l e rmX2_init s m args below meth c 1 D cy B (gN g - n0) (gS g - s0) (MQ below (QV D cy B gz dz) args s 0 0 (wA B)) g d [(0, .ref (ad B x0))] 0 [] := by
  unfold fX2_init_E at hf
  refine b_aload_n C dX2_init_0 0 rfl rfl ?_
  refine b_objInit C oi_X2_3 oi_i oi_c (by decide) (by decide) dX2_init_1 ?_
  refine b_aload_n C dX2_init_4 0 rfl rfl ?_
  refine b_iconst C (v := 4) dX2_init_5 (by decide) ?_
  obtain ⟨h1, hf⟩ := gd_s hf
  obtain ⟨d2, ed2, hf⟩ := bd_s hf
  refine b_pI C dX2_init_6 fl_X2_9 fp2_0 h1 ed2 ?_
  refine b_aload_n C dX2_init_9 0 rfl rfl ?_
  refine b_iconst C (v := (-1)) dX2_init_10 (by decide) ?_
  obtain ⟨d3, ed3, hf⟩ := bd_s hf
  refine b_pI C dX2_init_11 fl_X2_15 fp2_1 h1 ed3 ?_
  refine b_aload_n C dX2_init_14 0 rfl rfl ?_
  refine b_iconst C (v := (-1)) dX2_init_15 (by decide) ?_
  obtain ⟨d4, ed4, hf⟩ := bd_s hf
  refine b_pI C dX2_init_16 fl_X2_18 fp2_2 h1 ed4 ?_
  obtain ⟨h5, hf⟩ := gd_s hf
  exact b_vretC C hr hlocks h5 hf dX2_init_19
theorem kX2_init (l : Launch) (D : va_G) (cy : Nat → ClassId) (B : Bs) {N : Nat} {g : Gs} {x0 : Nat} {gz : Gs} {dz : Ds} {d : Ds} (hf : fX2_init N x0 g d = some (gz, dz)) : Met l yX2_init (.code yX2_init cX2_init 1 none :: wl) rmX2_init (PCC D cy B [.ref (ad B x0)] g d) (QV D cy B gz dz) 0 0 (wA B) :=
  met_ofC (by decide +kernel) (Nat.le_of_ble_eq_true rfl) (fun p e s m args below meth c C hr hlocks hin hz => b_sub [(0, .ref (ad B x0))] [0] rfl (tX2_init_E C hr hlocks hin hz (Nat.le_refl _) (Nat.le_refl _) hf))
/-! KeyMatrix$Deed.tell(III)V -/
theorem dX2_tell_0 : decode cX2_tell 0 = .ok (.aload_n 0, 1) := by decide +kernel
theorem dX2_tell_1 : decode cX2_tell 1 = .ok (.iload_n 1, 1) := by decide +kernel
theorem dX2_tell_2 : decode cX2_tell 2 = .ok (.putfield 9, 3) := by decide +kernel
theorem dX2_tell_5 : decode cX2_tell 5 = .ok (.aload_n 0, 1) := by decide +kernel
theorem dX2_tell_6 : decode cX2_tell 6 = .ok (.iload_n 2, 1) := by decide +kernel
theorem dX2_tell_7 : decode cX2_tell 7 = .ok (.putfield 15, 3) := by decide +kernel
theorem dX2_tell_10 : decode cX2_tell 10 = .ok (.aload_n 0, 1) := by decide +kernel
theorem dX2_tell_11 : decode cX2_tell 11 = .ok (.iload_n 3, 1) := by decide +kernel
theorem dX2_tell_12 : decode cX2_tell 12 = .ok (.putfield 18, 3) := by decide +kernel
theorem dX2_tell_15 : decode cX2_tell 15 = .ok (.return_, 1) := by decide +kernel
def rmX2_tell : Room := { frames := 0, cells := 0, slots := 0, locals := 0 }
set_option maxRecDepth 100000 in
def fX2_tell (N : Nat) (g : Gs) (x0 : Nat) (x1 : Int32) (x2 : Int32) (x3 : Int32) (d : Ds) : Option (Unit × Ds) := gd (chk g x0 2) <| bd (sI d x0 0 x1) fun d2 => (bd (sI d2 x0 1 x2) fun d3 => (bd (sI d3 x0 2 x3) fun d4 => (some ((), d4))))
set_option maxHeartbeats 4000000 in
set_option maxRecDepth 100000 in
theorem tX2_tell_E {p : Program} {l : Launch} {e : Env} {s : State} {m : MethodId} {args : Array Value} {below : List Frame} {meth : Method} {c : Code} {D : va_G} {cy : Nat → ClassId} {B : Bs} (C : Cx p s m args c cX2_tell 4 RX2 D cy B) (hr : meth.sig.returnType = none) (hlocks : meth.locks = false) {N : Nat} {g : Gs} {x0 : Nat} {x1 : Int32} {x2 : Int32} {x3 : Int32}  {dz : Ds} {d : Ds} (hf : fX2_tell N g x0 x1 x2 x3 d = some ((), dz)) : WB p l e rmX2_tell s m args below meth c 4 D cy B 0 0 (MQ below (QV D cy B g dz) args s 0 0 (wA B)) g d [(0, .ref (ad B x0)), (1, .int x1), (2, .int x2), (3, .int x3)] 0 [] := by
  unfold fX2_tell at hf
  refine b_aload_n C dX2_tell_0 0 rfl rfl ?_
  refine b_iload_n C dX2_tell_1 1 rfl rfl ?_
  obtain ⟨h1, hf⟩ := gd_s hf
  obtain ⟨d2, ed2, hf⟩ := bd_s hf
  refine b_pI C dX2_tell_2 fl_X2_9 fp2_0 h1 ed2 ?_
  refine b_aload_n C dX2_tell_5 0 rfl rfl ?_
  refine b_iload_n C dX2_tell_6 2 rfl rfl ?_
  obtain ⟨d3, ed3, hf⟩ := bd_s hf
  refine b_pI C dX2_tell_7 fl_X2_15 fp2_1 h1 ed3 ?_
  refine b_aload_n C dX2_tell_10 0 rfl rfl ?_
  refine b_iload_n C dX2_tell_11 3 rfl rfl ?_
  obtain ⟨d4, ed4, hf⟩ := bd_s hf
  refine b_pI C dX2_tell_12 fl_X2_18 fp2_2 h1 ed4 ?_
  exact b_vret C hr hlocks hf dX2_tell_15
theorem kX2_tell (l : Launch) (D : va_G) (cy : Nat → ClassId) (B : Bs) {N : Nat} {g : Gs} {x0 : Nat} {x1 : Int32} {x2 : Int32} {x3 : Int32}  {dz : Ds} {d : Ds} (hf : fX2_tell N g x0 x1 x2 x3 d = some ((), dz)) : Met l yX2_tell (.code yX2_tell cX2_tell 4 none :: wl) rmX2_tell (PC D cy B [.ref (ad B x0), .int x1, .int x2, .int x3] g d) (QV D cy B g dz) 0 0 (wA B) :=
  met_of (by decide +kernel) (Nat.le_of_ble_eq_true rfl) (fun p e s m args below meth c C hr hlocks _ => b_sub [(0, .ref (ad B x0)), (1, .int x1), (2, .int x2), (3, .int x3)] [0, 1, 2, 3] rfl (tX2_tell_E C hr hlocks hf))
/-! KeyMatrix$Board.clear()V -/
theorem inl0 : ∀ w ∈ u_ws RX0 TX0 19, w ∈ wl := by
  have h0 : u_ws RX0 TX0 19 = [Cond.lays "KeyMatrix$Board" "KeyMatrix$Board" "rows" "I", Cond.lays "KeyMatrix$Board" "KeyMatrix$Board" "columns" "I", Cond.lays "KeyMatrix$Board" "KeyMatrix$Board" "diodes" "Z", Cond.lays "KeyMatrix$Board" "KeyMatrix$Board" "six" "Z", Cond.lays "KeyMatrix$Board" "KeyMatrix$Board" "bounce" "I", Cond.lays "KeyMatrix$Board" "KeyMatrix$Board" "term" "I", Cond.lays "KeyMatrix$Board" "KeyMatrix$Board" "chording" "I", Cond.lays "KeyMatrix$Board" "KeyMatrix$Board" "twice" "I", Cond.lays "KeyMatrix$Board" "KeyMatrix$Board" "delay" "I", Cond.lays "KeyMatrix$Board" "KeyMatrix$Board" "rate" "I", Cond.laysFinal "KeyMatrix$Board" "KeyMatrix$Board" "deeds" "[LKeyMatrix$Deed;", Cond.laysFinal "KeyMatrix$Board" "KeyMatrix$Board" "nothing" "LKeyMatrix$Deed;", Cond.lays "KeyMatrix$Board" "KeyMatrix$Board" "chordCount" "I", Cond.laysFinal "KeyMatrix$Board" "KeyMatrix$Board" "chordFirst" "[I", Cond.laysFinal "KeyMatrix$Board" "KeyMatrix$Board" "chordOther" "[I", Cond.laysFinal "KeyMatrix$Board" "KeyMatrix$Board" "chordDeeds" "[LKeyMatrix$Deed;", Cond.lays "KeyMatrix$Board" "KeyMatrix$Board" "macroCount" "I", Cond.laysFinal "KeyMatrix$Board" "KeyMatrix$Board" "macroLengths" "[I", Cond.laysFinal "KeyMatrix$Board" "KeyMatrix$Board" "macroCodes" "[I"] := by decide +kernel
  rw [h0]
  exact List.forall_mem_cons.mpr ⟨mW (mT1 (List.mem_of_getElem? (i := 166) (by decide +kernel))) rfl, List.forall_mem_cons.mpr ⟨mW (mT1 (List.mem_of_getElem? (i := 168) (by decide +kernel))) rfl, List.forall_mem_cons.mpr ⟨mW (mT1 (List.mem_of_getElem? (i := 170) (by decide +kernel))) rfl, List.forall_mem_cons.mpr ⟨mW (mT1 (List.mem_of_getElem? (i := 172) (by decide +kernel))) rfl, List.forall_mem_cons.mpr ⟨mW (mT1 (List.mem_of_getElem? (i := 174) (by decide +kernel))) rfl, List.forall_mem_cons.mpr ⟨mW (mT1 (List.mem_of_getElem? (i := 176) (by decide +kernel))) rfl, List.forall_mem_cons.mpr ⟨mW (mT1 (List.mem_of_getElem? (i := 178) (by decide +kernel))) rfl, List.forall_mem_cons.mpr ⟨mW (mT1 (List.mem_of_getElem? (i := 180) (by decide +kernel))) rfl, List.forall_mem_cons.mpr ⟨mW (mT1 (List.mem_of_getElem? (i := 182) (by decide +kernel))) rfl, List.forall_mem_cons.mpr ⟨mW (mT1 (List.mem_of_getElem? (i := 184) (by decide +kernel))) rfl, List.forall_mem_cons.mpr ⟨mW (mT1 (List.mem_of_getElem? (i := 186) (by decide +kernel))) rfl, List.forall_mem_cons.mpr ⟨mW (mT1 (List.mem_of_getElem? (i := 188) (by decide +kernel))) rfl, List.forall_mem_cons.mpr ⟨mW (mT1 (List.mem_of_getElem? (i := 190) (by decide +kernel))) rfl, List.forall_mem_cons.mpr ⟨mW (mT1 (List.mem_of_getElem? (i := 192) (by decide +kernel))) rfl, List.forall_mem_cons.mpr ⟨mW (mT1 (List.mem_of_getElem? (i := 194) (by decide +kernel))) rfl, List.forall_mem_cons.mpr ⟨mW (mT1 (List.mem_of_getElem? (i := 196) (by decide +kernel))) rfl, List.forall_mem_cons.mpr ⟨mW (mT1 (List.mem_of_getElem? (i := 198) (by decide +kernel))) rfl, List.forall_mem_cons.mpr ⟨mW (mT1 (List.mem_of_getElem? (i := 200) (by decide +kernel))) rfl, List.forall_mem_cons.mpr ⟨mW (mT1 (List.mem_of_getElem? (i := 202) (by decide +kernel))) rfl, fun _ h => absurd h List.not_mem_nil⟩⟩⟩⟩⟩⟩⟩⟩⟩⟩⟩⟩⟩⟩⟩⟩⟩⟩⟩
theorem fl_X0_41 : FLI RX0 41 0 0 := ⟨⟨RX0, TX0, 19, rfl, by decide, inl0, Or.inl (mW (mT1 (List.mem_of_getElem? (i := 108) (by decide +kernel))) rfl)⟩, by decide, by decide +kernel⟩
theorem ft0 : FT 0 := ⟨RX0, TX0, 19, tyX0, rfl, tyX0_ok, nmX0⟩
theorem fp0_0 : FPI 0 0 := ⟨ft0, (RX0, TX0, 19), rfl, by decide +kernel, by decide +kernel⟩
theorem fl_X0_45 : FLI RX0 45 0 1 := ⟨⟨RX0, TX0, 19, rfl, by decide, inl0, Or.inl (mW (mT1 (List.mem_of_getElem? (i := 112) (by decide +kernel))) rfl)⟩, by decide, by decide +kernel⟩
theorem fp0_1 : FPI 0 1 := ⟨ft0, (RX0, TX0, 19), rfl, by decide +kernel, by decide +kernel⟩
theorem fl_X0_48 : FLI RX0 48 0 2 := ⟨⟨RX0, TX0, 19, rfl, by decide, inl0, Or.inl (mW (mT1 (List.mem_of_getElem? (i := 117) (by decide +kernel))) rfl)⟩, by decide, by decide +kernel⟩
theorem fp0_2 : FPZ 0 2 := ⟨ft0, (RX0, TX0, 19), rfl, by decide +kernel, by decide +kernel⟩
theorem fl_X0_52 : FLI RX0 52 0 3 := ⟨⟨RX0, TX0, 19, rfl, by decide, inl0, Or.inl (mW (mT1 (List.mem_of_getElem? (i := 120) (by decide +kernel))) rfl)⟩, by decide, by decide +kernel⟩
theorem fp0_3 : FPZ 0 3 := ⟨ft0, (RX0, TX0, 19), rfl, by decide +kernel, by decide +kernel⟩
theorem fl_X0_55 : FLI RX0 55 0 4 := ⟨⟨RX0, TX0, 19, rfl, by decide, inl0, Or.inl (mW (mT1 (List.mem_of_getElem? (i := 124) (by decide +kernel))) rfl)⟩, by decide, by decide +kernel⟩
theorem fp0_4 : FPI 0 4 := ⟨ft0, (RX0, TX0, 19), rfl, by decide +kernel, by decide +kernel⟩
theorem fl_X0_58 : FLI RX0 58 0 5 := ⟨⟨RX0, TX0, 19, rfl, by decide, inl0, Or.inl (mW (mT1 (List.mem_of_getElem? (i := 128) (by decide +kernel))) rfl)⟩, by decide, by decide +kernel⟩
theorem fp0_5 : FPI 0 5 := ⟨ft0, (RX0, TX0, 19), rfl, by decide +kernel, by decide +kernel⟩
theorem fl_X0_61 : FLI RX0 61 0 6 := ⟨⟨RX0, TX0, 19, rfl, by decide, inl0, Or.inl (mW (mT1 (List.mem_of_getElem? (i := 132) (by decide +kernel))) rfl)⟩, by decide, by decide +kernel⟩
theorem fp0_6 : FPI 0 6 := ⟨ft0, (RX0, TX0, 19), rfl, by decide +kernel, by decide +kernel⟩
theorem fl_X0_64 : FLI RX0 64 0 7 := ⟨⟨RX0, TX0, 19, rfl, by decide, inl0, Or.inl (mW (mT1 (List.mem_of_getElem? (i := 136) (by decide +kernel))) rfl)⟩, by decide, by decide +kernel⟩
theorem fp0_7 : FPI 0 7 := ⟨ft0, (RX0, TX0, 19), rfl, by decide +kernel, by decide +kernel⟩
theorem fl_X0_67 : FLI RX0 67 0 8 := ⟨⟨RX0, TX0, 19, rfl, by decide, inl0, Or.inl (mW (mT1 (List.mem_of_getElem? (i := 140) (by decide +kernel))) rfl)⟩, by decide, by decide +kernel⟩
theorem fp0_8 : FPI 0 8 := ⟨ft0, (RX0, TX0, 19), rfl, by decide +kernel, by decide +kernel⟩
theorem fl_X0_70 : FLI RX0 70 0 9 := ⟨⟨RX0, TX0, 19, rfl, by decide, inl0, Or.inl (mW (mT1 (List.mem_of_getElem? (i := 144) (by decide +kernel))) rfl)⟩, by decide, by decide +kernel⟩
theorem fp0_9 : FPI 0 9 := ⟨ft0, (RX0, TX0, 19), rfl, by decide +kernel, by decide +kernel⟩
theorem fl_X0_11 : FLR RX0 11 0 10 := ⟨⟨RX0, TX0, 19, rfl, by decide, inl0, Or.inl (mW (mT1 (List.mem_of_getElem? (i := 148) (by decide +kernel))) rfl)⟩, by decide, by decide +kernel⟩
theorem fl_X0_77 : FLI RX0 77 0 12 := ⟨⟨RX0, TX0, 19, rfl, by decide, inl0, Or.inl (mW (mT1 (List.mem_of_getElem? (i := 150) (by decide +kernel))) rfl)⟩, by decide, by decide +kernel⟩
theorem fp0_12 : FPI 0 12 := ⟨ft0, (RX0, TX0, 19), rfl, by decide +kernel, by decide +kernel⟩
theorem fl_X0_80 : FLI RX0 80 0 16 := ⟨⟨RX0, TX0, 19, rfl, by decide, inl0, Or.inl (mW (mT1 (List.mem_of_getElem? (i := 160) (by decide +kernel))) rfl)⟩, by decide, by decide +kernel⟩
theorem fp0_16 : FPI 0 16 := ⟨ft0, (RX0, TX0, 19), rfl, by decide +kernel, by decide +kernel⟩
theorem yo_X2_tell : yX2_tell.cls ≠ "java/lang/invoke/MethodHandle" ∧ yX2_tell.cls ≠ "java/lang/invoke/VarHandle" ∧ (parseMethodDescriptor yX2_tell.desc).map (fun d => d.parameters.length) = some 3 := by decide +kernel
theorem co_X2_tell : Cond.code yX2_tell cX2_tell 4 none ∈ wl := mW (mT1 (List.mem_of_getElem? (i := 107) (by decide +kernel))) rfl
theorem in_X2_tell : Cond.initialized yX2_tell.cls ∈ wl := mW (mT1 (List.mem_of_getElem? (i := 4) (by decide +kernel))) rfl
theorem im_X2_tell : Cond.instanceMethod yX2_tell ∈ wl := mW (mT1 (List.mem_of_getElem? (i := 105) (by decide +kernel))) rfl
theorem se_X2_tell : Cond.selects yX2_tell.cls yX2_tell yX2_tell ∈ wl := mW (mT1 (List.mem_of_getElem? (i := 106) (by decide +kernel))) rfl
theorem lv_X0_73 : LV RX0 73 yX2_tell cX2_tell 4 none 3 2 := ⟨⟨(RX2, TX2, 3), rfl, rfl⟩, yo_X2_tell, mW (mT1 (List.mem_of_getElem? (i := 104) (by decide +kernel))) rfl, im_X2_tell, se_X2_tell, in_X2_tell, co_X2_tell⟩
theorem dX0_clear_0 : decode cX0_clear 0 = .ok (.aload_n 0, 1) := by decide +kernel
theorem dX0_clear_1 : decode cX0_clear 1 = .ok (.iconst 0, 1) := by decide +kernel
theorem dX0_clear_2 : decode cX0_clear 2 = .ok (.putfield 41, 3) := by decide +kernel
theorem dX0_clear_5 : decode cX0_clear 5 = .ok (.aload_n 0, 1) := by decide +kernel
theorem dX0_clear_6 : decode cX0_clear 6 = .ok (.iconst 0, 1) := by decide +kernel
theorem dX0_clear_7 : decode cX0_clear 7 = .ok (.putfield 45, 3) := by decide +kernel
theorem dX0_clear_10 : decode cX0_clear 10 = .ok (.aload_n 0, 1) := by decide +kernel
theorem dX0_clear_11 : decode cX0_clear 11 = .ok (.iconst 0, 1) := by decide +kernel
theorem dX0_clear_12 : decode cX0_clear 12 = .ok (.putfield 48, 3) := by decide +kernel
theorem dX0_clear_15 : decode cX0_clear 15 = .ok (.aload_n 0, 1) := by decide +kernel
theorem dX0_clear_16 : decode cX0_clear 16 = .ok (.iconst 0, 1) := by decide +kernel
theorem dX0_clear_17 : decode cX0_clear 17 = .ok (.putfield 52, 3) := by decide +kernel
theorem dX0_clear_20 : decode cX0_clear 20 = .ok (.aload_n 0, 1) := by decide +kernel
theorem dX0_clear_21 : decode cX0_clear 21 = .ok (.iconst 2, 1) := by decide +kernel
theorem dX0_clear_22 : decode cX0_clear 22 = .ok (.putfield 55, 3) := by decide +kernel
theorem dX0_clear_25 : decode cX0_clear 25 = .ok (.aload_n 0, 1) := by decide +kernel
theorem dX0_clear_26 : decode cX0_clear 26 = .ok (.bipush 8, 2) := by decide +kernel
theorem dX0_clear_28 : decode cX0_clear 28 = .ok (.putfield 58, 3) := by decide +kernel
theorem dX0_clear_31 : decode cX0_clear 31 = .ok (.aload_n 0, 1) := by decide +kernel
theorem dX0_clear_32 : decode cX0_clear 32 = .ok (.iconst 3, 1) := by decide +kernel
theorem dX0_clear_33 : decode cX0_clear 33 = .ok (.putfield 61, 3) := by decide +kernel
theorem dX0_clear_36 : decode cX0_clear 36 = .ok (.aload_n 0, 1) := by decide +kernel
theorem dX0_clear_37 : decode cX0_clear 37 = .ok (.bipush 6, 2) := by decide +kernel
theorem dX0_clear_39 : decode cX0_clear 39 = .ok (.putfield 64, 3) := by decide +kernel
theorem dX0_clear_42 : decode cX0_clear 42 = .ok (.aload_n 0, 1) := by decide +kernel
theorem dX0_clear_43 : decode cX0_clear 43 = .ok (.bipush 20, 2) := by decide +kernel
theorem dX0_clear_45 : decode cX0_clear 45 = .ok (.putfield 67, 3) := by decide +kernel
theorem dX0_clear_48 : decode cX0_clear 48 = .ok (.aload_n 0, 1) := by decide +kernel
theorem dX0_clear_49 : decode cX0_clear 49 = .ok (.iconst 5, 1) := by decide +kernel
theorem dX0_clear_50 : decode cX0_clear 50 = .ok (.putfield 70, 3) := by decide +kernel
theorem dX0_clear_53 : decode cX0_clear 53 = .ok (.iconst 0, 1) := by decide +kernel
theorem dX0_clear_54 : decode cX0_clear 54 = .ok (.istore_n 1, 1) := by decide +kernel
theorem dX0_clear_55 : decode cX0_clear 55 = .ok (.iload_n 1, 1) := by decide +kernel
theorem dX0_clear_56 : decode cX0_clear 56 = .ok (.aload_n 0, 1) := by decide +kernel
theorem dX0_clear_57 : decode cX0_clear 57 = .ok (.getfield 11, 3) := by decide +kernel
theorem dX0_clear_60 : decode cX0_clear 60 = .ok (.arraylength, 1) := by decide +kernel
theorem dX0_clear_61 : decode cX0_clear 61 = .ok (.if_icmp .ge 31, 3) := by decide +kernel
theorem dX0_clear_64 : decode cX0_clear 64 = .ok (.aload_n 0, 1) := by decide +kernel
theorem dX0_clear_65 : decode cX0_clear 65 = .ok (.getfield 11, 3) := by decide +kernel
theorem dX0_clear_68 : decode cX0_clear 68 = .ok (.iload_n 1, 1) := by decide +kernel
theorem dX0_clear_69 : decode cX0_clear 69 = .ok (.aaload, 1) := by decide +kernel
theorem dX0_clear_70 : decode cX0_clear 70 = .ok (.iload_n 1, 1) := by decide +kernel
theorem dX0_clear_71 : decode cX0_clear 71 = .ok (.bipush 24, 2) := by decide +kernel
theorem dX0_clear_73 : decode cX0_clear 73 = .ok (.if_icmp .ge 7, 3) := by decide +kernel
theorem dX0_clear_76 : decode cX0_clear 76 = .ok (.iconst 4, 1) := by decide +kernel
theorem dX0_clear_77 : decode cX0_clear 77 = .ok (.goto 4, 3) := by decide +kernel
theorem dX0_clear_80 : decode cX0_clear 80 = .ok (.iconst 5, 1) := by decide +kernel
theorem dX0_clear_81 : decode cX0_clear 81 = .ok (.iconst (-1), 1) := by decide +kernel
theorem dX0_clear_82 : decode cX0_clear 82 = .ok (.iconst (-1), 1) := by decide +kernel
theorem dX0_clear_83 : decode cX0_clear 83 = .ok (.invokevirtual 73, 3) := by decide +kernel
theorem dX0_clear_86 : decode cX0_clear 86 = .ok (.iinc 1 1, 3) := by decide +kernel
theorem dX0_clear_89 : decode cX0_clear 89 = .ok (.goto (-34), 3) := by decide +kernel
theorem dX0_clear_92 : decode cX0_clear 92 = .ok (.aload_n 0, 1) := by decide +kernel
theorem dX0_clear_93 : decode cX0_clear 93 = .ok (.iconst 0, 1) := by decide +kernel
theorem dX0_clear_94 : decode cX0_clear 94 = .ok (.putfield 77, 3) := by decide +kernel
theorem dX0_clear_97 : decode cX0_clear 97 = .ok (.aload_n 0, 1) := by decide +kernel
theorem dX0_clear_98 : decode cX0_clear 98 = .ok (.iconst 0, 1) := by decide +kernel
theorem dX0_clear_99 : decode cX0_clear 99 = .ok (.putfield 80, 3) := by decide +kernel
theorem dX0_clear_102 : decode cX0_clear 102 = .ok (.return_, 1) := by decide +kernel
def rmX0_clear : Room := { frames := 1, cells := 0, slots := 0, locals := 23 }
set_option maxRecDepth 100000 in
def fX0_clear_J81 (N : Nat) (g : Gs) (x0 : Nat) (K55 : Int32 × Ds → Option (Unit × Ds)) (y1 : Int32) (z0 : Int32) (z1 : Nat) (d : Ds) : Option (Unit × Ds) := gd (chk g z1 2) <| cv (fX2_tell N g z1 z0 (-1) (-1) d) fun d22 => (bd (y1 + 1) fun u24 => (K55 (u24, d22)))
set_option maxHeartbeats 4000000 in
set_option maxRecDepth 100000 in
theorem tX0_clear_81 {p : Program} {l : Launch} {e : Env} {s : State} {m : MethodId} {args : Array Value} {below : List Frame} {meth : Method} {c : Code} {D : va_G} {cy : Nat → ClassId} {B : Bs} (C : Cx p s m args c cX0_clear 2 RX0 D cy B) (hr : meth.sig.returnType = none) (hlocks : meth.locks = false) {N : Nat} {g : Gs} {x0 : Nat}  {dz : Ds} {K55 : Int32 × Ds → Option (Unit × Ds)} (hK55 : ∀ a, K55 a = some ((), dz) → WB p l e rmX0_clear s m args below meth c 2 D cy B 0 0 (MQ below (QV D cy B g dz) args s 0 0 (wA B)) g a.2 [(0, .ref (ad B x0)), (1, .int a.1)] 55 []) {y1 : Int32} {z0 : Int32} {z1 : Nat} {d : Ds} (hf : fX0_clear_J81 N g x0 K55 y1 z0 z1 d = some ((), dz)) : WB p l e rmX0_clear s m args below meth c 2 D cy B 0 0 (MQ below (QV D cy B g dz) args s 0 0 (wA B)) g d [(0, .ref (ad B x0)), (1, .int y1)] 81 [.int z0, .ref (ad B z1)] := by
  unfold fX0_clear_J81 at hf
  refine b_iconst C (v := (-1)) dX0_clear_81 (by decide) ?_
  refine b_iconst C (v := (-1)) dX0_clear_82 (by decide) ?_
  obtain ⟨h21, hf⟩ := gd_s hf
  obtain ⟨d22, k23, hf⟩ := cv_s hf
  refine b_cVN C [] dX0_clear_83 (kX2_tell l D cy B k23) lv_X0_73 ⟨rfl, rfl, Nat.le_of_ble_eq_true rfl, Nat.le_of_ble_eq_true rfl⟩ h21 (by decide) rfl (Nat.le_of_ble_eq_true rfl) ⟨Nat.zero_le _, Nat.zero_le _⟩ rfl ?_
  obtain ⟨u24, eu24, hf⟩ := bd_s hf
  refine b_iinc C dX0_clear_86 1 rfl (by rw [eu24]; rfl) [(1, .int u24), (0, .ref (ad B x0))] (by decide) rfl ?_
  refine b_goto C (tgt := 55) dX0_clear_89 (by decide) ?_
  refine b_sub [(0, .ref (ad B x0)), (1, .int u24)] [1, 0] rfl ?_
  exact hK55 (u24, d22) hf
set_option maxRecDepth 100000 in
def fX0_clear_B55 (N : Nat) (g : Gs) (x0 : Nat) (K55 : Int32 × Ds → Option (Unit × Ds)) (y1 : Int32) (d : Ds) : Option (Unit × Ds) := gd (chk g x0 0) <| ob (gR g x0 10) fun r13 => (gd (chk g r13 105) <| if (Int32.ofNat (gL g r13)) ≤ y1 then (bd (sI d x0 12 0) fun d16 => (bd (sI d16 x0 16 0) fun d17 => (some ((), d17)))) else (gd (¬ (y1 < 0 ∨ gL g r13 ≤ y1.toNatClampNeg)) <| ob (gR g r13 y1.toNatClampNeg) fun r19 => (if (24 : Int32) ≤ y1 then (fX0_clear_J81 N g x0 K55 y1 5 r19 d) else (fX0_clear_J81 N g x0 K55 y1 4 r19 d))))
set_option maxHeartbeats 4000000 in
set_option maxRecDepth 100000 in
theorem tX0_clear_55 {p : Program} {l : Launch} {e : Env} {s : State} {m : MethodId} {args : Array Value} {below : List Frame} {meth : Method} {c : Code} {D : va_G} {cy : Nat → ClassId} {B : Bs} (C : Cx p s m args c cX0_clear 2 RX0 D cy B) (hr : meth.sig.returnType = none) (hlocks : meth.locks = false) {N : Nat} {g : Gs} {x0 : Nat}  {dz : Ds} {K55 : Int32 × Ds → Option (Unit × Ds)} (hK55 : ∀ a, K55 a = some ((), dz) → WB p l e rmX0_clear s m args below meth c 2 D cy B 0 0 (MQ below (QV D cy B g dz) args s 0 0 (wA B)) g a.2 [(0, .ref (ad B x0)), (1, .int a.1)] 55 []) {y1 : Int32} {d : Ds} (hf : fX0_clear_B55 N g x0 K55 y1 d = some ((), dz)) : WB p l e rmX0_clear s m args below meth c 2 D cy B 0 0 (MQ below (QV D cy B g dz) args s 0 0 (wA B)) g d [(0, .ref (ad B x0)), (1, .int y1)] 55 [] := by
  unfold fX0_clear_B55 at hf
  refine b_iload_n C dX0_clear_55 1 rfl rfl ?_
  refine b_aload_n C dX0_clear_56 0 rfl rfl ?_
  obtain ⟨h12, hf⟩ := gd_s hf
  obtain ⟨r13, er13, hf⟩ := ob_s hf
  refine b_gR C dX0_clear_57 fl_X0_11 h12 er13 ?_
  obtain ⟨h14, hf⟩ := gd_s hf
  refine b_alen C (t := 5) h14 (by decide) dX0_clear_60 ?_
  refine b_icmp_ge C (tgt := 92) dX0_clear_61 (by decide) (fun c15 => ?_) (fun c15 => ?_)
  · have hf := it_s c15 hf
    refine b_aload_n C dX0_clear_92 0 rfl rfl ?_
    refine b_iconst C (v := 0) dX0_clear_93 (by decide) ?_
    obtain ⟨d16, ed16, hf⟩ := bd_s hf
    refine b_pI C dX0_clear_94 fl_X0_77 fp0_12 h12 ed16 ?_
    refine b_aload_n C dX0_clear_97 0 rfl rfl ?_
    refine b_iconst C (v := 0) dX0_clear_98 (by decide) ?_
    obtain ⟨d17, ed17, hf⟩ := bd_s hf
    refine b_pI C dX0_clear_99 fl_X0_80 fp0_16 h12 ed17 ?_
    exact b_vret C hr hlocks hf dX0_clear_102
  · have hf := if_s c15 hf
    refine b_aload_n C dX0_clear_64 0 rfl rfl ?_
    refine b_gR C dX0_clear_65 fl_X0_11 h12 er13 ?_
    refine b_iload_n C dX0_clear_68 1 rfl rfl ?_
    obtain ⟨h18, hf⟩ := gd_s hf
    obtain ⟨r19, er19, hf⟩ := ob_s hf
    refine b_aaldD C (by exact h14) h18 er19 dX0_clear_69 ?_
    refine b_iload_n C dX0_clear_70 1 rfl rfl ?_
    refine b_bipush C (v := 24) dX0_clear_71 (by decide) ?_
    refine b_icmp_ge C (tgt := 80) dX0_clear_73 (by decide) (fun c20 => ?_) (fun c20 => ?_)
    · have hf := it_s c20 hf
      refine b_iconst C (v := 5) dX0_clear_80 (by decide) ?_
      refine b_sub [(0, .ref (ad B x0)), (1, .int y1)] [0, 1] rfl ?_
      exact tX0_clear_81 C hr hlocks hK55 hf
    · have hf := if_s c20 hf
      refine b_iconst C (v := 4) dX0_clear_76 (by decide) ?_
      refine b_goto C (tgt := 81) dX0_clear_77 (by decide) ?_
      refine b_sub [(0, .ref (ad B x0)), (1, .int y1)] [0, 1] rfl ?_
      exact tX0_clear_81 C hr hlocks hK55 hf
def fX0_clear_L55 (N : Nat) (g : Gs) (x0 : Nat) : Int32 × Ds → Option (Unit × Ds) := lp (fun K55 a => fX0_clear_B55 N g x0 K55 a.1 a.2) N
theorem tX0_clear_L55 {p : Program} {l : Launch} {e : Env} {s : State} {m : MethodId} {args : Array Value} {below : List Frame} {meth : Method} {c : Code} {D : va_G} {cy : Nat → ClassId} {B : Bs} (C : Cx p s m args c cX0_clear 2 RX0 D cy B) (hr : meth.sig.returnType = none) (hlocks : meth.locks = false) {N : Nat} {g : Gs} {x0 : Nat}  {dz : Ds} (a : Int32 × Ds) (hf : fX0_clear_L55 N g x0 a = some ((), dz)) : WB p l e rmX0_clear s m args below meth c 2 D cy B 0 0 (MQ below (QV D cy B g dz) args s 0 0 (wA B)) g a.2 [(0, .ref (ad B x0)), (1, .int a.1)] 55 [] :=
  lp_w (fun K55 hK55 a ha => tX0_clear_55 C hr hlocks hK55 ha) N a hf
set_option maxRecDepth 100000 in
def fX0_clear (N : Nat) (g : Gs) (x0 : Nat) (d : Ds) : Option (Unit × Ds) := gd (chk g x0 0) <| bd (sI d x0 0 0) fun d2 => (bd (sI d2 x0 1 0) fun d3 => (bd (sI d3 x0 2 0) fun d4 => (bd (sI d4 x0 3 0) fun d5 => (bd (sI d5 x0 4 2) fun d6 => (bd (sI d6 x0 5 8) fun d7 => (bd (sI d7 x0 6 3) fun d8 => (bd (sI d8 x0 7 6) fun d9 => (bd (sI d9 x0 8 20) fun d10 => (bd (sI d10 x0 9 5) fun d11 => (fX0_clear_L55 N g x0 (0, d11)))))))))))
set_option maxHeartbeats 4000000 in
set_option maxRecDepth 100000 in
theorem tX0_clear_E {p : Program} {l : Launch} {e : Env} {s : State} {m : MethodId} {args : Array Value} {below : List Frame} {meth : Method} {c : Code} {D : va_G} {cy : Nat → ClassId} {B : Bs} (C : Cx p s m args c cX0_clear 2 RX0 D cy B) (hr : meth.sig.returnType = none) (hlocks : meth.locks = false) {N : Nat} {g : Gs} {x0 : Nat}  {dz : Ds} {d : Ds} (hf : fX0_clear N g x0 d = some ((), dz)) : WB p l e rmX0_clear s m args below meth c 2 D cy B 0 0 (MQ below (QV D cy B g dz) args s 0 0 (wA B)) g d [(0, .ref (ad B x0))] 0 [] := by
  unfold fX0_clear at hf
  refine b_aload_n C dX0_clear_0 0 rfl rfl ?_
  refine b_iconst C (v := 0) dX0_clear_1 (by decide) ?_
  obtain ⟨h1, hf⟩ := gd_s hf
  obtain ⟨d2, ed2, hf⟩ := bd_s hf
  refine b_pI C dX0_clear_2 fl_X0_41 fp0_0 h1 ed2 ?_
  refine b_aload_n C dX0_clear_5 0 rfl rfl ?_
  refine b_iconst C (v := 0) dX0_clear_6 (by decide) ?_
  obtain ⟨d3, ed3, hf⟩ := bd_s hf
  refine b_pI C dX0_clear_7 fl_X0_45 fp0_1 h1 ed3 ?_
  refine b_aload_n C dX0_clear_10 0 rfl rfl ?_
  refine b_iconst C (v := 0) dX0_clear_11 (by decide) ?_
  obtain ⟨d4, ed4, hf⟩ := bd_s hf
  refine b_pZ C dX0_clear_12 fl_X0_48 fp0_2 (by decide) h1 ed4 ?_
  refine b_aload_n C dX0_clear_15 0 rfl rfl ?_
  refine b_iconst C (v := 0) dX0_clear_16 (by decide) ?_
  obtain ⟨d5, ed5, hf⟩ := bd_s hf
  refine b_pZ C dX0_clear_17 fl_X0_52 fp0_3 (by decide) h1 ed5 ?_
  refine b_aload_n C dX0_clear_20 0 rfl rfl ?_
  refine b_iconst C (v := 2) dX0_clear_21 (by decide) ?_
  obtain ⟨d6, ed6, hf⟩ := bd_s hf
  refine b_pI C dX0_clear_22 fl_X0_55 fp0_4 h1 ed6 ?_
  refine b_aload_n C dX0_clear_25 0 rfl rfl ?_
  refine b_bipush C (v := 8) dX0_clear_26 (by decide) ?_
  obtain ⟨d7, ed7, hf⟩ := bd_s hf
  refine b_pI C dX0_clear_28 fl_X0_58 fp0_5 h1 ed7 ?_
  refine b_aload_n C dX0_clear_31 0 rfl rfl ?_
  refine b_iconst C (v := 3) dX0_clear_32 (by decide) ?_
  obtain ⟨d8, ed8, hf⟩ := bd_s hf
  refine b_pI C dX0_clear_33 fl_X0_61 fp0_6 h1 ed8 ?_
  refine b_aload_n C dX0_clear_36 0 rfl rfl ?_
  refine b_bipush C (v := 6) dX0_clear_37 (by decide) ?_
  obtain ⟨d9, ed9, hf⟩ := bd_s hf
  refine b_pI C dX0_clear_39 fl_X0_64 fp0_7 h1 ed9 ?_
  refine b_aload_n C dX0_clear_42 0 rfl rfl ?_
  refine b_bipush C (v := 20) dX0_clear_43 (by decide) ?_
  obtain ⟨d10, ed10, hf⟩ := bd_s hf
  refine b_pI C dX0_clear_45 fl_X0_67 fp0_8 h1 ed10 ?_
  refine b_aload_n C dX0_clear_48 0 rfl rfl ?_
  refine b_iconst C (v := 5) dX0_clear_49 (by decide) ?_
  obtain ⟨d11, ed11, hf⟩ := bd_s hf
  refine b_pI C dX0_clear_50 fl_X0_70 fp0_9 h1 ed11 ?_
  refine b_iconst C (v := 0) dX0_clear_53 (by decide) ?_
  refine b_istore_n C dX0_clear_54 rfl [(1, .int 0), (0, .ref (ad B x0))] (by decide) rfl ?_
  refine b_sub [(0, .ref (ad B x0)), (1, .int 0)] [1, 0] rfl ?_
  exact tX0_clear_L55 C hr hlocks (0, d11) hf
theorem kX0_clear (l : Launch) (D : va_G) (cy : Nat → ClassId) (B : Bs) {N : Nat} {g : Gs} {x0 : Nat}  {dz : Ds} {d : Ds} (hf : fX0_clear N g x0 d = some ((), dz)) : Met l yX0_clear (.code yX0_clear cX0_clear 2 none :: wl) rmX0_clear (PC D cy B [.ref (ad B x0)] g d) (QV D cy B g dz) 0 0 (wA B) :=
  met_of (by decide +kernel) (Nat.le_of_ble_eq_true rfl) (fun p e s m args below meth c C hr hlocks _ => b_sub [(0, .ref (ad B x0))] [0] rfl (tX0_clear_E C hr hlocks hf))
/-! KeyMatrix$Board.<init>()V -/
theorem oi_X0_3 : Cond.methodLink RX0 3 objectInit ∈ wl := mW (mT1 (List.mem_of_getElem? (i := 96) (by decide +kernel))) rfl
theorem cw_X0_9 : Cond.classLink RX0 9 "KeyMatrix$Deed" ∈ wl := mW (mT1 (List.mem_of_getElem? (i := 97) (by decide +kernel))) rfl
theorem fq_X0_11 : FLP RX0 11 0 10 := ⟨⟨RX0, TX0, 19, rfl, by decide, inl0, mW (mT1 (List.mem_of_getElem? (i := 148) (by decide +kernel))) rfl⟩, by decide, by decide +kernel⟩
theorem fr0_10 : FPR 0 10 RX0 := ⟨ft0, (RX0, TX0, 19), rfl, by decide +kernel, rfl, fun ty h a => by rw [tyX0_ok 10 (by decide)] at h; cases h; exact ⟨rfl, rfl⟩⟩
theorem df2 : ∀ j, j < 3 → defaultValue (tyX2 j) = if fR 2 j then .null else .int 0 := by
  intro j hj
  rcases (show j = 0 ∨ j = 1 ∨ j = 2 by omega) with rfl | rfl | rfl
  · rw [show fR 2 0 = false by decide +kernel]; rfl
  · rw [show fR 2 1 = false by decide +kernel]; rfl
  · rw [show fR 2 2 = false by decide +kernel]; rfl
theorem ic2 : Cond.instantiable RX2 3 ∈ wl := mW (mT1 (List.mem_of_getElem? (i := 66) (by decide +kernel))) rfl
theorem ii2 : Cond.initialized RX2 ∈ wl := mW (mT1 (List.mem_of_getElem? (i := 4) (by decide +kernel))) rfl
theorem nw_X0_9 : FNW RX0 9 2 3 := ⟨RX2, TX2, tyX2, rfl, by decide, inl2, tyX2_ok, mW (mT1 (List.mem_of_getElem? (i := 97) (by decide +kernel))) rfl, ic2, ii2, df2⟩
theorem yo_X2_init : yX2_init.cls ≠ "java/lang/invoke/MethodHandle" ∧ yX2_init.cls ≠ "java/lang/invoke/VarHandle" ∧ (parseMethodDescriptor yX2_init.desc).map (fun d => d.parameters.length) = some 0 := by decide +kernel
theorem co_X2_init : Cond.code yX2_init cX2_init 1 none ∈ wl := mW (mT1 (List.mem_of_getElem? (i := 69) (by decide +kernel))) rfl
theorem in_X2_init : Cond.initialized yX2_init.cls ∈ wl := mW (mT1 (List.mem_of_getElem? (i := 4) (by decide +kernel))) rfl
theorem im_X2_init : Cond.instanceMethod yX2_init ∈ wl := mW (mT1 (List.mem_of_getElem? (i := 68) (by decide +kernel))) rfl
theorem lv_X0_17 : LCo RX0 17 yX2_init cX2_init 1 0 := ⟨rfl, yo_X2_init, Or.inr (mT1 (List.mem_of_getElem? (i := 99) (by decide +kernel))), im_X2_init, in_X2_init, co_X2_init⟩
theorem fq_X0_18 : FLP RX0 18 0 11 := ⟨⟨RX0, TX0, 19, rfl, by decide, inl0, mW (mT1 (List.mem_of_getElem? (i := 149) (by decide +kernel))) rfl⟩, by decide, by decide +kernel⟩
theorem fr0_11 : FPR 0 11 RX0 := ⟨ft0, (RX0, TX0, 19), rfl, by decide +kernel, rfl, fun ty h a => by rw [tyX0_ok 11 (by decide)] at h; cases h; exact ⟨rfl, rfl⟩⟩
theorem ar_int : Cond.arrayClass (newarray.typeOf .int) ∈ wl := mW (mT1 (List.mem_of_getElem? (i := 64) (by decide +kernel))) rfl
theorem fq_X0_22 : FLP RX0 22 0 13 := ⟨⟨RX0, TX0, 19, rfl, by decide, inl0, mW (mT1 (List.mem_of_getElem? (i := 153) (by decide +kernel))) rfl⟩, by decide, by decide +kernel⟩
theorem fr0_13 : FPR 0 13 RX0 := ⟨ft0, (RX0, TX0, 19), rfl, by decide +kernel, rfl, fun ty h a => by rw [tyX0_ok 13 (by decide)] at h; cases h; exact ⟨rfl, rfl⟩⟩
theorem fq_X0_26 : FLP RX0 26 0 14 := ⟨⟨RX0, TX0, 19, rfl, by decide, inl0, mW (mT1 (List.mem_of_getElem? (i := 156) (by decide +kernel))) rfl⟩, by decide, by decide +kernel⟩
theorem fr0_14 : FPR 0 14 RX0 := ⟨ft0, (RX0, TX0, 19), rfl, by decide +kernel, rfl, fun ty h a => by rw [tyX0_ok 14 (by decide)] at h; cases h; exact ⟨rfl, rfl⟩⟩
theorem fq_X0_29 : FLP RX0 29 0 15 := ⟨⟨RX0, TX0, 19, rfl, by decide, inl0, mW (mT1 (List.mem_of_getElem? (i := 159) (by decide +kernel))) rfl⟩, by decide, by decide +kernel⟩
theorem fr0_15 : FPR 0 15 RX0 := ⟨ft0, (RX0, TX0, 19), rfl, by decide +kernel, rfl, fun ty h a => by rw [tyX0_ok 15 (by decide)] at h; cases h; exact ⟨rfl, rfl⟩⟩
theorem fq_X0_32 : FLP RX0 32 0 17 := ⟨⟨RX0, TX0, 19, rfl, by decide, inl0, mW (mT1 (List.mem_of_getElem? (i := 163) (by decide +kernel))) rfl⟩, by decide, by decide +kernel⟩
theorem fr0_17 : FPR 0 17 RX0 := ⟨ft0, (RX0, TX0, 19), rfl, by decide +kernel, rfl, fun ty h a => by rw [tyX0_ok 17 (by decide)] at h; cases h; exact ⟨rfl, rfl⟩⟩
theorem fq_X0_35 : FLP RX0 35 0 18 := ⟨⟨RX0, TX0, 19, rfl, by decide, inl0, mW (mT1 (List.mem_of_getElem? (i := 165) (by decide +kernel))) rfl⟩, by decide, by decide +kernel⟩
theorem fr0_18 : FPR 0 18 RX0 := ⟨ft0, (RX0, TX0, 19), rfl, by decide +kernel, rfl, fun ty h a => by rw [tyX0_ok 18 (by decide)] at h; cases h; exact ⟨rfl, rfl⟩⟩
theorem yo_X0_clear : yX0_clear.cls ≠ "java/lang/invoke/MethodHandle" ∧ yX0_clear.cls ≠ "java/lang/invoke/VarHandle" ∧ (parseMethodDescriptor yX0_clear.desc).map (fun d => d.parameters.length) = some 0 := by decide +kernel
theorem co_X0_clear : Cond.code yX0_clear cX0_clear 2 none ∈ wl := mW (mT1 (List.mem_of_getElem? (i := 103) (by decide +kernel))) rfl
theorem in_X0_clear : Cond.initialized yX0_clear.cls ∈ wl := mW (mT1 (List.mem_of_getElem? (i := 5) (by decide +kernel))) rfl
theorem im_X0_clear : Cond.instanceMethod yX0_clear ∈ wl := mW (mT1 (List.mem_of_getElem? (i := 101) (by decide +kernel))) rfl
theorem se_X0_clear : Cond.selects yX0_clear.cls yX0_clear yX0_clear ∈ wl := mW (mT1 (List.mem_of_getElem? (i := 102) (by decide +kernel))) rfl
theorem lv_X0_38 : LV RX0 38 yX0_clear cX0_clear 2 none 0 0 := ⟨⟨(RX0, TX0, 19), rfl, rfl⟩, yo_X0_clear, mW (mT1 (List.mem_of_getElem? (i := 100) (by decide +kernel))) rfl, im_X0_clear, se_X0_clear, in_X0_clear, co_X0_clear⟩
theorem fl_X0_29 : FLR RX0 29 0 15 := ⟨⟨RX0, TX0, 19, rfl, by decide, inl0, Or.inl (mW (mT1 (List.mem_of_getElem? (i := 159) (by decide +kernel))) rfl)⟩, by decide, by decide +kernel⟩
theorem dX0_init_0 : decode cX0_init 0 = .ok (.aload_n 0, 1) := by decide +kernel
theorem dX0_init_1 : decode cX0_init 1 = .ok (.invokespecial 3, 3) := by decide +kernel
theorem dX0_init_4 : decode cX0_init 4 = .ok (.aload_n 0, 1) := by decide +kernel
theorem dX0_init_5 : decode cX0_init 5 = .ok (.bipush 96, 2) := by decide +kernel
theorem dX0_init_7 : decode cX0_init 7 = .ok (.anewarray 9, 3) := by decide +kernel
theorem dX0_init_10 : decode cX0_init 10 = .ok (.putfield 11, 3) := by decide +kernel
theorem dX0_init_13 : decode cX0_init 13 = .ok (.aload_n 0, 1) := by decide +kernel
theorem dX0_init_14 : decode cX0_init 14 = .ok (.new 9, 3) := by decide +kernel
theorem dX0_init_17 : decode cX0_init 17 = .ok (.dup, 1) := by decide +kernel
theorem dX0_init_18 : decode cX0_init 18 = .ok (.invokespecial 17, 3) := by decide +kernel
theorem dX0_init_21 : decode cX0_init 21 = .ok (.putfield 18, 3) := by decide +kernel
theorem dX0_init_24 : decode cX0_init 24 = .ok (.aload_n 0, 1) := by decide +kernel
theorem dX0_init_25 : decode cX0_init 25 = .ok (.iconst 4, 1) := by decide +kernel
theorem dX0_init_26 : decode cX0_init 26 = .ok (.newarray .int, 2) := by decide +kernel
theorem dX0_init_28 : decode cX0_init 28 = .ok (.putfield 22, 3) := by decide +kernel
theorem dX0_init_31 : decode cX0_init 31 = .ok (.aload_n 0, 1) := by decide +kernel
theorem dX0_init_32 : decode cX0_init 32 = .ok (.iconst 4, 1) := by decide +kernel
theorem dX0_init_33 : decode cX0_init 33 = .ok (.newarray .int, 2) := by decide +kernel
theorem dX0_init_35 : decode cX0_init 35 = .ok (.putfield 26, 3) := by decide +kernel
theorem dX0_init_38 : decode cX0_init 38 = .ok (.aload_n 0, 1) := by decide +kernel
theorem dX0_init_39 : decode cX0_init 39 = .ok (.iconst 4, 1) := by decide +kernel
theorem dX0_init_40 : decode cX0_init 40 = .ok (.anewarray 9, 3) := by decide +kernel
theorem dX0_init_43 : decode cX0_init 43 = .ok (.putfield 29, 3) := by decide +kernel
theorem dX0_init_46 : decode cX0_init 46 = .ok (.aload_n 0, 1) := by decide +kernel
theorem dX0_init_47 : decode cX0_init 47 = .ok (.iconst 4, 1) := by decide +kernel
theorem dX0_init_48 : decode cX0_init 48 = .ok (.newarray .int, 2) := by decide +kernel
theorem dX0_init_50 : decode cX0_init 50 = .ok (.putfield 32, 3) := by decide +kernel
theorem dX0_init_53 : decode cX0_init 53 = .ok (.aload_n 0, 1) := by decide +kernel
theorem dX0_init_54 : decode cX0_init 54 = .ok (.bipush 32, 2) := by decide +kernel
theorem dX0_init_56 : decode cX0_init 56 = .ok (.newarray .int, 2) := by decide +kernel
theorem dX0_init_58 : decode cX0_init 58 = .ok (.putfield 35, 3) := by decide +kernel
theorem dX0_init_61 : decode cX0_init 61 = .ok (.iconst 0, 1) := by decide +kernel
theorem dX0_init_62 : decode cX0_init 62 = .ok (.istore_n 1, 1) := by decide +kernel
theorem dX0_init_63 : decode cX0_init 63 = .ok (.iload_n 1, 1) := by decide +kernel
theorem dX0_init_64 : decode cX0_init 64 = .ok (.aload_n 0, 1) := by decide +kernel
theorem dX0_init_65 : decode cX0_init 65 = .ok (.getfield 11, 3) := by decide +kernel
theorem dX0_init_68 : decode cX0_init 68 = .ok (.arraylength, 1) := by decide +kernel
theorem dX0_init_69 : decode cX0_init 69 = .ok (.if_icmp .ge 22, 3) := by decide +kernel
theorem dX0_init_72 : decode cX0_init 72 = .ok (.aload_n 0, 1) := by decide +kernel
theorem dX0_init_73 : decode cX0_init 73 = .ok (.getfield 11, 3) := by decide +kernel
theorem dX0_init_76 : decode cX0_init 76 = .ok (.iload_n 1, 1) := by decide +kernel
theorem dX0_init_77 : decode cX0_init 77 = .ok (.new 9, 3) := by decide +kernel
theorem dX0_init_80 : decode cX0_init 80 = .ok (.dup, 1) := by decide +kernel
theorem dX0_init_81 : decode cX0_init 81 = .ok (.invokespecial 17, 3) := by decide +kernel
theorem dX0_init_84 : decode cX0_init 84 = .ok (.aastore, 1) := by decide +kernel
theorem dX0_init_85 : decode cX0_init 85 = .ok (.iinc 1 1, 3) := by decide +kernel
theorem dX0_init_88 : decode cX0_init 88 = .ok (.goto (-25), 3) := by decide +kernel
theorem dX0_init_91 : decode cX0_init 91 = .ok (.iconst 0, 1) := by decide +kernel
theorem dX0_init_92 : decode cX0_init 92 = .ok (.istore_n 1, 1) := by decide +kernel
theorem dX0_init_93 : decode cX0_init 93 = .ok (.iload_n 1, 1) := by decide +kernel
theorem dX0_init_94 : decode cX0_init 94 = .ok (.iconst 4, 1) := by decide +kernel
theorem dX0_init_95 : decode cX0_init 95 = .ok (.if_icmp .ge 22, 3) := by decide +kernel
theorem dX0_init_98 : decode cX0_init 98 = .ok (.aload_n 0, 1) := by decide +kernel
theorem dX0_init_99 : decode cX0_init 99 = .ok (.getfield 29, 3) := by decide +kernel
theorem dX0_init_102 : decode cX0_init 102 = .ok (.iload_n 1, 1) := by decide +kernel
theorem dX0_init_103 : decode cX0_init 103 = .ok (.new 9, 3) := by decide +kernel
theorem dX0_init_106 : decode cX0_init 106 = .ok (.dup, 1) := by decide +kernel
theorem dX0_init_107 : decode cX0_init 107 = .ok (.invokespecial 17, 3) := by decide +kernel
theorem dX0_init_110 : decode cX0_init 110 = .ok (.aastore, 1) := by decide +kernel
theorem dX0_init_111 : decode cX0_init 111 = .ok (.iinc 1 1, 3) := by decide +kernel
theorem dX0_init_114 : decode cX0_init 114 = .ok (.goto (-21), 3) := by decide +kernel
theorem dX0_init_117 : decode cX0_init 117 = .ok (.aload_n 0, 1) := by decide +kernel
theorem dX0_init_118 : decode cX0_init 118 = .ok (.invokevirtual 38, 3) := by decide +kernel
theorem dX0_init_121 : decode cX0_init 121 = .ok (.return_, 1) := by decide +kernel
def rmX0_init : Room := { frames := 2, cells := 107, slots := 447, locals := 44 }
set_option maxRecDepth 100000 in
def fX0_init_B93 (N : Nat)  (x0 : Nat) (n0 s0 : Nat) (K93 : Int32 × Gs × Ds → Option (Gs × Ds)) (y1 : Int32) (g : Gs) (d : Ds) : Option (Gs × Ds) := if (4 : Int32) ≤ y1 then (gd (chk g x0 0) <| gd (gN g - n0 ≤ 107 ∧ gS g - s0 ≤ 447) <| cv (fX0_clear N g x0 d) fun d84 => (gd (gN g = n0 + 107 ∧ gS g = s0 + 447) <| some (g, d84))) else (gd (chk g x0 0) <| ob (gR g x0 15) fun r88 => (gd (gN g < 100000) <| gd (gN g + 1 - n0 ≤ 107 ∧ gS g + 3 - s0 ≤ 447) <| bd (nG g 2 0 3) fun g91 => (bd (nD g d) fun d92 => (bd (gN g) fun r93 => (gd (0 < gN g91) <| cb (fX2_init N r93 g91 d92) fun g96 d97 => (gd (gN g96 = gN g91 + 0 ∧ gS g96 = gS g91 + 0) <| gd (gN g96 - n0 ≤ 107 ∧ gS g96 - s0 ≤ 447) <| gd (chk g96 r88 105) <| gd (chk g96 r93 2) <| gd (¬ (y1 < 0 ∨ gL g96 r88 ≤ y1.toNatClampNeg)) <| bd (sR g96 r88 y1.toNatClampNeg r93) fun g105 => (bd (y1 + 1) fun u107 => (K93 (u107, g105, d97)))))))))
set_option maxHeartbeats 4000000 in
set_option maxRecDepth 100000 in
theorem tX0_init_93 {p : Program} {l : Launch} {e : Env} {s : State} {m : MethodId} {args : Array Value} {below : List Frame} {meth : Method} {c : Code} {D : va_G} {cy : Nat → ClassId} {B : Bs} (C : Cx p s m args c cX0_init 2 RX0 D cy B) (hr : meth.sig.returnType = none) (hlocks : meth.locks = false) (hin : meth.name = "<init>") {n0 s0 : Nat} (hz : s.heap.size = B.1 + n0) {N : Nat} {x0 : Nat} {gz : Gs} {dz : Ds} {K93 : Int32 × Gs × Ds → Option (Gs × Ds)} (hK93 : ∀ a, K93 a = some (gz, dz) → n0 ≤ gN a.2.1 → s0 ≤ gS a.2.1 → WB p l e rmX0_init s m args below meth c 2 D cy B (gN a.2.1 - n0) (gS a.2.1 - s0) (MQ below (QV D cy B gz dz) args s 107 447 (wA B)) a.2.1 a.2.2 [(0, .ref (ad B x0)), (1, .int a.1)] 93 []) {y1 : Int32} {g : Gs} {d : Ds} (hn : n0 ≤ gN g) (hs : s0 ≤ gS g) (hf : fX0_init_B93 N x0 n0 s0 K93 y1 g d = some (gz, dz)) : WB p l e rmX0_init s m args below meth c 2 D cy B (gN g - n0) (gS g - s0) (MQ below (QV D cy B gz dz) args s 107 447 (wA B)) g d [(0, .ref (ad B x0)), (1, .int y1)] 93 [] := by
  unfold fX0_init_B93 at hf
  refine b_iload_n C dX0_init_93 1 rfl rfl ?_
  refine b_iconst C (v := 4) dX0_init_94 (by decide) ?_
  refine b_icmp_ge C (tgt := 117) dX0_init_95 (by decide) (fun c81 => ?_) (fun c81 => ?_)
  · have hf := it_s c81 hf
    refine b_aload_n C dX0_init_117 0 rfl rfl ?_
    obtain ⟨h82, hf⟩ := gd_s hf
    obtain ⟨h83, hf⟩ := gd_s hf
    obtain ⟨d84, k85, hf⟩ := cv_s hf
    refine b_cVN C [] dX0_init_118 (kX0_clear l D cy B k85) lv_X0_38 ⟨rfl, rfl, Nat.le_of_ble_eq_true rfl, Nat.le_of_ble_eq_true rfl⟩ h82 (by decide) rfl (Nat.le_of_ble_eq_true rfl) h83 rfl ?_
    obtain ⟨h86, hf⟩ := gd_s hf
    exact b_vretC C hr hlocks h86 hf dX0_init_121
  · have hf := if_s c81 hf
    refine b_aload_n C dX0_init_98 0 rfl rfl ?_
    obtain ⟨h87, hf⟩ := gd_s hf
    obtain ⟨r88, er88, hf⟩ := ob_s hf
    refine b_gR C dX0_init_99 fl_X0_29 h87 er88 ?_
    refine b_iload_n C dX0_init_102 1 rfl rfl ?_
    obtain ⟨h89, hf⟩ := gd_s hf
    obtain ⟨h90, hf⟩ := gd_s hf
    obtain ⟨g91, eg91, hf⟩ := bd_s hf
    obtain ⟨d92, ed92, hf⟩ := bd_s hf
    obtain ⟨r93, er93, hf⟩ := bd_s hf
    refine b_new C dX0_init_103 nw_X0_9 hz hn hs h89 h90 eg91 ed92 (fun hn94 hn94s => ?_)
    refine b_topR er93 ?_
    refine b_dup C dX0_init_106 rfl ?_
    obtain ⟨h95, hf⟩ := gd_s hf
    obtain ⟨g96, d97, k98, hf⟩ := cb_s hf
    obtain ⟨h100, hf⟩ := gd_s hf
    obtain ⟨h101, hf⟩ := gd_s hf
    refine b_callC C [.ref (ad B r93), .int y1, .ref (ad B r88)] dX0_init_107 (kX2_init l D cy B k98) lv_X0_17 ⟨rfl, rfl, Nat.le_of_ble_eq_true rfl, Nat.le_of_ble_eq_true rfl⟩ rfl (Nat.le_of_ble_eq_true rfl) hz hn94 hn94s h95 h100 h101 rfl (fun hn99 hn99s => ?_)
    obtain ⟨h102, hf⟩ := gd_s hf
    obtain ⟨h103, hf⟩ := gd_s hf
    obtain ⟨h104, hf⟩ := gd_s hf
    obtain ⟨g105, eg105, hf⟩ := bd_s hf
    refine b_aastDC C dX0_init_110 h102 h103 h104 eg105 ?_
    have hn106 : n0 ≤ gN g105 := by rw [eg105]; exact hn99
    have hn106s : s0 ≤ gS g105 := by rw [eg105]; exact hn99s
    obtain ⟨u107, eu107, hf⟩ := bd_s hf
    refine b_iinc C dX0_init_111 1 rfl (by rw [eu107]; rfl) [(1, .int u107), (0, .ref (ad B x0))] (by decide) rfl ?_
    refine b_goto C (tgt := 93) dX0_init_114 (by decide) ?_
    refine b_sub [(0, .ref (ad B x0)), (1, .int u107)] [1, 0] rfl ?_
    exact hK93 (u107, g105, d97) hf hn106 hn106s
def fX0_init_L93 (N : Nat)  (x0 : Nat) (n0 s0 : Nat) : Int32 × Gs × Ds → Option (Gs × Ds) := lp (fun K93 a => fX0_init_B93 N x0 n0 s0 K93 a.1 a.2.1 a.2.2) N
theorem tX0_init_L93 {p : Program} {l : Launch} {e : Env} {s : State} {m : MethodId} {args : Array Value} {below : List Frame} {meth : Method} {c : Code} {D : va_G} {cy : Nat → ClassId} {B : Bs} (C : Cx p s m args c cX0_init 2 RX0 D cy B) (hr : meth.sig.returnType = none) (hlocks : meth.locks = false) (hin : meth.name = "<init>") {n0 s0 : Nat} (hz : s.heap.size = B.1 + n0) {N : Nat} {x0 : Nat} {gz : Gs} {dz : Ds} (a : Int32 × Gs × Ds) (hn : n0 ≤ gN a.2.1) (hs : s0 ≤ gS a.2.1) (hf : fX0_init_L93 N x0 n0 s0 a = some (gz, dz)) : WB p l e rmX0_init s m args below meth c 2 D cy B (gN a.2.1 - n0) (gS a.2.1 - s0) (MQ below (QV D cy B gz dz) args s 107 447 (wA B)) a.2.1 a.2.2 [(0, .ref (ad B x0)), (1, .int a.1)] 93 [] := by
  unfold fX0_init_L93 at hf
  exact lp_w (G := fun a => n0 ≤ gN a.2.1 → s0 ≤ gS a.2.1 → WB p l e rmX0_init s m args below meth c 2 D cy B (gN a.2.1 - n0) (gS a.2.1 - s0) (MQ below (QV D cy B gz dz) args s 107 447 (wA B)) a.2.1 a.2.2 [(0, .ref (ad B x0)), (1, .int a.1)] 93 []) (fun K93 hK93 a ha hn hs => tX0_init_93 C hr hlocks hin hz hK93 hn hs ha) N a hf hn hs
set_option maxRecDepth 100000 in
def fX0_init_B63 (N : Nat)  (x0 : Nat) (n0 s0 : Nat) (K63 : Int32 × Gs × Ds → Option (Gs × Ds)) (y1 : Int32) (g : Gs) (d : Ds) : Option (Gs × Ds) := gd (chk g x0 0) <| ob (gR g x0 10) fun r78 => (gd (chk g r78 105) <| if (Int32.ofNat (gL g r78)) ≤ y1 then (fX0_init_L93 N x0 n0 s0 (0, g, d)) else (gd (gN g < 100000) <| gd (gN g + 1 - n0 ≤ 107 ∧ gS g + 3 - s0 ≤ 447) <| bd (nG g 2 0 3) fun g110 => (bd (nD g d) fun d111 => (bd (gN g) fun r112 => (gd (0 < gN g110) <| cb (fX2_init N r112 g110 d111) fun g115 d116 => (gd (gN g115 = gN g110 + 0 ∧ gS g115 = gS g110 + 0) <| gd (gN g115 - n0 ≤ 107 ∧ gS g115 - s0 ≤ 447) <| gd (chk g115 r78 105) <| gd (chk g115 r112 2) <| gd (¬ (y1 < 0 ∨ gL g115 r78 ≤ y1.toNatClampNeg)) <| bd (sR g115 r78 y1.toNatClampNeg r112) fun g124 => (bd (y1 + 1) fun u126 => (K63 (u126, g124, d116)))))))))
set_option maxHeartbeats 4000000 in
set_option maxRecDepth 100000 in
theorem tX0_init_63 {p : Program} {l : Launch} {e : Env} {s : State} {m : MethodId} {args : Array Value} {below : List Frame} {meth : Method} {c : Code} {D : va_G} {cy : Nat → ClassId} {B : Bs} (C : Cx p s m args c cX0_init 2 RX0 D cy B) (hr : meth.sig.returnType = none) (hlocks : meth.locks = false) (hin : meth.name = "<init>") {n0 s0 : Nat} (hz : s.heap.size = B.1 + n0) {N : Nat} {x0 : Nat} {gz : Gs} {dz : Ds} {K63 : Int32 × Gs × Ds → Option (Gs × Ds)} (hK63 : ∀ a, K63 a = some (gz, dz) → n0 ≤ gN a.2.1 → s0 ≤ gS a.2.1 → WB p l e rmX0_init s m args below meth c 2 D cy B (gN a.2.1 - n0) (gS a.2.1 - s0) (MQ below (QV D cy B gz dz) args s 107 447 (wA B)) a.2.1 a.2.2 [(0, .ref (ad B x0)), (1, .int a.1)] 63 []) {y1 : Int32} {g : Gs} {d : Ds} (hn : n0 ≤ gN g) (hs : s0 ≤ gS g) (hf : fX0_init_B63 N x0 n0 s0 K63 y1 g d = some (gz, dz)) : WB p l e rmX0_init s m args below meth c 2 D cy B (gN g - n0) (gS g - s0) (MQ below (QV D cy B gz dz) args s 107 447 (wA B)) g d [(0, .ref (ad B x0)), (1, .int y1)] 63 [] := by
  unfold fX0_init_B63 at hf
  refine b_iload_n C dX0_init_63 1 rfl rfl ?_
  refine b_aload_n C dX0_init_64 0 rfl rfl ?_
  obtain ⟨h77, hf⟩ := gd_s hf
  obtain ⟨r78, er78, hf⟩ := ob_s hf
  refine b_gR C dX0_init_65 fl_X0_11 h77 er78 ?_
  obtain ⟨h79, hf⟩ := gd_s hf
  refine b_alen C (t := 5) h79 (by decide) dX0_init_68 ?_
  refine b_icmp_ge C (tgt := 91) dX0_init_69 (by decide) (fun c80 => ?_) (fun c80 => ?_)
  · have hf := it_s c80 hf
    refine b_iconst C (v := 0) dX0_init_91 (by decide) ?_
    refine b_istore_n C dX0_init_92 rfl [(1, .int 0), (0, .ref (ad B x0))] (by decide) rfl ?_
    refine b_sub [(0, .ref (ad B x0)), (1, .int 0)] [1, 0] rfl ?_
    exact tX0_init_L93 C hr hlocks hin hz (0, g, d) hn hs hf
  · have hf := if_s c80 hf
    refine b_aload_n C dX0_init_72 0 rfl rfl ?_
    refine b_gR C dX0_init_73 fl_X0_11 h77 er78 ?_
    refine b_iload_n C dX0_init_76 1 rfl rfl ?_
    obtain ⟨h108, hf⟩ := gd_s hf
    obtain ⟨h109, hf⟩ := gd_s hf
    obtain ⟨g110, eg110, hf⟩ := bd_s hf
    obtain ⟨d111, ed111, hf⟩ := bd_s hf
    obtain ⟨r112, er112, hf⟩ := bd_s hf
    refine b_new C dX0_init_77 nw_X0_9 hz hn hs h108 h109 eg110 ed111 (fun hn113 hn113s => ?_)
    refine b_topR er112 ?_
    refine b_dup C dX0_init_80 rfl ?_
    obtain ⟨h114, hf⟩ := gd_s hf
    obtain ⟨g115, d116, k117, hf⟩ := cb_s hf
    obtain ⟨h119, hf⟩ := gd_s hf
    obtain ⟨h120, hf⟩ := gd_s hf
    refine b_callC C [.ref (ad B r112), .int y1, .ref (ad B r78)] dX0_init_81 (kX2_init l D cy B k117) lv_X0_17 ⟨rfl, rfl, Nat.le_of_ble_eq_true rfl, Nat.le_of_ble_eq_true rfl⟩ rfl (Nat.le_of_ble_eq_true rfl) hz hn113 hn113s h114 h119 h120 rfl (fun hn118 hn118s => ?_)
    obtain ⟨h121, hf⟩ := gd_s hf
    obtain ⟨h122, hf⟩ := gd_s hf
    obtain ⟨h123, hf⟩ := gd_s hf
    obtain ⟨g124, eg124, hf⟩ := bd_s hf
    refine b_aastDC C dX0_init_84 h121 h122 h123 eg124 ?_
    have hn125 : n0 ≤ gN g124 := by rw [eg124]; exact hn118
    have hn125s : s0 ≤ gS g124 := by rw [eg124]; exact hn118s
    obtain ⟨u126, eu126, hf⟩ := bd_s hf
    refine b_iinc C dX0_init_85 1 rfl (by rw [eu126]; rfl) [(1, .int u126), (0, .ref (ad B x0))] (by decide) rfl ?_
    refine b_goto C (tgt := 63) dX0_init_88 (by decide) ?_
    refine b_sub [(0, .ref (ad B x0)), (1, .int u126)] [1, 0] rfl ?_
    exact hK63 (u126, g124, d116) hf hn125 hn125s
def fX0_init_L63 (N : Nat)  (x0 : Nat) (n0 s0 : Nat) : Int32 × Gs × Ds → Option (Gs × Ds) := lp (fun K63 a => fX0_init_B63 N x0 n0 s0 K63 a.1 a.2.1 a.2.2) N
theorem tX0_init_L63 {p : Program} {l : Launch} {e : Env} {s : State} {m : MethodId} {args : Array Value} {below : List Frame} {meth : Method} {c : Code} {D : va_G} {cy : Nat → ClassId} {B : Bs} (C : Cx p s m args c cX0_init 2 RX0 D cy B) (hr : meth.sig.returnType = none) (hlocks : meth.locks = false) (hin : meth.name = "<init>") {n0 s0 : Nat} (hz : s.heap.size = B.1 + n0) {N : Nat} {x0 : Nat} {gz : Gs} {dz : Ds} (a : Int32 × Gs × Ds) (hn : n0 ≤ gN a.2.1) (hs : s0 ≤ gS a.2.1) (hf : fX0_init_L63 N x0 n0 s0 a = some (gz, dz)) : WB p l e rmX0_init s m args below meth c 2 D cy B (gN a.2.1 - n0) (gS a.2.1 - s0) (MQ below (QV D cy B gz dz) args s 107 447 (wA B)) a.2.1 a.2.2 [(0, .ref (ad B x0)), (1, .int a.1)] 63 [] := by
  unfold fX0_init_L63 at hf
  exact lp_w (G := fun a => n0 ≤ gN a.2.1 → s0 ≤ gS a.2.1 → WB p l e rmX0_init s m args below meth c 2 D cy B (gN a.2.1 - n0) (gS a.2.1 - s0) (MQ below (QV D cy B gz dz) args s 107 447 (wA B)) a.2.1 a.2.2 [(0, .ref (ad B x0)), (1, .int a.1)] 63 []) (fun K63 hK63 a ha hn hs => tX0_init_63 C hr hlocks hin hz hK63 hn hs ha) N a hf hn hs
set_option maxRecDepth 100000 in
def fX0_init_E (N : Nat) (x0 : Nat) (n0 s0 : Nat) (g : Gs) (d : Ds) : Option (Gs × Ds) := gd (¬ (96 : Int32) < 0) <| gd ((96 : Int32).toNatClampNeg ≤ 60000000) <| gd (gN g < 100000) <| gd (gN g + 1 - n0 ≤ 107 ∧ gS g + (96 : Int32).toNatClampNeg - s0 ≤ 447) <| bd (nG g 105 (96 : Int32).toNatClampNeg (96 : Int32).toNatClampNeg) fun g5 => (bd (nD g d) fun d6 => (bd (gN g) fun r7 => (gd (chk g5 x0 0) <| bd (sR g5 x0 10 r7) fun g10 => (gd (gN g10 < 100000) <| gd (gN g10 + 1 - n0 ≤ 107 ∧ gS g10 + 3 - s0 ≤ 447) <| bd (nG g10 2 0 3) fun g14 => (bd (nD g10 d6) fun d15 => (bd (gN g10) fun r16 => (gd (0 < gN g14) <| cb (fX2_init N r16 g14 d15) fun g19 d20 => (gd (gN g19 = gN g14 + 0 ∧ gS g19 = gS g14 + 0) <| gd (gN g19 - n0 ≤ 107 ∧ gS g19 - s0 ≤ 447) <| gd (chk g19 x0 0) <| bd (sR g19 x0 11 r16) fun g26 => (gd (¬ (4 : Int32) < 0) <| gd ((4 : Int32).toNatClampNeg ≤ 60000000) <| gd (gN g26 < 100000) <| gd (gN g26 + 1 - n0 ≤ 107 ∧ gS g26 + (4 : Int32).toNatClampNeg - s0 ≤ 447) <| bd (nG g26 102 (4 : Int32).toNatClampNeg (4 : Int32).toNatClampNeg) fun g32 => (bd (nD g26 d20) fun d33 => (bd (gN g26) fun r34 => (gd (chk g32 x0 0) <| bd (sR g32 x0 13 r34) fun g37 => (gd (gN g37 < 100000) <| gd (gN g37 + 1 - n0 ≤ 107 ∧ gS g37 + (4 : Int32).toNatClampNeg - s0 ≤ 447) <| bd (nG g37 102 (4 : Int32).toNatClampNeg (4 : Int32).toNatClampNeg) fun g41 => (bd (nD g37 d33) fun d42 => (bd (gN g37) fun r43 => (gd (chk g41 x0 0) <| bd (sR g41 x0 14 r43) fun g46 => (gd (gN g46 < 100000) <| gd (gN g46 + 1 - n0 ≤ 107 ∧ gS g46 + (4 : Int32).toNatClampNeg - s0 ≤ 447) <| bd (nG g46 105 (4 : Int32).toNatClampNeg (4 : Int32).toNatClampNeg) fun g50 => (bd (nD g46 d42) fun d51 => (bd (gN g46) fun r52 => (gd (chk g50 x0 0) <| bd (sR g50 x0 15 r52) fun g55 => (gd (gN g55 < 100000) <| gd (gN g55 + 1 - n0 ≤ 107 ∧ gS g55 + (4 : Int32).toNatClampNeg - s0 ≤ 447) <| bd (nG g55 102 (4 : Int32).toNatClampNeg (4 : Int32).toNatClampNeg) fun g59 => (bd (nD g55 d51) fun d60 => (bd (gN g55) fun r61 => (gd (chk g59 x0 0) <| bd (sR g59 x0 17 r61) fun g64 => (gd (¬ (32 : Int32) < 0) <| gd ((32 : Int32).toNatClampNeg ≤ 60000000) <| gd (gN g64 < 100000) <| gd (gN g64 + 1 - n0 ≤ 107 ∧ gS g64 + (32 : Int32).toNatClampNeg - s0 ≤ 447) <| bd (nG g64 102 (32 : Int32).toNatClampNeg (32 : Int32).toNatClampNeg) fun g70 => (bd (nD g64 d60) fun d71 => (bd (gN g64) fun r72 => (gd (chk g70 x0 0) <| bd (sR g70 x0 18 r72) fun g75 => (fX0_init_L63 N x0 n0 s0 (0, g75, d71))))))))))))))))))))))))))))))
def fX0_init (N : Nat) (x0 : Nat) (g : Gs) (d : Ds) : Option (Gs × Ds) := fX0_init_E N x0 (gN g) (gS g) g d
set_option maxHeartbeats 4000000 in
set_option maxRecDepth 100000 in
theorem tX0_init_E {p : Program} {l : Launch} {e : Env} {s : State} {m : MethodId} {args : Array Value} {below : List Frame} {meth : Method} {c : Code} {D : va_G} {cy : Nat → ClassId} {B : Bs} (C : Cx p s m args c cX0_init 2 RX0 D cy B) (hr : meth.sig.returnType = none) (hlocks : meth.locks = false) (hin : meth.name = "<init>") {n0 s0 : Nat} (hz : s.heap.size = B.1 + n0) {N : Nat} {x0 : Nat} {gz : Gs} {dz : Ds} {g : Gs} {d : Ds} (hn : n0 ≤ gN g) (hs : s0 ≤ gS g) (hf : fX0_init_E N x0 n0 s0 g d = some (gz, dz)) : WB p l e rmX0_init s m args below meth c 2 D cy B (gN g - n0) (gS g - s0) (MQ below (QV D cy B gz dz) args s 107 447 (wA B)) g d [(0, .ref (ad B x0))] 0 [] := by
  unfold fX0_init_E at hf
  refine b_aload_n C dX0_init_0 0 rfl rfl ?_
  refine b_objInit C oi_X0_3 oi_i oi_c (by decide) (by decide) dX0_init_1 ?_
  refine b_aload_n C dX0_init_4 0 rfl rfl ?_
  refine b_bipush C (v := 96) dX0_init_5 (by decide) ?_
  obtain ⟨h1, hf⟩ := gd_s hf
  obtain ⟨h2, hf⟩ := gd_s hf
  obtain ⟨h3, hf⟩ := gd_s hf
  obtain ⟨h4, hf⟩ := gd_s hf
  obtain ⟨g5, eg5, hf⟩ := bd_s hf
  obtain ⟨d6, ed6, hf⟩ := bd_s hf
  obtain ⟨r7, er7, hf⟩ := bd_s hf
  refine b_newqD C dX0_init_7 cw_X0_9 hz hn hs h3 h1 h2 h4 eg5 ed6 (fun hn8 hn8s => ?_)
  refine b_topR er7 ?_
  obtain ⟨h9, hf⟩ := gd_s hf
  obtain ⟨g10, eg10, hf⟩ := bd_s hf
  refine b_pRC C dX0_init_10 fq_X0_11 fr0_10 hin h9 eg10 ?_
  have hn11 : n0 ≤ gN g10 := by rw [eg10]; exact hn8
  have hn11s : s0 ≤ gS g10 := by rw [eg10]; exact hn8s
  refine b_aload_n C dX0_init_13 0 rfl rfl ?_
  obtain ⟨h12, hf⟩ := gd_s hf
  obtain ⟨h13, hf⟩ := gd_s hf
  obtain ⟨g14, eg14, hf⟩ := bd_s hf
  obtain ⟨d15, ed15, hf⟩ := bd_s hf
  obtain ⟨r16, er16, hf⟩ := bd_s hf
  refine b_new C dX0_init_14 nw_X0_9 hz hn11 hn11s h12 h13 eg14 ed15 (fun hn17 hn17s => ?_)
  refine b_topR er16 ?_
  refine b_dup C dX0_init_17 rfl ?_
  obtain ⟨h18, hf⟩ := gd_s hf
  obtain ⟨g19, d20, k21, hf⟩ := cb_s hf
  obtain ⟨h23, hf⟩ := gd_s hf
  obtain ⟨h24, hf⟩ := gd_s hf
  refine b_callC C [.ref (ad B r16), .ref (ad B x0)] dX0_init_18 (kX2_init l D cy B k21) lv_X0_17 ⟨rfl, rfl, Nat.le_of_ble_eq_true rfl, Nat.le_of_ble_eq_true rfl⟩ rfl (Nat.le_of_ble_eq_true rfl) hz hn17 hn17s h18 h23 h24 rfl (fun hn22 hn22s => ?_)
  obtain ⟨h25, hf⟩ := gd_s hf
  obtain ⟨g26, eg26, hf⟩ := bd_s hf
  refine b_pRC C dX0_init_21 fq_X0_18 fr0_11 hin h25 eg26 ?_
  have hn27 : n0 ≤ gN g26 := by rw [eg26]; exact hn22
  have hn27s : s0 ≤ gS g26 := by rw [eg26]; exact hn22s
  refine b_aload_n C dX0_init_24 0 rfl rfl ?_
  refine b_iconst C (v := 4) dX0_init_25 (by decide) ?_
  obtain ⟨h28, hf⟩ := gd_s hf
  obtain ⟨h29, hf⟩ := gd_s hf
  obtain ⟨h30, hf⟩ := gd_s hf
  obtain ⟨h31, hf⟩ := gd_s hf
  obtain ⟨g32, eg32, hf⟩ := bd_s hf
  obtain ⟨d33, ed33, hf⟩ := bd_s hf
  obtain ⟨r34, er34, hf⟩ := bd_s hf
  refine b_newaI C dX0_init_26 ar_int hz hn27 hn27s h30 h28 h29 h31 eg32 ed33 (fun hn35 hn35s => ?_)
  refine b_topR er34 ?_
  obtain ⟨h36, hf⟩ := gd_s hf
  obtain ⟨g37, eg37, hf⟩ := bd_s hf
  refine b_pRC C dX0_init_28 fq_X0_22 fr0_13 hin h36 eg37 ?_
  have hn38 : n0 ≤ gN g37 := by rw [eg37]; exact hn35
  have hn38s : s0 ≤ gS g37 := by rw [eg37]; exact hn35s
  refine b_aload_n C dX0_init_31 0 rfl rfl ?_
  refine b_iconst C (v := 4) dX0_init_32 (by decide) ?_
  obtain ⟨h39, hf⟩ := gd_s hf
  obtain ⟨h40, hf⟩ := gd_s hf
  obtain ⟨g41, eg41, hf⟩ := bd_s hf
  obtain ⟨d42, ed42, hf⟩ := bd_s hf
  obtain ⟨r43, er43, hf⟩ := bd_s hf
  refine b_newaI C dX0_init_33 ar_int hz hn38 hn38s h39 h28 h29 h40 eg41 ed42 (fun hn44 hn44s => ?_)
  refine b_topR er43 ?_
  obtain ⟨h45, hf⟩ := gd_s hf
  obtain ⟨g46, eg46, hf⟩ := bd_s hf
  refine b_pRC C dX0_init_35 fq_X0_26 fr0_14 hin h45 eg46 ?_
  have hn47 : n0 ≤ gN g46 := by rw [eg46]; exact hn44
  have hn47s : s0 ≤ gS g46 := by rw [eg46]; exact hn44s
  refine b_aload_n C dX0_init_38 0 rfl rfl ?_
  refine b_iconst C (v := 4) dX0_init_39 (by decide) ?_
  obtain ⟨h48, hf⟩ := gd_s hf
  obtain ⟨h49, hf⟩ := gd_s hf
  obtain ⟨g50, eg50, hf⟩ := bd_s hf
  obtain ⟨d51, ed51, hf⟩ := bd_s hf
  obtain ⟨r52, er52, hf⟩ := bd_s hf
  refine b_newqD C dX0_init_40 cw_X0_9 hz hn47 hn47s h48 h28 h29 h49 eg50 ed51 (fun hn53 hn53s => ?_)
  refine b_topR er52 ?_
  obtain ⟨h54, hf⟩ := gd_s hf
  obtain ⟨g55, eg55, hf⟩ := bd_s hf
  refine b_pRC C dX0_init_43 fq_X0_29 fr0_15 hin h54 eg55 ?_
  have hn56 : n0 ≤ gN g55 := by rw [eg55]; exact hn53
  have hn56s : s0 ≤ gS g55 := by rw [eg55]; exact hn53s
  refine b_aload_n C dX0_init_46 0 rfl rfl ?_
  refine b_iconst C (v := 4) dX0_init_47 (by decide) ?_
  obtain ⟨h57, hf⟩ := gd_s hf
  obtain ⟨h58, hf⟩ := gd_s hf
  obtain ⟨g59, eg59, hf⟩ := bd_s hf
  obtain ⟨d60, ed60, hf⟩ := bd_s hf
  obtain ⟨r61, er61, hf⟩ := bd_s hf
  refine b_newaI C dX0_init_48 ar_int hz hn56 hn56s h57 h28 h29 h58 eg59 ed60 (fun hn62 hn62s => ?_)
  refine b_topR er61 ?_
  obtain ⟨h63, hf⟩ := gd_s hf
  obtain ⟨g64, eg64, hf⟩ := bd_s hf
  refine b_pRC C dX0_init_50 fq_X0_32 fr0_17 hin h63 eg64 ?_
  have hn65 : n0 ≤ gN g64 := by rw [eg64]; exact hn62
  have hn65s : s0 ≤ gS g64 := by rw [eg64]; exact hn62s
  refine b_aload_n C dX0_init_53 0 rfl rfl ?_
  refine b_bipush C (v := 32) dX0_init_54 (by decide) ?_
  obtain ⟨h66, hf⟩ := gd_s hf
  obtain ⟨h67, hf⟩ := gd_s hf
  obtain ⟨h68, hf⟩ := gd_s hf
  obtain ⟨h69, hf⟩ := gd_s hf
  obtain ⟨g70, eg70, hf⟩ := bd_s hf
  obtain ⟨d71, ed71, hf⟩ := bd_s hf
  obtain ⟨r72, er72, hf⟩ := bd_s hf
  refine b_newaI C dX0_init_56 ar_int hz hn65 hn65s h68 h66 h67 h69 eg70 ed71 (fun hn73 hn73s => ?_)
  refine b_topR er72 ?_
  obtain ⟨h74, hf⟩ := gd_s hf
  obtain ⟨g75, eg75, hf⟩ := bd_s hf
  refine b_pRC C dX0_init_58 fq_X0_35 fr0_18 hin h74 eg75 ?_
  have hn76 : n0 ≤ gN g75 := by rw [eg75]; exact hn73
  have hn76s : s0 ≤ gS g75 := by rw [eg75]; exact hn73s
  refine b_iconst C (v := 0) dX0_init_61 (by decide) ?_
  refine b_istore_n C dX0_init_62 rfl [(1, .int 0), (0, .ref (ad B x0))] (by decide) rfl ?_
  refine b_sub [(0, .ref (ad B x0)), (1, .int 0)] [1, 0] rfl ?_
  exact tX0_init_L63 C hr hlocks hin hz (0, g75, d71) hn76 hn76s hf
theorem kX0_init (l : Launch) (D : va_G) (cy : Nat → ClassId) (B : Bs) {N : Nat} {g : Gs} {x0 : Nat} {gz : Gs} {dz : Ds} {d : Ds} (hf : fX0_init N x0 g d = some (gz, dz)) : Met l yX0_init (.code yX0_init cX0_init 2 none :: wl) rmX0_init (PCC D cy B [.ref (ad B x0)] g d) (QV D cy B gz dz) 107 447 (wA B) :=
  met_ofC (by decide +kernel) (Nat.le_of_ble_eq_true rfl) (fun p e s m args below meth c C hr hlocks hin hz => b_sub [(0, .ref (ad B x0))] [0] rfl (tX0_init_E C hr hlocks hin hz (Nat.le_refl _) (Nat.le_refl _) hf))
/-! KeyMatrix$Deed.copyFrom(LKeyMatrix$Deed;)V -/
theorem lv_X2_21 : LV RX2 21 yX2_tell cX2_tell 4 none 3 2 := ⟨⟨(RX2, TX2, 3), rfl, rfl⟩, yo_X2_tell, mW (mT3 (List.mem_of_getElem? (i := 198) (by decide +kernel))) rfl, im_X2_tell, se_X2_tell, in_X2_tell, co_X2_tell⟩
theorem dX2_copyFrom_0 : decode cX2_copyFrom 0 = .ok (.aload_n 0, 1) := by decide +kernel
theorem dX2_copyFrom_1 : decode cX2_copyFrom 1 = .ok (.aload_n 1, 1) := by decide +kernel
theorem dX2_copyFrom_2 : decode cX2_copyFrom 2 = .ok (.getfield 9, 3) := by decide +kernel
theorem dX2_copyFrom_5 : decode cX2_copyFrom 5 = .ok (.aload_n 1, 1) := by decide +kernel
theorem dX2_copyFrom_6 : decode cX2_copyFrom 6 = .ok (.getfield 15, 3) := by decide +kernel
theorem dX2_copyFrom_9 : decode cX2_copyFrom 9 = .ok (.aload_n 1, 1) := by decide +kernel
theorem dX2_copyFrom_10 : decode cX2_copyFrom 10 = .ok (.getfield 18, 3) := by decide +kernel
theorem dX2_copyFrom_13 : decode cX2_copyFrom 13 = .ok (.invokevirtual 21, 3) := by decide +kernel
theorem dX2_copyFrom_16 : decode cX2_copyFrom 16 = .ok (.return_, 1) := by decide +kernel
def rmX2_copyFrom : Room := { frames := 1, cells := 0, slots := 0, locals := 23 }
set_option maxRecDepth 100000 in
def fX2_copyFrom (N : Nat) (g : Gs) (x0 : Nat) (x1 : Nat) (d : Ds) : Option (Unit × Ds) := gd (chk g x1 2) <| gd (chk g x0 2) <| cv (fX2_tell N g x0 (dI d x1 0) (dI d x1 1) (dI d x1 2) d) fun d3 => (some ((), d3))
set_option maxHeartbeats 4000000 in
set_option maxRecDepth 100000 in
theorem tX2_copyFrom_E {p : Program} {l : Launch} {e : Env} {s : State} {m : MethodId} {args : Array Value} {below : List Frame} {meth : Method} {c : Code} {D : va_G} {cy : Nat → ClassId} {B : Bs} (C : Cx p s m args c cX2_copyFrom 2 RX2 D cy B) (hr : meth.sig.returnType = none) (hlocks : meth.locks = false) {N : Nat} {g : Gs} {x0 : Nat} {x1 : Nat}  {dz : Ds} {d : Ds} (hf : fX2_copyFrom N g x0 x1 d = some ((), dz)) : WB p l e rmX2_copyFrom s m args below meth c 2 D cy B 0 0 (MQ below (QV D cy B g dz) args s 0 0 (wA B)) g d [(0, .ref (ad B x0)), (1, .ref (ad B x1))] 0 [] := by
  unfold fX2_copyFrom at hf
  refine b_aload_n C dX2_copyFrom_0 0 rfl rfl ?_
  refine b_aload_n C dX2_copyFrom_1 1 rfl rfl ?_
  obtain ⟨h1, hf⟩ := gd_s hf
  refine b_gI C dX2_copyFrom_2 fl_X2_9 h1 ?_
  refine b_aload_n C dX2_copyFrom_5 1 rfl rfl ?_
  refine b_gI C dX2_copyFrom_6 fl_X2_15 h1 ?_
  refine b_aload_n C dX2_copyFrom_9 1 rfl rfl ?_
  refine b_gI C dX2_copyFrom_10 fl_X2_18 h1 ?_
  obtain ⟨h2, hf⟩ := gd_s hf
  obtain ⟨d3, k4, hf⟩ := cv_s hf
  refine b_cVN C [] dX2_copyFrom_13 (kX2_tell l D cy B k4) lv_X2_21 ⟨rfl, rfl, Nat.le_of_ble_eq_true rfl, Nat.le_of_ble_eq_true rfl⟩ h2 (by decide) rfl (Nat.le_of_ble_eq_true rfl) ⟨Nat.zero_le _, Nat.zero_le _⟩ rfl ?_
  exact b_vret C hr hlocks hf dX2_copyFrom_16
theorem kX2_copyFrom (l : Launch) (D : va_G) (cy : Nat → ClassId) (B : Bs) {N : Nat} {g : Gs} {x0 : Nat} {x1 : Nat}  {dz : Ds} {d : Ds} (hf : fX2_copyFrom N g x0 x1 d = some ((), dz)) : Met l yX2_copyFrom (.code yX2_copyFrom cX2_copyFrom 2 none :: wl) rmX2_copyFrom (PC D cy B [.ref (ad B x0), .ref (ad B x1)] g d) (QV D cy B g dz) 0 0 (wA B) :=
  met_of (by decide +kernel) (Nat.le_of_ble_eq_true rfl) (fun p e s m args below meth c C hr hlocks _ => b_sub [(0, .ref (ad B x0)), (1, .ref (ad B x1))] [0, 1] rfl (tX2_copyFrom_E C hr hlocks hf))
/-! KeyMatrix$Scan.<init>()V -/
theorem oi_X6_3 : Cond.methodLink RX6 3 objectInit ∈ wl := mW (mT2 (List.mem_of_getElem? (i := 33) (by decide +kernel))) rfl
theorem inl6 : ∀ w ∈ u_ws RX6 TX6 9, w ∈ wl := by
  have h0 : u_ws RX6 TX6 9 = [Cond.lays "KeyMatrix$Scan" "KeyMatrix$Scan" "closed" "I", Cond.lays "KeyMatrix$Scan" "KeyMatrix$Scan" "seen" "I", Cond.lays "KeyMatrix$Scan" "KeyMatrix$Scan" "barred" "I", Cond.lays "KeyMatrix$Scan" "KeyMatrix$Scan" "down" "I", Cond.laysFinal "KeyMatrix$Scan" "KeyMatrix$Scan" "unlike" "[I", Cond.laysFinal "KeyMatrix$Scan" "KeyMatrix$Scan" "steady" "[F", Cond.laysFinal "KeyMatrix$Scan" "KeyMatrix$Scan" "strokes" "[I", Cond.laysFinal "KeyMatrix$Scan" "KeyMatrix$Scan" "longest" "[I", Cond.laysFinal "KeyMatrix$Scan" "KeyMatrix$Scan" "lastEvent" "[I"] := by decide +kernel
  rw [h0]
  exact List.forall_mem_cons.mpr ⟨mW (mT2 (List.mem_of_getElem? (i := 53) (by decide +kernel))) rfl, List.forall_mem_cons.mpr ⟨mW (mT2 (List.mem_of_getElem? (i := 55) (by decide +kernel))) rfl, List.forall_mem_cons.mpr ⟨mW (mT2 (List.mem_of_getElem? (i := 57) (by decide +kernel))) rfl, List.forall_mem_cons.mpr ⟨mW (mT2 (List.mem_of_getElem? (i := 59) (by decide +kernel))) rfl, List.forall_mem_cons.mpr ⟨mW (mT2 (List.mem_of_getElem? (i := 61) (by decide +kernel))) rfl, List.forall_mem_cons.mpr ⟨mW (mT2 (List.mem_of_getElem? (i := 63) (by decide +kernel))) rfl, List.forall_mem_cons.mpr ⟨mW (mT2 (List.mem_of_getElem? (i := 65) (by decide +kernel))) rfl, List.forall_mem_cons.mpr ⟨mW (mT2 (List.mem_of_getElem? (i := 67) (by decide +kernel))) rfl, List.forall_mem_cons.mpr ⟨mW (mT2 (List.mem_of_getElem? (i := 69) (by decide +kernel))) rfl, fun _ h => absurd h List.not_mem_nil⟩⟩⟩⟩⟩⟩⟩⟩⟩
theorem fq_X6_9 : FLP RX6 9 6 4 := ⟨⟨RX6, TX6, 9, rfl, by decide, inl6, mW (mT2 (List.mem_of_getElem? (i := 43) (by decide +kernel))) rfl⟩, by decide, by decide +kernel⟩
theorem ft6 : FT 6 := ⟨RX6, TX6, 9, tyX6, rfl, tyX6_ok, nmX6⟩
theorem fr6_4 : FPR 6 4 RX6 := ⟨ft6, (RX6, TX6, 9), rfl, by decide +kernel, rfl, fun ty h a => by rw [tyX6_ok 4 (by decide)] at h; cases h; exact ⟨rfl, rfl⟩⟩
theorem ar_float : Cond.arrayClass (newarray.typeOf .float) ∈ wl := mW (mT2 (List.mem_of_getElem? (i := 72) (by decide +kernel))) rfl
theorem fq_X6_15 : FLP RX6 15 6 5 := ⟨⟨RX6, TX6, 9, rfl, by decide, inl6, mW (mT2 (List.mem_of_getElem? (i := 45) (by decide +kernel))) rfl⟩, by decide, by decide +kernel⟩
theorem fr6_5 : FPR 6 5 RX6 := ⟨ft6, (RX6, TX6, 9), rfl, by decide +kernel, rfl, fun ty h a => by rw [tyX6_ok 5 (by decide)] at h; cases h; exact ⟨rfl, rfl⟩⟩
theorem fq_X6_19 : FLP RX6 19 6 6 := ⟨⟨RX6, TX6, 9, rfl, by decide, inl6, mW (mT2 (List.mem_of_getElem? (i := 47) (by decide +kernel))) rfl⟩, by decide, by decide +kernel⟩
theorem fr6_6 : FPR 6 6 RX6 := ⟨ft6, (RX6, TX6, 9), rfl, by decide +kernel, rfl, fun ty h a => by rw [tyX6_ok 6 (by decide)] at h; cases h; exact ⟨rfl, rfl⟩⟩
theorem fq_X6_22 : FLP RX6 22 6 7 := ⟨⟨RX6, TX6, 9, rfl, by decide, inl6, mW (mT2 (List.mem_of_getElem? (i := 49) (by decide +kernel))) rfl⟩, by decide, by decide +kernel⟩
theorem fr6_7 : FPR 6 7 RX6 := ⟨ft6, (RX6, TX6, 9), rfl, by decide +kernel, rfl, fun ty h a => by rw [tyX6_ok 7 (by decide)] at h; cases h; exact ⟨rfl, rfl⟩⟩
theorem fq_X6_25 : FLP RX6 25 6 8 := ⟨⟨RX6, TX6, 9, rfl, by decide, inl6, mW (mT2 (List.mem_of_getElem? (i := 51) (by decide +kernel))) rfl⟩, by decide, by decide +kernel⟩
theorem fr6_8 : FPR 6 8 RX6 := ⟨ft6, (RX6, TX6, 9), rfl, by decide +kernel, rfl, fun ty h a => by rw [tyX6_ok 8 (by decide)] at h; cases h; exact ⟨rfl, rfl⟩⟩
theorem dX6_init_0 : decode cX6_init 0 = .ok (.aload_n 0, 1) := by decide +kernel
theorem dX6_init_1 : decode cX6_init 1 = .ok (.invokespecial 3, 3) := by decide +kernel
theorem dX6_init_4 : decode cX6_init 4 = .ok (.aload_n 0, 1) := by decide +kernel
theorem dX6_init_5 : decode cX6_init 5 = .ok (.bipush 24, 2) := by decide +kernel
theorem dX6_init_7 : decode cX6_init 7 = .ok (.newarray .int, 2) := by decide +kernel
theorem dX6_init_9 : decode cX6_init 9 = .ok (.putfield 9, 3) := by decide +kernel
theorem dX6_init_12 : decode cX6_init 12 = .ok (.aload_n 0, 1) := by decide +kernel
theorem dX6_init_13 : decode cX6_init 13 = .ok (.bipush 24, 2) := by decide +kernel
theorem dX6_init_15 : decode cX6_init 15 = .ok (.newarray .float, 2) := by decide +kernel
theorem dX6_init_17 : decode cX6_init 17 = .ok (.putfield 15, 3) := by decide +kernel
theorem dX6_init_20 : decode cX6_init 20 = .ok (.aload_n 0, 1) := by decide +kernel
theorem dX6_init_21 : decode cX6_init 21 = .ok (.bipush 24, 2) := by decide +kernel
theorem dX6_init_23 : decode cX6_init 23 = .ok (.newarray .int, 2) := by decide +kernel
theorem dX6_init_25 : decode cX6_init 25 = .ok (.putfield 19, 3) := by decide +kernel
theorem dX6_init_28 : decode cX6_init 28 = .ok (.aload_n 0, 1) := by decide +kernel
theorem dX6_init_29 : decode cX6_init 29 = .ok (.bipush 24, 2) := by decide +kernel
theorem dX6_init_31 : decode cX6_init 31 = .ok (.newarray .int, 2) := by decide +kernel
theorem dX6_init_33 : decode cX6_init 33 = .ok (.putfield 22, 3) := by decide +kernel
theorem dX6_init_36 : decode cX6_init 36 = .ok (.aload_n 0, 1) := by decide +kernel
theorem dX6_init_37 : decode cX6_init 37 = .ok (.bipush 24, 2) := by decide +kernel
theorem dX6_init_39 : decode cX6_init 39 = .ok (.newarray .int, 2) := by decide +kernel
theorem dX6_init_41 : decode cX6_init 41 = .ok (.putfield 25, 3) := by decide +kernel
theorem dX6_init_44 : decode cX6_init 44 = .ok (.return_, 1) := by decide +kernel
def rmX6_init : Room := { frames := 1, cells := 5, slots := 120, locals := 20 }
set_option maxRecDepth 100000 in
def fX6_init_E (N : Nat) (x0 : Nat) (n0 s0 : Nat) (g : Gs) (d : Ds) : Option (Gs × Ds) := gd (¬ (24 : Int32) < 0) <| gd ((24 : Int32).toNatClampNeg ≤ 60000000) <| gd (gN g < 100000) <| gd (gN g + 1 - n0 ≤ 5 ∧ gS g + (24 : Int32).toNatClampNeg - s0 ≤ 120) <| bd (nG g 102 (24 : Int32).toNatClampNeg (24 : Int32).toNatClampNeg) fun g5 => (bd (nD g d) fun d6 => (bd (gN g) fun r7 => (gd (chk g5 x0 6) <| bd (sR g5 x0 4 r7) fun g10 => (gd (gN g10 < 100000) <| gd (gN g10 + 1 - n0 ≤ 5 ∧ gS g10 + (24 : Int32).toNatClampNeg - s0 ≤ 120) <| bd (nG g10 101 (24 : Int32).toNatClampNeg (24 : Int32).toNatClampNeg) fun g14 => (bd (nD g10 d6) fun d15 => (bd (gN g10) fun r16 => (gd (chk g14 x0 6) <| bd (sR g14 x0 5 r16) fun g19 => (gd (gN g19 < 100000) <| gd (gN g19 + 1 - n0 ≤ 5 ∧ gS g19 + (24 : Int32).toNatClampNeg - s0 ≤ 120) <| bd (nG g19 102 (24 : Int32).toNatClampNeg (24 : Int32).toNatClampNeg) fun g23 => (bd (nD g19 d15) fun d24 => (bd (gN g19) fun r25 => (gd (chk g23 x0 6) <| bd (sR g23 x0 6 r25) fun g28 => (gd (gN g28 < 100000) <| gd (gN g28 + 1 - n0 ≤ 5 ∧ gS g28 + (24 : Int32).toNatClampNeg - s0 ≤ 120) <| bd (nG g28 102 (24 : Int32).toNatClampNeg (24 : Int32).toNatClampNeg) fun g32 => (bd (nD g28 d24) fun d33 => (bd (gN g28) fun r34 => (gd (chk g32 x0 6) <| bd (sR g32 x0 7 r34) fun g37 => (gd (gN g37 < 100000) <| gd (gN g37 + 1 - n0 ≤ 5 ∧ gS g37 + (24 : Int32).toNatClampNeg - s0 ≤ 120) <| bd (nG g37 102 (24 : Int32).toNatClampNeg (24 : Int32).toNatClampNeg) fun g41 => (bd (nD g37 d33) fun d42 => (bd (gN g37) fun r43 => (gd (chk g41 x0 6) <| bd (sR g41 x0 8 r43) fun g46 => (gd (gN g46 = n0 + 5 ∧ gS g46 = s0 + 120) <| some (g46, d42)))))))))))))))))))))
def fX6_init (N : Nat) (x0 : Nat) (g : Gs) (d : Ds) : Option (Gs × Ds) := fX6_init_E N x0 (gN g) (gS g) g d
set_option maxHeartbeats 4000000 in
set_option maxRecDepth 100000 in
theorem tX6_init_E {p : Program} {l : Launch} {e : Env} {s : State} {m : MethodId} {args : Array Value} {below : List Frame} {meth : Method} {c : Code} {D : va_G} {cy : Nat → ClassId} {B : Bs} (C : Cx p s m args c cX6_init 1 RX6 D cy B) (hr : meth.sig.returnType = none) (hlocks : meth.locks = false) (hin : meth.name = "<init>") {n0 s0 : Nat} (hz : s.heap.size = B.1 + n0) {N : Nat} {x0 : Nat} {gz : Gs} {dz : Ds} {g : Gs} {d : Ds} (hn : n0 ≤ gN g) (hs : s0 ≤ gS g) (hf : fX6_init_E N x0 n0 s0 g d = some (gz, dz)) : WB p l e rmX6_init s m args below meth c 1 D cy B (gN g - n0) (gS g - s0) (MQ below (QV D cy B gz dz) args s 5 120 (wA B)) g d [(0, .ref (ad B x0))] 0 [] := by
  unfold fX6_init_E at hf
  refine b_aload_n C dX6_init_0 0 rfl rfl ?_
  refine b_objInit C oi_X6_3 oi_i oi_c (by decide) (by decide) dX6_init_1 ?_
  refine b_aload_n C dX6_init_4 0 rfl rfl ?_
  refine b_bipush C (v := 24) dX6_init_5 (by decide) ?_
  obtain ⟨h1, hf⟩ := gd_s hf
  obtain ⟨h2, hf⟩ := gd_s hf
  obtain ⟨h3, hf⟩ := gd_s hf
  obtain ⟨h4, hf⟩ := gd_s hf
  obtain ⟨g5, eg5, hf⟩ := bd_s hf
  obtain ⟨d6, ed6, hf⟩ := bd_s hf
  obtain ⟨r7, er7, hf⟩ := bd_s hf
  refine b_newaI C dX6_init_7 ar_int hz hn hs h3 h1 h2 h4 eg5 ed6 (fun hn8 hn8s => ?_)
  refine b_topR er7 ?_
  obtain ⟨h9, hf⟩ := gd_s hf
  obtain ⟨g10, eg10, hf⟩ := bd_s hf
  refine b_pRC C dX6_init_9 fq_X6_9 fr6_4 hin h9 eg10 ?_
  have hn11 : n0 ≤ gN g10 := by rw [eg10]; exact hn8
  have hn11s : s0 ≤ gS g10 := by rw [eg10]; exact hn8s
  refine b_aload_n C dX6_init_12 0 rfl rfl ?_
  refine b_bipush C (v := 24) dX6_init_13 (by decide) ?_
  obtain ⟨h12, hf⟩ := gd_s hf
  obtain ⟨h13, hf⟩ := gd_s hf
  obtain ⟨g14, eg14, hf⟩ := bd_s hf
  obtain ⟨d15, ed15, hf⟩ := bd_s hf
  obtain ⟨r16, er16, hf⟩ := bd_s hf
  refine b_newaF C dX6_init_15 ar_float hz hn11 hn11s h12 h1 h2 h13 eg14 ed15 (fun hn17 hn17s => ?_)
  refine b_topR er16 ?_
  obtain ⟨h18, hf⟩ := gd_s hf
  obtain ⟨g19, eg19, hf⟩ := bd_s hf
  refine b_pRC C dX6_init_17 fq_X6_15 fr6_5 hin h18 eg19 ?_
  have hn20 : n0 ≤ gN g19 := by rw [eg19]; exact hn17
  have hn20s : s0 ≤ gS g19 := by rw [eg19]; exact hn17s
  refine b_aload_n C dX6_init_20 0 rfl rfl ?_
  refine b_bipush C (v := 24) dX6_init_21 (by decide) ?_
  obtain ⟨h21, hf⟩ := gd_s hf
  obtain ⟨h22, hf⟩ := gd_s hf
  obtain ⟨g23, eg23, hf⟩ := bd_s hf
  obtain ⟨d24, ed24, hf⟩ := bd_s hf
  obtain ⟨r25, er25, hf⟩ := bd_s hf
  refine b_newaI C dX6_init_23 ar_int hz hn20 hn20s h21 h1 h2 h22 eg23 ed24 (fun hn26 hn26s => ?_)
  refine b_topR er25 ?_
  obtain ⟨h27, hf⟩ := gd_s hf
  obtain ⟨g28, eg28, hf⟩ := bd_s hf
  refine b_pRC C dX6_init_25 fq_X6_19 fr6_6 hin h27 eg28 ?_
  have hn29 : n0 ≤ gN g28 := by rw [eg28]; exact hn26
  have hn29s : s0 ≤ gS g28 := by rw [eg28]; exact hn26s
  refine b_aload_n C dX6_init_28 0 rfl rfl ?_
  refine b_bipush C (v := 24) dX6_init_29 (by decide) ?_
  obtain ⟨h30, hf⟩ := gd_s hf
  obtain ⟨h31, hf⟩ := gd_s hf
  obtain ⟨g32, eg32, hf⟩ := bd_s hf
  obtain ⟨d33, ed33, hf⟩ := bd_s hf
  obtain ⟨r34, er34, hf⟩ := bd_s hf
  refine b_newaI C dX6_init_31 ar_int hz hn29 hn29s h30 h1 h2 h31 eg32 ed33 (fun hn35 hn35s => ?_)
  refine b_topR er34 ?_
  obtain ⟨h36, hf⟩ := gd_s hf
  obtain ⟨g37, eg37, hf⟩ := bd_s hf
  refine b_pRC C dX6_init_33 fq_X6_22 fr6_7 hin h36 eg37 ?_
  have hn38 : n0 ≤ gN g37 := by rw [eg37]; exact hn35
  have hn38s : s0 ≤ gS g37 := by rw [eg37]; exact hn35s
  refine b_aload_n C dX6_init_36 0 rfl rfl ?_
  refine b_bipush C (v := 24) dX6_init_37 (by decide) ?_
  obtain ⟨h39, hf⟩ := gd_s hf
  obtain ⟨h40, hf⟩ := gd_s hf
  obtain ⟨g41, eg41, hf⟩ := bd_s hf
  obtain ⟨d42, ed42, hf⟩ := bd_s hf
  obtain ⟨r43, er43, hf⟩ := bd_s hf
  refine b_newaI C dX6_init_39 ar_int hz hn38 hn38s h39 h1 h2 h40 eg41 ed42 (fun hn44 hn44s => ?_)
  refine b_topR er43 ?_
  obtain ⟨h45, hf⟩ := gd_s hf
  obtain ⟨g46, eg46, hf⟩ := bd_s hf
  refine b_pRC C dX6_init_41 fq_X6_25 fr6_8 hin h45 eg46 ?_
  have hn47 : n0 ≤ gN g46 := by rw [eg46]; exact hn44
  have hn47s : s0 ≤ gS g46 := by rw [eg46]; exact hn44s
  obtain ⟨h48, hf⟩ := gd_s hf
  exact b_vretC C hr hlocks h48 hf dX6_init_44
theorem kX6_init (l : Launch) (D : va_G) (cy : Nat → ClassId) (B : Bs) {N : Nat} {g : Gs} {x0 : Nat} {gz : Gs} {dz : Ds} {d : Ds} (hf : fX6_init N x0 g d = some (gz, dz)) : Met l yX6_init (.code yX6_init cX6_init 1 none :: wl) rmX6_init (PCC D cy B [.ref (ad B x0)] g d) (QV D cy B gz dz) 5 120 (wA B) :=
  met_ofC (by decide +kernel) (Nat.le_of_ble_eq_true rfl) (fun p e s m args below meth c C hr hlocks hin hz => b_sub [(0, .ref (ad B x0))] [0] rfl (tX6_init_E C hr hlocks hin hz (Nat.le_refl _) (Nat.le_refl _) hf))
/-! KeyMatrix$Queue.<init>()V -/
theorem oi_X4_3 : Cond.methodLink RX4 3 objectInit ∈ wl := mW (mT2 (List.mem_of_getElem? (i := 78) (by decide +kernel))) rfl
theorem inl4 : ∀ w ∈ u_ws RX4 TX4 3, w ∈ wl := by
  have h0 : u_ws RX4 TX4 3 = [Cond.laysFinal "KeyMatrix$Queue" "KeyMatrix$Queue" "events" "[I", Cond.lays "KeyMatrix$Queue" "KeyMatrix$Queue" "size" "I", Cond.lays "KeyMatrix$Queue" "KeyMatrix$Queue" "total" "I"] := by decide +kernel
  rw [h0]
  exact List.forall_mem_cons.mpr ⟨mW (mT2 (List.mem_of_getElem? (i := 85) (by decide +kernel))) rfl, List.forall_mem_cons.mpr ⟨mW (mT2 (List.mem_of_getElem? (i := 87) (by decide +kernel))) rfl, List.forall_mem_cons.mpr ⟨mW (mT2 (List.mem_of_getElem? (i := 89) (by decide +kernel))) rfl, fun _ h => absurd h List.not_mem_nil⟩⟩⟩
theorem fq_X4_11 : FLP RX4 11 4 0 := ⟨⟨RX4, TX4, 3, rfl, by decide, inl4, mW (mT2 (List.mem_of_getElem? (i := 79) (by decide +kernel))) rfl⟩, by decide, by decide +kernel⟩
theorem ft4 : FT 4 := ⟨RX4, TX4, 3, tyX4, rfl, tyX4_ok, nmX4⟩
theorem fr4_0 : FPR 4 0 RX4 := ⟨ft4, (RX4, TX4, 3), rfl, by decide +kernel, rfl, fun ty h a => by rw [tyX4_ok 0 (by decide)] at h; cases h; exact ⟨rfl, rfl⟩⟩
theorem dX4_init_0 : decode cX4_init 0 = .ok (.aload_n 0, 1) := by decide +kernel
theorem dX4_init_1 : decode cX4_init 1 = .ok (.invokespecial 3, 3) := by decide +kernel
theorem dX4_init_4 : decode cX4_init 4 = .ok (.aload_n 0, 1) := by decide +kernel
theorem dX4_init_5 : decode cX4_init 5 = .ok (.sipush 2400, 3) := by decide +kernel
theorem dX4_init_8 : decode cX4_init 8 = .ok (.newarray .int, 2) := by decide +kernel
theorem dX4_init_10 : decode cX4_init 10 = .ok (.putfield 11, 3) := by decide +kernel
theorem dX4_init_13 : decode cX4_init 13 = .ok (.return_, 1) := by decide +kernel
def rmX4_init : Room := { frames := 1, cells := 1, slots := 2400, locals := 20 }
set_option maxRecDepth 100000 in
def fX4_init_E (N : Nat) (x0 : Nat) (n0 s0 : Nat) (g : Gs) (d : Ds) : Option (Gs × Ds) := gd (¬ (2400 : Int32) < 0) <| gd ((2400 : Int32).toNatClampNeg ≤ 60000000) <| gd (gN g < 100000) <| gd (gN g + 1 - n0 ≤ 1 ∧ gS g + (2400 : Int32).toNatClampNeg - s0 ≤ 2400) <| bd (nG g 102 (2400 : Int32).toNatClampNeg (2400 : Int32).toNatClampNeg) fun g5 => (bd (nD g d) fun d6 => (bd (gN g) fun r7 => (gd (chk g5 x0 4) <| bd (sR g5 x0 0 r7) fun g10 => (gd (gN g10 = n0 + 1 ∧ gS g10 = s0 + 2400) <| some (g10, d6)))))
def fX4_init (N : Nat) (x0 : Nat) (g : Gs) (d : Ds) : Option (Gs × Ds) := fX4_init_E N x0 (gN g) (gS g) g d
set_option maxHeartbeats 4000000 in
set_option maxRecDepth 100000 in
theorem tX4_init_E {p : Program} {l : Launch} {e : Env} {s : State} {m : MethodId} {args : Array Value} {below : List Frame} {meth : Method} {c : Code} {D : va_G} {cy : Nat → ClassId} {B : Bs} (C : Cx p s m args c cX4_init 1 RX4 D cy B) (hr : meth.sig.returnType = none) (hlocks : meth.locks = false) (hin : meth.name = "<init>") {n0 s0 : Nat} (hz : s.heap.size = B.1 + n0) {N : Nat} {x0 : Nat} {gz : Gs} {dz : Ds} {g : Gs} {d : Ds} (hn : n0 ≤ gN g) (hs : s0 ≤ gS g) (hf : fX4_init_E N x0 n0 s0 g d = some (gz, dz)) : WB p l e rmX4_init s m args below meth c 1 D cy B (gN g - n0) (gS g - s0) (MQ below (QV D cy B gz dz) args s 1 2400 (wA B)) g d [(0, .ref (ad B x0))] 0 [] := by
  unfold fX4_init_E at hf
  refine b_aload_n C dX4_init_0 0 rfl rfl ?_
  refine b_objInit C oi_X4_3 oi_i oi_c (by decide) (by decide) dX4_init_1 ?_
  refine b_aload_n C dX4_init_4 0 rfl rfl ?_
  refine b_sipush C (v := 2400) dX4_init_5 (by decide) ?_
  obtain ⟨h1, hf⟩ := gd_s hf
  obtain ⟨h2, hf⟩ := gd_s hf
  obtain ⟨h3, hf⟩ := gd_s hf
  obtain ⟨h4, hf⟩ := gd_s hf
  obtain ⟨g5, eg5, hf⟩ := bd_s hf
  obtain ⟨d6, ed6, hf⟩ := bd_s hf
  obtain ⟨r7, er7, hf⟩ := bd_s hf
  refine b_newaI C dX4_init_8 ar_int hz hn hs h3 h1 h2 h4 eg5 ed6 (fun hn8 hn8s => ?_)
  refine b_topR er7 ?_
  obtain ⟨h9, hf⟩ := gd_s hf
  obtain ⟨g10, eg10, hf⟩ := bd_s hf
  refine b_pRC C dX4_init_10 fq_X4_11 fr4_0 hin h9 eg10 ?_
  have hn11 : n0 ≤ gN g10 := by rw [eg10]; exact hn8
  have hn11s : s0 ≤ gS g10 := by rw [eg10]; exact hn8s
  obtain ⟨h12, hf⟩ := gd_s hf
  exact b_vretC C hr hlocks h12 hf dX4_init_13
theorem kX4_init (l : Launch) (D : va_G) (cy : Nat → ClassId) (B : Bs) {N : Nat} {g : Gs} {x0 : Nat} {gz : Gs} {dz : Ds} {d : Ds} (hf : fX4_init N x0 g d = some (gz, dz)) : Met l yX4_init (.code yX4_init cX4_init 1 none :: wl) rmX4_init (PCC D cy B [.ref (ad B x0)] g d) (QV D cy B gz dz) 1 2400 (wA B) :=
  met_ofC (by decide +kernel) (Nat.le_of_ble_eq_true rfl) (fun p e s m args below meth c C hr hlocks hin hz => b_sub [(0, .ref (ad B x0))] [0] rfl (tX4_init_E C hr hlocks hin hz (Nat.le_refl _) (Nat.le_refl _) hf))
/-! KeyMatrix$Doing.<init>()V -/
theorem oi_X3_3 : Cond.methodLink RX3 3 objectInit ∈ wl := mW (mT2 (List.mem_of_getElem? (i := 97) (by decide +kernel))) rfl
theorem inl3 : ∀ w ∈ u_ws RX3 TX3 9, w ∈ wl := by
  have h0 : u_ws RX3 TX3 9 = [Cond.laysFinal "KeyMatrix$Doing" "KeyMatrix$Doing" "kind" "[I", Cond.laysFinal "KeyMatrix$Doing" "KeyMatrix$Doing" "which" "[I", Cond.laysFinal "KeyMatrix$Doing" "KeyMatrix$Doing" "partner" "[I", Cond.laysFinal "KeyMatrix$Doing" "KeyMatrix$Doing" "order" "[I", Cond.lays "KeyMatrix$Doing" "KeyMatrix$Doing" "busy" "I", Cond.lays "KeyMatrix$Doing" "KeyMatrix$Doing" "toggled" "I", Cond.lays "KeyMatrix$Doing" "KeyMatrix$Doing" "mods" "I", Cond.laysFinal "KeyMatrix$Doing" "KeyMatrix$Doing" "codes" "[I", Cond.lays "KeyMatrix$Doing" "KeyMatrix$Doing" "codeCount" "I"] := by decide +kernel
  rw [h0]
  exact List.forall_mem_cons.mpr ⟨mW (mT2 (List.mem_of_getElem? (i := 120) (by decide +kernel))) rfl, List.forall_mem_cons.mpr ⟨mW (mT2 (List.mem_of_getElem? (i := 122) (by decide +kernel))) rfl, List.forall_mem_cons.mpr ⟨mW (mT2 (List.mem_of_getElem? (i := 124) (by decide +kernel))) rfl, List.forall_mem_cons.mpr ⟨mW (mT2 (List.mem_of_getElem? (i := 126) (by decide +kernel))) rfl, List.forall_mem_cons.mpr ⟨mW (mT2 (List.mem_of_getElem? (i := 128) (by decide +kernel))) rfl, List.forall_mem_cons.mpr ⟨mW (mT2 (List.mem_of_getElem? (i := 130) (by decide +kernel))) rfl, List.forall_mem_cons.mpr ⟨mW (mT2 (List.mem_of_getElem? (i := 132) (by decide +kernel))) rfl, List.forall_mem_cons.mpr ⟨mW (mT2 (List.mem_of_getElem? (i := 134) (by decide +kernel))) rfl, List.forall_mem_cons.mpr ⟨mW (mT2 (List.mem_of_getElem? (i := 136) (by decide +kernel))) rfl, fun _ h => absurd h List.not_mem_nil⟩⟩⟩⟩⟩⟩⟩⟩⟩
theorem fq_X3_9 : FLP RX3 9 3 0 := ⟨⟨RX3, TX3, 9, rfl, by decide, inl3, mW (mT2 (List.mem_of_getElem? (i := 98) (by decide +kernel))) rfl⟩, by decide, by decide +kernel⟩
theorem ft3 : FT 3 := ⟨RX3, TX3, 9, tyX3, rfl, tyX3_ok, nmX3⟩
theorem fr3_0 : FPR 3 0 RX3 := ⟨ft3, (RX3, TX3, 9), rfl, by decide +kernel, rfl, fun ty h a => by rw [tyX3_ok 0 (by decide)] at h; cases h; exact ⟨rfl, rfl⟩⟩
theorem fq_X3_15 : FLP RX3 15 3 1 := ⟨⟨RX3, TX3, 9, rfl, by decide, inl3, mW (mT2 (List.mem_of_getElem? (i := 101) (by decide +kernel))) rfl⟩, by decide, by decide +kernel⟩
theorem fr3_1 : FPR 3 1 RX3 := ⟨ft3, (RX3, TX3, 9), rfl, by decide +kernel, rfl, fun ty h a => by rw [tyX3_ok 1 (by decide)] at h; cases h; exact ⟨rfl, rfl⟩⟩
theorem fq_X3_18 : FLP RX3 18 3 2 := ⟨⟨RX3, TX3, 9, rfl, by decide, inl3, mW (mT2 (List.mem_of_getElem? (i := 104) (by decide +kernel))) rfl⟩, by decide, by decide +kernel⟩
theorem fr3_2 : FPR 3 2 RX3 := ⟨ft3, (RX3, TX3, 9), rfl, by decide +kernel, rfl, fun ty h a => by rw [tyX3_ok 2 (by decide)] at h; cases h; exact ⟨rfl, rfl⟩⟩
theorem fq_X3_21 : FLP RX3 21 3 3 := ⟨⟨RX3, TX3, 9, rfl, by decide, inl3, mW (mT2 (List.mem_of_getElem? (i := 106) (by decide +kernel))) rfl⟩, by decide, by decide +kernel⟩
theorem fr3_3 : FPR 3 3 RX3 := ⟨ft3, (RX3, TX3, 9), rfl, by decide +kernel, rfl, fun ty h a => by rw [tyX3_ok 3 (by decide)] at h; cases h; exact ⟨rfl, rfl⟩⟩
theorem fq_X3_24 : FLP RX3 24 3 7 := ⟨⟨RX3, TX3, 9, rfl, by decide, inl3, mW (mT2 (List.mem_of_getElem? (i := 114) (by decide +kernel))) rfl⟩, by decide, by decide +kernel⟩
theorem fr3_7 : FPR 3 7 RX3 := ⟨ft3, (RX3, TX3, 9), rfl, by decide +kernel, rfl, fun ty h a => by rw [tyX3_ok 7 (by decide)] at h; cases h; exact ⟨rfl, rfl⟩⟩
theorem dX3_init_0 : decode cX3_init 0 = .ok (.aload_n 0, 1) := by decide +kernel
theorem dX3_init_1 : decode cX3_init 1 = .ok (.invokespecial 3, 3) := by decide +kernel
theorem dX3_init_4 : decode cX3_init 4 = .ok (.aload_n 0, 1) := by decide +kernel
theorem dX3_init_5 : decode cX3_init 5 = .ok (.bipush 24, 2) := by decide +kernel
theorem dX3_init_7 : decode cX3_init 7 = .ok (.newarray .int, 2) := by decide +kernel
theorem dX3_init_9 : decode cX3_init 9 = .ok (.putfield 9, 3) := by decide +kernel
theorem dX3_init_12 : decode cX3_init 12 = .ok (.aload_n 0, 1) := by decide +kernel
theorem dX3_init_13 : decode cX3_init 13 = .ok (.bipush 24, 2) := by decide +kernel
theorem dX3_init_15 : decode cX3_init 15 = .ok (.newarray .int, 2) := by decide +kernel
theorem dX3_init_17 : decode cX3_init 17 = .ok (.putfield 15, 3) := by decide +kernel
theorem dX3_init_20 : decode cX3_init 20 = .ok (.aload_n 0, 1) := by decide +kernel
theorem dX3_init_21 : decode cX3_init 21 = .ok (.bipush 24, 2) := by decide +kernel
theorem dX3_init_23 : decode cX3_init 23 = .ok (.newarray .int, 2) := by decide +kernel
theorem dX3_init_25 : decode cX3_init 25 = .ok (.putfield 18, 3) := by decide +kernel
theorem dX3_init_28 : decode cX3_init 28 = .ok (.aload_n 0, 1) := by decide +kernel
theorem dX3_init_29 : decode cX3_init 29 = .ok (.bipush 24, 2) := by decide +kernel
theorem dX3_init_31 : decode cX3_init 31 = .ok (.newarray .int, 2) := by decide +kernel
theorem dX3_init_33 : decode cX3_init 33 = .ok (.putfield 21, 3) := by decide +kernel
theorem dX3_init_36 : decode cX3_init 36 = .ok (.aload_n 0, 1) := by decide +kernel
theorem dX3_init_37 : decode cX3_init 37 = .ok (.bipush 25, 2) := by decide +kernel
theorem dX3_init_39 : decode cX3_init 39 = .ok (.newarray .int, 2) := by decide +kernel
theorem dX3_init_41 : decode cX3_init 41 = .ok (.putfield 24, 3) := by decide +kernel
theorem dX3_init_44 : decode cX3_init 44 = .ok (.return_, 1) := by decide +kernel
def rmX3_init : Room := { frames := 1, cells := 5, slots := 121, locals := 20 }
set_option maxRecDepth 100000 in
def fX3_init_E (N : Nat) (x0 : Nat) (n0 s0 : Nat) (g : Gs) (d : Ds) : Option (Gs × Ds) := gd (¬ (24 : Int32) < 0) <| gd ((24 : Int32).toNatClampNeg ≤ 60000000) <| gd (gN g < 100000) <| gd (gN g + 1 - n0 ≤ 5 ∧ gS g + (24 : Int32).toNatClampNeg - s0 ≤ 121) <| bd (nG g 102 (24 : Int32).toNatClampNeg (24 : Int32).toNatClampNeg) fun g5 => (bd (nD g d) fun d6 => (bd (gN g) fun r7 => (gd (chk g5 x0 3) <| bd (sR g5 x0 0 r7) fun g10 => (gd (gN g10 < 100000) <| gd (gN g10 + 1 - n0 ≤ 5 ∧ gS g10 + (24 : Int32).toNatClampNeg - s0 ≤ 121) <| bd (nG g10 102 (24 : Int32).toNatClampNeg (24 : Int32).toNatClampNeg) fun g14 => (bd (nD g10 d6) fun d15 => (bd (gN g10) fun r16 => (gd (chk g14 x0 3) <| bd (sR g14 x0 1 r16) fun g19 => (gd (gN g19 < 100000) <| gd (gN g19 + 1 - n0 ≤ 5 ∧ gS g19 + (24 : Int32).toNatClampNeg - s0 ≤ 121) <| bd (nG g19 102 (24 : Int32).toNatClampNeg (24 : Int32).toNatClampNeg) fun g23 => (bd (nD g19 d15) fun d24 => (bd (gN g19) fun r25 => (gd (chk g23 x0 3) <| bd (sR g23 x0 2 r25) fun g28 => (gd (gN g28 < 100000) <| gd (gN g28 + 1 - n0 ≤ 5 ∧ gS g28 + (24 : Int32).toNatClampNeg - s0 ≤ 121) <| bd (nG g28 102 (24 : Int32).toNatClampNeg (24 : Int32).toNatClampNeg) fun g32 => (bd (nD g28 d24) fun d33 => (bd (gN g28) fun r34 => (gd (chk g32 x0 3) <| bd (sR g32 x0 3 r34) fun g37 => (gd (¬ (25 : Int32) < 0) <| gd ((25 : Int32).toNatClampNeg ≤ 60000000) <| gd (gN g37 < 100000) <| gd (gN g37 + 1 - n0 ≤ 5 ∧ gS g37 + (25 : Int32).toNatClampNeg - s0 ≤ 121) <| bd (nG g37 102 (25 : Int32).toNatClampNeg (25 : Int32).toNatClampNeg) fun g43 => (bd (nD g37 d33) fun d44 => (bd (gN g37) fun r45 => (gd (chk g43 x0 3) <| bd (sR g43 x0 7 r45) fun g48 => (gd (gN g48 = n0 + 5 ∧ gS g48 = s0 + 121) <| some (g48, d44)))))))))))))))))))))
def fX3_init (N : Nat) (x0 : Nat) (g : Gs) (d : Ds) : Option (Gs × Ds) := fX3_init_E N x0 (gN g) (gS g) g d
set_option maxHeartbeats 4000000 in
set_option maxRecDepth 100000 in
theorem tX3_init_E {p : Program} {l : Launch} {e : Env} {s : State} {m : MethodId} {args : Array Value} {below : List Frame} {meth : Method} {c : Code} {D : va_G} {cy : Nat → ClassId} {B : Bs} (C : Cx p s m args c cX3_init 1 RX3 D cy B) (hr : meth.sig.returnType = none) (hlocks : meth.locks = false) (hin : meth.name = "<init>") {n0 s0 : Nat} (hz : s.heap.size = B.1 + n0) {N : Nat} {x0 : Nat} {gz : Gs} {dz : Ds} {g : Gs} {d : Ds} (hn : n0 ≤ gN g) (hs : s0 ≤ gS g) (hf : fX3_init_E N x0 n0 s0 g d = some (gz, dz)) : WB p l e rmX3_init s m args below meth c 1 D cy B (gN g - n0) (gS g - s0) (MQ below (QV D cy B gz dz) args s 5 121 (wA B)) g d [(0, .ref (ad B x0))] 0 [] := by
  unfold fX3_init_E at hf
  refine b_aload_n C dX3_init_0 0 rfl rfl ?_
  refine b_objInit C oi_X3_3 oi_i oi_c (by decide) (by decide) dX3_init_1 ?_
  refine b_aload_n C dX3_init_4 0 rfl rfl ?_
  refine b_bipush C (v := 24) dX3_init_5 (by decide) ?_
  obtain ⟨h1, hf⟩ := gd_s hf
  obtain ⟨h2, hf⟩ := gd_s hf
  obtain ⟨h3, hf⟩ := gd_s hf
  obtain ⟨h4, hf⟩ := gd_s hf
  obtain ⟨g5, eg5, hf⟩ := bd_s hf
  obtain ⟨d6, ed6, hf⟩ := bd_s hf
  obtain ⟨r7, er7, hf⟩ := bd_s hf
  refine b_newaI C dX3_init_7 ar_int hz hn hs h3 h1 h2 h4 eg5 ed6 (fun hn8 hn8s => ?_)
  refine b_topR er7 ?_
  obtain ⟨h9, hf⟩ := gd_s hf
  obtain ⟨g10, eg10, hf⟩ := bd_s hf
  refine b_pRC C dX3_init_9 fq_X3_9 fr3_0 hin h9 eg10 ?_
  have hn11 : n0 ≤ gN g10 := by rw [eg10]; exact hn8
  have hn11s : s0 ≤ gS g10 := by rw [eg10]; exact hn8s
  refine b_aload_n C dX3_init_12 0 rfl rfl ?_
  refine b_bipush C (v := 24) dX3_init_13 (by decide) ?_
  obtain ⟨h12, hf⟩ := gd_s hf
  obtain ⟨h13, hf⟩ := gd_s hf
  obtain ⟨g14, eg14, hf⟩ := bd_s hf
  obtain ⟨d15, ed15, hf⟩ := bd_s hf
  obtain ⟨r16, er16, hf⟩ := bd_s hf
  refine b_newaI C dX3_init_15 ar_int hz hn11 hn11s h12 h1 h2 h13 eg14 ed15 (fun hn17 hn17s => ?_)
  refine b_topR er16 ?_
  obtain ⟨h18, hf⟩ := gd_s hf
  obtain ⟨g19, eg19, hf⟩ := bd_s hf
  refine b_pRC C dX3_init_17 fq_X3_15 fr3_1 hin h18 eg19 ?_
  have hn20 : n0 ≤ gN g19 := by rw [eg19]; exact hn17
  have hn20s : s0 ≤ gS g19 := by rw [eg19]; exact hn17s
  refine b_aload_n C dX3_init_20 0 rfl rfl ?_
  refine b_bipush C (v := 24) dX3_init_21 (by decide) ?_
  obtain ⟨h21, hf⟩ := gd_s hf
  obtain ⟨h22, hf⟩ := gd_s hf
  obtain ⟨g23, eg23, hf⟩ := bd_s hf
  obtain ⟨d24, ed24, hf⟩ := bd_s hf
  obtain ⟨r25, er25, hf⟩ := bd_s hf
  refine b_newaI C dX3_init_23 ar_int hz hn20 hn20s h21 h1 h2 h22 eg23 ed24 (fun hn26 hn26s => ?_)
  refine b_topR er25 ?_
  obtain ⟨h27, hf⟩ := gd_s hf
  obtain ⟨g28, eg28, hf⟩ := bd_s hf
  refine b_pRC C dX3_init_25 fq_X3_18 fr3_2 hin h27 eg28 ?_
  have hn29 : n0 ≤ gN g28 := by rw [eg28]; exact hn26
  have hn29s : s0 ≤ gS g28 := by rw [eg28]; exact hn26s
  refine b_aload_n C dX3_init_28 0 rfl rfl ?_
  refine b_bipush C (v := 24) dX3_init_29 (by decide) ?_
  obtain ⟨h30, hf⟩ := gd_s hf
  obtain ⟨h31, hf⟩ := gd_s hf
  obtain ⟨g32, eg32, hf⟩ := bd_s hf
  obtain ⟨d33, ed33, hf⟩ := bd_s hf
  obtain ⟨r34, er34, hf⟩ := bd_s hf
  refine b_newaI C dX3_init_31 ar_int hz hn29 hn29s h30 h1 h2 h31 eg32 ed33 (fun hn35 hn35s => ?_)
  refine b_topR er34 ?_
  obtain ⟨h36, hf⟩ := gd_s hf
  obtain ⟨g37, eg37, hf⟩ := bd_s hf
  refine b_pRC C dX3_init_33 fq_X3_21 fr3_3 hin h36 eg37 ?_
  have hn38 : n0 ≤ gN g37 := by rw [eg37]; exact hn35
  have hn38s : s0 ≤ gS g37 := by rw [eg37]; exact hn35s
  refine b_aload_n C dX3_init_36 0 rfl rfl ?_
  refine b_bipush C (v := 25) dX3_init_37 (by decide) ?_
  obtain ⟨h39, hf⟩ := gd_s hf
  obtain ⟨h40, hf⟩ := gd_s hf
  obtain ⟨h41, hf⟩ := gd_s hf
  obtain ⟨h42, hf⟩ := gd_s hf
  obtain ⟨g43, eg43, hf⟩ := bd_s hf
  obtain ⟨d44, ed44, hf⟩ := bd_s hf
  obtain ⟨r45, er45, hf⟩ := bd_s hf
  refine b_newaI C dX3_init_39 ar_int hz hn38 hn38s h41 h39 h40 h42 eg43 ed44 (fun hn46 hn46s => ?_)
  refine b_topR er45 ?_
  obtain ⟨h47, hf⟩ := gd_s hf
  obtain ⟨g48, eg48, hf⟩ := bd_s hf
  refine b_pRC C dX3_init_41 fq_X3_24 fr3_7 hin h47 eg48 ?_
  have hn49 : n0 ≤ gN g48 := by rw [eg48]; exact hn46
  have hn49s : s0 ≤ gS g48 := by rw [eg48]; exact hn46s
  obtain ⟨h50, hf⟩ := gd_s hf
  exact b_vretC C hr hlocks h50 hf dX3_init_44
theorem kX3_init (l : Launch) (D : va_G) (cy : Nat → ClassId) (B : Bs) {N : Nat} {g : Gs} {x0 : Nat} {gz : Gs} {dz : Ds} {d : Ds} (hf : fX3_init N x0 g d = some (gz, dz)) : Met l yX3_init (.code yX3_init cX3_init 1 none :: wl) rmX3_init (PCC D cy B [.ref (ad B x0)] g d) (QV D cy B gz dz) 5 121 (wA B) :=
  met_ofC (by decide +kernel) (Nat.le_of_ble_eq_true rfl) (fun p e s m args below meth c C hr hlocks hin hz => b_sub [(0, .ref (ad B x0))] [0] rfl (tX3_init_E C hr hlocks hin hz (Nat.le_refl _) (Nat.le_refl _) hf))
/-! KeyMatrix$Reports.<init>()V -/
theorem oi_X5_3 : Cond.methodLink RX5 3 objectInit ∈ wl := mW (mT2 (List.mem_of_getElem? (i := 144) (by decide +kernel))) rfl
theorem inl5 : ∀ w ∈ u_ws RX5 TX5 9, w ∈ wl := by
  have h0 : u_ws RX5 TX5 9 = [Cond.laysFinal "KeyMatrix$Reports" "KeyMatrix$Reports" "ticks" "[I", Cond.laysFinal "KeyMatrix$Reports" "KeyMatrix$Reports" "mods" "[I", Cond.laysFinal "KeyMatrix$Reports" "KeyMatrix$Reports" "counts" "[I", Cond.laysFinal "KeyMatrix$Reports" "KeyMatrix$Reports" "codes" "[I", Cond.lays "KeyMatrix$Reports" "KeyMatrix$Reports" "total" "I", Cond.lays "KeyMatrix$Reports" "KeyMatrix$Reports" "latest" "I", Cond.lays "KeyMatrix$Reports" "KeyMatrix$Reports" "since" "I", Cond.lays "KeyMatrix$Reports" "KeyMatrix$Reports" "repeats" "I", Cond.lays "KeyMatrix$Reports" "KeyMatrix$Reports" "repeatsOfLatest" "I"] := by decide +kernel
  rw [h0]
  exact List.forall_mem_cons.mpr ⟨mW (mT2 (List.mem_of_getElem? (i := 162) (by decide +kernel))) rfl, List.forall_mem_cons.mpr ⟨mW (mT2 (List.mem_of_getElem? (i := 164) (by decide +kernel))) rfl, List.forall_mem_cons.mpr ⟨mW (mT2 (List.mem_of_getElem? (i := 166) (by decide +kernel))) rfl, List.forall_mem_cons.mpr ⟨mW (mT2 (List.mem_of_getElem? (i := 168) (by decide +kernel))) rfl, List.forall_mem_cons.mpr ⟨mW (mT2 (List.mem_of_getElem? (i := 170) (by decide +kernel))) rfl, List.forall_mem_cons.mpr ⟨mW (mT2 (List.mem_of_getElem? (i := 172) (by decide +kernel))) rfl, List.forall_mem_cons.mpr ⟨mW (mT2 (List.mem_of_getElem? (i := 174) (by decide +kernel))) rfl, List.forall_mem_cons.mpr ⟨mW (mT2 (List.mem_of_getElem? (i := 176) (by decide +kernel))) rfl, List.forall_mem_cons.mpr ⟨mW (mT2 (List.mem_of_getElem? (i := 178) (by decide +kernel))) rfl, fun _ h => absurd h List.not_mem_nil⟩⟩⟩⟩⟩⟩⟩⟩⟩
theorem fq_X5_11 : FLP RX5 11 5 0 := ⟨⟨RX5, TX5, 9, rfl, by decide, inl5, mW (mT2 (List.mem_of_getElem? (i := 145) (by decide +kernel))) rfl⟩, by decide, by decide +kernel⟩
theorem ft5 : FT 5 := ⟨RX5, TX5, 9, tyX5, rfl, tyX5_ok, nmX5⟩
theorem fr5_0 : FPR 5 0 RX5 := ⟨ft5, (RX5, TX5, 9), rfl, by decide +kernel, rfl, fun ty h a => by rw [tyX5_ok 0 (by decide)] at h; cases h; exact ⟨rfl, rfl⟩⟩
theorem fq_X5_15 : FLP RX5 15 5 1 := ⟨⟨RX5, TX5, 9, rfl, by decide, inl5, mW (mT2 (List.mem_of_getElem? (i := 147) (by decide +kernel))) rfl⟩, by decide, by decide +kernel⟩
theorem fr5_1 : FPR 5 1 RX5 := ⟨ft5, (RX5, TX5, 9), rfl, by decide +kernel, rfl, fun ty h a => by rw [tyX5_ok 1 (by decide)] at h; cases h; exact ⟨rfl, rfl⟩⟩
theorem fq_X5_18 : FLP RX5 18 5 2 := ⟨⟨RX5, TX5, 9, rfl, by decide, inl5, mW (mT2 (List.mem_of_getElem? (i := 149) (by decide +kernel))) rfl⟩, by decide, by decide +kernel⟩
theorem fr5_2 : FPR 5 2 RX5 := ⟨ft5, (RX5, TX5, 9), rfl, by decide +kernel, rfl, fun ty h a => by rw [tyX5_ok 2 (by decide)] at h; cases h; exact ⟨rfl, rfl⟩⟩
theorem fq_X5_23 : FLP RX5 23 5 3 := ⟨⟨RX5, TX5, 9, rfl, by decide, inl5, mW (mT2 (List.mem_of_getElem? (i := 151) (by decide +kernel))) rfl⟩, by decide, by decide +kernel⟩
theorem fr5_3 : FPR 5 3 RX5 := ⟨ft5, (RX5, TX5, 9), rfl, by decide +kernel, rfl, fun ty h a => by rw [tyX5_ok 3 (by decide)] at h; cases h; exact ⟨rfl, rfl⟩⟩
theorem dX5_init_0 : decode cX5_init 0 = .ok (.aload_n 0, 1) := by decide +kernel
theorem dX5_init_1 : decode cX5_init 1 = .ok (.invokespecial 3, 3) := by decide +kernel
theorem dX5_init_4 : decode cX5_init 4 = .ok (.aload_n 0, 1) := by decide +kernel
theorem dX5_init_5 : decode cX5_init 5 = .ok (.bipush 40, 2) := by decide +kernel
theorem dX5_init_7 : decode cX5_init 7 = .ok (.newarray .int, 2) := by decide +kernel
theorem dX5_init_9 : decode cX5_init 9 = .ok (.putfield 11, 3) := by decide +kernel
theorem dX5_init_12 : decode cX5_init 12 = .ok (.aload_n 0, 1) := by decide +kernel
theorem dX5_init_13 : decode cX5_init 13 = .ok (.bipush 40, 2) := by decide +kernel
theorem dX5_init_15 : decode cX5_init 15 = .ok (.newarray .int, 2) := by decide +kernel
theorem dX5_init_17 : decode cX5_init 17 = .ok (.putfield 15, 3) := by decide +kernel
theorem dX5_init_20 : decode cX5_init 20 = .ok (.aload_n 0, 1) := by decide +kernel
theorem dX5_init_21 : decode cX5_init 21 = .ok (.bipush 40, 2) := by decide +kernel
theorem dX5_init_23 : decode cX5_init 23 = .ok (.newarray .int, 2) := by decide +kernel
theorem dX5_init_25 : decode cX5_init 25 = .ok (.putfield 18, 3) := by decide +kernel
theorem dX5_init_28 : decode cX5_init 28 = .ok (.aload_n 0, 1) := by decide +kernel
theorem dX5_init_29 : decode cX5_init 29 = .ok (.sipush 1000, 3) := by decide +kernel
theorem dX5_init_32 : decode cX5_init 32 = .ok (.newarray .int, 2) := by decide +kernel
theorem dX5_init_34 : decode cX5_init 34 = .ok (.putfield 23, 3) := by decide +kernel
theorem dX5_init_37 : decode cX5_init 37 = .ok (.return_, 1) := by decide +kernel
def rmX5_init : Room := { frames := 1, cells := 4, slots := 1120, locals := 20 }
set_option maxRecDepth 100000 in
def fX5_init_E (N : Nat) (x0 : Nat) (n0 s0 : Nat) (g : Gs) (d : Ds) : Option (Gs × Ds) := gd (¬ (40 : Int32) < 0) <| gd ((40 : Int32).toNatClampNeg ≤ 60000000) <| gd (gN g < 100000) <| gd (gN g + 1 - n0 ≤ 4 ∧ gS g + (40 : Int32).toNatClampNeg - s0 ≤ 1120) <| bd (nG g 102 (40 : Int32).toNatClampNeg (40 : Int32).toNatClampNeg) fun g5 => (bd (nD g d) fun d6 => (bd (gN g) fun r7 => (gd (chk g5 x0 5) <| bd (sR g5 x0 0 r7) fun g10 => (gd (gN g10 < 100000) <| gd (gN g10 + 1 - n0 ≤ 4 ∧ gS g10 + (40 : Int32).toNatClampNeg - s0 ≤ 1120) <| bd (nG g10 102 (40 : Int32).toNatClampNeg (40 : Int32).toNatClampNeg) fun g14 => (bd (nD g10 d6) fun d15 => (bd (gN g10) fun r16 => (gd (chk g14 x0 5) <| bd (sR g14 x0 1 r16) fun g19 => (gd (gN g19 < 100000) <| gd (gN g19 + 1 - n0 ≤ 4 ∧ gS g19 + (40 : Int32).toNatClampNeg - s0 ≤ 1120) <| bd (nG g19 102 (40 : Int32).toNatClampNeg (40 : Int32).toNatClampNeg) fun g23 => (bd (nD g19 d15) fun d24 => (bd (gN g19) fun r25 => (gd (chk g23 x0 5) <| bd (sR g23 x0 2 r25) fun g28 => (gd (¬ (1000 : Int32) < 0) <| gd ((1000 : Int32).toNatClampNeg ≤ 60000000) <| gd (gN g28 < 100000) <| gd (gN g28 + 1 - n0 ≤ 4 ∧ gS g28 + (1000 : Int32).toNatClampNeg - s0 ≤ 1120) <| bd (nG g28 102 (1000 : Int32).toNatClampNeg (1000 : Int32).toNatClampNeg) fun g34 => (bd (nD g28 d24) fun d35 => (bd (gN g28) fun r36 => (gd (chk g34 x0 5) <| bd (sR g34 x0 3 r36) fun g39 => (gd (gN g39 = n0 + 4 ∧ gS g39 = s0 + 1120) <| some (g39, d35)))))))))))))))))
def fX5_init (N : Nat) (x0 : Nat) (g : Gs) (d : Ds) : Option (Gs × Ds) := fX5_init_E N x0 (gN g) (gS g) g d
set_option maxHeartbeats 4000000 in
set_option maxRecDepth 100000 in
theorem tX5_init_E {p : Program} {l : Launch} {e : Env} {s : State} {m : MethodId} {args : Array Value} {below : List Frame} {meth : Method} {c : Code} {D : va_G} {cy : Nat → ClassId} {B : Bs} (C : Cx p s m args c cX5_init 1 RX5 D cy B) (hr : meth.sig.returnType = none) (hlocks : meth.locks = false) (hin : meth.name = "<init>") {n0 s0 : Nat} (hz : s.heap.size = B.1 + n0) {N : Nat} {x0 : Nat} {gz : Gs} {dz : Ds} {g : Gs} {d : Ds} (hn : n0 ≤ gN g) (hs : s0 ≤ gS g) (hf : fX5_init_E N x0 n0 s0 g d = some (gz, dz)) : WB p l e rmX5_init s m args below meth c 1 D cy B (gN g - n0) (gS g - s0) (MQ below (QV D cy B gz dz) args s 4 1120 (wA B)) g d [(0, .ref (ad B x0))] 0 [] := by
  unfold fX5_init_E at hf
  refine b_aload_n C dX5_init_0 0 rfl rfl ?_
  refine b_objInit C oi_X5_3 oi_i oi_c (by decide) (by decide) dX5_init_1 ?_
  refine b_aload_n C dX5_init_4 0 rfl rfl ?_
  refine b_bipush C (v := 40) dX5_init_5 (by decide) ?_
  obtain ⟨h1, hf⟩ := gd_s hf
  obtain ⟨h2, hf⟩ := gd_s hf
  obtain ⟨h3, hf⟩ := gd_s hf
  obtain ⟨h4, hf⟩ := gd_s hf
  obtain ⟨g5, eg5, hf⟩ := bd_s hf
  obtain ⟨d6, ed6, hf⟩ := bd_s hf
  obtain ⟨r7, er7, hf⟩ := bd_s hf
  refine b_newaI C dX5_init_7 ar_int hz hn hs h3 h1 h2 h4 eg5 ed6 (fun hn8 hn8s => ?_)
  refine b_topR er7 ?_
  obtain ⟨h9, hf⟩ := gd_s hf
  obtain ⟨g10, eg10, hf⟩ := bd_s hf
  refine b_pRC C dX5_init_9 fq_X5_11 fr5_0 hin h9 eg10 ?_
  have hn11 : n0 ≤ gN g10 := by rw [eg10]; exact hn8
  have hn11s : s0 ≤ gS g10 := by rw [eg10]; exact hn8s
  refine b_aload_n C dX5_init_12 0 rfl rfl ?_
  refine b_bipush C (v := 40) dX5_init_13 (by decide) ?_
  obtain ⟨h12, hf⟩ := gd_s hf
  obtain ⟨h13, hf⟩ := gd_s hf
  obtain ⟨g14, eg14, hf⟩ := bd_s hf
  obtain ⟨d15, ed15, hf⟩ := bd_s hf
  obtain ⟨r16, er16, hf⟩ := bd_s hf
  refine b_newaI C dX5_init_15 ar_int hz hn11 hn11s h12 h1 h2 h13 eg14 ed15 (fun hn17 hn17s => ?_)
  refine b_topR er16 ?_
  obtain ⟨h18, hf⟩ := gd_s hf
  obtain ⟨g19, eg19, hf⟩ := bd_s hf
  refine b_pRC C dX5_init_17 fq_X5_15 fr5_1 hin h18 eg19 ?_
  have hn20 : n0 ≤ gN g19 := by rw [eg19]; exact hn17
  have hn20s : s0 ≤ gS g19 := by rw [eg19]; exact hn17s
  refine b_aload_n C dX5_init_20 0 rfl rfl ?_
  refine b_bipush C (v := 40) dX5_init_21 (by decide) ?_
  obtain ⟨h21, hf⟩ := gd_s hf
  obtain ⟨h22, hf⟩ := gd_s hf
  obtain ⟨g23, eg23, hf⟩ := bd_s hf
  obtain ⟨d24, ed24, hf⟩ := bd_s hf
  obtain ⟨r25, er25, hf⟩ := bd_s hf
  refine b_newaI C dX5_init_23 ar_int hz hn20 hn20s h21 h1 h2 h22 eg23 ed24 (fun hn26 hn26s => ?_)
  refine b_topR er25 ?_
  obtain ⟨h27, hf⟩ := gd_s hf
  obtain ⟨g28, eg28, hf⟩ := bd_s hf
  refine b_pRC C dX5_init_25 fq_X5_18 fr5_2 hin h27 eg28 ?_
  have hn29 : n0 ≤ gN g28 := by rw [eg28]; exact hn26
  have hn29s : s0 ≤ gS g28 := by rw [eg28]; exact hn26s
  refine b_aload_n C dX5_init_28 0 rfl rfl ?_
  refine b_sipush C (v := 1000) dX5_init_29 (by decide) ?_
  obtain ⟨h30, hf⟩ := gd_s hf
  obtain ⟨h31, hf⟩ := gd_s hf
  obtain ⟨h32, hf⟩ := gd_s hf
  obtain ⟨h33, hf⟩ := gd_s hf
  obtain ⟨g34, eg34, hf⟩ := bd_s hf
  obtain ⟨d35, ed35, hf⟩ := bd_s hf
  obtain ⟨r36, er36, hf⟩ := bd_s hf
  refine b_newaI C dX5_init_32 ar_int hz hn29 hn29s h32 h30 h31 h33 eg34 ed35 (fun hn37 hn37s => ?_)
  refine b_topR er36 ?_
  obtain ⟨h38, hf⟩ := gd_s hf
  obtain ⟨g39, eg39, hf⟩ := bd_s hf
  refine b_pRC C dX5_init_34 fq_X5_23 fr5_3 hin h38 eg39 ?_
  have hn40 : n0 ≤ gN g39 := by rw [eg39]; exact hn37
  have hn40s : s0 ≤ gS g39 := by rw [eg39]; exact hn37s
  obtain ⟨h41, hf⟩ := gd_s hf
  exact b_vretC C hr hlocks h41 hf dX5_init_37
theorem kX5_init (l : Launch) (D : va_G) (cy : Nat → ClassId) (B : Bs) {N : Nat} {g : Gs} {x0 : Nat} {gz : Gs} {dz : Ds} {d : Ds} (hf : fX5_init N x0 g d = some (gz, dz)) : Met l yX5_init (.code yX5_init cX5_init 1 none :: wl) rmX5_init (PCC D cy B [.ref (ad B x0)] g d) (QV D cy B gz dz) 4 1120 (wA B) :=
  met_ofC (by decide +kernel) (Nat.le_of_ble_eq_true rfl) (fun p e s m args below meth c C hr hlocks hin hz => b_sub [(0, .ref (ad B x0))] [0] rfl (tX5_init_E C hr hlocks hin hz (Nat.le_refl _) (Nat.le_refl _) hf))
/-! KeyMatrix$Scan.clear()V -/
theorem fl_X6_28 : FLI RX6 28 6 0 := ⟨⟨RX6, TX6, 9, rfl, by decide, inl6, Or.inl (mW (mT2 (List.mem_of_getElem? (i := 34) (by decide +kernel))) rfl)⟩, by decide, by decide +kernel⟩
theorem fp6_0 : FPI 6 0 := ⟨ft6, (RX6, TX6, 9), rfl, by decide +kernel, by decide +kernel⟩
theorem fl_X6_32 : FLI RX6 32 6 1 := ⟨⟨RX6, TX6, 9, rfl, by decide, inl6, Or.inl (mW (mT2 (List.mem_of_getElem? (i := 36) (by decide +kernel))) rfl)⟩, by decide, by decide +kernel⟩
theorem fp6_1 : FPI 6 1 := ⟨ft6, (RX6, TX6, 9), rfl, by decide +kernel, by decide +kernel⟩
theorem fl_X6_35 : FLI RX6 35 6 2 := ⟨⟨RX6, TX6, 9, rfl, by decide, inl6, Or.inl (mW (mT2 (List.mem_of_getElem? (i := 38) (by decide +kernel))) rfl)⟩, by decide, by decide +kernel⟩
theorem fp6_2 : FPI 6 2 := ⟨ft6, (RX6, TX6, 9), rfl, by decide +kernel, by decide +kernel⟩
theorem fl_X6_38 : FLI RX6 38 6 3 := ⟨⟨RX6, TX6, 9, rfl, by decide, inl6, Or.inl (mW (mT2 (List.mem_of_getElem? (i := 40) (by decide +kernel))) rfl)⟩, by decide, by decide +kernel⟩
theorem fp6_3 : FPI 6 3 := ⟨ft6, (RX6, TX6, 9), rfl, by decide +kernel, by decide +kernel⟩
theorem fl_X6_9 : FLR RX6 9 6 4 := ⟨⟨RX6, TX6, 9, rfl, by decide, inl6, Or.inl (mW (mT2 (List.mem_of_getElem? (i := 43) (by decide +kernel))) rfl)⟩, by decide, by decide +kernel⟩
theorem fl_X6_15 : FLR RX6 15 6 5 := ⟨⟨RX6, TX6, 9, rfl, by decide, inl6, Or.inl (mW (mT2 (List.mem_of_getElem? (i := 45) (by decide +kernel))) rfl)⟩, by decide, by decide +kernel⟩
theorem fl_X6_19 : FLR RX6 19 6 6 := ⟨⟨RX6, TX6, 9, rfl, by decide, inl6, Or.inl (mW (mT2 (List.mem_of_getElem? (i := 47) (by decide +kernel))) rfl)⟩, by decide, by decide +kernel⟩
theorem fl_X6_22 : FLR RX6 22 6 7 := ⟨⟨RX6, TX6, 9, rfl, by decide, inl6, Or.inl (mW (mT2 (List.mem_of_getElem? (i := 49) (by decide +kernel))) rfl)⟩, by decide, by decide +kernel⟩
theorem fl_X6_25 : FLR RX6 25 6 8 := ⟨⟨RX6, TX6, 9, rfl, by decide, inl6, Or.inl (mW (mT2 (List.mem_of_getElem? (i := 51) (by decide +kernel))) rfl)⟩, by decide, by decide +kernel⟩
theorem dX6_clear_0 : decode cX6_clear 0 = .ok (.aload_n 0, 1) := by decide +kernel
theorem dX6_clear_1 : decode cX6_clear 1 = .ok (.iconst 0, 1) := by decide +kernel
theorem dX6_clear_2 : decode cX6_clear 2 = .ok (.putfield 28, 3) := by decide +kernel
theorem dX6_clear_5 : decode cX6_clear 5 = .ok (.aload_n 0, 1) := by decide +kernel
theorem dX6_clear_6 : decode cX6_clear 6 = .ok (.iconst 0, 1) := by decide +kernel
theorem dX6_clear_7 : decode cX6_clear 7 = .ok (.putfield 32, 3) := by decide +kernel
theorem dX6_clear_10 : decode cX6_clear 10 = .ok (.aload_n 0, 1) := by decide +kernel
theorem dX6_clear_11 : decode cX6_clear 11 = .ok (.iconst 0, 1) := by decide +kernel
theorem dX6_clear_12 : decode cX6_clear 12 = .ok (.putfield 35, 3) := by decide +kernel
theorem dX6_clear_15 : decode cX6_clear 15 = .ok (.aload_n 0, 1) := by decide +kernel
theorem dX6_clear_16 : decode cX6_clear 16 = .ok (.iconst 0, 1) := by decide +kernel
theorem dX6_clear_17 : decode cX6_clear 17 = .ok (.putfield 38, 3) := by decide +kernel
theorem dX6_clear_20 : decode cX6_clear 20 = .ok (.iconst 0, 1) := by decide +kernel
theorem dX6_clear_21 : decode cX6_clear 21 = .ok (.istore_n 1, 1) := by decide +kernel
theorem dX6_clear_22 : decode cX6_clear 22 = .ok (.iload_n 1, 1) := by decide +kernel
theorem dX6_clear_23 : decode cX6_clear 23 = .ok (.bipush 24, 2) := by decide +kernel
theorem dX6_clear_25 : decode cX6_clear 25 = .ok (.if_icmp .ge 44, 3) := by decide +kernel
theorem dX6_clear_28 : decode cX6_clear 28 = .ok (.aload_n 0, 1) := by decide +kernel
theorem dX6_clear_29 : decode cX6_clear 29 = .ok (.getfield 9, 3) := by decide +kernel
theorem dX6_clear_32 : decode cX6_clear 32 = .ok (.iload_n 1, 1) := by decide +kernel
theorem dX6_clear_33 : decode cX6_clear 33 = .ok (.iconst 0, 1) := by decide +kernel
theorem dX6_clear_34 : decode cX6_clear 34 = .ok (.iastore, 1) := by decide +kernel
theorem dX6_clear_35 : decode cX6_clear 35 = .ok (.aload_n 0, 1) := by decide +kernel
theorem dX6_clear_36 : decode cX6_clear 36 = .ok (.getfield 15, 3) := by decide +kernel
theorem dX6_clear_39 : decode cX6_clear 39 = .ok (.iload_n 1, 1) := by decide +kernel
theorem dX6_clear_40 : decode cX6_clear 40 = .ok (.fconst 0, 1) := by decide +kernel
theorem dX6_clear_41 : decode cX6_clear 41 = .ok (.fastore, 1) := by decide +kernel
theorem dX6_clear_42 : decode cX6_clear 42 = .ok (.aload_n 0, 1) := by decide +kernel
theorem dX6_clear_43 : decode cX6_clear 43 = .ok (.getfield 19, 3) := by decide +kernel
theorem dX6_clear_46 : decode cX6_clear 46 = .ok (.iload_n 1, 1) := by decide +kernel
theorem dX6_clear_47 : decode cX6_clear 47 = .ok (.iconst 0, 1) := by decide +kernel
theorem dX6_clear_48 : decode cX6_clear 48 = .ok (.iastore, 1) := by decide +kernel
theorem dX6_clear_49 : decode cX6_clear 49 = .ok (.aload_n 0, 1) := by decide +kernel
theorem dX6_clear_50 : decode cX6_clear 50 = .ok (.getfield 22, 3) := by decide +kernel
theorem dX6_clear_53 : decode cX6_clear 53 = .ok (.iload_n 1, 1) := by decide +kernel
theorem dX6_clear_54 : decode cX6_clear 54 = .ok (.iconst 0, 1) := by decide +kernel
theorem dX6_clear_55 : decode cX6_clear 55 = .ok (.iastore, 1) := by decide +kernel
theorem dX6_clear_56 : decode cX6_clear 56 = .ok (.aload_n 0, 1) := by decide +kernel
theorem dX6_clear_57 : decode cX6_clear 57 = .ok (.getfield 25, 3) := by decide +kernel
theorem dX6_clear_60 : decode cX6_clear 60 = .ok (.iload_n 1, 1) := by decide +kernel
theorem dX6_clear_61 : decode cX6_clear 61 = .ok (.iconst (-1), 1) := by decide +kernel
theorem dX6_clear_62 : decode cX6_clear 62 = .ok (.iastore, 1) := by decide +kernel
theorem dX6_clear_63 : decode cX6_clear 63 = .ok (.iinc 1 1, 3) := by decide +kernel
theorem dX6_clear_66 : decode cX6_clear 66 = .ok (.goto (-44), 3) := by decide +kernel
theorem dX6_clear_69 : decode cX6_clear 69 = .ok (.return_, 1) := by decide +kernel
def rmX6_clear : Room := { frames := 0, cells := 0, slots := 0, locals := 0 }
set_option maxRecDepth 100000 in
def fX6_clear_B22 (N : Nat) (g : Gs) (x0 : Nat) (K22 : Int32 × Ds → Option (Unit × Ds)) (y1 : Int32) (d : Ds) : Option (Unit × Ds) := if (24 : Int32) ≤ y1 then (some ((), d)) else (gd (chk g x0 6) <| ob (gR g x0 4) fun r8 => (gd (chk g r8 102) <| gd (¬ (y1 < 0 ∨ gL g r8 ≤ y1.toNatClampNeg)) <| bd (sI d r8 y1.toNatClampNeg 0) fun d11 => (ob (gR g x0 5) fun r12 => (gd (chk g r12 101) <| gd (¬ (y1 < 0 ∨ gL g r12 ≤ y1.toNatClampNeg)) <| bd (sF d11 r12 y1.toNatClampNeg FP.fconst0) fun d15 => (ob (gR g x0 6) fun r16 => (gd (chk g r16 102) <| gd (¬ (y1 < 0 ∨ gL g r16 ≤ y1.toNatClampNeg)) <| bd (sI d15 r16 y1.toNatClampNeg 0) fun d19 => (ob (gR g x0 7) fun r20 => (gd (chk g r20 102) <| gd (¬ (y1 < 0 ∨ gL g r20 ≤ y1.toNatClampNeg)) <| bd (sI d19 r20 y1.toNatClampNeg 0) fun d23 => (ob (gR g x0 8) fun r24 => (gd (chk g r24 102) <| gd (¬ (y1 < 0 ∨ gL g r24 ≤ y1.toNatClampNeg)) <| bd (sI d23 r24 y1.toNatClampNeg (-1)) fun d27 => (bd (y1 + 1) fun u28 => (K22 (u28, d27)))))))))))))
set_option maxHeartbeats 4000000 in
set_option maxRecDepth 100000 in
theorem tX6_clear_22 {p : Program} {l : Launch} {e : Env} {s : State} {m : MethodId} {args : Array Value} {below : List Frame} {meth : Method} {c : Code} {D : va_G} {cy : Nat → ClassId} {B : Bs} (C : Cx p s m args c cX6_clear 2 RX6 D cy B) (hr : meth.sig.returnType = none) (hlocks : meth.locks = false) {N : Nat} {g : Gs} {x0 : Nat}  {dz : Ds} {K22 : Int32 × Ds → Option (Unit × Ds)} (hK22 : ∀ a, K22 a = some ((), dz) → WB p l e rmX6_clear s m args below meth c 2 D cy B 0 0 (MQ below (QV D cy B g dz) args s 0 0 (wA B)) g a.2 [(0, .ref (ad B x0)), (1, .int a.1)] 22 []) {y1 : Int32} {d : Ds} (hf : fX6_clear_B22 N g x0 K22 y1 d = some ((), dz)) : WB p l e rmX6_clear s m args below meth c 2 D cy B 0 0 (MQ below (QV D cy B g dz) args s 0 0 (wA B)) g d [(0, .ref (ad B x0)), (1, .int y1)] 22 [] := by
  unfold fX6_clear_B22 at hf
  refine b_iload_n C dX6_clear_22 1 rfl rfl ?_
  refine b_bipush C (v := 24) dX6_clear_23 (by decide) ?_
  refine b_icmp_ge C (tgt := 69) dX6_clear_25 (by decide) (fun c6 => ?_) (fun c6 => ?_)
  · have hf := it_s c6 hf
    exact b_vret C hr hlocks hf dX6_clear_69
  · have hf := if_s c6 hf
    refine b_aload_n C dX6_clear_28 0 rfl rfl ?_
    obtain ⟨h7, hf⟩ := gd_s hf
    obtain ⟨r8, er8, hf⟩ := ob_s hf
    refine b_gR C dX6_clear_29 fl_X6_9 h7 er8 ?_
    refine b_iload_n C dX6_clear_32 1 rfl rfl ?_
    refine b_iconst C (v := 0) dX6_clear_33 (by decide) ?_
    obtain ⟨h9, hf⟩ := gd_s hf
    obtain ⟨h10, hf⟩ := gd_s hf
    obtain ⟨d11, ed11, hf⟩ := bd_s hf
    refine b_iast C h9 h10 ed11 dX6_clear_34 ?_
    refine b_aload_n C dX6_clear_35 0 rfl rfl ?_
    obtain ⟨r12, er12, hf⟩ := ob_s hf
    refine b_gR C dX6_clear_36 fl_X6_15 h7 er12 ?_
    refine b_iload_n C dX6_clear_39 1 rfl rfl ?_
    refine b_fconst0 C dX6_clear_40 ?_
    obtain ⟨h13, hf⟩ := gd_s hf
    obtain ⟨h14, hf⟩ := gd_s hf
    obtain ⟨d15, ed15, hf⟩ := bd_s hf
    refine b_fast C h13 h14 ed15 dX6_clear_41 ?_
    refine b_aload_n C dX6_clear_42 0 rfl rfl ?_
    obtain ⟨r16, er16, hf⟩ := ob_s hf
    refine b_gR C dX6_clear_43 fl_X6_19 h7 er16 ?_
    refine b_iload_n C dX6_clear_46 1 rfl rfl ?_
    refine b_iconst C (v := 0) dX6_clear_47 (by decide) ?_
    obtain ⟨h17, hf⟩ := gd_s hf
    obtain ⟨h18, hf⟩ := gd_s hf
    obtain ⟨d19, ed19, hf⟩ := bd_s hf
    refine b_iast C h17 h18 ed19 dX6_clear_48 ?_
    refine b_aload_n C dX6_clear_49 0 rfl rfl ?_
    obtain ⟨r20, er20, hf⟩ := ob_s hf
    refine b_gR C dX6_clear_50 fl_X6_22 h7 er20 ?_
    refine b_iload_n C dX6_clear_53 1 rfl rfl ?_
    refine b_iconst C (v := 0) dX6_clear_54 (by decide) ?_
    obtain ⟨h21, hf⟩ := gd_s hf
    obtain ⟨h22, hf⟩ := gd_s hf
    obtain ⟨d23, ed23, hf⟩ := bd_s hf
    refine b_iast C h21 h22 ed23 dX6_clear_55 ?_
    refine b_aload_n C dX6_clear_56 0 rfl rfl ?_
    obtain ⟨r24, er24, hf⟩ := ob_s hf
    refine b_gR C dX6_clear_57 fl_X6_25 h7 er24 ?_
    refine b_iload_n C dX6_clear_60 1 rfl rfl ?_
    refine b_iconst C (v := (-1)) dX6_clear_61 (by decide) ?_
    obtain ⟨h25, hf⟩ := gd_s hf
    obtain ⟨h26, hf⟩ := gd_s hf
    obtain ⟨d27, ed27, hf⟩ := bd_s hf
    refine b_iast C h25 h26 ed27 dX6_clear_62 ?_
    obtain ⟨u28, eu28, hf⟩ := bd_s hf
    refine b_iinc C dX6_clear_63 1 rfl (by rw [eu28]; rfl) [(1, .int u28), (0, .ref (ad B x0))] (by decide) rfl ?_
    refine b_goto C (tgt := 22) dX6_clear_66 (by decide) ?_
    refine b_sub [(0, .ref (ad B x0)), (1, .int u28)] [1, 0] rfl ?_
    exact hK22 (u28, d27) hf
def fX6_clear_L22 (N : Nat) (g : Gs) (x0 : Nat) : Int32 × Ds → Option (Unit × Ds) := lp (fun K22 a => fX6_clear_B22 N g x0 K22 a.1 a.2) N
theorem tX6_clear_L22 {p : Program} {l : Launch} {e : Env} {s : State} {m : MethodId} {args : Array Value} {below : List Frame} {meth : Method} {c : Code} {D : va_G} {cy : Nat → ClassId} {B : Bs} (C : Cx p s m args c cX6_clear 2 RX6 D cy B) (hr : meth.sig.returnType = none) (hlocks : meth.locks = false) {N : Nat} {g : Gs} {x0 : Nat}  {dz : Ds} (a : Int32 × Ds) (hf : fX6_clear_L22 N g x0 a = some ((), dz)) : WB p l e rmX6_clear s m args below meth c 2 D cy B 0 0 (MQ below (QV D cy B g dz) args s 0 0 (wA B)) g a.2 [(0, .ref (ad B x0)), (1, .int a.1)] 22 [] :=
  lp_w (fun K22 hK22 a ha => tX6_clear_22 C hr hlocks hK22 ha) N a hf
set_option maxRecDepth 100000 in
def fX6_clear (N : Nat) (g : Gs) (x0 : Nat) (d : Ds) : Option (Unit × Ds) := gd (chk g x0 6) <| bd (sI d x0 0 0) fun d2 => (bd (sI d2 x0 1 0) fun d3 => (bd (sI d3 x0 2 0) fun d4 => (bd (sI d4 x0 3 0) fun d5 => (fX6_clear_L22 N g x0 (0, d5)))))
set_option maxHeartbeats 4000000 in
set_option maxRecDepth 100000 in
theorem tX6_clear_E {p : Program} {l : Launch} {e : Env} {s : State} {m : MethodId} {args : Array Value} {below : List Frame} {meth : Method} {c : Code} {D : va_G} {cy : Nat → ClassId} {B : Bs} (C : Cx p s m args c cX6_clear 2 RX6 D cy B) (hr : meth.sig.returnType = none) (hlocks : meth.locks = false) {N : Nat} {g : Gs} {x0 : Nat}  {dz : Ds} {d : Ds} (hf : fX6_clear N g x0 d = some ((), dz)) : WB p l e rmX6_clear s m args below meth c 2 D cy B 0 0 (MQ below (QV D cy B g dz) args s 0 0 (wA B)) g d [(0, .ref (ad B x0))] 0 [] := by
  unfold fX6_clear at hf
  refine b_aload_n C dX6_clear_0 0 rfl rfl ?_
  refine b_iconst C (v := 0) dX6_clear_1 (by decide) ?_
  obtain ⟨h1, hf⟩ := gd_s hf
  obtain ⟨d2, ed2, hf⟩ := bd_s hf
  refine b_pI C dX6_clear_2 fl_X6_28 fp6_0 h1 ed2 ?_
  refine b_aload_n C dX6_clear_5 0 rfl rfl ?_
  refine b_iconst C (v := 0) dX6_clear_6 (by decide) ?_
  obtain ⟨d3, ed3, hf⟩ := bd_s hf
  refine b_pI C dX6_clear_7 fl_X6_32 fp6_1 h1 ed3 ?_
  refine b_aload_n C dX6_clear_10 0 rfl rfl ?_
  refine b_iconst C (v := 0) dX6_clear_11 (by decide) ?_
  obtain ⟨d4, ed4, hf⟩ := bd_s hf
  refine b_pI C dX6_clear_12 fl_X6_35 fp6_2 h1 ed4 ?_
  refine b_aload_n C dX6_clear_15 0 rfl rfl ?_
  refine b_iconst C (v := 0) dX6_clear_16 (by decide) ?_
  obtain ⟨d5, ed5, hf⟩ := bd_s hf
  refine b_pI C dX6_clear_17 fl_X6_38 fp6_3 h1 ed5 ?_
  refine b_iconst C (v := 0) dX6_clear_20 (by decide) ?_
  refine b_istore_n C dX6_clear_21 rfl [(1, .int 0), (0, .ref (ad B x0))] (by decide) rfl ?_
  refine b_sub [(0, .ref (ad B x0)), (1, .int 0)] [1, 0] rfl ?_
  exact tX6_clear_L22 C hr hlocks (0, d5) hf
theorem kX6_clear (l : Launch) (D : va_G) (cy : Nat → ClassId) (B : Bs) {N : Nat} {g : Gs} {x0 : Nat}  {dz : Ds} {d : Ds} (hf : fX6_clear N g x0 d = some ((), dz)) : Met l yX6_clear (.code yX6_clear cX6_clear 2 none :: wl) rmX6_clear (PC D cy B [.ref (ad B x0)] g d) (QV D cy B g dz) 0 0 (wA B) :=
  met_of (by decide +kernel) (Nat.le_of_ble_eq_true rfl) (fun p e s m args below meth c C hr hlocks _ => b_sub [(0, .ref (ad B x0))] [0] rfl (tX6_clear_E C hr hlocks hf))
/-! KeyMatrix$Queue.clear()V -/
theorem fl_X4_15 : FLI RX4 15 4 1 := ⟨⟨RX4, TX4, 3, rfl, by decide, inl4, Or.inl (mW (mT2 (List.mem_of_getElem? (i := 80) (by decide +kernel))) rfl)⟩, by decide, by decide +kernel⟩
theorem fp4_1 : FPI 4 1 := ⟨ft4, (RX4, TX4, 3), rfl, by decide +kernel, by decide +kernel⟩
theorem fl_X4_19 : FLI RX4 19 4 2 := ⟨⟨RX4, TX4, 3, rfl, by decide, inl4, Or.inl (mW (mT2 (List.mem_of_getElem? (i := 83) (by decide +kernel))) rfl)⟩, by decide, by decide +kernel⟩
theorem fp4_2 : FPI 4 2 := ⟨ft4, (RX4, TX4, 3), rfl, by decide +kernel, by decide +kernel⟩
theorem dX4_clear_0 : decode cX4_clear 0 = .ok (.aload_n 0, 1) := by decide +kernel
theorem dX4_clear_1 : decode cX4_clear 1 = .ok (.iconst 0, 1) := by decide +kernel
theorem dX4_clear_2 : decode cX4_clear 2 = .ok (.putfield 15, 3) := by decide +kernel
theorem dX4_clear_5 : decode cX4_clear 5 = .ok (.aload_n 0, 1) := by decide +kernel
theorem dX4_clear_6 : decode cX4_clear 6 = .ok (.iconst 0, 1) := by decide +kernel
theorem dX4_clear_7 : decode cX4_clear 7 = .ok (.putfield 19, 3) := by decide +kernel
theorem dX4_clear_10 : decode cX4_clear 10 = .ok (.return_, 1) := by decide +kernel
def rmX4_clear : Room := { frames := 0, cells := 0, slots := 0, locals := 0 }
set_option maxRecDepth 100000 in
def fX4_clear (N : Nat) (g : Gs) (x0 : Nat) (d : Ds) : Option (Unit × Ds) := gd (chk g x0 4) <| bd (sI d x0 1 0) fun d2 => (bd (sI d2 x0 2 0) fun d3 => (some ((), d3)))
set_option maxHeartbeats 4000000 in
set_option maxRecDepth 100000 in
theorem tX4_clear_E {p : Program} {l : Launch} {e : Env} {s : State} {m : MethodId} {args : Array Value} {below : List Frame} {meth : Method} {c : Code} {D : va_G} {cy : Nat → ClassId} {B : Bs} (C : Cx p s m args c cX4_clear 1 RX4 D cy B) (hr : meth.sig.returnType = none) (hlocks : meth.locks = false) {N : Nat} {g : Gs} {x0 : Nat}  {dz : Ds} {d : Ds} (hf : fX4_clear N g x0 d = some ((), dz)) : WB p l e rmX4_clear s m args below meth c 1 D cy B 0 0 (MQ below (QV D cy B g dz) args s 0 0 (wA B)) g d [(0, .ref (ad B x0))] 0 [] := by
  unfold fX4_clear at hf
  refine b_aload_n C dX4_clear_0 0 rfl rfl ?_
  refine b_iconst C (v := 0) dX4_clear_1 (by decide) ?_
  obtain ⟨h1, hf⟩ := gd_s hf
  obtain ⟨d2, ed2, hf⟩ := bd_s hf
  refine b_pI C dX4_clear_2 fl_X4_15 fp4_1 h1 ed2 ?_
  refine b_aload_n C dX4_clear_5 0 rfl rfl ?_
  refine b_iconst C (v := 0) dX4_clear_6 (by decide) ?_
  obtain ⟨d3, ed3, hf⟩ := bd_s hf
  refine b_pI C dX4_clear_7 fl_X4_19 fp4_2 h1 ed3 ?_
  exact b_vret C hr hlocks hf dX4_clear_10
theorem kX4_clear (l : Launch) (D : va_G) (cy : Nat → ClassId) (B : Bs) {N : Nat} {g : Gs} {x0 : Nat}  {dz : Ds} {d : Ds} (hf : fX4_clear N g x0 d = some ((), dz)) : Met l yX4_clear (.code yX4_clear cX4_clear 1 none :: wl) rmX4_clear (PC D cy B [.ref (ad B x0)] g d) (QV D cy B g dz) 0 0 (wA B) :=
  met_of (by decide +kernel) (Nat.le_of_ble_eq_true rfl) (fun p e s m args below meth c C hr hlocks _ => b_sub [(0, .ref (ad B x0))] [0] rfl (tX4_clear_E C hr hlocks hf))
/-! KeyMatrix$Doing.clear()V -/
theorem fl_X3_27 : FLI RX3 27 3 4 := ⟨⟨RX3, TX3, 9, rfl, by decide, inl3, Or.inl (mW (mT2 (List.mem_of_getElem? (i := 107) (by decide +kernel))) rfl)⟩, by decide, by decide +kernel⟩
theorem fp3_4 : FPI 3 4 := ⟨ft3, (RX3, TX3, 9), rfl, by decide +kernel, by decide +kernel⟩
theorem fl_X3_31 : FLI RX3 31 3 5 := ⟨⟨RX3, TX3, 9, rfl, by decide, inl3, Or.inl (mW (mT2 (List.mem_of_getElem? (i := 108) (by decide +kernel))) rfl)⟩, by decide, by decide +kernel⟩
theorem fp3_5 : FPI 3 5 := ⟨ft3, (RX3, TX3, 9), rfl, by decide +kernel, by decide +kernel⟩
theorem fl_X3_9 : FLR RX3 9 3 0 := ⟨⟨RX3, TX3, 9, rfl, by decide, inl3, Or.inl (mW (mT2 (List.mem_of_getElem? (i := 98) (by decide +kernel))) rfl)⟩, by decide, by decide +kernel⟩
theorem fl_X3_15 : FLR RX3 15 3 1 := ⟨⟨RX3, TX3, 9, rfl, by decide, inl3, Or.inl (mW (mT2 (List.mem_of_getElem? (i := 101) (by decide +kernel))) rfl)⟩, by decide, by decide +kernel⟩
theorem fl_X3_18 : FLR RX3 18 3 2 := ⟨⟨RX3, TX3, 9, rfl, by decide, inl3, Or.inl (mW (mT2 (List.mem_of_getElem? (i := 104) (by decide +kernel))) rfl)⟩, by decide, by decide +kernel⟩
theorem dX3_clear_0 : decode cX3_clear 0 = .ok (.iconst 0, 1) := by decide +kernel
theorem dX3_clear_1 : decode cX3_clear 1 = .ok (.istore_n 1, 1) := by decide +kernel
theorem dX3_clear_2 : decode cX3_clear 2 = .ok (.iload_n 1, 1) := by decide +kernel
theorem dX3_clear_3 : decode cX3_clear 3 = .ok (.bipush 24, 2) := by decide +kernel
theorem dX3_clear_5 : decode cX3_clear 5 = .ok (.if_icmp .ge 30, 3) := by decide +kernel
theorem dX3_clear_8 : decode cX3_clear 8 = .ok (.aload_n 0, 1) := by decide +kernel
theorem dX3_clear_9 : decode cX3_clear 9 = .ok (.getfield 9, 3) := by decide +kernel
theorem dX3_clear_12 : decode cX3_clear 12 = .ok (.iload_n 1, 1) := by decide +kernel
theorem dX3_clear_13 : decode cX3_clear 13 = .ok (.iconst (-1), 1) := by decide +kernel
theorem dX3_clear_14 : decode cX3_clear 14 = .ok (.iastore, 1) := by decide +kernel
theorem dX3_clear_15 : decode cX3_clear 15 = .ok (.aload_n 0, 1) := by decide +kernel
theorem dX3_clear_16 : decode cX3_clear 16 = .ok (.getfield 15, 3) := by decide +kernel
theorem dX3_clear_19 : decode cX3_clear 19 = .ok (.iload_n 1, 1) := by decide +kernel
theorem dX3_clear_20 : decode cX3_clear 20 = .ok (.iconst (-1), 1) := by decide +kernel
theorem dX3_clear_21 : decode cX3_clear 21 = .ok (.iastore, 1) := by decide +kernel
theorem dX3_clear_22 : decode cX3_clear 22 = .ok (.aload_n 0, 1) := by decide +kernel
theorem dX3_clear_23 : decode cX3_clear 23 = .ok (.getfield 18, 3) := by decide +kernel
theorem dX3_clear_26 : decode cX3_clear 26 = .ok (.iload_n 1, 1) := by decide +kernel
theorem dX3_clear_27 : decode cX3_clear 27 = .ok (.iconst (-1), 1) := by decide +kernel
theorem dX3_clear_28 : decode cX3_clear 28 = .ok (.iastore, 1) := by decide +kernel
theorem dX3_clear_29 : decode cX3_clear 29 = .ok (.iinc 1 1, 3) := by decide +kernel
theorem dX3_clear_32 : decode cX3_clear 32 = .ok (.goto (-30), 3) := by decide +kernel
theorem dX3_clear_35 : decode cX3_clear 35 = .ok (.aload_n 0, 1) := by decide +kernel
theorem dX3_clear_36 : decode cX3_clear 36 = .ok (.iconst 0, 1) := by decide +kernel
theorem dX3_clear_37 : decode cX3_clear 37 = .ok (.putfield 27, 3) := by decide +kernel
theorem dX3_clear_40 : decode cX3_clear 40 = .ok (.aload_n 0, 1) := by decide +kernel
theorem dX3_clear_41 : decode cX3_clear 41 = .ok (.iconst 0, 1) := by decide +kernel
theorem dX3_clear_42 : decode cX3_clear 42 = .ok (.putfield 31, 3) := by decide +kernel
theorem dX3_clear_45 : decode cX3_clear 45 = .ok (.return_, 1) := by decide +kernel
def rmX3_clear : Room := { frames := 0, cells := 0, slots := 0, locals := 0 }
set_option maxRecDepth 100000 in
def fX3_clear_B2 (N : Nat) (g : Gs) (x0 : Nat) (K2 : Int32 × Ds → Option (Unit × Ds)) (y1 : Int32) (d : Ds) : Option (Unit × Ds) := if (24 : Int32) ≤ y1 then (gd (chk g x0 3) <| bd (sI d x0 4 0) fun d3 => (bd (sI d3 x0 5 0) fun d4 => (some ((), d4)))) else (gd (chk g x0 3) <| ob (gR g x0 0) fun r6 => (gd (chk g r6 102) <| gd (¬ (y1 < 0 ∨ gL g r6 ≤ y1.toNatClampNeg)) <| bd (sI d r6 y1.toNatClampNeg (-1)) fun d9 => (ob (gR g x0 1) fun r10 => (gd (chk g r10 102) <| gd (¬ (y1 < 0 ∨ gL g r10 ≤ y1.toNatClampNeg)) <| bd (sI d9 r10 y1.toNatClampNeg (-1)) fun d13 => (ob (gR g x0 2) fun r14 => (gd (chk g r14 102) <| gd (¬ (y1 < 0 ∨ gL g r14 ≤ y1.toNatClampNeg)) <| bd (sI d13 r14 y1.toNatClampNeg (-1)) fun d17 => (bd (y1 + 1) fun u18 => (K2 (u18, d17)))))))))
set_option maxHeartbeats 4000000 in
set_option maxRecDepth 100000 in
theorem tX3_clear_2 {p : Program} {l : Launch} {e : Env} {s : State} {m : MethodId} {args : Array Value} {below : List Frame} {meth : Method} {c : Code} {D : va_G} {cy : Nat → ClassId} {B : Bs} (C : Cx p s m args c cX3_clear 2 RX3 D cy B) (hr : meth.sig.returnType = none) (hlocks : meth.locks = false) {N : Nat} {g : Gs} {x0 : Nat}  {dz : Ds} {K2 : Int32 × Ds → Option (Unit × Ds)} (hK2 : ∀ a, K2 a = some ((), dz) → WB p l e rmX3_clear s m args below meth c 2 D cy B 0 0 (MQ below (QV D cy B g dz) args s 0 0 (wA B)) g a.2 [(0, .ref (ad B x0)), (1, .int a.1)] 2 []) {y1 : Int32} {d : Ds} (hf : fX3_clear_B2 N g x0 K2 y1 d = some ((), dz)) : WB p l e rmX3_clear s m args below meth c 2 D cy B 0 0 (MQ below (QV D cy B g dz) args s 0 0 (wA B)) g d [(0, .ref (ad B x0)), (1, .int y1)] 2 [] := by
  unfold fX3_clear_B2 at hf
  refine b_iload_n C dX3_clear_2 1 rfl rfl ?_
  refine b_bipush C (v := 24) dX3_clear_3 (by decide) ?_
  refine b_icmp_ge C (tgt := 35) dX3_clear_5 (by decide) (fun c1 => ?_) (fun c1 => ?_)
  · have hf := it_s c1 hf
    refine b_aload_n C dX3_clear_35 0 rfl rfl ?_
    refine b_iconst C (v := 0) dX3_clear_36 (by decide) ?_
    obtain ⟨h2, hf⟩ := gd_s hf
    obtain ⟨d3, ed3, hf⟩ := bd_s hf
    refine b_pI C dX3_clear_37 fl_X3_27 fp3_4 h2 ed3 ?_
    refine b_aload_n C dX3_clear_40 0 rfl rfl ?_
    refine b_iconst C (v := 0) dX3_clear_41 (by decide) ?_
    obtain ⟨d4, ed4, hf⟩ := bd_s hf
    refine b_pI C dX3_clear_42 fl_X3_31 fp3_5 h2 ed4 ?_
    exact b_vret C hr hlocks hf dX3_clear_45
  · have hf := if_s c1 hf
    refine b_aload_n C dX3_clear_8 0 rfl rfl ?_
    obtain ⟨h5, hf⟩ := gd_s hf
    obtain ⟨r6, er6, hf⟩ := ob_s hf
    refine b_gR C dX3_clear_9 fl_X3_9 h5 er6 ?_
    refine b_iload_n C dX3_clear_12 1 rfl rfl ?_
    refine b_iconst C (v := (-1)) dX3_clear_13 (by decide) ?_
    obtain ⟨h7, hf⟩ := gd_s hf
    obtain ⟨h8, hf⟩ := gd_s hf
    obtain ⟨d9, ed9, hf⟩ := bd_s hf
    refine b_iast C h7 h8 ed9 dX3_clear_14 ?_
    refine b_aload_n C dX3_clear_15 0 rfl rfl ?_
    obtain ⟨r10, er10, hf⟩ := ob_s hf
    refine b_gR C dX3_clear_16 fl_X3_15 h5 er10 ?_
    refine b_iload_n C dX3_clear_19 1 rfl rfl ?_
    refine b_iconst C (v := (-1)) dX3_clear_20 (by decide) ?_
    obtain ⟨h11, hf⟩ := gd_s hf
    obtain ⟨h12, hf⟩ := gd_s hf
    obtain ⟨d13, ed13, hf⟩ := bd_s hf
    refine b_iast C h11 h12 ed13 dX3_clear_21 ?_
    refine b_aload_n C dX3_clear_22 0 rfl rfl ?_
    obtain ⟨r14, er14, hf⟩ := ob_s hf
    refine b_gR C dX3_clear_23 fl_X3_18 h5 er14 ?_
    refine b_iload_n C dX3_clear_26 1 rfl rfl ?_
    refine b_iconst C (v := (-1)) dX3_clear_27 (by decide) ?_
    obtain ⟨h15, hf⟩ := gd_s hf
    obtain ⟨h16, hf⟩ := gd_s hf
    obtain ⟨d17, ed17, hf⟩ := bd_s hf
    refine b_iast C h15 h16 ed17 dX3_clear_28 ?_
    obtain ⟨u18, eu18, hf⟩ := bd_s hf
    refine b_iinc C dX3_clear_29 1 rfl (by rw [eu18]; rfl) [(1, .int u18), (0, .ref (ad B x0))] (by decide) rfl ?_
    refine b_goto C (tgt := 2) dX3_clear_32 (by decide) ?_
    refine b_sub [(0, .ref (ad B x0)), (1, .int u18)] [1, 0] rfl ?_
    exact hK2 (u18, d17) hf
def fX3_clear_L2 (N : Nat) (g : Gs) (x0 : Nat) : Int32 × Ds → Option (Unit × Ds) := lp (fun K2 a => fX3_clear_B2 N g x0 K2 a.1 a.2) N
theorem tX3_clear_L2 {p : Program} {l : Launch} {e : Env} {s : State} {m : MethodId} {args : Array Value} {below : List Frame} {meth : Method} {c : Code} {D : va_G} {cy : Nat → ClassId} {B : Bs} (C : Cx p s m args c cX3_clear 2 RX3 D cy B) (hr : meth.sig.returnType = none) (hlocks : meth.locks = false) {N : Nat} {g : Gs} {x0 : Nat}  {dz : Ds} (a : Int32 × Ds) (hf : fX3_clear_L2 N g x0 a = some ((), dz)) : WB p l e rmX3_clear s m args below meth c 2 D cy B 0 0 (MQ below (QV D cy B g dz) args s 0 0 (wA B)) g a.2 [(0, .ref (ad B x0)), (1, .int a.1)] 2 [] :=
  lp_w (fun K2 hK2 a ha => tX3_clear_2 C hr hlocks hK2 ha) N a hf
set_option maxRecDepth 100000 in
def fX3_clear (N : Nat) (g : Gs) (x0 : Nat) (d : Ds) : Option (Unit × Ds) := fX3_clear_L2 N g x0 (0, d)
set_option maxHeartbeats 4000000 in
set_option maxRecDepth 100000 in
theorem tX3_clear_E {p : Program} {l : Launch} {e : Env} {s : State} {m : MethodId} {args : Array Value} {below : List Frame} {meth : Method} {c : Code} {D : va_G} {cy : Nat → ClassId} {B : Bs} (C : Cx p s m args c cX3_clear 2 RX3 D cy B) (hr : meth.sig.returnType = none) (hlocks : meth.locks = false) {N : Nat} {g : Gs} {x0 : Nat}  {dz : Ds} {d : Ds} (hf : fX3_clear N g x0 d = some ((), dz)) : WB p l e rmX3_clear s m args below meth c 2 D cy B 0 0 (MQ below (QV D cy B g dz) args s 0 0 (wA B)) g d [(0, .ref (ad B x0))] 0 [] := by
  unfold fX3_clear at hf
  refine b_iconst C (v := 0) dX3_clear_0 (by decide) ?_
  refine b_istore_n C dX3_clear_1 rfl [(1, .int 0), (0, .ref (ad B x0))] (by decide) rfl ?_
  refine b_sub [(0, .ref (ad B x0)), (1, .int 0)] [1, 0] rfl ?_
  exact tX3_clear_L2 C hr hlocks (0, d) hf
theorem kX3_clear (l : Launch) (D : va_G) (cy : Nat → ClassId) (B : Bs) {N : Nat} {g : Gs} {x0 : Nat}  {dz : Ds} {d : Ds} (hf : fX3_clear N g x0 d = some ((), dz)) : Met l yX3_clear (.code yX3_clear cX3_clear 2 none :: wl) rmX3_clear (PC D cy B [.ref (ad B x0)] g d) (QV D cy B g dz) 0 0 (wA B) :=
  met_of (by decide +kernel) (Nat.le_of_ble_eq_true rfl) (fun p e s m args below meth c C hr hlocks _ => b_sub [(0, .ref (ad B x0))] [0] rfl (tX3_clear_E C hr hlocks hf))
/-! KeyMatrix$Reports.makeLatest(II)V -/
theorem fl_X5_43 : FLI RX5 43 5 5 := ⟨⟨RX5, TX5, 9, rfl, by decide, inl5, Or.inl (mW (mT2 (List.mem_of_getElem? (i := 154) (by decide +kernel))) rfl)⟩, by decide, by decide +kernel⟩
theorem fp5_5 : FPI 5 5 := ⟨ft5, (RX5, TX5, 9), rfl, by decide +kernel, by decide +kernel⟩
theorem fl_X5_46 : FLI RX5 46 5 6 := ⟨⟨RX5, TX5, 9, rfl, by decide, inl5, Or.inl (mW (mT2 (List.mem_of_getElem? (i := 156) (by decide +kernel))) rfl)⟩, by decide, by decide +kernel⟩
theorem fp5_6 : FPI 5 6 := ⟨ft5, (RX5, TX5, 9), rfl, by decide +kernel, by decide +kernel⟩
theorem fl_X5_49 : FLI RX5 49 5 8 := ⟨⟨RX5, TX5, 9, rfl, by decide, inl5, Or.inl (mW (mT2 (List.mem_of_getElem? (i := 160) (by decide +kernel))) rfl)⟩, by decide, by decide +kernel⟩
theorem fp5_8 : FPI 5 8 := ⟨ft5, (RX5, TX5, 9), rfl, by decide +kernel, by decide +kernel⟩
theorem dX5_makeLatest_0 : decode cX5_makeLatest 0 = .ok (.aload_n 0, 1) := by decide +kernel
theorem dX5_makeLatest_1 : decode cX5_makeLatest 1 = .ok (.iload_n 1, 1) := by decide +kernel
theorem dX5_makeLatest_2 : decode cX5_makeLatest 2 = .ok (.putfield 43, 3) := by decide +kernel
theorem dX5_makeLatest_5 : decode cX5_makeLatest 5 = .ok (.aload_n 0, 1) := by decide +kernel
theorem dX5_makeLatest_6 : decode cX5_makeLatest 6 = .ok (.iload_n 2, 1) := by decide +kernel
theorem dX5_makeLatest_7 : decode cX5_makeLatest 7 = .ok (.putfield 46, 3) := by decide +kernel
theorem dX5_makeLatest_10 : decode cX5_makeLatest 10 = .ok (.aload_n 0, 1) := by decide +kernel
theorem dX5_makeLatest_11 : decode cX5_makeLatest 11 = .ok (.iload_n 1, 1) := by decide +kernel
theorem dX5_makeLatest_12 : decode cX5_makeLatest 12 = .ok (.iconst (-1), 1) := by decide +kernel
theorem dX5_makeLatest_13 : decode cX5_makeLatest 13 = .ok (.if_icmp .ne 7, 3) := by decide +kernel
theorem dX5_makeLatest_16 : decode cX5_makeLatest 16 = .ok (.iconst (-1), 1) := by decide +kernel
theorem dX5_makeLatest_17 : decode cX5_makeLatest 17 = .ok (.goto 4, 3) := by decide +kernel
theorem dX5_makeLatest_20 : decode cX5_makeLatest 20 = .ok (.iconst 0, 1) := by decide +kernel
theorem dX5_makeLatest_21 : decode cX5_makeLatest 21 = .ok (.putfield 49, 3) := by decide +kernel
theorem dX5_makeLatest_24 : decode cX5_makeLatest 24 = .ok (.return_, 1) := by decide +kernel
def rmX5_makeLatest : Room := { frames := 0, cells := 0, slots := 0, locals := 0 }
set_option maxRecDepth 100000 in
def fX5_makeLatest_J21 (N : Nat) (g : Gs) (x0 : Nat) (x1 : Int32) (x2 : Int32) (z0 : Int32) (z1 : Nat) (d : Ds) : Option (Unit × Ds) := gd (chk g z1 5) <| bd (sI d z1 8 z0) fun d6 => (some ((), d6))
set_option maxHeartbeats 4000000 in
set_option maxRecDepth 100000 in
theorem tX5_makeLatest_21 {p : Program} {l : Launch} {e : Env} {s : State} {m : MethodId} {args : Array Value} {below : List Frame} {meth : Method} {c : Code} {D : va_G} {cy : Nat → ClassId} {B : Bs} (C : Cx p s m args c cX5_makeLatest 3 RX5 D cy B) (hr : meth.sig.returnType = none) (hlocks : meth.locks = false) {N : Nat} {g : Gs} {x0 : Nat} {x1 : Int32} {x2 : Int32}  {dz : Ds} {z0 : Int32} {z1 : Nat} {d : Ds} (hf : fX5_makeLatest_J21 N g x0 x1 x2 z0 z1 d = some ((), dz)) : WB p l e rmX5_makeLatest s m args below meth c 3 D cy B 0 0 (MQ below (QV D cy B g dz) args s 0 0 (wA B)) g d [(0, .ref (ad B x0)), (1, .int x1), (2, .int x2)] 21 [.int z0, .ref (ad B z1)] := by
  unfold fX5_makeLatest_J21 at hf
  obtain ⟨h5, hf⟩ := gd_s hf
  obtain ⟨d6, ed6, hf⟩ := bd_s hf
  refine b_pI C dX5_makeLatest_21 fl_X5_49 fp5_8 h5 ed6 ?_
  exact b_vret C hr hlocks hf dX5_makeLatest_24
set_option maxRecDepth 100000 in
def fX5_makeLatest (N : Nat) (g : Gs) (x0 : Nat) (x1 : Int32) (x2 : Int32) (d : Ds) : Option (Unit × Ds) := gd (chk g x0 5) <| bd (sI d x0 5 x1) fun d2 => (bd (sI d2 x0 6 x2) fun d3 => (if x1 = (-1 : Int32) then (fX5_makeLatest_J21 N g x0 x1 x2 (-1) x0 d3) else (fX5_makeLatest_J21 N g x0 x1 x2 0 x0 d3)))
set_option maxHeartbeats 4000000 in
set_option maxRecDepth 100000 in
theorem tX5_makeLatest_E {p : Program} {l : Launch} {e : Env} {s : State} {m : MethodId} {args : Array Value} {below : List Frame} {meth : Method} {c : Code} {D : va_G} {cy : Nat → ClassId} {B : Bs} (C : Cx p s m args c cX5_makeLatest 3 RX5 D cy B) (hr : meth.sig.returnType = none) (hlocks : meth.locks = false) {N : Nat} {g : Gs} {x0 : Nat} {x1 : Int32} {x2 : Int32}  {dz : Ds} {d : Ds} (hf : fX5_makeLatest N g x0 x1 x2 d = some ((), dz)) : WB p l e rmX5_makeLatest s m args below meth c 3 D cy B 0 0 (MQ below (QV D cy B g dz) args s 0 0 (wA B)) g d [(0, .ref (ad B x0)), (1, .int x1), (2, .int x2)] 0 [] := by
  unfold fX5_makeLatest at hf
  refine b_aload_n C dX5_makeLatest_0 0 rfl rfl ?_
  refine b_iload_n C dX5_makeLatest_1 1 rfl rfl ?_
  obtain ⟨h1, hf⟩ := gd_s hf
  obtain ⟨d2, ed2, hf⟩ := bd_s hf
  refine b_pI C dX5_makeLatest_2 fl_X5_43 fp5_5 h1 ed2 ?_
  refine b_aload_n C dX5_makeLatest_5 0 rfl rfl ?_
  refine b_iload_n C dX5_makeLatest_6 2 rfl rfl ?_
  obtain ⟨d3, ed3, hf⟩ := bd_s hf
  refine b_pI C dX5_makeLatest_7 fl_X5_46 fp5_6 h1 ed3 ?_
  refine b_aload_n C dX5_makeLatest_10 0 rfl rfl ?_
  refine b_iload_n C dX5_makeLatest_11 1 rfl rfl ?_
  refine b_iconst C (v := (-1)) dX5_makeLatest_12 (by decide) ?_
  refine b_icmp_ne C (tgt := 20) dX5_makeLatest_13 (by decide) (fun c4 => ?_) (fun c4 => ?_)
  · have hf := if_s c4 hf
    refine b_iconst C (v := 0) dX5_makeLatest_20 (by decide) ?_
    refine b_sub [(0, .ref (ad B x0)), (1, .int x1), (2, .int x2)] [0, 1, 2] rfl ?_
    exact tX5_makeLatest_21 C hr hlocks hf
  · have hf := it_s c4 hf
    refine b_iconst C (v := (-1)) dX5_makeLatest_16 (by decide) ?_
    refine b_goto C (tgt := 21) dX5_makeLatest_17 (by decide) ?_
    refine b_sub [(0, .ref (ad B x0)), (1, .int x1), (2, .int x2)] [0, 1, 2] rfl ?_
    exact tX5_makeLatest_21 C hr hlocks hf
theorem kX5_makeLatest (l : Launch) (D : va_G) (cy : Nat → ClassId) (B : Bs) {N : Nat} {g : Gs} {x0 : Nat} {x1 : Int32} {x2 : Int32}  {dz : Ds} {d : Ds} (hf : fX5_makeLatest N g x0 x1 x2 d = some ((), dz)) : Met l yX5_makeLatest (.code yX5_makeLatest cX5_makeLatest 3 none :: wl) rmX5_makeLatest (PC D cy B [.ref (ad B x0), .int x1, .int x2] g d) (QV D cy B g dz) 0 0 (wA B) :=
  met_of (by decide +kernel) (Nat.le_of_ble_eq_true rfl) (fun p e s m args below meth c C hr hlocks _ => b_sub [(0, .ref (ad B x0)), (1, .int x1), (2, .int x2)] [0, 1, 2] rfl (tX5_makeLatest_E C hr hlocks hf))
/-! KeyMatrix$Reports.clear()V -/
theorem fl_X5_26 : FLI RX5 26 5 4 := ⟨⟨RX5, TX5, 9, rfl, by decide, inl5, Or.inl (mW (mT2 (List.mem_of_getElem? (i := 152) (by decide +kernel))) rfl)⟩, by decide, by decide +kernel⟩
theorem fp5_4 : FPI 5 4 := ⟨ft5, (RX5, TX5, 9), rfl, by decide +kernel, by decide +kernel⟩
theorem fl_X5_30 : FLI RX5 30 5 7 := ⟨⟨RX5, TX5, 9, rfl, by decide, inl5, Or.inl (mW (mT2 (List.mem_of_getElem? (i := 158) (by decide +kernel))) rfl)⟩, by decide, by decide +kernel⟩
theorem fp5_7 : FPI 5 7 := ⟨ft5, (RX5, TX5, 9), rfl, by decide +kernel, by decide +kernel⟩
theorem yo_X5_makeLatest : yX5_makeLatest.cls ≠ "java/lang/invoke/MethodHandle" ∧ yX5_makeLatest.cls ≠ "java/lang/invoke/VarHandle" ∧ (parseMethodDescriptor yX5_makeLatest.desc).map (fun d => d.parameters.length) = some 2 := by decide +kernel
theorem co_X5_makeLatest : Cond.code yX5_makeLatest cX5_makeLatest 3 none ∈ wl := mW (mT2 (List.mem_of_getElem? (i := 204) (by decide +kernel))) rfl
theorem in_X5_makeLatest : Cond.initialized yX5_makeLatest.cls ∈ wl := mW (mT1 (List.mem_of_getElem? (i := 11) (by decide +kernel))) rfl
theorem im_X5_makeLatest : Cond.instanceMethod yX5_makeLatest ∈ wl := mW (mT2 (List.mem_of_getElem? (i := 203) (by decide +kernel))) rfl
theorem se_X5_makeLatest : Cond.selects yX5_makeLatest.cls yX5_makeLatest yX5_makeLatest ∈ wl := mW (mT0 (List.mem_of_getElem? (i := 0) (by decide +kernel))) rfl
theorem lv_X5_33 : LV RX5 33 yX5_makeLatest cX5_makeLatest 3 none 2 5 := ⟨⟨(RX5, TX5, 9), rfl, rfl⟩, yo_X5_makeLatest, mW (mT2 (List.mem_of_getElem? (i := 201) (by decide +kernel))) rfl, im_X5_makeLatest, se_X5_makeLatest, in_X5_makeLatest, co_X5_makeLatest⟩
theorem dX5_clear_0 : decode cX5_clear 0 = .ok (.aload_n 0, 1) := by decide +kernel
theorem dX5_clear_1 : decode cX5_clear 1 = .ok (.iconst 0, 1) := by decide +kernel
theorem dX5_clear_2 : decode cX5_clear 2 = .ok (.putfield 26, 3) := by decide +kernel
theorem dX5_clear_5 : decode cX5_clear 5 = .ok (.aload_n 0, 1) := by decide +kernel
theorem dX5_clear_6 : decode cX5_clear 6 = .ok (.iconst 0, 1) := by decide +kernel
theorem dX5_clear_7 : decode cX5_clear 7 = .ok (.putfield 30, 3) := by decide +kernel
theorem dX5_clear_10 : decode cX5_clear 10 = .ok (.aload_n 0, 1) := by decide +kernel
theorem dX5_clear_11 : decode cX5_clear 11 = .ok (.iconst (-1), 1) := by decide +kernel
theorem dX5_clear_12 : decode cX5_clear 12 = .ok (.iconst (-1), 1) := by decide +kernel
theorem dX5_clear_13 : decode cX5_clear 13 = .ok (.invokevirtual 33, 3) := by decide +kernel
theorem dX5_clear_16 : decode cX5_clear 16 = .ok (.return_, 1) := by decide +kernel
def rmX5_clear : Room := { frames := 1, cells := 0, slots := 0, locals := 22 }
set_option maxRecDepth 100000 in
def fX5_clear (N : Nat) (g : Gs) (x0 : Nat) (d : Ds) : Option (Unit × Ds) := gd (chk g x0 5) <| bd (sI d x0 4 0) fun d2 => (bd (sI d2 x0 7 0) fun d3 => (cv (fX5_makeLatest N g x0 (-1) (-1) d3) fun d4 => (some ((), d4))))
set_option maxHeartbeats 4000000 in
set_option maxRecDepth 100000 in
theorem tX5_clear_E {p : Program} {l : Launch} {e : Env} {s : State} {m : MethodId} {args : Array Value} {below : List Frame} {meth : Method} {c : Code} {D : va_G} {cy : Nat → ClassId} {B : Bs} (C : Cx p s m args c cX5_clear 1 RX5 D cy B) (hr : meth.sig.returnType = none) (hlocks : meth.locks = false) {N : Nat} {g : Gs} {x0 : Nat}  {dz : Ds} {d : Ds} (hf : fX5_clear N g x0 d = some ((), dz)) : WB p l e rmX5_clear s m args below meth c 1 D cy B 0 0 (MQ below (QV D cy B g dz) args s 0 0 (wA B)) g d [(0, .ref (ad B x0))] 0 [] := by
  unfold fX5_clear at hf
  refine b_aload_n C dX5_clear_0 0 rfl rfl ?_
  refine b_iconst C (v := 0) dX5_clear_1 (by decide) ?_
  obtain ⟨h1, hf⟩ := gd_s hf
  obtain ⟨d2, ed2, hf⟩ := bd_s hf
  refine b_pI C dX5_clear_2 fl_X5_26 fp5_4 h1 ed2 ?_
  refine b_aload_n C dX5_clear_5 0 rfl rfl ?_
  refine b_iconst C (v := 0) dX5_clear_6 (by decide) ?_
  obtain ⟨d3, ed3, hf⟩ := bd_s hf
  refine b_pI C dX5_clear_7 fl_X5_30 fp5_7 h1 ed3 ?_
  refine b_aload_n C dX5_clear_10 0 rfl rfl ?_
  refine b_iconst C (v := (-1)) dX5_clear_11 (by decide) ?_
  refine b_iconst C (v := (-1)) dX5_clear_12 (by decide) ?_
  obtain ⟨d4, k5, hf⟩ := cv_s hf
  refine b_cVN C [] dX5_clear_13 (kX5_makeLatest l D cy B k5) lv_X5_33 ⟨rfl, rfl, Nat.le_of_ble_eq_true rfl, Nat.le_of_ble_eq_true rfl⟩ h1 (by decide) rfl (Nat.le_of_ble_eq_true rfl) ⟨Nat.zero_le _, Nat.zero_le _⟩ rfl ?_
  exact b_vret C hr hlocks hf dX5_clear_16
theorem kX5_clear (l : Launch) (D : va_G) (cy : Nat → ClassId) (B : Bs) {N : Nat} {g : Gs} {x0 : Nat}  {dz : Ds} {d : Ds} (hf : fX5_clear N g x0 d = some ((), dz)) : Met l yX5_clear (.code yX5_clear cX5_clear 1 none :: wl) rmX5_clear (PC D cy B [.ref (ad B x0)] g d) (QV D cy B g dz) 0 0 (wA B) :=
  met_of (by decide +kernel) (Nat.le_of_ble_eq_true rfl) (fun p e s m args below meth c C hr hlocks _ => b_sub [(0, .ref (ad B x0))] [0] rfl (tX5_clear_E C hr hlocks hf))
/-! KeyMatrix$Course.clear()V -/
theorem inl1 : ∀ w ∈ u_ws RX1 TX1 6, w ∈ wl := by
  have h0 : u_ws RX1 TX1 6 = [Cond.laysFinal "KeyMatrix$Course" "KeyMatrix$Course" "board" "LKeyMatrix$Board;", Cond.laysFinal "KeyMatrix$Course" "KeyMatrix$Course" "scan" "LKeyMatrix$Scan;", Cond.laysFinal "KeyMatrix$Course" "KeyMatrix$Course" "queue" "LKeyMatrix$Queue;", Cond.laysFinal "KeyMatrix$Course" "KeyMatrix$Course" "doing" "LKeyMatrix$Doing;", Cond.laysFinal "KeyMatrix$Course" "KeyMatrix$Course" "reports" "LKeyMatrix$Reports;", Cond.lays "KeyMatrix$Course" "KeyMatrix$Course" "now" "I"] := by decide +kernel
  rw [h0]
  exact List.forall_mem_cons.mpr ⟨mW (mT2 (List.mem_of_getElem? (i := 216) (by decide +kernel))) rfl, List.forall_mem_cons.mpr ⟨mW (mT2 (List.mem_of_getElem? (i := 218) (by decide +kernel))) rfl, List.forall_mem_cons.mpr ⟨mW (mT2 (List.mem_of_getElem? (i := 220) (by decide +kernel))) rfl, List.forall_mem_cons.mpr ⟨mW (mT2 (List.mem_of_getElem? (i := 222) (by decide +kernel))) rfl, List.forall_mem_cons.mpr ⟨mW (mT2 (List.mem_of_getElem? (i := 224) (by decide +kernel))) rfl, List.forall_mem_cons.mpr ⟨mW (mT2 (List.mem_of_getElem? (i := 226) (by decide +kernel))) rfl, fun _ h => absurd h List.not_mem_nil⟩⟩⟩⟩⟩⟩
theorem fl_X1_46 : FLI RX1 46 1 5 := ⟨⟨RX1, TX1, 6, rfl, by decide, inl1, Or.inl (mW (mT2 (List.mem_of_getElem? (i := 214) (by decide +kernel))) rfl)⟩, by decide, by decide +kernel⟩
theorem ft1 : FT 1 := ⟨RX1, TX1, 6, tyX1, rfl, tyX1_ok, nmX1⟩
theorem fp1_5 : FPI 1 5 := ⟨ft1, (RX1, TX1, 6), rfl, by decide +kernel, by decide +kernel⟩
theorem fl_X1_12 : FLR RX1 12 1 1 := ⟨⟨RX1, TX1, 6, rfl, by decide, inl1, Or.inl (mW (mT2 (List.mem_of_getElem? (i := 206) (by decide +kernel))) rfl)⟩, by decide, by decide +kernel⟩
theorem yo_X6_clear : yX6_clear.cls ≠ "java/lang/invoke/MethodHandle" ∧ yX6_clear.cls ≠ "java/lang/invoke/VarHandle" ∧ (parseMethodDescriptor yX6_clear.desc).map (fun d => d.parameters.length) = some 0 := by decide +kernel
theorem co_X6_clear : Cond.code yX6_clear cX6_clear 2 none ∈ wl := mW (mT2 (List.mem_of_getElem? (i := 188) (by decide +kernel))) rfl
theorem in_X6_clear : Cond.initialized yX6_clear.cls ∈ wl := mW (mT1 (List.mem_of_getElem? (i := 8) (by decide +kernel))) rfl
theorem im_X6_clear : Cond.instanceMethod yX6_clear ∈ wl := mW (mT2 (List.mem_of_getElem? (i := 186) (by decide +kernel))) rfl
theorem se_X6_clear : Cond.selects yX6_clear.cls yX6_clear yX6_clear ∈ wl := mW (mT2 (List.mem_of_getElem? (i := 187) (by decide +kernel))) rfl
theorem lv_X1_50 : LV RX1 50 yX6_clear cX6_clear 2 none 0 6 := ⟨⟨(RX6, TX6, 9), rfl, rfl⟩, yo_X6_clear, mW (mT2 (List.mem_of_getElem? (i := 185) (by decide +kernel))) rfl, im_X6_clear, se_X6_clear, in_X6_clear, co_X6_clear⟩
theorem fl_X1_21 : FLR RX1 21 1 2 := ⟨⟨RX1, TX1, 6, rfl, by decide, inl1, Or.inl (mW (mT2 (List.mem_of_getElem? (i := 208) (by decide +kernel))) rfl)⟩, by decide, by decide +kernel⟩
theorem yo_X4_clear : yX4_clear.cls ≠ "java/lang/invoke/MethodHandle" ∧ yX4_clear.cls ≠ "java/lang/invoke/VarHandle" ∧ (parseMethodDescriptor yX4_clear.desc).map (fun d => d.parameters.length) = some 0 := by decide +kernel
theorem co_X4_clear : Cond.code yX4_clear cX4_clear 1 none ∈ wl := mW (mT2 (List.mem_of_getElem? (i := 192) (by decide +kernel))) rfl
theorem in_X4_clear : Cond.initialized yX4_clear.cls ∈ wl := mW (mT1 (List.mem_of_getElem? (i := 9) (by decide +kernel))) rfl
theorem im_X4_clear : Cond.instanceMethod yX4_clear ∈ wl := mW (mT2 (List.mem_of_getElem? (i := 190) (by decide +kernel))) rfl
theorem se_X4_clear : Cond.selects yX4_clear.cls yX4_clear yX4_clear ∈ wl := mW (mT2 (List.mem_of_getElem? (i := 191) (by decide +kernel))) rfl
theorem lv_X1_51 : LV RX1 51 yX4_clear cX4_clear 1 none 0 4 := ⟨⟨(RX4, TX4, 3), rfl, rfl⟩, yo_X4_clear, mW (mT2 (List.mem_of_getElem? (i := 189) (by decide +kernel))) rfl, im_X4_clear, se_X4_clear, in_X4_clear, co_X4_clear⟩
theorem fl_X1_28 : FLR RX1 28 1 3 := ⟨⟨RX1, TX1, 6, rfl, by decide, inl1, Or.inl (mW (mT2 (List.mem_of_getElem? (i := 210) (by decide +kernel))) rfl)⟩, by decide, by decide +kernel⟩
theorem yo_X3_clear : yX3_clear.cls ≠ "java/lang/invoke/MethodHandle" ∧ yX3_clear.cls ≠ "java/lang/invoke/VarHandle" ∧ (parseMethodDescriptor yX3_clear.desc).map (fun d => d.parameters.length) = some 0 := by decide +kernel
theorem co_X3_clear : Cond.code yX3_clear cX3_clear 2 none ∈ wl := mW (mT2 (List.mem_of_getElem? (i := 196) (by decide +kernel))) rfl
theorem in_X3_clear : Cond.initialized yX3_clear.cls ∈ wl := mW (mT1 (List.mem_of_getElem? (i := 10) (by decide +kernel))) rfl
theorem im_X3_clear : Cond.instanceMethod yX3_clear ∈ wl := mW (mT2 (List.mem_of_getElem? (i := 194) (by decide +kernel))) rfl
theorem se_X3_clear : Cond.selects yX3_clear.cls yX3_clear yX3_clear ∈ wl := mW (mT2 (List.mem_of_getElem? (i := 195) (by decide +kernel))) rfl
theorem lv_X1_52 : LV RX1 52 yX3_clear cX3_clear 2 none 0 3 := ⟨⟨(RX3, TX3, 9), rfl, rfl⟩, yo_X3_clear, mW (mT2 (List.mem_of_getElem? (i := 193) (by decide +kernel))) rfl, im_X3_clear, se_X3_clear, in_X3_clear, co_X3_clear⟩
theorem fl_X1_35 : FLR RX1 35 1 4 := ⟨⟨RX1, TX1, 6, rfl, by decide, inl1, Or.inl (mW (mT2 (List.mem_of_getElem? (i := 212) (by decide +kernel))) rfl)⟩, by decide, by decide +kernel⟩
theorem yo_X5_clear : yX5_clear.cls ≠ "java/lang/invoke/MethodHandle" ∧ yX5_clear.cls ≠ "java/lang/invoke/VarHandle" ∧ (parseMethodDescriptor yX5_clear.desc).map (fun d => d.parameters.length) = some 0 := by decide +kernel
theorem co_X5_clear : Cond.code yX5_clear cX5_clear 1 none ∈ wl := mW (mT2 (List.mem_of_getElem? (i := 200) (by decide +kernel))) rfl
theorem in_X5_clear : Cond.initialized yX5_clear.cls ∈ wl := mW (mT1 (List.mem_of_getElem? (i := 11) (by decide +kernel))) rfl
theorem im_X5_clear : Cond.instanceMethod yX5_clear ∈ wl := mW (mT2 (List.mem_of_getElem? (i := 198) (by decide +kernel))) rfl
theorem se_X5_clear : Cond.selects yX5_clear.cls yX5_clear yX5_clear ∈ wl := mW (mT2 (List.mem_of_getElem? (i := 199) (by decide +kernel))) rfl
theorem lv_X1_53 : LV RX1 53 yX5_clear cX5_clear 1 none 0 5 := ⟨⟨(RX5, TX5, 9), rfl, rfl⟩, yo_X5_clear, mW (mT2 (List.mem_of_getElem? (i := 197) (by decide +kernel))) rfl, im_X5_clear, se_X5_clear, in_X5_clear, co_X5_clear⟩
theorem dX1_clear_0 : decode cX1_clear 0 = .ok (.aload_n 0, 1) := by decide +kernel
theorem dX1_clear_1 : decode cX1_clear 1 = .ok (.iconst 0, 1) := by decide +kernel
theorem dX1_clear_2 : decode cX1_clear 2 = .ok (.putfield 46, 3) := by decide +kernel
theorem dX1_clear_5 : decode cX1_clear 5 = .ok (.aload_n 0, 1) := by decide +kernel
theorem dX1_clear_6 : decode cX1_clear 6 = .ok (.getfield 12, 3) := by decide +kernel
theorem dX1_clear_9 : decode cX1_clear 9 = .ok (.invokevirtual 50, 3) := by decide +kernel
theorem dX1_clear_12 : decode cX1_clear 12 = .ok (.aload_n 0, 1) := by decide +kernel
theorem dX1_clear_13 : decode cX1_clear 13 = .ok (.getfield 21, 3) := by decide +kernel
theorem dX1_clear_16 : decode cX1_clear 16 = .ok (.invokevirtual 51, 3) := by decide +kernel
theorem dX1_clear_19 : decode cX1_clear 19 = .ok (.aload_n 0, 1) := by decide +kernel
theorem dX1_clear_20 : decode cX1_clear 20 = .ok (.getfield 28, 3) := by decide +kernel
theorem dX1_clear_23 : decode cX1_clear 23 = .ok (.invokevirtual 52, 3) := by decide +kernel
theorem dX1_clear_26 : decode cX1_clear 26 = .ok (.aload_n 0, 1) := by decide +kernel
theorem dX1_clear_27 : decode cX1_clear 27 = .ok (.getfield 35, 3) := by decide +kernel
theorem dX1_clear_30 : decode cX1_clear 30 = .ok (.invokevirtual 53, 3) := by decide +kernel
theorem dX1_clear_33 : decode cX1_clear 33 = .ok (.return_, 1) := by decide +kernel
def rmX1_clear : Room := { frames := 2, cells := 0, slots := 0, locals := 42 }
set_option maxRecDepth 100000 in
def fX1_clear (N : Nat) (g : Gs) (x0 : Nat) (d : Ds) : Option (Unit × Ds) := gd (chk g x0 1) <| bd (sI d x0 5 0) fun d2 => (ob (gR g x0 1) fun r3 => (gd (chk g r3 6) <| cv (fX6_clear N g r3 d2) fun d5 => (ob (gR g x0 2) fun r7 => (gd (chk g r7 4) <| cv (fX4_clear N g r7 d5) fun d9 => (ob (gR g x0 3) fun r11 => (gd (chk g r11 3) <| cv (fX3_clear N g r11 d9) fun d13 => (ob (gR g x0 4) fun r15 => (gd (chk g r15 5) <| cv (fX5_clear N g r15 d13) fun d17 => (some ((), d17))))))))))
set_option maxHeartbeats 4000000 in
set_option maxRecDepth 100000 in
theorem tX1_clear_E {p : Program} {l : Launch} {e : Env} {s : State} {m : MethodId} {args : Array Value} {below : List Frame} {meth : Method} {c : Code} {D : va_G} {cy : Nat → ClassId} {B : Bs} (C : Cx p s m args c cX1_clear 1 RX1 D cy B) (hr : meth.sig.returnType = none) (hlocks : meth.locks = false) {N : Nat} {g : Gs} {x0 : Nat}  {dz : Ds} {d : Ds} (hf : fX1_clear N g x0 d = some ((), dz)) : WB p l e rmX1_clear s m args below meth c 1 D cy B 0 0 (MQ below (QV D cy B g dz) args s 0 0 (wA B)) g d [(0, .ref (ad B x0))] 0 [] := by
  unfold fX1_clear at hf
  refine b_aload_n C dX1_clear_0 0 rfl rfl ?_
  refine b_iconst C (v := 0) dX1_clear_1 (by decide) ?_
  obtain ⟨h1, hf⟩ := gd_s hf
  obtain ⟨d2, ed2, hf⟩ := bd_s hf
  refine b_pI C dX1_clear_2 fl_X1_46 fp1_5 h1 ed2 ?_
  refine b_aload_n C dX1_clear_5 0 rfl rfl ?_
  obtain ⟨r3, er3, hf⟩ := ob_s hf
  refine b_gR C dX1_clear_6 fl_X1_12 h1 er3 ?_
  obtain ⟨h4, hf⟩ := gd_s hf
  obtain ⟨d5, k6, hf⟩ := cv_s hf
  refine b_cVN C [] dX1_clear_9 (kX6_clear l D cy B k6) lv_X1_50 ⟨rfl, rfl, Nat.le_of_ble_eq_true rfl, Nat.le_of_ble_eq_true rfl⟩ h4 (by decide) rfl (Nat.le_of_ble_eq_true rfl) ⟨Nat.zero_le _, Nat.zero_le _⟩ rfl ?_
  refine b_aload_n C dX1_clear_12 0 rfl rfl ?_
  obtain ⟨r7, er7, hf⟩ := ob_s hf
  refine b_gR C dX1_clear_13 fl_X1_21 h1 er7 ?_
  obtain ⟨h8, hf⟩ := gd_s hf
  obtain ⟨d9, k10, hf⟩ := cv_s hf
  refine b_cVN C [] dX1_clear_16 (kX4_clear l D cy B k10) lv_X1_51 ⟨rfl, rfl, Nat.le_of_ble_eq_true rfl, Nat.le_of_ble_eq_true rfl⟩ h8 (by decide) rfl (Nat.le_of_ble_eq_true rfl) ⟨Nat.zero_le _, Nat.zero_le _⟩ rfl ?_
  refine b_aload_n C dX1_clear_19 0 rfl rfl ?_
  obtain ⟨r11, er11, hf⟩ := ob_s hf
  refine b_gR C dX1_clear_20 fl_X1_28 h1 er11 ?_
  obtain ⟨h12, hf⟩ := gd_s hf
  obtain ⟨d13, k14, hf⟩ := cv_s hf
  refine b_cVN C [] dX1_clear_23 (kX3_clear l D cy B k14) lv_X1_52 ⟨rfl, rfl, Nat.le_of_ble_eq_true rfl, Nat.le_of_ble_eq_true rfl⟩ h12 (by decide) rfl (Nat.le_of_ble_eq_true rfl) ⟨Nat.zero_le _, Nat.zero_le _⟩ rfl ?_
  refine b_aload_n C dX1_clear_26 0 rfl rfl ?_
  obtain ⟨r15, er15, hf⟩ := ob_s hf
  refine b_gR C dX1_clear_27 fl_X1_35 h1 er15 ?_
  obtain ⟨h16, hf⟩ := gd_s hf
  obtain ⟨d17, k18, hf⟩ := cv_s hf
  refine b_cVN C [] dX1_clear_30 (kX5_clear l D cy B k18) lv_X1_53 ⟨rfl, rfl, Nat.le_of_ble_eq_true rfl, Nat.le_of_ble_eq_true rfl⟩ h16 (by decide) rfl (Nat.le_of_ble_eq_true rfl) ⟨Nat.zero_le _, Nat.zero_le _⟩ rfl ?_
  exact b_vret C hr hlocks hf dX1_clear_33
theorem kX1_clear (l : Launch) (D : va_G) (cy : Nat → ClassId) (B : Bs) {N : Nat} {g : Gs} {x0 : Nat}  {dz : Ds} {d : Ds} (hf : fX1_clear N g x0 d = some ((), dz)) : Met l yX1_clear (.code yX1_clear cX1_clear 1 none :: wl) rmX1_clear (PC D cy B [.ref (ad B x0)] g d) (QV D cy B g dz) 0 0 (wA B) :=
  met_of (by decide +kernel) (Nat.le_of_ble_eq_true rfl) (fun p e s m args below meth c C hr hlocks _ => b_sub [(0, .ref (ad B x0))] [0] rfl (tX1_clear_E C hr hlocks hf))
/-! KeyMatrix$Course.<init>(LKeyMatrix$Board;)V -/
theorem oi_X1_3 : Cond.methodLink RX1 3 objectInit ∈ wl := mW (mT2 (List.mem_of_getElem? (i := 27) (by decide +kernel))) rfl
theorem df6 : ∀ j, j < 9 → defaultValue (tyX6 j) = if fR 6 j then .null else .int 0 := by
  intro j hj
  rcases (show j = 0 ∨ j = 1 ∨ j = 2 ∨ j = 3 ∨ j = 4 ∨ j = 5 ∨ j = 6 ∨ j = 7 ∨ j = 8 by omega) with rfl | rfl | rfl | rfl | rfl | rfl | rfl | rfl | rfl
  · rw [show fR 6 0 = false by decide +kernel]; rfl
  · rw [show fR 6 1 = false by decide +kernel]; rfl
  · rw [show fR 6 2 = false by decide +kernel]; rfl
  · rw [show fR 6 3 = false by decide +kernel]; rfl
  · rw [show fR 6 4 = true by decide +kernel]; rfl
  · rw [show fR 6 5 = true by decide +kernel]; rfl
  · rw [show fR 6 6 = true by decide +kernel]; rfl
  · rw [show fR 6 7 = true by decide +kernel]; rfl
  · rw [show fR 6 8 = true by decide +kernel]; rfl
theorem ic6 : Cond.instantiable RX6 9 ∈ wl := mW (mT2 (List.mem_of_getElem? (i := 29) (by decide +kernel))) rfl
theorem ii6 : Cond.initialized RX6 ∈ wl := mW (mT1 (List.mem_of_getElem? (i := 8) (by decide +kernel))) rfl
theorem nw_X1_9 : FNW RX1 9 6 9 := ⟨RX6, TX6, tyX6, rfl, by decide, inl6, tyX6_ok, mW (mT2 (List.mem_of_getElem? (i := 28) (by decide +kernel))) rfl, ic6, ii6, df6⟩
theorem yo_X6_init : yX6_init.cls ≠ "java/lang/invoke/MethodHandle" ∧ yX6_init.cls ≠ "java/lang/invoke/VarHandle" ∧ (parseMethodDescriptor yX6_init.desc).map (fun d => d.parameters.length) = some 0 := by decide +kernel
theorem co_X6_init : Cond.code yX6_init cX6_init 1 none ∈ wl := mW (mT2 (List.mem_of_getElem? (i := 32) (by decide +kernel))) rfl
theorem in_X6_init : Cond.initialized yX6_init.cls ∈ wl := mW (mT1 (List.mem_of_getElem? (i := 8) (by decide +kernel))) rfl
theorem im_X6_init : Cond.instanceMethod yX6_init ∈ wl := mW (mT2 (List.mem_of_getElem? (i := 31) (by decide +kernel))) rfl
theorem lv_X1_11 : LCo RX1 11 yX6_init cX6_init 1 0 := ⟨rfl, yo_X6_init, Or.inr (mT2 (List.mem_of_getElem? (i := 30) (by decide +kernel))), im_X6_init, in_X6_init, co_X6_init⟩
theorem fq_X1_12 : FLP RX1 12 1 1 := ⟨⟨RX1, TX1, 6, rfl, by decide, inl1, mW (mT2 (List.mem_of_getElem? (i := 206) (by decide +kernel))) rfl⟩, by decide, by decide +kernel⟩
theorem fr1_1 : FPR 1 1 RX1 := ⟨ft1, (RX1, TX1, 6), rfl, by decide +kernel, rfl, fun ty h a => by rw [tyX1_ok 1 (by decide)] at h; cases h; exact ⟨rfl, rfl⟩⟩
theorem df4 : ∀ j, j < 3 → defaultValue (tyX4 j) = if fR 4 j then .null else .int 0 := by
  intro j hj
  rcases (show j = 0 ∨ j = 1 ∨ j = 2 by omega) with rfl | rfl | rfl
  · rw [show fR 4 0 = true by decide +kernel]; rfl
  · rw [show fR 4 1 = false by decide +kernel]; rfl
  · rw [show fR 4 2 = false by decide +kernel]; rfl
theorem ic4 : Cond.instantiable RX4 3 ∈ wl := mW (mT2 (List.mem_of_getElem? (i := 74) (by decide +kernel))) rfl
theorem ii4 : Cond.initialized RX4 ∈ wl := mW (mT1 (List.mem_of_getElem? (i := 9) (by decide +kernel))) rfl
theorem nw_X1_18 : FNW RX1 18 4 3 := ⟨RX4, TX4, tyX4, rfl, by decide, inl4, tyX4_ok, mW (mT2 (List.mem_of_getElem? (i := 73) (by decide +kernel))) rfl, ic4, ii4, df4⟩
theorem yo_X4_init : yX4_init.cls ≠ "java/lang/invoke/MethodHandle" ∧ yX4_init.cls ≠ "java/lang/invoke/VarHandle" ∧ (parseMethodDescriptor yX4_init.desc).map (fun d => d.parameters.length) = some 0 := by decide +kernel
theorem co_X4_init : Cond.code yX4_init cX4_init 1 none ∈ wl := mW (mT2 (List.mem_of_getElem? (i := 77) (by decide +kernel))) rfl
theorem in_X4_init : Cond.initialized yX4_init.cls ∈ wl := mW (mT1 (List.mem_of_getElem? (i := 9) (by decide +kernel))) rfl
theorem im_X4_init : Cond.instanceMethod yX4_init ∈ wl := mW (mT2 (List.mem_of_getElem? (i := 76) (by decide +kernel))) rfl
theorem lv_X1_20 : LCo RX1 20 yX4_init cX4_init 1 0 := ⟨rfl, yo_X4_init, Or.inr (mT2 (List.mem_of_getElem? (i := 75) (by decide +kernel))), im_X4_init, in_X4_init, co_X4_init⟩
theorem fq_X1_21 : FLP RX1 21 1 2 := ⟨⟨RX1, TX1, 6, rfl, by decide, inl1, mW (mT2 (List.mem_of_getElem? (i := 208) (by decide +kernel))) rfl⟩, by decide, by decide +kernel⟩
theorem fr1_2 : FPR 1 2 RX1 := ⟨ft1, (RX1, TX1, 6), rfl, by decide +kernel, rfl, fun ty h a => by rw [tyX1_ok 2 (by decide)] at h; cases h; exact ⟨rfl, rfl⟩⟩
theorem df3 : ∀ j, j < 9 → defaultValue (tyX3 j) = if fR 3 j then .null else .int 0 := by
  intro j hj
  rcases (show j = 0 ∨ j = 1 ∨ j = 2 ∨ j = 3 ∨ j = 4 ∨ j = 5 ∨ j = 6 ∨ j = 7 ∨ j = 8 by omega) with rfl | rfl | rfl | rfl | rfl | rfl | rfl | rfl | rfl
  · rw [show fR 3 0 = true by decide +kernel]; rfl
  · rw [show fR 3 1 = true by decide +kernel]; rfl
  · rw [show fR 3 2 = true by decide +kernel]; rfl
  · rw [show fR 3 3 = true by decide +kernel]; rfl
  · rw [show fR 3 4 = false by decide +kernel]; rfl
  · rw [show fR 3 5 = false by decide +kernel]; rfl
  · rw [show fR 3 6 = false by decide +kernel]; rfl
  · rw [show fR 3 7 = true by decide +kernel]; rfl
  · rw [show fR 3 8 = false by decide +kernel]; rfl
theorem ic3 : Cond.instantiable RX3 9 ∈ wl := mW (mT2 (List.mem_of_getElem? (i := 93) (by decide +kernel))) rfl
theorem ii3 : Cond.initialized RX3 ∈ wl := mW (mT1 (List.mem_of_getElem? (i := 10) (by decide +kernel))) rfl
theorem nw_X1_25 : FNW RX1 25 3 9 := ⟨RX3, TX3, tyX3, rfl, by decide, inl3, tyX3_ok, mW (mT2 (List.mem_of_getElem? (i := 92) (by decide +kernel))) rfl, ic3, ii3, df3⟩
theorem yo_X3_init : yX3_init.cls ≠ "java/lang/invoke/MethodHandle" ∧ yX3_init.cls ≠ "java/lang/invoke/VarHandle" ∧ (parseMethodDescriptor yX3_init.desc).map (fun d => d.parameters.length) = some 0 := by decide +kernel
theorem co_X3_init : Cond.code yX3_init cX3_init 1 none ∈ wl := mW (mT2 (List.mem_of_getElem? (i := 96) (by decide +kernel))) rfl
theorem in_X3_init : Cond.initialized yX3_init.cls ∈ wl := mW (mT1 (List.mem_of_getElem? (i := 10) (by decide +kernel))) rfl
theorem im_X3_init : Cond.instanceMethod yX3_init ∈ wl := mW (mT2 (List.mem_of_getElem? (i := 95) (by decide +kernel))) rfl
theorem lv_X1_27 : LCo RX1 27 yX3_init cX3_init 1 0 := ⟨rfl, yo_X3_init, Or.inr (mT2 (List.mem_of_getElem? (i := 94) (by decide +kernel))), im_X3_init, in_X3_init, co_X3_init⟩
theorem fq_X1_28 : FLP RX1 28 1 3 := ⟨⟨RX1, TX1, 6, rfl, by decide, inl1, mW (mT2 (List.mem_of_getElem? (i := 210) (by decide +kernel))) rfl⟩, by decide, by decide +kernel⟩
theorem fr1_3 : FPR 1 3 RX1 := ⟨ft1, (RX1, TX1, 6), rfl, by decide +kernel, rfl, fun ty h a => by rw [tyX1_ok 3 (by decide)] at h; cases h; exact ⟨rfl, rfl⟩⟩
theorem df5 : ∀ j, j < 9 → defaultValue (tyX5 j) = if fR 5 j then .null else .int 0 := by
  intro j hj
  rcases (show j = 0 ∨ j = 1 ∨ j = 2 ∨ j = 3 ∨ j = 4 ∨ j = 5 ∨ j = 6 ∨ j = 7 ∨ j = 8 by omega) with rfl | rfl | rfl | rfl | rfl | rfl | rfl | rfl | rfl
  · rw [show fR 5 0 = true by decide +kernel]; rfl
  · rw [show fR 5 1 = true by decide +kernel]; rfl
  · rw [show fR 5 2 = true by decide +kernel]; rfl
  · rw [show fR 5 3 = true by decide +kernel]; rfl
  · rw [show fR 5 4 = false by decide +kernel]; rfl
  · rw [show fR 5 5 = false by decide +kernel]; rfl
  · rw [show fR 5 6 = false by decide +kernel]; rfl
  · rw [show fR 5 7 = false by decide +kernel]; rfl
  · rw [show fR 5 8 = false by decide +kernel]; rfl
theorem ic5 : Cond.instantiable RX5 9 ∈ wl := mW (mT2 (List.mem_of_getElem? (i := 140) (by decide +kernel))) rfl
theorem ii5 : Cond.initialized RX5 ∈ wl := mW (mT1 (List.mem_of_getElem? (i := 11) (by decide +kernel))) rfl
theorem nw_X1_32 : FNW RX1 32 5 9 := ⟨RX5, TX5, tyX5, rfl, by decide, inl5, tyX5_ok, mW (mT2 (List.mem_of_getElem? (i := 139) (by decide +kernel))) rfl, ic5, ii5, df5⟩
theorem yo_X5_init : yX5_init.cls ≠ "java/lang/invoke/MethodHandle" ∧ yX5_init.cls ≠ "java/lang/invoke/VarHandle" ∧ (parseMethodDescriptor yX5_init.desc).map (fun d => d.parameters.length) = some 0 := by decide +kernel
theorem co_X5_init : Cond.code yX5_init cX5_init 1 none ∈ wl := mW (mT2 (List.mem_of_getElem? (i := 143) (by decide +kernel))) rfl
theorem in_X5_init : Cond.initialized yX5_init.cls ∈ wl := mW (mT1 (List.mem_of_getElem? (i := 11) (by decide +kernel))) rfl
theorem im_X5_init : Cond.instanceMethod yX5_init ∈ wl := mW (mT2 (List.mem_of_getElem? (i := 142) (by decide +kernel))) rfl
theorem lv_X1_34 : LCo RX1 34 yX5_init cX5_init 1 0 := ⟨rfl, yo_X5_init, Or.inr (mT2 (List.mem_of_getElem? (i := 141) (by decide +kernel))), im_X5_init, in_X5_init, co_X5_init⟩
theorem fq_X1_35 : FLP RX1 35 1 4 := ⟨⟨RX1, TX1, 6, rfl, by decide, inl1, mW (mT2 (List.mem_of_getElem? (i := 212) (by decide +kernel))) rfl⟩, by decide, by decide +kernel⟩
theorem fr1_4 : FPR 1 4 RX1 := ⟨ft1, (RX1, TX1, 6), rfl, by decide +kernel, rfl, fun ty h a => by rw [tyX1_ok 4 (by decide)] at h; cases h; exact ⟨rfl, rfl⟩⟩
theorem fq_X1_39 : FLP RX1 39 1 0 := ⟨⟨RX1, TX1, 6, rfl, by decide, inl1, mW (mT2 (List.mem_of_getElem? (i := 205) (by decide +kernel))) rfl⟩, by decide, by decide +kernel⟩
theorem fr1_0 : FPR 1 0 RX1 := ⟨ft1, (RX1, TX1, 6), rfl, by decide +kernel, rfl, fun ty h a => by rw [tyX1_ok 0 (by decide)] at h; cases h; exact ⟨rfl, rfl⟩⟩
theorem yo_X1_clear : yX1_clear.cls ≠ "java/lang/invoke/MethodHandle" ∧ yX1_clear.cls ≠ "java/lang/invoke/VarHandle" ∧ (parseMethodDescriptor yX1_clear.desc).map (fun d => d.parameters.length) = some 0 := by decide +kernel
theorem co_X1_clear : Cond.code yX1_clear cX1_clear 1 none ∈ wl := mW (mT2 (List.mem_of_getElem? (i := 184) (by decide +kernel))) rfl
theorem in_X1_clear : Cond.initialized yX1_clear.cls ∈ wl := mW (mT1 (List.mem_of_getElem? (i := 7) (by decide +kernel))) rfl
theorem im_X1_clear : Cond.instanceMethod yX1_clear ∈ wl := mW (mT2 (List.mem_of_getElem? (i := 182) (by decide +kernel))) rfl
theorem se_X1_clear : Cond.selects yX1_clear.cls yX1_clear yX1_clear ∈ wl := mW (mT2 (List.mem_of_getElem? (i := 183) (by decide +kernel))) rfl
theorem lv_X1_43 : LV RX1 43 yX1_clear cX1_clear 1 none 0 1 := ⟨⟨(RX1, TX1, 6), rfl, rfl⟩, yo_X1_clear, mW (mT2 (List.mem_of_getElem? (i := 181) (by decide +kernel))) rfl, im_X1_clear, se_X1_clear, in_X1_clear, co_X1_clear⟩
theorem dX1_init_0 : decode cX1_init 0 = .ok (.aload_n 0, 1) := by decide +kernel
theorem dX1_init_1 : decode cX1_init 1 = .ok (.invokespecial 3, 3) := by decide +kernel
theorem dX1_init_4 : decode cX1_init 4 = .ok (.aload_n 0, 1) := by decide +kernel
theorem dX1_init_5 : decode cX1_init 5 = .ok (.new 9, 3) := by decide +kernel
theorem dX1_init_8 : decode cX1_init 8 = .ok (.dup, 1) := by decide +kernel
theorem dX1_init_9 : decode cX1_init 9 = .ok (.invokespecial 11, 3) := by decide +kernel
theorem dX1_init_12 : decode cX1_init 12 = .ok (.putfield 12, 3) := by decide +kernel
theorem dX1_init_15 : decode cX1_init 15 = .ok (.aload_n 0, 1) := by decide +kernel
theorem dX1_init_16 : decode cX1_init 16 = .ok (.new 18, 3) := by decide +kernel
theorem dX1_init_19 : decode cX1_init 19 = .ok (.dup, 1) := by decide +kernel
theorem dX1_init_20 : decode cX1_init 20 = .ok (.invokespecial 20, 3) := by decide +kernel
theorem dX1_init_23 : decode cX1_init 23 = .ok (.putfield 21, 3) := by decide +kernel
theorem dX1_init_26 : decode cX1_init 26 = .ok (.aload_n 0, 1) := by decide +kernel
theorem dX1_init_27 : decode cX1_init 27 = .ok (.new 25, 3) := by decide +kernel
theorem dX1_init_30 : decode cX1_init 30 = .ok (.dup, 1) := by decide +kernel
theorem dX1_init_31 : decode cX1_init 31 = .ok (.invokespecial 27, 3) := by decide +kernel
theorem dX1_init_34 : decode cX1_init 34 = .ok (.putfield 28, 3) := by decide +kernel
theorem dX1_init_37 : decode cX1_init 37 = .ok (.aload_n 0, 1) := by decide +kernel
theorem dX1_init_38 : decode cX1_init 38 = .ok (.new 32, 3) := by decide +kernel
theorem dX1_init_41 : decode cX1_init 41 = .ok (.dup, 1) := by decide +kernel
theorem dX1_init_42 : decode cX1_init 42 = .ok (.invokespecial 34, 3) := by decide +kernel
theorem dX1_init_45 : decode cX1_init 45 = .ok (.putfield 35, 3) := by decide +kernel
theorem dX1_init_48 : decode cX1_init 48 = .ok (.aload_n 0, 1) := by decide +kernel
theorem dX1_init_49 : decode cX1_init 49 = .ok (.aload_n 1, 1) := by decide +kernel
theorem dX1_init_50 : decode cX1_init 50 = .ok (.putfield 39, 3) := by decide +kernel
theorem dX1_init_53 : decode cX1_init 53 = .ok (.aload_n 0, 1) := by decide +kernel
theorem dX1_init_54 : decode cX1_init 54 = .ok (.invokevirtual 43, 3) := by decide +kernel
theorem dX1_init_57 : decode cX1_init 57 = .ok (.return_, 1) := by decide +kernel
def rmX1_init : Room := { frames := 3, cells := 19, slots := 3791, locals := 62 }
set_option maxRecDepth 100000 in
def fX1_init_E (N : Nat) (x0 : Nat) (x1 : Nat) (n0 s0 : Nat) (g : Gs) (d : Ds) : Option (Gs × Ds) := gd (gN g < 100000) <| gd (gN g + 1 - n0 ≤ 19 ∧ gS g + 9 - s0 ≤ 3791) <| bd (nG g 6 0 9) fun g3 => (bd (nD g d) fun d4 => (bd (gN g) fun r5 => (gd (0 < gN g3) <| cb (fX6_init N r5 g3 d4) fun g8 d9 => (gd (gN g8 = gN g3 + 5 ∧ gS g8 = gS g3 + 120) <| gd (gN g8 - n0 ≤ 19 ∧ gS g8 - s0 ≤ 3791) <| gd (chk g8 x0 1) <| bd (sR g8 x0 1 r5) fun g15 => (gd (gN g15 < 100000) <| gd (gN g15 + 1 - n0 ≤ 19 ∧ gS g15 + 3 - s0 ≤ 3791) <| bd (nG g15 4 0 3) fun g19 => (bd (nD g15 d9) fun d20 => (bd (gN g15) fun r21 => (gd (0 < gN g19) <| cb (fX4_init N r21 g19 d20) fun g24 d25 => (gd (gN g24 = gN g19 + 1 ∧ gS g24 = gS g19 + 2400) <| gd (gN g24 - n0 ≤ 19 ∧ gS g24 - s0 ≤ 3791) <| gd (chk g24 x0 1) <| bd (sR g24 x0 2 r21) fun g31 => (gd (gN g31 < 100000) <| gd (gN g31 + 1 - n0 ≤ 19 ∧ gS g31 + 9 - s0 ≤ 3791) <| bd (nG g31 3 0 9) fun g35 => (bd (nD g31 d25) fun d36 => (bd (gN g31) fun r37 => (gd (0 < gN g35) <| cb (fX3_init N r37 g35 d36) fun g40 d41 => (gd (gN g40 = gN g35 + 5 ∧ gS g40 = gS g35 + 121) <| gd (gN g40 - n0 ≤ 19 ∧ gS g40 - s0 ≤ 3791) <| gd (chk g40 x0 1) <| bd (sR g40 x0 3 r37) fun g47 => (gd (gN g47 < 100000) <| gd (gN g47 + 1 - n0 ≤ 19 ∧ gS g47 + 9 - s0 ≤ 3791) <| bd (nG g47 5 0 9) fun g51 => (bd (nD g47 d41) fun d52 => (bd (gN g47) fun r53 => (gd (0 < gN g51) <| cb (fX5_init N r53 g51 d52) fun g56 d57 => (gd (gN g56 = gN g51 + 4 ∧ gS g56 = gS g51 + 1120) <| gd (gN g56 - n0 ≤ 19 ∧ gS g56 - s0 ≤ 3791) <| gd (chk g56 x0 1) <| bd (sR g56 x0 4 r53) fun g63 => (gd (chk g63 x0 1) <| bd (sR g63 x0 0 x1) fun g66 => (gd (chk g66 x0 1) <| gd (gN g66 - n0 ≤ 19 ∧ gS g66 - s0 ≤ 3791) <| cv (fX1_clear N g66 x0 d57) fun d70 => (gd (gN g66 = n0 + 19 ∧ gS g66 = s0 + 3791) <| some (g66, d70)))))))))))))))))))))))
def fX1_init (N : Nat) (x0 : Nat) (x1 : Nat) (g : Gs) (d : Ds) : Option (Gs × Ds) := fX1_init_E N x0 x1 (gN g) (gS g) g d
set_option maxHeartbeats 4000000 in
set_option maxRecDepth 100000 in
theorem tX1_init_E {p : Program} {l : Launch} {e : Env} {s : State} {m : MethodId} {args : Array Value} {below : List Frame} {meth : Method} {c : Code} {D : va_G} {cy : Nat → ClassId} {B : Bs} (C : Cx p s m args c cX1_init 2 RX1 D cy B) (hr : meth.sig.returnType = none) (hlocks : meth.locks = false) (hin : meth.name = "<init>") {n0 s0 : Nat} (hz : s.heap.size = B.1 + n0) {N : Nat} {x0 : Nat} {x1 : Nat} {gz : Gs} {dz : Ds} {g : Gs} {d : Ds} (hn : n0 ≤ gN g) (hs : s0 ≤ gS g) (hf : fX1_init_E N x0 x1 n0 s0 g d = some (gz, dz)) : WB p l e rmX1_init s m args below meth c 2 D cy B (gN g - n0) (gS g - s0) (MQ below (QV D cy B gz dz) args s 19 3791 (wA B)) g d [(0, .ref (ad B x0)), (1, .ref (ad B x1))] 0 [] := by
  unfold fX1_init_E at hf
  refine b_aload_n C dX1_init_0 0 rfl rfl ?_
  refine b_objInit C oi_X1_3 oi_i oi_c (by decide) (by decide) dX1_init_1 ?_
  refine b_aload_n C dX1_init_4 0 rfl rfl ?_
  obtain ⟨h1, hf⟩ := gd_s hf
  obtain ⟨h2, hf⟩ := gd_s hf
  obtain ⟨g3, eg3, hf⟩ := bd_s hf
  obtain ⟨d4, ed4, hf⟩ := bd_s hf
  obtain ⟨r5, er5, hf⟩ := bd_s hf
  refine b_new C dX1_init_5 nw_X1_9 hz hn hs h1 h2 eg3 ed4 (fun hn6 hn6s => ?_)
  refine b_topR er5 ?_
  refine b_dup C dX1_init_8 rfl ?_
  obtain ⟨h7, hf⟩ := gd_s hf
  obtain ⟨g8, d9, k10, hf⟩ := cb_s hf
  obtain ⟨h12, hf⟩ := gd_s hf
  obtain ⟨h13, hf⟩ := gd_s hf
  refine b_callC C [.ref (ad B r5), .ref (ad B x0)] dX1_init_9 (kX6_init l D cy B k10) lv_X1_11 ⟨rfl, rfl, Nat.le_of_ble_eq_true rfl, Nat.le_of_ble_eq_true rfl⟩ rfl (Nat.le_of_ble_eq_true rfl) hz hn6 hn6s h7 h12 h13 rfl (fun hn11 hn11s => ?_)
  obtain ⟨h14, hf⟩ := gd_s hf
  obtain ⟨g15, eg15, hf⟩ := bd_s hf
  refine b_pRC C dX1_init_12 fq_X1_12 fr1_1 hin h14 eg15 ?_
  have hn16 : n0 ≤ gN g15 := by rw [eg15]; exact hn11
  have hn16s : s0 ≤ gS g15 := by rw [eg15]; exact hn11s
  refine b_aload_n C dX1_init_15 0 rfl rfl ?_
  obtain ⟨h17, hf⟩ := gd_s hf
  obtain ⟨h18, hf⟩ := gd_s hf
  obtain ⟨g19, eg19, hf⟩ := bd_s hf
  obtain ⟨d20, ed20, hf⟩ := bd_s hf
  obtain ⟨r21, er21, hf⟩ := bd_s hf
  refine b_new C dX1_init_16 nw_X1_18 hz hn16 hn16s h17 h18 eg19 ed20 (fun hn22 hn22s => ?_)
  refine b_topR er21 ?_
  refine b_dup C dX1_init_19 rfl ?_
  obtain ⟨h23, hf⟩ := gd_s hf
  obtain ⟨g24, d25, k26, hf⟩ := cb_s hf
  obtain ⟨h28, hf⟩ := gd_s hf
  obtain ⟨h29, hf⟩ := gd_s hf
  refine b_callC C [.ref (ad B r21), .ref (ad B x0)] dX1_init_20 (kX4_init l D cy B k26) lv_X1_20 ⟨rfl, rfl, Nat.le_of_ble_eq_true rfl, Nat.le_of_ble_eq_true rfl⟩ rfl (Nat.le_of_ble_eq_true rfl) hz hn22 hn22s h23 h28 h29 rfl (fun hn27 hn27s => ?_)
  obtain ⟨h30, hf⟩ := gd_s hf
  obtain ⟨g31, eg31, hf⟩ := bd_s hf
  refine b_pRC C dX1_init_23 fq_X1_21 fr1_2 hin h30 eg31 ?_
  have hn32 : n0 ≤ gN g31 := by rw [eg31]; exact hn27
  have hn32s : s0 ≤ gS g31 := by rw [eg31]; exact hn27s
  refine b_aload_n C dX1_init_26 0 rfl rfl ?_
  obtain ⟨h33, hf⟩ := gd_s hf
  obtain ⟨h34, hf⟩ := gd_s hf
  obtain ⟨g35, eg35, hf⟩ := bd_s hf
  obtain ⟨d36, ed36, hf⟩ := bd_s hf
  obtain ⟨r37, er37, hf⟩ := bd_s hf
  refine b_new C dX1_init_27 nw_X1_25 hz hn32 hn32s h33 h34 eg35 ed36 (fun hn38 hn38s => ?_)
  refine b_topR er37 ?_
  refine b_dup C dX1_init_30 rfl ?_
  obtain ⟨h39, hf⟩ := gd_s hf
  obtain ⟨g40, d41, k42, hf⟩ := cb_s hf
  obtain ⟨h44, hf⟩ := gd_s hf
  obtain ⟨h45, hf⟩ := gd_s hf
  refine b_callC C [.ref (ad B r37), .ref (ad B x0)] dX1_init_31 (kX3_init l D cy B k42) lv_X1_27 ⟨rfl, rfl, Nat.le_of_ble_eq_true rfl, Nat.le_of_ble_eq_true rfl⟩ rfl (Nat.le_of_ble_eq_true rfl) hz hn38 hn38s h39 h44 h45 rfl (fun hn43 hn43s => ?_)
  obtain ⟨h46, hf⟩ := gd_s hf
  obtain ⟨g47, eg47, hf⟩ := bd_s hf
  refine b_pRC C dX1_init_34 fq_X1_28 fr1_3 hin h46 eg47 ?_
  have hn48 : n0 ≤ gN g47 := by rw [eg47]; exact hn43
  have hn48s : s0 ≤ gS g47 := by rw [eg47]; exact hn43s
  refine b_aload_n C dX1_init_37 0 rfl rfl ?_
  obtain ⟨h49, hf⟩ := gd_s hf
  obtain ⟨h50, hf⟩ := gd_s hf
  obtain ⟨g51, eg51, hf⟩ := bd_s hf
  obtain ⟨d52, ed52, hf⟩ := bd_s hf
  obtain ⟨r53, er53, hf⟩ := bd_s hf
  refine b_new C dX1_init_38 nw_X1_32 hz hn48 hn48s h49 h50 eg51 ed52 (fun hn54 hn54s => ?_)
  refine b_topR er53 ?_
  refine b_dup C dX1_init_41 rfl ?_
  obtain ⟨h55, hf⟩ := gd_s hf
  obtain ⟨g56, d57, k58, hf⟩ := cb_s hf
  obtain ⟨h60, hf⟩ := gd_s hf
  obtain ⟨h61, hf⟩ := gd_s hf
  refine b_callC C [.ref (ad B r53), .ref (ad B x0)] dX1_init_42 (kX5_init l D cy B k58) lv_X1_34 ⟨rfl, rfl, Nat.le_of_ble_eq_true rfl, Nat.le_of_ble_eq_true rfl⟩ rfl (Nat.le_of_ble_eq_true rfl) hz hn54 hn54s h55 h60 h61 rfl (fun hn59 hn59s => ?_)
  obtain ⟨h62, hf⟩ := gd_s hf
  obtain ⟨g63, eg63, hf⟩ := bd_s hf
  refine b_pRC C dX1_init_45 fq_X1_35 fr1_4 hin h62 eg63 ?_
  have hn64 : n0 ≤ gN g63 := by rw [eg63]; exact hn59
  have hn64s : s0 ≤ gS g63 := by rw [eg63]; exact hn59s
  refine b_aload_n C dX1_init_48 0 rfl rfl ?_
  refine b_aload_n C dX1_init_49 1 rfl rfl ?_
  obtain ⟨h65, hf⟩ := gd_s hf
  obtain ⟨g66, eg66, hf⟩ := bd_s hf
  refine b_pRC C dX1_init_50 fq_X1_39 fr1_0 hin h65 eg66 ?_
  have hn67 : n0 ≤ gN g66 := by rw [eg66]; exact hn64
  have hn67s : s0 ≤ gS g66 := by rw [eg66]; exact hn64s
  refine b_aload_n C dX1_init_53 0 rfl rfl ?_
  obtain ⟨h68, hf⟩ := gd_s hf
  obtain ⟨h69, hf⟩ := gd_s hf
  obtain ⟨d70, k71, hf⟩ := cv_s hf
  refine b_cVN C [] dX1_init_54 (kX1_clear l D cy B k71) lv_X1_43 ⟨rfl, rfl, Nat.le_of_ble_eq_true rfl, Nat.le_of_ble_eq_true rfl⟩ h68 (by decide) rfl (Nat.le_of_ble_eq_true rfl) h69 rfl ?_
  obtain ⟨h72, hf⟩ := gd_s hf
  exact b_vretC C hr hlocks h72 hf dX1_init_57
theorem kX1_init (l : Launch) (D : va_G) (cy : Nat → ClassId) (B : Bs) {N : Nat} {g : Gs} {x0 : Nat} {x1 : Nat} {gz : Gs} {dz : Ds} {d : Ds} (hf : fX1_init N x0 x1 g d = some (gz, dz)) : Met l yX1_init (.code yX1_init cX1_init 2 none :: wl) rmX1_init (PCC D cy B [.ref (ad B x0), .ref (ad B x1)] g d) (QV D cy B gz dz) 19 3791 (wA B) :=
  met_ofC (by decide +kernel) (Nat.le_of_ble_eq_true rfl) (fun p e s m args below meth c C hr hlocks hin hz => b_sub [(0, .ref (ad B x0)), (1, .ref (ad B x1))] [0, 1] rfl (tX1_init_E C hr hlocks hin hz (Nat.le_refl _) (Nat.le_refl _) hf))
/-! KeyMatrix$Tokens.<init>()V -/
theorem oi_X8_1 : Cond.methodLink RX8 1 objectInit ∈ wl := mW (mT1 (List.mem_of_getElem? (i := 41) (by decide +kernel))) rfl
theorem inl8 : ∀ w ∈ u_ws RX8 TX8 6, w ∈ wl := by
  have h0 : u_ws RX8 TX8 6 = [Cond.laysFinal "KeyMatrix$Tokens" "KeyMatrix$Tokens" "kinds" "[I", Cond.laysFinal "KeyMatrix$Tokens" "KeyMatrix$Tokens" "places" "[I", Cond.laysFinal "KeyMatrix$Tokens" "KeyMatrix$Tokens" "numbers" "[I", Cond.laysFinal "KeyMatrix$Tokens" "KeyMatrix$Tokens" "words" "[LKeyMatrix$Word;", Cond.lays "KeyMatrix$Tokens" "KeyMatrix$Tokens" "size" "I", Cond.lays "KeyMatrix$Tokens" "KeyMatrix$Tokens" "end" "I"] := by decide +kernel
  rw [h0]
  exact List.forall_mem_cons.mpr ⟨mW (mT1 (List.mem_of_getElem? (i := 50) (by decide +kernel))) rfl, List.forall_mem_cons.mpr ⟨mW (mT1 (List.mem_of_getElem? (i := 52) (by decide +kernel))) rfl, List.forall_mem_cons.mpr ⟨mW (mT1 (List.mem_of_getElem? (i := 54) (by decide +kernel))) rfl, List.forall_mem_cons.mpr ⟨mW (mT1 (List.mem_of_getElem? (i := 56) (by decide +kernel))) rfl, List.forall_mem_cons.mpr ⟨mW (mT1 (List.mem_of_getElem? (i := 58) (by decide +kernel))) rfl, List.forall_mem_cons.mpr ⟨mW (mT1 (List.mem_of_getElem? (i := 60) (by decide +kernel))) rfl, fun _ h => absurd h List.not_mem_nil⟩⟩⟩⟩⟩⟩
theorem fq_X8_9 : FLP RX8 9 8 0 := ⟨⟨RX8, TX8, 6, rfl, by decide, inl8, mW (mT1 (List.mem_of_getElem? (i := 44) (by decide +kernel))) rfl⟩, by decide, by decide +kernel⟩
theorem ft8 : FT 8 := ⟨RX8, TX8, 6, tyX8, rfl, tyX8_ok, nmX8⟩
theorem fr8_0 : FPR 8 0 RX8 := ⟨ft8, (RX8, TX8, 6), rfl, by decide +kernel, rfl, fun ty h a => by rw [tyX8_ok 0 (by decide)] at h; cases h; exact ⟨rfl, rfl⟩⟩
theorem fq_X8_13 : FLP RX8 13 8 1 := ⟨⟨RX8, TX8, 6, rfl, by decide, inl8, mW (mT1 (List.mem_of_getElem? (i := 45) (by decide +kernel))) rfl⟩, by decide, by decide +kernel⟩
theorem fr8_1 : FPR 8 1 RX8 := ⟨ft8, (RX8, TX8, 6), rfl, by decide +kernel, rfl, fun ty h a => by rw [tyX8_ok 1 (by decide)] at h; cases h; exact ⟨rfl, rfl⟩⟩
theorem fq_X8_16 : FLP RX8 16 8 2 := ⟨⟨RX8, TX8, 6, rfl, by decide, inl8, mW (mT1 (List.mem_of_getElem? (i := 46) (by decide +kernel))) rfl⟩, by decide, by decide +kernel⟩
theorem fr8_2 : FPR 8 2 RX8 := ⟨ft8, (RX8, TX8, 6), rfl, by decide +kernel, rfl, fun ty h a => by rw [tyX8_ok 2 (by decide)] at h; cases h; exact ⟨rfl, rfl⟩⟩
theorem cw_X8_19 : Cond.classLink RX8 19 "KeyMatrix$Word" ∈ wl := mW (mT1 (List.mem_of_getElem? (i := 42) (by decide +kernel))) rfl
theorem fq_X8_21 : FLP RX8 21 8 3 := ⟨⟨RX8, TX8, 6, rfl, by decide, inl8, mW (mT1 (List.mem_of_getElem? (i := 47) (by decide +kernel))) rfl⟩, by decide, by decide +kernel⟩
theorem fr8_3 : FPR 8 3 RX8 := ⟨ft8, (RX8, TX8, 6), rfl, by decide +kernel, rfl, fun ty h a => by rw [tyX8_ok 3 (by decide)] at h; cases h; exact ⟨rfl, rfl⟩⟩
theorem dX8_init_0 : decode cX8_init 0 = .ok (.aload_n 0, 1) := by decide +kernel
theorem dX8_init_1 : decode cX8_init 1 = .ok (.invokespecial 1, 3) := by decide +kernel
theorem dX8_init_4 : decode cX8_init 4 = .ok (.aload_n 0, 1) := by decide +kernel
theorem dX8_init_5 : decode cX8_init 5 = .ok (.sipush 401, 3) := by decide +kernel
theorem dX8_init_8 : decode cX8_init 8 = .ok (.newarray .int, 2) := by decide +kernel
theorem dX8_init_10 : decode cX8_init 10 = .ok (.putfield 9, 3) := by decide +kernel
theorem dX8_init_13 : decode cX8_init 13 = .ok (.aload_n 0, 1) := by decide +kernel
theorem dX8_init_14 : decode cX8_init 14 = .ok (.sipush 401, 3) := by decide +kernel
theorem dX8_init_17 : decode cX8_init 17 = .ok (.newarray .int, 2) := by decide +kernel
theorem dX8_init_19 : decode cX8_init 19 = .ok (.putfield 13, 3) := by decide +kernel
theorem dX8_init_22 : decode cX8_init 22 = .ok (.aload_n 0, 1) := by decide +kernel
theorem dX8_init_23 : decode cX8_init 23 = .ok (.sipush 401, 3) := by decide +kernel
theorem dX8_init_26 : decode cX8_init 26 = .ok (.newarray .int, 2) := by decide +kernel
theorem dX8_init_28 : decode cX8_init 28 = .ok (.putfield 16, 3) := by decide +kernel
theorem dX8_init_31 : decode cX8_init 31 = .ok (.aload_n 0, 1) := by decide +kernel
theorem dX8_init_32 : decode cX8_init 32 = .ok (.sipush 401, 3) := by decide +kernel
theorem dX8_init_35 : decode cX8_init 35 = .ok (.anewarray 19, 3) := by decide +kernel
theorem dX8_init_38 : decode cX8_init 38 = .ok (.putfield 21, 3) := by decide +kernel
theorem dX8_init_41 : decode cX8_init 41 = .ok (.return_, 1) := by decide +kernel
def rmX8_init : Room := { frames := 1, cells := 4, slots := 1604, locals := 20 }
set_option maxRecDepth 100000 in
def fX8_init_E (N : Nat) (x0 : Nat) (n0 s0 : Nat) (g : Gs) (d : Ds) : Option (Gs × Ds) := gd (¬ (401 : Int32) < 0) <| gd ((401 : Int32).toNatClampNeg ≤ 60000000) <| gd (gN g < 100000) <| gd (gN g + 1 - n0 ≤ 4 ∧ gS g + (401 : Int32).toNatClampNeg - s0 ≤ 1604) <| bd (nG g 102 (401 : Int32).toNatClampNeg (401 : Int32).toNatClampNeg) fun g5 => (bd (nD g d) fun d6 => (bd (gN g) fun r7 => (gd (chk g5 x0 8) <| bd (sR g5 x0 0 r7) fun g10 => (gd (gN g10 < 100000) <| gd (gN g10 + 1 - n0 ≤ 4 ∧ gS g10 + (401 : Int32).toNatClampNeg - s0 ≤ 1604) <| bd (nG g10 102 (401 : Int32).toNatClampNeg (401 : Int32).toNatClampNeg) fun g14 => (bd (nD g10 d6) fun d15 => (bd (gN g10) fun r16 => (gd (chk g14 x0 8) <| bd (sR g14 x0 1 r16) fun g19 => (gd (gN g19 < 100000) <| gd (gN g19 + 1 - n0 ≤ 4 ∧ gS g19 + (401 : Int32).toNatClampNeg - s0 ≤ 1604) <| bd (nG g19 102 (401 : Int32).toNatClampNeg (401 : Int32).toNatClampNeg) fun g23 => (bd (nD g19 d15) fun d24 => (bd (gN g19) fun r25 => (gd (chk g23 x0 8) <| bd (sR g23 x0 2 r25) fun g28 => (gd (gN g28 < 100000) <| gd (gN g28 + 1 - n0 ≤ 4 ∧ gS g28 + (401 : Int32).toNatClampNeg - s0 ≤ 1604) <| bd (nG g28 107 (401 : Int32).toNatClampNeg (401 : Int32).toNatClampNeg) fun g32 => (bd (nD g28 d24) fun d33 => (bd (gN g28) fun r34 => (gd (chk g32 x0 8) <| bd (sR g32 x0 3 r34) fun g37 => (gd (gN g37 = n0 + 4 ∧ gS g37 = s0 + 1604) <| some (g37, d33)))))))))))))))))
def fX8_init (N : Nat) (x0 : Nat) (g : Gs) (d : Ds) : Option (Gs × Ds) := fX8_init_E N x0 (gN g) (gS g) g d
set_option maxHeartbeats 4000000 in
set_option maxRecDepth 100000 in
theorem tX8_init_E {p : Program} {l : Launch} {e : Env} {s : State} {m : MethodId} {args : Array Value} {below : List Frame} {meth : Method} {c : Code} {D : va_G} {cy : Nat → ClassId} {B : Bs} (C : Cx p s m args c cX8_init 1 RX8 D cy B) (hr : meth.sig.returnType = none) (hlocks : meth.locks = false) (hin : meth.name = "<init>") {n0 s0 : Nat} (hz : s.heap.size = B.1 + n0) {N : Nat} {x0 : Nat} {gz : Gs} {dz : Ds} {g : Gs} {d : Ds} (hn : n0 ≤ gN g) (hs : s0 ≤ gS g) (hf : fX8_init_E N x0 n0 s0 g d = some (gz, dz)) : WB p l e rmX8_init s m args below meth c 1 D cy B (gN g - n0) (gS g - s0) (MQ below (QV D cy B gz dz) args s 4 1604 (wA B)) g d [(0, .ref (ad B x0))] 0 [] := by
  unfold fX8_init_E at hf
  refine b_aload_n C dX8_init_0 0 rfl rfl ?_
  refine b_objInit C oi_X8_1 oi_i oi_c (by decide) (by decide) dX8_init_1 ?_
  refine b_aload_n C dX8_init_4 0 rfl rfl ?_
  refine b_sipush C (v := 401) dX8_init_5 (by decide) ?_
  obtain ⟨h1, hf⟩ := gd_s hf
  obtain ⟨h2, hf⟩ := gd_s hf
  obtain ⟨h3, hf⟩ := gd_s hf
  obtain ⟨h4, hf⟩ := gd_s hf
  obtain ⟨g5, eg5, hf⟩ := bd_s hf
  obtain ⟨d6, ed6, hf⟩ := bd_s hf
  obtain ⟨r7, er7, hf⟩ := bd_s hf
  refine b_newaI C dX8_init_8 ar_int hz hn hs h3 h1 h2 h4 eg5 ed6 (fun hn8 hn8s => ?_)
  refine b_topR er7 ?_
  obtain ⟨h9, hf⟩ := gd_s hf
  obtain ⟨g10, eg10, hf⟩ := bd_s hf
  refine b_pRC C dX8_init_10 fq_X8_9 fr8_0 hin h9 eg10 ?_
  have hn11 : n0 ≤ gN g10 := by rw [eg10]; exact hn8
  have hn11s : s0 ≤ gS g10 := by rw [eg10]; exact hn8s
  refine b_aload_n C dX8_init_13 0 rfl rfl ?_
  refine b_sipush C (v := 401) dX8_init_14 (by decide) ?_
  obtain ⟨h12, hf⟩ := gd_s hf
  obtain ⟨h13, hf⟩ := gd_s hf
  obtain ⟨g14, eg14, hf⟩ := bd_s hf
  obtain ⟨d15, ed15, hf⟩ := bd_s hf
  obtain ⟨r16, er16, hf⟩ := bd_s hf
  refine b_newaI C dX8_init_17 ar_int hz hn11 hn11s h12 h1 h2 h13 eg14 ed15 (fun hn17 hn17s => ?_)
  refine b_topR er16 ?_
  obtain ⟨h18, hf⟩ := gd_s hf
  obtain ⟨g19, eg19, hf⟩ := bd_s hf
  refine b_pRC C dX8_init_19 fq_X8_13 fr8_1 hin h18 eg19 ?_
  have hn20 : n0 ≤ gN g19 := by rw [eg19]; exact hn17
  have hn20s : s0 ≤ gS g19 := by rw [eg19]; exact hn17s
  refine b_aload_n C dX8_init_22 0 rfl rfl ?_
  refine b_sipush C (v := 401) dX8_init_23 (by decide) ?_
  obtain ⟨h21, hf⟩ := gd_s hf
  obtain ⟨h22, hf⟩ := gd_s hf
  obtain ⟨g23, eg23, hf⟩ := bd_s hf
  obtain ⟨d24, ed24, hf⟩ := bd_s hf
  obtain ⟨r25, er25, hf⟩ := bd_s hf
  refine b_newaI C dX8_init_26 ar_int hz hn20 hn20s h21 h1 h2 h22 eg23 ed24 (fun hn26 hn26s => ?_)
  refine b_topR er25 ?_
  obtain ⟨h27, hf⟩ := gd_s hf
  obtain ⟨g28, eg28, hf⟩ := bd_s hf
  refine b_pRC C dX8_init_28 fq_X8_16 fr8_2 hin h27 eg28 ?_
  have hn29 : n0 ≤ gN g28 := by rw [eg28]; exact hn26
  have hn29s : s0 ≤ gS g28 := by rw [eg28]; exact hn26s
  refine b_aload_n C dX8_init_31 0 rfl rfl ?_
  refine b_sipush C (v := 401) dX8_init_32 (by decide) ?_
  obtain ⟨h30, hf⟩ := gd_s hf
  obtain ⟨h31, hf⟩ := gd_s hf
  obtain ⟨g32, eg32, hf⟩ := bd_s hf
  obtain ⟨d33, ed33, hf⟩ := bd_s hf
  obtain ⟨r34, er34, hf⟩ := bd_s hf
  refine b_newqW C dX8_init_35 cw_X8_19 hz hn29 hn29s h30 h1 h2 h31 eg32 ed33 (fun hn35 hn35s => ?_)
  refine b_topR er34 ?_
  obtain ⟨h36, hf⟩ := gd_s hf
  obtain ⟨g37, eg37, hf⟩ := bd_s hf
  refine b_pRC C dX8_init_38 fq_X8_21 fr8_3 hin h36 eg37 ?_
  have hn38 : n0 ≤ gN g37 := by rw [eg37]; exact hn35
  have hn38s : s0 ≤ gS g37 := by rw [eg37]; exact hn35s
  obtain ⟨h39, hf⟩ := gd_s hf
  exact b_vretC C hr hlocks h39 hf dX8_init_41
theorem kX8_init (l : Launch) (D : va_G) (cy : Nat → ClassId) (B : Bs) {N : Nat} {g : Gs} {x0 : Nat} {gz : Gs} {dz : Ds} {d : Ds} (hf : fX8_init N x0 g d = some (gz, dz)) : Met l yX8_init (.code yX8_init cX8_init 1 none :: wl) rmX8_init (PCC D cy B [.ref (ad B x0)] g d) (QV D cy B gz dz) 4 1604 (wA B) :=
  met_ofC (by decide +kernel) (Nat.le_of_ble_eq_true rfl) (fun p e s m args below meth c C hr hlocks hin hz => b_sub [(0, .ref (ad B x0))] [0] rfl (tX8_init_E C hr hlocks hin hz (Nat.le_refl _) (Nat.le_refl _) hf))
/-! KeyMatrix$TextReader.<init>()V -/
theorem oi_X7_3 : Cond.methodLink RX7 3 objectInit ∈ wl := mW (mT1 (List.mem_of_getElem? (i := 35) (by decide +kernel))) rfl
theorem df8 : ∀ j, j < 6 → defaultValue (tyX8 j) = if fR 8 j then .null else .int 0 := by
  intro j hj
  rcases (show j = 0 ∨ j = 1 ∨ j = 2 ∨ j = 3 ∨ j = 4 ∨ j = 5 by omega) with rfl | rfl | rfl | rfl | rfl | rfl
  · rw [show fR 8 0 = true by decide +kernel]; rfl
  · rw [show fR 8 1 = true by decide +kernel]; rfl
  · rw [show fR 8 2 = true by decide +kernel]; rfl
  · rw [show fR 8 3 = true by decide +kernel]; rfl
  · rw [show fR 8 4 = false by decide +kernel]; rfl
  · rw [show fR 8 5 = false by decide +kernel]; rfl
theorem ic8 : Cond.instantiable RX8 6 ∈ wl := mW (mT1 (List.mem_of_getElem? (i := 37) (by decide +kernel))) rfl
theorem ii8 : Cond.initialized RX8 ∈ wl := mW (mT1 (List.mem_of_getElem? (i := 3) (by decide +kernel))) rfl
theorem nw_X7_9 : FNW RX7 9 8 6 := ⟨RX8, TX8, tyX8, rfl, by decide, inl8, tyX8_ok, mW (mT1 (List.mem_of_getElem? (i := 36) (by decide +kernel))) rfl, ic8, ii8, df8⟩
theorem yo_X8_init : yX8_init.cls ≠ "java/lang/invoke/MethodHandle" ∧ yX8_init.cls ≠ "java/lang/invoke/VarHandle" ∧ (parseMethodDescriptor yX8_init.desc).map (fun d => d.parameters.length) = some 0 := by decide +kernel
theorem co_X8_init : Cond.code yX8_init cX8_init 1 none ∈ wl := mW (mT1 (List.mem_of_getElem? (i := 40) (by decide +kernel))) rfl
theorem in_X8_init : Cond.initialized yX8_init.cls ∈ wl := mW (mT1 (List.mem_of_getElem? (i := 3) (by decide +kernel))) rfl
theorem im_X8_init : Cond.instanceMethod yX8_init ∈ wl := mW (mT1 (List.mem_of_getElem? (i := 39) (by decide +kernel))) rfl
theorem lv_X7_11 : LCo RX7 11 yX8_init cX8_init 1 0 := ⟨rfl, yo_X8_init, Or.inr (mT1 (List.mem_of_getElem? (i := 38) (by decide +kernel))), im_X8_init, in_X8_init, co_X8_init⟩
theorem inl7 : ∀ w ∈ u_ws RX7 TX7 10, w ∈ wl := by
  have h0 : u_ws RX7 TX7 10 = [Cond.laysFinal "KeyMatrix$TextReader" "KeyMatrix$TextReader" "tokens" "LKeyMatrix$Tokens;", Cond.laysFinal "KeyMatrix$TextReader" "KeyMatrix$TextReader" "told" "LKeyMatrix$Deed;", Cond.laysFinal "KeyMatrix$TextReader" "KeyMatrix$TextReader" "draft" "LKeyMatrix$Board;", Cond.lays "KeyMatrix$TextReader" "KeyMatrix$TextReader" "at" "I", Cond.lays "KeyMatrix$TextReader" "KeyMatrix$TextReader" "number" "I", Cond.lays "KeyMatrix$TextReader" "KeyMatrix$TextReader" "fault" "I", Cond.lays "KeyMatrix$TextReader" "KeyMatrix$TextReader" "faultToken" "I", Cond.lays "KeyMatrix$TextReader" "KeyMatrix$TextReader" "faultPlace" "I", Cond.lays "KeyMatrix$TextReader" "KeyMatrix$TextReader" "laterFault" "I", Cond.lays "KeyMatrix$TextReader" "KeyMatrix$TextReader" "laterToken" "I"] := by decide +kernel
  rw [h0]
  exact List.forall_mem_cons.mpr ⟨mW (mT1 (List.mem_of_getElem? (i := 217) (by decide +kernel))) rfl, List.forall_mem_cons.mpr ⟨mW (mT1 (List.mem_of_getElem? (i := 219) (by decide +kernel))) rfl, List.forall_mem_cons.mpr ⟨mW (mT1 (List.mem_of_getElem? (i := 221) (by decide +kernel))) rfl, List.forall_mem_cons.mpr ⟨mW (mT1 (List.mem_of_getElem? (i := 223) (by decide +kernel))) rfl, List.forall_mem_cons.mpr ⟨mW (mT1 (List.mem_of_getElem? (i := 225) (by decide +kernel))) rfl, List.forall_mem_cons.mpr ⟨mW (mT1 (List.mem_of_getElem? (i := 227) (by decide +kernel))) rfl, List.forall_mem_cons.mpr ⟨mW (mT1 (List.mem_of_getElem? (i := 229) (by decide +kernel))) rfl, List.forall_mem_cons.mpr ⟨mW (mT1 (List.mem_of_getElem? (i := 231) (by decide +kernel))) rfl, List.forall_mem_cons.mpr ⟨mW (mT1 (List.mem_of_getElem? (i := 233) (by decide +kernel))) rfl, List.forall_mem_cons.mpr ⟨mW (mT1 (List.mem_of_getElem? (i := 235) (by decide +kernel))) rfl, fun _ h => absurd h List.not_mem_nil⟩⟩⟩⟩⟩⟩⟩⟩⟩⟩
theorem fq_X7_12 : FLP RX7 12 7 0 := ⟨⟨RX7, TX7, 10, rfl, by decide, inl7, mW (mT1 (List.mem_of_getElem? (i := 205) (by decide +kernel))) rfl⟩, by decide, by decide +kernel⟩
theorem ft7 : FT 7 := ⟨RX7, TX7, 10, tyX7, rfl, tyX7_ok, nmX7⟩
theorem fr7_0 : FPR 7 0 RX7 := ⟨ft7, (RX7, TX7, 10), rfl, by decide +kernel, rfl, fun ty h a => by rw [tyX7_ok 0 (by decide)] at h; cases h; exact ⟨rfl, rfl⟩⟩
theorem nw_X7_18 : FNW RX7 18 2 3 := ⟨RX2, TX2, tyX2, rfl, by decide, inl2, tyX2_ok, mW (mT1 (List.mem_of_getElem? (i := 65) (by decide +kernel))) rfl, ic2, ii2, df2⟩
theorem lv_X7_20 : LCo RX7 20 yX2_init cX2_init 1 0 := ⟨rfl, yo_X2_init, Or.inr (mT1 (List.mem_of_getElem? (i := 67) (by decide +kernel))), im_X2_init, in_X2_init, co_X2_init⟩
theorem fq_X7_21 : FLP RX7 21 7 1 := ⟨⟨RX7, TX7, 10, rfl, by decide, inl7, mW (mT1 (List.mem_of_getElem? (i := 206) (by decide +kernel))) rfl⟩, by decide, by decide +kernel⟩
theorem fr7_1 : FPR 7 1 RX7 := ⟨ft7, (RX7, TX7, 10), rfl, by decide +kernel, rfl, fun ty h a => by rw [tyX7_ok 1 (by decide)] at h; cases h; exact ⟨rfl, rfl⟩⟩
theorem df0 : ∀ j, j < 19 → defaultValue (tyX0 j) = if fR 0 j then .null else .int 0 := by
  intro j hj
  rcases (show j = 0 ∨ j = 1 ∨ j = 2 ∨ j = 3 ∨ j = 4 ∨ j = 5 ∨ j = 6 ∨ j = 7 ∨ j = 8 ∨ j = 9 ∨ j = 10 ∨ j = 11 ∨ j = 12 ∨ j = 13 ∨ j = 14 ∨ j = 15 ∨ j = 16 ∨ j = 17 ∨ j = 18 by omega) with rfl | rfl | rfl | rfl | rfl | rfl | rfl | rfl | rfl | rfl | rfl | rfl | rfl | rfl | rfl | rfl | rfl | rfl | rfl
  · rw [show fR 0 0 = false by decide +kernel]; rfl
  · rw [show fR 0 1 = false by decide +kernel]; rfl
  · rw [show fR 0 2 = false by decide +kernel]; rfl
  · rw [show fR 0 3 = false by decide +kernel]; rfl
  · rw [show fR 0 4 = false by decide +kernel]; rfl
  · rw [show fR 0 5 = false by decide +kernel]; rfl
  · rw [show fR 0 6 = false by decide +kernel]; rfl
  · rw [show fR 0 7 = false by decide +kernel]; rfl
  · rw [show fR 0 8 = false by decide +kernel]; rfl
  · rw [show fR 0 9 = false by decide +kernel]; rfl
  · rw [show fR 0 10 = true by decide +kernel]; rfl
  · rw [show fR 0 11 = true by decide +kernel]; rfl
  · rw [show fR 0 12 = false by decide +kernel]; rfl
  · rw [show fR 0 13 = true by decide +kernel]; rfl
  · rw [show fR 0 14 = true by decide +kernel]; rfl
  · rw [show fR 0 15 = true by decide +kernel]; rfl
  · rw [show fR 0 16 = false by decide +kernel]; rfl
  · rw [show fR 0 17 = true by decide +kernel]; rfl
  · rw [show fR 0 18 = true by decide +kernel]; rfl
theorem ic0 : Cond.instantiable RX0 19 ∈ wl := mW (mT1 (List.mem_of_getElem? (i := 92) (by decide +kernel))) rfl
theorem ii0 : Cond.initialized RX0 ∈ wl := mW (mT1 (List.mem_of_getElem? (i := 5) (by decide +kernel))) rfl
theorem nw_X7_25 : FNW RX7 25 0 19 := ⟨RX0, TX0, tyX0, rfl, by decide, inl0, tyX0_ok, mW (mT1 (List.mem_of_getElem? (i := 91) (by decide +kernel))) rfl, ic0, ii0, df0⟩
theorem yo_X0_init : yX0_init.cls ≠ "java/lang/invoke/MethodHandle" ∧ yX0_init.cls ≠ "java/lang/invoke/VarHandle" ∧ (parseMethodDescriptor yX0_init.desc).map (fun d => d.parameters.length) = some 0 := by decide +kernel
theorem co_X0_init : Cond.code yX0_init cX0_init 2 none ∈ wl := mW (mT1 (List.mem_of_getElem? (i := 95) (by decide +kernel))) rfl
theorem in_X0_init : Cond.initialized yX0_init.cls ∈ wl := mW (mT1 (List.mem_of_getElem? (i := 5) (by decide +kernel))) rfl
theorem im_X0_init : Cond.instanceMethod yX0_init ∈ wl := mW (mT1 (List.mem_of_getElem? (i := 94) (by decide +kernel))) rfl
theorem lv_X7_27 : LCo RX7 27 yX0_init cX0_init 2 0 := ⟨rfl, yo_X0_init, Or.inl (mW (mT1 (List.mem_of_getElem? (i := 93) (by decide +kernel))) rfl), im_X0_init, in_X0_init, co_X0_init⟩
theorem fq_X7_28 : FLP RX7 28 7 2 := ⟨⟨RX7, TX7, 10, rfl, by decide, inl7, mW (mT1 (List.mem_of_getElem? (i := 207) (by decide +kernel))) rfl⟩, by decide, by decide +kernel⟩
theorem fr7_2 : FPR 7 2 RX7 := ⟨ft7, (RX7, TX7, 10), rfl, by decide +kernel, rfl, fun ty h a => by rw [tyX7_ok 2 (by decide)] at h; cases h; exact ⟨rfl, rfl⟩⟩
theorem dX7_init_0 : decode cX7_init 0 = .ok (.aload_n 0, 1) := by decide +kernel
theorem dX7_init_1 : decode cX7_init 1 = .ok (.invokespecial 3, 3) := by decide +kernel
theorem dX7_init_4 : decode cX7_init 4 = .ok (.aload_n 0, 1) := by decide +kernel
theorem dX7_init_5 : decode cX7_init 5 = .ok (.new 9, 3) := by decide +kernel
theorem dX7_init_8 : decode cX7_init 8 = .ok (.dup, 1) := by decide +kernel
theorem dX7_init_9 : decode cX7_init 9 = .ok (.invokespecial 11, 3) := by decide +kernel
theorem dX7_init_12 : decode cX7_init 12 = .ok (.putfield 12, 3) := by decide +kernel
theorem dX7_init_15 : decode cX7_init 15 = .ok (.aload_n 0, 1) := by decide +kernel
theorem dX7_init_16 : decode cX7_init 16 = .ok (.new 18, 3) := by decide +kernel
theorem dX7_init_19 : decode cX7_init 19 = .ok (.dup, 1) := by decide +kernel
theorem dX7_init_20 : decode cX7_init 20 = .ok (.invokespecial 20, 3) := by decide +kernel
theorem dX7_init_23 : decode cX7_init 23 = .ok (.putfield 21, 3) := by decide +kernel
theorem dX7_init_26 : decode cX7_init 26 = .ok (.aload_n 0, 1) := by decide +kernel
theorem dX7_init_27 : decode cX7_init 27 = .ok (.new 25, 3) := by decide +kernel
theorem dX7_init_30 : decode cX7_init 30 = .ok (.dup, 1) := by decide +kernel
theorem dX7_init_31 : decode cX7_init 31 = .ok (.invokespecial 27, 3) := by decide +kernel
theorem dX7_init_34 : decode cX7_init 34 = .ok (.putfield 28, 3) := by decide +kernel
theorem dX7_init_37 : decode cX7_init 37 = .ok (.return_, 1) := by decide +kernel
def rmX7_init : Room := { frames := 3, cells := 114, slots := 2079, locals := 65 }
set_option maxRecDepth 100000 in
def fX7_init_E (N : Nat) (x0 : Nat) (n0 s0 : Nat) (g : Gs) (d : Ds) : Option (Gs × Ds) := gd (gN g < 100000) <| gd (gN g + 1 - n0 ≤ 114 ∧ gS g + 6 - s0 ≤ 2079) <| bd (nG g 8 0 6) fun g3 => (bd (nD g d) fun d4 => (bd (gN g) fun r5 => (gd (0 < gN g3) <| cb (fX8_init N r5 g3 d4) fun g8 d9 => (gd (gN g8 = gN g3 + 4 ∧ gS g8 = gS g3 + 1604) <| gd (gN g8 - n0 ≤ 114 ∧ gS g8 - s0 ≤ 2079) <| gd (chk g8 x0 7) <| bd (sR g8 x0 0 r5) fun g15 => (gd (gN g15 < 100000) <| gd (gN g15 + 1 - n0 ≤ 114 ∧ gS g15 + 3 - s0 ≤ 2079) <| bd (nG g15 2 0 3) fun g19 => (bd (nD g15 d9) fun d20 => (bd (gN g15) fun r21 => (gd (0 < gN g19) <| cb (fX2_init N r21 g19 d20) fun g24 d25 => (gd (gN g24 = gN g19 + 0 ∧ gS g24 = gS g19 + 0) <| gd (gN g24 - n0 ≤ 114 ∧ gS g24 - s0 ≤ 2079) <| gd (chk g24 x0 7) <| bd (sR g24 x0 1 r21) fun g31 => (gd (gN g31 < 100000) <| gd (gN g31 + 1 - n0 ≤ 114 ∧ gS g31 + 19 - s0 ≤ 2079) <| bd (nG g31 0 0 19) fun g35 => (bd (nD g31 d25) fun d36 => (bd (gN g31) fun r37 => (gd (0 < gN g35) <| cb (fX0_init N r37 g35 d36) fun g40 d41 => (gd (gN g40 = gN g35 + 107 ∧ gS g40 = gS g35 + 447) <| gd (gN g40 - n0 ≤ 114 ∧ gS g40 - s0 ≤ 2079) <| gd (chk g40 x0 7) <| bd (sR g40 x0 2 r37) fun g47 => (gd (gN g47 = n0 + 114 ∧ gS g47 = s0 + 2079) <| some (g47, d41))))))))))))))))
def fX7_init (N : Nat) (x0 : Nat) (g : Gs) (d : Ds) : Option (Gs × Ds) := fX7_init_E N x0 (gN g) (gS g) g d
set_option maxHeartbeats 4000000 in
set_option maxRecDepth 100000 in
theorem tX7_init_E {p : Program} {l : Launch} {e : Env} {s : State} {m : MethodId} {args : Array Value} {below : List Frame} {meth : Method} {c : Code} {D : va_G} {cy : Nat → ClassId} {B : Bs} (C : Cx p s m args c cX7_init 1 RX7 D cy B) (hr : meth.sig.returnType = none) (hlocks : meth.locks = false) (hin : meth.name = "<init>") {n0 s0 : Nat} (hz : s.heap.size = B.1 + n0) {N : Nat} {x0 : Nat} {gz : Gs} {dz : Ds} {g : Gs} {d : Ds} (hn : n0 ≤ gN g) (hs : s0 ≤ gS g) (hf : fX7_init_E N x0 n0 s0 g d = some (gz, dz)) : WB p l e rmX7_init s m args below meth c 1 D cy B (gN g - n0) (gS g - s0) (MQ below (QV D cy B gz dz) args s 114 2079 (wA B)) g d [(0, .ref (ad B x0))] 0 [] := by
  unfold fX7_init_E at hf
  refine b_aload_n C dX7_init_0 0 rfl rfl ?_
  refine b_objInit C oi_X7_3 oi_i oi_c (by decide) (by decide) dX7_init_1 ?_
  refine b_aload_n C dX7_init_4 0 rfl rfl ?_
  obtain ⟨h1, hf⟩ := gd_s hf
  obtain ⟨h2, hf⟩ := gd_s hf
  obtain ⟨g3, eg3, hf⟩ := bd_s hf
  obtain ⟨d4, ed4, hf⟩ := bd_s hf
  obtain ⟨r5, er5, hf⟩ := bd_s hf
  refine b_new C dX7_init_5 nw_X7_9 hz hn hs h1 h2 eg3 ed4 (fun hn6 hn6s => ?_)
  refine b_topR er5 ?_
  refine b_dup C dX7_init_8 rfl ?_
  obtain ⟨h7, hf⟩ := gd_s hf
  obtain ⟨g8, d9, k10, hf⟩ := cb_s hf
  obtain ⟨h12, hf⟩ := gd_s hf
  obtain ⟨h13, hf⟩ := gd_s hf
  refine b_callC C [.ref (ad B r5), .ref (ad B x0)] dX7_init_9 (kX8_init l D cy B k10) lv_X7_11 ⟨rfl, rfl, Nat.le_of_ble_eq_true rfl, Nat.le_of_ble_eq_true rfl⟩ rfl (Nat.le_of_ble_eq_true rfl) hz hn6 hn6s h7 h12 h13 rfl (fun hn11 hn11s => ?_)
  obtain ⟨h14, hf⟩ := gd_s hf
  obtain ⟨g15, eg15, hf⟩ := bd_s hf
  refine b_pRC C dX7_init_12 fq_X7_12 fr7_0 hin h14 eg15 ?_
  have hn16 : n0 ≤ gN g15 := by rw [eg15]; exact hn11
  have hn16s : s0 ≤ gS g15 := by rw [eg15]; exact hn11s
  refine b_aload_n C dX7_init_15 0 rfl rfl ?_
  obtain ⟨h17, hf⟩ := gd_s hf
  obtain ⟨h18, hf⟩ := gd_s hf
  obtain ⟨g19, eg19, hf⟩ := bd_s hf
  obtain ⟨d20, ed20, hf⟩ := bd_s hf
  obtain ⟨r21, er21, hf⟩ := bd_s hf
  refine b_new C dX7_init_16 nw_X7_18 hz hn16 hn16s h17 h18 eg19 ed20 (fun hn22 hn22s => ?_)
  refine b_topR er21 ?_
  refine b_dup C dX7_init_19 rfl ?_
  obtain ⟨h23, hf⟩ := gd_s hf
  obtain ⟨g24, d25, k26, hf⟩ := cb_s hf
  obtain ⟨h28, hf⟩ := gd_s hf
  obtain ⟨h29, hf⟩ := gd_s hf
  refine b_callC C [.ref (ad B r21), .ref (ad B x0)] dX7_init_20 (kX2_init l D cy B k26) lv_X7_20 ⟨rfl, rfl, Nat.le_of_ble_eq_true rfl, Nat.le_of_ble_eq_true rfl⟩ rfl (Nat.le_of_ble_eq_true rfl) hz hn22 hn22s h23 h28 h29 rfl (fun hn27 hn27s => ?_)
  obtain ⟨h30, hf⟩ := gd_s hf
  obtain ⟨g31, eg31, hf⟩ := bd_s hf
  refine b_pRC C dX7_init_23 fq_X7_21 fr7_1 hin h30 eg31 ?_
  have hn32 : n0 ≤ gN g31 := by rw [eg31]; exact hn27
  have hn32s : s0 ≤ gS g31 := by rw [eg31]; exact hn27s
  refine b_aload_n C dX7_init_26 0 rfl rfl ?_
  obtain ⟨h33, hf⟩ := gd_s hf
  obtain ⟨h34, hf⟩ := gd_s hf
  obtain ⟨g35, eg35, hf⟩ := bd_s hf
  obtain ⟨d36, ed36, hf⟩ := bd_s hf
  obtain ⟨r37, er37, hf⟩ := bd_s hf
  refine b_new C dX7_init_27 nw_X7_25 hz hn32 hn32s h33 h34 eg35 ed36 (fun hn38 hn38s => ?_)
  refine b_topR er37 ?_
  refine b_dup C dX7_init_30 rfl ?_
  obtain ⟨h39, hf⟩ := gd_s hf
  obtain ⟨g40, d41, k42, hf⟩ := cb_s hf
  obtain ⟨h44, hf⟩ := gd_s hf
  obtain ⟨h45, hf⟩ := gd_s hf
  refine b_callC C [.ref (ad B r37), .ref (ad B x0)] dX7_init_31 (kX0_init l D cy B k42) lv_X7_27 ⟨rfl, rfl, Nat.le_of_ble_eq_true rfl, Nat.le_of_ble_eq_true rfl⟩ rfl (Nat.le_of_ble_eq_true rfl) hz hn38 hn38s h39 h44 h45 rfl (fun hn43 hn43s => ?_)
  obtain ⟨h46, hf⟩ := gd_s hf
  obtain ⟨g47, eg47, hf⟩ := bd_s hf
  refine b_pRC C dX7_init_34 fq_X7_28 fr7_2 hin h46 eg47 ?_
  have hn48 : n0 ≤ gN g47 := by rw [eg47]; exact hn43
  have hn48s : s0 ≤ gS g47 := by rw [eg47]; exact hn43s
  obtain ⟨h49, hf⟩ := gd_s hf
  exact b_vretC C hr hlocks h49 hf dX7_init_37
theorem kX7_init (l : Launch) (D : va_G) (cy : Nat → ClassId) (B : Bs) {N : Nat} {g : Gs} {x0 : Nat} {gz : Gs} {dz : Ds} {d : Ds} (hf : fX7_init N x0 g d = some (gz, dz)) : Met l yX7_init (.code yX7_init cX7_init 1 none :: wl) rmX7_init (PCC D cy B [.ref (ad B x0)] g d) (QV D cy B gz dz) 114 2079 (wA B) :=
  met_ofC (by decide +kernel) (Nat.le_of_ble_eq_true rfl) (fun p e s m args below meth c C hr hlocks hin hz => b_sub [(0, .ref (ad B x0))] [0] rfl (tX7_init_E C hr hlocks hin hz (Nat.le_refl _) (Nat.le_refl _) hf))
/-! KeyMatrix$Wiring.<init>()V -/
theorem oi_X9_3 : Cond.methodLink RX9 3 objectInit ∈ wl := mW (mT2 (List.mem_of_getElem? (i := 5) (by decide +kernel))) rfl
theorem inl9 : ∀ w ∈ u_ws RX9 TX9 4, w ∈ wl := by
  have h0 : u_ws RX9 TX9 4 = [Cond.laysFinal "KeyMatrix$Wiring" "KeyMatrix$Wiring" "partOf" "[I", Cond.lays "KeyMatrix$Wiring" "KeyMatrix$Wiring" "parts" "I", Cond.lays "KeyMatrix$Wiring" "KeyMatrix$Wiring" "seen" "I", Cond.lays "KeyMatrix$Wiring" "KeyMatrix$Wiring" "barred" "I"] := by decide +kernel
  rw [h0]
  exact List.forall_mem_cons.mpr ⟨mW (mT2 (List.mem_of_getElem? (i := 13) (by decide +kernel))) rfl, List.forall_mem_cons.mpr ⟨mW (mT2 (List.mem_of_getElem? (i := 15) (by decide +kernel))) rfl, List.forall_mem_cons.mpr ⟨mW (mT2 (List.mem_of_getElem? (i := 17) (by decide +kernel))) rfl, List.forall_mem_cons.mpr ⟨mW (mT2 (List.mem_of_getElem? (i := 19) (by decide +kernel))) rfl, fun _ h => absurd h List.not_mem_nil⟩⟩⟩⟩
theorem fq_X9_9 : FLP RX9 9 9 0 := ⟨⟨RX9, TX9, 4, rfl, by decide, inl9, mW (mT2 (List.mem_of_getElem? (i := 6) (by decide +kernel))) rfl⟩, by decide, by decide +kernel⟩
theorem ft9 : FT 9 := ⟨RX9, TX9, 4, tyX9, rfl, tyX9_ok, nmX9⟩
theorem fr9_0 : FPR 9 0 RX9 := ⟨ft9, (RX9, TX9, 4), rfl, by decide +kernel, rfl, fun ty h a => by rw [tyX9_ok 0 (by decide)] at h; cases h; exact ⟨rfl, rfl⟩⟩
theorem dX9_init_0 : decode cX9_init 0 = .ok (.aload_n 0, 1) := by decide +kernel
theorem dX9_init_1 : decode cX9_init 1 = .ok (.invokespecial 3, 3) := by decide +kernel
theorem dX9_init_4 : decode cX9_init 4 = .ok (.aload_n 0, 1) := by decide +kernel
theorem dX9_init_5 : decode cX9_init 5 = .ok (.bipush 10, 2) := by decide +kernel
theorem dX9_init_7 : decode cX9_init 7 = .ok (.newarray .int, 2) := by decide +kernel
theorem dX9_init_9 : decode cX9_init 9 = .ok (.putfield 9, 3) := by decide +kernel
theorem dX9_init_12 : decode cX9_init 12 = .ok (.return_, 1) := by decide +kernel
def rmX9_init : Room := { frames := 1, cells := 1, slots := 10, locals := 20 }
set_option maxRecDepth 100000 in
def fX9_init_E (N : Nat) (x0 : Nat) (n0 s0 : Nat) (g : Gs) (d : Ds) : Option (Gs × Ds) := gd (¬ (10 : Int32) < 0) <| gd ((10 : Int32).toNatClampNeg ≤ 60000000) <| gd (gN g < 100000) <| gd (gN g + 1 - n0 ≤ 1 ∧ gS g + (10 : Int32).toNatClampNeg - s0 ≤ 10) <| bd (nG g 102 (10 : Int32).toNatClampNeg (10 : Int32).toNatClampNeg) fun g5 => (bd (nD g d) fun d6 => (bd (gN g) fun r7 => (gd (chk g5 x0 9) <| bd (sR g5 x0 0 r7) fun g10 => (gd (gN g10 = n0 + 1 ∧ gS g10 = s0 + 10) <| some (g10, d6)))))
def fX9_init (N : Nat) (x0 : Nat) (g : Gs) (d : Ds) : Option (Gs × Ds) := fX9_init_E N x0 (gN g) (gS g) g d
set_option maxHeartbeats 4000000 in
set_option maxRecDepth 100000 in
theorem tX9_init_E {p : Program} {l : Launch} {e : Env} {s : State} {m : MethodId} {args : Array Value} {below : List Frame} {meth : Method} {c : Code} {D : va_G} {cy : Nat → ClassId} {B : Bs} (C : Cx p s m args c cX9_init 1 RX9 D cy B) (hr : meth.sig.returnType = none) (hlocks : meth.locks = false) (hin : meth.name = "<init>") {n0 s0 : Nat} (hz : s.heap.size = B.1 + n0) {N : Nat} {x0 : Nat} {gz : Gs} {dz : Ds} {g : Gs} {d : Ds} (hn : n0 ≤ gN g) (hs : s0 ≤ gS g) (hf : fX9_init_E N x0 n0 s0 g d = some (gz, dz)) : WB p l e rmX9_init s m args below meth c 1 D cy B (gN g - n0) (gS g - s0) (MQ below (QV D cy B gz dz) args s 1 10 (wA B)) g d [(0, .ref (ad B x0))] 0 [] := by
  unfold fX9_init_E at hf
  refine b_aload_n C dX9_init_0 0 rfl rfl ?_
  refine b_objInit C oi_X9_3 oi_i oi_c (by decide) (by decide) dX9_init_1 ?_
  refine b_aload_n C dX9_init_4 0 rfl rfl ?_
  refine b_bipush C (v := 10) dX9_init_5 (by decide) ?_
  obtain ⟨h1, hf⟩ := gd_s hf
  obtain ⟨h2, hf⟩ := gd_s hf
  obtain ⟨h3, hf⟩ := gd_s hf
  obtain ⟨h4, hf⟩ := gd_s hf
  obtain ⟨g5, eg5, hf⟩ := bd_s hf
  obtain ⟨d6, ed6, hf⟩ := bd_s hf
  obtain ⟨r7, er7, hf⟩ := bd_s hf
  refine b_newaI C dX9_init_7 ar_int hz hn hs h3 h1 h2 h4 eg5 ed6 (fun hn8 hn8s => ?_)
  refine b_topR er7 ?_
  obtain ⟨h9, hf⟩ := gd_s hf
  obtain ⟨g10, eg10, hf⟩ := bd_s hf
  refine b_pRC C dX9_init_9 fq_X9_9 fr9_0 hin h9 eg10 ?_
  have hn11 : n0 ≤ gN g10 := by rw [eg10]; exact hn8
  have hn11s : s0 ≤ gS g10 := by rw [eg10]; exact hn8s
  obtain ⟨h12, hf⟩ := gd_s hf
  exact b_vretC C hr hlocks h12 hf dX9_init_12
theorem kX9_init (l : Launch) (D : va_G) (cy : Nat → ClassId) (B : Bs) {N : Nat} {g : Gs} {x0 : Nat} {gz : Gs} {dz : Ds} {d : Ds} (hf : fX9_init N x0 g d = some (gz, dz)) : Met l yX9_init (.code yX9_init cX9_init 1 none :: wl) rmX9_init (PCC D cy B [.ref (ad B x0)] g d) (QV D cy B gz dz) 1 10 (wA B) :=
  met_ofC (by decide +kernel) (Nat.le_of_ble_eq_true rfl) (fun p e s m args below meth c C hr hlocks hin hz => b_sub [(0, .ref (ad B x0))] [0] rfl (tX9_init_E C hr hlocks hin hz (Nat.le_refl _) (Nat.le_refl _) hf))
/-! KeyMatrix.<init>()V -/
theorem oi_X11_3 : Cond.methodLink RX11 3 objectInit ∈ wl := mW (mT1 (List.mem_of_getElem? (i := 27) (by decide +kernel))) rfl
theorem ar_byte : Cond.arrayClass (newarray.typeOf .byte) ∈ wl := mW (mT1 (List.mem_of_getElem? (i := 63) (by decide +kernel))) rfl
theorem inl10 : ∀ w ∈ u_ws RX11 TX11 10, w ∈ wl := by
  have h0 : u_ws RX11 TX11 10 = [Cond.laysFinal "KeyMatrix" "KeyMatrix" "tape" "[B", Cond.lays "KeyMatrix" "KeyMatrix" "tapeLength" "I", Cond.lays "KeyMatrix" "KeyMatrix" "faultPlace" "I", Cond.laysFinal "KeyMatrix" "KeyMatrix" "reader" "LKeyMatrix$TextReader;", Cond.laysFinal "KeyMatrix" "KeyMatrix" "board" "LKeyMatrix$Board;", Cond.laysFinal "KeyMatrix" "KeyMatrix" "wiring" "LKeyMatrix$Wiring;", Cond.laysFinal "KeyMatrix" "KeyMatrix" "course" "LKeyMatrix$Course;", Cond.laysFinal "KeyMatrix" "KeyMatrix" "preview" "LKeyMatrix$Course;", Cond.laysFinal "KeyMatrix" "KeyMatrix" "slots" "[LKeyMatrix$Course;", Cond.lays "KeyMatrix" "KeyMatrix" "slotsHeld" "I"] := by decide +kernel
  rw [h0]
  exact List.forall_mem_cons.mpr ⟨mW (mT3 (List.mem_of_getElem? (i := 0) (by decide +kernel))) rfl, List.forall_mem_cons.mpr ⟨mW (mT3 (List.mem_of_getElem? (i := 2) (by decide +kernel))) rfl, List.forall_mem_cons.mpr ⟨mW (mT3 (List.mem_of_getElem? (i := 4) (by decide +kernel))) rfl, List.forall_mem_cons.mpr ⟨mW (mT3 (List.mem_of_getElem? (i := 6) (by decide +kernel))) rfl, List.forall_mem_cons.mpr ⟨mW (mT3 (List.mem_of_getElem? (i := 8) (by decide +kernel))) rfl, List.forall_mem_cons.mpr ⟨mW (mT3 (List.mem_of_getElem? (i := 10) (by decide +kernel))) rfl, List.forall_mem_cons.mpr ⟨mW (mT3 (List.mem_of_getElem? (i := 12) (by decide +kernel))) rfl, List.forall_mem_cons.mpr ⟨mW (mT3 (List.mem_of_getElem? (i := 14) (by decide +kernel))) rfl, List.forall_mem_cons.mpr ⟨mW (mT3 (List.mem_of_getElem? (i := 16) (by decide +kernel))) rfl, List.forall_mem_cons.mpr ⟨mW (mT3 (List.mem_of_getElem? (i := 18) (by decide +kernel))) rfl, fun _ h => absurd h List.not_mem_nil⟩⟩⟩⟩⟩⟩⟩⟩⟩⟩
theorem fq_X11_9 : FLP RX11 9 10 0 := ⟨⟨RX11, TX11, 10, rfl, by decide, inl10, mW (mT2 (List.mem_of_getElem? (i := 230) (by decide +kernel))) rfl⟩, by decide, by decide +kernel⟩
theorem ft10 : FT 10 := ⟨RX11, TX11, 10, tyX11, rfl, tyX11_ok, nmX11⟩
theorem fr10_0 : FPR 10 0 RX11 := ⟨ft10, (RX11, TX11, 10), rfl, by decide +kernel, rfl, fun ty h a => by rw [tyX11_ok 0 (by decide)] at h; cases h; exact ⟨rfl, rfl⟩⟩
theorem fl_X11_13 : FLI RX11 13 10 1 := ⟨⟨RX11, TX11, 10, rfl, by decide, inl10, Or.inl (mW (mT2 (List.mem_of_getElem? (i := 231) (by decide +kernel))) rfl)⟩, by decide, by decide +kernel⟩
theorem fp10_1 : FPI 10 1 := ⟨ft10, (RX11, TX11, 10), rfl, by decide +kernel, by decide +kernel⟩
theorem fl_X11_17 : FLI RX11 17 10 2 := ⟨⟨RX11, TX11, 10, rfl, by decide, inl10, Or.inl (mW (mT2 (List.mem_of_getElem? (i := 232) (by decide +kernel))) rfl)⟩, by decide, by decide +kernel⟩
theorem fp10_2 : FPI 10 2 := ⟨ft10, (RX11, TX11, 10), rfl, by decide +kernel, by decide +kernel⟩
theorem df7 : ∀ j, j < 10 → defaultValue (tyX7 j) = if fR 7 j then .null else .int 0 := by
  intro j hj
  rcases (show j = 0 ∨ j = 1 ∨ j = 2 ∨ j = 3 ∨ j = 4 ∨ j = 5 ∨ j = 6 ∨ j = 7 ∨ j = 8 ∨ j = 9 by omega) with rfl | rfl | rfl | rfl | rfl | rfl | rfl | rfl | rfl | rfl
  · rw [show fR 7 0 = true by decide +kernel]; rfl
  · rw [show fR 7 1 = true by decide +kernel]; rfl
  · rw [show fR 7 2 = true by decide +kernel]; rfl
  · rw [show fR 7 3 = false by decide +kernel]; rfl
  · rw [show fR 7 4 = false by decide +kernel]; rfl
  · rw [show fR 7 5 = false by decide +kernel]; rfl
  · rw [show fR 7 6 = false by decide +kernel]; rfl
  · rw [show fR 7 7 = false by decide +kernel]; rfl
  · rw [show fR 7 8 = false by decide +kernel]; rfl
  · rw [show fR 7 9 = false by decide +kernel]; rfl
theorem ic7 : Cond.instantiable RX7 10 ∈ wl := mW (mT1 (List.mem_of_getElem? (i := 31) (by decide +kernel))) rfl
theorem ii7 : Cond.initialized RX7 ∈ wl := mW (mT1 (List.mem_of_getElem? (i := 2) (by decide +kernel))) rfl
theorem nw_X11_20 : FNW RX11 20 7 10 := ⟨RX7, TX7, tyX7, rfl, by decide, inl7, tyX7_ok, mW (mT1 (List.mem_of_getElem? (i := 30) (by decide +kernel))) rfl, ic7, ii7, df7⟩
theorem yo_X7_init : yX7_init.cls ≠ "java/lang/invoke/MethodHandle" ∧ yX7_init.cls ≠ "java/lang/invoke/VarHandle" ∧ (parseMethodDescriptor yX7_init.desc).map (fun d => d.parameters.length) = some 0 := by decide +kernel
theorem co_X7_init : Cond.code yX7_init cX7_init 1 none ∈ wl := mW (mT1 (List.mem_of_getElem? (i := 34) (by decide +kernel))) rfl
theorem in_X7_init : Cond.initialized yX7_init.cls ∈ wl := mW (mT1 (List.mem_of_getElem? (i := 2) (by decide +kernel))) rfl
theorem im_X7_init : Cond.instanceMethod yX7_init ∈ wl := mW (mT1 (List.mem_of_getElem? (i := 33) (by decide +kernel))) rfl
theorem lv_X11_22 : LCo RX11 22 yX7_init cX7_init 1 0 := ⟨rfl, yo_X7_init, Or.inr (mT1 (List.mem_of_getElem? (i := 32) (by decide +kernel))), im_X7_init, in_X7_init, co_X7_init⟩
theorem fq_X11_23 : FLP RX11 23 10 3 := ⟨⟨RX11, TX11, 10, rfl, by decide, inl10, mW (mT2 (List.mem_of_getElem? (i := 233) (by decide +kernel))) rfl⟩, by decide, by decide +kernel⟩
theorem fr10_3 : FPR 10 3 RX11 := ⟨ft10, (RX11, TX11, 10), rfl, by decide +kernel, rfl, fun ty h a => by rw [tyX11_ok 3 (by decide)] at h; cases h; exact ⟨rfl, rfl⟩⟩
theorem nw_X11_27 : FNW RX11 27 0 19 := ⟨RX0, TX0, tyX0, rfl, by decide, inl0, tyX0_ok, mW (mT1 (List.mem_of_getElem? (i := 238) (by decide +kernel))) rfl, ic0, ii0, df0⟩
theorem lv_X11_29 : LCo RX11 29 yX0_init cX0_init 2 0 := ⟨rfl, yo_X0_init, Or.inl (mW (mT1 (List.mem_of_getElem? (i := 239) (by decide +kernel))) rfl), im_X0_init, in_X0_init, co_X0_init⟩
theorem fq_X11_30 : FLP RX11 30 10 4 := ⟨⟨RX11, TX11, 10, rfl, by decide, inl10, mW (mT2 (List.mem_of_getElem? (i := 234) (by decide +kernel))) rfl⟩, by decide, by decide +kernel⟩
theorem fr10_4 : FPR 10 4 RX11 := ⟨ft10, (RX11, TX11, 10), rfl, by decide +kernel, rfl, fun ty h a => by rw [tyX11_ok 4 (by decide)] at h; cases h; exact ⟨rfl, rfl⟩⟩
theorem df9 : ∀ j, j < 4 → defaultValue (tyX9 j) = if fR 9 j then .null else .int 0 := by
  intro j hj
  rcases (show j = 0 ∨ j = 1 ∨ j = 2 ∨ j = 3 by omega) with rfl | rfl | rfl | rfl
  · rw [show fR 9 0 = true by decide +kernel]; rfl
  · rw [show fR 9 1 = false by decide +kernel]; rfl
  · rw [show fR 9 2 = false by decide +kernel]; rfl
  · rw [show fR 9 3 = false by decide +kernel]; rfl
theorem ic9 : Cond.instantiable RX9 4 ∈ wl := mW (mT2 (List.mem_of_getElem? (i := 1) (by decide +kernel))) rfl
theorem ii9 : Cond.initialized RX9 ∈ wl := mW (mT1 (List.mem_of_getElem? (i := 6) (by decide +kernel))) rfl
theorem nw_X11_34 : FNW RX11 34 9 4 := ⟨RX9, TX9, tyX9, rfl, by decide, inl9, tyX9_ok, mW (mT2 (List.mem_of_getElem? (i := 0) (by decide +kernel))) rfl, ic9, ii9, df9⟩
theorem yo_X9_init : yX9_init.cls ≠ "java/lang/invoke/MethodHandle" ∧ yX9_init.cls ≠ "java/lang/invoke/VarHandle" ∧ (parseMethodDescriptor yX9_init.desc).map (fun d => d.parameters.length) = some 0 := by decide +kernel
theorem co_X9_init : Cond.code yX9_init cX9_init 1 none ∈ wl := mW (mT2 (List.mem_of_getElem? (i := 4) (by decide +kernel))) rfl
theorem in_X9_init : Cond.initialized yX9_init.cls ∈ wl := mW (mT1 (List.mem_of_getElem? (i := 6) (by decide +kernel))) rfl
theorem im_X9_init : Cond.instanceMethod yX9_init ∈ wl := mW (mT2 (List.mem_of_getElem? (i := 3) (by decide +kernel))) rfl
theorem lv_X11_36 : LCo RX11 36 yX9_init cX9_init 1 0 := ⟨rfl, yo_X9_init, Or.inr (mT2 (List.mem_of_getElem? (i := 2) (by decide +kernel))), im_X9_init, in_X9_init, co_X9_init⟩
theorem fq_X11_37 : FLP RX11 37 10 5 := ⟨⟨RX11, TX11, 10, rfl, by decide, inl10, mW (mT2 (List.mem_of_getElem? (i := 235) (by decide +kernel))) rfl⟩, by decide, by decide +kernel⟩
theorem fr10_5 : FPR 10 5 RX11 := ⟨ft10, (RX11, TX11, 10), rfl, by decide +kernel, rfl, fun ty h a => by rw [tyX11_ok 5 (by decide)] at h; cases h; exact ⟨rfl, rfl⟩⟩
theorem df1 : ∀ j, j < 6 → defaultValue (tyX1 j) = if fR 1 j then .null else .int 0 := by
  intro j hj
  rcases (show j = 0 ∨ j = 1 ∨ j = 2 ∨ j = 3 ∨ j = 4 ∨ j = 5 by omega) with rfl | rfl | rfl | rfl | rfl | rfl
  · rw [show fR 1 0 = true by decide +kernel]; rfl
  · rw [show fR 1 1 = true by decide +kernel]; rfl
  · rw [show fR 1 2 = true by decide +kernel]; rfl
  · rw [show fR 1 3 = true by decide +kernel]; rfl
  · rw [show fR 1 4 = true by decide +kernel]; rfl
  · rw [show fR 1 5 = false by decide +kernel]; rfl
theorem ic1 : Cond.instantiable RX1 6 ∈ wl := mW (mT2 (List.mem_of_getElem? (i := 23) (by decide +kernel))) rfl
theorem ii1 : Cond.initialized RX1 ∈ wl := mW (mT1 (List.mem_of_getElem? (i := 7) (by decide +kernel))) rfl
theorem nw_X11_41 : FNW RX11 41 1 6 := ⟨RX1, TX1, tyX1, rfl, by decide, inl1, tyX1_ok, mW (mT2 (List.mem_of_getElem? (i := 22) (by decide +kernel))) rfl, ic1, ii1, df1⟩
theorem fl_X11_30 : FLR RX11 30 10 4 := ⟨⟨RX11, TX11, 10, rfl, by decide, inl10, Or.inl (mW (mT2 (List.mem_of_getElem? (i := 234) (by decide +kernel))) rfl)⟩, by decide, by decide +kernel⟩
theorem yo_X1_init : yX1_init.cls ≠ "java/lang/invoke/MethodHandle" ∧ yX1_init.cls ≠ "java/lang/invoke/VarHandle" ∧ (parseMethodDescriptor yX1_init.desc).map (fun d => d.parameters.length) = some 1 := by decide +kernel
theorem co_X1_init : Cond.code yX1_init cX1_init 2 none ∈ wl := mW (mT2 (List.mem_of_getElem? (i := 26) (by decide +kernel))) rfl
theorem in_X1_init : Cond.initialized yX1_init.cls ∈ wl := mW (mT1 (List.mem_of_getElem? (i := 7) (by decide +kernel))) rfl
theorem im_X1_init : Cond.instanceMethod yX1_init ∈ wl := mW (mT2 (List.mem_of_getElem? (i := 25) (by decide +kernel))) rfl
theorem lv_X11_43 : LCo RX11 43 yX1_init cX1_init 2 1 := ⟨rfl, yo_X1_init, Or.inl (mW (mT2 (List.mem_of_getElem? (i := 24) (by decide +kernel))) rfl), im_X1_init, in_X1_init, co_X1_init⟩
theorem fq_X11_46 : FLP RX11 46 10 6 := ⟨⟨RX11, TX11, 10, rfl, by decide, inl10, mW (mT2 (List.mem_of_getElem? (i := 236) (by decide +kernel))) rfl⟩, by decide, by decide +kernel⟩
theorem fr10_6 : FPR 10 6 RX11 := ⟨ft10, (RX11, TX11, 10), rfl, by decide +kernel, rfl, fun ty h a => by rw [tyX11_ok 6 (by decide)] at h; cases h; exact ⟨rfl, rfl⟩⟩
theorem fq_X11_50 : FLP RX11 50 10 7 := ⟨⟨RX11, TX11, 10, rfl, by decide, inl10, mW (mT2 (List.mem_of_getElem? (i := 237) (by decide +kernel))) rfl⟩, by decide, by decide +kernel⟩
theorem fr10_7 : FPR 10 7 RX11 := ⟨ft10, (RX11, TX11, 10), rfl, by decide +kernel, rfl, fun ty h a => by rw [tyX11_ok 7 (by decide)] at h; cases h; exact ⟨rfl, rfl⟩⟩
theorem cw_X11_41 : Cond.classLink RX11 41 "KeyMatrix$Course" ∈ wl := mW (mT2 (List.mem_of_getElem? (i := 22) (by decide +kernel))) rfl
theorem fq_X11_53 : FLP RX11 53 10 8 := ⟨⟨RX11, TX11, 10, rfl, by decide, inl10, mW (mT2 (List.mem_of_getElem? (i := 238) (by decide +kernel))) rfl⟩, by decide, by decide +kernel⟩
theorem fr10_8 : FPR 10 8 RX11 := ⟨ft10, (RX11, TX11, 10), rfl, by decide +kernel, rfl, fun ty h a => by rw [tyX11_ok 8 (by decide)] at h; cases h; exact ⟨rfl, rfl⟩⟩
theorem fl_X11_57 : FLI RX11 57 10 9 := ⟨⟨RX11, TX11, 10, rfl, by decide, inl10, Or.inl (mW (mT2 (List.mem_of_getElem? (i := 239) (by decide +kernel))) rfl)⟩, by decide, by decide +kernel⟩
theorem fp10_9 : FPI 10 9 := ⟨ft10, (RX11, TX11, 10), rfl, by decide +kernel, by decide +kernel⟩
theorem fl_X11_53 : FLR RX11 53 10 8 := ⟨⟨RX11, TX11, 10, rfl, by decide, inl10, Or.inl (mW (mT2 (List.mem_of_getElem? (i := 238) (by decide +kernel))) rfl)⟩, by decide, by decide +kernel⟩
theorem dX11_init_0 : decode cX11_init 0 = .ok (.aload_n 0, 1) := by decide +kernel
theorem dX11_init_1 : decode cX11_init 1 = .ok (.invokespecial 3, 3) := by decide +kernel
theorem dX11_init_4 : decode cX11_init 4 = .ok (.aload_n 0, 1) := by decide +kernel
theorem dX11_init_5 : decode cX11_init 5 = .ok (.sipush 2000, 3) := by decide +kernel
theorem dX11_init_8 : decode cX11_init 8 = .ok (.newarray .byte, 2) := by decide +kernel
theorem dX11_init_10 : decode cX11_init 10 = .ok (.putfield 9, 3) := by decide +kernel
theorem dX11_init_13 : decode cX11_init 13 = .ok (.aload_n 0, 1) := by decide +kernel
theorem dX11_init_14 : decode cX11_init 14 = .ok (.iconst 0, 1) := by decide +kernel
theorem dX11_init_15 : decode cX11_init 15 = .ok (.putfield 13, 3) := by decide +kernel
theorem dX11_init_18 : decode cX11_init 18 = .ok (.aload_n 0, 1) := by decide +kernel
theorem dX11_init_19 : decode cX11_init 19 = .ok (.iconst (-1), 1) := by decide +kernel
theorem dX11_init_20 : decode cX11_init 20 = .ok (.putfield 17, 3) := by decide +kernel
theorem dX11_init_23 : decode cX11_init 23 = .ok (.aload_n 0, 1) := by decide +kernel
theorem dX11_init_24 : decode cX11_init 24 = .ok (.new 20, 3) := by decide +kernel
theorem dX11_init_27 : decode cX11_init 27 = .ok (.dup, 1) := by decide +kernel
theorem dX11_init_28 : decode cX11_init 28 = .ok (.invokespecial 22, 3) := by decide +kernel
theorem dX11_init_31 : decode cX11_init 31 = .ok (.putfield 23, 3) := by decide +kernel
theorem dX11_init_34 : decode cX11_init 34 = .ok (.aload_n 0, 1) := by decide +kernel
theorem dX11_init_35 : decode cX11_init 35 = .ok (.new 27, 3) := by decide +kernel
theorem dX11_init_38 : decode cX11_init 38 = .ok (.dup, 1) := by decide +kernel
theorem dX11_init_39 : decode cX11_init 39 = .ok (.invokespecial 29, 3) := by decide +kernel
theorem dX11_init_42 : decode cX11_init 42 = .ok (.putfield 30, 3) := by decide +kernel
theorem dX11_init_45 : decode cX11_init 45 = .ok (.aload_n 0, 1) := by decide +kernel
theorem dX11_init_46 : decode cX11_init 46 = .ok (.new 34, 3) := by decide +kernel
theorem dX11_init_49 : decode cX11_init 49 = .ok (.dup, 1) := by decide +kernel
theorem dX11_init_50 : decode cX11_init 50 = .ok (.invokespecial 36, 3) := by decide +kernel
theorem dX11_init_53 : decode cX11_init 53 = .ok (.putfield 37, 3) := by decide +kernel
theorem dX11_init_56 : decode cX11_init 56 = .ok (.aload_n 0, 1) := by decide +kernel
theorem dX11_init_57 : decode cX11_init 57 = .ok (.new 41, 3) := by decide +kernel
theorem dX11_init_60 : decode cX11_init 60 = .ok (.dup, 1) := by decide +kernel
theorem dX11_init_61 : decode cX11_init 61 = .ok (.aload_n 0, 1) := by decide +kernel
theorem dX11_init_62 : decode cX11_init 62 = .ok (.getfield 30, 3) := by decide +kernel
theorem dX11_init_65 : decode cX11_init 65 = .ok (.invokespecial 43, 3) := by decide +kernel
theorem dX11_init_68 : decode cX11_init 68 = .ok (.putfield 46, 3) := by decide +kernel
theorem dX11_init_71 : decode cX11_init 71 = .ok (.aload_n 0, 1) := by decide +kernel
theorem dX11_init_72 : decode cX11_init 72 = .ok (.new 41, 3) := by decide +kernel
theorem dX11_init_75 : decode cX11_init 75 = .ok (.dup, 1) := by decide +kernel
theorem dX11_init_76 : decode cX11_init 76 = .ok (.aload_n 0, 1) := by decide +kernel
theorem dX11_init_77 : decode cX11_init 77 = .ok (.getfield 30, 3) := by decide +kernel
theorem dX11_init_80 : decode cX11_init 80 = .ok (.invokespecial 43, 3) := by decide +kernel
theorem dX11_init_83 : decode cX11_init 83 = .ok (.putfield 50, 3) := by decide +kernel
theorem dX11_init_86 : decode cX11_init 86 = .ok (.aload_n 0, 1) := by decide +kernel
theorem dX11_init_87 : decode cX11_init 87 = .ok (.iconst 3, 1) := by decide +kernel
theorem dX11_init_88 : decode cX11_init 88 = .ok (.anewarray 41, 3) := by decide +kernel
theorem dX11_init_91 : decode cX11_init 91 = .ok (.putfield 53, 3) := by decide +kernel
theorem dX11_init_94 : decode cX11_init 94 = .ok (.iconst 0, 1) := by decide +kernel
theorem dX11_init_95 : decode cX11_init 95 = .ok (.istore_n 1, 1) := by decide +kernel
theorem dX11_init_96 : decode cX11_init 96 = .ok (.iload_n 1, 1) := by decide +kernel
theorem dX11_init_97 : decode cX11_init 97 = .ok (.iconst 3, 1) := by decide +kernel
theorem dX11_init_98 : decode cX11_init 98 = .ok (.if_icmp .ge 26, 3) := by decide +kernel
theorem dX11_init_101 : decode cX11_init 101 = .ok (.aload_n 0, 1) := by decide +kernel
theorem dX11_init_102 : decode cX11_init 102 = .ok (.getfield 53, 3) := by decide +kernel
theorem dX11_init_105 : decode cX11_init 105 = .ok (.iload_n 1, 1) := by decide +kernel
theorem dX11_init_106 : decode cX11_init 106 = .ok (.new 41, 3) := by decide +kernel
theorem dX11_init_109 : decode cX11_init 109 = .ok (.dup, 1) := by decide +kernel
theorem dX11_init_110 : decode cX11_init 110 = .ok (.aload_n 0, 1) := by decide +kernel
theorem dX11_init_111 : decode cX11_init 111 = .ok (.getfield 30, 3) := by decide +kernel
theorem dX11_init_114 : decode cX11_init 114 = .ok (.invokespecial 43, 3) := by decide +kernel
theorem dX11_init_117 : decode cX11_init 117 = .ok (.aastore, 1) := by decide +kernel
theorem dX11_init_118 : decode cX11_init 118 = .ok (.iinc 1 1, 3) := by decide +kernel
theorem dX11_init_121 : decode cX11_init 121 = .ok (.goto (-25), 3) := by decide +kernel
theorem dX11_init_124 : decode cX11_init 124 = .ok (.aload_n 0, 1) := by decide +kernel
theorem dX11_init_125 : decode cX11_init 125 = .ok (.iconst 0, 1) := by decide +kernel
theorem dX11_init_126 : decode cX11_init 126 = .ok (.putfield 57, 3) := by decide +kernel
theorem dX11_init_129 : decode cX11_init 129 = .ok (.return_, 1) := by decide +kernel
def rmX11_init : Room := { frames := 4, cells := 327, slots := 23557, locals := 85 }
set_option maxRecDepth 100000 in
def fX11_init_B96 (N : Nat)  (x0 : Nat) (n0 s0 : Nat) (K96 : Int32 × Gs × Ds → Option (Gs × Ds)) (y1 : Int32) (g : Gs) (d : Ds) : Option (Gs × Ds) := if (3 : Int32) ≤ y1 then (gd (chk g x0 10) <| bd (sI d x0 9 0) fun d112 => (gd (gN g = n0 + 327 ∧ gS g = s0 + 23557) <| some (g, d112))) else (gd (chk g x0 10) <| ob (gR g x0 8) fun r115 => (gd (gN g < 100000) <| gd (gN g + 1 - n0 ≤ 327 ∧ gS g + 6 - s0 ≤ 23557) <| bd (nG g 1 0 6) fun g118 => (bd (nD g d) fun d119 => (bd (gN g) fun r120 => (gd (chk g118 x0 10) <| ob (gR g118 x0 4) fun r123 => (gd (0 < gN g118) <| cb (fX1_init N r120 r123 g118 d119) fun g125 d126 => (gd (gN g125 = gN g118 + 19 ∧ gS g125 = gS g118 + 3791) <| gd (gN g125 - n0 ≤ 327 ∧ gS g125 - s0 ≤ 23557) <| gd (chk g125 r115 106) <| gd (chk g125 r120 1) <| gd (¬ (y1 < 0 ∨ gL g125 r115 ≤ y1.toNatClampNeg)) <| bd (sR g125 r115 y1.toNatClampNeg r120) fun g134 => (bd (y1 + 1) fun u136 => (K96 (u136, g134, d126))))))))))
set_option maxHeartbeats 4000000 in
set_option maxRecDepth 100000 in
theorem tX11_init_96 {p : Program} {l : Launch} {e : Env} {s : State} {m : MethodId} {args : Array Value} {below : List Frame} {meth : Method} {c : Code} {D : va_G} {cy : Nat → ClassId} {B : Bs} (C : Cx p s m args c cX11_init 2 RX11 D cy B) (hr : meth.sig.returnType = none) (hlocks : meth.locks = false) (hin : meth.name = "<init>") {n0 s0 : Nat} (hz : s.heap.size = B.1 + n0) {N : Nat} {x0 : Nat} {gz : Gs} {dz : Ds} {K96 : Int32 × Gs × Ds → Option (Gs × Ds)} (hK96 : ∀ a, K96 a = some (gz, dz) → n0 ≤ gN a.2.1 → s0 ≤ gS a.2.1 → WB p l e rmX11_init s m args below meth c 2 D cy B (gN a.2.1 - n0) (gS a.2.1 - s0) (MQ below (QV D cy B gz dz) args s 327 23557 (wA B)) a.2.1 a.2.2 [(0, .ref (ad B x0)), (1, .int a.1)] 96 []) {y1 : Int32} {g : Gs} {d : Ds} (hn : n0 ≤ gN g) (hs : s0 ≤ gS g) (hf : fX11_init_B96 N x0 n0 s0 K96 y1 g d = some (gz, dz)) : WB p l e rmX11_init s m args below meth c 2 D cy B (gN g - n0) (gS g - s0) (MQ below (QV D cy B gz dz) args s 327 23557 (wA B)) g d [(0, .ref (ad B x0)), (1, .int y1)] 96 [] := by
  unfold fX11_init_B96 at hf
  refine b_iload_n C dX11_init_96 1 rfl rfl ?_
  refine b_iconst C (v := 3) dX11_init_97 (by decide) ?_
  refine b_icmp_ge C (tgt := 124) dX11_init_98 (by decide) (fun c110 => ?_) (fun c110 => ?_)
  · have hf := it_s c110 hf
    refine b_aload_n C dX11_init_124 0 rfl rfl ?_
    refine b_iconst C (v := 0) dX11_init_125 (by decide) ?_
    obtain ⟨h111, hf⟩ := gd_s hf
    obtain ⟨d112, ed112, hf⟩ := bd_s hf
    refine b_pI C dX11_init_126 fl_X11_57 fp10_9 h111 ed112 ?_
    obtain ⟨h113, hf⟩ := gd_s hf
    exact b_vretC C hr hlocks h113 hf dX11_init_129
  · have hf := if_s c110 hf
    refine b_aload_n C dX11_init_101 0 rfl rfl ?_
    obtain ⟨h114, hf⟩ := gd_s hf
    obtain ⟨r115, er115, hf⟩ := ob_s hf
    refine b_gR C dX11_init_102 fl_X11_53 h114 er115 ?_
    refine b_iload_n C dX11_init_105 1 rfl rfl ?_
    obtain ⟨h116, hf⟩ := gd_s hf
    obtain ⟨h117, hf⟩ := gd_s hf
    obtain ⟨g118, eg118, hf⟩ := bd_s hf
    obtain ⟨d119, ed119, hf⟩ := bd_s hf
    obtain ⟨r120, er120, hf⟩ := bd_s hf
    refine b_new C dX11_init_106 nw_X11_41 hz hn hs h116 h117 eg118 ed119 (fun hn121 hn121s => ?_)
    refine b_topR er120 ?_
    refine b_dup C dX11_init_109 rfl ?_
    refine b_aload_n C dX11_init_110 0 rfl rfl ?_
    obtain ⟨h122, hf⟩ := gd_s hf
    obtain ⟨r123, er123, hf⟩ := ob_s hf
    refine b_gR C dX11_init_111 fl_X11_30 h122 er123 ?_
    obtain ⟨h124, hf⟩ := gd_s hf
    obtain ⟨g125, d126, k127, hf⟩ := cb_s hf
    obtain ⟨h129, hf⟩ := gd_s hf
    obtain ⟨h130, hf⟩ := gd_s hf
    refine b_callC C [.ref (ad B r120), .int y1, .ref (ad B r115)] dX11_init_114 (kX1_init l D cy B k127) lv_X11_43 ⟨rfl, rfl, Nat.le_of_ble_eq_true rfl, Nat.le_of_ble_eq_true rfl⟩ rfl (Nat.le_of_ble_eq_true rfl) hz hn121 hn121s h124 h129 h130 rfl (fun hn128 hn128s => ?_)
    obtain ⟨h131, hf⟩ := gd_s hf
    obtain ⟨h132, hf⟩ := gd_s hf
    obtain ⟨h133, hf⟩ := gd_s hf
    obtain ⟨g134, eg134, hf⟩ := bd_s hf
    refine b_aastCC C dX11_init_117 h131 h132 h133 eg134 ?_
    have hn135 : n0 ≤ gN g134 := by rw [eg134]; exact hn128
    have hn135s : s0 ≤ gS g134 := by rw [eg134]; exact hn128s
    obtain ⟨u136, eu136, hf⟩ := bd_s hf
    refine b_iinc C dX11_init_118 1 rfl (by rw [eu136]; rfl) [(1, .int u136), (0, .ref (ad B x0))] (by decide) rfl ?_
    refine b_goto C (tgt := 96) dX11_init_121 (by decide) ?_
    refine b_sub [(0, .ref (ad B x0)), (1, .int u136)] [1, 0] rfl ?_
    exact hK96 (u136, g134, d126) hf hn135 hn135s
def fX11_init_L96 (N : Nat)  (x0 : Nat) (n0 s0 : Nat) : Int32 × Gs × Ds → Option (Gs × Ds) := lp (fun K96 a => fX11_init_B96 N x0 n0 s0 K96 a.1 a.2.1 a.2.2) N
theorem tX11_init_L96 {p : Program} {l : Launch} {e : Env} {s : State} {m : MethodId} {args : Array Value} {below : List Frame} {meth : Method} {c : Code} {D : va_G} {cy : Nat → ClassId} {B : Bs} (C : Cx p s m args c cX11_init 2 RX11 D cy B) (hr : meth.sig.returnType = none) (hlocks : meth.locks = false) (hin : meth.name = "<init>") {n0 s0 : Nat} (hz : s.heap.size = B.1 + n0) {N : Nat} {x0 : Nat} {gz : Gs} {dz : Ds} (a : Int32 × Gs × Ds) (hn : n0 ≤ gN a.2.1) (hs : s0 ≤ gS a.2.1) (hf : fX11_init_L96 N x0 n0 s0 a = some (gz, dz)) : WB p l e rmX11_init s m args below meth c 2 D cy B (gN a.2.1 - n0) (gS a.2.1 - s0) (MQ below (QV D cy B gz dz) args s 327 23557 (wA B)) a.2.1 a.2.2 [(0, .ref (ad B x0)), (1, .int a.1)] 96 [] := by
  unfold fX11_init_L96 at hf
  exact lp_w (G := fun a => n0 ≤ gN a.2.1 → s0 ≤ gS a.2.1 → WB p l e rmX11_init s m args below meth c 2 D cy B (gN a.2.1 - n0) (gS a.2.1 - s0) (MQ below (QV D cy B gz dz) args s 327 23557 (wA B)) a.2.1 a.2.2 [(0, .ref (ad B x0)), (1, .int a.1)] 96 []) (fun K96 hK96 a ha hn hs => tX11_init_96 C hr hlocks hin hz hK96 hn hs ha) N a hf hn hs
set_option maxRecDepth 100000 in
def fX11_init_E (N : Nat) (x0 : Nat) (n0 s0 : Nat) (g : Gs) (d : Ds) : Option (Gs × Ds) := gd (¬ (2000 : Int32) < 0) <| gd ((2000 : Int32).toNatClampNeg ≤ 60000000) <| gd (gN g < 100000) <| gd (gN g + 1 - n0 ≤ 327 ∧ gS g + (2000 : Int32).toNatClampNeg - s0 ≤ 23557) <| bd (nG g 100 (2000 : Int32).toNatClampNeg (2000 : Int32).toNatClampNeg) fun g5 => (bd (nD g d) fun d6 => (bd (gN g) fun r7 => (gd (chk g5 x0 10) <| bd (sR g5 x0 0 r7) fun g10 => (gd (chk g10 x0 10) <| bd (sI d6 x0 1 0) fun d13 => (bd (sI d13 x0 2 (-1)) fun d14 => (gd (gN g10 < 100000) <| gd (gN g10 + 1 - n0 ≤ 327 ∧ gS g10 + 10 - s0 ≤ 23557) <| bd (nG g10 7 0 10) fun g17 => (bd (nD g10 d14) fun d18 => (bd (gN g10) fun r19 => (gd (0 < gN g17) <| cb (fX7_init N r19 g17 d18) fun g22 d23 => (gd (gN g22 = gN g17 + 114 ∧ gS g22 = gS g17 + 2079) <| gd (gN g22 - n0 ≤ 327 ∧ gS g22 - s0 ≤ 23557) <| gd (chk g22 x0 10) <| bd (sR g22 x0 3 r19) fun g29 => (gd (gN g29 < 100000) <| gd (gN g29 + 1 - n0 ≤ 327 ∧ gS g29 + 19 - s0 ≤ 23557) <| bd (nG g29 0 0 19) fun g33 => (bd (nD g29 d23) fun d34 => (bd (gN g29) fun r35 => (gd (0 < gN g33) <| cb (fX0_init N r35 g33 d34) fun g38 d39 => (gd (gN g38 = gN g33 + 107 ∧ gS g38 = gS g33 + 447) <| gd (gN g38 - n0 ≤ 327 ∧ gS g38 - s0 ≤ 23557) <| gd (chk g38 x0 10) <| bd (sR g38 x0 4 r35) fun g45 => (gd (gN g45 < 100000) <| gd (gN g45 + 1 - n0 ≤ 327 ∧ gS g45 + 4 - s0 ≤ 23557) <| bd (nG g45 9 0 4) fun g49 => (bd (nD g45 d39) fun d50 => (bd (gN g45) fun r51 => (gd (0 < gN g49) <| cb (fX9_init N r51 g49 d50) fun g54 d55 => (gd (gN g54 = gN g49 + 1 ∧ gS g54 = gS g49 + 10) <| gd (gN g54 - n0 ≤ 327 ∧ gS g54 - s0 ≤ 23557) <| gd (chk g54 x0 10) <| bd (sR g54 x0 5 r51) fun g61 => (gd (gN g61 < 100000) <| gd (gN g61 + 1 - n0 ≤ 327 ∧ gS g61 + 6 - s0 ≤ 23557) <| bd (nG g61 1 0 6) fun g65 => (bd (nD g61 d55) fun d66 => (bd (gN g61) fun r67 => (gd (chk g65 x0 10) <| ob (gR g65 x0 4) fun r70 => (gd (0 < gN g65) <| cb (fX1_init N r67 r70 g65 d66) fun g72 d73 => (gd (gN g72 = gN g65 + 19 ∧ gS g72 = gS g65 + 3791) <| gd (gN g72 - n0 ≤ 327 ∧ gS g72 - s0 ≤ 23557) <| gd (chk g72 x0 10) <| bd (sR g72 x0 6 r67) fun g79 => (gd (gN g79 < 100000) <| gd (gN g79 + 1 - n0 ≤ 327 ∧ gS g79 + 6 - s0 ≤ 23557) <| bd (nG g79 1 0 6) fun g83 => (bd (nD g79 d73) fun d84 => (bd (gN g79) fun r85 => (gd (chk g83 x0 10) <| ob (gR g83 x0 4) fun r88 => (gd (0 < gN g83) <| cb (fX1_init N r85 r88 g83 d84) fun g90 d91 => (gd (gN g90 = gN g83 + 19 ∧ gS g90 = gS g83 + 3791) <| gd (gN g90 - n0 ≤ 327 ∧ gS g90 - s0 ≤ 23557) <| gd (chk g90 x0 10) <| bd (sR g90 x0 7 r85) fun g97 => (gd (¬ (3 : Int32) < 0) <| gd ((3 : Int32).toNatClampNeg ≤ 60000000) <| gd (gN g97 < 100000) <| gd (gN g97 + 1 - n0 ≤ 327 ∧ gS g97 + (3 : Int32).toNatClampNeg - s0 ≤ 23557) <| bd (nG g97 106 (3 : Int32).toNatClampNeg (3 : Int32).toNatClampNeg) fun g103 => (bd (nD g97 d91) fun d104 => (bd (gN g97) fun r105 => (gd (chk g103 x0 10) <| bd (sR g103 x0 8 r105) fun g108 => (fX11_init_L96 N x0 n0 s0 (0, g108, d104))))))))))))))))))))))))))))))))))))))
def fX11_init (N : Nat) (x0 : Nat) (g : Gs) (d : Ds) : Option (Gs × Ds) := fX11_init_E N x0 (gN g) (gS g) g d
set_option maxHeartbeats 4000000 in
set_option maxRecDepth 100000 in
theorem tX11_init_E {p : Program} {l : Launch} {e : Env} {s : State} {m : MethodId} {args : Array Value} {below : List Frame} {meth : Method} {c : Code} {D : va_G} {cy : Nat → ClassId} {B : Bs} (C : Cx p s m args c cX11_init 2 RX11 D cy B) (hr : meth.sig.returnType = none) (hlocks : meth.locks = false) (hin : meth.name = "<init>") {n0 s0 : Nat} (hz : s.heap.size = B.1 + n0) {N : Nat} {x0 : Nat} {gz : Gs} {dz : Ds} {g : Gs} {d : Ds} (hn : n0 ≤ gN g) (hs : s0 ≤ gS g) (hf : fX11_init_E N x0 n0 s0 g d = some (gz, dz)) : WB p l e rmX11_init s m args below meth c 2 D cy B (gN g - n0) (gS g - s0) (MQ below (QV D cy B gz dz) args s 327 23557 (wA B)) g d [(0, .ref (ad B x0))] 0 [] := by
  unfold fX11_init_E at hf
  refine b_aload_n C dX11_init_0 0 rfl rfl ?_
  refine b_objInit C oi_X11_3 oi_i oi_c (by decide) (by decide) dX11_init_1 ?_
  refine b_aload_n C dX11_init_4 0 rfl rfl ?_
  refine b_sipush C (v := 2000) dX11_init_5 (by decide) ?_
  obtain ⟨h1, hf⟩ := gd_s hf
  obtain ⟨h2, hf⟩ := gd_s hf
  obtain ⟨h3, hf⟩ := gd_s hf
  obtain ⟨h4, hf⟩ := gd_s hf
  obtain ⟨g5, eg5, hf⟩ := bd_s hf
  obtain ⟨d6, ed6, hf⟩ := bd_s hf
  obtain ⟨r7, er7, hf⟩ := bd_s hf
  refine b_newaB C dX11_init_8 ar_byte hz hn hs h3 h1 h2 h4 eg5 ed6 (fun hn8 hn8s => ?_)
  refine b_topR er7 ?_
  obtain ⟨h9, hf⟩ := gd_s hf
  obtain ⟨g10, eg10, hf⟩ := bd_s hf
  refine b_pRC C dX11_init_10 fq_X11_9 fr10_0 hin h9 eg10 ?_
  have hn11 : n0 ≤ gN g10 := by rw [eg10]; exact hn8
  have hn11s : s0 ≤ gS g10 := by rw [eg10]; exact hn8s
  refine b_aload_n C dX11_init_13 0 rfl rfl ?_
  refine b_iconst C (v := 0) dX11_init_14 (by decide) ?_
  obtain ⟨h12, hf⟩ := gd_s hf
  obtain ⟨d13, ed13, hf⟩ := bd_s hf
  refine b_pI C dX11_init_15 fl_X11_13 fp10_1 h12 ed13 ?_
  refine b_aload_n C dX11_init_18 0 rfl rfl ?_
  refine b_iconst C (v := (-1)) dX11_init_19 (by decide) ?_
  obtain ⟨d14, ed14, hf⟩ := bd_s hf
  refine b_pI C dX11_init_20 fl_X11_17 fp10_2 h12 ed14 ?_
  refine b_aload_n C dX11_init_23 0 rfl rfl ?_
  obtain ⟨h15, hf⟩ := gd_s hf
  obtain ⟨h16, hf⟩ := gd_s hf
  obtain ⟨g17, eg17, hf⟩ := bd_s hf
  obtain ⟨d18, ed18, hf⟩ := bd_s hf
  obtain ⟨r19, er19, hf⟩ := bd_s hf
  refine b_new C dX11_init_24 nw_X11_20 hz hn11 hn11s h15 h16 eg17 ed18 (fun hn20 hn20s => ?_)
  refine b_topR er19 ?_
  refine b_dup C dX11_init_27 rfl ?_
  obtain ⟨h21, hf⟩ := gd_s hf
  obtain ⟨g22, d23, k24, hf⟩ := cb_s hf
  obtain ⟨h26, hf⟩ := gd_s hf
  obtain ⟨h27, hf⟩ := gd_s hf
  refine b_callC C [.ref (ad B r19), .ref (ad B x0)] dX11_init_28 (kX7_init l D cy B k24) lv_X11_22 ⟨rfl, rfl, Nat.le_of_ble_eq_true rfl, Nat.le_of_ble_eq_true rfl⟩ rfl (Nat.le_of_ble_eq_true rfl) hz hn20 hn20s h21 h26 h27 rfl (fun hn25 hn25s => ?_)
  obtain ⟨h28, hf⟩ := gd_s hf
  obtain ⟨g29, eg29, hf⟩ := bd_s hf
  refine b_pRC C dX11_init_31 fq_X11_23 fr10_3 hin h28 eg29 ?_
  have hn30 : n0 ≤ gN g29 := by rw [eg29]; exact hn25
  have hn30s : s0 ≤ gS g29 := by rw [eg29]; exact hn25s
  refine b_aload_n C dX11_init_34 0 rfl rfl ?_
  obtain ⟨h31, hf⟩ := gd_s hf
  obtain ⟨h32, hf⟩ := gd_s hf
  obtain ⟨g33, eg33, hf⟩ := bd_s hf
  obtain ⟨d34, ed34, hf⟩ := bd_s hf
  obtain ⟨r35, er35, hf⟩ := bd_s hf
  refine b_new C dX11_init_35 nw_X11_27 hz hn30 hn30s h31 h32 eg33 ed34 (fun hn36 hn36s => ?_)
  refine b_topR er35 ?_
  refine b_dup C dX11_init_38 rfl ?_
  obtain ⟨h37, hf⟩ := gd_s hf
  obtain ⟨g38, d39, k40, hf⟩ := cb_s hf
  obtain ⟨h42, hf⟩ := gd_s hf
  obtain ⟨h43, hf⟩ := gd_s hf
  refine b_callC C [.ref (ad B r35), .ref (ad B x0)] dX11_init_39 (kX0_init l D cy B k40) lv_X11_29 ⟨rfl, rfl, Nat.le_of_ble_eq_true rfl, Nat.le_of_ble_eq_true rfl⟩ rfl (Nat.le_of_ble_eq_true rfl) hz hn36 hn36s h37 h42 h43 rfl (fun hn41 hn41s => ?_)
  obtain ⟨h44, hf⟩ := gd_s hf
  obtain ⟨g45, eg45, hf⟩ := bd_s hf
  refine b_pRC C dX11_init_42 fq_X11_30 fr10_4 hin h44 eg45 ?_
  have hn46 : n0 ≤ gN g45 := by rw [eg45]; exact hn41
  have hn46s : s0 ≤ gS g45 := by rw [eg45]; exact hn41s
  refine b_aload_n C dX11_init_45 0 rfl rfl ?_
  obtain ⟨h47, hf⟩ := gd_s hf
  obtain ⟨h48, hf⟩ := gd_s hf
  obtain ⟨g49, eg49, hf⟩ := bd_s hf
  obtain ⟨d50, ed50, hf⟩ := bd_s hf
  obtain ⟨r51, er51, hf⟩ := bd_s hf
  refine b_new C dX11_init_46 nw_X11_34 hz hn46 hn46s h47 h48 eg49 ed50 (fun hn52 hn52s => ?_)
  refine b_topR er51 ?_
  refine b_dup C dX11_init_49 rfl ?_
  obtain ⟨h53, hf⟩ := gd_s hf
  obtain ⟨g54, d55, k56, hf⟩ := cb_s hf
  obtain ⟨h58, hf⟩ := gd_s hf
  obtain ⟨h59, hf⟩ := gd_s hf
  refine b_callC C [.ref (ad B r51), .ref (ad B x0)] dX11_init_50 (kX9_init l D cy B k56) lv_X11_36 ⟨rfl, rfl, Nat.le_of_ble_eq_true rfl, Nat.le_of_ble_eq_true rfl⟩ rfl (Nat.le_of_ble_eq_true rfl) hz hn52 hn52s h53 h58 h59 rfl (fun hn57 hn57s => ?_)
  obtain ⟨h60, hf⟩ := gd_s hf
  obtain ⟨g61, eg61, hf⟩ := bd_s hf
  refine b_pRC C dX11_init_53 fq_X11_37 fr10_5 hin h60 eg61 ?_
  have hn62 : n0 ≤ gN g61 := by rw [eg61]; exact hn57
  have hn62s : s0 ≤ gS g61 := by rw [eg61]; exact hn57s
  refine b_aload_n C dX11_init_56 0 rfl rfl ?_
  obtain ⟨h63, hf⟩ := gd_s hf
  obtain ⟨h64, hf⟩ := gd_s hf
  obtain ⟨g65, eg65, hf⟩ := bd_s hf
  obtain ⟨d66, ed66, hf⟩ := bd_s hf
  obtain ⟨r67, er67, hf⟩ := bd_s hf
  refine b_new C dX11_init_57 nw_X11_41 hz hn62 hn62s h63 h64 eg65 ed66 (fun hn68 hn68s => ?_)
  refine b_topR er67 ?_
  refine b_dup C dX11_init_60 rfl ?_
  refine b_aload_n C dX11_init_61 0 rfl rfl ?_
  obtain ⟨h69, hf⟩ := gd_s hf
  obtain ⟨r70, er70, hf⟩ := ob_s hf
  refine b_gR C dX11_init_62 fl_X11_30 h69 er70 ?_
  obtain ⟨h71, hf⟩ := gd_s hf
  obtain ⟨g72, d73, k74, hf⟩ := cb_s hf
  obtain ⟨h76, hf⟩ := gd_s hf
  obtain ⟨h77, hf⟩ := gd_s hf
  refine b_callC C [.ref (ad B r67), .ref (ad B x0)] dX11_init_65 (kX1_init l D cy B k74) lv_X11_43 ⟨rfl, rfl, Nat.le_of_ble_eq_true rfl, Nat.le_of_ble_eq_true rfl⟩ rfl (Nat.le_of_ble_eq_true rfl) hz hn68 hn68s h71 h76 h77 rfl (fun hn75 hn75s => ?_)
  obtain ⟨h78, hf⟩ := gd_s hf
  obtain ⟨g79, eg79, hf⟩ := bd_s hf
  refine b_pRC C dX11_init_68 fq_X11_46 fr10_6 hin h78 eg79 ?_
  have hn80 : n0 ≤ gN g79 := by rw [eg79]; exact hn75
  have hn80s : s0 ≤ gS g79 := by rw [eg79]; exact hn75s
  refine b_aload_n C dX11_init_71 0 rfl rfl ?_
  obtain ⟨h81, hf⟩ := gd_s hf
  obtain ⟨h82, hf⟩ := gd_s hf
  obtain ⟨g83, eg83, hf⟩ := bd_s hf
  obtain ⟨d84, ed84, hf⟩ := bd_s hf
  obtain ⟨r85, er85, hf⟩ := bd_s hf
  refine b_new C dX11_init_72 nw_X11_41 hz hn80 hn80s h81 h82 eg83 ed84 (fun hn86 hn86s => ?_)
  refine b_topR er85 ?_
  refine b_dup C dX11_init_75 rfl ?_
  refine b_aload_n C dX11_init_76 0 rfl rfl ?_
  obtain ⟨h87, hf⟩ := gd_s hf
  obtain ⟨r88, er88, hf⟩ := ob_s hf
  refine b_gR C dX11_init_77 fl_X11_30 h87 er88 ?_
  obtain ⟨h89, hf⟩ := gd_s hf
  obtain ⟨g90, d91, k92, hf⟩ := cb_s hf
  obtain ⟨h94, hf⟩ := gd_s hf
  obtain ⟨h95, hf⟩ := gd_s hf
  refine b_callC C [.ref (ad B r85), .ref (ad B x0)] dX11_init_80 (kX1_init l D cy B k92) lv_X11_43 ⟨rfl, rfl, Nat.le_of_ble_eq_true rfl, Nat.le_of_ble_eq_true rfl⟩ rfl (Nat.le_of_ble_eq_true rfl) hz hn86 hn86s h89 h94 h95 rfl (fun hn93 hn93s => ?_)
  obtain ⟨h96, hf⟩ := gd_s hf
  obtain ⟨g97, eg97, hf⟩ := bd_s hf
  refine b_pRC C dX11_init_83 fq_X11_50 fr10_7 hin h96 eg97 ?_
  have hn98 : n0 ≤ gN g97 := by rw [eg97]; exact hn93
  have hn98s : s0 ≤ gS g97 := by rw [eg97]; exact hn93s
  refine b_aload_n C dX11_init_86 0 rfl rfl ?_
  refine b_iconst C (v := 3) dX11_init_87 (by decide) ?_
  obtain ⟨h99, hf⟩ := gd_s hf
  obtain ⟨h100, hf⟩ := gd_s hf
  obtain ⟨h101, hf⟩ := gd_s hf
  obtain ⟨h102, hf⟩ := gd_s hf
  obtain ⟨g103, eg103, hf⟩ := bd_s hf
  obtain ⟨d104, ed104, hf⟩ := bd_s hf
  obtain ⟨r105, er105, hf⟩ := bd_s hf
  refine b_newqC C dX11_init_88 cw_X11_41 hz hn98 hn98s h101 h99 h100 h102 eg103 ed104 (fun hn106 hn106s => ?_)
  refine b_topR er105 ?_
  obtain ⟨h107, hf⟩ := gd_s hf
  obtain ⟨g108, eg108, hf⟩ := bd_s hf
  refine b_pRC C dX11_init_91 fq_X11_53 fr10_8 hin h107 eg108 ?_
  have hn109 : n0 ≤ gN g108 := by rw [eg108]; exact hn106
  have hn109s : s0 ≤ gS g108 := by rw [eg108]; exact hn106s
  refine b_iconst C (v := 0) dX11_init_94 (by decide) ?_
  refine b_istore_n C dX11_init_95 rfl [(1, .int 0), (0, .ref (ad B x0))] (by decide) rfl ?_
  refine b_sub [(0, .ref (ad B x0)), (1, .int 0)] [1, 0] rfl ?_
  exact tX11_init_L96 C hr hlocks hin hz (0, g108, d104) hn109 hn109s hf
theorem kX11_init (l : Launch) (D : va_G) (cy : Nat → ClassId) (B : Bs) {N : Nat} {g : Gs} {x0 : Nat} {gz : Gs} {dz : Ds} {d : Ds} (hf : fX11_init N x0 g d = some (gz, dz)) : Met l yX11_init (.code yX11_init cX11_init 2 none :: wl) rmX11_init (PCC D cy B [.ref (ad B x0)] g d) (QV D cy B gz dz) 327 23557 (wA B) :=
  met_ofC (by decide +kernel) (Nat.le_of_ble_eq_true rfl) (fun p e s m args below meth c C hr hlocks hin hz => b_sub [(0, .ref (ad B x0))] [0] rfl (tX11_init_E C hr hlocks hin hz (Nat.le_refl _) (Nat.le_refl _) hf))
