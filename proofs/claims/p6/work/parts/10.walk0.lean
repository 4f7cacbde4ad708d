/-! KeyMatrix$Deed.<init>()V -/
theorem oi_X2_3 : Cond.methodLink RX2 3 objectInit ∈ wl := mW (mT1 (List.mem_of_getElem? (i := 70) (by decide +kernel))) rfl
theorem oi_i : Cond.instanceMethod objectInit ∈ wl := mW (mT1 (List.mem_of_getElem? (i := 28) (by decide +kernel))) rfl
theorem oi_c : Cond.code objectInit ⟨#[0xb1]⟩ 1 none ∈ wl := mW (mT1 (List.mem_of_getElem? (i := 29) (by decide +kernel))) rfl
theorem inl2 : ∀ w ∈ u_ws RX2 TX2 3, w ∈ wl := by
  have h0 : u_ws RX2 TX2 3 = [Cond.lays "KeyMatrix$Deed" "KeyMatrix$Deed" "kind" "I", Cond.lays "KeyMatrix$Deed" "KeyMatrix$Deed" "first" "I", Cond.lays "KeyMatrix$Deed" "KeyMatrix$Deed" "second" "I"] := by decide +kernel
  rw [h0]
  exact List.forall_mem_cons.mpr ⟨mW (mT1 (List.mem_of_getElem? (i := 84) (by decide +kernel))) rfl, List.forall_mem_cons.mpr ⟨mW (mT1 (List.mem_of_getElem? (i := 86) (by decide +kernel))) rfl, List.forall_mem_cons.mpr ⟨mW (mT1 (List.mem_of_getElem? (i := 88) (by decide +kernel))) rfl, fun _ h => absurd h List.not_mem_nil⟩⟩⟩
theorem fl_X2_9 : FLI RX2 9 2 0 := ⟨⟨RX2, TX2, 3, rfl, by decide, inl2, Or.inl (mW (mT1 (List.mem_of_getElem? (i := 71) (by decide +kernel))) rfl)⟩, by decide, by decide +kernel⟩
theorem ft2 : FT 2 := ⟨RX2, TX2, 3, tyX2, rfl, tyX2_ok, nmX2⟩
theorem fp2_0 : FPI 2 0 := ⟨ft2, (RX2, TX2, 3), rfl, by decide +kernel, by decide +kernel⟩
theorem fl_X2_15 : FLI RX2 15 2 1 := ⟨⟨RX2, TX2, 3, rfl, by decide, inl2, Or.inl (mW (mT1 (List.mem_of_getElem? (i := 76) (by decide +kernel))) rfl)⟩, by decide, by decide +kernel⟩
theorem fp2_1 : FPI 2 1 := ⟨ft2, (RX2, TX2, 3), rfl, by decide +kernel, by decide +kernel⟩
theorem fl_X2_18 : FLI RX2 18 2 2 := ⟨⟨RX2, TX2, 3, rfl, by decide, inl2, Or.inl (mW (mT1 (List.mem_of_getElem? (i := 80) (by decide +kernel))) rfl)⟩, by decide, by decide +kernel⟩
theorem fp2_2 : FPI 2 2 := ⟨ft2, (RX2, TX2, 3), rfl, by decide +kernel, by decide +kernel⟩
theorem dX2_init_0 : decode cX2_init 0 = .ok (.aload_n 0, 1) := by decide +kernel
theorem dX2_init_1 : decode cX2_init 1 = .ok (.invokespecial 3, 3) := by decide +kernel
theorem dX2_init_4 : decode cX2_init 4 = .ok (.aload_n 0, 1) := by decide +kernel
theorem dX2_init_5 : decode cX2_init 5 = .ok (.iconst 4, 1) := by decide +kernel
theorem dX2_init_6 : decode cX2_init 6 = .ok (.putfield 9, 3) := by decide +kernel
theorem dX2_init_9 : decode cX2_init 9 = .ok (.aload_n 0, 1) := by decide +kernel
theorem dX2_init_10 : decode cX2_init 10 = .ok (.iconst (-1), 1) := by decide +kernel
theorem dX2_init_11 : decode cX2_init 11 = .ok (.putfield 15, 3) := by decide +kernel
theorem dX2_init_14 : decode cX2_init 14 = .ok (.aload_n 0, 1) := by decide +kernel
theorem dX2_init_15 : decode cX2_init 15 = .ok (.iconst (-1), 1) := by decide +kernel
theorem dX2_init_16 : decode cX2_init 16 = .ok (.putfield 18, 3) := by decide +kernel
theorem dX2_init_19 : decode cX2_init 19 = .ok (.return_, 1) := by decide +kernel
def rmX2_init : Room := { frames := 1, cells := 0, slots := 0, locals := 20 }
set_option maxRecDepth 100000 in
def fX2_init_E (N : Nat) (x0 : Nat) (n0 s0 : Nat) (g : Gs) (d : Ds) : Option (Gs × Ds) := gd (chk g x0 2) <| bd (sI d x0 0 4) fun d2 => (bd (sI d2 x0 1 (-1)) fun d3 => (bd (sI d3 x0 2 (-1)) fun d4 => (gd (gN g = n0 + 0 ∧ gS g = s0 + 0) <| some (g, d4))))
def fX2_init (N : Nat) (x0 : Nat) (g : Gs) (d : Ds) : Option (Gs × Ds) := fX2_init_E N x0 (gN g) (gS g) g d
set_option maxHeartbeats 4000000 in
set_option maxRecDepth 100000 in
theorem tX2_init_E {p : Program} {l : Launch} {e : Env} {s : State} {m : MethodId} {args : Array Value} {below : List Frame} {meth : Method} {c : Code} {D : va_G} {cy : Nat → ClassId} {B : Bs} (C : Cx p s m args c cX2_init 1 RX2 D cy B) (hr : meth.sig.returnType = none) (hlocks : meth.locks = false) (hin : meth.name = "<init>") {n0 s0 : Nat} (hz : s.heap.size = B.1 + n0) {N : Nat} {x0 : Nat} {gz : Gs} {dz : Ds} {g : Gs} {d : Ds} (hn : n0 ≤ gN g) (hs : s0 ≤ gS g) (hf : fX2_init_E N x0 n0 s0 g d = some (gz, dz)) : WB p l e rmX2_init s m args below meth c 1 D cy B (gN g - n0) (gS g - s0) (MQ below (QV D cy B gz dz) args s 0 0 (wA B)) g d [(0, .ref (ad B x0))] 0 [] := by
  unfold fX2_init_E at hf
  refine b_aload_n C dX2_init_0 0 rfl rfl ?_
  refine b_objInit C oi_X2_3 oi_i oi_c (by decide) (by decide) dX2_init_1 ?_
  refine b_aload_n C dX2_init_4 0 rfl rfl ?_
  refine b_iconst C (v := 4) dX2_init_5 (by decide) ?_
  obtain ⟨h1, hf⟩ := gd_s hf
  obtain ⟨d2, ed2, hf⟩ := bd_s hf
  refine b_pI C dX2_init_6 fl_X2_9 fp2_0 h1 ed2 ?_
  refine b_aload_n C dX2_init_9 0 rfl rfl ?_
  refine b_iconst C (v := (-1)) dX2_init_10 (by decide) ?_
  obtain ⟨d3, ed3, hf⟩ := bd_s hf
  refine b_pI C dX2_init_11 fl_X2_15 fp2_1 h1 ed3 ?_
  refine b_aload_n C dX2_init_14 0 rfl rfl ?_
  refine b_iconst C (v := (-1)) dX2_init_15 (by decide) ?_
  obtain ⟨d4, ed4, hf⟩ := bd_s hf
  refine b_pI C dX2_init_16 fl_X2_18 fp2_2 h1 ed4 ?_
  obtain ⟨h5, hf⟩ := gd_s hf
  exact b_vretC C hr hlocks h5 hf dX2_init_19
theorem kX2_init (l : Launch) (D : va_G) (cy : Nat → ClassId) (B : Bs) {N : Nat} {g : Gs} {x0 : Nat} {gz : Gs} {dz : Ds} {d : Ds} (hf : fX2_init N x0 g d = some (gz, dz)) : Met l yX2_init (.code yX2_init cX2_init 1 none :: wl) rmX2_init (PCC D cy B [.ref (ad B x0)] g d) (QV D cy B gz dz) 0 0 (wA B) :=
  met_ofC (by decide +kernel) (Nat.le_of_ble_eq_true rfl) (fun p e s m args below meth c C hr hlocks hin hz => b_sub [(0, .ref (ad B x0))] [0] rfl (tX2_init_E C hr hlocks hin hz (Nat.le_refl _) (Nat.le_refl _) hf))
/-! KeyMatrix$Deed.tell(III)V -/
theorem dX2_tell_0 : decode cX2_tell 0 = .ok (.aload_n 0, 1) := by decide +kernel
theorem dX2_tell_1 : decode cX2_tell 1 = .ok (.iload_n 1, 1) := by decide +kernel
theorem dX2_tell_2 : decode cX2_tell 2 = .ok (.putfield 9, 3) := by decide +kernel
theorem dX2_tell_5 : decode cX2_tell 5 = .ok (.aload_n 0, 1) := by decide +kernel
theorem dX2_tell_6 : decode cX2_tell 6 = .ok (.iload_n 2, 1) := by decide +kernel
theorem dX2_tell_7 : decode cX2_tell 7 = .ok (.putfield 15, 3) := by decide +kernel
theorem dX2_tell_10 : decode cX2_tell 10 = .ok (.aload_n 0, 1) := by decide +kernel
theorem dX2_tell_11 : decode cX2_tell 11 = .ok (.iload_n 3, 1) := by decide +kernel
theorem dX2_tell_12 : decode cX2_tell 12 = .ok (.putfield 18, 3) := by decide +kernel
theorem dX2_tell_15 : decode cX2_tell 15 = .ok (.return_, 1) := by decide +kernel
def rmX2_tell : Room := { frames := 0, cells := 0, slots := 0, locals := 0 }
set_option maxRecDepth 100000 in
def fX2_tell (N : Nat) (g : Gs) (x0 : Nat) (x1 : Int32) (x2 : Int32) (x3 : Int32) (d : Ds) : Option (Unit × Ds) := gd (chk g x0 2) <| bd (sI d x0 0 x1) fun d2 => (bd (sI d2 x0 1 x2) fun d3 => (bd (sI d3 x0 2 x3) fun d4 => (some ((), d4))))
set_option maxHeartbeats 4000000 in
set_option maxRecDepth 100000 in
theorem tX2_tell_E {p : Program} {l : Launch} {e : Env} {s : State} {m : MethodId} {args : Array Value} {below : List Frame} {meth : Method} {c : Code} {D : va_G} {cy : Nat → ClassId} {B : Bs} (C : Cx p s m args c cX2_tell 4 RX2 D cy B) (hr : meth.sig.returnType = none) (hlocks : meth.locks = false) {N : Nat} {g : Gs} {x0 : Nat} {x1 : Int32} {x2 : Int32} {x3 : Int32}  {dz : Ds} {d : Ds} (hf : fX2_tell N g x0 x1 x2 x3 d = some ((), dz)) : WB p l e rmX2_tell s m args below meth c 4 D cy B 0 0 (MQ below (QV D cy B g dz) args s 0 0 (wA B)) g d [(0, .ref (ad B x0)), (1, .int x1), (2, .int x2), (3, .int x3)] 0 [] := by
  unfold fX2_tell at hf
  refine b_aload_n C dX2_tell_0 0 rfl rfl ?_
  refine b_iload_n C dX2_tell_1 1 rfl rfl ?_
  obtain ⟨h1, hf⟩ := gd_s hf
  obtain ⟨d2, ed2, hf⟩ := bd_s hf
  refine b_pI C dX2_tell_2 fl_X2_9 fp2_0 h1 ed2 ?_
  refine b_aload_n C dX2_tell_5 0 rfl rfl ?_
  refine b_iload_n C dX2_tell_6 2 rfl rfl ?_
  obtain ⟨d3, ed3, hf⟩ := bd_s hf
  refine b_pI C dX2_tell_7 fl_X2_15 fp2_1 h1 ed3 ?_
  refine b_aload_n C dX2_tell_10 0 rfl rfl ?_
  refine b_iload_n C dX2_tell_11 3 rfl rfl ?_
  obtain ⟨d4, ed4, hf⟩ := bd_s hf
  refine b_pI C dX2_tell_12 fl_X2_18 fp2_2 h1 ed4 ?_
  exact b_vret C hr hlocks hf dX2_tell_15
theorem kX2_tell (l : Launch) (D : va_G) (cy : Nat → ClassId) (B : Bs) {N : Nat} {g : Gs} {x0 : Nat} {x1 : Int32} {x2 : Int32} {x3 : Int32}  {dz : Ds} {d : Ds} (hf : fX2_tell N g x0 x1 x2 x3 d = some ((), dz)) : Met l yX2_tell (.code yX2_tell cX2_tell 4 none :: wl) rmX2_tell (PC D cy B [.ref (ad B x0), .int x1, .int x2, .int x3] g d) (QV D cy B g dz) 0 0 (wA B) :=
  met_of (by decide +kernel) (Nat.le_of_ble_eq_true rfl) (fun p e s m args below meth c C hr hlocks _ => b_sub [(0, .ref (ad B x0)), (1, .int x1), (2, .int x2), (3, .int x3)] [0, 1, 2, 3] rfl (tX2_tell_E C hr hlocks hf))
/-! KeyMatrix$Board.clear()V -/
theorem inl0 : ∀ w ∈ u_ws RX0 TX0 19, w ∈ wl := by
  have h0 : u_ws RX0 TX0 19 = [Cond.lays "KeyMatrix$Board" "KeyMatrix$Board" "rows" "I", Cond.lays "KeyMatrix$Board" "KeyMatrix$Board" "columns" "I", Cond.lays "KeyMatrix$Board" "KeyMatrix$Board" "diodes" "Z", Cond.lays "KeyMatrix$Board" "KeyMatrix$Board" "six" "Z", Cond.lays "KeyMatrix$Board" "KeyMatrix$Board" "bounce" "I", Cond.lays "KeyMatrix$Board" "KeyMatrix$Board" "term" "I", Cond.lays "KeyMatrix$Board" "KeyMatrix$Board" "chording" "I", Cond.lays "KeyMatrix$Board" "KeyMatrix$Board" "twice" "I", Cond.lays "KeyMatrix$Board" "KeyMatrix$Board" "delay" "I", Cond.lays "KeyMatrix$Board" "KeyMatrix$Board" "rate" "I", Cond.laysFinal "KeyMatrix$Board" "KeyMatrix$Board" "deeds" "[LKeyMatrix$Deed;", Cond.laysFinal "KeyMatrix$Board" "KeyMatrix$Board" "nothing" "LKeyMatrix$Deed;", Cond.lays "KeyMatrix$Board" "KeyMatrix$Board" "chordCount" "I", Cond.laysFinal "KeyMatrix$Board" "KeyMatrix$Board" "chordFirst" "[I", Cond.laysFinal "KeyMatrix$Board" "KeyMatrix$Board" "chordOther" "[I", Cond.laysFinal "KeyMatrix$Board" "KeyMatrix$Board" "chordDeeds" "[LKeyMatrix$Deed;", Cond.lays "KeyMatrix$Board" "KeyMatrix$Board" "macroCount" "I", Cond.laysFinal "KeyMatrix$Board" "KeyMatrix$Board" "macroLengths" "[I", Cond.laysFinal "KeyMatrix$Board" "KeyMatrix$Board" "macroCodes" "[I"] := by decide +kernel
  rw [h0]
  exact List.forall_mem_cons.mpr ⟨mW (mT1 (List.mem_of_getElem? (i := 166) (by decide +kernel))) rfl, List.forall_mem_cons.mpr ⟨mW (mT1 (List.mem_of_getElem? (i := 168) (by decide +kernel))) rfl, List.forall_mem_cons.mpr ⟨mW (mT1 (List.mem_of_getElem? (i := 170) (by decide +kernel))) rfl, List.forall_mem_cons.mpr ⟨mW (mT1 (List.mem_of_getElem? (i := 172) (by decide +kernel))) rfl, List.forall_mem_cons.mpr ⟨mW (mT1 (List.mem_of_getElem? (i := 174) (by decide +kernel))) rfl, List.forall_mem_cons.mpr ⟨mW (mT1 (List.mem_of_getElem? (i := 176) (by decide +kernel))) rfl, List.forall_mem_cons.mpr ⟨mW (mT1 (List.mem_of_getElem? (i := 178) (by decide +kernel))) rfl, List.forall_mem_cons.mpr ⟨mW (mT1 (List.mem_of_getElem? (i := 180) (by decide +kernel))) rfl, List.forall_mem_cons.mpr ⟨mW (mT1 (List.mem_of_getElem? (i := 182) (by decide +kernel))) rfl, List.forall_mem_cons.mpr ⟨mW (mT1 (List.mem_of_getElem? (i := 184) (by decide +kernel))) rfl, List.forall_mem_cons.mpr ⟨mW (mT1 (List.mem_of_getElem? (i := 186) (by decide +kernel))) rfl, List.forall_mem_cons.mpr ⟨mW (mT1 (List.mem_of_getElem? (i := 188) (by decide +kernel))) rfl, List.forall_mem_cons.mpr ⟨mW (mT1 (List.mem_of_getElem? (i := 190) (by decide +kernel))) rfl, List.forall_mem_cons.mpr ⟨mW (mT1 (List.mem_of_getElem? (i := 192) (by decide +kernel))) rfl, List.forall_mem_cons.mpr ⟨mW (mT1 (List.mem_of_getElem? (i := 194) (by decide +kernel))) rfl, List.forall_mem_cons.mpr ⟨mW (mT1 (List.mem_of_getElem? (i := 196) (by decide +kernel))) rfl, List.forall_mem_cons.mpr ⟨mW (mT1 (List.mem_of_getElem? (i := 198) (by decide +kernel))) rfl, List.forall_mem_cons.mpr ⟨mW (mT1 (List.mem_of_getElem? (i := 200) (by decide +kernel))) rfl, List.forall_mem_cons.mpr ⟨mW (mT1 (List.mem_of_getElem? (i := 202) (by decide +kernel))) rfl, fun _ h => absurd h List.not_mem_nil⟩⟩⟩⟩⟩⟩⟩⟩⟩⟩⟩⟩⟩⟩⟩⟩⟩⟩⟩
theorem fl_X0_41 : FLI RX0 41 0 0 := ⟨⟨RX0, TX0, 19, rfl, by decide, inl0, Or.inl (mW (mT1 (List.mem_of_getElem? (i := 108) (by decide +kernel))) rfl)⟩, by decide, by decide +kernel⟩
theorem ft0 : FT 0 := ⟨RX0, TX0, 19, tyX0, rfl, tyX0_ok, nmX0⟩
theorem fp0_0 : FPI 0 0 := ⟨ft0, (RX0, TX0, 19), rfl, by decide +kernel, by decide +kernel⟩
theorem fl_X0_45 : FLI RX0 45 0 1 := ⟨⟨RX0, TX0, 19, rfl, by decide, inl0, Or.inl (mW (mT1 (List.mem_of_getElem? (i := 112) (by decide +kernel))) rfl)⟩, by decide, by decide +kernel⟩
theorem fp0_1 : FPI 0 1 := ⟨ft0, (RX0, TX0, 19), rfl, by decide +kernel, by decide +kernel⟩
theorem fl_X0_48 : FLI RX0 48 0 2 := ⟨⟨RX0, TX0, 19, rfl, by decide, inl0, Or.inl (mW (mT1 (List.mem_of_getElem? (i := 117) (by decide +kernel))) rfl)⟩, by decide, by decide +kernel⟩
theorem fp0_2 : FPZ 0 2 := ⟨ft0, (RX0, TX0, 19), rfl, by decide +kernel, by decide +kernel⟩
theorem fl_X0_52 : FLI RX0 52 0 3 := ⟨⟨RX0, TX0, 19, rfl, by decide, inl0, Or.inl (mW (mT1 (List.mem_of_getElem? (i := 120) (by decide +kernel))) rfl)⟩, by decide, by decide +kernel⟩
theorem fp0_3 : FPZ 0 3 := ⟨ft0, (RX0, TX0, 19), rfl, by decide +kernel, by decide +kernel⟩
theorem fl_X0_55 : FLI RX0 55 0 4 := ⟨⟨RX0, TX0, 19, rfl, by decide, inl0, Or.inl (mW (mT1 (List.mem_of_getElem? (i := 124) (by decide +kernel))) rfl)⟩, by decide, by decide +kernel⟩
theorem fp0_4 : FPI 0 4 := ⟨ft0, (RX0, TX0, 19), rfl, by decide +kernel, by decide +kernel⟩
theorem fl_X0_58 : FLI RX0 58 0 5 := ⟨⟨RX0, TX0, 19, rfl, by decide, inl0, Or.inl (mW (mT1 (List.mem_of_getElem? (i := 128) (by decide +kernel))) rfl)⟩, by decide, by decide +kernel⟩
theorem fp0_5 : FPI 0 5 := ⟨ft0, (RX0, TX0, 19), rfl, by decide +kernel, by decide +kernel⟩
theorem fl_X0_61 : FLI RX0 61 0 6 := ⟨⟨RX0, TX0, 19, rfl, by decide, inl0, Or.inl (mW (mT1 (List.mem_of_getElem? (i := 132) (by decide +kernel))) rfl)⟩, by decide, by decide +kernel⟩
theorem fp0_6 : FPI 0 6 := ⟨ft0, (RX0, TX0, 19), rfl, by decide +kernel, by decide +kernel⟩
theorem fl_X0_64 : FLI RX0 64 0 7 := ⟨⟨RX0, TX0, 19, rfl, by decide, inl0, Or.inl (mW (mT1 (List.mem_of_getElem? (i := 136) (by decide +kernel))) rfl)⟩, by decide, by decide +kernel⟩
theorem fp0_7 : FPI 0 7 := ⟨ft0, (RX0, TX0, 19), rfl, by decide +kernel, by decide +kernel⟩
theorem fl_X0_67 : FLI RX0 67 0 8 := ⟨⟨RX0, TX0, 19, rfl, by decide, inl0, Or.inl (mW (mT1 (List.mem_of_getElem? (i := 140) (by decide +kernel))) rfl)⟩, by decide, by decide +kernel⟩
theorem fp0_8 : FPI 0 8 := ⟨ft0, (RX0, TX0, 19), rfl, by decide +kernel, by decide +kernel⟩
theorem fl_X0_70 : FLI RX0 70 0 9 := ⟨⟨RX0, TX0, 19, rfl, by decide, inl0, Or.inl (mW (mT1 (List.mem_of_getElem? (i := 144) (by decide +kernel))) rfl)⟩, by decide, by decide +kernel⟩
theorem fp0_9 : FPI 0 9 := ⟨ft0, (RX0, TX0, 19), rfl, by decide +kernel, by decide +kernel⟩
theorem fl_X0_11 : FLR RX0 11 0 10 := ⟨⟨RX0, TX0, 19, rfl, by decide, inl0, Or.inl (mW (mT1 (List.mem_of_getElem? (i := 148) (by decide +kernel))) rfl)⟩, by decide, by decide +kernel⟩
theorem fl_X0_77 : FLI RX0 77 0 12 := ⟨⟨RX0, TX0, 19, rfl, by decide, inl0, Or.inl (mW (mT1 (List.mem_of_getElem? (i := 150) (by decide +kernel))) rfl)⟩, by decide, by decide +kernel⟩
theorem fp0_12 : FPI 0 12 := ⟨ft0, (RX0, TX0, 19), rfl, by decide +kernel, by decide +kernel⟩
theorem fl_X0_80 : FLI RX0 80 0 16 := ⟨⟨RX0, TX0, 19, rfl, by decide, inl0, Or.inl (mW (mT1 (List.mem_of_getElem? (i := 160) (by decide +kernel))) rfl)⟩, by decide, by decide +kernel⟩
theorem fp0_16 : FPI 0 16 := ⟨ft0, (RX0, TX0, 19), rfl, by decide +kernel, by decide +kernel⟩
theorem yo_X2_tell : yX2_tell.cls ≠ "java/lang/invoke/MethodHandle" ∧ yX2_tell.cls ≠ "java/lang/invoke/VarHandle" ∧ (parseMethodDescriptor yX2_tell.desc).map (fun d => d.parameters.length) = some 3 := by decide +kernel
theorem co_X2_tell : Cond.code yX2_tell cX2_tell 4 none ∈ wl := mW (mT1 (List.mem_of_getElem? (i := 107) (by decide +kernel))) rfl
theorem in_X2_tell : Cond.initialized yX2_tell.cls ∈ wl := mW (mT1 (List.mem_of_getElem? (i := 4) (by decide +kernel))) rfl
theorem im_X2_tell : Cond.instanceMethod yX2_tell ∈ wl := mW (mT1 (List.mem_of_getElem? (i := 105) (by decide +kernel))) rfl
theorem se_X2_tell : Cond.selects yX2_tell.cls yX2_tell yX2_tell ∈ wl := mW (mT1 (List.mem_of_getElem? (i := 106) (by decide +kernel))) rfl
theorem lv_X0_73 : LV RX0 73 yX2_tell cX2_tell 4 none 3 2 := ⟨⟨(RX2, TX2, 3), rfl, rfl⟩, yo_X2_tell, mW (mT1 (List.mem_of_getElem? (i := 104) (by decide +kernel))) rfl, im_X2_tell, se_X2_tell, in_X2_tell, co_X2_tell⟩
theorem dX0_clear_0 : decode cX0_clear 0 = .ok (.aload_n 0, 1) := by decide +kernel
theorem dX0_clear_1 : decode cX0_clear 1 = .ok (.iconst 0, 1) := by decide +kernel
theorem dX0_clear_2 : decode cX0_clear 2 = .ok (.putfield 41, 3) := by decide +kernel
theorem dX0_clear_5 : decode cX0_clear 5 = .ok (.aload_n 0, 1) := by decide +kernel
theorem dX0_clear_6 : decode cX0_clear 6 = .ok (.iconst 0, 1) := by decide +kernel
theorem dX0_clear_7 : decode cX0_clear 7 = .ok (.putfield 45, 3) := by decide +kernel
theorem dX0_clear_10 : decode cX0_clear 10 = .ok (.aload_n 0, 1) := by decide +kernel
theorem dX0_clear_11 : decode cX0_clear 11 = .ok (.iconst 0, 1) := by decide +kernel
theorem dX0_clear_12 : decode cX0_clear 12 = .ok (.putfield 48, 3) := by decide +kernel
theorem dX0_clear_15 : decode cX0_clear 15 = .ok (.aload_n 0, 1) := by decide +kernel
theorem dX0_clear_16 : decode cX0_clear 16 = .ok (.iconst 0, 1) := by decide +kernel
theorem dX0_clear_17 : decode cX0_clear 17 = .ok (.putfield 52, 3) := by decide +kernel
theorem dX0_clear_20 : decode cX0_clear 20 = .ok (.aload_n 0, 1) := by decide +kernel
theorem dX0_clear_21 : decode cX0_clear 21 = .ok (.iconst 2, 1) := by decide +kernel
theorem dX0_clear_22 : decode cX0_clear 22 = .ok (.putfield 55, 3) := by decide +kernel
theorem dX0_clear_25 : decode cX0_clear 25 = .ok (.aload_n 0, 1) := by decide +kernel
theorem dX0_clear_26 : decode cX0_clear 26 = .ok (.bipush 8, 2) := by decide +kernel
theorem dX0_clear_28 : decode cX0_clear 28 = .ok (.putfield 58, 3) := by decide +kernel
theorem dX0_clear_31 : decode cX0_clear 31 = .ok (.aload_n 0, 1) := by decide +kernel
theorem dX0_clear_32 : decode cX0_clear 32 = .ok (.iconst 3, 1) := by decide +kernel
theorem dX0_clear_33 : decode cX0_clear 33 = .ok (.putfield 61, 3) := by decide +kernel
theorem dX0_clear_36 : decode cX0_clear 36 = .ok (.aload_n 0, 1) := by decide +kernel
theorem dX0_clear_37 : decode cX0_clear 37 = .ok (.bipush 6, 2) := by decide +kernel
theorem dX0_clear_39 : decode cX0_clear 39 = .ok (.putfield 64, 3) := by decide +kernel
theorem dX0_clear_42 : decode cX0_clear 42 = .ok (.aload_n 0, 1) := by decide +kernel
theorem dX0_clear_43 : decode cX0_clear 43 = .ok (.bipush 20, 2) := by decide +kernel
theorem dX0_clear_45 : decode cX0_clear 45 = .ok (.putfield 67, 3) := by decide +kernel
theorem dX0_clear_48 : decode cX0_clear 48 = .ok (.aload_n 0, 1) := by decide +kernel
theorem dX0_clear_49 : decode cX0_clear 49 = .ok (.iconst 5, 1) := by decide +kernel
theorem dX0_clear_50 : decode cX0_clear 50 = .ok (.putfield 70, 3) := by decide +kernel
theorem dX0_clear_53 : decode cX0_clear 53 = .ok (.iconst 0, 1) := by decide +kernel
theorem dX0_clear_54 : decode cX0_clear 54 = .ok (.istore_n 1, 1) := by decide +kernel
theorem dX0_clear_55 : decode cX0_clear 55 = .ok (.iload_n 1, 1) := by decide +kernel
theorem dX0_clear_56 : decode cX0_clear 56 = .ok (.aload_n 0, 1) := by decide +kernel
theorem dX0_clear_57 : decode cX0_clear 57 = .ok (.getfield 11, 3) := by decide +kernel
theorem dX0_clear_60 : decode cX0_clear 60 = .ok (.arraylength, 1) := by decide +kernel
theorem dX0_clear_61 : decode cX0_clear 61 = .ok (.if_icmp .ge 31, 3) := by decide +kernel
theorem dX0_clear_64 : decode cX0_clear 64 = .ok (.aload_n 0, 1) := by decide +kernel
theorem dX0_clear_65 : decode cX0_clear 65 = .ok (.getfield 11, 3) := by decide +kernel
theorem dX0_clear_68 : decode cX0_clear 68 = .ok (.iload_n 1, 1) := by decide +kernel
theorem dX0_clear_69 : decode cX0_clear 69 = .ok (.aaload, 1) := by decide +kernel
theorem dX0_clear_70 : decode cX0_clear 70 = .ok (.iload_n 1, 1) := by decide +kernel
theorem dX0_clear_71 : decode cX0_clear 71 = .ok (.bipush 24, 2) := by decide +kernel
theorem dX0_clear_73 : decode cX0_clear 73 = .ok (.if_icmp .ge 7, 3) := by decide +kernel
theorem dX0_clear_76 : decode cX0_clear 76 = .ok (.iconst 4, 1) := by decide +kernel
theorem dX0_clear_77 : decode cX0_clear 77 = .ok (.goto 4, 3) := by decide +kernel
theorem dX0_clear_80 : decode cX0_clear 80 = .ok (.iconst 5, 1) := by decide +kernel
theorem dX0_clear_81 : decode cX0_clear 81 = .ok (.iconst (-1), 1) := by decide +kernel
theorem dX0_clear_82 : decode cX0_clear 82 = .ok (.iconst (-1), 1) := by decide +kernel
theorem dX0_clear_83 : decode cX0_clear 83 = .ok (.invokevirtual 73, 3) := by decide +kernel
theorem dX0_clear_86 : decode cX0_clear 86 = .ok (.iinc 1 1, 3) := by decide +kernel
theorem dX0_clear_89 : decode cX0_clear 89 = .ok (.goto (-34), 3) := by decide +kernel
theorem dX0_clear_92 : decode cX0_clear 92 = .ok (.aload_n 0, 1) := by decide +kernel
theorem dX0_clear_93 : decode cX0_clear 93 = .ok (.iconst 0, 1) := by decide +kernel
theorem dX0_clear_94 : decode cX0_clear 94 = .ok (.putfield 77, 3) := by decide +kernel
theorem dX0_clear_97 : decode cX0_clear 97 = .ok (.aload_n 0, 1) := by decide +kernel
theorem dX0_clear_98 : decode cX0_clear 98 = .ok (.iconst 0, 1) := by decide +kernel
theorem dX0_clear_99 : decode cX0_clear 99 = .ok (.putfield 80, 3) := by decide +kernel
theorem dX0_clear_102 : decode cX0_clear 102 = .ok (.return_, 1) := by decide +kernel
def rmX0_clear : Room := { frames := 1, cells := 0, slots := 0, locals := 23 }
set_option maxRecDepth 100000 in
def fX0_clear_J81 (N : Nat) (g : Gs) (x0 : Nat) (K55 : Int32 × Ds → Option (Unit × Ds)) (y1 : Int32) (z0 : Int32) (z1 : Nat) (d : Ds) : Option (Unit × Ds) := gd (chk g z1 2) <| cv (fX2_tell N g z1 z0 (-1) (-1) d) fun d22 => (bd (y1 + 1) fun u24 => (K55 (u24, d22)))
set_option maxHeartbeats 4000000 in
set_option maxRecDepth 100000 in
theorem tX0_clear_81 {p : Program} {l : Launch} {e : Env} {s : State} {m : MethodId} {args : Array Value} {below : List Frame} {meth : Method} {c : Code} {D : va_G} {cy : Nat → ClassId} {B : Bs} (C : Cx p s m args c cX0_clear 2 RX0 D cy B) (hr : meth.sig.returnType = none) (hlocks : meth.locks = false) {N : Nat} {g : Gs} {x0 : Nat}  {dz : Ds} {K55 : Int32 × Ds → Option (Unit × Ds)} (hK55 : ∀ a, K55 a = some ((), dz) → WB p l e rmX0_clear s m args below meth c 2 D cy B 0 0 (MQ below (QV D cy B g dz) args s 0 0 (wA B)) g a.2 [(0, .ref (ad B x0)), (1, .int a.1)] 55 []) {y1 : Int32} {z0 : Int32} {z1 : Nat} {d : Ds} (hf : fX0_clear_J81 N g x0 K55 y1 z0 z1 d = some ((), dz)) : WB p l e rmX0_clear s m args below meth c 2 D cy B 0 0 (MQ below (QV D cy B g dz) args s 0 0 (wA B)) g d [(0, .ref (ad B x0)), (1, .int y1)] 81 [.int z0, .ref (ad B z1)] := by
  unfold fX0_clear_J81 at hf
  refine b_iconst C (v := (-1)) dX0_clear_81 (by decide) ?_
  refine b_iconst C (v := (-1)) dX0_clear_82 (by decide) ?_
  obtain ⟨h21, hf⟩ := gd_s hf
  obtain ⟨d22, k23, hf⟩ := cv_s hf
  refine b_cVN C [] dX0_clear_83 (kX2_tell l D cy B k23) lv_X0_73 ⟨rfl, rfl, Nat.le_of_ble_eq_true rfl, Nat.le_of_ble_eq_true rfl⟩ h21 (by decide) rfl (Nat.le_of_ble_eq_true rfl) ⟨Nat.zero_le _, Nat.zero_le _⟩ rfl ?_
  obtain ⟨u24, eu24, hf⟩ := bd_s hf
  refine b_iinc C dX0_clear_86 1 rfl (by rw [eu24]; rfl) [(1, .int u24), (0, .ref (ad B x0))] (by decide) rfl ?_
  refine b_goto C (tgt := 55) dX0_clear_89 (by decide) ?_
  refine b_sub [(0, .ref (ad B x0)), (1, .int u24)] [1, 0] rfl ?_
  exact hK55 (u24, d22) hf
set_option maxRecDepth 100000 in
def fX0_clear_B55 (N : Nat) (g : Gs) (x0 : Nat) (K55 : Int32 × Ds → Option (Unit × Ds)) (y1 : Int32) (d : Ds) : Option (Unit × Ds) := gd (chk g x0 0) <| ob (gR g x0 10) fun r13 => (gd (chk g r13 105) <| if (Int32.ofNat (gL g r13)) ≤ y1 then (bd (sI d x0 12 0) fun d16 => (bd (sI d16 x0 16 0) fun d17 => (some ((), d17)))) else (gd (¬ (y1 < 0 ∨ gL g r13 ≤ y1.toNatClampNeg)) <| ob (gR g r13 y1.toNatClampNeg) fun r19 => (if (24 : Int32) ≤ y1 then (fX0_clear_J81 N g x0 K55 y1 5 r19 d) else (fX0_clear_J81 N g x0 K55 y1 4 r19 d))))
set_option maxHeartbeats 4000000 in
set_option maxRecDepth 100000 in
theorem tX0_clear_55 {p : Program} {l : Launch} {e : Env} {s : State} {m : MethodId} {args : Array Value} {below : List Frame} {meth : Method} {c : Code} {D : va_G} {cy : Nat → ClassId} {B : Bs} (C : Cx p s m args c cX0_clear 2 RX0 D cy B) (hr : meth.sig.returnType = none) (hlocks : meth.locks = false) {N : Nat} {g : Gs} {x0 : Nat}  {dz : Ds} {K55 : Int32 × Ds → Option (Unit × Ds)} (hK55 : ∀ a, K55 a = some ((), dz) → WB p l e rmX0_clear s m args below meth c 2 D cy B 0 0 (MQ below (QV D cy B g dz) args s 0 0 (wA B)) g a.2 [(0, .ref (ad B x0)), (1, .int a.1)] 55 []) {y1 : Int32} {d : Ds} (hf : fX0_clear_B55 N g x0 K55 y1 d = some ((), dz)) : WB p l e rmX0_clear s m args below meth c 2 D cy B 0 0 (MQ below (QV D cy B g dz) args s 0 0 (wA B)) g d [(0, .ref (ad B x0)), (1, .int y1)] 55 [] := by
  unfold fX0_clear_B55 at hf
  refine b_iload_n C dX0_clear_55 1 rfl rfl ?_
  refine b_aload_n C dX0_clear_56 0 rfl rfl ?_
  obtain ⟨h12, hf⟩ := gd_s hf
  obtain ⟨r13, er13, hf⟩ := ob_s hf
  refine b_gR C dX0_clear_57 fl_X0_11 h12 er13 ?_
  obtain ⟨h14, hf⟩ := gd_s hf
  refine b_alen C (t := 5) h14 (by decide) dX0_clear_60 ?_
  refine b_icmp_ge C (tgt := 92) dX0_clear_61 (by decide) (fun c15 => ?_) (fun c15 => ?_)
  · have hf := it_s c15 hf
    refine b_aload_n C dX0_clear_92 0 rfl rfl ?_
    refine b_iconst C (v := 0) dX0_clear_93 (by decide) ?_
    obtain ⟨d16, ed16, hf⟩ := bd_s hf
    refine b_pI C dX0_clear_94 fl_X0_77 fp0_12 h12 ed16 ?_
    refine b_aload_n C dX0_clear_97 0 rfl rfl ?_
    refine b_iconst C (v := 0) dX0_clear_98 (by decide) ?_
    obtain ⟨d17, ed17, hf⟩ := bd_s hf
    refine b_pI C dX0_clear_99 fl_X0_80 fp0_16 h12 ed17 ?_
    exact b_vret C hr hlocks hf dX0_clear_102
  · have hf := if_s c15 hf
    refine b_aload_n C dX0_clear_64 0 rfl rfl ?_
    refine b_gR C dX0_clear_65 fl_X0_11 h12 er13 ?_
    refine b_iload_n C dX0_clear_68 1 rfl rfl ?_
    obtain ⟨h18, hf⟩ := gd_s hf
    obtain ⟨r19, er19, hf⟩ := ob_s hf
    refine b_aaldD C (by exact h14) h18 er19 dX0_clear_69 ?_
    refine b_iload_n C dX0_clear_70 1 rfl rfl ?_
    refine b_bipush C (v := 24) dX0_clear_71 (by decide) ?_
    refine b_icmp_ge C (tgt := 80) dX0_clear_73 (by decide) (fun c20 => ?_) (fun c20 => ?_)
    · have hf := it_s c20 hf
      refine b_iconst C (v := 5) dX0_clear_80 (by decide) ?_
      refine b_sub [(0, .ref (ad B x0)), (1, .int y1)] [0, 1] rfl ?_
      exact tX0_clear_81 C hr hlocks hK55 hf
    · have hf := if_s c20 hf
      refine b_iconst C (v := 4) dX0_clear_76 (by decide) ?_
      refine b_goto C (tgt := 81) dX0_clear_77 (by decide) ?_
      refine b_sub [(0, .ref (ad B x0)), (1, .int y1)] [0, 1] rfl ?_
      exact tX0_clear_81 C hr hlocks hK55 hf
def fX0_clear_L55 (N : Nat) (g : Gs) (x0 : Nat) : Int32 × Ds → Option (Unit × Ds) := lp (fun K55 a => fX0_clear_B55 N g x0 K55 a.1 a.2) N
theorem tX0_clear_L55 {p : Program} {l : Launch} {e : Env} {s : State} {m : MethodId} {args : Array Value} {below : List Frame} {meth : Method} {c : Code} {D : va_G} {cy : Nat → ClassId} {B : Bs} (C : Cx p s m args c cX0_clear 2 RX0 D cy B) (hr : meth.sig.returnType = none) (hlocks : meth.locks = false) {N : Nat} {g : Gs} {x0 : Nat}  {dz : Ds} (a : Int32 × Ds) (hf : fX0_clear_L55 N g x0 a = some ((), dz)) : WB p l e rmX0_clear s m args below meth c 2 D cy B 0 0 (MQ below (QV D cy B g dz) args s 0 0 (wA B)) g a.2 [(0, .ref (ad B x0)), (1, .int a.1)] 55 [] :=
  lp_w (fun K55 hK55 a ha => tX0_clear_55 C hr hlocks hK55 ha) N a hf
set_option maxRecDepth 100000 in
def fX0_clear (N : Nat) (g : Gs) (x0 : Nat) (d : Ds) : Option (Unit × Ds) := gd (chk g x0 0) <| bd (sI d x0 0 0) fun d2 => (bd (sI d2 x0 1 0) fun d3 => (bd (sI d3 x0 2 0) fun d4 => (bd (sI d4 x0 3 0) fun d5 => (bd (sI d5 x0 4 2) fun d6 => (bd (sI d6 x0 5 8) fun d7 => (bd (sI d7 x0 6 3) fun d8 => (bd (sI d8 x0 7 6) fun d9 => (bd (sI d9 x0 8 20) fun d10 => (bd (sI d10 x0 9 5) fun d11 => (fX0_clear_L55 N g x0 (0, d11)))))))))))
set_option maxHeartbeats 4000000 in
set_option maxRecDepth 100000 in
theorem tX0_clear_E {p : Program} {l : Launch} {e : Env} {s : State} {m : MethodId} {args : Array Value} {below : List Frame} {meth : Method} {c : Code} {D : va_G} {cy : Nat → ClassId} {B : Bs} (C : Cx p s m args c cX0_clear 2 RX0 D cy B) (hr : meth.sig.returnType = none) (hlocks : meth.locks = false) {N : Nat} {g : Gs} {x0 : Nat}  {dz : Ds} {d : Ds} (hf : fX0_clear N g x0 d = some ((), dz)) : WB p l e rmX0_clear s m args below meth c 2 D cy B 0 0 (MQ below (QV D cy B g dz) args s 0 0 (wA B)) g d [(0, .ref (ad B x0))] 0 [] := by
  unfold fX0_clear at hf
  refine b_aload_n C dX0_clear_0 0 rfl rfl ?_
  refine b_iconst C (v := 0) dX0_clear_1 (by decide) ?_
  obtain ⟨h1, hf⟩ := gd_s hf
  obtain ⟨d2, ed2, hf⟩ := bd_s hf
  refine b_pI C dX0_clear_2 fl_X0_41 fp0_0 h1 ed2 ?_
  refine b_aload_n C dX0_clear_5 0 rfl rfl ?_
  refine b_iconst C (v := 0) dX0_clear_6 (by decide) ?_
  obtain ⟨d3, ed3, hf⟩ := bd_s hf
  refine b_pI C dX0_clear_7 fl_X0_45 fp0_1 h1 ed3 ?_
  refine b_aload_n C dX0_clear_10 0 rfl rfl ?_
  refine b_iconst C (v := 0) dX0_clear_11 (by decide) ?_
  obtain ⟨d4, ed4, hf⟩ := bd_s hf
  refine b_pZ C dX0_clear_12 fl_X0_48 fp0_2 (by decide) h1 ed4 ?_
  refine b_aload_n C dX0_clear_15 0 rfl rfl ?_
  refine b_iconst C (v := 0) dX0_clear_16 (by decide) ?_
  obtain ⟨d5, ed5, hf⟩ := bd_s hf
  refine b_pZ C dX0_clear_17 fl_X0_52 fp0_3 (by decide) h1 ed5 ?_
  refine b_aload_n C dX0_clear_20 0 rfl rfl ?_
  refine b_iconst C (v := 2) dX0_clear_21 (by decide) ?_
  obtain ⟨d6, ed6, hf⟩ := bd_s hf
  refine b_pI C dX0_clear_22 fl_X0_55 fp0_4 h1 ed6 ?_
  refine b_aload_n C dX0_clear_25 0 rfl rfl ?_
  refine b_bipush C (v := 8) dX0_clear_26 (by decide) ?_
  obtain ⟨d7, ed7, hf⟩ := bd_s hf
  refine b_pI C dX0_clear_28 fl_X0_58 fp0_5 h1 ed7 ?_
  refine b_aload_n C dX0_clear_31 0 rfl rfl ?_
  refine b_iconst C (v := 3) dX0_clear_32 (by decide) ?_
  obtain ⟨d8, ed8, hf⟩ := bd_s hf
  refine b_pI C dX0_clear_33 fl_X0_61 fp0_6 h1 ed8 ?_
  refine b_aload_n C dX0_clear_36 0 rfl rfl ?_
  refine b_bipush C (v := 6) dX0_clear_37 (by decide) ?_
  obtain ⟨d9, ed9, hf⟩ := bd_s hf
  refine b_pI C dX0_clear_39 fl_X0_64 fp0_7 h1 ed9 ?_
  refine b_aload_n C dX0_clear_42 0 rfl rfl ?_
  refine b_bipush C (v := 20) dX0_clear_43 (by decide) ?_
  obtain ⟨d10, ed10, hf⟩ := bd_s hf
  refine b_pI C dX0_clear_45 fl_X0_67 fp0_8 h1 ed10 ?_
  refine b_aload_n C dX0_clear_48 0 rfl rfl ?_
  refine b_iconst C (v := 5) dX0_clear_49 (by decide) ?_
  obtain ⟨d11, ed11, hf⟩ := bd_s hf
  refine b_pI C dX0_clear_50 fl_X0_70 fp0_9 h1 ed11 ?_
  refine b_iconst C (v := 0) dX0_clear_53 (by decide) ?_
  refine b_istore_n C dX0_clear_54 rfl [(1, .int 0), (0, .ref (ad B x0))] (by decide) rfl ?_
  refine b_sub [(0, .ref (ad B x0)), (1, .int 0)] [1, 0] rfl ?_
  exact tX0_clear_L55 C hr hlocks (0, d11) hf
theorem kX0_clear (l : Launch) (D : va_G) (cy : Nat → ClassId) (B : Bs) {N : Nat} {g : Gs} {x0 : Nat}  {dz : Ds} {d : Ds} (hf : fX0_clear N g x0 d = some ((), dz)) : Met l yX0_clear (.code yX0_clear cX0_clear 2 none :: wl) rmX0_clear (PC D cy B [.ref (ad B x0)] g d) (QV D cy B g dz) 0 0 (wA B) :=
  met_of (by decide +kernel) (Nat.le_of_ble_eq_true rfl) (fun p e s m args below meth c C hr hlocks _ => b_sub [(0, .ref (ad B x0))] [0] rfl (tX0_clear_E C hr hlocks hf))
/-! KeyMatrix$Board.<init>()V -/
theorem oi_X0_3 : Cond.methodLink RX0 3 objectInit ∈ wl := mW (mT1 (List.mem_of_getElem? (i := 96) (by decide +kernel))) rfl
theorem cw_X0_9 : Cond.classLink RX0 9 "KeyMatrix$Deed" ∈ wl := mW (mT1 (List.mem_of_getElem? (i := 97) (by decide +kernel))) rfl
theorem fq_X0_11 : FLP RX0 11 0 10 := ⟨⟨RX0, TX0, 19, rfl, by decide, inl0, mW (mT1 (List.mem_of_getElem? (i := 148) (by decide +kernel))) rfl⟩, by decide, by decide +kernel⟩
theorem fr0_10 : FPR 0 10 RX0 := ⟨ft0, (RX0, TX0, 19), rfl, by decide +kernel, rfl, fun ty h a => by rw [tyX0_ok 10 (by decide)] at h; cases h; exact ⟨rfl, rfl⟩⟩
theorem df2 : ∀ j, j < 3 → defaultValue (tyX2 j) = if fR 2 j then .null else .int 0 := by
  intro j hj
  rcases (show j = 0 ∨ j = 1 ∨ j = 2 by omega) with rfl | rfl | rfl
  · rw [show fR 2 0 = false by decide +kernel]; rfl
  · rw [show fR 2 1 = false by decide +kernel]; rfl
  · rw [show fR 2 2 = false by decide +kernel]; rfl
theorem ic2 : Cond.instantiable RX2 3 ∈ wl := mW (mT1 (List.mem_of_getElem? (i := 66) (by decide +kernel))) rfl
theorem ii2 : Cond.initialized RX2 ∈ wl := mW (mT1 (List.mem_of_getElem? (i := 4) (by decide +kernel))) rfl
theorem nw_X0_9 : FNW RX0 9 2 3 := ⟨RX2, TX2, tyX2, rfl, by decide, inl2, tyX2_ok, mW (mT1 (List.mem_of_getElem? (i := 97) (by decide +kernel))) rfl, ic2, ii2, df2⟩
theorem yo_X2_init : yX2_init.cls ≠ "java/lang/invoke/MethodHandle" ∧ yX2_init.cls ≠ "java/lang/invoke/VarHandle" ∧ (parseMethodDescriptor yX2_init.desc).map (fun d => d.parameters.length) = some 0 := by decide +kernel
theorem co_X2_init : Cond.code yX2_init cX2_init 1 none ∈ wl := mW (mT1 (List.mem_of_getElem? (i := 69) (by decide +kernel))) rfl
theorem in_X2_init : Cond.initialized yX2_init.cls ∈ wl := mW (mT1 (List.mem_of_getElem? (i := 4) (by decide +kernel))) rfl
theorem im_X2_init : Cond.instanceMethod yX2_init ∈ wl := mW (mT1 (List.mem_of_getElem? (i := 68) (by decide +kernel))) rfl
theorem lv_X0_17 : LCo RX0 17 yX2_init cX2_init 1 0 := ⟨rfl, yo_X2_init, Or.inr (mT1 (List.mem_of_getElem? (i := 99) (by decide +kernel))), im_X2_init, in_X2_init, co_X2_init⟩
theorem fq_X0_18 : FLP RX0 18 0 11 := ⟨⟨RX0, TX0, 19, rfl, by decide, inl0, mW (mT1 (List.mem_of_getElem? (i := 149) (by decide +kernel))) rfl⟩, by decide, by decide +kernel⟩
theorem fr0_11 : FPR 0 11 RX0 := ⟨ft0, (RX0, TX0, 19), rfl, by decide +kernel, rfl, fun ty h a => by rw [tyX0_ok 11 (by decide)] at h; cases h; exact ⟨rfl, rfl⟩⟩
theorem ar_int : Cond.arrayClass (newarray.typeOf .int) ∈ wl := mW (mT1 (List.mem_of_getElem? (i := 64) (by decide +kernel))) rfl
theorem fq_X0_22 : FLP RX0 22 0 13 := ⟨⟨RX0, TX0, 19, rfl, by decide, inl0, mW (mT1 (List.mem_of_getElem? (i := 153) (by decide +kernel))) rfl⟩, by decide, by decide +kernel⟩
theorem fr0_13 : FPR 0 13 RX0 := ⟨ft0, (RX0, TX0, 19), rfl, by decide +kernel, rfl, fun ty h a => by rw [tyX0_ok 13 (by decide)] at h; cases h; exact ⟨rfl, rfl⟩⟩
theorem fq_X0_26 : FLP RX0 26 0 14 := ⟨⟨RX0, TX0, 19, rfl, by decide, inl0, mW (mT1 (List.mem_of_getElem? (i := 156) (by decide +kernel))) rfl⟩, by decide, by decide +kernel⟩
theorem fr0_14 : FPR 0 14 RX0 := ⟨ft0, (RX0, TX0, 19), rfl, by decide +kernel, rfl, fun ty h a => by rw [tyX0_ok 14 (by decide)] at h; cases h; exact ⟨rfl, rfl⟩⟩
theorem fq_X0_29 : FLP RX0 29 0 15 := ⟨⟨RX0, TX0, 19, rfl, by decide, inl0, mW (mT1 (List.mem_of_getElem? (i := 159) (by decide +kernel))) rfl⟩, by decide, by decide +kernel⟩
theorem fr0_15 : FPR 0 15 RX0 := ⟨ft0, (RX0, TX0, 19), rfl, by decide +kernel, rfl, fun ty h a => by rw [tyX0_ok 15 (by decide)] at h; cases h; exact ⟨rfl, rfl⟩⟩
theorem fq_X0_32 : FLP RX0 32 0 17 := ⟨⟨RX0, TX0, 19, rfl, by decide, inl0, mW (mT1 (List.mem_of_getElem? (i := 163) (by decide +kernel))) rfl⟩, by decide, by decide +kernel⟩
theorem fr0_17 : FPR 0 17 RX0 := ⟨ft0, (RX0, TX0, 19), rfl, by decide +kernel, rfl, fun ty h a => by rw [tyX0_ok 17 (by decide)] at h; cases h; exact ⟨rfl, rfl⟩⟩
theorem fq_X0_35 : FLP RX0 35 0 18 := ⟨⟨RX0, TX0, 19, rfl, by decide, inl0, mW (mT1 (List.mem_of_getElem? (i := 165) (by decide +kernel))) rfl⟩, by decide, by decide +kernel⟩
theorem fr0_18 : FPR 0 18 RX0 := ⟨ft0, (RX0, TX0, 19), rfl, by decide +kernel, rfl, fun ty h a => by rw [tyX0_ok 18 (by decide)] at h; cases h; exact ⟨rfl, rfl⟩⟩
theorem yo_X0_clear : yX0_clear.cls ≠ "java/lang/invoke/MethodHandle" ∧ yX0_clear.cls ≠ "java/lang/invoke/VarHandle" ∧ (parseMethodDescriptor yX0_clear.desc).map (fun d => d.parameters.length) = some 0 := by decide +kernel
theorem co_X0_clear : Cond.code yX0_clear cX0_clear 2 none ∈ wl := mW (mT1 (List.mem_of_getElem? (i := 103) (by decide +kernel))) rfl
theorem in_X0_clear : Cond.initialized yX0_clear.cls ∈ wl := mW (mT1 (List.mem_of_getElem? (i := 5) (by decide +kernel))) rfl
theorem im_X0_clear : Cond.instanceMethod yX0_clear ∈ wl := mW (mT1 (List.mem_of_getElem? (i := 101) (by decide +kernel))) rfl
theorem se_X0_clear : Cond.selects yX0_clear.cls yX0_clear yX0_clear ∈ wl := mW (mT1 (List.mem_of_getElem? (i := 102) (by decide +kernel))) rfl
theorem lv_X0_38 : LV RX0 38 yX0_clear cX0_clear 2 none 0 0 := ⟨⟨(RX0, TX0, 19), rfl, rfl⟩, yo_X0_clear, mW (mT1 (List.mem_of_getElem? (i := 100) (by decide +kernel))) rfl, im_X0_clear, se_X0_clear, in_X0_clear, co_X0_clear⟩
theorem fl_X0_29 : FLR RX0 29 0 15 := ⟨⟨RX0, TX0, 19, rfl, by decide, inl0, Or.inl (mW (mT1 (List.mem_of_getElem? (i := 159) (by decide +kernel))) rfl)⟩, by decide, by decide +kernel⟩
theorem dX0_init_0 : decode cX0_init 0 = .ok (.aload_n 0, 1) := by decide +kernel
theorem dX0_init_1 : decode cX0_init 1 = .ok (.invokespecial 3, 3) := by decide +kernel
theorem dX0_init_4 : decode cX0_init 4 = .ok (.aload_n 0, 1) := by decide +kernel
theorem dX0_init_5 : decode cX0_init 5 = .ok (.bipush 96, 2) := by decide +kernel
theorem dX0_init_7 : decode cX0_init 7 = .ok (.anewarray 9, 3) := by decide +kernel
theorem dX0_init_10 : decode cX0_init 10 = .ok (.putfield 11, 3) := by decide +kernel
theorem dX0_init_13 : decode cX0_init 13 = .ok (.aload_n 0, 1) := by decide +kernel
theorem dX0_init_14 : decode cX0_init 14 = .ok (.new 9, 3) := by decide +kernel
theorem dX0_init_17 : decode cX0_init 17 = .ok (.dup, 1) := by decide +kernel
theorem dX0_init_18 : decode cX0_init 18 = .ok (.invokespecial 17, 3) := by decide +kernel
theorem dX0_init_21 : decode cX0_init 21 = .ok (.putfield 18, 3) := by decide +kernel
theorem dX0_init_24 : decode cX0_init 24 = .ok (.aload_n 0, 1) := by decide +kernel
theorem dX0_init_25 : decode cX0_init 25 = .ok (.iconst 4, 1) := by decide +kernel
theorem dX0_init_26 : decode cX0_init 26 = .ok (.newarray .int, 2) := by decide +kernel
theorem dX0_init_28 : decode cX0_init 28 = .ok (.putfield 22, 3) := by decide +kernel
theorem dX0_init_31 : decode cX0_init 31 = .ok (.aload_n 0, 1) := by decide +kernel
theorem dX0_init_32 : decode cX0_init 32 = .ok (.iconst 4, 1) := by decide +kernel
theorem dX0_init_33 : decode cX0_init 33 = .ok (.newarray .int, 2) := by decide +kernel
theorem dX0_init_35 : decode cX0_init 35 = .ok (.putfield 26, 3) := by decide +kernel
theorem dX0_init_38 : decode cX0_init 38 = .ok (.aload_n 0, 1) := by decide +kernel
theorem dX0_init_39 : decode cX0_init 39 = .ok (.iconst 4, 1) := by decide +kernel
theorem dX0_init_40 : decode cX0_init 40 = .ok (.anewarray 9, 3) := by decide +kernel
theorem dX0_init_43 : decode cX0_init 43 = .ok (.putfield 29, 3) := by decide +kernel
theorem dX0_init_46 : decode cX0_init 46 = .ok (.aload_n 0, 1) := by decide +kernel
theorem dX0_init_47 : decode cX0_init 47 = .ok (.iconst 4, 1) := by decide +kernel
theorem dX0_init_48 : decode cX0_init 48 = .ok (.newarray .int, 2) := by decide +kernel
theorem dX0_init_50 : decode cX0_init 50 = .ok (.putfield 32, 3) := by decide +kernel
theorem dX0_init_53 : decode cX0_init 53 = .ok (.aload_n 0, 1) := by decide +kernel
theorem dX0_init_54 : decode cX0_init 54 = .ok (.bipush 32, 2) := by decide +kernel
theorem dX0_init_56 : decode cX0_init 56 = .ok (.newarray .int, 2) := by decide +kernel
theorem dX0_init_58 : decode cX0_init 58 = .ok (.putfield 35, 3) := by decide +kernel
theorem dX0_init_61 : decode cX0_init 61 = .ok (.iconst 0, 1) := by decide +kernel
theorem dX0_init_62 : decode cX0_init 62 = .ok (.istore_n 1, 1) := by decide +kernel
theorem dX0_init_63 : decode cX0_init 63 = .ok (.iload_n 1, 1) := by decide +kernel
theorem dX0_init_64 : decode cX0_init 64 = .ok (.aload_n 0, 1) := by decide +kernel
theorem dX0_init_65 : decode cX0_init 65 = .ok (.getfield 11, 3) := by decide +kernel
theorem dX0_init_68 : decode cX0_init 68 = .ok (.arraylength, 1) := by decide +kernel
theorem dX0_init_69 : decode cX0_init 69 = .ok (.if_icmp .ge 22, 3) := by decide +kernel
theorem dX0_init_72 : decode cX0_init 72 = .ok (.aload_n 0, 1) := by decide +kernel
theorem dX0_init_73 : decode cX0_init 73 = .ok (.getfield 11, 3) := by decide +kernel
theorem dX0_init_76 : decode cX0_init 76 = .ok (.iload_n 1, 1) := by decide +kernel
theorem dX0_init_77 : decode cX0_init 77 = .ok (.new 9, 3) := by decide +kernel
theorem dX0_init_80 : decode cX0_init 80 = .ok (.dup, 1) := by decide +kernel
theorem dX0_init_81 : decode cX0_init 81 = .ok (.invokespecial 17, 3) := by decide +kernel
theorem dX0_init_84 : decode cX0_init 84 = .ok (.aastore, 1) := by decide +kernel
theorem dX0_init_85 : decode cX0_init 85 = .ok (.iinc 1 1, 3) := by decide +kernel
theorem dX0_init_88 : decode cX0_init 88 = .ok (.goto (-25), 3) := by decide +kernel
theorem dX0_init_91 : decode cX0_init 91 = .ok (.iconst 0, 1) := by decide +kernel
theorem dX0_init_92 : decode cX0_init 92 = .ok (.istore_n 1, 1) := by decide +kernel
theorem dX0_init_93 : decode cX0_init 93 = .ok (.iload_n 1, 1) := by decide +kernel
theorem dX0_init_94 : decode cX0_init 94 = .ok (.iconst 4, 1) := by decide +kernel
theorem dX0_init_95 : decode cX0_init 95 = .ok (.if_icmp .ge 22, 3) := by decide +kernel
theorem dX0_init_98 : decode cX0_init 98 = .ok (.aload_n 0, 1) := by decide +kernel
theorem dX0_init_99 : decode cX0_init 99 = .ok (.getfield 29, 3) := by decide +kernel
theorem dX0_init_102 : decode cX0_init 102 = .ok (.iload_n 1, 1) := by decide +kernel
theorem dX0_init_103 : decode cX0_init 103 = .ok (.new 9, 3) := by decide +kernel
theorem dX0_init_106 : decode cX0_init 106 = .ok (.dup, 1) := by decide +kernel
theorem dX0_init_107 : decode cX0_init 107 = .ok (.invokespecial 17, 3) := by decide +kernel
theorem dX0_init_110 : decode cX0_init 110 = .ok (.aastore, 1) := by decide +kernel
theorem dX0_init_111 : decode cX0_init 111 = .ok (.iinc 1 1, 3) := by decide +kernel
theorem dX0_init_114 : decode cX0_init 114 = .ok (.goto (-21), 3) := by decide +kernel
theorem dX0_init_117 : decode cX0_init 117 = .ok (.aload_n 0, 1) := by decide +kernel
theorem dX0_init_118 : decode cX0_init 118 = .ok (.invokevirtual 38, 3) := by decide +kernel
theorem dX0_init_121 : decode cX0_init 121 = .ok (.return_, 1) := by decide +kernel
def rmX0_init : Room := { frames := 2, cells := 107, slots := 447, locals := 44 }
set_option maxRecDepth 100000 in
def fX0_init_B93 (N : Nat)  (x0 : Nat) (n0 s0 : Nat) (K93 : Int32 × Gs × Ds → Option (Gs × Ds)) (y1 : Int32) (g : Gs) (d : Ds) : Option (Gs × Ds) := if (4 : Int32) ≤ y1 then (gd (chk g x0 0) <| gd (gN g - n0 ≤ 107 ∧ gS g - s0 ≤ 447) <| cv (fX0_clear N g x0 d) fun d84 => (gd (gN g = n0 + 107 ∧ gS g = s0 + 447) <| some (g, d84))) else (gd (chk g x0 0) <| ob (gR g x0 15) fun r88 => (gd (gN g < 100000) <| gd (gN g + 1 - n0 ≤ 107 ∧ gS g + 3 - s0 ≤ 447) <| bd (nG g 2 0 3) fun g91 => (bd (nD g d) fun d92 => (bd (gN g) fun r93 => (gd (0 < gN g91) <| cb (fX2_init N r93 g91 d92) fun g96 d97 => (gd (gN g96 = gN g91 + 0 ∧ gS g96 = gS g91 + 0) <| gd (gN g96 - n0 ≤ 107 ∧ gS g96 - s0 ≤ 447) <| gd (chk g96 r88 105) <| gd (chk g96 r93 2) <| gd (¬ (y1 < 0 ∨ gL g96 r88 ≤ y1.toNatClampNeg)) <| bd (sR g96 r88 y1.toNatClampNeg r93) fun g105 => (bd (y1 + 1) fun u107 => (K93 (u107, g105, d97)))))))))
set_option maxHeartbeats 4000000 in
set_option maxRecDepth 100000 in
theorem tX0_init_93 {p : Program} {l : Launch} {e : Env} {s : State} {m : MethodId} {args : Array Value} {below : List Frame} {meth : Method} {c : Code} {D : va_G} {cy : Nat → ClassId} {B : Bs} (C : Cx p s m args c cX0_init 2 RX0 D cy B) (hr : meth.sig.returnType = none) (hlocks : meth.locks = false) (hin : meth.name = "<init>") {n0 s0 : Nat} (hz : s.heap.size = B.1 + n0) {N : Nat} {x0 : Nat} {gz : Gs} {dz : Ds} {K93 : Int32 × Gs × Ds → Option (Gs × Ds)} (hK93 : ∀ a, K93 a = some (gz, dz) → n0 ≤ gN a.2.1 → s0 ≤ gS a.2.1 → WB p l e rmX0_init s m args below meth c 2 D cy B (gN a.2.1 - n0) (gS a.2.1 - s0) (MQ below (QV D cy B gz dz) args s 107 447 (wA B)) a.2.1 a.2.2 [(0, .ref (ad B x0)), (1, .int a.1)] 93 []) {y1 : Int32} {g : Gs} {d : Ds} (hn : n0 ≤ gN g) (hs : s0 ≤ gS g) (hf : fX0_init_B93 N x0 n0 s0 K93 y1 g d = some (gz, dz)) : WB p l e rmX0_init s m args below meth c 2 D cy B (gN g - n0) (gS g - s0) (MQ below (QV D cy B gz dz) args s 107 447 (wA B)) g d [(0, .ref (ad B x0)), (1, .int y1)] 93 [] := by
  unfold fX0_init_B93 at hf
  refine b_iload_n C dX0_init_93 1 rfl rfl ?_
  refine b_iconst C (v := 4) dX0_init_94 (by decide) ?_
  refine b_icmp_ge C (tgt := 117) dX0_init_95 (by decide) (fun c81 => ?_) (fun c81 => ?_)
  · have hf := it_s c81 hf
    refine b_aload_n C dX0_init_117 0 rfl rfl ?_
    obtain ⟨h82, hf⟩ := gd_s hf
    obtain ⟨h83, hf⟩ := gd_s hf
    obtain ⟨d84, k85, hf⟩ := cv_s hf
    refine b_cVN C [] dX0_init_118 (kX0_clear l D cy B k85) lv_X0_38 ⟨rfl, rfl, Nat.le_of_ble_eq_true rfl, Nat.le_of_ble_eq_true rfl⟩ h82 (by decide) rfl (Nat.le_of_ble_eq_true rfl) h83 rfl ?_
    obtain ⟨h86, hf⟩ := gd_s hf
    exact b_vretC C hr hlocks h86 hf dX0_init_121
  · have hf := if_s c81 hf
    refine b_aload_n C dX0_init_98 0 rfl rfl ?_
    obtain ⟨h87, hf⟩ := gd_s hf
    obtain ⟨r88, er88, hf⟩ := ob_s hf
    refine b_gR C dX0_init_99 fl_X0_29 h87 er88 ?_
    refine b_iload_n C dX0_init_102 1 rfl rfl ?_
    obtain ⟨h89, hf⟩ := gd_s hf
    obtain ⟨h90, hf⟩ := gd_s hf
    obtain ⟨g91, eg91, hf⟩ := bd_s hf
    obtain ⟨d92, ed92, hf⟩ := bd_s hf
    obtain ⟨r93, er93, hf⟩ := bd_s hf
    refine b_new C dX0_init_103 nw_X0_9 hz hn hs h89 h90 eg91 ed92 (fun hn94 hn94s => ?_)
    refine b_topR er93 ?_
    refine b_dup C dX0_init_106 rfl ?_
    obtain ⟨h95, hf⟩ := gd_s hf
    obtain ⟨g96, d97, k98, hf⟩ := cb_s hf
    obtain ⟨h100, hf⟩ := gd_s hf
    obtain ⟨h101, hf⟩ := gd_s hf
    refine b_callC C [.ref (ad B r93), .int y1, .ref (ad B r88)] dX0_init_107 (kX2_init l D cy B k98) lv_X0_17 ⟨rfl, rfl, Nat.le_of_ble_eq_true rfl, Nat.le_of_ble_eq_true rfl⟩ rfl (Nat.le_of_ble_eq_true rfl) hz hn94 hn94s h95 h100 h101 rfl (fun hn99 hn99s => ?_)
    obtain ⟨h102, hf⟩ := gd_s hf
    obtain ⟨h103, hf⟩ := gd_s hf
    obtain ⟨h104, hf⟩ := gd_s hf
    obtain ⟨g105, eg105, hf⟩ := bd_s hf
    refine b_aastDC C dX0_init_110 h102 h103 h104 eg105 ?_
    have hn106 : n0 ≤ gN g105 := by rw [eg105]; exact hn99
    have hn106s : s0 ≤ gS g105 := by rw [eg105]; exact hn99s
    obtain ⟨u107, eu107, hf⟩ := bd_s hf
    refine b_iinc C dX0_init_111 1 rfl (by rw [eu107]; rfl) [(1, .int u107), (0, .ref (ad B x0))] (by decide) rfl ?_
    refine b_goto C (tgt := 93) dX0_init_114 (by decide) ?_
    refine b_sub [(0, .ref (ad B x0)), (1, .int u107)] [1, 0] rfl ?_
    exact hK93 (u107, g105, d97) hf hn106 hn106s
def fX0_init_L93 (N : Nat)  (x0 : Nat) (n0 s0 : Nat) : Int32 × Gs × Ds → Option (Gs × Ds) := lp (fun K93 a => fX0_init_B93 N x0 n0 s0 K93 a.1 a.2.1 a.2.2) N
theorem tX0_init_L93 {p : Program} {l : Launch} {e : Env} {s : State} {m : MethodId} {args : Array Value} {below : List Frame} {meth : Method} {c : Code} {D : va_G} {cy : Nat → ClassId} {B : Bs} (C : Cx p s m args c cX0_init 2 RX0 D cy B) (hr : meth.sig.returnType = none) (hlocks : meth.locks = false) (hin : meth.name = "<init>") {n0 s0 : Nat} (hz : s.heap.size = B.1 + n0) {N : Nat} {x0 : Nat} {gz : Gs} {dz : Ds} (a : Int32 × Gs × Ds) (hn : n0 ≤ gN a.2.1) (hs : s0 ≤ gS a.2.1) (hf : fX0_init_L93 N x0 n0 s0 a = some (gz, dz)) : WB p l e rmX0_init s m args below meth c 2 D cy B (gN a.2.1 - n0) (gS a.2.1 - s0) (MQ below (QV D cy B gz dz) args s 107 447 (wA B)) a.2.1 a.2.2 [(0, .ref (ad B x0)), (1, .int a.1)] 93 [] := by
  unfold fX0_init_L93 at hf
  exact lp_w (G := fun a => n0 ≤ gN a.2.1 → s0 ≤ gS a.2.1 → WB p l e rmX0_init s m args below meth c 2 D cy B (gN a.2.1 - n0) (gS a.2.1 - s0) (MQ below (QV D cy B gz dz) args s 107 447 (wA B)) a.2.1 a.2.2 [(0, .ref (ad B x0)), (1, .int a.1)] 93 []) (fun K93 hK93 a ha hn hs => tX0_init_93 C hr hlocks hin hz hK93 hn hs ha) N a hf hn hs
set_option maxRecDepth 100000 in
def fX0_init_B63 (N : Nat)  (x0 : Nat) (n0 s0 : Nat) (K63 : Int32 × Gs × Ds → Option (Gs × Ds)) (y1 : Int32) (g : Gs) (d : Ds) : Option (Gs × Ds) := gd (chk g x0 0) <| ob (gR g x0 10) fun r78 => (gd (chk g r78 105) <| if (Int32.ofNat (gL g r78)) ≤ y1 then (fX0_init_L93 N x0 n0 s0 (0, g, d)) else (gd (gN g < 100000) <| gd (gN g + 1 - n0 ≤ 107 ∧ gS g + 3 - s0 ≤ 447) <| bd (nG g 2 0 3) fun g110 => (bd (nD g d) fun d111 => (bd (gN g) fun r112 => (gd (0 < gN g110) <| cb (fX2_init N r112 g110 d111) fun g115 d116 => (gd (gN g115 = gN g110 + 0 ∧ gS g115 = gS g110 + 0) <| gd (gN g115 - n0 ≤ 107 ∧ gS g115 - s0 ≤ 447) <| gd (chk g115 r78 105) <| gd (chk g115 r112 2) <| gd (¬ (y1 < 0 ∨ gL g115 r78 ≤ y1.toNatClampNeg)) <| bd (sR g115 r78 y1.toNatClampNeg r112) fun g124 => (bd (y1 + 1) fun u126 => (K63 (u126, g124, d116)))))))))
set_option maxHeartbeats 4000000 in
set_option maxRecDepth 100000 in
theorem tX0_init_63 {p : Program} {l : Launch} {e : Env} {s : State} {m : MethodId} {args : Array Value} {below : List Frame} {meth : Method} {c : Code} {D : va_G} {cy : Nat → ClassId} {B : Bs} (C : Cx p s m args c cX0_init 2 RX0 D cy B) (hr : meth.sig.returnType = none) (hlocks : meth.locks = false) (hin : meth.name = "<init>") {n0 s0 : Nat} (hz : s.heap.size = B.1 + n0) {N : Nat} {x0 : Nat} {gz : Gs} {dz : Ds} {K63 : Int32 × Gs × Ds → Option (Gs × Ds)} (hK63 : ∀ a, K63 a = some (gz, dz) → n0 ≤ gN a.2.1 → s0 ≤ gS a.2.1 → WB p l e rmX0_init s m args below meth c 2 D cy B (gN a.2.1 - n0) (gS a.2.1 - s0) (MQ below (QV D cy B gz dz) args s 107 447 (wA B)) a.2.1 a.2.2 [(0, .ref (ad B x0)), (1, .int a.1)] 63 []) {y1 : Int32} {g : Gs} {d : Ds} (hn : n0 ≤ gN g) (hs : s0 ≤ gS g) (hf : fX0_init_B63 N x0 n0 s0 K63 y1 g d = some (gz, dz)) : WB p l e rmX0_init s m args below meth c 2 D cy B (gN g - n0) (gS g - s0) (MQ below (QV D cy B gz dz) args s 107 447 (wA B)) g d [(0, .ref (ad B x0)), (1, .int y1)] 63 [] := by
  unfold fX0_init_B63 at hf
  refine b_iload_n C dX0_init_63 1 rfl rfl ?_
  refine b_aload_n C dX0_init_64 0 rfl rfl ?_
  obtain ⟨h77, hf⟩ := gd_s hf
  obtain ⟨r78, er78, hf⟩ := ob_s hf
  refine b_gR C dX0_init_65 fl_X0_11 h77 er78 ?_
  obtain ⟨h79, hf⟩ := gd_s hf
  refine b_alen C (t := 5) h79 (by decide) dX0_init_68 ?_
  refine b_icmp_ge C (tgt := 91) dX0_init_69 (by decide) (fun c80 => ?_) (fun c80 => ?_)
  · have hf := it_s c80 hf
    refine b_iconst C (v := 0) dX0_init_91 (by decide) ?_
    refine b_istore_n C dX0_init_92 rfl [(1, .int 0), (0, .ref (ad B x0))] (by decide) rfl ?_
    refine b_sub [(0, .ref (ad B x0)), (1, .int 0)] [1, 0] rfl ?_
    exact tX0_init_L93 C hr hlocks hin hz (0, g, d) hn hs hf
  · have hf := if_s c80 hf
    refine b_aload_n C dX0_init_72 0 rfl rfl ?_
    refine b_gR C dX0_init_73 fl_X0_11 h77 er78 ?_
    refine b_iload_n C dX0_init_76 1 rfl rfl ?_
    obtain ⟨h108, hf⟩ := gd_s hf
    obtain ⟨h109, hf⟩ := gd_s hf
    obtain ⟨g110, eg110, hf⟩ := bd_s hf
    obtain ⟨d111, ed111, hf⟩ := bd_s hf
    obtain ⟨r112, er112, hf⟩ := bd_s hf
    refine b_new C dX0_init_77 nw_X0_9 hz hn hs h108 h109 eg110 ed111 (fun hn113 hn113s => ?_)
    refine b_topR er112 ?_
    refine b_dup C dX0_init_80 rfl ?_
    obtain ⟨h114, hf⟩ := gd_s hf
    obtain ⟨g115, d116, k117, hf⟩ := cb_s hf
    obtain ⟨h119, hf⟩ := gd_s hf
    obtain ⟨h120, hf⟩ := gd_s hf
    refine b_callC C [.ref (ad B r112), .int y1, .ref (ad B r78)] dX0_init_81 (kX2_init l D cy B k117) lv_X0_17 ⟨rfl, rfl, Nat.le_of_ble_eq_true rfl, Nat.le_of_ble_eq_true rfl⟩ rfl (Nat.le_of_ble_eq_true rfl) hz hn113 hn113s h114 h119 h120 rfl (fun hn118 hn118s => ?_)
    obtain ⟨h121, hf⟩ := gd_s hf
    obtain ⟨h122, hf⟩ := gd_s hf
    obtain ⟨h123, hf⟩ := gd_s hf
    obtain ⟨g124, eg124, hf⟩ := bd_s hf
    refine b_aastDC C dX0_init_84 h121 h122 h123 eg124 ?_
    have hn125 : n0 ≤ gN g124 := by rw [eg124]; exact hn118
    have hn125s : s0 ≤ gS g124 := by rw [eg124]; exact hn118s
    obtain ⟨u126, eu126, hf⟩ := bd_s hf
    refine b_iinc C dX0_init_85 1 rfl (by rw [eu126]; rfl) [(1, .int u126), (0, .ref (ad B x0))] (by decide) rfl ?_
    refine b_goto C (tgt := 63) dX0_init_88 (by decide) ?_
    refine b_sub [(0, .ref (ad B x0)), (1, .int u126)] [1, 0] rfl ?_
    exact hK63 (u126, g124, d116) hf hn125 hn125s
def fX0_init_L63 (N : Nat)  (x0 : Nat) (n0 s0 : Nat) : Int32 × Gs × Ds → Option (Gs × Ds) := lp (fun K63 a => fX0_init_B63 N x0 n0 s0 K63 a.1 a.2.1 a.2.2) N
theorem tX0_init_L63 {p : Program} {l : Launch} {e : Env} {s : State} {m : MethodId} {args : Array Value} {below : List Frame} {meth : Method} {c : Code} {D : va_G} {cy : Nat → ClassId} {B : Bs} (C : Cx p s m args c cX0_init 2 RX0 D cy B) (hr : meth.sig.returnType = none) (hlocks : meth.locks = false) (hin : meth.name = "<init>") {n0 s0 : Nat} (hz : s.heap.size = B.1 + n0) {N : Nat} {x0 : Nat} {gz : Gs} {dz : Ds} (a : Int32 × Gs × Ds) (hn : n0 ≤ gN a.2.1) (hs : s0 ≤ gS a.2.1) (hf : fX0_init_L63 N x0 n0 s0 a = some (gz, dz)) : WB p l e rmX0_init s m args below meth c 2 D cy B (gN a.2.1 - n0) (gS a.2.1 - s0) (MQ below (QV D cy B gz dz) args s 107 447 (wA B)) a.2.1 a.2.2 [(0, .ref (ad B x0)), (1, .int a.1)] 63 [] := by
  unfold fX0_init_L63 at hf
  exact lp_w (G := fun a => n0 ≤ gN a.2.1 → s0 ≤ gS a.2.1 → WB p l e rmX0_init s m args below meth c 2 D cy B (gN a.2.1 - n0) (gS a.2.1 - s0) (MQ below (QV D cy B gz dz) args s 107 447 (wA B)) a.2.1 a.2.2 [(0, .ref (ad B x0)), (1, .int a.1)] 63 []) (fun K63 hK63 a ha hn hs => tX0_init_63 C hr hlocks hin hz hK63 hn hs ha) N a hf hn hs
set_option maxRecDepth 100000 in
def fX0_init_E (N : Nat) (x0 : Nat) (n0 s0 : Nat) (g : Gs) (d : Ds) : Option (Gs × Ds) := gd (¬ (96 : Int32) < 0) <| gd ((96 : Int32).toNatClampNeg ≤ 60000000) <| gd (gN g < 100000) <| gd (gN g + 1 - n0 ≤ 107 ∧ gS g + (96 : Int32).toNatClampNeg - s0 ≤ 447) <| bd (nG g 105 (96 : Int32).toNatClampNeg (96 : Int32).toNatClampNeg) fun g5 => (bd (nD g d) fun d6 => (bd (gN g) fun r7 => (gd (chk g5 x0 0) <| bd (sR g5 x0 10 r7) fun g10 => (gd (gN g10 < 100000) <| gd (gN g10 + 1 - n0 ≤ 107 ∧ gS g10 + 3 - s0 ≤ 447) <| bd (nG g10 2 0 3) fun g14 => (bd (nD g10 d6) fun d15 => (bd (gN g10) fun r16 => (gd (0 < gN g14) <| cb (fX2_init N r16 g14 d15) fun g19 d20 => (gd (gN g19 = gN g14 + 0 ∧ gS g19 = gS g14 + 0) <| gd (gN g19 - n0 ≤ 107 ∧ gS g19 - s0 ≤ 447) <| gd (chk g19 x0 0) <| bd (sR g19 x0 11 r16) fun g26 => (gd (¬ (4 : Int32) < 0) <| gd ((4 : Int32).toNatClampNeg ≤ 60000000) <| gd (gN g26 < 100000) <| gd (gN g26 + 1 - n0 ≤ 107 ∧ gS g26 + (4 : Int32).toNatClampNeg - s0 ≤ 447) <| bd (nG g26 102 (4 : Int32).toNatClampNeg (4 : Int32).toNatClampNeg) fun g32 => (bd (nD g26 d20) fun d33 => (bd (gN g26) fun r34 => (gd (chk g32 x0 0) <| bd (sR g32 x0 13 r34) fun g37 => (gd (gN g37 < 100000) <| gd (gN g37 + 1 - n0 ≤ 107 ∧ gS g37 + (4 : Int32).toNatClampNeg - s0 ≤ 447) <| bd (nG g37 102 (4 : Int32).toNatClampNeg (4 : Int32).toNatClampNeg) fun g41 => (bd (nD g37 d33) fun d42 => (bd (gN g37) fun r43 => (gd (chk g41 x0 0) <| bd (sR g41 x0 14 r43) fun g46 => (gd (gN g46 < 100000) <| gd (gN g46 + 1 - n0 ≤ 107 ∧ gS g46 + (4 : Int32).toNatClampNeg - s0 ≤ 447) <| bd (nG g46 105 (4 : Int32).toNatClampNeg (4 : Int32).toNatClampNeg) fun g50 => (bd (nD g46 d42) fun d51 => (bd (gN g46) fun r52 => (gd (chk g50 x0 0) <| bd (sR g50 x0 15 r52) fun g55 => (gd (gN g55 < 100000) <| gd (gN g55 + 1 - n0 ≤ 107 ∧ gS g55 + (4 : Int32).toNatClampNeg - s0 ≤ 447) <| bd (nG g55 102 (4 : Int32).toNatClampNeg (4 : Int32).toNatClampNeg) fun g59 => (bd (nD g55 d51) fun d60 => (bd (gN g55) fun r61 => (gd (chk g59 x0 0) <| bd (sR g59 x0 17 r61) fun g64 => (gd (¬ (32 : Int32) < 0) <| gd ((32 : Int32).toNatClampNeg ≤ 60000000) <| gd (gN g64 < 100000) <| gd (gN g64 + 1 - n0 ≤ 107 ∧ gS g64 + (32 : Int32).toNatClampNeg - s0 ≤ 447) <| bd (nG g64 102 (32 : Int32).toNatClampNeg (32 : Int32).toNatClampNeg) fun g70 => (bd (nD g64 d60) fun d71 => (bd (gN g64) fun r72 => (gd (chk g70 x0 0) <| bd (sR g70 x0 18 r72) fun g75 => (fX0_init_L63 N x0 n0 s0 (0, g75, d71))))))))))))))))))))))))))))))
def fX0_init (N : Nat) (x0 : Nat) (g : Gs) (d : Ds) : Option (Gs × Ds) := fX0_init_E N x0 (gN g) (gS g) g d
set_option maxHeartbeats 4000000 in
set_option maxRecDepth 100000 in
theorem tX0_init_E {p : Program} {l : Launch} {e : Env} {s : State} {m : MethodId} {args : Array Value} {below : List Frame} {meth : Method} {c : Code} {D : va_G} {cy : Nat → ClassId} {B : Bs} (C : Cx p s m args c cX0_init 2 RX0 D cy B) (hr : meth.sig.returnType = none) (hlocks : meth.locks = false) (hin : meth.name = "<init>") {n0 s0 : Nat} (hz : s.heap.size = B.1 + n0) {N : Nat} {x0 : Nat} {gz : Gs} {dz : Ds} {g : Gs} {d : Ds} (hn : n0 ≤ gN g) (hs : s0 ≤ gS g) (hf : fX0_init_E N x0 n0 s0 g d = some (gz, dz)) : WB p l e rmX0_init s m args below meth c 2 D cy B (gN g - n0) (gS g - s0) (MQ below (QV D cy B gz dz) args s 107 447 (wA B)) g d [(0, .ref (ad B x0))] 0 [] := by
  unfold fX0_init_E at hf
  refine b_aload_n C dX0_init_0 0 rfl rfl ?_
  refine b_objInit C oi_X0_3 oi_i oi_c (by decide) (by decide) dX0_init_1 ?_
  refine b_aload_n C dX0_init_4 0 rfl rfl ?_
  refine b_bipush C (v := 96) dX0_init_5 (by decide) ?_
  obtain ⟨h1, hf⟩ := gd_s hf
  obtain ⟨h2, hf⟩ := gd_s hf
  obtain ⟨h3, hf⟩ := gd_s hf
  obtain ⟨h4, hf⟩ := gd_s hf
  obtain ⟨g5, eg5, hf⟩ := bd_s hf
  obtain ⟨d6, ed6, hf⟩ := bd_s hf
  obtain ⟨r7, er7, hf⟩ := bd_s hf
  refine b_newqD C dX0_init_7 cw_X0_9 hz hn hs h3 h1 h2 h4 eg5 ed6 (fun hn8 hn8s => ?_)
  refine b_topR er7 ?_
  obtain ⟨h9, hf⟩ := gd_s hf
  obtain ⟨g10, eg10, hf⟩ := bd_s hf
  refine b_pRC C dX0_init_10 fq_X0_11 fr0_10 hin h9 eg10 ?_
  have hn11 : n0 ≤ gN g10 := by rw [eg10]; exact hn8
  have hn11s : s0 ≤ gS g10 := by rw [eg10]; exact hn8s
  refine b_aload_n C dX0_init_13 0 rfl rfl ?_
  obtain ⟨h12, hf⟩ := gd_s hf
  obtain ⟨h13, hf⟩ := gd_s hf
  obtain ⟨g14, eg14, hf⟩ := bd_s hf
  obtain ⟨d15, ed15, hf⟩ := bd_s hf
  obtain ⟨r16, er16, hf⟩ := bd_s hf
  refine b_new C dX0_init_14 nw_X0_9 hz hn11 hn11s h12 h13 eg14 ed15 (fun hn17 hn17s => ?_)
  refine b_topR er16 ?_
  refine b_dup C dX0_init_17 rfl ?_
  obtain ⟨h18, hf⟩ := gd_s hf
  obtain ⟨g19, d20, k21, hf⟩ := cb_s hf
  obtain ⟨h23, hf⟩ := gd_s hf
  obtain ⟨h24, hf⟩ := gd_s hf
  refine b_callC C [.ref (ad B r16), .ref (ad B x0)] dX0_init_18 (kX2_init l D cy B k21) lv_X0_17 ⟨rfl, rfl, Nat.le_of_ble_eq_true rfl, Nat.le_of_ble_eq_true rfl⟩ rfl (Nat.le_of_ble_eq_true rfl) hz hn17 hn17s h18 h23 h24 rfl (fun hn22 hn22s => ?_)
  obtain ⟨h25, hf⟩ := gd_s hf
  obtain ⟨g26, eg26, hf⟩ := bd_s hf
  refine b_pRC C dX0_init_21 fq_X0_18 fr0_11 hin h25 eg26 ?_
  have hn27 : n0 ≤ gN g26 := by rw [eg26]; exact hn22
  have hn27s : s0 ≤ gS g26 := by rw [eg26]; exact hn22s
  refine b_aload_n C dX0_init_24 0 rfl rfl ?_
  refine b_iconst C (v := 4) dX0_init_25 (by decide) ?_
  obtain ⟨h28, hf⟩ := gd_s hf
  obtain ⟨h29, hf⟩ := gd_s hf
  obtain ⟨h30, hf⟩ := gd_s hf
  obtain ⟨h31, hf⟩ := gd_s hf
  obtain ⟨g32, eg32, hf⟩ := bd_s hf
  obtain ⟨d33, ed33, hf⟩ := bd_s hf
  obtain ⟨r34, er34, hf⟩ := bd_s hf
  refine b_newaI C dX0_init_26 ar_int hz hn27 hn27s h30 h28 h29 h31 eg32 ed33 (fun hn35 hn35s => ?_)
  refine b_topR er34 ?_
  obtain ⟨h36, hf⟩ := gd_s hf
  obtain ⟨g37, eg37, hf⟩ := bd_s hf
  refine b_pRC C dX0_init_28 fq_X0_22 fr0_13 hin h36 eg37 ?_
  have hn38 : n0 ≤ gN g37 := by rw [eg37]; exact hn35
  have hn38s : s0 ≤ gS g37 := by rw [eg37]; exact hn35s
  refine b_aload_n C dX0_init_31 0 rfl rfl ?_
  refine b_iconst C (v := 4) dX0_init_32 (by decide) ?_
  obtain ⟨h39, hf⟩ := gd_s hf
  obtain ⟨h40, hf⟩ := gd_s hf
  obtain ⟨g41, eg41, hf⟩ := bd_s hf
  obtain ⟨d42, ed42, hf⟩ := bd_s hf
  obtain ⟨r43, er43, hf⟩ := bd_s hf
  refine b_newaI C dX0_init_33 ar_int hz hn38 hn38s h39 h28 h29 h40 eg41 ed42 (fun hn44 hn44s => ?_)
  refine b_topR er43 ?_
  obtain ⟨h45, hf⟩ := gd_s hf
  obtain ⟨g46, eg46, hf⟩ := bd_s hf
  refine b_pRC C dX0_init_35 fq_X0_26 fr0_14 hin h45 eg46 ?_
  have hn47 : n0 ≤ gN g46 := by rw [eg46]; exact hn44
  have hn47s : s0 ≤ gS g46 := by rw [eg46]; exact hn44s
  refine b_aload_n C dX0_init_38 0 rfl rfl ?_
  refine b_iconst C (v := 4) dX0_init_39 (by decide) ?_
  obtain ⟨h48, hf⟩ := gd_s hf
  obtain ⟨h49, hf⟩ := gd_s hf
  obtain ⟨g50, eg50, hf⟩ := bd_s hf
  obtain ⟨d51, ed51, hf⟩ := bd_s hf
  obtain ⟨r52, er52, hf⟩ := bd_s hf
  refine b_newqD C dX0_init_40 cw_X0_9 hz hn47 hn47s h48 h28 h29 h49 eg50 ed51 (fun hn53 hn53s => ?_)
  refine b_topR er52 ?_
  obtain ⟨h54, hf⟩ := gd_s hf
  obtain ⟨g55, eg55, hf⟩ := bd_s hf
  refine b_pRC C dX0_init_43 fq_X0_29 fr0_15 hin h54 eg55 ?_
  have hn56 : n0 ≤ gN g55 := by rw [eg55]; exact hn53
  have hn56s : s0 ≤ gS g55 := by rw [eg55]; exact hn53s
  refine b_aload_n C dX0_init_46 0 rfl rfl ?_
  refine b_iconst C (v := 4) dX0_init_47 (by decide) ?_
  obtain ⟨h57, hf⟩ := gd_s hf
  obtain ⟨h58, hf⟩ := gd_s hf
  obtain ⟨g59, eg59, hf⟩ := bd_s hf
  obtain ⟨d60, ed60, hf⟩ := bd_s hf
  obtain ⟨r61, er61, hf⟩ := bd_s hf
  refine b_newaI C dX0_init_48 ar_int hz hn56 hn56s h57 h28 h29 h58 eg59 ed60 (fun hn62 hn62s => ?_)
  refine b_topR er61 ?_
  obtain ⟨h63, hf⟩ := gd_s hf
  obtain ⟨g64, eg64, hf⟩ := bd_s hf
  refine b_pRC C dX0_init_50 fq_X0_32 fr0_17 hin h63 eg64 ?_
  have hn65 : n0 ≤ gN g64 := by rw [eg64]; exact hn62
  have hn65s : s0 ≤ gS g64 := by rw [eg64]; exact hn62s
  refine b_aload_n C dX0_init_53 0 rfl rfl ?_
  refine b_bipush C (v := 32) dX0_init_54 (by decide) ?_
  obtain ⟨h66, hf⟩ := gd_s hf
  obtain ⟨h67, hf⟩ := gd_s hf
  obtain ⟨h68, hf⟩ := gd_s hf
  obtain ⟨h69, hf⟩ := gd_s hf
  obtain ⟨g70, eg70, hf⟩ := bd_s hf
  obtain ⟨d71, ed71, hf⟩ := bd_s hf
  obtain ⟨r72, er72, hf⟩ := bd_s hf
  refine b_newaI C dX0_init_56 ar_int hz hn65 hn65s h68 h66 h67 h69 eg70 ed71 (fun hn73 hn73s => ?_)
  refine b_topR er72 ?_
  obtain ⟨h74, hf⟩ := gd_s hf
  obtain ⟨g75, eg75, hf⟩ := bd_s hf
  refine b_pRC C dX0_init_58 fq_X0_35 fr0_18 hin h74 eg75 ?_
  have hn76 : n0 ≤ gN g75 := by rw [eg75]; exact hn73
  have hn76s : s0 ≤ gS g75 := by rw [eg75]; exact hn73s
  refine b_iconst C (v := 0) dX0_init_61 (by decide) ?_
  refine b_istore_n C dX0_init_62 rfl [(1, .int 0), (0, .ref (ad B x0))] (by decide) rfl ?_
  refine b_sub [(0, .ref (ad B x0)), (1, .int 0)] [1, 0] rfl ?_
  exact tX0_init_L63 C hr hlocks hin hz (0, g75, d71) hn76 hn76s hf
theorem kX0_init (l : Launch) (D : va_G) (cy : Nat → ClassId) (B : Bs) {N : Nat} {g : Gs} {x0 : Nat} {gz : Gs} {dz : Ds} {d : Ds} (hf : fX0_init N x0 g d = some (gz, dz)) : Met l yX0_init (.code yX0_init cX0_init 2 none :: wl) rmX0_init (PCC D cy B [.ref (ad B x0)] g d) (QV D cy B gz dz) 107 447 (wA B) :=
  met_ofC (by decide +kernel) (Nat.le_of_ble_eq_true rfl) (fun p e s m args below meth c C hr hlocks hin hz => b_sub [(0, .ref (ad B x0))] [0] rfl (tX0_init_E C hr hlocks hin hz (Nat.le_refl _) (Nat.le_refl _) hf))
/-! KeyMatrix$Deed.copyFrom(LKeyMatrix$Deed;)V -/
theorem lv_X2_21 : LV RX2 21 yX2_tell cX2_tell 4 none 3 2 := ⟨⟨(RX2, TX2, 3), rfl, rfl⟩, yo_X2_tell, mW (mT3 (List.mem_of_getElem? (i := 198) (by decide +kernel))) rfl, im_X2_tell, se_X2_tell, in_X2_tell, co_X2_tell⟩
theorem dX2_copyFrom_0 : decode cX2_copyFrom 0 = .ok (.aload_n 0, 1) := by decide +kernel
theorem dX2_copyFrom_1 : decode cX2_copyFrom 1 = .ok (.aload_n 1, 1) := by decide +kernel
theorem dX2_copyFrom_2 : decode cX2_copyFrom 2 = .ok (.getfield 9, 3) := by decide +kernel
theorem dX2_copyFrom_5 : decode cX2_copyFrom 5 = .ok (.aload_n 1, 1) := by decide +kernel
theorem dX2_copyFrom_6 : decode cX2_copyFrom 6 = .ok (.getfield 15, 3) := by decide +kernel
theorem dX2_copyFrom_9 : decode cX2_copyFrom 9 = .ok (.aload_n 1, 1) := by decide +kernel
theorem dX2_copyFrom_10 : decode cX2_copyFrom 10 = .ok (.getfield 18, 3) := by decide +kernel
theorem dX2_copyFrom_13 : decode cX2_copyFrom 13 = .ok (.invokevirtual 21, 3) := by decide +kernel
theorem dX2_copyFrom_16 : decode cX2_copyFrom 16 = .ok (.return_, 1) := by decide +kernel
def rmX2_copyFrom : Room := { frames := 1, cells := 0, slots := 0, locals := 23 }
set_option maxRecDepth 100000 in
def fX2_copyFrom (N : Nat) (g : Gs) (x0 : Nat) (x1 : Nat) (d : Ds) : Option (Unit × Ds) := gd (chk g x1 2) <| gd (chk g x0 2) <| cv (fX2_tell N g x0 (dI d x1 0) (dI d x1 1) (dI d x1 2) d) fun d3 => (some ((), d3))
set_option maxHeartbeats 4000000 in
set_option maxRecDepth 100000 in
theorem tX2_copyFrom_E {p : Program} {l : Launch} {e : Env} {s : State} {m : MethodId} {args : Array Value} {below : List Frame} {meth : Method} {c : Code} {D : va_G} {cy : Nat → ClassId} {B : Bs} (C : Cx p s m args c cX2_copyFrom 2 RX2 D cy B) (hr : meth.sig.returnType = none) (hlocks : meth.locks = false) {N : Nat} {g : Gs} {x0 : Nat} {x1 : Nat}  {dz : Ds} {d : Ds} (hf : fX2_copyFrom N g x0 x1 d = some ((), dz)) : WB p l e rmX2_copyFrom s m args below meth c 2 D cy B 0 0 (MQ below (QV D cy B g dz) args s 0 0 (wA B)) g d [(0, .ref (ad B x0)), (1, .ref (ad B x1))] 0 [] := by
  unfold fX2_copyFrom at hf
  refine b_aload_n C dX2_copyFrom_0 0 rfl rfl ?_
  refine b_aload_n C dX2_copyFrom_1 1 rfl rfl ?_
  obtain ⟨h1, hf⟩ := gd_s hf
  refine b_gI C dX2_copyFrom_2 fl_X2_9 h1 ?_
  refine b_aload_n C dX2_copyFrom_5 1 rfl rfl ?_
  refine b_gI C dX2_copyFrom_6 fl_X2_15 h1 ?_
  refine b_aload_n C dX2_copyFrom_9 1 rfl rfl ?_
  refine b_gI C dX2_copyFrom_10 fl_X2_18 h1 ?_
  obtain ⟨h2, hf⟩ := gd_s hf
  obtain ⟨d3, k4, hf⟩ := cv_s hf
  refine b_cVN C [] dX2_copyFrom_13 (kX2_tell l D cy B k4) lv_X2_21 ⟨rfl, rfl, Nat.le_of_ble_eq_true rfl, Nat.le_of_ble_eq_true rfl⟩ h2 (by decide) rfl (Nat.le_of_ble_eq_true rfl) ⟨Nat.zero_le _, Nat.zero_le _⟩ rfl ?_
  exact b_vret C hr hlocks hf dX2_copyFrom_16
theorem kX2_copyFrom (l : Launch) (D : va_G) (cy : Nat → ClassId) (B : Bs) {N : Nat} {g : Gs} {x0 : Nat} {x1 : Nat}  {dz : Ds} {d : Ds} (hf : fX2_copyFrom N g x0 x1 d = some ((), dz)) : Met l yX2_copyFrom (.code yX2_copyFrom cX2_copyFrom 2 none :: wl) rmX2_copyFrom (PC D cy B [.ref (ad B x0), .ref (ad B x1)] g d) (QV D cy B g dz) 0 0 (wA B) :=
  met_of (by decide +kernel) (Nat.le_of_ble_eq_true rfl) (fun p e s m args below meth c C hr hlocks _ => b_sub [(0, .ref (ad B x0)), (1, .ref (ad B x1))] [0, 1] rfl (tX2_copyFrom_E C hr hlocks hf))
/-! KeyMatrix$Board.copyFrom(LKeyMatrix$Board;)V -/
theorem fl_X0_32 : FLR RX0 32 0 17 := ⟨⟨RX0, TX0, 19, rfl, by decide, inl0, Or.inl (mW (mT1 (List.mem_of_getElem? (i := 163) (by decide +kernel))) rfl)⟩, by decide, by decide +kernel⟩
theorem ac_X0_87 : Cond.methodLink RX0 87 arraycopyName ∈ wl := mW (mT4 (List.mem_of_getElem? (i := 15) (by decide +kernel))) rfl
theorem ac_n : Cond.native arraycopyName ∈ wl := mW (mT4 (List.mem_of_getElem? (i := 17) (by decide +kernel))) rfl
theorem ac_s : Cond.static arraycopyName ∈ wl := mW (mT4 (List.mem_of_getElem? (i := 16) (by decide +kernel))) rfl
theorem ac_i : Cond.initialized "java/lang/System" ∈ wl := mW (mT1 (List.mem_of_getElem? (i := 19) (by decide +kernel))) rfl
theorem fl_X0_35 : FLR RX0 35 0 18 := ⟨⟨RX0, TX0, 19, rfl, by decide, inl0, Or.inl (mW (mT1 (List.mem_of_getElem? (i := 165) (by decide +kernel))) rfl)⟩, by decide, by decide +kernel⟩
theorem fl_X0_22 : FLR RX0 22 0 13 := ⟨⟨RX0, TX0, 19, rfl, by decide, inl0, Or.inl (mW (mT1 (List.mem_of_getElem? (i := 153) (by decide +kernel))) rfl)⟩, by decide, by decide +kernel⟩
theorem fl_X0_26 : FLR RX0 26 0 14 := ⟨⟨RX0, TX0, 19, rfl, by decide, inl0, Or.inl (mW (mT1 (List.mem_of_getElem? (i := 156) (by decide +kernel))) rfl)⟩, by decide, by decide +kernel⟩
theorem yo_X2_copyFrom : yX2_copyFrom.cls ≠ "java/lang/invoke/MethodHandle" ∧ yX2_copyFrom.cls ≠ "java/lang/invoke/VarHandle" ∧ (parseMethodDescriptor yX2_copyFrom.desc).map (fun d => d.parameters.length) = some 1 := by decide +kernel
theorem co_X2_copyFrom : Cond.code yX2_copyFrom cX2_copyFrom 2 none ∈ wl := mW (mT3 (List.mem_of_getElem? (i := 197) (by decide +kernel))) rfl
theorem in_X2_copyFrom : Cond.initialized yX2_copyFrom.cls ∈ wl := mW (mT1 (List.mem_of_getElem? (i := 4) (by decide +kernel))) rfl
theorem im_X2_copyFrom : Cond.instanceMethod yX2_copyFrom ∈ wl := mW (mT3 (List.mem_of_getElem? (i := 195) (by decide +kernel))) rfl
theorem se_X2_copyFrom : Cond.selects yX2_copyFrom.cls yX2_copyFrom yX2_copyFrom ∈ wl := mW (mT3 (List.mem_of_getElem? (i := 196) (by decide +kernel))) rfl
theorem lv_X0_83 : LV RX0 83 yX2_copyFrom cX2_copyFrom 2 none 1 2 := ⟨⟨(RX2, TX2, 3), rfl, rfl⟩, yo_X2_copyFrom, mW (mT3 (List.mem_of_getElem? (i := 219) (by decide +kernel))) rfl, im_X2_copyFrom, se_X2_copyFrom, in_X2_copyFrom, co_X2_copyFrom⟩
theorem dX0_copyFrom_0 : decode cX0_copyFrom 0 = .ok (.aload_n 0, 1) := by decide +kernel
theorem dX0_copyFrom_1 : decode cX0_copyFrom 1 = .ok (.aload_n 1, 1) := by decide +kernel
theorem dX0_copyFrom_2 : decode cX0_copyFrom 2 = .ok (.getfield 41, 3) := by decide +kernel
theorem dX0_copyFrom_5 : decode cX0_copyFrom 5 = .ok (.putfield 41, 3) := by decide +kernel
theorem dX0_copyFrom_8 : decode cX0_copyFrom 8 = .ok (.aload_n 0, 1) := by decide +kernel
theorem dX0_copyFrom_9 : decode cX0_copyFrom 9 = .ok (.aload_n 1, 1) := by decide +kernel
theorem dX0_copyFrom_10 : decode cX0_copyFrom 10 = .ok (.getfield 45, 3) := by decide +kernel
theorem dX0_copyFrom_13 : decode cX0_copyFrom 13 = .ok (.putfield 45, 3) := by decide +kernel
theorem dX0_copyFrom_16 : decode cX0_copyFrom 16 = .ok (.aload_n 0, 1) := by decide +kernel
theorem dX0_copyFrom_17 : decode cX0_copyFrom 17 = .ok (.aload_n 1, 1) := by decide +kernel
theorem dX0_copyFrom_18 : decode cX0_copyFrom 18 = .ok (.getfield 48, 3) := by decide +kernel
theorem dX0_copyFrom_21 : decode cX0_copyFrom 21 = .ok (.putfield 48, 3) := by decide +kernel
theorem dX0_copyFrom_24 : decode cX0_copyFrom 24 = .ok (.aload_n 0, 1) := by decide +kernel
theorem dX0_copyFrom_25 : decode cX0_copyFrom 25 = .ok (.aload_n 1, 1) := by decide +kernel
theorem dX0_copyFrom_26 : decode cX0_copyFrom 26 = .ok (.getfield 52, 3) := by decide +kernel
theorem dX0_copyFrom_29 : decode cX0_copyFrom 29 = .ok (.putfield 52, 3) := by decide +kernel
theorem dX0_copyFrom_32 : decode cX0_copyFrom 32 = .ok (.aload_n 0, 1) := by decide +kernel
theorem dX0_copyFrom_33 : decode cX0_copyFrom 33 = .ok (.aload_n 1, 1) := by decide +kernel
theorem dX0_copyFrom_34 : decode cX0_copyFrom 34 = .ok (.getfield 55, 3) := by decide +kernel
theorem dX0_copyFrom_37 : decode cX0_copyFrom 37 = .ok (.putfield 55, 3) := by decide +kernel
theorem dX0_copyFrom_40 : decode cX0_copyFrom 40 = .ok (.aload_n 0, 1) := by decide +kernel
theorem dX0_copyFrom_41 : decode cX0_copyFrom 41 = .ok (.aload_n 1, 1) := by decide +kernel
theorem dX0_copyFrom_42 : decode cX0_copyFrom 42 = .ok (.getfield 58, 3) := by decide +kernel
theorem dX0_copyFrom_45 : decode cX0_copyFrom 45 = .ok (.putfield 58, 3) := by decide +kernel
theorem dX0_copyFrom_48 : decode cX0_copyFrom 48 = .ok (.aload_n 0, 1) := by decide +kernel
theorem dX0_copyFrom_49 : decode cX0_copyFrom 49 = .ok (.aload_n 1, 1) := by decide +kernel
theorem dX0_copyFrom_50 : decode cX0_copyFrom 50 = .ok (.getfield 61, 3) := by decide +kernel
theorem dX0_copyFrom_53 : decode cX0_copyFrom 53 = .ok (.putfield 61, 3) := by decide +kernel
theorem dX0_copyFrom_56 : decode cX0_copyFrom 56 = .ok (.aload_n 0, 1) := by decide +kernel
theorem dX0_copyFrom_57 : decode cX0_copyFrom 57 = .ok (.aload_n 1, 1) := by decide +kernel
theorem dX0_copyFrom_58 : decode cX0_copyFrom 58 = .ok (.getfield 64, 3) := by decide +kernel
theorem dX0_copyFrom_61 : decode cX0_copyFrom 61 = .ok (.putfield 64, 3) := by decide +kernel
theorem dX0_copyFrom_64 : decode cX0_copyFrom 64 = .ok (.aload_n 0, 1) := by decide +kernel
theorem dX0_copyFrom_65 : decode cX0_copyFrom 65 = .ok (.aload_n 1, 1) := by decide +kernel
theorem dX0_copyFrom_66 : decode cX0_copyFrom 66 = .ok (.getfield 67, 3) := by decide +kernel
theorem dX0_copyFrom_69 : decode cX0_copyFrom 69 = .ok (.putfield 67, 3) := by decide +kernel
theorem dX0_copyFrom_72 : decode cX0_copyFrom 72 = .ok (.aload_n 0, 1) := by decide +kernel
theorem dX0_copyFrom_73 : decode cX0_copyFrom 73 = .ok (.aload_n 1, 1) := by decide +kernel
theorem dX0_copyFrom_74 : decode cX0_copyFrom 74 = .ok (.getfield 70, 3) := by decide +kernel
theorem dX0_copyFrom_77 : decode cX0_copyFrom 77 = .ok (.putfield 70, 3) := by decide +kernel
theorem dX0_copyFrom_80 : decode cX0_copyFrom 80 = .ok (.iconst 0, 1) := by decide +kernel
theorem dX0_copyFrom_81 : decode cX0_copyFrom 81 = .ok (.istore_n 2, 1) := by decide +kernel
theorem dX0_copyFrom_82 : decode cX0_copyFrom 82 = .ok (.iload_n 2, 1) := by decide +kernel
theorem dX0_copyFrom_83 : decode cX0_copyFrom 83 = .ok (.aload_n 0, 1) := by decide +kernel
theorem dX0_copyFrom_84 : decode cX0_copyFrom 84 = .ok (.getfield 11, 3) := by decide +kernel
theorem dX0_copyFrom_87 : decode cX0_copyFrom 87 = .ok (.arraylength, 1) := by decide +kernel
theorem dX0_copyFrom_88 : decode cX0_copyFrom 88 = .ok (.if_icmp .ge 24, 3) := by decide +kernel
theorem dX0_copyFrom_91 : decode cX0_copyFrom 91 = .ok (.aload_n 0, 1) := by decide +kernel
theorem dX0_copyFrom_92 : decode cX0_copyFrom 92 = .ok (.getfield 11, 3) := by decide +kernel
theorem dX0_copyFrom_95 : decode cX0_copyFrom 95 = .ok (.iload_n 2, 1) := by decide +kernel
theorem dX0_copyFrom_96 : decode cX0_copyFrom 96 = .ok (.aaload, 1) := by decide +kernel
theorem dX0_copyFrom_97 : decode cX0_copyFrom 97 = .ok (.aload_n 1, 1) := by decide +kernel
theorem dX0_copyFrom_98 : decode cX0_copyFrom 98 = .ok (.getfield 11, 3) := by decide +kernel
theorem dX0_copyFrom_101 : decode cX0_copyFrom 101 = .ok (.iload_n 2, 1) := by decide +kernel
theorem dX0_copyFrom_102 : decode cX0_copyFrom 102 = .ok (.aaload, 1) := by decide +kernel
theorem dX0_copyFrom_103 : decode cX0_copyFrom 103 = .ok (.invokevirtual 83, 3) := by decide +kernel
theorem dX0_copyFrom_106 : decode cX0_copyFrom 106 = .ok (.iinc 2 1, 3) := by decide +kernel
theorem dX0_copyFrom_109 : decode cX0_copyFrom 109 = .ok (.goto (-27), 3) := by decide +kernel
theorem dX0_copyFrom_112 : decode cX0_copyFrom 112 = .ok (.aload_n 0, 1) := by decide +kernel
theorem dX0_copyFrom_113 : decode cX0_copyFrom 113 = .ok (.aload_n 1, 1) := by decide +kernel
theorem dX0_copyFrom_114 : decode cX0_copyFrom 114 = .ok (.getfield 77, 3) := by decide +kernel
theorem dX0_copyFrom_117 : decode cX0_copyFrom 117 = .ok (.putfield 77, 3) := by decide +kernel
theorem dX0_copyFrom_120 : decode cX0_copyFrom 120 = .ok (.iconst 0, 1) := by decide +kernel
theorem dX0_copyFrom_121 : decode cX0_copyFrom 121 = .ok (.istore_n 2, 1) := by decide +kernel
theorem dX0_copyFrom_122 : decode cX0_copyFrom 122 = .ok (.iload_n 2, 1) := by decide +kernel
theorem dX0_copyFrom_123 : decode cX0_copyFrom 123 = .ok (.iconst 4, 1) := by decide +kernel
theorem dX0_copyFrom_124 : decode cX0_copyFrom 124 = .ok (.if_icmp .ge 48, 3) := by decide +kernel
theorem dX0_copyFrom_127 : decode cX0_copyFrom 127 = .ok (.aload_n 0, 1) := by decide +kernel
theorem dX0_copyFrom_128 : decode cX0_copyFrom 128 = .ok (.getfield 22, 3) := by decide +kernel
theorem dX0_copyFrom_131 : decode cX0_copyFrom 131 = .ok (.iload_n 2, 1) := by decide +kernel
theorem dX0_copyFrom_132 : decode cX0_copyFrom 132 = .ok (.aload_n 1, 1) := by decide +kernel
theorem dX0_copyFrom_133 : decode cX0_copyFrom 133 = .ok (.getfield 22, 3) := by decide +kernel
theorem dX0_copyFrom_136 : decode cX0_copyFrom 136 = .ok (.iload_n 2, 1) := by decide +kernel
theorem dX0_copyFrom_137 : decode cX0_copyFrom 137 = .ok (.iaload, 1) := by decide +kernel
theorem dX0_copyFrom_138 : decode cX0_copyFrom 138 = .ok (.iastore, 1) := by decide +kernel
theorem dX0_copyFrom_139 : decode cX0_copyFrom 139 = .ok (.aload_n 0, 1) := by decide +kernel
theorem dX0_copyFrom_140 : decode cX0_copyFrom 140 = .ok (.getfield 26, 3) := by decide +kernel
theorem dX0_copyFrom_143 : decode cX0_copyFrom 143 = .ok (.iload_n 2, 1) := by decide +kernel
theorem dX0_copyFrom_144 : decode cX0_copyFrom 144 = .ok (.aload_n 1, 1) := by decide +kernel
theorem dX0_copyFrom_145 : decode cX0_copyFrom 145 = .ok (.getfield 26, 3) := by decide +kernel
theorem dX0_copyFrom_148 : decode cX0_copyFrom 148 = .ok (.iload_n 2, 1) := by decide +kernel
theorem dX0_copyFrom_149 : decode cX0_copyFrom 149 = .ok (.iaload, 1) := by decide +kernel
theorem dX0_copyFrom_150 : decode cX0_copyFrom 150 = .ok (.iastore, 1) := by decide +kernel
theorem dX0_copyFrom_151 : decode cX0_copyFrom 151 = .ok (.aload_n 0, 1) := by decide +kernel
theorem dX0_copyFrom_152 : decode cX0_copyFrom 152 = .ok (.getfield 29, 3) := by decide +kernel
theorem dX0_copyFrom_155 : decode cX0_copyFrom 155 = .ok (.iload_n 2, 1) := by decide +kernel
theorem dX0_copyFrom_156 : decode cX0_copyFrom 156 = .ok (.aaload, 1) := by decide +kernel
theorem dX0_copyFrom_157 : decode cX0_copyFrom 157 = .ok (.aload_n 1, 1) := by decide +kernel
theorem dX0_copyFrom_158 : decode cX0_copyFrom 158 = .ok (.getfield 29, 3) := by decide +kernel
theorem dX0_copyFrom_161 : decode cX0_copyFrom 161 = .ok (.iload_n 2, 1) := by decide +kernel
theorem dX0_copyFrom_162 : decode cX0_copyFrom 162 = .ok (.aaload, 1) := by decide +kernel
theorem dX0_copyFrom_163 : decode cX0_copyFrom 163 = .ok (.invokevirtual 83, 3) := by decide +kernel
theorem dX0_copyFrom_166 : decode cX0_copyFrom 166 = .ok (.iinc 2 1, 3) := by decide +kernel
theorem dX0_copyFrom_169 : decode cX0_copyFrom 169 = .ok (.goto (-47), 3) := by decide +kernel
theorem dX0_copyFrom_172 : decode cX0_copyFrom 172 = .ok (.aload_n 0, 1) := by decide +kernel
theorem dX0_copyFrom_173 : decode cX0_copyFrom 173 = .ok (.aload_n 1, 1) := by decide +kernel
theorem dX0_copyFrom_174 : decode cX0_copyFrom 174 = .ok (.getfield 80, 3) := by decide +kernel
theorem dX0_copyFrom_177 : decode cX0_copyFrom 177 = .ok (.putfield 80, 3) := by decide +kernel
theorem dX0_copyFrom_180 : decode cX0_copyFrom 180 = .ok (.aload_n 1, 1) := by decide +kernel
theorem dX0_copyFrom_181 : decode cX0_copyFrom 181 = .ok (.getfield 32, 3) := by decide +kernel
theorem dX0_copyFrom_184 : decode cX0_copyFrom 184 = .ok (.iconst 0, 1) := by decide +kernel
theorem dX0_copyFrom_185 : decode cX0_copyFrom 185 = .ok (.aload_n 0, 1) := by decide +kernel
theorem dX0_copyFrom_186 : decode cX0_copyFrom 186 = .ok (.getfield 32, 3) := by decide +kernel
theorem dX0_copyFrom_189 : decode cX0_copyFrom 189 = .ok (.iconst 0, 1) := by decide +kernel
theorem dX0_copyFrom_190 : decode cX0_copyFrom 190 = .ok (.iconst 4, 1) := by decide +kernel
theorem dX0_copyFrom_191 : decode cX0_copyFrom 191 = .ok (.invokestatic 87, 3) := by decide +kernel
theorem dX0_copyFrom_194 : decode cX0_copyFrom 194 = .ok (.aload_n 1, 1) := by decide +kernel
theorem dX0_copyFrom_195 : decode cX0_copyFrom 195 = .ok (.getfield 35, 3) := by decide +kernel
theorem dX0_copyFrom_198 : decode cX0_copyFrom 198 = .ok (.iconst 0, 1) := by decide +kernel
theorem dX0_copyFrom_199 : decode cX0_copyFrom 199 = .ok (.aload_n 0, 1) := by decide +kernel
theorem dX0_copyFrom_200 : decode cX0_copyFrom 200 = .ok (.getfield 35, 3) := by decide +kernel
theorem dX0_copyFrom_203 : decode cX0_copyFrom 203 = .ok (.iconst 0, 1) := by decide +kernel
theorem dX0_copyFrom_204 : decode cX0_copyFrom 204 = .ok (.bipush 32, 2) := by decide +kernel
theorem dX0_copyFrom_206 : decode cX0_copyFrom 206 = .ok (.invokestatic 87, 3) := by decide +kernel
theorem dX0_copyFrom_209 : decode cX0_copyFrom 209 = .ok (.return_, 1) := by decide +kernel
def rmX0_copyFrom : Room := { frames := 2, cells := 0, slots := 0, locals := 44 }
set_option maxRecDepth 100000 in
def fX0_copyFrom_B122 (N : Nat) (g : Gs) (x0 : Nat) (x1 : Nat) (K122 : Int32 × Ds → Option (Unit × Ds)) (y2 : Int32) (d : Ds) : Option (Unit × Ds) := if (4 : Int32) ≤ y2 then (gd (chk g x1 0) <| gd (chk g x0 0) <| bd (sI d x0 16 (dI d x1 16)) fun d24 => (ob (gR g x1 17) fun r25 => (ob (gR g x0 17) fun r26 => (gd (chk g r25 102) <| gd (chk g r26 102) <| gd (¬ (0 : Int32) < 0) <| gd (¬ (4 : Int32) < 0) <| gd ((0 : Int32).toNatClampNeg + (4 : Int32).toNatClampNeg ≤ gL g r25) <| gd ((0 : Int32).toNatClampNeg + (4 : Int32).toNatClampNeg ≤ gL g r26) <| bd (cI d24 r25 r26 (0 : Int32).toNatClampNeg (0 : Int32).toNatClampNeg (4 : Int32).toNatClampNeg) fun d33 => (ob (gR g x1 18) fun r34 => (ob (gR g x0 18) fun r35 => (gd (chk g r34 102) <| gd (chk g r35 102) <| gd (¬ (32 : Int32) < 0) <| gd ((0 : Int32).toNatClampNeg + (32 : Int32).toNatClampNeg ≤ gL g r34) <| gd ((0 : Int32).toNatClampNeg + (32 : Int32).toNatClampNeg ≤ gL g r35) <| bd (cI d33 r34 r35 (0 : Int32).toNatClampNeg (0 : Int32).toNatClampNeg (32 : Int32).toNatClampNeg) fun d41 => (some ((), d41))))))))) else (gd (chk g x0 0) <| ob (gR g x0 13) fun r43 => (gd (chk g x1 0) <| ob (gR g x1 13) fun r45 => (gd (chk g r45 102) <| gd (¬ (y2 < 0 ∨ gL g r45 ≤ y2.toNatClampNeg)) <| gd (chk g r43 102) <| gd (¬ (y2 < 0 ∨ gL g r43 ≤ y2.toNatClampNeg)) <| bd (sI d r43 y2.toNatClampNeg (dI d r45 y2.toNatClampNeg)) fun d50 => (ob (gR g x0 14) fun r51 => (ob (gR g x1 14) fun r52 => (gd (chk g r52 102) <| gd (¬ (y2 < 0 ∨ gL g r52 ≤ y2.toNatClampNeg)) <| gd (chk g r51 102) <| gd (¬ (y2 < 0 ∨ gL g r51 ≤ y2.toNatClampNeg)) <| bd (sI d50 r51 y2.toNatClampNeg (dI d50 r52 y2.toNatClampNeg)) fun d57 => (ob (gR g x0 15) fun r58 => (gd (chk g r58 105) <| gd (¬ (y2 < 0 ∨ gL g r58 ≤ y2.toNatClampNeg)) <| ob (gR g r58 y2.toNatClampNeg) fun r61 => (ob (gR g x1 15) fun r62 => (gd (chk g r62 105) <| gd (¬ (y2 < 0 ∨ gL g r62 ≤ y2.toNatClampNeg)) <| ob (gR g r62 y2.toNatClampNeg) fun r65 => (gd (chk g r61 2) <| cv (fX2_copyFrom N g r61 r65 d57) fun d67 => (bd (y2 + 1) fun u69 => (K122 (u69, d67))))))))))))))
set_option maxHeartbeats 4000000 in
set_option maxRecDepth 100000 in
theorem tX0_copyFrom_122 {p : Program} {l : Launch} {e : Env} {s : State} {m : MethodId} {args : Array Value} {below : List Frame} {meth : Method} {c : Code} {D : va_G} {cy : Nat → ClassId} {B : Bs} (C : Cx p s m args c cX0_copyFrom 3 RX0 D cy B) (hr : meth.sig.returnType = none) (hlocks : meth.locks = false) {N : Nat} {g : Gs} {x0 : Nat} {x1 : Nat}  {dz : Ds} {K122 : Int32 × Ds → Option (Unit × Ds)} (hK122 : ∀ a, K122 a = some ((), dz) → WB p l e rmX0_copyFrom s m args below meth c 3 D cy B 0 0 (MQ below (QV D cy B g dz) args s 0 0 (wA B)) g a.2 [(0, .ref (ad B x0)), (1, .ref (ad B x1)), (2, .int a.1)] 122 []) {y2 : Int32} {d : Ds} (hf : fX0_copyFrom_B122 N g x0 x1 K122 y2 d = some ((), dz)) : WB p l e rmX0_copyFrom s m args below meth c 3 D cy B 0 0 (MQ below (QV D cy B g dz) args s 0 0 (wA B)) g d [(0, .ref (ad B x0)), (1, .ref (ad B x1)), (2, .int y2)] 122 [] := by
  unfold fX0_copyFrom_B122 at hf
  refine b_iload_n C dX0_copyFrom_122 2 rfl rfl ?_
  refine b_iconst C (v := 4) dX0_copyFrom_123 (by decide) ?_
  refine b_icmp_ge C (tgt := 172) dX0_copyFrom_124 (by decide) (fun c21 => ?_) (fun c21 => ?_)
  · have hf := it_s c21 hf
    refine b_aload_n C dX0_copyFrom_172 0 rfl rfl ?_
    refine b_aload_n C dX0_copyFrom_173 1 rfl rfl ?_
    obtain ⟨h22, hf⟩ := gd_s hf
    refine b_gI C dX0_copyFrom_174 fl_X0_80 h22 ?_
    obtain ⟨h23, hf⟩ := gd_s hf
    obtain ⟨d24, ed24, hf⟩ := bd_s hf
    refine b_pI C dX0_copyFrom_177 fl_X0_80 fp0_16 h23 ed24 ?_
    refine b_aload_n C dX0_copyFrom_180 1 rfl rfl ?_
    obtain ⟨r25, er25, hf⟩ := ob_s hf
    refine b_gR C dX0_copyFrom_181 fl_X0_32 h22 er25 ?_
    refine b_iconst C (v := 0) dX0_copyFrom_184 (by decide) ?_
    refine b_aload_n C dX0_copyFrom_185 0 rfl rfl ?_
    obtain ⟨r26, er26, hf⟩ := ob_s hf
    refine b_gR C dX0_copyFrom_186 fl_X0_32 h23 er26 ?_
    refine b_iconst C (v := 0) dX0_copyFrom_189 (by decide) ?_
    refine b_iconst C (v := 4) dX0_copyFrom_190 (by decide) ?_
    obtain ⟨h27, hf⟩ := gd_s hf
    obtain ⟨h28, hf⟩ := gd_s hf
    obtain ⟨h29, hf⟩ := gd_s hf
    obtain ⟨h30, hf⟩ := gd_s hf
    obtain ⟨h31, hf⟩ := gd_s hf
    obtain ⟨h32, hf⟩ := gd_s hf
    obtain ⟨d33, ed33, hf⟩ := bd_s hf
    refine b_copyI C ac_X0_87 ac_n ac_s ac_i h27 h28 h29 h29 h30 h31 h32 ed33 (by decide) (by decide +kernel) dX0_copyFrom_191 ?_
    refine b_aload_n C dX0_copyFrom_194 1 rfl rfl ?_
    obtain ⟨r34, er34, hf⟩ := ob_s hf
    refine b_gR C dX0_copyFrom_195 fl_X0_35 h22 er34 ?_
    refine b_iconst C (v := 0) dX0_copyFrom_198 (by decide) ?_
    refine b_aload_n C dX0_copyFrom_199 0 rfl rfl ?_
    obtain ⟨r35, er35, hf⟩ := ob_s hf
    refine b_gR C dX0_copyFrom_200 fl_X0_35 h23 er35 ?_
    refine b_iconst C (v := 0) dX0_copyFrom_203 (by decide) ?_
    refine b_bipush C (v := 32) dX0_copyFrom_204 (by decide) ?_
    obtain ⟨h36, hf⟩ := gd_s hf
    obtain ⟨h37, hf⟩ := gd_s hf
    obtain ⟨h38, hf⟩ := gd_s hf
    obtain ⟨h39, hf⟩ := gd_s hf
    obtain ⟨h40, hf⟩ := gd_s hf
    obtain ⟨d41, ed41, hf⟩ := bd_s hf
    refine b_copyI C ac_X0_87 ac_n ac_s ac_i h36 h37 h29 h29 h38 h39 h40 ed41 (by decide) (by decide +kernel) dX0_copyFrom_206 ?_
    exact b_vret C hr hlocks hf dX0_copyFrom_209
  · have hf := if_s c21 hf
    refine b_aload_n C dX0_copyFrom_127 0 rfl rfl ?_
    obtain ⟨h42, hf⟩ := gd_s hf
    obtain ⟨r43, er43, hf⟩ := ob_s hf
    refine b_gR C dX0_copyFrom_128 fl_X0_22 h42 er43 ?_
    refine b_iload_n C dX0_copyFrom_131 2 rfl rfl ?_
    refine b_aload_n C dX0_copyFrom_132 1 rfl rfl ?_
    obtain ⟨h44, hf⟩ := gd_s hf
    obtain ⟨r45, er45, hf⟩ := ob_s hf
    refine b_gR C dX0_copyFrom_133 fl_X0_22 h44 er45 ?_
    refine b_iload_n C dX0_copyFrom_136 2 rfl rfl ?_
    obtain ⟨h46, hf⟩ := gd_s hf
    obtain ⟨h47, hf⟩ := gd_s hf
    refine b_iald C h46 h47 dX0_copyFrom_137 ?_
    obtain ⟨h48, hf⟩ := gd_s hf
    obtain ⟨h49, hf⟩ := gd_s hf
    obtain ⟨d50, ed50, hf⟩ := bd_s hf
    refine b_iast C h48 h49 ed50 dX0_copyFrom_138 ?_
    refine b_aload_n C dX0_copyFrom_139 0 rfl rfl ?_
    obtain ⟨r51, er51, hf⟩ := ob_s hf
    refine b_gR C dX0_copyFrom_140 fl_X0_26 h42 er51 ?_
    refine b_iload_n C dX0_copyFrom_143 2 rfl rfl ?_
    refine b_aload_n C dX0_copyFrom_144 1 rfl rfl ?_
    obtain ⟨r52, er52, hf⟩ := ob_s hf
    refine b_gR C dX0_copyFrom_145 fl_X0_26 h44 er52 ?_
    refine b_iload_n C dX0_copyFrom_148 2 rfl rfl ?_
    obtain ⟨h53, hf⟩ := gd_s hf
    obtain ⟨h54, hf⟩ := gd_s hf
    refine b_iald C h53 h54 dX0_copyFrom_149 ?_
    obtain ⟨h55, hf⟩ := gd_s hf
    obtain ⟨h56, hf⟩ := gd_s hf
    obtain ⟨d57, ed57, hf⟩ := bd_s hf
    refine b_iast C h55 h56 ed57 dX0_copyFrom_150 ?_
    refine b_aload_n C dX0_copyFrom_151 0 rfl rfl ?_
    obtain ⟨r58, er58, hf⟩ := ob_s hf
    refine b_gR C dX0_copyFrom_152 fl_X0_29 h42 er58 ?_
    refine b_iload_n C dX0_copyFrom_155 2 rfl rfl ?_
    obtain ⟨h59, hf⟩ := gd_s hf
    obtain ⟨h60, hf⟩ := gd_s hf
    obtain ⟨r61, er61, hf⟩ := ob_s hf
    refine b_aaldD C (by exact h59) h60 er61 dX0_copyFrom_156 ?_
    refine b_aload_n C dX0_copyFrom_157 1 rfl rfl ?_
    obtain ⟨r62, er62, hf⟩ := ob_s hf
    refine b_gR C dX0_copyFrom_158 fl_X0_29 h44 er62 ?_
    refine b_iload_n C dX0_copyFrom_161 2 rfl rfl ?_
    obtain ⟨h63, hf⟩ := gd_s hf
    obtain ⟨h64, hf⟩ := gd_s hf
    obtain ⟨r65, er65, hf⟩ := ob_s hf
    refine b_aaldD C (by exact h63) h64 er65 dX0_copyFrom_162 ?_
    obtain ⟨h66, hf⟩ := gd_s hf
    obtain ⟨d67, k68, hf⟩ := cv_s hf
    refine b_cVN C [] dX0_copyFrom_163 (kX2_copyFrom l D cy B k68) lv_X0_83 ⟨rfl, rfl, Nat.le_of_ble_eq_true rfl, Nat.le_of_ble_eq_true rfl⟩ h66 (by decide) rfl (Nat.le_of_ble_eq_true rfl) ⟨Nat.zero_le _, Nat.zero_le _⟩ rfl ?_
    obtain ⟨u69, eu69, hf⟩ := bd_s hf
    refine b_iinc C dX0_copyFrom_166 2 rfl (by rw [eu69]; rfl) [(2, .int u69), (0, .ref (ad B x0)), (1, .ref (ad B x1))] (by decide) rfl ?_
    refine b_goto C (tgt := 122) dX0_copyFrom_169 (by decide) ?_
    refine b_sub [(0, .ref (ad B x0)), (1, .ref (ad B x1)), (2, .int u69)] [1, 2, 0] rfl ?_
    exact hK122 (u69, d67) hf
def fX0_copyFrom_L122 (N : Nat) (g : Gs) (x0 : Nat) (x1 : Nat) : Int32 × Ds → Option (Unit × Ds) := lp (fun K122 a => fX0_copyFrom_B122 N g x0 x1 K122 a.1 a.2) N
theorem tX0_copyFrom_L122 {p : Program} {l : Launch} {e : Env} {s : State} {m : MethodId} {args : Array Value} {below : List Frame} {meth : Method} {c : Code} {D : va_G} {cy : Nat → ClassId} {B : Bs} (C : Cx p s m args c cX0_copyFrom 3 RX0 D cy B) (hr : meth.sig.returnType = none) (hlocks : meth.locks = false) {N : Nat} {g : Gs} {x0 : Nat} {x1 : Nat}  {dz : Ds} (a : Int32 × Ds) (hf : fX0_copyFrom_L122 N g x0 x1 a = some ((), dz)) : WB p l e rmX0_copyFrom s m args below meth c 3 D cy B 0 0 (MQ below (QV D cy B g dz) args s 0 0 (wA B)) g a.2 [(0, .ref (ad B x0)), (1, .ref (ad B x1)), (2, .int a.1)] 122 [] :=
  lp_w (fun K122 hK122 a ha => tX0_copyFrom_122 C hr hlocks hK122 ha) N a hf
set_option maxRecDepth 100000 in
def fX0_copyFrom_B82 (N : Nat) (g : Gs) (x0 : Nat) (x1 : Nat) (K82 : Int32 × Ds → Option (Unit × Ds)) (y2 : Int32) (d : Ds) : Option (Unit × Ds) := gd (chk g x0 0) <| ob (gR g x0 10) fun r16 => (gd (chk g r16 105) <| if (Int32.ofNat (gL g r16)) ≤ y2 then (gd (chk g x1 0) <| bd (sI d x0 12 (dI d x1 12)) fun d20 => (fX0_copyFrom_L122 N g x0 x1 (0, d20))) else (gd (¬ (y2 < 0 ∨ gL g r16 ≤ y2.toNatClampNeg)) <| ob (gR g r16 y2.toNatClampNeg) fun r71 => (gd (chk g x1 0) <| ob (gR g x1 10) fun r73 => (gd (chk g r73 105) <| gd (¬ (y2 < 0 ∨ gL g r73 ≤ y2.toNatClampNeg)) <| ob (gR g r73 y2.toNatClampNeg) fun r76 => (gd (chk g r71 2) <| cv (fX2_copyFrom N g r71 r76 d) fun d78 => (bd (y2 + 1) fun u80 => (K82 (u80, d78))))))))
set_option maxHeartbeats 4000000 in
set_option maxRecDepth 100000 in
theorem tX0_copyFrom_82 {p : Program} {l : Launch} {e : Env} {s : State} {m : MethodId} {args : Array Value} {below : List Frame} {meth : Method} {c : Code} {D : va_G} {cy : Nat → ClassId} {B : Bs} (C : Cx p s m args c cX0_copyFrom 3 RX0 D cy B) (hr : meth.sig.returnType = none) (hlocks : meth.locks = false) {N : Nat} {g : Gs} {x0 : Nat} {x1 : Nat}  {dz : Ds} {K82 : Int32 × Ds → Option (Unit × Ds)} (hK82 : ∀ a, K82 a = some ((), dz) → WB p l e rmX0_copyFrom s m args below meth c 3 D cy B 0 0 (MQ below (QV D cy B g dz) args s 0 0 (wA B)) g a.2 [(0, .ref (ad B x0)), (1, .ref (ad B x1)), (2, .int a.1)] 82 []) {y2 : Int32} {d : Ds} (hf : fX0_copyFrom_B82 N g x0 x1 K82 y2 d = some ((), dz)) : WB p l e rmX0_copyFrom s m args below meth c 3 D cy B 0 0 (MQ below (QV D cy B g dz) args s 0 0 (wA B)) g d [(0, .ref (ad B x0)), (1, .ref (ad B x1)), (2, .int y2)] 82 [] := by
  unfold fX0_copyFrom_B82 at hf
  refine b_iload_n C dX0_copyFrom_82 2 rfl rfl ?_
  refine b_aload_n C dX0_copyFrom_83 0 rfl rfl ?_
  obtain ⟨h15, hf⟩ := gd_s hf
  obtain ⟨r16, er16, hf⟩ := ob_s hf
  refine b_gR C dX0_copyFrom_84 fl_X0_11 h15 er16 ?_
  obtain ⟨h17, hf⟩ := gd_s hf
  refine b_alen C (t := 5) h17 (by decide) dX0_copyFrom_87 ?_
  refine b_icmp_ge C (tgt := 112) dX0_copyFrom_88 (by decide) (fun c18 => ?_) (fun c18 => ?_)
  · have hf := it_s c18 hf
    refine b_aload_n C dX0_copyFrom_112 0 rfl rfl ?_
    refine b_aload_n C dX0_copyFrom_113 1 rfl rfl ?_
    obtain ⟨h19, hf⟩ := gd_s hf
    refine b_gI C dX0_copyFrom_114 fl_X0_77 h19 ?_
    obtain ⟨d20, ed20, hf⟩ := bd_s hf
    refine b_pI C dX0_copyFrom_117 fl_X0_77 fp0_12 h15 ed20 ?_
    refine b_iconst C (v := 0) dX0_copyFrom_120 (by decide) ?_
    refine b_istore_n C dX0_copyFrom_121 rfl [(2, .int 0), (0, .ref (ad B x0)), (1, .ref (ad B x1))] (by decide) rfl ?_
    refine b_sub [(0, .ref (ad B x0)), (1, .ref (ad B x1)), (2, .int 0)] [1, 2, 0] rfl ?_
    exact tX0_copyFrom_L122 C hr hlocks (0, d20) hf
  · have hf := if_s c18 hf
    refine b_aload_n C dX0_copyFrom_91 0 rfl rfl ?_
    refine b_gR C dX0_copyFrom_92 fl_X0_11 h15 er16 ?_
    refine b_iload_n C dX0_copyFrom_95 2 rfl rfl ?_
    obtain ⟨h70, hf⟩ := gd_s hf
    obtain ⟨r71, er71, hf⟩ := ob_s hf
    refine b_aaldD C (by exact h17) h70 er71 dX0_copyFrom_96 ?_
    refine b_aload_n C dX0_copyFrom_97 1 rfl rfl ?_
    obtain ⟨h72, hf⟩ := gd_s hf
    obtain ⟨r73, er73, hf⟩ := ob_s hf
    refine b_gR C dX0_copyFrom_98 fl_X0_11 h72 er73 ?_
    refine b_iload_n C dX0_copyFrom_101 2 rfl rfl ?_
    obtain ⟨h74, hf⟩ := gd_s hf
    obtain ⟨h75, hf⟩ := gd_s hf
    obtain ⟨r76, er76, hf⟩ := ob_s hf
    refine b_aaldD C (by exact h74) h75 er76 dX0_copyFrom_102 ?_
    obtain ⟨h77, hf⟩ := gd_s hf
    obtain ⟨d78, k79, hf⟩ := cv_s hf
    refine b_cVN C [] dX0_copyFrom_103 (kX2_copyFrom l D cy B k79) lv_X0_83 ⟨rfl, rfl, Nat.le_of_ble_eq_true rfl, Nat.le_of_ble_eq_true rfl⟩ h77 (by decide) rfl (Nat.le_of_ble_eq_true rfl) ⟨Nat.zero_le _, Nat.zero_le _⟩ rfl ?_
    obtain ⟨u80, eu80, hf⟩ := bd_s hf
    refine b_iinc C dX0_copyFrom_106 2 rfl (by rw [eu80]; rfl) [(2, .int u80), (0, .ref (ad B x0)), (1, .ref (ad B x1))] (by decide) rfl ?_
    refine b_goto C (tgt := 82) dX0_copyFrom_109 (by decide) ?_
    refine b_sub [(0, .ref (ad B x0)), (1, .ref (ad B x1)), (2, .int u80)] [1, 2, 0] rfl ?_
    exact hK82 (u80, d78) hf
def fX0_copyFrom_L82 (N : Nat) (g : Gs) (x0 : Nat) (x1 : Nat) : Int32 × Ds → Option (Unit × Ds) := lp (fun K82 a => fX0_copyFrom_B82 N g x0 x1 K82 a.1 a.2) N
theorem tX0_copyFrom_L82 {p : Program} {l : Launch} {e : Env} {s : State} {m : MethodId} {args : Array Value} {below : List Frame} {meth : Method} {c : Code} {D : va_G} {cy : Nat → ClassId} {B : Bs} (C : Cx p s m args c cX0_copyFrom 3 RX0 D cy B) (hr : meth.sig.returnType = none) (hlocks : meth.locks = false) {N : Nat} {g : Gs} {x0 : Nat} {x1 : Nat}  {dz : Ds} (a : Int32 × Ds) (hf : fX0_copyFrom_L82 N g x0 x1 a = some ((), dz)) : WB p l e rmX0_copyFrom s m args below meth c 3 D cy B 0 0 (MQ below (QV D cy B g dz) args s 0 0 (wA B)) g a.2 [(0, .ref (ad B x0)), (1, .ref (ad B x1)), (2, .int a.1)] 82 [] :=
  lp_w (fun K82 hK82 a ha => tX0_copyFrom_82 C hr hlocks hK82 ha) N a hf
set_option maxRecDepth 100000 in
def fX0_copyFrom (N : Nat) (g : Gs) (x0 : Nat) (x1 : Nat) (d : Ds) : Option (Unit × Ds) := gd (chk g x1 0) <| gd (chk g x0 0) <| bd (sI d x0 0 (dI d x1 0)) fun d3 => (bd (sI d3 x0 1 (dI d3 x1 1)) fun d4 => (gd ((dI d4 x1 2) = 0 ∨ (dI d4 x1 2) = 1) <| bd (sI d4 x0 2 (dI d4 x1 2)) fun d6 => (gd ((dI d6 x1 3) = 0 ∨ (dI d6 x1 3) = 1) <| bd (sI d6 x0 3 (dI d6 x1 3)) fun d8 => (bd (sI d8 x0 4 (dI d8 x1 4)) fun d9 => (bd (sI d9 x0 5 (dI d9 x1 5)) fun d10 => (bd (sI d10 x0 6 (dI d10 x1 6)) fun d11 => (bd (sI d11 x0 7 (dI d11 x1 7)) fun d12 => (bd (sI d12 x0 8 (dI d12 x1 8)) fun d13 => (bd (sI d13 x0 9 (dI d13 x1 9)) fun d14 => (fX0_copyFrom_L82 N g x0 x1 (0, d14)))))))))))
set_option maxHeartbeats 4000000 in
set_option maxRecDepth 100000 in
theorem tX0_copyFrom_E {p : Program} {l : Launch} {e : Env} {s : State} {m : MethodId} {args : Array Value} {below : List Frame} {meth : Method} {c : Code} {D : va_G} {cy : Nat → ClassId} {B : Bs} (C : Cx p s m args c cX0_copyFrom 3 RX0 D cy B) (hr : meth.sig.returnType = none) (hlocks : meth.locks = false) {N : Nat} {g : Gs} {x0 : Nat} {x1 : Nat}  {dz : Ds} {d : Ds} (hf : fX0_copyFrom N g x0 x1 d = some ((), dz)) : WB p l e rmX0_copyFrom s m args below meth c 3 D cy B 0 0 (MQ below (QV D cy B g dz) args s 0 0 (wA B)) g d [(0, .ref (ad B x0)), (1, .ref (ad B x1))] 0 [] := by
  unfold fX0_copyFrom at hf
  refine b_aload_n C dX0_copyFrom_0 0 rfl rfl ?_
  refine b_aload_n C dX0_copyFrom_1 1 rfl rfl ?_
  obtain ⟨h1, hf⟩ := gd_s hf
  refine b_gI C dX0_copyFrom_2 fl_X0_41 h1 ?_
  obtain ⟨h2, hf⟩ := gd_s hf
  obtain ⟨d3, ed3, hf⟩ := bd_s hf
  refine b_pI C dX0_copyFrom_5 fl_X0_41 fp0_0 h2 ed3 ?_
  refine b_aload_n C dX0_copyFrom_8 0 rfl rfl ?_
  refine b_aload_n C dX0_copyFrom_9 1 rfl rfl ?_
  refine b_gI C dX0_copyFrom_10 fl_X0_45 h1 ?_
  obtain ⟨d4, ed4, hf⟩ := bd_s hf
  refine b_pI C dX0_copyFrom_13 fl_X0_45 fp0_1 h2 ed4 ?_
  refine b_aload_n C dX0_copyFrom_16 0 rfl rfl ?_
  refine b_aload_n C dX0_copyFrom_17 1 rfl rfl ?_
  refine b_gI C dX0_copyFrom_18 fl_X0_48 h1 ?_
  obtain ⟨h5, hf⟩ := gd_s hf
  obtain ⟨d6, ed6, hf⟩ := bd_s hf
  refine b_pZ C dX0_copyFrom_21 fl_X0_48 fp0_2 h5 h2 ed6 ?_
  refine b_aload_n C dX0_copyFrom_24 0 rfl rfl ?_
  refine b_aload_n C dX0_copyFrom_25 1 rfl rfl ?_
  refine b_gI C dX0_copyFrom_26 fl_X0_52 h1 ?_
  obtain ⟨h7, hf⟩ := gd_s hf
  obtain ⟨d8, ed8, hf⟩ := bd_s hf
  refine b_pZ C dX0_copyFrom_29 fl_X0_52 fp0_3 h7 h2 ed8 ?_
  refine b_aload_n C dX0_copyFrom_32 0 rfl rfl ?_
  refine b_aload_n C dX0_copyFrom_33 1 rfl rfl ?_
  refine b_gI C dX0_copyFrom_34 fl_X0_55 h1 ?_
  obtain ⟨d9, ed9, hf⟩ := bd_s hf
  refine b_pI C dX0_copyFrom_37 fl_X0_55 fp0_4 h2 ed9 ?_
  refine b_aload_n C dX0_copyFrom_40 0 rfl rfl ?_
  refine b_aload_n C dX0_copyFrom_41 1 rfl rfl ?_
  refine b_gI C dX0_copyFrom_42 fl_X0_58 h1 ?_
  obtain ⟨d10, ed10, hf⟩ := bd_s hf
  refine b_pI C dX0_copyFrom_45 fl_X0_58 fp0_5 h2 ed10 ?_
  refine b_aload_n C dX0_copyFrom_48 0 rfl rfl ?_
  refine b_aload_n C dX0_copyFrom_49 1 rfl rfl ?_
  refine b_gI C dX0_copyFrom_50 fl_X0_61 h1 ?_
  obtain ⟨d11, ed11, hf⟩ := bd_s hf
  refine b_pI C dX0_copyFrom_53 fl_X0_61 fp0_6 h2 ed11 ?_
  refine b_aload_n C dX0_copyFrom_56 0 rfl rfl ?_
  refine b_aload_n C dX0_copyFrom_57 1 rfl rfl ?_
  refine b_gI C dX0_copyFrom_58 fl_X0_64 h1 ?_
  obtain ⟨d12, ed12, hf⟩ := bd_s hf
  refine b_pI C dX0_copyFrom_61 fl_X0_64 fp0_7 h2 ed12 ?_
  refine b_aload_n C dX0_copyFrom_64 0 rfl rfl ?_
  refine b_aload_n C dX0_copyFrom_65 1 rfl rfl ?_
  refine b_gI C dX0_copyFrom_66 fl_X0_67 h1 ?_
  obtain ⟨d13, ed13, hf⟩ := bd_s hf
  refine b_pI C dX0_copyFrom_69 fl_X0_67 fp0_8 h2 ed13 ?_
  refine b_aload_n C dX0_copyFrom_72 0 rfl rfl ?_
  refine b_aload_n C dX0_copyFrom_73 1 rfl rfl ?_
  refine b_gI C dX0_copyFrom_74 fl_X0_70 h1 ?_
  obtain ⟨d14, ed14, hf⟩ := bd_s hf
  refine b_pI C dX0_copyFrom_77 fl_X0_70 fp0_9 h2 ed14 ?_
  refine b_iconst C (v := 0) dX0_copyFrom_80 (by decide) ?_
  refine b_istore_n C dX0_copyFrom_81 rfl [(2, .int 0), (0, .ref (ad B x0)), (1, .ref (ad B x1))] (by decide) rfl ?_
  refine b_sub [(0, .ref (ad B x0)), (1, .ref (ad B x1)), (2, .int 0)] [1, 2, 0] rfl ?_
  exact tX0_copyFrom_L82 C hr hlocks (0, d14) hf
theorem kX0_copyFrom (l : Launch) (D : va_G) (cy : Nat → ClassId) (B : Bs) {N : Nat} {g : Gs} {x0 : Nat} {x1 : Nat}  {dz : Ds} {d : Ds} (hf : fX0_copyFrom N g x0 x1 d = some ((), dz)) : Met l yX0_copyFrom (.code yX0_copyFrom cX0_copyFrom 3 none :: wl) rmX0_copyFrom (PC D cy B [.ref (ad B x0), .ref (ad B x1)] g d) (QV D cy B g dz) 0 0 (wA B) :=
  met_of (by decide +kernel) (Nat.le_of_ble_eq_true rfl) (fun p e s m args below meth c C hr hlocks _ => b_sub [(0, .ref (ad B x0)), (1, .ref (ad B x1))] [0, 1] rfl (tX0_copyFrom_E C hr hlocks hf))
/-! KeyMatrix$Board.keys()I -/
theorem dX0_keys_0 : decode cX0_keys 0 = .ok (.aload_n 0, 1) := by decide +kernel
theorem dX0_keys_1 : decode cX0_keys 1 = .ok (.getfield 41, 3) := by decide +kernel
theorem dX0_keys_4 : decode cX0_keys 4 = .ok (.aload_n 0, 1) := by decide +kernel
theorem dX0_keys_5 : decode cX0_keys 5 = .ok (.getfield 45, 3) := by decide +kernel
theorem dX0_keys_8 : decode cX0_keys 8 = .ok (.imul, 1) := by decide +kernel
theorem dX0_keys_9 : decode cX0_keys 9 = .ok (.ireturn, 1) := by decide +kernel
def rmX0_keys : Room := { frames := 0, cells := 0, slots := 0, locals := 0 }
set_option maxRecDepth 100000 in
def fX0_keys (N : Nat) (g : Gs) (x0 : Nat) (d : Ds) : Option (Int32 × Ds) := gd (chk g x0 0) <| some (((dI d x0 0) * (dI d x0 1)), d)
set_option maxHeartbeats 4000000 in
set_option maxRecDepth 100000 in
theorem tX0_keys_E {p : Program} {l : Launch} {e : Env} {s : State} {m : MethodId} {args : Array Value} {below : List Frame} {meth : Method} {c : Code} {D : va_G} {cy : Nat → ClassId} {B : Bs} (C : Cx p s m args c cX0_keys 1 RX0 D cy B) (hr : meth.sig.returnType = (some .int)) (hlocks : meth.locks = false) {N : Nat} {g : Gs} {x0 : Nat} {vz : Int32} {dz : Ds} {d : Ds} (hf : fX0_keys N g x0 d = some (vz, dz)) : WB p l e rmX0_keys s m args below meth c 1 D cy B 0 0 (MQ below (QI D cy B vz g dz) args s 0 0 (wA B)) g d [(0, .ref (ad B x0))] 0 [] := by
  unfold fX0_keys at hf
  refine b_aload_n C dX0_keys_0 0 rfl rfl ?_
  obtain ⟨h1, hf⟩ := gd_s hf
  refine b_gI C dX0_keys_1 fl_X0_41 h1 ?_
  refine b_aload_n C dX0_keys_4 0 rfl rfl ?_
  refine b_gI C dX0_keys_5 fl_X0_45 h1 ?_
  refine b_imul C dX0_keys_8 ?_
  exact b_iret C hr hlocks hf dX0_keys_9
theorem kX0_keys (l : Launch) (D : va_G) (cy : Nat → ClassId) (B : Bs) {N : Nat} {g : Gs} {x0 : Nat} {vz : Int32} {dz : Ds} {d : Ds} (hf : fX0_keys N g x0 d = some (vz, dz)) : Met l yX0_keys (.code yX0_keys cX0_keys 1 (some .int) :: wl) rmX0_keys (PC D cy B [.ref (ad B x0)] g d) (QI D cy B vz g dz) 0 0 (wA B) :=
  met_of (by decide +kernel) (Nat.le_of_ble_eq_true rfl) (fun p e s m args below meth c C hr hlocks _ => b_sub [(0, .ref (ad B x0))] [0] rfl (tX0_keys_E C hr hlocks hf))
/-! KeyMatrix$Board.hasKey(I)Z -/
theorem yo_X0_keys : yX0_keys.cls ≠ "java/lang/invoke/MethodHandle" ∧ yX0_keys.cls ≠ "java/lang/invoke/VarHandle" ∧ (parseMethodDescriptor yX0_keys.desc).map (fun d => d.parameters.length) = some 0 := by decide +kernel
theorem co_X0_keys : Cond.code yX0_keys cX0_keys 1 (some .int) ∈ wl := mW (mT3 (List.mem_of_getElem? (i := 172) (by decide +kernel))) rfl
theorem in_X0_keys : Cond.initialized yX0_keys.cls ∈ wl := mW (mT1 (List.mem_of_getElem? (i := 5) (by decide +kernel))) rfl
theorem im_X0_keys : Cond.instanceMethod yX0_keys ∈ wl := mW (mT3 (List.mem_of_getElem? (i := 170) (by decide +kernel))) rfl
theorem se_X0_keys : Cond.selects yX0_keys.cls yX0_keys yX0_keys ∈ wl := mW (mT3 (List.mem_of_getElem? (i := 171) (by decide +kernel))) rfl
theorem lv_X0_93 : LV RX0 93 yX0_keys cX0_keys 1 (some .int) 0 0 := ⟨⟨(RX0, TX0, 19), rfl, rfl⟩, yo_X0_keys, mW (mT4 (List.mem_of_getElem? (i := 31) (by decide +kernel))) rfl, im_X0_keys, se_X0_keys, in_X0_keys, co_X0_keys⟩
theorem dX0_hasKey_0 : decode cX0_hasKey 0 = .ok (.iload_n 1, 1) := by decide +kernel
theorem dX0_hasKey_1 : decode cX0_hasKey 1 = .ok (.ifCond .lt 15, 3) := by decide +kernel
theorem dX0_hasKey_4 : decode cX0_hasKey 4 = .ok (.iload_n 1, 1) := by decide +kernel
theorem dX0_hasKey_5 : decode cX0_hasKey 5 = .ok (.aload_n 0, 1) := by decide +kernel
theorem dX0_hasKey_6 : decode cX0_hasKey 6 = .ok (.invokevirtual 93, 3) := by decide +kernel
theorem dX0_hasKey_9 : decode cX0_hasKey 9 = .ok (.if_icmp .ge 7, 3) := by decide +kernel
theorem dX0_hasKey_12 : decode cX0_hasKey 12 = .ok (.iconst 1, 1) := by decide +kernel
theorem dX0_hasKey_13 : decode cX0_hasKey 13 = .ok (.goto 4, 3) := by decide +kernel
theorem dX0_hasKey_16 : decode cX0_hasKey 16 = .ok (.iconst 0, 1) := by decide +kernel
theorem dX0_hasKey_17 : decode cX0_hasKey 17 = .ok (.ireturn, 1) := by decide +kernel
def rmX0_hasKey : Room := { frames := 1, cells := 0, slots := 0, locals := 20 }
set_option maxRecDepth 100000 in
def fX0_hasKey_J17 (N : Nat) (g : Gs) (x0 : Nat) (x1 : Int32) (z0 : Int32) (d : Ds) : Option (Int32 × Ds) := gd (z0 = 0 ∨ z0 = 1) <| some (z0, d)
set_option maxHeartbeats 4000000 in
set_option maxRecDepth 100000 in
theorem tX0_hasKey_17 {p : Program} {l : Launch} {e : Env} {s : State} {m : MethodId} {args : Array Value} {below : List Frame} {meth : Method} {c : Code} {D : va_G} {cy : Nat → ClassId} {B : Bs} (C : Cx p s m args c cX0_hasKey 2 RX0 D cy B) (hr : meth.sig.returnType = (some .boolean)) (hlocks : meth.locks = false) {N : Nat} {g : Gs} {x0 : Nat} {x1 : Int32} {vz : Int32} {dz : Ds} {z0 : Int32} {d : Ds} (hf : fX0_hasKey_J17 N g x0 x1 z0 d = some (vz, dz)) : WB p l e rmX0_hasKey s m args below meth c 2 D cy B 0 0 (MQ below (QI D cy B vz g dz) args s 0 0 (wA B)) g d [(0, .ref (ad B x0)), (1, .int x1)] 17 [.int z0] := by
  unfold fX0_hasKey_J17 at hf
  obtain ⟨h2, hf⟩ := gd_s hf
  exact b_zret C hr hlocks h2 hf dX0_hasKey_17
set_option maxRecDepth 100000 in
def fX0_hasKey_J16 (N : Nat) (g : Gs) (x0 : Nat) (x1 : Int32) (d : Ds) : Option (Int32 × Ds) := fX0_hasKey_J17 N g x0 x1 0 d
set_option maxHeartbeats 4000000 in
set_option maxRecDepth 100000 in
theorem tX0_hasKey_16 {p : Program} {l : Launch} {e : Env} {s : State} {m : MethodId} {args : Array Value} {below : List Frame} {meth : Method} {c : Code} {D : va_G} {cy : Nat → ClassId} {B : Bs} (C : Cx p s m args c cX0_hasKey 2 RX0 D cy B) (hr : meth.sig.returnType = (some .boolean)) (hlocks : meth.locks = false) {N : Nat} {g : Gs} {x0 : Nat} {x1 : Int32} {vz : Int32} {dz : Ds} {d : Ds} (hf : fX0_hasKey_J16 N g x0 x1 d = some (vz, dz)) : WB p l e rmX0_hasKey s m args below meth c 2 D cy B 0 0 (MQ below (QI D cy B vz g dz) args s 0 0 (wA B)) g d [(0, .ref (ad B x0)), (1, .int x1)] 16 [] := by
  unfold fX0_hasKey_J16 at hf
  refine b_iconst C (v := 0) dX0_hasKey_16 (by decide) ?_
  refine b_sub [(0, .ref (ad B x0)), (1, .int x1)] [0, 1] rfl ?_
  exact tX0_hasKey_17 C hr hlocks hf
set_option maxRecDepth 100000 in
def fX0_hasKey (N : Nat) (g : Gs) (x0 : Nat) (x1 : Int32) (d : Ds) : Option (Int32 × Ds) := if x1 < 0 then (fX0_hasKey_J16 N g x0 x1 d) else (gd (chk g x0 0) <| cb (fX0_keys N g x0 d) fun u6 d4 => (if u6 ≤ x1 then (fX0_hasKey_J16 N g x0 x1 d4) else (fX0_hasKey_J17 N g x0 x1 1 d4)))
set_option maxHeartbeats 4000000 in
set_option maxRecDepth 100000 in
theorem tX0_hasKey_E {p : Program} {l : Launch} {e : Env} {s : State} {m : MethodId} {args : Array Value} {below : List Frame} {meth : Method} {c : Code} {D : va_G} {cy : Nat → ClassId} {B : Bs} (C : Cx p s m args c cX0_hasKey 2 RX0 D cy B) (hr : meth.sig.returnType = (some .boolean)) (hlocks : meth.locks = false) {N : Nat} {g : Gs} {x0 : Nat} {x1 : Int32} {vz : Int32} {dz : Ds} {d : Ds} (hf : fX0_hasKey N g x0 x1 d = some (vz, dz)) : WB p l e rmX0_hasKey s m args below meth c 2 D cy B 0 0 (MQ below (QI D cy B vz g dz) args s 0 0 (wA B)) g d [(0, .ref (ad B x0)), (1, .int x1)] 0 [] := by
  unfold fX0_hasKey at hf
  refine b_iload_n C dX0_hasKey_0 1 rfl rfl ?_
  refine b_if_lt C (tgt := 16) dX0_hasKey_1 (by decide) (fun c1 => ?_) (fun c1 => ?_)
  · have hf := it_s c1 hf
    refine b_sub [(0, .ref (ad B x0)), (1, .int x1)] [0, 1] rfl ?_
    exact tX0_hasKey_16 C hr hlocks hf
  · have hf := if_s c1 hf
    refine b_iload_n C dX0_hasKey_4 1 rfl rfl ?_
    refine b_aload_n C dX0_hasKey_5 0 rfl rfl ?_
    obtain ⟨h3, hf⟩ := gd_s hf
    obtain ⟨u6, d4, k5, hf⟩ := cb_s hf
    refine b_cVI C [.int x1] dX0_hasKey_6 (kX0_keys l D cy B k5) lv_X0_93 ⟨rfl, rfl, Nat.le_of_ble_eq_true rfl, Nat.le_of_ble_eq_true rfl⟩ h3 (by decide) rfl (Nat.le_of_ble_eq_true rfl) ⟨Nat.zero_le _, Nat.zero_le _⟩ rfl ?_
    refine b_icmp_ge C (tgt := 16) dX0_hasKey_9 (by decide) (fun c7 => ?_) (fun c7 => ?_)
    · have hf := it_s c7 hf
      refine b_sub [(0, .ref (ad B x0)), (1, .int x1)] [0, 1] rfl ?_
      exact tX0_hasKey_16 C hr hlocks hf
    · have hf := if_s c7 hf
      refine b_iconst C (v := 1) dX0_hasKey_12 (by decide) ?_
      refine b_goto C (tgt := 17) dX0_hasKey_13 (by decide) ?_
      refine b_sub [(0, .ref (ad B x0)), (1, .int x1)] [0, 1] rfl ?_
      exact tX0_hasKey_17 C hr hlocks hf
theorem kX0_hasKey (l : Launch) (D : va_G) (cy : Nat → ClassId) (B : Bs) {N : Nat} {g : Gs} {x0 : Nat} {x1 : Int32} {vz : Int32} {dz : Ds} {d : Ds} (hf : fX0_hasKey N g x0 x1 d = some (vz, dz)) : Met l yX0_hasKey (.code yX0_hasKey cX0_hasKey 2 (some .boolean) :: wl) rmX0_hasKey (PC D cy B [.ref (ad B x0), .int x1] g d) (QI D cy B vz g dz) 0 0 (wA B) :=
  met_of (by decide +kernel) (Nat.le_of_ble_eq_true rfl) (fun p e s m args below meth c C hr hlocks _ => b_sub [(0, .ref (ad B x0)), (1, .int x1)] [0, 1] rfl (tX0_hasKey_E C hr hlocks hf))
/-! KeyMatrix$Board.toldDeed(II)LKeyMatrix$Deed; -/
theorem dX0_toldDeed_0 : decode cX0_toldDeed 0 = .ok (.iload_n 1, 1) := by decide +kernel
theorem dX0_toldDeed_1 : decode cX0_toldDeed 1 = .ok (.ifCond .lt 18, 3) := by decide +kernel
theorem dX0_toldDeed_4 : decode cX0_toldDeed 4 = .ok (.iload_n 1, 1) := by decide +kernel
theorem dX0_toldDeed_5 : decode cX0_toldDeed 5 = .ok (.iconst 4, 1) := by decide +kernel
theorem dX0_toldDeed_6 : decode cX0_toldDeed 6 = .ok (.if_icmp .ge 13, 3) := by decide +kernel
theorem dX0_toldDeed_9 : decode cX0_toldDeed 9 = .ok (.iload_n 2, 1) := by decide +kernel
theorem dX0_toldDeed_10 : decode cX0_toldDeed 10 = .ok (.ifCond .lt 9, 3) := by decide +kernel
theorem dX0_toldDeed_13 : decode cX0_toldDeed 13 = .ok (.iload_n 2, 1) := by decide +kernel
theorem dX0_toldDeed_14 : decode cX0_toldDeed 14 = .ok (.bipush 24, 2) := by decide +kernel
theorem dX0_toldDeed_16 : decode cX0_toldDeed 16 = .ok (.if_icmp .lt 5, 3) := by decide +kernel
theorem dX0_toldDeed_19 : decode cX0_toldDeed 19 = .ok (.aconst_null, 1) := by decide +kernel
theorem dX0_toldDeed_20 : decode cX0_toldDeed 20 = .ok (.areturn, 1) := by decide +kernel
theorem dX0_toldDeed_21 : decode cX0_toldDeed 21 = .ok (.aload_n 0, 1) := by decide +kernel
theorem dX0_toldDeed_22 : decode cX0_toldDeed 22 = .ok (.getfield 11, 3) := by decide +kernel
theorem dX0_toldDeed_25 : decode cX0_toldDeed 25 = .ok (.iload_n 1, 1) := by decide +kernel
theorem dX0_toldDeed_26 : decode cX0_toldDeed 26 = .ok (.bipush 24, 2) := by decide +kernel
theorem dX0_toldDeed_28 : decode cX0_toldDeed 28 = .ok (.imul, 1) := by decide +kernel
theorem dX0_toldDeed_29 : decode cX0_toldDeed 29 = .ok (.iload_n 2, 1) := by decide +kernel
theorem dX0_toldDeed_30 : decode cX0_toldDeed 30 = .ok (.iadd, 1) := by decide +kernel
theorem dX0_toldDeed_31 : decode cX0_toldDeed 31 = .ok (.aaload, 1) := by decide +kernel
theorem dX0_toldDeed_32 : decode cX0_toldDeed 32 = .ok (.areturn, 1) := by decide +kernel
def rmX0_toldDeed : Room := { frames := 0, cells := 0, slots := 0, locals := 0 }
set_option maxRecDepth 100000 in
def fX0_toldDeed_J19 (N : Nat) (g : Gs) (x0 : Nat) (x1 : Int32) (x2 : Int32) (d : Ds) : Option (Option Nat × Ds) := some (none, d)
set_option maxHeartbeats 4000000 in
set_option maxRecDepth 100000 in
theorem tX0_toldDeed_19 {p : Program} {l : Launch} {e : Env} {s : State} {m : MethodId} {args : Array Value} {below : List Frame} {meth : Method} {c : Code} {D : va_G} {cy : Nat → ClassId} {B : Bs} (C : Cx p s m args c cX0_toldDeed 3 RX0 D cy B) (hr : meth.sig.returnType = (some (.object "KeyMatrix$Deed"))) (hlocks : meth.locks = false) {N : Nat} {g : Gs} {x0 : Nat} {x1 : Int32} {x2 : Int32} {vz : Option Nat} {dz : Ds} {d : Ds} (hf : fX0_toldDeed_J19 N g x0 x1 x2 d = some (vz, dz)) : WB p l e rmX0_toldDeed s m args below meth c 3 D cy B 0 0 (MQ below (QQ D cy B vz g dz) args s 0 0 (wA B)) g d [(0, .ref (ad B x0)), (1, .int x1), (2, .int x2)] 19 [] := by
  unfold fX0_toldDeed_J19 at hf
  refine b_nullQ C dX0_toldDeed_19 ?_
  exact b_aretQ C hr hlocks hf dX0_toldDeed_20
set_option maxRecDepth 100000 in
def fX0_toldDeed (N : Nat) (g : Gs) (x0 : Nat) (x1 : Int32) (x2 : Int32) (d : Ds) : Option (Option Nat × Ds) := if x1 < 0 then (fX0_toldDeed_J19 N g x0 x1 x2 d) else (if (4 : Int32) ≤ x1 then (fX0_toldDeed_J19 N g x0 x1 x2 d) else (if x2 < 0 then (fX0_toldDeed_J19 N g x0 x1 x2 d) else (if x2 < (24 : Int32) then (gd (chk g x0 0) <| ob (gR g x0 10) fun r6 => (gd (chk g r6 105) <| gd (¬ (((x1 * 24) + x2) < 0 ∨ gL g r6 ≤ ((x1 * 24) + x2).toNatClampNeg)) <| ob (gR g r6 ((x1 * 24) + x2).toNatClampNeg) fun r9 => (some ((some r9), d)))) else (fX0_toldDeed_J19 N g x0 x1 x2 d))))
set_option maxHeartbeats 4000000 in
set_option maxRecDepth 100000 in
theorem tX0_toldDeed_E {p : Program} {l : Launch} {e : Env} {s : State} {m : MethodId} {args : Array Value} {below : List Frame} {meth : Method} {c : Code} {D : va_G} {cy : Nat → ClassId} {B : Bs} (C : Cx p s m args c cX0_toldDeed 3 RX0 D cy B) (hr : meth.sig.returnType = (some (.object "KeyMatrix$Deed"))) (hlocks : meth.locks = false) {N : Nat} {g : Gs} {x0 : Nat} {x1 : Int32} {x2 : Int32} {vz : Option Nat} {dz : Ds} {d : Ds} (hf : fX0_toldDeed N g x0 x1 x2 d = some (vz, dz)) : WB p l e rmX0_toldDeed s m args below meth c 3 D cy B 0 0 (MQ below (QQ D cy B vz g dz) args s 0 0 (wA B)) g d [(0, .ref (ad B x0)), (1, .int x1), (2, .int x2)] 0 [] := by
  unfold fX0_toldDeed at hf
  refine b_iload_n C dX0_toldDeed_0 1 rfl rfl ?_
  refine b_if_lt C (tgt := 19) dX0_toldDeed_1 (by decide) (fun c1 => ?_) (fun c1 => ?_)
  · have hf := it_s c1 hf
    refine b_sub [(0, .ref (ad B x0)), (1, .int x1), (2, .int x2)] [0, 1, 2] rfl ?_
    exact tX0_toldDeed_19 C hr hlocks hf
  · have hf := if_s c1 hf
    refine b_iload_n C dX0_toldDeed_4 1 rfl rfl ?_
    refine b_iconst C (v := 4) dX0_toldDeed_5 (by decide) ?_
    refine b_icmp_ge C (tgt := 19) dX0_toldDeed_6 (by decide) (fun c2 => ?_) (fun c2 => ?_)
    · have hf := it_s c2 hf
      refine b_sub [(0, .ref (ad B x0)), (1, .int x1), (2, .int x2)] [0, 1, 2] rfl ?_
      exact tX0_toldDeed_19 C hr hlocks hf
    · have hf := if_s c2 hf
      refine b_iload_n C dX0_toldDeed_9 2 rfl rfl ?_
      refine b_if_lt C (tgt := 19) dX0_toldDeed_10 (by decide) (fun c3 => ?_) (fun c3 => ?_)
      · have hf := it_s c3 hf
        refine b_sub [(0, .ref (ad B x0)), (1, .int x1), (2, .int x2)] [0, 1, 2] rfl ?_
        exact tX0_toldDeed_19 C hr hlocks hf
      · have hf := if_s c3 hf
        refine b_iload_n C dX0_toldDeed_13 2 rfl rfl ?_
        refine b_bipush C (v := 24) dX0_toldDeed_14 (by decide) ?_
        refine b_icmp_lt C (tgt := 21) dX0_toldDeed_16 (by decide) (fun c4 => ?_) (fun c4 => ?_)
        · have hf := it_s c4 hf
          refine b_aload_n C dX0_toldDeed_21 0 rfl rfl ?_
          obtain ⟨h5, hf⟩ := gd_s hf
          obtain ⟨r6, er6, hf⟩ := ob_s hf
          refine b_gR C dX0_toldDeed_22 fl_X0_11 h5 er6 ?_
          refine b_iload_n C dX0_toldDeed_25 1 rfl rfl ?_
          refine b_bipush C (v := 24) dX0_toldDeed_26 (by decide) ?_
          refine b_imul C dX0_toldDeed_28 ?_
          refine b_iload_n C dX0_toldDeed_29 2 rfl rfl ?_
          refine b_iadd C dX0_toldDeed_30 ?_
          obtain ⟨h7, hf⟩ := gd_s hf
          obtain ⟨h8, hf⟩ := gd_s hf
          obtain ⟨r9, er9, hf⟩ := ob_s hf
          refine b_aaldD C (by exact h7) h8 er9 dX0_toldDeed_31 ?_
          exact b_aretQ C hr hlocks hf dX0_toldDeed_32
        · have hf := if_s c4 hf
          refine b_sub [(0, .ref (ad B x0)), (1, .int x1), (2, .int x2)] [0, 1, 2] rfl ?_
          exact tX0_toldDeed_19 C hr hlocks hf
theorem kX0_toldDeed (l : Launch) (D : va_G) (cy : Nat → ClassId) (B : Bs) {N : Nat} {g : Gs} {x0 : Nat} {x1 : Int32} {x2 : Int32} {vz : Option Nat} {dz : Ds} {d : Ds} (hf : fX0_toldDeed N g x0 x1 x2 d = some (vz, dz)) : Met l yX0_toldDeed (.code yX0_toldDeed cX0_toldDeed 3 (some (.object "KeyMatrix$Deed")) :: wl) rmX0_toldDeed (PC D cy B [.ref (ad B x0), .int x1, .int x2] g d) (QQ D cy B vz g dz) 0 0 (wA B) :=
  met_of (by decide +kernel) (Nat.le_of_ble_eq_true rfl) (fun p e s m args below meth c C hr hlocks _ => b_sub [(0, .ref (ad B x0)), (1, .int x1), (2, .int x2)] [0, 1, 2] rfl (tX0_toldDeed_E C hr hlocks hf))
/-! KeyMatrix.isIn(II)Z -/
theorem dX11_isIn_0 : decode cX11_isIn 0 = .ok (.iload_n 0, 1) := by decide +kernel
theorem dX11_isIn_1 : decode cX11_isIn 1 = .ok (.iload_n 1, 1) := by decide +kernel
theorem dX11_isIn_2 : decode cX11_isIn 2 = .ok (.iushr, 1) := by decide +kernel
theorem dX11_isIn_3 : decode cX11_isIn 3 = .ok (.iconst 1, 1) := by decide +kernel
theorem dX11_isIn_4 : decode cX11_isIn 4 = .ok (.iand, 1) := by decide +kernel
theorem dX11_isIn_5 : decode cX11_isIn 5 = .ok (.ifCond .eq 7, 3) := by decide +kernel
theorem dX11_isIn_8 : decode cX11_isIn 8 = .ok (.iconst 1, 1) := by decide +kernel
theorem dX11_isIn_9 : decode cX11_isIn 9 = .ok (.goto 4, 3) := by decide +kernel
theorem dX11_isIn_12 : decode cX11_isIn 12 = .ok (.iconst 0, 1) := by decide +kernel
theorem dX11_isIn_13 : decode cX11_isIn 13 = .ok (.ireturn, 1) := by decide +kernel
def rmX11_isIn : Room := { frames := 0, cells := 0, slots := 0, locals := 0 }
set_option maxRecDepth 100000 in
def fX11_isIn_J13 (N : Nat) (g : Gs) (x0 : Int32) (x1 : Int32) (z0 : Int32) (d : Ds) : Option (Int32 × Ds) := gd (z0 = 0 ∨ z0 = 1) <| some (z0, d)
set_option maxHeartbeats 4000000 in
set_option maxRecDepth 100000 in
theorem tX11_isIn_13 {p : Program} {l : Launch} {e : Env} {s : State} {m : MethodId} {args : Array Value} {below : List Frame} {meth : Method} {c : Code} {D : va_G} {cy : Nat → ClassId} {B : Bs} (C : Cx p s m args c cX11_isIn 2 RX11 D cy B) (hr : meth.sig.returnType = (some .boolean)) (hlocks : meth.locks = false) {N : Nat} {g : Gs} {x0 : Int32} {x1 : Int32} {vz : Int32} {dz : Ds} {z0 : Int32} {d : Ds} (hf : fX11_isIn_J13 N g x0 x1 z0 d = some (vz, dz)) : WB p l e rmX11_isIn s m args below meth c 2 D cy B 0 0 (MQ below (QI D cy B vz g dz) args s 0 0 (wA B)) g d [(0, .int x0), (1, .int x1)] 13 [.int z0] := by
  unfold fX11_isIn_J13 at hf
  obtain ⟨h2, hf⟩ := gd_s hf
  exact b_zret C hr hlocks h2 hf dX11_isIn_13
set_option maxRecDepth 100000 in
def fX11_isIn (N : Nat) (g : Gs) (x0 : Int32) (x1 : Int32) (d : Ds) : Option (Int32 × Ds) := if (((x0.toUInt32 >>> (x1.toUInt32 &&& Int32.toUInt32 31)).toInt32) &&& 1) = 0 then (fX11_isIn_J13 N g x0 x1 0 d) else (fX11_isIn_J13 N g x0 x1 1 d)
set_option maxHeartbeats 4000000 in
set_option maxRecDepth 100000 in
theorem tX11_isIn_E {p : Program} {l : Launch} {e : Env} {s : State} {m : MethodId} {args : Array Value} {below : List Frame} {meth : Method} {c : Code} {D : va_G} {cy : Nat → ClassId} {B : Bs} (C : Cx p s m args c cX11_isIn 2 RX11 D cy B) (hr : meth.sig.returnType = (some .boolean)) (hlocks : meth.locks = false) {N : Nat} {g : Gs} {x0 : Int32} {x1 : Int32} {vz : Int32} {dz : Ds} {d : Ds} (hf : fX11_isIn N g x0 x1 d = some (vz, dz)) : WB p l e rmX11_isIn s m args below meth c 2 D cy B 0 0 (MQ below (QI D cy B vz g dz) args s 0 0 (wA B)) g d [(0, .int x0), (1, .int x1)] 0 [] := by
  unfold fX11_isIn at hf
  refine b_iload_n C dX11_isIn_0 0 rfl rfl ?_
  refine b_iload_n C dX11_isIn_1 1 rfl rfl ?_
  refine b_iushr C dX11_isIn_2 ?_
  refine b_iconst C (v := 1) dX11_isIn_3 (by decide) ?_
  refine b_iand C dX11_isIn_4 ?_
  refine b_if_eq C (tgt := 12) dX11_isIn_5 (by decide) (fun c1 => ?_) (fun c1 => ?_)
  · have hf := it_s c1 hf
    refine b_iconst C (v := 0) dX11_isIn_12 (by decide) ?_
    refine b_sub [(0, .int x0), (1, .int x1)] [0, 1] rfl ?_
    exact tX11_isIn_13 C hr hlocks hf
  · have hf := if_s c1 hf
    refine b_iconst C (v := 1) dX11_isIn_8 (by decide) ?_
    refine b_goto C (tgt := 13) dX11_isIn_9 (by decide) ?_
    refine b_sub [(0, .int x0), (1, .int x1)] [0, 1] rfl ?_
    exact tX11_isIn_13 C hr hlocks hf
theorem kX11_isIn (l : Launch) (D : va_G) (cy : Nat → ClassId) (B : Bs) {N : Nat} {g : Gs} {x0 : Int32} {x1 : Int32} {vz : Int32} {dz : Ds} {d : Ds} (hf : fX11_isIn N g x0 x1 d = some (vz, dz)) : Met l yX11_isIn (.code yX11_isIn cX11_isIn 2 (some .boolean) :: wl) rmX11_isIn (PC D cy B [.int x0, .int x1] g d) (QI D cy B vz g dz) 0 0 (wA B) :=
  met_of (by decide +kernel) (Nat.le_of_ble_eq_true rfl) (fun p e s m args below meth c C hr hlocks _ => b_sub [(0, .int x0), (1, .int x1)] [0, 1] rfl (tX11_isIn_E C hr hlocks hf))
/-! KeyMatrix$Board.deedIn(II)LKeyMatrix$Deed; -/
theorem fl_X0_18 : FLR RX0 18 0 11 := ⟨⟨RX0, TX0, 19, rfl, by decide, inl0, Or.inl (mW (mT1 (List.mem_of_getElem? (i := 149) (by decide +kernel))) rfl)⟩, by decide, by decide +kernel⟩
theorem yo_X0_toldDeed : yX0_toldDeed.cls ≠ "java/lang/invoke/MethodHandle" ∧ yX0_toldDeed.cls ≠ "java/lang/invoke/VarHandle" ∧ (parseMethodDescriptor yX0_toldDeed.desc).map (fun d => d.parameters.length) = some 2 := by decide +kernel
theorem co_X0_toldDeed : Cond.code yX0_toldDeed cX0_toldDeed 3 (some (.object "KeyMatrix$Deed")) ∈ wl := mW (mT3 (List.mem_of_getElem? (i := 176) (by decide +kernel))) rfl
theorem in_X0_toldDeed : Cond.initialized yX0_toldDeed.cls ∈ wl := mW (mT1 (List.mem_of_getElem? (i := 5) (by decide +kernel))) rfl
theorem im_X0_toldDeed : Cond.instanceMethod yX0_toldDeed ∈ wl := mW (mT3 (List.mem_of_getElem? (i := 174) (by decide +kernel))) rfl
theorem se_X0_toldDeed : Cond.selects yX0_toldDeed.cls yX0_toldDeed yX0_toldDeed ∈ wl := mW (mT3 (List.mem_of_getElem? (i := 175) (by decide +kernel))) rfl
theorem lv_X0_97 : LV RX0 97 yX0_toldDeed cX0_toldDeed 3 (some (.object "KeyMatrix$Deed")) 2 0 := ⟨⟨(RX0, TX0, 19), rfl, rfl⟩, yo_X0_toldDeed, mW (mT4 (List.mem_of_getElem? (i := 113) (by decide +kernel))) rfl, im_X0_toldDeed, se_X0_toldDeed, in_X0_toldDeed, co_X0_toldDeed⟩
theorem yo_X11_isIn : yX11_isIn.cls ≠ "java/lang/invoke/MethodHandle" ∧ yX11_isIn.cls ≠ "java/lang/invoke/VarHandle" ∧ (parseMethodDescriptor yX11_isIn.desc).map (fun d => d.parameters.length) = some 2 := by decide +kernel
theorem co_X11_isIn : Cond.code yX11_isIn cX11_isIn 2 (some .boolean) ∈ wl := mW (mT4 (List.mem_of_getElem? (i := 34) (by decide +kernel))) rfl
theorem in_X11_isIn : Cond.initialized yX11_isIn.cls ∈ wl := mW (mT1 (List.mem_of_getElem? (i := 1) (by decide +kernel))) rfl
theorem st_X11_isIn : Cond.static yX11_isIn ∈ wl := mW (mT4 (List.mem_of_getElem? (i := 33) (by decide +kernel))) rfl
theorem lv_X0_101 : LSt RX0 101 yX11_isIn cX11_isIn 2 (some .boolean) 2 := ⟨yo_X11_isIn, Or.inr (mT4 (List.mem_of_getElem? (i := 114) (by decide +kernel))), st_X11_isIn, in_X11_isIn, co_X11_isIn⟩
theorem fl_X0_105 : FLI RX0 105 2 0 := ⟨⟨RX2, TX2, 3, rfl, by decide, inl2, Or.inr (mT1 (List.mem_of_getElem? (i := 73) (by decide +kernel)))⟩, by decide, by decide +kernel⟩
theorem dX0_deedIn_0 : decode cX0_deedIn 0 = .ok (.iconst 3, 1) := by decide +kernel
theorem dX0_deedIn_1 : decode cX0_deedIn 1 = .ok (.istore_n 3, 1) := by decide +kernel
theorem dX0_deedIn_2 : decode cX0_deedIn 2 = .ok (.iload_n 3, 1) := by decide +kernel
theorem dX0_deedIn_3 : decode cX0_deedIn 3 = .ok (.ifCond .lt 42, 3) := by decide +kernel
theorem dX0_deedIn_6 : decode cX0_deedIn 6 = .ok (.aload_n 0, 1) := by decide +kernel
theorem dX0_deedIn_7 : decode cX0_deedIn 7 = .ok (.iload_n 3, 1) := by decide +kernel
theorem dX0_deedIn_8 : decode cX0_deedIn 8 = .ok (.iload_n 2, 1) := by decide +kernel
theorem dX0_deedIn_9 : decode cX0_deedIn 9 = .ok (.invokevirtual 97, 3) := by decide +kernel
theorem dX0_deedIn_12 : decode cX0_deedIn 12 = .ok (.astore 4, 2) := by decide +kernel
theorem dX0_deedIn_14 : decode cX0_deedIn 14 = .ok (.iload_n 1, 1) := by decide +kernel
theorem dX0_deedIn_15 : decode cX0_deedIn 15 = .ok (.iload_n 3, 1) := by decide +kernel
theorem dX0_deedIn_16 : decode cX0_deedIn 16 = .ok (.invokestatic 101, 3) := by decide +kernel
theorem dX0_deedIn_19 : decode cX0_deedIn 19 = .ok (.ifCond .eq 20, 3) := by decide +kernel
theorem dX0_deedIn_22 : decode cX0_deedIn 22 = .ok (.aload 4, 2) := by decide +kernel
theorem dX0_deedIn_24 : decode cX0_deedIn 24 = .ok (.ifnull 15, 3) := by decide +kernel
theorem dX0_deedIn_27 : decode cX0_deedIn 27 = .ok (.aload 4, 2) := by decide +kernel
theorem dX0_deedIn_29 : decode cX0_deedIn 29 = .ok (.getfield 105, 3) := by decide +kernel
theorem dX0_deedIn_32 : decode cX0_deedIn 32 = .ok (.iconst 5, 1) := by decide +kernel
theorem dX0_deedIn_33 : decode cX0_deedIn 33 = .ok (.if_icmp .eq 6, 3) := by decide +kernel
theorem dX0_deedIn_36 : decode cX0_deedIn 36 = .ok (.aload 4, 2) := by decide +kernel
theorem dX0_deedIn_38 : decode cX0_deedIn 38 = .ok (.areturn, 1) := by decide +kernel
theorem dX0_deedIn_39 : decode cX0_deedIn 39 = .ok (.iinc 3 (-1), 3) := by decide +kernel
theorem dX0_deedIn_42 : decode cX0_deedIn 42 = .ok (.goto (-40), 3) := by decide +kernel
theorem dX0_deedIn_45 : decode cX0_deedIn 45 = .ok (.aload_n 0, 1) := by decide +kernel
theorem dX0_deedIn_46 : decode cX0_deedIn 46 = .ok (.getfield 18, 3) := by decide +kernel
theorem dX0_deedIn_49 : decode cX0_deedIn 49 = .ok (.areturn, 1) := by decide +kernel
def rmX0_deedIn : Room := { frames := 1, cells := 0, slots := 0, locals := 22 }
set_option maxRecDepth 100000 in
def fX0_deedIn_J39 (N : Nat) (g : Gs) (x0 : Nat) (x1 : Int32) (x2 : Int32) (K2 : Int32 × Ds → Option (Nat × Ds)) (y3 : Int32) (d : Ds) : Option (Nat × Ds) := bd (y3 + (-1)) fun u12 => (K2 (u12, d))
set_option maxHeartbeats 4000000 in
set_option maxRecDepth 100000 in
theorem tX0_deedIn_39 {p : Program} {l : Launch} {e : Env} {s : State} {m : MethodId} {args : Array Value} {below : List Frame} {meth : Method} {c : Code} {D : va_G} {cy : Nat → ClassId} {B : Bs} (C : Cx p s m args c cX0_deedIn 5 RX0 D cy B) (hr : meth.sig.returnType = (some (.object "KeyMatrix$Deed"))) (hlocks : meth.locks = false) {N : Nat} {g : Gs} {x0 : Nat} {x1 : Int32} {x2 : Int32} {vz : Nat} {dz : Ds} {K2 : Int32 × Ds → Option (Nat × Ds)} (hK2 : ∀ a, K2 a = some (vz, dz) → WB p l e rmX0_deedIn s m args below meth c 5 D cy B 0 0 (MQ below (QR D cy B vz g dz) args s 0 0 (wA B)) g a.2 [(0, .ref (ad B x0)), (1, .int x1), (2, .int x2), (3, .int a.1)] 2 []) {y3 : Int32} {d : Ds} (hf : fX0_deedIn_J39 N g x0 x1 x2 K2 y3 d = some (vz, dz)) : WB p l e rmX0_deedIn s m args below meth c 5 D cy B 0 0 (MQ below (QR D cy B vz g dz) args s 0 0 (wA B)) g d [(0, .ref (ad B x0)), (1, .int x1), (2, .int x2), (3, .int y3)] 39 [] := by
  unfold fX0_deedIn_J39 at hf
  obtain ⟨u12, eu12, hf⟩ := bd_s hf
  refine b_iinc C dX0_deedIn_39 3 rfl (by rw [eu12]; rfl) [(3, .int u12), (0, .ref (ad B x0)), (1, .int x1), (2, .int x2)] (by decide) rfl ?_
  refine b_goto C (tgt := 2) dX0_deedIn_42 (by decide) ?_
  refine b_sub [(0, .ref (ad B x0)), (1, .int x1), (2, .int x2), (3, .int u12)] [1, 2, 3, 0] rfl ?_
  exact hK2 (u12, d) hf
set_option maxRecDepth 100000 in
def fX0_deedIn_B2 (N : Nat) (g : Gs) (x0 : Nat) (x1 : Int32) (x2 : Int32) (K2 : Int32 × Ds → Option (Nat × Ds)) (y3 : Int32) (d : Ds) : Option (Nat × Ds) := if y3 < 0 then (gd (chk g x0 0) <| ob (gR g x0 11) fun r3 => (some (r3, d))) else (gd (chk g x0 0) <| cb (fX0_toldDeed N g x0 y3 x2 d) fun u7 d5 => (cb (fX11_isIn N g x1 y3 d5) fun u10 d8 => (if u10 = 0 then (fX0_deedIn_J39 N g x0 x1 x2 K2 y3 d8) else (if u7 = none then (fX0_deedIn_J39 N g x0 x1 x2 K2 y3 d8) else (ob u7 fun r14 => (gd (chk g r14 2) <| if (dI d8 r14 0) = (5 : Int32) then (fX0_deedIn_J39 N g x0 x1 x2 K2 y3 d8) else (some (r14, d8))))))))
set_option maxHeartbeats 4000000 in
set_option maxRecDepth 100000 in
theorem tX0_deedIn_2 {p : Program} {l : Launch} {e : Env} {s : State} {m : MethodId} {args : Array Value} {below : List Frame} {meth : Method} {c : Code} {D : va_G} {cy : Nat → ClassId} {B : Bs} (C : Cx p s m args c cX0_deedIn 5 RX0 D cy B) (hr : meth.sig.returnType = (some (.object "KeyMatrix$Deed"))) (hlocks : meth.locks = false) {N : Nat} {g : Gs} {x0 : Nat} {x1 : Int32} {x2 : Int32} {vz : Nat} {dz : Ds} {K2 : Int32 × Ds → Option (Nat × Ds)} (hK2 : ∀ a, K2 a = some (vz, dz) → WB p l e rmX0_deedIn s m args below meth c 5 D cy B 0 0 (MQ below (QR D cy B vz g dz) args s 0 0 (wA B)) g a.2 [(0, .ref (ad B x0)), (1, .int x1), (2, .int x2), (3, .int a.1)] 2 []) {y3 : Int32} {d : Ds} (hf : fX0_deedIn_B2 N g x0 x1 x2 K2 y3 d = some (vz, dz)) : WB p l e rmX0_deedIn s m args below meth c 5 D cy B 0 0 (MQ below (QR D cy B vz g dz) args s 0 0 (wA B)) g d [(0, .ref (ad B x0)), (1, .int x1), (2, .int x2), (3, .int y3)] 2 [] := by
  unfold fX0_deedIn_B2 at hf
  refine b_iload_n C dX0_deedIn_2 3 rfl rfl ?_
  refine b_if_lt C (tgt := 45) dX0_deedIn_3 (by decide) (fun c1 => ?_) (fun c1 => ?_)
  · have hf := it_s c1 hf
    refine b_aload_n C dX0_deedIn_45 0 rfl rfl ?_
    obtain ⟨h2, hf⟩ := gd_s hf
    obtain ⟨r3, er3, hf⟩ := ob_s hf
    refine b_gR C dX0_deedIn_46 fl_X0_18 h2 er3 ?_
    exact b_aret C hr hlocks hf dX0_deedIn_49
  · have hf := if_s c1 hf
    refine b_aload_n C dX0_deedIn_6 0 rfl rfl ?_
    refine b_iload_n C dX0_deedIn_7 3 rfl rfl ?_
    refine b_iload_n C dX0_deedIn_8 2 rfl rfl ?_
    obtain ⟨h4, hf⟩ := gd_s hf
    obtain ⟨u7, d5, k6, hf⟩ := cb_s hf
    refine b_cVQ C [] dX0_deedIn_9 (kX0_toldDeed l D cy B k6) lv_X0_97 ⟨rfl, rfl, Nat.le_of_ble_eq_true rfl, Nat.le_of_ble_eq_true rfl⟩ h4 (by decide) rfl (Nat.le_of_ble_eq_true rfl) ⟨Nat.zero_le _, Nat.zero_le _⟩ rfl ?_
    refine b_astoreQ C dX0_deedIn_12 [(4, rv B u7), (0, .ref (ad B x0)), (1, .int x1), (2, .int x2), (3, .int y3)] (by decide) rfl ?_
    refine b_iload_n C dX0_deedIn_14 2 rfl rfl ?_
    refine b_iload_n C dX0_deedIn_15 4 rfl rfl ?_
    obtain ⟨u10, d8, k9, hf⟩ := cb_s hf
    refine b_cSI C [] dX0_deedIn_16 (kX11_isIn l D cy B k9) lv_X0_101 ⟨rfl, rfl, Nat.le_of_ble_eq_true rfl, Nat.le_of_ble_eq_true rfl⟩ rfl (Nat.le_of_ble_eq_true rfl) ⟨Nat.zero_le _, Nat.zero_le _⟩ rfl ?_
    refine b_if_eq C (tgt := 39) dX0_deedIn_19 (by decide) (fun c11 => ?_) (fun c11 => ?_)
    · have hf := it_s c11 hf
      refine b_sub [(0, .ref (ad B x0)), (1, .int x1), (2, .int x2), (3, .int y3)] [1, 2, 3, 4] rfl ?_
      exact tX0_deedIn_39 C hr hlocks hK2 hf
    · have hf := if_s c11 hf
      refine b_aloadQ C dX0_deedIn_22 0 rfl ?_
      refine b_ifnull C (tgt := 39) dX0_deedIn_24 (by decide) (fun c13 => ?_) (fun c13 => ?_)
      · have hf := it_s c13 hf
        refine b_sub [(0, .ref (ad B x0)), (1, .int x1), (2, .int x2), (3, .int y3)] [1, 2, 3, 4] rfl ?_
        exact tX0_deedIn_39 C hr hlocks hK2 hf
      · have hf := if_s c13 hf
        refine b_aloadQ C dX0_deedIn_27 0 rfl ?_
        obtain ⟨r14, er14, hf⟩ := ob_s hf
        refine b_some er14 ?_
        obtain ⟨h15, hf⟩ := gd_s hf
        refine b_gI C dX0_deedIn_29 fl_X0_105 h15 ?_
        refine b_iconst C (v := 5) dX0_deedIn_32 (by decide) ?_
        refine b_icmp_eq C (tgt := 39) dX0_deedIn_33 (by decide) (fun c16 => ?_) (fun c16 => ?_)
        · have hf := it_s c16 hf
          refine b_sub [(0, .ref (ad B x0)), (1, .int x1), (2, .int x2), (3, .int y3)] [1, 2, 3, 4] rfl ?_
          exact tX0_deedIn_39 C hr hlocks hK2 hf
        · have hf := if_s c16 hf
          refine b_aloadQ C dX0_deedIn_36 0 rfl ?_
          refine b_some er14 ?_
          exact b_aret C hr hlocks hf dX0_deedIn_38
def fX0_deedIn_L2 (N : Nat) (g : Gs) (x0 : Nat) (x1 : Int32) (x2 : Int32) : Int32 × Ds → Option (Nat × Ds) := lp (fun K2 a => fX0_deedIn_B2 N g x0 x1 x2 K2 a.1 a.2) N
theorem tX0_deedIn_L2 {p : Program} {l : Launch} {e : Env} {s : State} {m : MethodId} {args : Array Value} {below : List Frame} {meth : Method} {c : Code} {D : va_G} {cy : Nat → ClassId} {B : Bs} (C : Cx p s m args c cX0_deedIn 5 RX0 D cy B) (hr : meth.sig.returnType = (some (.object "KeyMatrix$Deed"))) (hlocks : meth.locks = false) {N : Nat} {g : Gs} {x0 : Nat} {x1 : Int32} {x2 : Int32} {vz : Nat} {dz : Ds} (a : Int32 × Ds) (hf : fX0_deedIn_L2 N g x0 x1 x2 a = some (vz, dz)) : WB p l e rmX0_deedIn s m args below meth c 5 D cy B 0 0 (MQ below (QR D cy B vz g dz) args s 0 0 (wA B)) g a.2 [(0, .ref (ad B x0)), (1, .int x1), (2, .int x2), (3, .int a.1)] 2 [] :=
  lp_w (fun K2 hK2 a ha => tX0_deedIn_2 C hr hlocks hK2 ha) N a hf
set_option maxRecDepth 100000 in
def fX0_deedIn (N : Nat) (g : Gs) (x0 : Nat) (x1 : Int32) (x2 : Int32) (d : Ds) : Option (Nat × Ds) := fX0_deedIn_L2 N g x0 x1 x2 (3, d)
set_option maxHeartbeats 4000000 in
set_option maxRecDepth 100000 in
theorem tX0_deedIn_E {p : Program} {l : Launch} {e : Env} {s : State} {m : MethodId} {args : Array Value} {below : List Frame} {meth : Method} {c : Code} {D : va_G} {cy : Nat → ClassId} {B : Bs} (C : Cx p s m args c cX0_deedIn 5 RX0 D cy B) (hr : meth.sig.returnType = (some (.object "KeyMatrix$Deed"))) (hlocks : meth.locks = false) {N : Nat} {g : Gs} {x0 : Nat} {x1 : Int32} {x2 : Int32} {vz : Nat} {dz : Ds} {d : Ds} (hf : fX0_deedIn N g x0 x1 x2 d = some (vz, dz)) : WB p l e rmX0_deedIn s m args below meth c 5 D cy B 0 0 (MQ below (QR D cy B vz g dz) args s 0 0 (wA B)) g d [(0, .ref (ad B x0)), (1, .int x1), (2, .int x2)] 0 [] := by
  unfold fX0_deedIn at hf
  refine b_iconst C (v := 3) dX0_deedIn_0 (by decide) ?_
  refine b_istore_n C dX0_deedIn_1 rfl [(3, .int 3), (0, .ref (ad B x0)), (1, .int x1), (2, .int x2)] (by decide) rfl ?_
  refine b_sub [(0, .ref (ad B x0)), (1, .int x1), (2, .int x2), (3, .int 3)] [1, 2, 3, 0] rfl ?_
  exact tX0_deedIn_L2 C hr hlocks (3, d) hf
theorem kX0_deedIn (l : Launch) (D : va_G) (cy : Nat → ClassId) (B : Bs) {N : Nat} {g : Gs} {x0 : Nat} {x1 : Int32} {x2 : Int32} {vz : Nat} {dz : Ds} {d : Ds} (hf : fX0_deedIn N g x0 x1 x2 d = some (vz, dz)) : Met l yX0_deedIn (.code yX0_deedIn cX0_deedIn 5 (some (.object "KeyMatrix$Deed")) :: wl) rmX0_deedIn (PC D cy B [.ref (ad B x0), .int x1, .int x2] g d) (QR D cy B vz g dz) 0 0 (wA B) :=
  met_of (by decide +kernel) (Nat.le_of_ble_eq_true rfl) (fun p e s m args below meth c C hr hlocks _ => b_sub [(0, .ref (ad B x0)), (1, .int x1), (2, .int x2)] [0, 1, 2] rfl (tX0_deedIn_E C hr hlocks hf))
/-! KeyMatrix$Board.addChord(IILKeyMatrix$Deed;)V -/
theorem dX0_addChord_0 : decode cX0_addChord 0 = .ok (.aload_n 0, 1) := by decide +kernel
theorem dX0_addChord_1 : decode cX0_addChord 1 = .ok (.getfield 77, 3) := by decide +kernel
theorem dX0_addChord_4 : decode cX0_addChord 4 = .ok (.iconst 4, 1) := by decide +kernel
theorem dX0_addChord_5 : decode cX0_addChord 5 = .ok (.if_icmp .ge 46, 3) := by decide +kernel
theorem dX0_addChord_8 : decode cX0_addChord 8 = .ok (.aload_n 0, 1) := by decide +kernel
theorem dX0_addChord_9 : decode cX0_addChord 9 = .ok (.getfield 22, 3) := by decide +kernel
theorem dX0_addChord_12 : decode cX0_addChord 12 = .ok (.aload_n 0, 1) := by decide +kernel
theorem dX0_addChord_13 : decode cX0_addChord 13 = .ok (.getfield 77, 3) := by decide +kernel
theorem dX0_addChord_16 : decode cX0_addChord 16 = .ok (.iload_n 1, 1) := by decide +kernel
theorem dX0_addChord_17 : decode cX0_addChord 17 = .ok (.iastore, 1) := by decide +kernel
theorem dX0_addChord_18 : decode cX0_addChord 18 = .ok (.aload_n 0, 1) := by decide +kernel
theorem dX0_addChord_19 : decode cX0_addChord 19 = .ok (.getfield 26, 3) := by decide +kernel
theorem dX0_addChord_22 : decode cX0_addChord 22 = .ok (.aload_n 0, 1) := by decide +kernel
theorem dX0_addChord_23 : decode cX0_addChord 23 = .ok (.getfield 77, 3) := by decide +kernel
theorem dX0_addChord_26 : decode cX0_addChord 26 = .ok (.iload_n 2, 1) := by decide +kernel
theorem dX0_addChord_27 : decode cX0_addChord 27 = .ok (.iastore, 1) := by decide +kernel
theorem dX0_addChord_28 : decode cX0_addChord 28 = .ok (.aload_n 0, 1) := by decide +kernel
theorem dX0_addChord_29 : decode cX0_addChord 29 = .ok (.getfield 29, 3) := by decide +kernel
theorem dX0_addChord_32 : decode cX0_addChord 32 = .ok (.aload_n 0, 1) := by decide +kernel
theorem dX0_addChord_33 : decode cX0_addChord 33 = .ok (.getfield 77, 3) := by decide +kernel
theorem dX0_addChord_36 : decode cX0_addChord 36 = .ok (.aaload, 1) := by decide +kernel
theorem dX0_addChord_37 : decode cX0_addChord 37 = .ok (.aload_n 3, 1) := by decide +kernel
theorem dX0_addChord_38 : decode cX0_addChord 38 = .ok (.invokevirtual 83, 3) := by decide +kernel
theorem dX0_addChord_41 : decode cX0_addChord 41 = .ok (.aload_n 0, 1) := by decide +kernel
theorem dX0_addChord_42 : decode cX0_addChord 42 = .ok (.dup, 1) := by decide +kernel
theorem dX0_addChord_43 : decode cX0_addChord 43 = .ok (.getfield 77, 3) := by decide +kernel
theorem dX0_addChord_46 : decode cX0_addChord 46 = .ok (.iconst 1, 1) := by decide +kernel
theorem dX0_addChord_47 : decode cX0_addChord 47 = .ok (.iadd, 1) := by decide +kernel
theorem dX0_addChord_48 : decode cX0_addChord 48 = .ok (.putfield 77, 3) := by decide +kernel
theorem dX0_addChord_51 : decode cX0_addChord 51 = .ok (.return_, 1) := by decide +kernel
def rmX0_addChord : Room := { frames := 2, cells := 0, slots := 0, locals := 44 }
set_option maxRecDepth 100000 in
def fX0_addChord_J51 (N : Nat) (g : Gs) (x0 : Nat) (x1 : Int32) (x2 : Int32) (x3 : Nat) (d : Ds) : Option (Unit × Ds) := some ((), d)
set_option maxHeartbeats 4000000 in
set_option maxRecDepth 100000 in
theorem tX0_addChord_51 {p : Program} {l : Launch} {e : Env} {s : State} {m : MethodId} {args : Array Value} {below : List Frame} {meth : Method} {c : Code} {D : va_G} {cy : Nat → ClassId} {B : Bs} (C : Cx p s m args c cX0_addChord 4 RX0 D cy B) (hr : meth.sig.returnType = none) (hlocks : meth.locks = false) {N : Nat} {g : Gs} {x0 : Nat} {x1 : Int32} {x2 : Int32} {x3 : Nat}  {dz : Ds} {d : Ds} (hf : fX0_addChord_J51 N g x0 x1 x2 x3 d = some ((), dz)) : WB p l e rmX0_addChord s m args below meth c 4 D cy B 0 0 (MQ below (QV D cy B g dz) args s 0 0 (wA B)) g d [(0, .ref (ad B x0)), (1, .int x1), (2, .int x2), (3, .ref (ad B x3))] 51 [] := by
  unfold fX0_addChord_J51 at hf
  exact b_vret C hr hlocks hf dX0_addChord_51
set_option maxRecDepth 100000 in
def fX0_addChord (N : Nat) (g : Gs) (x0 : Nat) (x1 : Int32) (x2 : Int32) (x3 : Nat) (d : Ds) : Option (Unit × Ds) := gd (chk g x0 0) <| if (4 : Int32) ≤ (dI d x0 12) then (fX0_addChord_J51 N g x0 x1 x2 x3 d) else (ob (gR g x0 13) fun r3 => (gd (chk g r3 102) <| gd (¬ ((dI d x0 12) < 0 ∨ gL g r3 ≤ (dI d x0 12).toNatClampNeg)) <| bd (sI d r3 (dI d x0 12).toNatClampNeg x1) fun d6 => (ob (gR g x0 14) fun r7 => (gd (chk g r7 102) <| gd (¬ ((dI d6 x0 12) < 0 ∨ gL g r7 ≤ (dI d6 x0 12).toNatClampNeg)) <| bd (sI d6 r7 (dI d6 x0 12).toNatClampNeg x2) fun d10 => (ob (gR g x0 15) fun r11 => (gd (chk g r11 105) <| gd (¬ ((dI d10 x0 12) < 0 ∨ gL g r11 ≤ (dI d10 x0 12).toNatClampNeg)) <| ob (gR g r11 (dI d10 x0 12).toNatClampNeg) fun r14 => (gd (chk g r14 2) <| cv (fX2_copyFrom N g r14 x3 d10) fun d16 => (bd (sI d16 x0 12 ((dI d16 x0 12) + 1)) fun d18 => (fX0_addChord_J51 N g x0 x1 x2 x3 d18)))))))))
set_option maxHeartbeats 4000000 in
set_option maxRecDepth 100000 in
theorem tX0_addChord_E {p : Program} {l : Launch} {e : Env} {s : State} {m : MethodId} {args : Array Value} {below : List Frame} {meth : Method} {c : Code} {D : va_G} {cy : Nat → ClassId} {B : Bs} (C : Cx p s m args c cX0_addChord 4 RX0 D cy B) (hr : meth.sig.returnType = none) (hlocks : meth.locks = false) {N : Nat} {g : Gs} {x0 : Nat} {x1 : Int32} {x2 : Int32} {x3 : Nat}  {dz : Ds} {d : Ds} (hf : fX0_addChord N g x0 x1 x2 x3 d = some ((), dz)) : WB p l e rmX0_addChord s m args below meth c 4 D cy B 0 0 (MQ below (QV D cy B g dz) args s 0 0 (wA B)) g d [(0, .ref (ad B x0)), (1, .int x1), (2, .int x2), (3, .ref (ad B x3))] 0 [] := by
  unfold fX0_addChord at hf
  refine b_aload_n C dX0_addChord_0 0 rfl rfl ?_
  obtain ⟨h1, hf⟩ := gd_s hf
  refine b_gI C dX0_addChord_1 fl_X0_77 h1 ?_
  refine b_iconst C (v := 4) dX0_addChord_4 (by decide) ?_
  refine b_icmp_ge C (tgt := 51) dX0_addChord_5 (by decide) (fun c2 => ?_) (fun c2 => ?_)
  · have hf := it_s c2 hf
    refine b_sub [(0, .ref (ad B x0)), (1, .int x1), (2, .int x2), (3, .ref (ad B x3))] [0, 1, 2, 3] rfl ?_
    exact tX0_addChord_51 C hr hlocks hf
  · have hf := if_s c2 hf
    refine b_aload_n C dX0_addChord_8 0 rfl rfl ?_
    obtain ⟨r3, er3, hf⟩ := ob_s hf
    refine b_gR C dX0_addChord_9 fl_X0_22 h1 er3 ?_
    refine b_aload_n C dX0_addChord_12 0 rfl rfl ?_
    refine b_gI C dX0_addChord_13 fl_X0_77 h1 ?_
    refine b_iload_n C dX0_addChord_16 1 rfl rfl ?_
    obtain ⟨h4, hf⟩ := gd_s hf
    obtain ⟨h5, hf⟩ := gd_s hf
    obtain ⟨d6, ed6, hf⟩ := bd_s hf
    refine b_iast C h4 h5 ed6 dX0_addChord_17 ?_
    refine b_aload_n C dX0_addChord_18 0 rfl rfl ?_
    obtain ⟨r7, er7, hf⟩ := ob_s hf
    refine b_gR C dX0_addChord_19 fl_X0_26 h1 er7 ?_
    refine b_aload_n C dX0_addChord_22 0 rfl rfl ?_
    refine b_gI C dX0_addChord_23 fl_X0_77 h1 ?_
    refine b_iload_n C dX0_addChord_26 2 rfl rfl ?_
    obtain ⟨h8, hf⟩ := gd_s hf
    obtain ⟨h9, hf⟩ := gd_s hf
    obtain ⟨d10, ed10, hf⟩ := bd_s hf
    refine b_iast C h8 h9 ed10 dX0_addChord_27 ?_
    refine b_aload_n C dX0_addChord_28 0 rfl rfl ?_
    obtain ⟨r11, er11, hf⟩ := ob_s hf
    refine b_gR C dX0_addChord_29 fl_X0_29 h1 er11 ?_
    refine b_aload_n C dX0_addChord_32 0 rfl rfl ?_
    refine b_gI C dX0_addChord_33 fl_X0_77 h1 ?_
    obtain ⟨h12, hf⟩ := gd_s hf
    obtain ⟨h13, hf⟩ := gd_s hf
    obtain ⟨r14, er14, hf⟩ := ob_s hf
    refine b_aaldD C (by exact h12) h13 er14 dX0_addChord_36 ?_
    refine b_aload_n C dX0_addChord_37 3 rfl rfl ?_
    obtain ⟨h15, hf⟩ := gd_s hf
    obtain ⟨d16, k17, hf⟩ := cv_s hf
    refine b_cVN C [] dX0_addChord_38 (kX2_copyFrom l D cy B k17) lv_X0_83 ⟨rfl, rfl, Nat.le_of_ble_eq_true rfl, Nat.le_of_ble_eq_true rfl⟩ h15 (by decide) rfl (Nat.le_of_ble_eq_true rfl) ⟨Nat.zero_le _, Nat.zero_le _⟩ rfl ?_
    refine b_aload_n C dX0_addChord_41 0 rfl rfl ?_
    refine b_dup C dX0_addChord_42 rfl ?_
    refine b_gI C dX0_addChord_43 fl_X0_77 h1 ?_
    refine b_iconst C (v := 1) dX0_addChord_46 (by decide) ?_
    refine b_iadd C dX0_addChord_47 ?_
    obtain ⟨d18, ed18, hf⟩ := bd_s hf
    refine b_pI C dX0_addChord_48 fl_X0_77 fp0_12 h1 ed18 ?_
    refine b_sub [(0, .ref (ad B x0)), (1, .int x1), (2, .int x2), (3, .ref (ad B x3))] [0, 1, 2, 3] rfl ?_
    exact tX0_addChord_51 C hr hlocks hf
theorem kX0_addChord (l : Launch) (D : va_G) (cy : Nat → ClassId) (B : Bs) {N : Nat} {g : Gs} {x0 : Nat} {x1 : Int32} {x2 : Int32} {x3 : Nat}  {dz : Ds} {d : Ds} (hf : fX0_addChord N g x0 x1 x2 x3 d = some ((), dz)) : Met l yX0_addChord (.code yX0_addChord cX0_addChord 4 none :: wl) rmX0_addChord (PC D cy B [.ref (ad B x0), .int x1, .int x2, .ref (ad B x3)] g d) (QV D cy B g dz) 0 0 (wA B) :=
  met_of (by decide +kernel) (Nat.le_of_ble_eq_true rfl) (fun p e s m args below meth c C hr hlocks _ => b_sub [(0, .ref (ad B x0)), (1, .int x1), (2, .int x2), (3, .ref (ad B x3))] [0, 1, 2, 3] rfl (tX0_addChord_E C hr hlocks hf))
/-! KeyMatrix$Board.chordOf(I)I -/
theorem dX0_chordOf_0 : decode cX0_chordOf 0 = .ok (.iconst 0, 1) := by decide +kernel
theorem dX0_chordOf_1 : decode cX0_chordOf 1 = .ok (.istore_n 2, 1) := by decide +kernel
theorem dX0_chordOf_2 : decode cX0_chordOf 2 = .ok (.iload_n 2, 1) := by decide +kernel
theorem dX0_chordOf_3 : decode cX0_chordOf 3 = .ok (.aload_n 0, 1) := by decide +kernel
theorem dX0_chordOf_4 : decode cX0_chordOf 4 = .ok (.getfield 77, 3) := by decide +kernel
theorem dX0_chordOf_7 : decode cX0_chordOf 7 = .ok (.if_icmp .ge 31, 3) := by decide +kernel
theorem dX0_chordOf_10 : decode cX0_chordOf 10 = .ok (.aload_n 0, 1) := by decide +kernel
theorem dX0_chordOf_11 : decode cX0_chordOf 11 = .ok (.getfield 22, 3) := by decide +kernel
theorem dX0_chordOf_14 : decode cX0_chordOf 14 = .ok (.iload_n 2, 1) := by decide +kernel
theorem dX0_chordOf_15 : decode cX0_chordOf 15 = .ok (.iaload, 1) := by decide +kernel
theorem dX0_chordOf_16 : decode cX0_chordOf 16 = .ok (.iload_n 1, 1) := by decide +kernel
theorem dX0_chordOf_17 : decode cX0_chordOf 17 = .ok (.if_icmp .eq 13, 3) := by decide +kernel
theorem dX0_chordOf_20 : decode cX0_chordOf 20 = .ok (.aload_n 0, 1) := by decide +kernel
theorem dX0_chordOf_21 : decode cX0_chordOf 21 = .ok (.getfield 26, 3) := by decide +kernel
theorem dX0_chordOf_24 : decode cX0_chordOf 24 = .ok (.iload_n 2, 1) := by decide +kernel
theorem dX0_chordOf_25 : decode cX0_chordOf 25 = .ok (.iaload, 1) := by decide +kernel
theorem dX0_chordOf_26 : decode cX0_chordOf 26 = .ok (.iload_n 1, 1) := by decide +kernel
theorem dX0_chordOf_27 : decode cX0_chordOf 27 = .ok (.if_icmp .ne 5, 3) := by decide +kernel
theorem dX0_chordOf_30 : decode cX0_chordOf 30 = .ok (.iload_n 2, 1) := by decide +kernel
theorem dX0_chordOf_31 : decode cX0_chordOf 31 = .ok (.ireturn, 1) := by decide +kernel
theorem dX0_chordOf_32 : decode cX0_chordOf 32 = .ok (.iinc 2 1, 3) := by decide +kernel
theorem dX0_chordOf_35 : decode cX0_chordOf 35 = .ok (.goto (-33), 3) := by decide +kernel
theorem dX0_chordOf_38 : decode cX0_chordOf 38 = .ok (.iconst (-1), 1) := by decide +kernel
theorem dX0_chordOf_39 : decode cX0_chordOf 39 = .ok (.ireturn, 1) := by decide +kernel
def rmX0_chordOf : Room := { frames := 0, cells := 0, slots := 0, locals := 0 }
set_option maxRecDepth 100000 in
def fX0_chordOf_J30 (N : Nat) (g : Gs) (x0 : Nat) (x1 : Int32) (y2 : Int32) (d : Ds) : Option (Int32 × Ds) := some (y2, d)
set_option maxHeartbeats 4000000 in
set_option maxRecDepth 100000 in
theorem tX0_chordOf_30 {p : Program} {l : Launch} {e : Env} {s : State} {m : MethodId} {args : Array Value} {below : List Frame} {meth : Method} {c : Code} {D : va_G} {cy : Nat → ClassId} {B : Bs} (C : Cx p s m args c cX0_chordOf 3 RX0 D cy B) (hr : meth.sig.returnType = (some .int)) (hlocks : meth.locks = false) {N : Nat} {g : Gs} {x0 : Nat} {x1 : Int32} {vz : Int32} {dz : Ds} {y2 : Int32} {d : Ds} (hf : fX0_chordOf_J30 N g x0 x1 y2 d = some (vz, dz)) : WB p l e rmX0_chordOf s m args below meth c 3 D cy B 0 0 (MQ below (QI D cy B vz g dz) args s 0 0 (wA B)) g d [(0, .ref (ad B x0)), (1, .int x1), (2, .int y2)] 30 [] := by
  unfold fX0_chordOf_J30 at hf
  refine b_iload_n C dX0_chordOf_30 2 rfl rfl ?_
  exact b_iret C hr hlocks hf dX0_chordOf_31
set_option maxRecDepth 100000 in
def fX0_chordOf_B2 (N : Nat) (g : Gs) (x0 : Nat) (x1 : Int32) (K2 : Int32 × Ds → Option (Int32 × Ds)) (y2 : Int32) (d : Ds) : Option (Int32 × Ds) := gd (chk g x0 0) <| if (dI d x0 12) ≤ y2 then (some ((-1), d)) else (ob (gR g x0 13) fun r3 => (gd (chk g r3 102) <| gd (¬ (y2 < 0 ∨ gL g r3 ≤ y2.toNatClampNeg)) <| if (dI d r3 y2.toNatClampNeg) = x1 then (fX0_chordOf_J30 N g x0 x1 y2 d) else (ob (gR g x0 14) fun r7 => (gd (chk g r7 102) <| gd (¬ (y2 < 0 ∨ gL g r7 ≤ y2.toNatClampNeg)) <| if (dI d r7 y2.toNatClampNeg) = x1 then (fX0_chordOf_J30 N g x0 x1 y2 d) else (bd (y2 + 1) fun u11 => (K2 (u11, d)))))))
set_option maxHeartbeats 4000000 in
set_option maxRecDepth 100000 in
theorem tX0_chordOf_2 {p : Program} {l : Launch} {e : Env} {s : State} {m : MethodId} {args : Array Value} {below : List Frame} {meth : Method} {c : Code} {D : va_G} {cy : Nat → ClassId} {B : Bs} (C : Cx p s m args c cX0_chordOf 3 RX0 D cy B) (hr : meth.sig.returnType = (some .int)) (hlocks : meth.locks = false) {N : Nat} {g : Gs} {x0 : Nat} {x1 : Int32} {vz : Int32} {dz : Ds} {K2 : Int32 × Ds → Option (Int32 × Ds)} (hK2 : ∀ a, K2 a = some (vz, dz) → WB p l e rmX0_chordOf s m args below meth c 3 D cy B 0 0 (MQ below (QI D cy B vz g dz) args s 0 0 (wA B)) g a.2 [(0, .ref (ad B x0)), (1, .int x1), (2, .int a.1)] 2 []) {y2 : Int32} {d : Ds} (hf : fX0_chordOf_B2 N g x0 x1 K2 y2 d = some (vz, dz)) : WB p l e rmX0_chordOf s m args below meth c 3 D cy B 0 0 (MQ below (QI D cy B vz g dz) args s 0 0 (wA B)) g d [(0, .ref (ad B x0)), (1, .int x1), (2, .int y2)] 2 [] := by
  unfold fX0_chordOf_B2 at hf
  refine b_iload_n C dX0_chordOf_2 2 rfl rfl ?_
  refine b_aload_n C dX0_chordOf_3 0 rfl rfl ?_
  obtain ⟨h1, hf⟩ := gd_s hf
  refine b_gI C dX0_chordOf_4 fl_X0_77 h1 ?_
  refine b_icmp_ge C (tgt := 38) dX0_chordOf_7 (by decide) (fun c2 => ?_) (fun c2 => ?_)
  · have hf := it_s c2 hf
    refine b_iconst C (v := (-1)) dX0_chordOf_38 (by decide) ?_
    exact b_iret C hr hlocks hf dX0_chordOf_39
  · have hf := if_s c2 hf
    refine b_aload_n C dX0_chordOf_10 0 rfl rfl ?_
    obtain ⟨r3, er3, hf⟩ := ob_s hf
    refine b_gR C dX0_chordOf_11 fl_X0_22 h1 er3 ?_
    refine b_iload_n C dX0_chordOf_14 2 rfl rfl ?_
    obtain ⟨h4, hf⟩ := gd_s hf
    obtain ⟨h5, hf⟩ := gd_s hf
    refine b_iald C h4 h5 dX0_chordOf_15 ?_
    refine b_iload_n C dX0_chordOf_16 1 rfl rfl ?_
    refine b_icmp_eq C (tgt := 30) dX0_chordOf_17 (by decide) (fun c6 => ?_) (fun c6 => ?_)
    · have hf := it_s c6 hf
      refine b_sub [(0, .ref (ad B x0)), (1, .int x1), (2, .int y2)] [0, 1, 2] rfl ?_
      exact tX0_chordOf_30 C hr hlocks hf
    · have hf := if_s c6 hf
      refine b_aload_n C dX0_chordOf_20 0 rfl rfl ?_
      obtain ⟨r7, er7, hf⟩ := ob_s hf
      refine b_gR C dX0_chordOf_21 fl_X0_26 h1 er7 ?_
      refine b_iload_n C dX0_chordOf_24 2 rfl rfl ?_
      obtain ⟨h8, hf⟩ := gd_s hf
      obtain ⟨h9, hf⟩ := gd_s hf
      refine b_iald C h8 h9 dX0_chordOf_25 ?_
      refine b_iload_n C dX0_chordOf_26 1 rfl rfl ?_
      refine b_icmp_ne C (tgt := 32) dX0_chordOf_27 (by decide) (fun c10 => ?_) (fun c10 => ?_)
      · have hf := if_s c10 hf
        obtain ⟨u11, eu11, hf⟩ := bd_s hf
        refine b_iinc C dX0_chordOf_32 2 rfl (by rw [eu11]; rfl) [(2, .int u11), (0, .ref (ad B x0)), (1, .int x1)] (by decide) rfl ?_
        refine b_goto C (tgt := 2) dX0_chordOf_35 (by decide) ?_
        refine b_sub [(0, .ref (ad B x0)), (1, .int x1), (2, .int u11)] [1, 2, 0] rfl ?_
        exact hK2 (u11, d) hf
      · have hf := it_s c10 hf
        refine b_sub [(0, .ref (ad B x0)), (1, .int x1), (2, .int y2)] [0, 1, 2] rfl ?_
        exact tX0_chordOf_30 C hr hlocks hf
def fX0_chordOf_L2 (N : Nat) (g : Gs) (x0 : Nat) (x1 : Int32) : Int32 × Ds → Option (Int32 × Ds) := lp (fun K2 a => fX0_chordOf_B2 N g x0 x1 K2 a.1 a.2) N
theorem tX0_chordOf_L2 {p : Program} {l : Launch} {e : Env} {s : State} {m : MethodId} {args : Array Value} {below : List Frame} {meth : Method} {c : Code} {D : va_G} {cy : Nat → ClassId} {B : Bs} (C : Cx p s m args c cX0_chordOf 3 RX0 D cy B) (hr : meth.sig.returnType = (some .int)) (hlocks : meth.locks = false) {N : Nat} {g : Gs} {x0 : Nat} {x1 : Int32} {vz : Int32} {dz : Ds} (a : Int32 × Ds) (hf : fX0_chordOf_L2 N g x0 x1 a = some (vz, dz)) : WB p l e rmX0_chordOf s m args below meth c 3 D cy B 0 0 (MQ below (QI D cy B vz g dz) args s 0 0 (wA B)) g a.2 [(0, .ref (ad B x0)), (1, .int x1), (2, .int a.1)] 2 [] :=
  lp_w (fun K2 hK2 a ha => tX0_chordOf_2 C hr hlocks hK2 ha) N a hf
set_option maxRecDepth 100000 in
def fX0_chordOf (N : Nat) (g : Gs) (x0 : Nat) (x1 : Int32) (d : Ds) : Option (Int32 × Ds) := fX0_chordOf_L2 N g x0 x1 (0, d)
set_option maxHeartbeats 4000000 in
set_option maxRecDepth 100000 in
theorem tX0_chordOf_E {p : Program} {l : Launch} {e : Env} {s : State} {m : MethodId} {args : Array Value} {below : List Frame} {meth : Method} {c : Code} {D : va_G} {cy : Nat → ClassId} {B : Bs} (C : Cx p s m args c cX0_chordOf 3 RX0 D cy B) (hr : meth.sig.returnType = (some .int)) (hlocks : meth.locks = false) {N : Nat} {g : Gs} {x0 : Nat} {x1 : Int32} {vz : Int32} {dz : Ds} {d : Ds} (hf : fX0_chordOf N g x0 x1 d = some (vz, dz)) : WB p l e rmX0_chordOf s m args below meth c 3 D cy B 0 0 (MQ below (QI D cy B vz g dz) args s 0 0 (wA B)) g d [(0, .ref (ad B x0)), (1, .int x1)] 0 [] := by
  unfold fX0_chordOf at hf
  refine b_iconst C (v := 0) dX0_chordOf_0 (by decide) ?_
  refine b_istore_n C dX0_chordOf_1 rfl [(2, .int 0), (0, .ref (ad B x0)), (1, .int x1)] (by decide) rfl ?_
  refine b_sub [(0, .ref (ad B x0)), (1, .int x1), (2, .int 0)] [1, 2, 0] rfl ?_
  exact tX0_chordOf_L2 C hr hlocks (0, d) hf
theorem kX0_chordOf (l : Launch) (D : va_G) (cy : Nat → ClassId) (B : Bs) {N : Nat} {g : Gs} {x0 : Nat} {x1 : Int32} {vz : Int32} {dz : Ds} {d : Ds} (hf : fX0_chordOf N g x0 x1 d = some (vz, dz)) : Met l yX0_chordOf (.code yX0_chordOf cX0_chordOf 3 (some .int) :: wl) rmX0_chordOf (PC D cy B [.ref (ad B x0), .int x1] g d) (QI D cy B vz g dz) 0 0 (wA B) :=
  met_of (by decide +kernel) (Nat.le_of_ble_eq_true rfl) (fun p e s m args below meth c C hr hlocks _ => b_sub [(0, .ref (ad B x0)), (1, .int x1)] [0, 1] rfl (tX0_chordOf_E C hr hlocks hf))
/-! KeyMatrix$Board.chordDeed(I)LKeyMatrix$Deed; -/
theorem dX0_chordDeed_0 : decode cX0_chordDeed 0 = .ok (.iload_n 1, 1) := by decide +kernel
theorem dX0_chordDeed_1 : decode cX0_chordDeed 1 = .ok (.ifCond .lt 11, 3) := by decide +kernel
theorem dX0_chordDeed_4 : decode cX0_chordDeed 4 = .ok (.iload_n 1, 1) := by decide +kernel
theorem dX0_chordDeed_5 : decode cX0_chordDeed 5 = .ok (.aload_n 0, 1) := by decide +kernel
theorem dX0_chordDeed_6 : decode cX0_chordDeed 6 = .ok (.getfield 77, 3) := by decide +kernel
theorem dX0_chordDeed_9 : decode cX0_chordDeed 9 = .ok (.if_icmp .lt 10, 3) := by decide +kernel
theorem dX0_chordDeed_12 : decode cX0_chordDeed 12 = .ok (.aload_n 0, 1) := by decide +kernel
theorem dX0_chordDeed_13 : decode cX0_chordDeed 13 = .ok (.getfield 18, 3) := by decide +kernel
theorem dX0_chordDeed_16 : decode cX0_chordDeed 16 = .ok (.goto 9, 3) := by decide +kernel
theorem dX0_chordDeed_19 : decode cX0_chordDeed 19 = .ok (.aload_n 0, 1) := by decide +kernel
theorem dX0_chordDeed_20 : decode cX0_chordDeed 20 = .ok (.getfield 29, 3) := by decide +kernel
theorem dX0_chordDeed_23 : decode cX0_chordDeed 23 = .ok (.iload_n 1, 1) := by decide +kernel
theorem dX0_chordDeed_24 : decode cX0_chordDeed 24 = .ok (.aaload, 1) := by decide +kernel
theorem dX0_chordDeed_25 : decode cX0_chordDeed 25 = .ok (.areturn, 1) := by decide +kernel
def rmX0_chordDeed : Room := { frames := 0, cells := 0, slots := 0, locals := 0 }
set_option maxRecDepth 100000 in
def fX0_chordDeed_J25 (N : Nat) (g : Gs) (x0 : Nat) (x1 : Int32) (z0 : Nat) (d : Ds) : Option (Nat × Ds) := some (z0, d)
set_option maxHeartbeats 4000000 in
set_option maxRecDepth 100000 in
theorem tX0_chordDeed_25 {p : Program} {l : Launch} {e : Env} {s : State} {m : MethodId} {args : Array Value} {below : List Frame} {meth : Method} {c : Code} {D : va_G} {cy : Nat → ClassId} {B : Bs} (C : Cx p s m args c cX0_chordDeed 2 RX0 D cy B) (hr : meth.sig.returnType = (some (.object "KeyMatrix$Deed"))) (hlocks : meth.locks = false) {N : Nat} {g : Gs} {x0 : Nat} {x1 : Int32} {vz : Nat} {dz : Ds} {z0 : Nat} {d : Ds} (hf : fX0_chordDeed_J25 N g x0 x1 z0 d = some (vz, dz)) : WB p l e rmX0_chordDeed s m args below meth c 2 D cy B 0 0 (MQ below (QR D cy B vz g dz) args s 0 0 (wA B)) g d [(0, .ref (ad B x0)), (1, .int x1)] 25 [.ref (ad B z0)] := by
  unfold fX0_chordDeed_J25 at hf
  exact b_aret C hr hlocks hf dX0_chordDeed_25
set_option maxRecDepth 100000 in
def fX0_chordDeed_J12 (N : Nat) (g : Gs) (x0 : Nat) (x1 : Int32) (d : Ds) : Option (Nat × Ds) := gd (chk g x0 0) <| ob (gR g x0 11) fun r3 => (fX0_chordDeed_J25 N g x0 x1 r3 d)
set_option maxHeartbeats 4000000 in
set_option maxRecDepth 100000 in
theorem tX0_chordDeed_12 {p : Program} {l : Launch} {e : Env} {s : State} {m : MethodId} {args : Array Value} {below : List Frame} {meth : Method} {c : Code} {D : va_G} {cy : Nat → ClassId} {B : Bs} (C : Cx p s m args c cX0_chordDeed 2 RX0 D cy B) (hr : meth.sig.returnType = (some (.object "KeyMatrix$Deed"))) (hlocks : meth.locks = false) {N : Nat} {g : Gs} {x0 : Nat} {x1 : Int32} {vz : Nat} {dz : Ds} {d : Ds} (hf : fX0_chordDeed_J12 N g x0 x1 d = some (vz, dz)) : WB p l e rmX0_chordDeed s m args below meth c 2 D cy B 0 0 (MQ below (QR D cy B vz g dz) args s 0 0 (wA B)) g d [(0, .ref (ad B x0)), (1, .int x1)] 12 [] := by
  unfold fX0_chordDeed_J12 at hf
  refine b_aload_n C dX0_chordDeed_12 0 rfl rfl ?_
  obtain ⟨h2, hf⟩ := gd_s hf
  obtain ⟨r3, er3, hf⟩ := ob_s hf
  refine b_gR C dX0_chordDeed_13 fl_X0_18 h2 er3 ?_
  refine b_goto C (tgt := 25) dX0_chordDeed_16 (by decide) ?_
  refine b_sub [(0, .ref (ad B x0)), (1, .int x1)] [0, 1] rfl ?_
  exact tX0_chordDeed_25 C hr hlocks hf
set_option maxRecDepth 100000 in
def fX0_chordDeed (N : Nat) (g : Gs) (x0 : Nat) (x1 : Int32) (d : Ds) : Option (Nat × Ds) := if x1 < 0 then (fX0_chordDeed_J12 N g x0 x1 d) else (gd (chk g x0 0) <| if x1 < (dI d x0 12) then (ob (gR g x0 15) fun r6 => (gd (chk g r6 105) <| gd (¬ (x1 < 0 ∨ gL g r6 ≤ x1.toNatClampNeg)) <| ob (gR g r6 x1.toNatClampNeg) fun r9 => (fX0_chordDeed_J25 N g x0 x1 r9 d))) else (fX0_chordDeed_J12 N g x0 x1 d))
set_option maxHeartbeats 4000000 in
set_option maxRecDepth 100000 in
theorem tX0_chordDeed_E {p : Program} {l : Launch} {e : Env} {s : State} {m : MethodId} {args : Array Value} {below : List Frame} {meth : Method} {c : Code} {D : va_G} {cy : Nat → ClassId} {B : Bs} (C : Cx p s m args c cX0_chordDeed 2 RX0 D cy B) (hr : meth.sig.returnType = (some (.object "KeyMatrix$Deed"))) (hlocks : meth.locks = false) {N : Nat} {g : Gs} {x0 : Nat} {x1 : Int32} {vz : Nat} {dz : Ds} {d : Ds} (hf : fX0_chordDeed N g x0 x1 d = some (vz, dz)) : WB p l e rmX0_chordDeed s m args below meth c 2 D cy B 0 0 (MQ below (QR D cy B vz g dz) args s 0 0 (wA B)) g d [(0, .ref (ad B x0)), (1, .int x1)] 0 [] := by
  unfold fX0_chordDeed at hf
  refine b_iload_n C dX0_chordDeed_0 1 rfl rfl ?_
  refine b_if_lt C (tgt := 12) dX0_chordDeed_1 (by decide) (fun c1 => ?_) (fun c1 => ?_)
  · have hf := it_s c1 hf
    refine b_sub [(0, .ref (ad B x0)), (1, .int x1)] [0, 1] rfl ?_
    exact tX0_chordDeed_12 C hr hlocks hf
  · have hf := if_s c1 hf
    refine b_iload_n C dX0_chordDeed_4 1 rfl rfl ?_
    refine b_aload_n C dX0_chordDeed_5 0 rfl rfl ?_
    obtain ⟨h4, hf⟩ := gd_s hf
    refine b_gI C dX0_chordDeed_6 fl_X0_77 h4 ?_
    refine b_icmp_lt C (tgt := 19) dX0_chordDeed_9 (by decide) (fun c5 => ?_) (fun c5 => ?_)
    · have hf := it_s c5 hf
      refine b_aload_n C dX0_chordDeed_19 0 rfl rfl ?_
      obtain ⟨r6, er6, hf⟩ := ob_s hf
      refine b_gR C dX0_chordDeed_20 fl_X0_29 h4 er6 ?_
      refine b_iload_n C dX0_chordDeed_23 1 rfl rfl ?_
      obtain ⟨h7, hf⟩ := gd_s hf
      obtain ⟨h8, hf⟩ := gd_s hf
      obtain ⟨r9, er9, hf⟩ := ob_s hf
      refine b_aaldD C (by exact h7) h8 er9 dX0_chordDeed_24 ?_
      refine b_sub [(0, .ref (ad B x0)), (1, .int x1)] [0, 1] rfl ?_
      exact tX0_chordDeed_25 C hr hlocks hf
    · have hf := if_s c5 hf
      refine b_sub [(0, .ref (ad B x0)), (1, .int x1)] [0, 1] rfl ?_
      exact tX0_chordDeed_12 C hr hlocks hf
theorem kX0_chordDeed (l : Launch) (D : va_G) (cy : Nat → ClassId) (B : Bs) {N : Nat} {g : Gs} {x0 : Nat} {x1 : Int32} {vz : Nat} {dz : Ds} {d : Ds} (hf : fX0_chordDeed N g x0 x1 d = some (vz, dz)) : Met l yX0_chordDeed (.code yX0_chordDeed cX0_chordDeed 2 (some (.object "KeyMatrix$Deed")) :: wl) rmX0_chordDeed (PC D cy B [.ref (ad B x0), .int x1] g d) (QR D cy B vz g dz) 0 0 (wA B) :=
  met_of (by decide +kernel) (Nat.le_of_ble_eq_true rfl) (fun p e s m args below meth c C hr hlocks _ => b_sub [(0, .ref (ad B x0)), (1, .int x1)] [0, 1] rfl (tX0_chordDeed_E C hr hlocks hf))
/-! KeyMatrix$Board.addMacroCode(I)V -/
theorem dX0_addMacroCode_0 : decode cX0_addMacroCode 0 = .ok (.aload_n 0, 1) := by decide +kernel
theorem dX0_addMacroCode_1 : decode cX0_addMacroCode 1 = .ok (.getfield 80, 3) := by decide +kernel
theorem dX0_addMacroCode_4 : decode cX0_addMacroCode 4 = .ok (.iconst 1, 1) := by decide +kernel
theorem dX0_addMacroCode_5 : decode cX0_addMacroCode 5 = .ok (.isub, 1) := by decide +kernel
theorem dX0_addMacroCode_6 : decode cX0_addMacroCode 6 = .ok (.istore_n 2, 1) := by decide +kernel
theorem dX0_addMacroCode_7 : decode cX0_addMacroCode 7 = .ok (.iload_n 2, 1) := by decide +kernel
theorem dX0_addMacroCode_8 : decode cX0_addMacroCode 8 = .ok (.ifCond .lt 41, 3) := by decide +kernel
theorem dX0_addMacroCode_11 : decode cX0_addMacroCode 11 = .ok (.aload_n 0, 1) := by decide +kernel
theorem dX0_addMacroCode_12 : decode cX0_addMacroCode 12 = .ok (.getfield 32, 3) := by decide +kernel
theorem dX0_addMacroCode_15 : decode cX0_addMacroCode 15 = .ok (.iload_n 2, 1) := by decide +kernel
theorem dX0_addMacroCode_16 : decode cX0_addMacroCode 16 = .ok (.iaload, 1) := by decide +kernel
theorem dX0_addMacroCode_17 : decode cX0_addMacroCode 17 = .ok (.bipush 8, 2) := by decide +kernel
theorem dX0_addMacroCode_19 : decode cX0_addMacroCode 19 = .ok (.if_icmp .ge 30, 3) := by decide +kernel
theorem dX0_addMacroCode_22 : decode cX0_addMacroCode 22 = .ok (.aload_n 0, 1) := by decide +kernel
theorem dX0_addMacroCode_23 : decode cX0_addMacroCode 23 = .ok (.getfield 35, 3) := by decide +kernel
theorem dX0_addMacroCode_26 : decode cX0_addMacroCode 26 = .ok (.iload_n 2, 1) := by decide +kernel
theorem dX0_addMacroCode_27 : decode cX0_addMacroCode 27 = .ok (.bipush 8, 2) := by decide +kernel
theorem dX0_addMacroCode_29 : decode cX0_addMacroCode 29 = .ok (.imul, 1) := by decide +kernel
theorem dX0_addMacroCode_30 : decode cX0_addMacroCode 30 = .ok (.aload_n 0, 1) := by decide +kernel
theorem dX0_addMacroCode_31 : decode cX0_addMacroCode 31 = .ok (.getfield 32, 3) := by decide +kernel
theorem dX0_addMacroCode_34 : decode cX0_addMacroCode 34 = .ok (.iload_n 2, 1) := by decide +kernel
theorem dX0_addMacroCode_35 : decode cX0_addMacroCode 35 = .ok (.iaload, 1) := by decide +kernel
theorem dX0_addMacroCode_36 : decode cX0_addMacroCode 36 = .ok (.iadd, 1) := by decide +kernel
theorem dX0_addMacroCode_37 : decode cX0_addMacroCode 37 = .ok (.iload_n 1, 1) := by decide +kernel
theorem dX0_addMacroCode_38 : decode cX0_addMacroCode 38 = .ok (.iastore, 1) := by decide +kernel
theorem dX0_addMacroCode_39 : decode cX0_addMacroCode 39 = .ok (.aload_n 0, 1) := by decide +kernel
theorem dX0_addMacroCode_40 : decode cX0_addMacroCode 40 = .ok (.getfield 32, 3) := by decide +kernel
theorem dX0_addMacroCode_43 : decode cX0_addMacroCode 43 = .ok (.iload_n 2, 1) := by decide +kernel
theorem dX0_addMacroCode_44 : decode cX0_addMacroCode 44 = .ok (.dup2, 1) := by decide +kernel
theorem dX0_addMacroCode_45 : decode cX0_addMacroCode 45 = .ok (.iaload, 1) := by decide +kernel
theorem dX0_addMacroCode_46 : decode cX0_addMacroCode 46 = .ok (.iconst 1, 1) := by decide +kernel
theorem dX0_addMacroCode_47 : decode cX0_addMacroCode 47 = .ok (.iadd, 1) := by decide +kernel
theorem dX0_addMacroCode_48 : decode cX0_addMacroCode 48 = .ok (.iastore, 1) := by decide +kernel
theorem dX0_addMacroCode_49 : decode cX0_addMacroCode 49 = .ok (.return_, 1) := by decide +kernel
def rmX0_addMacroCode : Room := { frames := 0, cells := 0, slots := 0, locals := 0 }
set_option maxRecDepth 100000 in
def fX0_addMacroCode_J49 (N : Nat) (g : Gs) (x0 : Nat) (x1 : Int32) (d : Ds) : Option (Unit × Ds) := some ((), d)
set_option maxHeartbeats 4000000 in
set_option maxRecDepth 100000 in
theorem tX0_addMacroCode_49 {p : Program} {l : Launch} {e : Env} {s : State} {m : MethodId} {args : Array Value} {below : List Frame} {meth : Method} {c : Code} {D : va_G} {cy : Nat → ClassId} {B : Bs} (C : Cx p s m args c cX0_addMacroCode 3 RX0 D cy B) (hr : meth.sig.returnType = none) (hlocks : meth.locks = false) {N : Nat} {g : Gs} {x0 : Nat} {x1 : Int32}  {dz : Ds} {d : Ds} (hf : fX0_addMacroCode_J49 N g x0 x1 d = some ((), dz)) : WB p l e rmX0_addMacroCode s m args below meth c 3 D cy B 0 0 (MQ below (QV D cy B g dz) args s 0 0 (wA B)) g d [(0, .ref (ad B x0)), (1, .int x1)] 49 [] := by
  unfold fX0_addMacroCode_J49 at hf
  exact b_vret C hr hlocks hf dX0_addMacroCode_49
set_option maxRecDepth 100000 in
def fX0_addMacroCode (N : Nat) (g : Gs) (x0 : Nat) (x1 : Int32) (d : Ds) : Option (Unit × Ds) := gd (chk g x0 0) <| bd (((dI d x0 16) - 1)) fun u2 => (if u2 < 0 then (fX0_addMacroCode_J49 N g x0 x1 d) else (ob (gR g x0 17) fun r4 => (gd (chk g r4 102) <| gd (¬ (u2 < 0 ∨ gL g r4 ≤ u2.toNatClampNeg)) <| if (8 : Int32) ≤ (dI d r4 u2.toNatClampNeg) then (fX0_addMacroCode_J49 N g x0 x1 d) else (ob (gR g x0 18) fun r8 => (gd (chk g r8 102) <| gd (¬ (((u2 * 8) + (dI d r4 u2.toNatClampNeg)) < 0 ∨ gL g r8 ≤ ((u2 * 8) + (dI d r4 u2.toNatClampNeg)).toNatClampNeg)) <| bd (sI d r8 ((u2 * 8) + (dI d r4 u2.toNatClampNeg)).toNatClampNeg x1) fun d11 => (bd (sI d11 r4 u2.toNatClampNeg ((dI d11 r4 u2.toNatClampNeg) + 1)) fun d12 => (fX0_addMacroCode_J49 N g x0 x1 d12)))))))
set_option maxHeartbeats 4000000 in
set_option maxRecDepth 100000 in
theorem tX0_addMacroCode_E {p : Program} {l : Launch} {e : Env} {s : State} {m : MethodId} {args : Array Value} {below : List Frame} {meth : Method} {c : Code} {D : va_G} {cy : Nat → ClassId} {B : Bs} (C : Cx p s m args c cX0_addMacroCode 3 RX0 D cy B) (hr : meth.sig.returnType = none) (hlocks : meth.locks = false) {N : Nat} {g : Gs} {x0 : Nat} {x1 : Int32}  {dz : Ds} {d : Ds} (hf : fX0_addMacroCode N g x0 x1 d = some ((), dz)) : WB p l e rmX0_addMacroCode s m args below meth c 3 D cy B 0 0 (MQ below (QV D cy B g dz) args s 0 0 (wA B)) g d [(0, .ref (ad B x0)), (1, .int x1)] 0 [] := by
  unfold fX0_addMacroCode at hf
  refine b_aload_n C dX0_addMacroCode_0 0 rfl rfl ?_
  obtain ⟨h1, hf⟩ := gd_s hf
  refine b_gI C dX0_addMacroCode_1 fl_X0_80 h1 ?_
  refine b_iconst C (v := 1) dX0_addMacroCode_4 (by decide) ?_
  refine b_isub C dX0_addMacroCode_5 ?_
  obtain ⟨u2, eu2, hf⟩ := bd_s hf
  refine b_topI eu2 ?_
  refine b_istore_n C dX0_addMacroCode_6 rfl [(2, .int u2), (0, .ref (ad B x0)), (1, .int x1)] (by decide) rfl ?_
  refine b_iload_n C dX0_addMacroCode_7 0 rfl rfl ?_
  refine b_if_lt C (tgt := 49) dX0_addMacroCode_8 (by decide) (fun c3 => ?_) (fun c3 => ?_)
  · have hf := it_s c3 hf
    refine b_sub [(0, .ref (ad B x0)), (1, .int x1)] [1, 2] rfl ?_
    exact tX0_addMacroCode_49 C hr hlocks hf
  · have hf := if_s c3 hf
    refine b_aload_n C dX0_addMacroCode_11 1 rfl rfl ?_
    obtain ⟨r4, er4, hf⟩ := ob_s hf
    refine b_gR C dX0_addMacroCode_12 fl_X0_32 h1 er4 ?_
    refine b_iload_n C dX0_addMacroCode_15 0 rfl rfl ?_
    obtain ⟨h5, hf⟩ := gd_s hf
    obtain ⟨h6, hf⟩ := gd_s hf
    refine b_iald C h5 h6 dX0_addMacroCode_16 ?_
    refine b_bipush C (v := 8) dX0_addMacroCode_17 (by decide) ?_
    refine b_icmp_ge C (tgt := 49) dX0_addMacroCode_19 (by decide) (fun c7 => ?_) (fun c7 => ?_)
    · have hf := it_s c7 hf
      refine b_sub [(0, .ref (ad B x0)), (1, .int x1)] [1, 2] rfl ?_
      exact tX0_addMacroCode_49 C hr hlocks hf
    · have hf := if_s c7 hf
      refine b_aload_n C dX0_addMacroCode_22 1 rfl rfl ?_
      obtain ⟨r8, er8, hf⟩ := ob_s hf
      refine b_gR C dX0_addMacroCode_23 fl_X0_35 h1 er8 ?_
      refine b_iload_n C dX0_addMacroCode_26 0 rfl rfl ?_
      refine b_bipush C (v := 8) dX0_addMacroCode_27 (by decide) ?_
      refine b_imul C dX0_addMacroCode_29 ?_
      refine b_aload_n C dX0_addMacroCode_30 1 rfl rfl ?_
      refine b_gR C dX0_addMacroCode_31 fl_X0_32 h1 er4 ?_
      refine b_iload_n C dX0_addMacroCode_34 0 rfl rfl ?_
      refine b_iald C h5 h6 dX0_addMacroCode_35 ?_
      refine b_iadd C dX0_addMacroCode_36 ?_
      refine b_iload_n C dX0_addMacroCode_37 2 rfl rfl ?_
      obtain ⟨h9, hf⟩ := gd_s hf
      obtain ⟨h10, hf⟩ := gd_s hf
      obtain ⟨d11, ed11, hf⟩ := bd_s hf
      refine b_iast C h9 h10 ed11 dX0_addMacroCode_38 ?_
      refine b_aload_n C dX0_addMacroCode_39 1 rfl rfl ?_
      refine b_gR C dX0_addMacroCode_40 fl_X0_32 h1 er4 ?_
      refine b_iload_n C dX0_addMacroCode_43 0 rfl rfl ?_
      refine b_dup2 C dX0_addMacroCode_44 rfl rfl ?_
      refine b_iald C h5 h6 dX0_addMacroCode_45 ?_
      refine b_iconst C (v := 1) dX0_addMacroCode_46 (by decide) ?_
      refine b_iadd C dX0_addMacroCode_47 ?_
      obtain ⟨d12, ed12, hf⟩ := bd_s hf
      refine b_iast C h5 h6 ed12 dX0_addMacroCode_48 ?_
      refine b_sub [(0, .ref (ad B x0)), (1, .int x1)] [1, 2] rfl ?_
      exact tX0_addMacroCode_49 C hr hlocks hf
theorem kX0_addMacroCode (l : Launch) (D : va_G) (cy : Nat → ClassId) (B : Bs) {N : Nat} {g : Gs} {x0 : Nat} {x1 : Int32}  {dz : Ds} {d : Ds} (hf : fX0_addMacroCode N g x0 x1 d = some ((), dz)) : Met l yX0_addMacroCode (.code yX0_addMacroCode cX0_addMacroCode 3 none :: wl) rmX0_addMacroCode (PC D cy B [.ref (ad B x0), .int x1] g d) (QV D cy B g dz) 0 0 (wA B) :=
  met_of (by decide +kernel) (Nat.le_of_ble_eq_true rfl) (fun p e s m args below meth c C hr hlocks _ => b_sub [(0, .ref (ad B x0)), (1, .int x1)] [0, 1] rfl (tX0_addMacroCode_E C hr hlocks hf))
/-! KeyMatrix$Board.addMacro(I)V -/
theorem yo_X0_addMacroCode : yX0_addMacroCode.cls ≠ "java/lang/invoke/MethodHandle" ∧ yX0_addMacroCode.cls ≠ "java/lang/invoke/VarHandle" ∧ (parseMethodDescriptor yX0_addMacroCode.desc).map (fun d => d.parameters.length) = some 1 := by decide +kernel
theorem co_X0_addMacroCode : Cond.code yX0_addMacroCode cX0_addMacroCode 3 none ∈ wl := mW (mT3 (List.mem_of_getElem? (i := 231) (by decide +kernel))) rfl
theorem in_X0_addMacroCode : Cond.initialized yX0_addMacroCode.cls ∈ wl := mW (mT1 (List.mem_of_getElem? (i := 5) (by decide +kernel))) rfl
theorem im_X0_addMacroCode : Cond.instanceMethod yX0_addMacroCode ∈ wl := mW (mT3 (List.mem_of_getElem? (i := 229) (by decide +kernel))) rfl
theorem se_X0_addMacroCode : Cond.selects yX0_addMacroCode.cls yX0_addMacroCode yX0_addMacroCode ∈ wl := mW (mT3 (List.mem_of_getElem? (i := 230) (by decide +kernel))) rfl
theorem lv_X0_108 : LV RX0 108 yX0_addMacroCode cX0_addMacroCode 3 none 1 0 := ⟨⟨(RX0, TX0, 19), rfl, rfl⟩, yo_X0_addMacroCode, mW (mT3 (List.mem_of_getElem? (i := 228) (by decide +kernel))) rfl, im_X0_addMacroCode, se_X0_addMacroCode, in_X0_addMacroCode, co_X0_addMacroCode⟩
theorem dX0_addMacro_0 : decode cX0_addMacro 0 = .ok (.aload_n 0, 1) := by decide +kernel
theorem dX0_addMacro_1 : decode cX0_addMacro 1 = .ok (.getfield 80, 3) := by decide +kernel
theorem dX0_addMacro_4 : decode cX0_addMacro 4 = .ok (.iconst 4, 1) := by decide +kernel
theorem dX0_addMacro_5 : decode cX0_addMacro 5 = .ok (.if_icmp .ge 28, 3) := by decide +kernel
theorem dX0_addMacro_8 : decode cX0_addMacro 8 = .ok (.aload_n 0, 1) := by decide +kernel
theorem dX0_addMacro_9 : decode cX0_addMacro 9 = .ok (.getfield 32, 3) := by decide +kernel
theorem dX0_addMacro_12 : decode cX0_addMacro 12 = .ok (.aload_n 0, 1) := by decide +kernel
theorem dX0_addMacro_13 : decode cX0_addMacro 13 = .ok (.getfield 80, 3) := by decide +kernel
theorem dX0_addMacro_16 : decode cX0_addMacro 16 = .ok (.iconst 0, 1) := by decide +kernel
theorem dX0_addMacro_17 : decode cX0_addMacro 17 = .ok (.iastore, 1) := by decide +kernel
theorem dX0_addMacro_18 : decode cX0_addMacro 18 = .ok (.aload_n 0, 1) := by decide +kernel
theorem dX0_addMacro_19 : decode cX0_addMacro 19 = .ok (.dup, 1) := by decide +kernel
theorem dX0_addMacro_20 : decode cX0_addMacro 20 = .ok (.getfield 80, 3) := by decide +kernel
theorem dX0_addMacro_23 : decode cX0_addMacro 23 = .ok (.iconst 1, 1) := by decide +kernel
theorem dX0_addMacro_24 : decode cX0_addMacro 24 = .ok (.iadd, 1) := by decide +kernel
theorem dX0_addMacro_25 : decode cX0_addMacro 25 = .ok (.putfield 80, 3) := by decide +kernel
theorem dX0_addMacro_28 : decode cX0_addMacro 28 = .ok (.aload_n 0, 1) := by decide +kernel
theorem dX0_addMacro_29 : decode cX0_addMacro 29 = .ok (.iload_n 1, 1) := by decide +kernel
theorem dX0_addMacro_30 : decode cX0_addMacro 30 = .ok (.invokevirtual 108, 3) := by decide +kernel
theorem dX0_addMacro_33 : decode cX0_addMacro 33 = .ok (.return_, 1) := by decide +kernel
def rmX0_addMacro : Room := { frames := 1, cells := 0, slots := 0, locals := 22 }
set_option maxRecDepth 100000 in
def fX0_addMacro_J33 (N : Nat) (g : Gs) (x0 : Nat) (x1 : Int32) (d : Ds) : Option (Unit × Ds) := some ((), d)
set_option maxHeartbeats 4000000 in
set_option maxRecDepth 100000 in
theorem tX0_addMacro_33 {p : Program} {l : Launch} {e : Env} {s : State} {m : MethodId} {args : Array Value} {below : List Frame} {meth : Method} {c : Code} {D : va_G} {cy : Nat → ClassId} {B : Bs} (C : Cx p s m args c cX0_addMacro 2 RX0 D cy B) (hr : meth.sig.returnType = none) (hlocks : meth.locks = false) {N : Nat} {g : Gs} {x0 : Nat} {x1 : Int32}  {dz : Ds} {d : Ds} (hf : fX0_addMacro_J33 N g x0 x1 d = some ((), dz)) : WB p l e rmX0_addMacro s m args below meth c 2 D cy B 0 0 (MQ below (QV D cy B g dz) args s 0 0 (wA B)) g d [(0, .ref (ad B x0)), (1, .int x1)] 33 [] := by
  unfold fX0_addMacro_J33 at hf
  exact b_vret C hr hlocks hf dX0_addMacro_33
set_option maxRecDepth 100000 in
def fX0_addMacro (N : Nat) (g : Gs) (x0 : Nat) (x1 : Int32) (d : Ds) : Option (Unit × Ds) := gd (chk g x0 0) <| if (4 : Int32) ≤ (dI d x0 16) then (fX0_addMacro_J33 N g x0 x1 d) else (ob (gR g x0 17) fun r3 => (gd (chk g r3 102) <| gd (¬ ((dI d x0 16) < 0 ∨ gL g r3 ≤ (dI d x0 16).toNatClampNeg)) <| bd (sI d r3 (dI d x0 16).toNatClampNeg 0) fun d6 => (bd (sI d6 x0 16 ((dI d6 x0 16) + 1)) fun d7 => (cv (fX0_addMacroCode N g x0 x1 d7) fun d8 => (fX0_addMacro_J33 N g x0 x1 d8)))))
set_option maxHeartbeats 4000000 in
set_option maxRecDepth 100000 in
theorem tX0_addMacro_E {p : Program} {l : Launch} {e : Env} {s : State} {m : MethodId} {args : Array Value} {below : List Frame} {meth : Method} {c : Code} {D : va_G} {cy : Nat → ClassId} {B : Bs} (C : Cx p s m args c cX0_addMacro 2 RX0 D cy B) (hr : meth.sig.returnType = none) (hlocks : meth.locks = false) {N : Nat} {g : Gs} {x0 : Nat} {x1 : Int32}  {dz : Ds} {d : Ds} (hf : fX0_addMacro N g x0 x1 d = some ((), dz)) : WB p l e rmX0_addMacro s m args below meth c 2 D cy B 0 0 (MQ below (QV D cy B g dz) args s 0 0 (wA B)) g d [(0, .ref (ad B x0)), (1, .int x1)] 0 [] := by
  unfold fX0_addMacro at hf
  refine b_aload_n C dX0_addMacro_0 0 rfl rfl ?_
  obtain ⟨h1, hf⟩ := gd_s hf
  refine b_gI C dX0_addMacro_1 fl_X0_80 h1 ?_
  refine b_iconst C (v := 4) dX0_addMacro_4 (by decide) ?_
  refine b_icmp_ge C (tgt := 33) dX0_addMacro_5 (by decide) (fun c2 => ?_) (fun c2 => ?_)
  · have hf := it_s c2 hf
    refine b_sub [(0, .ref (ad B x0)), (1, .int x1)] [0, 1] rfl ?_
    exact tX0_addMacro_33 C hr hlocks hf
  · have hf := if_s c2 hf
    refine b_aload_n C dX0_addMacro_8 0 rfl rfl ?_
    obtain ⟨r3, er3, hf⟩ := ob_s hf
    refine b_gR C dX0_addMacro_9 fl_X0_32 h1 er3 ?_
    refine b_aload_n C dX0_addMacro_12 0 rfl rfl ?_
    refine b_gI C dX0_addMacro_13 fl_X0_80 h1 ?_
    refine b_iconst C (v := 0) dX0_addMacro_16 (by decide) ?_
    obtain ⟨h4, hf⟩ := gd_s hf
    obtain ⟨h5, hf⟩ := gd_s hf
    obtain ⟨d6, ed6, hf⟩ := bd_s hf
    refine b_iast C h4 h5 ed6 dX0_addMacro_17 ?_
    refine b_aload_n C dX0_addMacro_18 0 rfl rfl ?_
    refine b_dup C dX0_addMacro_19 rfl ?_
    refine b_gI C dX0_addMacro_20 fl_X0_80 h1 ?_
    refine b_iconst C (v := 1) dX0_addMacro_23 (by decide) ?_
    refine b_iadd C dX0_addMacro_24 ?_
    obtain ⟨d7, ed7, hf⟩ := bd_s hf
    refine b_pI C dX0_addMacro_25 fl_X0_80 fp0_16 h1 ed7 ?_
    refine b_aload_n C dX0_addMacro_28 0 rfl rfl ?_
    refine b_iload_n C dX0_addMacro_29 1 rfl rfl ?_
    obtain ⟨d8, k9, hf⟩ := cv_s hf
    refine b_cVN C [] dX0_addMacro_30 (kX0_addMacroCode l D cy B k9) lv_X0_108 ⟨rfl, rfl, Nat.le_of_ble_eq_true rfl, Nat.le_of_ble_eq_true rfl⟩ h1 (by decide) rfl (Nat.le_of_ble_eq_true rfl) ⟨Nat.zero_le _, Nat.zero_le _⟩ rfl ?_
    refine b_sub [(0, .ref (ad B x0)), (1, .int x1)] [0, 1] rfl ?_
    exact tX0_addMacro_33 C hr hlocks hf
theorem kX0_addMacro (l : Launch) (D : va_G) (cy : Nat → ClassId) (B : Bs) {N : Nat} {g : Gs} {x0 : Nat} {x1 : Int32}  {dz : Ds} {d : Ds} (hf : fX0_addMacro N g x0 x1 d = some ((), dz)) : Met l yX0_addMacro (.code yX0_addMacro cX0_addMacro 2 none :: wl) rmX0_addMacro (PC D cy B [.ref (ad B x0), .int x1] g d) (QV D cy B g dz) 0 0 (wA B) :=
  met_of (by decide +kernel) (Nat.le_of_ble_eq_true rfl) (fun p e s m args below meth c C hr hlocks _ => b_sub [(0, .ref (ad B x0)), (1, .int x1)] [0, 1] rfl (tX0_addMacro_E C hr hlocks hf))
/-! KeyMatrix$Board.macroCode(II)I -/
theorem dX0_macroCode_0 : decode cX0_macroCode 0 = .ok (.iload_n 1, 1) := by decide +kernel
theorem dX0_macroCode_1 : decode cX0_macroCode 1 = .ok (.ifCond .lt 25, 3) := by decide +kernel
theorem dX0_macroCode_4 : decode cX0_macroCode 4 = .ok (.iload_n 1, 1) := by decide +kernel
theorem dX0_macroCode_5 : decode cX0_macroCode 5 = .ok (.aload_n 0, 1) := by decide +kernel
theorem dX0_macroCode_6 : decode cX0_macroCode 6 = .ok (.getfield 80, 3) := by decide +kernel
theorem dX0_macroCode_9 : decode cX0_macroCode 9 = .ok (.if_icmp .ge 17, 3) := by decide +kernel
theorem dX0_macroCode_12 : decode cX0_macroCode 12 = .ok (.iload_n 2, 1) := by decide +kernel
theorem dX0_macroCode_13 : decode cX0_macroCode 13 = .ok (.ifCond .lt 13, 3) := by decide +kernel
theorem dX0_macroCode_16 : decode cX0_macroCode 16 = .ok (.iload_n 2, 1) := by decide +kernel
theorem dX0_macroCode_17 : decode cX0_macroCode 17 = .ok (.aload_n 0, 1) := by decide +kernel
theorem dX0_macroCode_18 : decode cX0_macroCode 18 = .ok (.getfield 32, 3) := by decide +kernel
theorem dX0_macroCode_21 : decode cX0_macroCode 21 = .ok (.iload_n 1, 1) := by decide +kernel
theorem dX0_macroCode_22 : decode cX0_macroCode 22 = .ok (.iaload, 1) := by decide +kernel
theorem dX0_macroCode_23 : decode cX0_macroCode 23 = .ok (.if_icmp .lt 5, 3) := by decide +kernel
theorem dX0_macroCode_26 : decode cX0_macroCode 26 = .ok (.iconst (-1), 1) := by decide +kernel
theorem dX0_macroCode_27 : decode cX0_macroCode 27 = .ok (.ireturn, 1) := by decide +kernel
theorem dX0_macroCode_28 : decode cX0_macroCode 28 = .ok (.aload_n 0, 1) := by decide +kernel
theorem dX0_macroCode_29 : decode cX0_macroCode 29 = .ok (.getfield 35, 3) := by decide +kernel
theorem dX0_macroCode_32 : decode cX0_macroCode 32 = .ok (.iload_n 1, 1) := by decide +kernel
theorem dX0_macroCode_33 : decode cX0_macroCode 33 = .ok (.bipush 8, 2) := by decide +kernel
theorem dX0_macroCode_35 : decode cX0_macroCode 35 = .ok (.imul, 1) := by decide +kernel
theorem dX0_macroCode_36 : decode cX0_macroCode 36 = .ok (.iload_n 2, 1) := by decide +kernel
theorem dX0_macroCode_37 : decode cX0_macroCode 37 = .ok (.iadd, 1) := by decide +kernel
theorem dX0_macroCode_38 : decode cX0_macroCode 38 = .ok (.iaload, 1) := by decide +kernel
theorem dX0_macroCode_39 : decode cX0_macroCode 39 = .ok (.ireturn, 1) := by decide +kernel
def rmX0_macroCode : Room := { frames := 0, cells := 0, slots := 0, locals := 0 }
set_option maxRecDepth 100000 in
def fX0_macroCode_J26 (N : Nat) (g : Gs) (x0 : Nat) (x1 : Int32) (x2 : Int32) (d : Ds) : Option (Int32 × Ds) := some ((-1), d)
set_option maxHeartbeats 4000000 in
set_option maxRecDepth 100000 in
theorem tX0_macroCode_26 {p : Program} {l : Launch} {e : Env} {s : State} {m : MethodId} {args : Array Value} {below : List Frame} {meth : Method} {c : Code} {D : va_G} {cy : Nat → ClassId} {B : Bs} (C : Cx p s m args c cX0_macroCode 3 RX0 D cy B) (hr : meth.sig.returnType = (some .int)) (hlocks : meth.locks = false) {N : Nat} {g : Gs} {x0 : Nat} {x1 : Int32} {x2 : Int32} {vz : Int32} {dz : Ds} {d : Ds} (hf : fX0_macroCode_J26 N g x0 x1 x2 d = some (vz, dz)) : WB p l e rmX0_macroCode s m args below meth c 3 D cy B 0 0 (MQ below (QI D cy B vz g dz) args s 0 0 (wA B)) g d [(0, .ref (ad B x0)), (1, .int x1), (2, .int x2)] 26 [] := by
  unfold fX0_macroCode_J26 at hf
  refine b_iconst C (v := (-1)) dX0_macroCode_26 (by decide) ?_
  exact b_iret C hr hlocks hf dX0_macroCode_27
set_option maxRecDepth 100000 in
def fX0_macroCode (N : Nat) (g : Gs) (x0 : Nat) (x1 : Int32) (x2 : Int32) (d : Ds) : Option (Int32 × Ds) := if x1 < 0 then (fX0_macroCode_J26 N g x0 x1 x2 d) else (gd (chk g x0 0) <| if (dI d x0 16) ≤ x1 then (fX0_macroCode_J26 N g x0 x1 x2 d) else (if x2 < 0 then (fX0_macroCode_J26 N g x0 x1 x2 d) else (ob (gR g x0 17) fun r5 => (gd (chk g r5 102) <| gd (¬ (x1 < 0 ∨ gL g r5 ≤ x1.toNatClampNeg)) <| if x2 < (dI d r5 x1.toNatClampNeg) then (ob (gR g x0 18) fun r9 => (gd (chk g r9 102) <| gd (¬ (((x1 * 8) + x2) < 0 ∨ gL g r9 ≤ ((x1 * 8) + x2).toNatClampNeg)) <| some ((dI d r9 ((x1 * 8) + x2).toNatClampNeg), d))) else (fX0_macroCode_J26 N g x0 x1 x2 d)))))
set_option maxHeartbeats 4000000 in
set_option maxRecDepth 100000 in
theorem tX0_macroCode_E {p : Program} {l : Launch} {e : Env} {s : State} {m : MethodId} {args : Array Value} {below : List Frame} {meth : Method} {c : Code} {D : va_G} {cy : Nat → ClassId} {B : Bs} (C : Cx p s m args c cX0_macroCode 3 RX0 D cy B) (hr : meth.sig.returnType = (some .int)) (hlocks : meth.locks = false) {N : Nat} {g : Gs} {x0 : Nat} {x1 : Int32} {x2 : Int32} {vz : Int32} {dz : Ds} {d : Ds} (hf : fX0_macroCode N g x0 x1 x2 d = some (vz, dz)) : WB p l e rmX0_macroCode s m args below meth c 3 D cy B 0 0 (MQ below (QI D cy B vz g dz) args s 0 0 (wA B)) g d [(0, .ref (ad B x0)), (1, .int x1), (2, .int x2)] 0 [] := by
  unfold fX0_macroCode at hf
  refine b_iload_n C dX0_macroCode_0 1 rfl rfl ?_
  refine b_if_lt C (tgt := 26) dX0_macroCode_1 (by decide) (fun c1 => ?_) (fun c1 => ?_)
  · have hf := it_s c1 hf
    refine b_sub [(0, .ref (ad B x0)), (1, .int x1), (2, .int x2)] [0, 1, 2] rfl ?_
    exact tX0_macroCode_26 C hr hlocks hf
  · have hf := if_s c1 hf
    refine b_iload_n C dX0_macroCode_4 1 rfl rfl ?_
    refine b_aload_n C dX0_macroCode_5 0 rfl rfl ?_
    obtain ⟨h2, hf⟩ := gd_s hf
    refine b_gI C dX0_macroCode_6 fl_X0_80 h2 ?_
    refine b_icmp_ge C (tgt := 26) dX0_macroCode_9 (by decide) (fun c3 => ?_) (fun c3 => ?_)
    · have hf := it_s c3 hf
      refine b_sub [(0, .ref (ad B x0)), (1, .int x1), (2, .int x2)] [0, 1, 2] rfl ?_
      exact tX0_macroCode_26 C hr hlocks hf
    · have hf := if_s c3 hf
      refine b_iload_n C dX0_macroCode_12 2 rfl rfl ?_
      refine b_if_lt C (tgt := 26) dX0_macroCode_13 (by decide) (fun c4 => ?_) (fun c4 => ?_)
      · have hf := it_s c4 hf
        refine b_sub [(0, .ref (ad B x0)), (1, .int x1), (2, .int x2)] [0, 1, 2] rfl ?_
        exact tX0_macroCode_26 C hr hlocks hf
      · have hf := if_s c4 hf
        refine b_iload_n C dX0_macroCode_16 2 rfl rfl ?_
        refine b_aload_n C dX0_macroCode_17 0 rfl rfl ?_
        obtain ⟨r5, er5, hf⟩ := ob_s hf
        refine b_gR C dX0_macroCode_18 fl_X0_32 h2 er5 ?_
        refine b_iload_n C dX0_macroCode_21 1 rfl rfl ?_
        obtain ⟨h6, hf⟩ := gd_s hf
        obtain ⟨h7, hf⟩ := gd_s hf
        refine b_iald C h6 h7 dX0_macroCode_22 ?_
        refine b_icmp_lt C (tgt := 28) dX0_macroCode_23 (by decide) (fun c8 => ?_) (fun c8 => ?_)
        · have hf := it_s c8 hf
          refine b_aload_n C dX0_macroCode_28 0 rfl rfl ?_
          obtain ⟨r9, er9, hf⟩ := ob_s hf
          refine b_gR C dX0_macroCode_29 fl_X0_35 h2 er9 ?_
          refine b_iload_n C dX0_macroCode_32 1 rfl rfl ?_
          refine b_bipush C (v := 8) dX0_macroCode_33 (by decide) ?_
          refine b_imul C dX0_macroCode_35 ?_
          refine b_iload_n C dX0_macroCode_36 2 rfl rfl ?_
          refine b_iadd C dX0_macroCode_37 ?_
          obtain ⟨h10, hf⟩ := gd_s hf
          obtain ⟨h11, hf⟩ := gd_s hf
          refine b_iald C h10 h11 dX0_macroCode_38 ?_
          exact b_iret C hr hlocks hf dX0_macroCode_39
        · have hf := if_s c8 hf
          refine b_sub [(0, .ref (ad B x0)), (1, .int x1), (2, .int x2)] [0, 1, 2] rfl ?_
          exact tX0_macroCode_26 C hr hlocks hf
theorem kX0_macroCode (l : Launch) (D : va_G) (cy : Nat → ClassId) (B : Bs) {N : Nat} {g : Gs} {x0 : Nat} {x1 : Int32} {x2 : Int32} {vz : Int32} {dz : Ds} {d : Ds} (hf : fX0_macroCode N g x0 x1 x2 d = some (vz, dz)) : Met l yX0_macroCode (.code yX0_macroCode cX0_macroCode 3 (some .int) :: wl) rmX0_macroCode (PC D cy B [.ref (ad B x0), .int x1, .int x2] g d) (QI D cy B vz g dz) 0 0 (wA B) :=
  met_of (by decide +kernel) (Nat.le_of_ble_eq_true rfl) (fun p e s m args below meth c C hr hlocks _ => b_sub [(0, .ref (ad B x0)), (1, .int x1), (2, .int x2)] [0, 1, 2] rfl (tX0_macroCode_E C hr hlocks hf))
/-! KeyMatrix$Scan.<init>()V -/
theorem oi_X6_3 : Cond.methodLink RX6 3 objectInit ∈ wl := mW (mT2 (List.mem_of_getElem? (i := 33) (by decide +kernel))) rfl
theorem inl6 : ∀ w ∈ u_ws RX6 TX6 9, w ∈ wl := by
  have h0 : u_ws RX6 TX6 9 = [Cond.lays "KeyMatrix$Scan" "KeyMatrix$Scan" "closed" "I", Cond.lays "KeyMatrix$Scan" "KeyMatrix$Scan" "seen" "I", Cond.lays "KeyMatrix$Scan" "KeyMatrix$Scan" "barred" "I", Cond.lays "KeyMatrix$Scan" "KeyMatrix$Scan" "down" "I", Cond.laysFinal "KeyMatrix$Scan" "KeyMatrix$Scan" "unlike" "[I", Cond.laysFinal "KeyMatrix$Scan" "KeyMatrix$Scan" "steady" "[F", Cond.laysFinal "KeyMatrix$Scan" "KeyMatrix$Scan" "strokes" "[I", Cond.laysFinal "KeyMatrix$Scan" "KeyMatrix$Scan" "longest" "[I", Cond.laysFinal "KeyMatrix$Scan" "KeyMatrix$Scan" "lastEvent" "[I"] := by decide +kernel
  rw [h0]
  exact List.forall_mem_cons.mpr ⟨mW (mT2 (List.mem_of_getElem? (i := 53) (by decide +kernel))) rfl, List.forall_mem_cons.mpr ⟨mW (mT2 (List.mem_of_getElem? (i := 55) (by decide +kernel))) rfl, List.forall_mem_cons.mpr ⟨mW (mT2 (List.mem_of_getElem? (i := 57) (by decide +kernel))) rfl, List.forall_mem_cons.mpr ⟨mW (mT2 (List.mem_of_getElem? (i := 59) (by decide +kernel))) rfl, List.forall_mem_cons.mpr ⟨mW (mT2 (List.mem_of_getElem? (i := 61) (by decide +kernel))) rfl, List.forall_mem_cons.mpr ⟨mW (mT2 (List.mem_of_getElem? (i := 63) (by decide +kernel))) rfl, List.forall_mem_cons.mpr ⟨mW (mT2 (List.mem_of_getElem? (i := 65) (by decide +kernel))) rfl, List.forall_mem_cons.mpr ⟨mW (mT2 (List.mem_of_getElem? (i := 67) (by decide +kernel))) rfl, List.forall_mem_cons.mpr ⟨mW (mT2 (List.mem_of_getElem? (i := 69) (by decide +kernel))) rfl, fun _ h => absurd h List.not_mem_nil⟩⟩⟩⟩⟩⟩⟩⟩⟩
theorem fq_X6_9 : FLP RX6 9 6 4 := ⟨⟨RX6, TX6, 9, rfl, by decide, inl6, mW (mT2 (List.mem_of_getElem? (i := 43) (by decide +kernel))) rfl⟩, by decide, by decide +kernel⟩
theorem ft6 : FT 6 := ⟨RX6, TX6, 9, tyX6, rfl, tyX6_ok, nmX6⟩
theorem fr6_4 : FPR 6 4 RX6 := ⟨ft6, (RX6, TX6, 9), rfl, by decide +kernel, rfl, fun ty h a => by rw [tyX6_ok 4 (by decide)] at h; cases h; exact ⟨rfl, rfl⟩⟩
theorem ar_float : Cond.arrayClass (newarray.typeOf .float) ∈ wl := mW (mT2 (List.mem_of_getElem? (i := 72) (by decide +kernel))) rfl
theorem fq_X6_15 : FLP RX6 15 6 5 := ⟨⟨RX6, TX6, 9, rfl, by decide, inl6, mW (mT2 (List.mem_of_getElem? (i := 45) (by decide +kernel))) rfl⟩, by decide, by decide +kernel⟩
theorem fr6_5 : FPR 6 5 RX6 := ⟨ft6, (RX6, TX6, 9), rfl, by decide +kernel, rfl, fun ty h a => by rw [tyX6_ok 5 (by decide)] at h; cases h; exact ⟨rfl, rfl⟩⟩
theorem fq_X6_19 : FLP RX6 19 6 6 := ⟨⟨RX6, TX6, 9, rfl, by decide, inl6, mW (mT2 (List.mem_of_getElem? (i := 47) (by decide +kernel))) rfl⟩, by decide, by decide +kernel⟩
theorem fr6_6 : FPR 6 6 RX6 := ⟨ft6, (RX6, TX6, 9), rfl, by decide +kernel, rfl, fun ty h a => by rw [tyX6_ok 6 (by decide)] at h; cases h; exact ⟨rfl, rfl⟩⟩
theorem fq_X6_22 : FLP RX6 22 6 7 := ⟨⟨RX6, TX6, 9, rfl, by decide, inl6, mW (mT2 (List.mem_of_getElem? (i := 49) (by decide +kernel))) rfl⟩, by decide, by decide +kernel⟩
theorem fr6_7 : FPR 6 7 RX6 := ⟨ft6, (RX6, TX6, 9), rfl, by decide +kernel, rfl, fun ty h a => by rw [tyX6_ok 7 (by decide)] at h; cases h; exact ⟨rfl, rfl⟩⟩
theorem fq_X6_25 : FLP RX6 25 6 8 := ⟨⟨RX6, TX6, 9, rfl, by decide, inl6, mW (mT2 (List.mem_of_getElem? (i := 51) (by decide +kernel))) rfl⟩, by decide, by decide +kernel⟩
theorem fr6_8 : FPR 6 8 RX6 := ⟨ft6, (RX6, TX6, 9), rfl, by decide +kernel, rfl, fun ty h a => by rw [tyX6_ok 8 (by decide)] at h; cases h; exact ⟨rfl, rfl⟩⟩
theorem dX6_init_0 : decode cX6_init 0 = .ok (.aload_n 0, 1) := by decide +kernel
theorem dX6_init_1 : decode cX6_init 1 = .ok (.invokespecial 3, 3) := by decide +kernel
theorem dX6_init_4 : decode cX6_init 4 = .ok (.aload_n 0, 1) := by decide +kernel
theorem dX6_init_5 : decode cX6_init 5 = .ok (.bipush 24, 2) := by decide +kernel
theorem dX6_init_7 : decode cX6_init 7 = .ok (.newarray .int, 2) := by decide +kernel
theorem dX6_init_9 : decode cX6_init 9 = .ok (.putfield 9, 3) := by decide +kernel
theorem dX6_init_12 : decode cX6_init 12 = .ok (.aload_n 0, 1) := by decide +kernel
theorem dX6_init_13 : decode cX6_init 13 = .ok (.bipush 24, 2) := by decide +kernel
theorem dX6_init_15 : decode cX6_init 15 = .ok (.newarray .float, 2) := by decide +kernel
theorem dX6_init_17 : decode cX6_init 17 = .ok (.putfield 15, 3) := by decide +kernel
theorem dX6_init_20 : decode cX6_init 20 = .ok (.aload_n 0, 1) := by decide +kernel
theorem dX6_init_21 : decode cX6_init 21 = .ok (.bipush 24, 2) := by decide +kernel
theorem dX6_init_23 : decode cX6_init 23 = .ok (.newarray .int, 2) := by decide +kernel
theorem dX6_init_25 : decode cX6_init 25 = .ok (.putfield 19, 3) := by decide +kernel
theorem dX6_init_28 : decode cX6_init 28 = .ok (.aload_n 0, 1) := by decide +kernel
theorem dX6_init_29 : decode cX6_init 29 = .ok (.bipush 24, 2) := by decide +kernel
theorem dX6_init_31 : decode cX6_init 31 = .ok (.newarray .int, 2) := by decide +kernel
theorem dX6_init_33 : decode cX6_init 33 = .ok (.putfield 22, 3) := by decide +kernel
theorem dX6_init_36 : decode cX6_init 36 = .ok (.aload_n 0, 1) := by decide +kernel
theorem dX6_init_37 : decode cX6_init 37 = .ok (.bipush 24, 2) := by decide +kernel
theorem dX6_init_39 : decode cX6_init 39 = .ok (.newarray .int, 2) := by decide +kernel
theorem dX6_init_41 : decode cX6_init 41 = .ok (.putfield 25, 3) := by decide +kernel
theorem dX6_init_44 : decode cX6_init 44 = .ok (.return_, 1) := by decide +kernel
def rmX6_init : Room := { frames := 1, cells := 5, slots := 120, locals := 20 }
set_option maxRecDepth 100000 in
def fX6_init_E (N : Nat) (x0 : Nat) (n0 s0 : Nat) (g : Gs) (d : Ds) : Option (Gs × Ds) := gd (¬ (24 : Int32) < 0) <| gd ((24 : Int32).toNatClampNeg ≤ 60000000) <| gd (gN g < 100000) <| gd (gN g + 1 - n0 ≤ 5 ∧ gS g + (24 : Int32).toNatClampNeg - s0 ≤ 120) <| bd (nG g 102 (24 : Int32).toNatClampNeg (24 : Int32).toNatClampNeg) fun g5 => (bd (nD g d) fun d6 => (bd (gN g) fun r7 => (gd (chk g5 x0 6) <| bd (sR g5 x0 4 r7) fun g10 => (gd (gN g10 < 100000) <| gd (gN g10 + 1 - n0 ≤ 5 ∧ gS g10 + (24 : Int32).toNatClampNeg - s0 ≤ 120) <| bd (nG g10 101 (24 : Int32).toNatClampNeg (24 : Int32).toNatClampNeg) fun g14 => (bd (nD g10 d6) fun d15 => (bd (gN g10) fun r16 => (gd (chk g14 x0 6) <| bd (sR g14 x0 5 r16) fun g19 => (gd (gN g19 < 100000) <| gd (gN g19 + 1 - n0 ≤ 5 ∧ gS g19 + (24 : Int32).toNatClampNeg - s0 ≤ 120) <| bd (nG g19 102 (24 : Int32).toNatClampNeg (24 : Int32).toNatClampNeg) fun g23 => (bd (nD g19 d15) fun d24 => (bd (gN g19) fun r25 => (gd (chk g23 x0 6) <| bd (sR g23 x0 6 r25) fun g28 => (gd (gN g28 < 100000) <| gd (gN g28 + 1 - n0 ≤ 5 ∧ gS g28 + (24 : Int32).toNatClampNeg - s0 ≤ 120) <| bd (nG g28 102 (24 : Int32).toNatClampNeg (24 : Int32).toNatClampNeg) fun g32 => (bd (nD g28 d24) fun d33 => (bd (gN g28) fun r34 => (gd (chk g32 x0 6) <| bd (sR g32 x0 7 r34) fun g37 => (gd (gN g37 < 100000) <| gd (gN g37 + 1 - n0 ≤ 5 ∧ gS g37 + (24 : Int32).toNatClampNeg - s0 ≤ 120) <| bd (nG g37 102 (24 : Int32).toNatClampNeg (24 : Int32).toNatClampNeg) fun g41 => (bd (nD g37 d33) fun d42 => (bd (gN g37) fun r43 => (gd (chk g41 x0 6) <| bd (sR g41 x0 8 r43) fun g46 => (gd (gN g46 = n0 + 5 ∧ gS g46 = s0 + 120) <| some (g46, d42)))))))))))))))))))))
def fX6_init (N : Nat) (x0 : Nat) (g : Gs) (d : Ds) : Option (Gs × Ds) := fX6_init_E N x0 (gN g) (gS g) g d
set_option maxHeartbeats 4000000 in
set_option maxRecDepth 100000 in
theorem tX6_init_E {p : Program} {l : Launch} {e : Env} {s : State} {m : MethodId} {args : Array Value} {below : List Frame} {meth : Method} {c : Code} {D : va_G} {cy : Nat → ClassId} {B : Bs} (C : Cx p s m args c cX6_init 1 RX6 D cy B) (hr : meth.sig.returnType = none) (hlocks : meth.locks = false) (hin : meth.name = "<init>") {n0 s0 : Nat} (hz : s.heap.size = B.1 + n0) {N : Nat} {x0 : Nat} {gz : Gs} {dz : Ds} {g : Gs} {d : Ds} (hn : n0 ≤ gN g) (hs : s0 ≤ gS g) (hf : fX6_init_E N x0 n0 s0 g d = some (gz, dz)) : WB p l e rmX6_init s m args below meth c 1 D cy B (gN g - n0) (gS g - s0) (MQ below (QV D cy B gz dz) args s 5 120 (wA B)) g d [(0, .ref (ad B x0))] 0 [] := by
  unfold fX6_init_E at hf
  refine b_aload_n C dX6_init_0 0 rfl rfl ?_
  refine b_objInit C oi_X6_3 oi_i oi_c (by decide) (by decide) dX6_init_1 ?_
  refine b_aload_n C dX6_init_4 0 rfl rfl ?_
  refine b_bipush C (v := 24) dX6_init_5 (by decide) ?_
  obtain ⟨h1, hf⟩ := gd_s hf
  obtain ⟨h2, hf⟩ := gd_s hf
  obtain ⟨h3, hf⟩ := gd_s hf
  obtain ⟨h4, hf⟩ := gd_s hf
  obtain ⟨g5, eg5, hf⟩ := bd_s hf
  obtain ⟨d6, ed6, hf⟩ := bd_s hf
  obtain ⟨r7, er7, hf⟩ := bd_s hf
  refine b_newaI C dX6_init_7 ar_int hz hn hs h3 h1 h2 h4 eg5 ed6 (fun hn8 hn8s => ?_)
  refine b_topR er7 ?_
  obtain ⟨h9, hf⟩ := gd_s hf
  obtain ⟨g10, eg10, hf⟩ := bd_s hf
  refine b_pRC C dX6_init_9 fq_X6_9 fr6_4 hin h9 eg10 ?_
  have hn11 : n0 ≤ gN g10 := by rw [eg10]; exact hn8
  have hn11s : s0 ≤ gS g10 := by rw [eg10]; exact hn8s
  refine b_aload_n C dX6_init_12 0 rfl rfl ?_
  refine b_bipush C (v := 24) dX6_init_13 (by decide) ?_
  obtain ⟨h12, hf⟩ := gd_s hf
  obtain ⟨h13, hf⟩ := gd_s hf
  obtain ⟨g14, eg14, hf⟩ := bd_s hf
  obtain ⟨d15, ed15, hf⟩ := bd_s hf
  obtain ⟨r16, er16, hf⟩ := bd_s hf
  refine b_newaF C dX6_init_15 ar_float hz hn11 hn11s h12 h1 h2 h13 eg14 ed15 (fun hn17 hn17s => ?_)
  refine b_topR er16 ?_
  obtain ⟨h18, hf⟩ := gd_s hf
  obtain ⟨g19, eg19, hf⟩ := bd_s hf
  refine b_pRC C dX6_init_17 fq_X6_15 fr6_5 hin h18 eg19 ?_
  have hn20 : n0 ≤ gN g19 := by rw [eg19]; exact hn17
  have hn20s : s0 ≤ gS g19 := by rw [eg19]; exact hn17s
  refine b_aload_n C dX6_init_20 0 rfl rfl ?_
  refine b_bipush C (v := 24) dX6_init_21 (by decide) ?_
  obtain ⟨h21, hf⟩ := gd_s hf
  obtain ⟨h22, hf⟩ := gd_s hf
  obtain ⟨g23, eg23, hf⟩ := bd_s hf
  obtain ⟨d24, ed24, hf⟩ := bd_s hf
  obtain ⟨r25, er25, hf⟩ := bd_s hf
  refine b_newaI C dX6_init_23 ar_int hz hn20 hn20s h21 h1 h2 h22 eg23 ed24 (fun hn26 hn26s => ?_)
  refine b_topR er25 ?_
  obtain ⟨h27, hf⟩ := gd_s hf
  obtain ⟨g28, eg28, hf⟩ := bd_s hf
  refine b_pRC C dX6_init_25 fq_X6_19 fr6_6 hin h27 eg28 ?_
  have hn29 : n0 ≤ gN g28 := by rw [eg28]; exact hn26
  have hn29s : s0 ≤ gS g28 := by rw [eg28]; exact hn26s
  refine b_aload_n C dX6_init_28 0 rfl rfl ?_
  refine b_bipush C (v := 24) dX6_init_29 (by decide) ?_
  obtain ⟨h30, hf⟩ := gd_s hf
  obtain ⟨h31, hf⟩ := gd_s hf
  obtain ⟨g32, eg32, hf⟩ := bd_s hf
  obtain ⟨d33, ed33, hf⟩ := bd_s hf
  obtain ⟨r34, er34, hf⟩ := bd_s hf
  refine b_newaI C dX6_init_31 ar_int hz hn29 hn29s h30 h1 h2 h31 eg32 ed33 (fun hn35 hn35s => ?_)
  refine b_topR er34 ?_
  obtain ⟨h36, hf⟩ := gd_s hf
  obtain ⟨g37, eg37, hf⟩ := bd_s hf
  refine b_pRC C dX6_init_33 fq_X6_22 fr6_7 hin h36 eg37 ?_
  have hn38 : n0 ≤ gN g37 := by rw [eg37]; exact hn35
  have hn38s : s0 ≤ gS g37 := by rw [eg37]; exact hn35s
  refine b_aload_n C dX6_init_36 0 rfl rfl ?_
  refine b_bipush C (v := 24) dX6_init_37 (by decide) ?_
  obtain ⟨h39, hf⟩ := gd_s hf
  obtain ⟨h40, hf⟩ := gd_s hf
  obtain ⟨g41, eg41, hf⟩ := bd_s hf
  obtain ⟨d42, ed42, hf⟩ := bd_s hf
  obtain ⟨r43, er43, hf⟩ := bd_s hf
  refine b_newaI C dX6_init_39 ar_int hz hn38 hn38s h39 h1 h2 h40 eg41 ed42 (fun hn44 hn44s => ?_)
  refine b_topR er43 ?_
  obtain ⟨h45, hf⟩ := gd_s hf
  obtain ⟨g46, eg46, hf⟩ := bd_s hf
  refine b_pRC C dX6_init_41 fq_X6_25 fr6_8 hin h45 eg46 ?_
  have hn47 : n0 ≤ gN g46 := by rw [eg46]; exact hn44
  have hn47s : s0 ≤ gS g46 := by rw [eg46]; exact hn44s
  obtain ⟨h48, hf⟩ := gd_s hf
  exact b_vretC C hr hlocks h48 hf dX6_init_44
theorem kX6_init (l : Launch) (D : va_G) (cy : Nat → ClassId) (B : Bs) {N : Nat} {g : Gs} {x0 : Nat} {gz : Gs} {dz : Ds} {d : Ds} (hf : fX6_init N x0 g d = some (gz, dz)) : Met l yX6_init (.code yX6_init cX6_init 1 none :: wl) rmX6_init (PCC D cy B [.ref (ad B x0)] g d) (QV D cy B gz dz) 5 120 (wA B) :=
  met_ofC (by decide +kernel) (Nat.le_of_ble_eq_true rfl) (fun p e s m args below meth c C hr hlocks hin hz => b_sub [(0, .ref (ad B x0))] [0] rfl (tX6_init_E C hr hlocks hin hz (Nat.le_refl _) (Nat.le_refl _) hf))
/-! KeyMatrix$Queue.<init>()V -/
theorem oi_X4_3 : Cond.methodLink RX4 3 objectInit ∈ wl := mW (mT2 (List.mem_of_getElem? (i := 78) (by decide +kernel))) rfl
theorem inl4 : ∀ w ∈ u_ws RX4 TX4 3, w ∈ wl := by
  have h0 : u_ws RX4 TX4 3 = [Cond.laysFinal "KeyMatrix$Queue" "KeyMatrix$Queue" "events" "[I", Cond.lays "KeyMatrix$Queue" "KeyMatrix$Queue" "size" "I", Cond.lays "KeyMatrix$Queue" "KeyMatrix$Queue" "total" "I"] := by decide +kernel
  rw [h0]
  exact List.forall_mem_cons.mpr ⟨mW (mT2 (List.mem_of_getElem? (i := 85) (by decide +kernel))) rfl, List.forall_mem_cons.mpr ⟨mW (mT2 (List.mem_of_getElem? (i := 87) (by decide +kernel))) rfl, List.forall_mem_cons.mpr ⟨mW (mT2 (List.mem_of_getElem? (i := 89) (by decide +kernel))) rfl, fun _ h => absurd h List.not_mem_nil⟩⟩⟩
theorem fq_X4_11 : FLP RX4 11 4 0 := ⟨⟨RX4, TX4, 3, rfl, by decide, inl4, mW (mT2 (List.mem_of_getElem? (i := 79) (by decide +kernel))) rfl⟩, by decide, by decide +kernel⟩
theorem ft4 : FT 4 := ⟨RX4, TX4, 3, tyX4, rfl, tyX4_ok, nmX4⟩
theorem fr4_0 : FPR 4 0 RX4 := ⟨ft4, (RX4, TX4, 3), rfl, by decide +kernel, rfl, fun ty h a => by rw [tyX4_ok 0 (by decide)] at h; cases h; exact ⟨rfl, rfl⟩⟩
theorem dX4_init_0 : decode cX4_init 0 = .ok (.aload_n 0, 1) := by decide +kernel
theorem dX4_init_1 : decode cX4_init 1 = .ok (.invokespecial 3, 3) := by decide +kernel
theorem dX4_init_4 : decode cX4_init 4 = .ok (.aload_n 0, 1) := by decide +kernel
theorem dX4_init_5 : decode cX4_init 5 = .ok (.sipush 2400, 3) := by decide +kernel
theorem dX4_init_8 : decode cX4_init 8 = .ok (.newarray .int, 2) := by decide +kernel
theorem dX4_init_10 : decode cX4_init 10 = .ok (.putfield 11, 3) := by decide +kernel
theorem dX4_init_13 : decode cX4_init 13 = .ok (.return_, 1) := by decide +kernel
def rmX4_init : Room := { frames := 1, cells := 1, slots := 2400, locals := 20 }
set_option maxRecDepth 100000 in
def fX4_init_E (N : Nat) (x0 : Nat) (n0 s0 : Nat) (g : Gs) (d : Ds) : Option (Gs × Ds) := gd (¬ (2400 : Int32) < 0) <| gd ((2400 : Int32).toNatClampNeg ≤ 60000000) <| gd (gN g < 100000) <| gd (gN g + 1 - n0 ≤ 1 ∧ gS g + (2400 : Int32).toNatClampNeg - s0 ≤ 2400) <| bd (nG g 102 (2400 : Int32).toNatClampNeg (2400 : Int32).toNatClampNeg) fun g5 => (bd (nD g d) fun d6 => (bd (gN g) fun r7 => (gd (chk g5 x0 4) <| bd (sR g5 x0 0 r7) fun g10 => (gd (gN g10 = n0 + 1 ∧ gS g10 = s0 + 2400) <| some (g10, d6)))))
def fX4_init (N : Nat) (x0 : Nat) (g : Gs) (d : Ds) : Option (Gs × Ds) := fX4_init_E N x0 (gN g) (gS g) g d
set_option maxHeartbeats 4000000 in
set_option maxRecDepth 100000 in
theorem tX4_init_E {p : Program} {l : Launch} {e : Env} {s : State} {m : MethodId} {args : Array Value} {below : List Frame} {meth : Method} {c : Code} {D : va_G} {cy : Nat → ClassId} {B : Bs} (C : Cx p s m args c cX4_init 1 RX4 D cy B) (hr : meth.sig.returnType = none) (hlocks : meth.locks = false) (hin : meth.name = "<init>") {n0 s0 : Nat} (hz : s.heap.size = B.1 + n0) {N : Nat} {x0 : Nat} {gz : Gs} {dz : Ds} {g : Gs} {d : Ds} (hn : n0 ≤ gN g) (hs : s0 ≤ gS g) (hf : fX4_init_E N x0 n0 s0 g d = some (gz, dz)) : WB p l e rmX4_init s m args below meth c 1 D cy B (gN g - n0) (gS g - s0) (MQ below (QV D cy B gz dz) args s 1 2400 (wA B)) g d [(0, .ref (ad B x0))] 0 [] := by
  unfold fX4_init_E at hf
  refine b_aload_n C dX4_init_0 0 rfl rfl ?_
  refine b_objInit C oi_X4_3 oi_i oi_c (by decide) (by decide) dX4_init_1 ?_
  refine b_aload_n C dX4_init_4 0 rfl rfl ?_
  refine b_sipush C (v := 2400) dX4_init_5 (by decide) ?_
  obtain ⟨h1, hf⟩ := gd_s hf
  obtain ⟨h2, hf⟩ := gd_s hf
  obtain ⟨h3, hf⟩ := gd_s hf
  obtain ⟨h4, hf⟩ := gd_s hf
  obtain ⟨g5, eg5, hf⟩ := bd_s hf
  obtain ⟨d6, ed6, hf⟩ := bd_s hf
  obtain ⟨r7, er7, hf⟩ := bd_s hf
  refine b_newaI C dX4_init_8 ar_int hz hn hs h3 h1 h2 h4 eg5 ed6 (fun hn8 hn8s => ?_)
  refine b_topR er7 ?_
  obtain ⟨h9, hf⟩ := gd_s hf
  obtain ⟨g10, eg10, hf⟩ := bd_s hf
  refine b_pRC C dX4_init_10 fq_X4_11 fr4_0 hin h9 eg10 ?_
  have hn11 : n0 ≤ gN g10 := by rw [eg10]; exact hn8
  have hn11s : s0 ≤ gS g10 := by rw [eg10]; exact hn8s
  obtain ⟨h12, hf⟩ := gd_s hf
  exact b_vretC C hr hlocks h12 hf dX4_init_13
theorem kX4_init (l : Launch) (D : va_G) (cy : Nat → ClassId) (B : Bs) {N : Nat} {g : Gs} {x0 : Nat} {gz : Gs} {dz : Ds} {d : Ds} (hf : fX4_init N x0 g d = some (gz, dz)) : Met l yX4_init (.code yX4_init cX4_init 1 none :: wl) rmX4_init (PCC D cy B [.ref (ad B x0)] g d) (QV D cy B gz dz) 1 2400 (wA B) :=
  met_ofC (by decide +kernel) (Nat.le_of_ble_eq_true rfl) (fun p e s m args below meth c C hr hlocks hin hz => b_sub [(0, .ref (ad B x0))] [0] rfl (tX4_init_E C hr hlocks hin hz (Nat.le_refl _) (Nat.le_refl _) hf))
/-! KeyMatrix$Doing.<init>()V -/
theorem oi_X3_3 : Cond.methodLink RX3 3 objectInit ∈ wl := mW (mT2 (List.mem_of_getElem? (i := 97) (by decide +kernel))) rfl
theorem inl3 : ∀ w ∈ u_ws RX3 TX3 9, w ∈ wl := by
  have h0 : u_ws RX3 TX3 9 = [Cond.laysFinal "KeyMatrix$Doing" "KeyMatrix$Doing" "kind" "[I", Cond.laysFinal "KeyMatrix$Doing" "KeyMatrix$Doing" "which" "[I", Cond.laysFinal "KeyMatrix$Doing" "KeyMatrix$Doing" "partner" "[I", Cond.laysFinal "KeyMatrix$Doing" "KeyMatrix$Doing" "order" "[I", Cond.lays "KeyMatrix$Doing" "KeyMatrix$Doing" "busy" "I", Cond.lays "KeyMatrix$Doing" "KeyMatrix$Doing" "toggled" "I", Cond.lays "KeyMatrix$Doing" "KeyMatrix$Doing" "mods" "I", Cond.laysFinal "KeyMatrix$Doing" "KeyMatrix$Doing" "codes" "[I", Cond.lays "KeyMatrix$Doing" "KeyMatrix$Doing" "codeCount" "I"] := by decide +kernel
  rw [h0]
  exact List.forall_mem_cons.mpr ⟨mW (mT2 (List.mem_of_getElem? (i := 120) (by decide +kernel))) rfl, List.forall_mem_cons.mpr ⟨mW (mT2 (List.mem_of_getElem? (i := 122) (by decide +kernel))) rfl, List.forall_mem_cons.mpr ⟨mW (mT2 (List.mem_of_getElem? (i := 124) (by decide +kernel))) rfl, List.forall_mem_cons.mpr ⟨mW (mT2 (List.mem_of_getElem? (i := 126) (by decide +kernel))) rfl, List.forall_mem_cons.mpr ⟨mW (mT2 (List.mem_of_getElem? (i := 128) (by decide +kernel))) rfl, List.forall_mem_cons.mpr ⟨mW (mT2 (List.mem_of_getElem? (i := 130) (by decide +kernel))) rfl, List.forall_mem_cons.mpr ⟨mW (mT2 (List.mem_of_getElem? (i := 132) (by decide +kernel))) rfl, List.forall_mem_cons.mpr ⟨mW (mT2 (List.mem_of_getElem? (i := 134) (by decide +kernel))) rfl, List.forall_mem_cons.mpr ⟨mW (mT2 (List.mem_of_getElem? (i := 136) (by decide +kernel))) rfl, fun _ h => absurd h List.not_mem_nil⟩⟩⟩⟩⟩⟩⟩⟩⟩
theorem fq_X3_9 : FLP RX3 9 3 0 := ⟨⟨RX3, TX3, 9, rfl, by decide, inl3, mW (mT2 (List.mem_of_getElem? (i := 98) (by decide +kernel))) rfl⟩, by decide, by decide +kernel⟩
theorem ft3 : FT 3 := ⟨RX3, TX3, 9, tyX3, rfl, tyX3_ok, nmX3⟩
theorem fr3_0 : FPR 3 0 RX3 := ⟨ft3, (RX3, TX3, 9), rfl, by decide +kernel, rfl, fun ty h a => by rw [tyX3_ok 0 (by decide)] at h; cases h; exact ⟨rfl, rfl⟩⟩
theorem fq_X3_15 : FLP RX3 15 3 1 := ⟨⟨RX3, TX3, 9, rfl, by decide, inl3, mW (mT2 (List.mem_of_getElem? (i := 101) (by decide +kernel))) rfl⟩, by decide, by decide +kernel⟩
theorem fr3_1 : FPR 3 1 RX3 := ⟨ft3, (RX3, TX3, 9), rfl, by decide +kernel, rfl, fun ty h a => by rw [tyX3_ok 1 (by decide)] at h; cases h; exact ⟨rfl, rfl⟩⟩
theorem fq_X3_18 : FLP RX3 18 3 2 := ⟨⟨RX3, TX3, 9, rfl, by decide, inl3, mW (mT2 (List.mem_of_getElem? (i := 104) (by decide +kernel))) rfl⟩, by decide, by decide +kernel⟩
theorem fr3_2 : FPR 3 2 RX3 := ⟨ft3, (RX3, TX3, 9), rfl, by decide +kernel, rfl, fun ty h a => by rw [tyX3_ok 2 (by decide)] at h; cases h; exact ⟨rfl, rfl⟩⟩
theorem fq_X3_21 : FLP RX3 21 3 3 := ⟨⟨RX3, TX3, 9, rfl, by decide, inl3, mW (mT2 (List.mem_of_getElem? (i := 106) (by decide +kernel))) rfl⟩, by decide, by decide +kernel⟩
theorem fr3_3 : FPR 3 3 RX3 := ⟨ft3, (RX3, TX3, 9), rfl, by decide +kernel, rfl, fun ty h a => by rw [tyX3_ok 3 (by decide)] at h; cases h; exact ⟨rfl, rfl⟩⟩
theorem fq_X3_24 : FLP RX3 24 3 7 := ⟨⟨RX3, TX3, 9, rfl, by decide, inl3, mW (mT2 (List.mem_of_getElem? (i := 114) (by decide +kernel))) rfl⟩, by decide, by decide +kernel⟩
theorem fr3_7 : FPR 3 7 RX3 := ⟨ft3, (RX3, TX3, 9), rfl, by decide +kernel, rfl, fun ty h a => by rw [tyX3_ok 7 (by decide)] at h; cases h; exact ⟨rfl, rfl⟩⟩
theorem dX3_init_0 : decode cX3_init 0 = .ok (.aload_n 0, 1) := by decide +kernel
theorem dX3_init_1 : decode cX3_init 1 = .ok (.invokespecial 3, 3) := by decide +kernel
theorem dX3_init_4 : decode cX3_init 4 = .ok (.aload_n 0, 1) := by decide +kernel
theorem dX3_init_5 : decode cX3_init 5 = .ok (.bipush 24, 2) := by decide +kernel
theorem dX3_init_7 : decode cX3_init 7 = .ok (.newarray .int, 2) := by decide +kernel
theorem dX3_init_9 : decode cX3_init 9 = .ok (.putfield 9, 3) := by decide +kernel
theorem dX3_init_12 : decode cX3_init 12 = .ok (.aload_n 0, 1) := by decide +kernel
theorem dX3_init_13 : decode cX3_init 13 = .ok (.bipush 24, 2) := by decide +kernel
theorem dX3_init_15 : decode cX3_init 15 = .ok (.newarray .int, 2) := by decide +kernel
theorem dX3_init_17 : decode cX3_init 17 = .ok (.putfield 15, 3) := by decide +kernel
theorem dX3_init_20 : decode cX3_init 20 = .ok (.aload_n 0, 1) := by decide +kernel
theorem dX3_init_21 : decode cX3_init 21 = .ok (.bipush 24, 2) := by decide +kernel
theorem dX3_init_23 : decode cX3_init 23 = .ok (.newarray .int, 2) := by decide +kernel
theorem dX3_init_25 : decode cX3_init 25 = .ok (.putfield 18, 3) := by decide +kernel
theorem dX3_init_28 : decode cX3_init 28 = .ok (.aload_n 0, 1) := by decide +kernel
theorem dX3_init_29 : decode cX3_init 29 = .ok (.bipush 24, 2) := by decide +kernel
theorem dX3_init_31 : decode cX3_init 31 = .ok (.newarray .int, 2) := by decide +kernel
theorem dX3_init_33 : decode cX3_init 33 = .ok (.putfield 21, 3) := by decide +kernel
theorem dX3_init_36 : decode cX3_init 36 = .ok (.aload_n 0, 1) := by decide +kernel
theorem dX3_init_37 : decode cX3_init 37 = .ok (.bipush 25, 2) := by decide +kernel
theorem dX3_init_39 : decode cX3_init 39 = .ok (.newarray .int, 2) := by decide +kernel
theorem dX3_init_41 : decode cX3_init 41 = .ok (.putfield 24, 3) := by decide +kernel
theorem dX3_init_44 : decode cX3_init 44 = .ok (.return_, 1) := by decide +kernel
def rmX3_init : Room := { frames := 1, cells := 5, slots := 121, locals := 20 }
set_option maxRecDepth 100000 in
def fX3_init_E (N : Nat) (x0 : Nat) (n0 s0 : Nat) (g : Gs) (d : Ds) : Option (Gs × Ds) := gd (¬ (24 : Int32) < 0) <| gd ((24 : Int32).toNatClampNeg ≤ 60000000) <| gd (gN g < 100000) <| gd (gN g + 1 - n0 ≤ 5 ∧ gS g + (24 : Int32).toNatClampNeg - s0 ≤ 121) <| bd (nG g 102 (24 : Int32).toNatClampNeg (24 : Int32).toNatClampNeg) fun g5 => (bd (nD g d) fun d6 => (bd (gN g) fun r7 => (gd (chk g5 x0 3) <| bd (sR g5 x0 0 r7) fun g10 => (gd (gN g10 < 100000) <| gd (gN g10 + 1 - n0 ≤ 5 ∧ gS g10 + (24 : Int32).toNatClampNeg - s0 ≤ 121) <| bd (nG g10 102 (24 : Int32).toNatClampNeg (24 : Int32).toNatClampNeg) fun g14 => (bd (nD g10 d6) fun d15 => (bd (gN g10) fun r16 => (gd (chk g14 x0 3) <| bd (sR g14 x0 1 r16) fun g19 => (gd (gN g19 < 100000) <| gd (gN g19 + 1 - n0 ≤ 5 ∧ gS g19 + (24 : Int32).toNatClampNeg - s0 ≤ 121) <| bd (nG g19 102 (24 : Int32).toNatClampNeg (24 : Int32).toNatClampNeg) fun g23 => (bd (nD g19 d15) fun d24 => (bd (gN g19) fun r25 => (gd (chk g23 x0 3) <| bd (sR g23 x0 2 r25) fun g28 => (gd (gN g28 < 100000) <| gd (gN g28 + 1 - n0 ≤ 5 ∧ gS g28 + (24 : Int32).toNatClampNeg - s0 ≤ 121) <| bd (nG g28 102 (24 : Int32).toNatClampNeg (24 : Int32).toNatClampNeg) fun g32 => (bd (nD g28 d24) fun d33 => (bd (gN g28) fun r34 => (gd (chk g32 x0 3) <| bd (sR g32 x0 3 r34) fun g37 => (gd (¬ (25 : Int32) < 0) <| gd ((25 : Int32).toNatClampNeg ≤ 60000000) <| gd (gN g37 < 100000) <| gd (gN g37 + 1 - n0 ≤ 5 ∧ gS g37 + (25 : Int32).toNatClampNeg - s0 ≤ 121) <| bd (nG g37 102 (25 : Int32).toNatClampNeg (25 : Int32).toNatClampNeg) fun g43 => (bd (nD g37 d33) fun d44 => (bd (gN g37) fun r45 => (gd (chk g43 x0 3) <| bd (sR g43 x0 7 r45) fun g48 => (gd (gN g48 = n0 + 5 ∧ gS g48 = s0 + 121) <| some (g48, d44)))))))))))))))))))))
def fX3_init (N : Nat) (x0 : Nat) (g : Gs) (d : Ds) : Option (Gs × Ds) := fX3_init_E N x0 (gN g) (gS g) g d
set_option maxHeartbeats 4000000 in
set_option maxRecDepth 100000 in
theorem tX3_init_E {p : Program} {l : Launch} {e : Env} {s : State} {m : MethodId} {args : Array Value} {below : List Frame} {meth : Method} {c : Code} {D : va_G} {cy : Nat → ClassId} {B : Bs} (C : Cx p s m args c cX3_init 1 RX3 D cy B) (hr : meth.sig.returnType = none) (hlocks : meth.locks = false) (hin : meth.name = "<init>") {n0 s0 : Nat} (hz : s.heap.size = B.1 + n0) {N : Nat} {x0 : Nat} {gz : Gs} {dz : Ds} {g : Gs} {d : Ds} (hn : n0 ≤ gN g) (hs : s0 ≤ gS g) (hf : fX3_init_E N x0 n0 s0 g d = some (gz, dz)) : WB p l e rmX3_init s m args below meth c 1 D cy B (gN g - n0) (gS g - s0) (MQ below (QV D cy B gz dz) args s 5 121 (wA B)) g d [(0, .ref (ad B x0))] 0 [] := by
  unfold fX3_init_E at hf
  refine b_aload_n C dX3_init_0 0 rfl rfl ?_
  refine b_objInit C oi_X3_3 oi_i oi_c (by decide) (by decide) dX3_init_1 ?_
  refine b_aload_n C dX3_init_4 0 rfl rfl ?_
  refine b_bipush C (v := 24) dX3_init_5 (by decide) ?_
  obtain ⟨h1, hf⟩ := gd_s hf
  obtain ⟨h2, hf⟩ := gd_s hf
  obtain ⟨h3, hf⟩ := gd_s hf
  obtain ⟨h4, hf⟩ := gd_s hf
  obtain ⟨g5, eg5, hf⟩ := bd_s hf
  obtain ⟨d6, ed6, hf⟩ := bd_s hf
  obtain ⟨r7, er7, hf⟩ := bd_s hf
  refine b_newaI C dX3_init_7 ar_int hz hn hs h3 h1 h2 h4 eg5 ed6 (fun hn8 hn8s => ?_)
  refine b_topR er7 ?_
  obtain ⟨h9, hf⟩ := gd_s hf
  obtain ⟨g10, eg10, hf⟩ := bd_s hf
  refine b_pRC C dX3_init_9 fq_X3_9 fr3_0 hin h9 eg10 ?_
  have hn11 : n0 ≤ gN g10 := by rw [eg10]; exact hn8
  have hn11s : s0 ≤ gS g10 := by rw [eg10]; exact hn8s
  refine b_aload_n C dX3_init_12 0 rfl rfl ?_
  refine b_bipush C (v := 24) dX3_init_13 (by decide) ?_
  obtain ⟨h12, hf⟩ := gd_s hf
  obtain ⟨h13, hf⟩ := gd_s hf
  obtain ⟨g14, eg14, hf⟩ := bd_s hf
  obtain ⟨d15, ed15, hf⟩ := bd_s hf
  obtain ⟨r16, er16, hf⟩ := bd_s hf
  refine b_newaI C dX3_init_15 ar_int hz hn11 hn11s h12 h1 h2 h13 eg14 ed15 (fun hn17 hn17s => ?_)
  refine b_topR er16 ?_
  obtain ⟨h18, hf⟩ := gd_s hf
  obtain ⟨g19, eg19, hf⟩ := bd_s hf
  refine b_pRC C dX3_init_17 fq_X3_15 fr3_1 hin h18 eg19 ?_
  have hn20 : n0 ≤ gN g19 := by rw [eg19]; exact hn17
  have hn20s : s0 ≤ gS g19 := by rw [eg19]; exact hn17s
  refine b_aload_n C dX3_init_20 0 rfl rfl ?_
  refine b_bipush C (v := 24) dX3_init_21 (by decide) ?_
  obtain ⟨h21, hf⟩ := gd_s hf
  obtain ⟨h22, hf⟩ := gd_s hf
  obtain ⟨g23, eg23, hf⟩ := bd_s hf
  obtain ⟨d24, ed24, hf⟩ := bd_s hf
  obtain ⟨r25, er25, hf⟩ := bd_s hf
  refine b_newaI C dX3_init_23 ar_int hz hn20 hn20s h21 h1 h2 h22 eg23 ed24 (fun hn26 hn26s => ?_)
  refine b_topR er25 ?_
  obtain ⟨h27, hf⟩ := gd_s hf
  obtain ⟨g28, eg28, hf⟩ := bd_s hf
  refine b_pRC C dX3_init_25 fq_X3_18 fr3_2 hin h27 eg28 ?_
  have hn29 : n0 ≤ gN g28 := by rw [eg28]; exact hn26
  have hn29s : s0 ≤ gS g28 := by rw [eg28]; exact hn26s
  refine b_aload_n C dX3_init_28 0 rfl rfl ?_
  refine b_bipush C (v := 24) dX3_init_29 (by decide) ?_
  obtain ⟨h30, hf⟩ := gd_s hf
  obtain ⟨h31, hf⟩ := gd_s hf
  obtain ⟨g32, eg32, hf⟩ := bd_s hf
  obtain ⟨d33, ed33, hf⟩ := bd_s hf
  obtain ⟨r34, er34, hf⟩ := bd_s hf
  refine b_newaI C dX3_init_31 ar_int hz hn29 hn29s h30 h1 h2 h31 eg32 ed33 (fun hn35 hn35s => ?_)
  refine b_topR er34 ?_
  obtain ⟨h36, hf⟩ := gd_s hf
  obtain ⟨g37, eg37, hf⟩ := bd_s hf
  refine b_pRC C dX3_init_33 fq_X3_21 fr3_3 hin h36 eg37 ?_
  have hn38 : n0 ≤ gN g37 := by rw [eg37]; exact hn35
  have hn38s : s0 ≤ gS g37 := by rw [eg37]; exact hn35s
  refine b_aload_n C dX3_init_36 0 rfl rfl ?_
  refine b_bipush C (v := 25) dX3_init_37 (by decide) ?_
  obtain ⟨h39, hf⟩ := gd_s hf
  obtain ⟨h40, hf⟩ := gd_s hf
  obtain ⟨h41, hf⟩ := gd_s hf
  obtain ⟨h42, hf⟩ := gd_s hf
  obtain ⟨g43, eg43, hf⟩ := bd_s hf
  obtain ⟨d44, ed44, hf⟩ := bd_s hf
  obtain ⟨r45, er45, hf⟩ := bd_s hf
  refine b_newaI C dX3_init_39 ar_int hz hn38 hn38s h41 h39 h40 h42 eg43 ed44 (fun hn46 hn46s => ?_)
  refine b_topR er45 ?_
  obtain ⟨h47, hf⟩ := gd_s hf
  obtain ⟨g48, eg48, hf⟩ := bd_s hf
  refine b_pRC C dX3_init_41 fq_X3_24 fr3_7 hin h47 eg48 ?_
  have hn49 : n0 ≤ gN g48 := by rw [eg48]; exact hn46
  have hn49s : s0 ≤ gS g48 := by rw [eg48]; exact hn46s
  obtain ⟨h50, hf⟩ := gd_s hf
  exact b_vretC C hr hlocks h50 hf dX3_init_44
theorem kX3_init (l : Launch) (D : va_G) (cy : Nat → ClassId) (B : Bs) {N : Nat} {g : Gs} {x0 : Nat} {gz : Gs} {dz : Ds} {d : Ds} (hf : fX3_init N x0 g d = some (gz, dz)) : Met l yX3_init (.code yX3_init cX3_init 1 none :: wl) rmX3_init (PCC D cy B [.ref (ad B x0)] g d) (QV D cy B gz dz) 5 121 (wA B) :=
  met_ofC (by decide +kernel) (Nat.le_of_ble_eq_true rfl) (fun p e s m args below meth c C hr hlocks hin hz => b_sub [(0, .ref (ad B x0))] [0] rfl (tX3_init_E C hr hlocks hin hz (Nat.le_refl _) (Nat.le_refl _) hf))
/-! KeyMatrix$Reports.<init>()V -/
theorem oi_X5_3 : Cond.methodLink RX5 3 objectInit ∈ wl := mW (mT2 (List.mem_of_getElem? (i := 144) (by decide +kernel))) rfl
theorem inl5 : ∀ w ∈ u_ws RX5 TX5 9, w ∈ wl := by
  have h0 : u_ws RX5 TX5 9 = [Cond.laysFinal "KeyMatrix$Reports" "KeyMatrix$Reports" "ticks" "[I", Cond.laysFinal "KeyMatrix$Reports" "KeyMatrix$Reports" "mods" "[I", Cond.laysFinal "KeyMatrix$Reports" "KeyMatrix$Reports" "counts" "[I", Cond.laysFinal "KeyMatrix$Reports" "KeyMatrix$Reports" "codes" "[I", Cond.lays "KeyMatrix$Reports" "KeyMatrix$Reports" "total" "I", Cond.lays "KeyMatrix$Reports" "KeyMatrix$Reports" "latest" "I", Cond.lays "KeyMatrix$Reports" "KeyMatrix$Reports" "since" "I", Cond.lays "KeyMatrix$Reports" "KeyMatrix$Reports" "repeats" "I", Cond.lays "KeyMatrix$Reports" "KeyMatrix$Reports" "repeatsOfLatest" "I"] := by decide +kernel
  rw [h0]
  exact List.forall_mem_cons.mpr ⟨mW (mT2 (List.mem_of_getElem? (i := 162) (by decide +kernel))) rfl, List.forall_mem_cons.mpr ⟨mW (mT2 (List.mem_of_getElem? (i := 164) (by decide +kernel))) rfl, List.forall_mem_cons.mpr ⟨mW (mT2 (List.mem_of_getElem? (i := 166) (by decide +kernel))) rfl, List.forall_mem_cons.mpr ⟨mW (mT2 (List.mem_of_getElem? (i := 168) (by decide +kernel))) rfl, List.forall_mem_cons.mpr ⟨mW (mT2 (List.mem_of_getElem? (i := 170) (by decide +kernel))) rfl, List.forall_mem_cons.mpr ⟨mW (mT2 (List.mem_of_getElem? (i := 172) (by decide +kernel))) rfl, List.forall_mem_cons.mpr ⟨mW (mT2 (List.mem_of_getElem? (i := 174) (by decide +kernel))) rfl, List.forall_mem_cons.mpr ⟨mW (mT2 (List.mem_of_getElem? (i := 176) (by decide +kernel))) rfl, List.forall_mem_cons.mpr ⟨mW (mT2 (List.mem_of_getElem? (i := 178) (by decide +kernel))) rfl, fun _ h => absurd h List.not_mem_nil⟩⟩⟩⟩⟩⟩⟩⟩⟩
theorem fq_X5_11 : FLP RX5 11 5 0 := ⟨⟨RX5, TX5, 9, rfl, by decide, inl5, mW (mT2 (List.mem_of_getElem? (i := 145) (by decide +kernel))) rfl⟩, by decide, by decide +kernel⟩
theorem ft5 : FT 5 := ⟨RX5, TX5, 9, tyX5, rfl, tyX5_ok, nmX5⟩
theorem fr5_0 : FPR 5 0 RX5 := ⟨ft5, (RX5, TX5, 9), rfl, by decide +kernel, rfl, fun ty h a => by rw [tyX5_ok 0 (by decide)] at h; cases h; exact ⟨rfl, rfl⟩⟩
theorem fq_X5_15 : FLP RX5 15 5 1 := ⟨⟨RX5, TX5, 9, rfl, by decide, inl5, mW (mT2 (List.mem_of_getElem? (i := 147) (by decide +kernel))) rfl⟩, by decide, by decide +kernel⟩
theorem fr5_1 : FPR 5 1 RX5 := ⟨ft5, (RX5, TX5, 9), rfl, by decide +kernel, rfl, fun ty h a => by rw [tyX5_ok 1 (by decide)] at h; cases h; exact ⟨rfl, rfl⟩⟩
theorem fq_X5_18 : FLP RX5 18 5 2 := ⟨⟨RX5, TX5, 9, rfl, by decide, inl5, mW (mT2 (List.mem_of_getElem? (i := 149) (by decide +kernel))) rfl⟩, by decide, by decide +kernel⟩
theorem fr5_2 : FPR 5 2 RX5 := ⟨ft5, (RX5, TX5, 9), rfl, by decide +kernel, rfl, fun ty h a => by rw [tyX5_ok 2 (by decide)] at h; cases h; exact ⟨rfl, rfl⟩⟩
theorem fq_X5_23 : FLP RX5 23 5 3 := ⟨⟨RX5, TX5, 9, rfl, by decide, inl5, mW (mT2 (List.mem_of_getElem? (i := 151) (by decide +kernel))) rfl⟩, by decide, by decide +kernel⟩
theorem fr5_3 : FPR 5 3 RX5 := ⟨ft5, (RX5, TX5, 9), rfl, by decide +kernel, rfl, fun ty h a => by rw [tyX5_ok 3 (by decide)] at h; cases h; exact ⟨rfl, rfl⟩⟩
theorem dX5_init_0 : decode cX5_init 0 = .ok (.aload_n 0, 1) := by decide +kernel
theorem dX5_init_1 : decode cX5_init 1 = .ok (.invokespecial 3, 3) := by decide +kernel
theorem dX5_init_4 : decode cX5_init 4 = .ok (.aload_n 0, 1) := by decide +kernel
theorem dX5_init_5 : decode cX5_init 5 = .ok (.bipush 40, 2) := by decide +kernel
theorem dX5_init_7 : decode cX5_init 7 = .ok (.newarray .int, 2) := by decide +kernel
theorem dX5_init_9 : decode cX5_init 9 = .ok (.putfield 11, 3) := by decide +kernel
theorem dX5_init_12 : decode cX5_init 12 = .ok (.aload_n 0, 1) := by decide +kernel
theorem dX5_init_13 : decode cX5_init 13 = .ok (.bipush 40, 2) := by decide +kernel
theorem dX5_init_15 : decode cX5_init 15 = .ok (.newarray .int, 2) := by decide +kernel
theorem dX5_init_17 : decode cX5_init 17 = .ok (.putfield 15, 3) := by decide +kernel
theorem dX5_init_20 : decode cX5_init 20 = .ok (.aload_n 0, 1) := by decide +kernel
theorem dX5_init_21 : decode cX5_init 21 = .ok (.bipush 40, 2) := by decide +kernel
theorem dX5_init_23 : decode cX5_init 23 = .ok (.newarray .int, 2) := by decide +kernel
theorem dX5_init_25 : decode cX5_init 25 = .ok (.putfield 18, 3) := by decide +kernel
theorem dX5_init_28 : decode cX5_init 28 = .ok (.aload_n 0, 1) := by decide +kernel
theorem dX5_init_29 : decode cX5_init 29 = .ok (.sipush 1000, 3) := by decide +kernel
theorem dX5_init_32 : decode cX5_init 32 = .ok (.newarray .int, 2) := by decide +kernel
theorem dX5_init_34 : decode cX5_init 34 = .ok (.putfield 23, 3) := by decide +kernel
theorem dX5_init_37 : decode cX5_init 37 = .ok (.return_, 1) := by decide +kernel
def rmX5_init : Room := { frames := 1, cells := 4, slots := 1120, locals := 20 }
set_option maxRecDepth 100000 in
def fX5_init_E (N : Nat) (x0 : Nat) (n0 s0 : Nat) (g : Gs) (d : Ds) : Option (Gs × Ds) := gd (¬ (40 : Int32) < 0) <| gd ((40 : Int32).toNatClampNeg ≤ 60000000) <| gd (gN g < 100000) <| gd (gN g + 1 - n0 ≤ 4 ∧ gS g + (40 : Int32).toNatClampNeg - s0 ≤ 1120) <| bd (nG g 102 (40 : Int32).toNatClampNeg (40 : Int32).toNatClampNeg) fun g5 => (bd (nD g d) fun d6 => (bd (gN g) fun r7 => (gd (chk g5 x0 5) <| bd (sR g5 x0 0 r7) fun g10 => (gd (gN g10 < 100000) <| gd (gN g10 + 1 - n0 ≤ 4 ∧ gS g10 + (40 : Int32).toNatClampNeg - s0 ≤ 1120) <| bd (nG g10 102 (40 : Int32).toNatClampNeg (40 : Int32).toNatClampNeg) fun g14 => (bd (nD g10 d6) fun d15 => (bd (gN g10) fun r16 => (gd (chk g14 x0 5) <| bd (sR g14 x0 1 r16) fun g19 => (gd (gN g19 < 100000) <| gd (gN g19 + 1 - n0 ≤ 4 ∧ gS g19 + (40 : Int32).toNatClampNeg - s0 ≤ 1120) <| bd (nG g19 102 (40 : Int32).toNatClampNeg (40 : Int32).toNatClampNeg) fun g23 => (bd (nD g19 d15) fun d24 => (bd (gN g19) fun r25 => (gd (chk g23 x0 5) <| bd (sR g23 x0 2 r25) fun g28 => (gd (¬ (1000 : Int32) < 0) <| gd ((1000 : Int32).toNatClampNeg ≤ 60000000) <| gd (gN g28 < 100000) <| gd (gN g28 + 1 - n0 ≤ 4 ∧ gS g28 + (1000 : Int32).toNatClampNeg - s0 ≤ 1120) <| bd (nG g28 102 (1000 : Int32).toNatClampNeg (1000 : Int32).toNatClampNeg) fun g34 => (bd (nD g28 d24) fun d35 => (bd (gN g28) fun r36 => (gd (chk g34 x0 5) <| bd (sR g34 x0 3 r36) fun g39 => (gd (gN g39 = n0 + 4 ∧ gS g39 = s0 + 1120) <| some (g39, d35)))))))))))))))))
def fX5_init (N : Nat) (x0 : Nat) (g : Gs) (d : Ds) : Option (Gs × Ds) := fX5_init_E N x0 (gN g) (gS g) g d
set_option maxHeartbeats 4000000 in
set_option maxRecDepth 100000 in
theorem tX5_init_E {p : Program} {l : Launch} {e : Env} {s : State} {m : MethodId} {args : Array Value} {below : List Frame} {meth : Method} {c : Code} {D : va_G} {cy : Nat → ClassId} {B : Bs} (C : Cx p s m args c cX5_init 1 RX5 D cy B) (hr : meth.sig.returnType = none) (hlocks : meth.locks = false) (hin : meth.name = "<init>") {n0 s0 : Nat} (hz : s.heap.size = B.1 + n0) {N : Nat} {x0 : Nat} {gz : Gs} {dz : Ds} {g : Gs} {d : Ds} (hn : n0 ≤ gN g) (hs : s0 ≤ gS g) (hf : fX5_init_E N x0 n0 s0 g d = some (gz, dz)) : WB p l e rmX5_init s m args below meth c 1 D cy B (gN g - n0) (gS g - s0) (MQ below (QV D cy B gz dz) args s 4 1120 (wA B)) g d [(0, .ref (ad B x0))] 0 [] := by
  unfold fX5_init_E at hf
  refine b_aload_n C dX5_init_0 0 rfl rfl ?_
  refine b_objInit C oi_X5_3 oi_i oi_c (by decide) (by decide) dX5_init_1 ?_
  refine b_aload_n C dX5_init_4 0 rfl rfl ?_
  refine b_bipush C (v := 40) dX5_init_5 (by decide) ?_
  obtain ⟨h1, hf⟩ := gd_s hf
  obtain ⟨h2, hf⟩ := gd_s hf
  obtain ⟨h3, hf⟩ := gd_s hf
  obtain ⟨h4, hf⟩ := gd_s hf
  obtain ⟨g5, eg5, hf⟩ := bd_s hf
  obtain ⟨d6, ed6, hf⟩ := bd_s hf
  obtain ⟨r7, er7, hf⟩ := bd_s hf
  refine b_newaI C dX5_init_7 ar_int hz hn hs h3 h1 h2 h4 eg5 ed6 (fun hn8 hn8s => ?_)
  refine b_topR er7 ?_
  obtain ⟨h9, hf⟩ := gd_s hf
  obtain ⟨g10, eg10, hf⟩ := bd_s hf
  refine b_pRC C dX5_init_9 fq_X5_11 fr5_0 hin h9 eg10 ?_
  have hn11 : n0 ≤ gN g10 := by rw [eg10]; exact hn8
  have hn11s : s0 ≤ gS g10 := by rw [eg10]; exact hn8s
  refine b_aload_n C dX5_init_12 0 rfl rfl ?_
  refine b_bipush C (v := 40) dX5_init_13 (by decide) ?_
  obtain ⟨h12, hf⟩ := gd_s hf
  obtain ⟨h13, hf⟩ := gd_s hf
  obtain ⟨g14, eg14, hf⟩ := bd_s hf
  obtain ⟨d15, ed15, hf⟩ := bd_s hf
  obtain ⟨r16, er16, hf⟩ := bd_s hf
  refine b_newaI C dX5_init_15 ar_int hz hn11 hn11s h12 h1 h2 h13 eg14 ed15 (fun hn17 hn17s => ?_)
  refine b_topR er16 ?_
  obtain ⟨h18, hf⟩ := gd_s hf
  obtain ⟨g19, eg19, hf⟩ := bd_s hf
  refine b_pRC C dX5_init_17 fq_X5_15 fr5_1 hin h18 eg19 ?_
  have hn20 : n0 ≤ gN g19 := by rw [eg19]; exact hn17
  have hn20s : s0 ≤ gS g19 := by rw [eg19]; exact hn17s
  refine b_aload_n C dX5_init_20 0 rfl rfl ?_
  refine b_bipush C (v := 40) dX5_init_21 (by decide) ?_
  obtain ⟨h21, hf⟩ := gd_s hf
  obtain ⟨h22, hf⟩ := gd_s hf
  obtain ⟨g23, eg23, hf⟩ := bd_s hf
  obtain ⟨d24, ed24, hf⟩ := bd_s hf
  obtain ⟨r25, er25, hf⟩ := bd_s hf
  refine b_newaI C dX5_init_23 ar_int hz hn20 hn20s h21 h1 h2 h22 eg23 ed24 (fun hn26 hn26s => ?_)
  refine b_topR er25 ?_
  obtain ⟨h27, hf⟩ := gd_s hf
  obtain ⟨g28, eg28, hf⟩ := bd_s hf
  refine b_pRC C dX5_init_25 fq_X5_18 fr5_2 hin h27 eg28 ?_
  have hn29 : n0 ≤ gN g28 := by rw [eg28]; exact hn26
  have hn29s : s0 ≤ gS g28 := by rw [eg28]; exact hn26s
  refine b_aload_n C dX5_init_28 0 rfl rfl ?_
  refine b_sipush C (v := 1000) dX5_init_29 (by decide) ?_
  obtain ⟨h30, hf⟩ := gd_s hf
  obtain ⟨h31, hf⟩ := gd_s hf
  obtain ⟨h32, hf⟩ := gd_s hf
  obtain ⟨h33, hf⟩ := gd_s hf
  obtain ⟨g34, eg34, hf⟩ := bd_s hf
  obtain ⟨d35, ed35, hf⟩ := bd_s hf
  obtain ⟨r36, er36, hf⟩ := bd_s hf
  refine b_newaI C dX5_init_32 ar_int hz hn29 hn29s h32 h30 h31 h33 eg34 ed35 (fun hn37 hn37s => ?_)
  refine b_topR er36 ?_
  obtain ⟨h38, hf⟩ := gd_s hf
  obtain ⟨g39, eg39, hf⟩ := bd_s hf
  refine b_pRC C dX5_init_34 fq_X5_23 fr5_3 hin h38 eg39 ?_
  have hn40 : n0 ≤ gN g39 := by rw [eg39]; exact hn37
  have hn40s : s0 ≤ gS g39 := by rw [eg39]; exact hn37s
  obtain ⟨h41, hf⟩ := gd_s hf
  exact b_vretC C hr hlocks h41 hf dX5_init_37
theorem kX5_init (l : Launch) (D : va_G) (cy : Nat → ClassId) (B : Bs) {N : Nat} {g : Gs} {x0 : Nat} {gz : Gs} {dz : Ds} {d : Ds} (hf : fX5_init N x0 g d = some (gz, dz)) : Met l yX5_init (.code yX5_init cX5_init 1 none :: wl) rmX5_init (PCC D cy B [.ref (ad B x0)] g d) (QV D cy B gz dz) 4 1120 (wA B) :=
  met_ofC (by decide +kernel) (Nat.le_of_ble_eq_true rfl) (fun p e s m args below meth c C hr hlocks hin hz => b_sub [(0, .ref (ad B x0))] [0] rfl (tX5_init_E C hr hlocks hin hz (Nat.le_refl _) (Nat.le_refl _) hf))
/-! KeyMatrix$Scan.clear()V -/
theorem fl_X6_28 : FLI RX6 28 6 0 := ⟨⟨RX6, TX6, 9, rfl, by decide, inl6, Or.inl (mW (mT2 (List.mem_of_getElem? (i := 34) (by decide +kernel))) rfl)⟩, by decide, by decide +kernel⟩
theorem fp6_0 : FPI 6 0 := ⟨ft6, (RX6, TX6, 9), rfl, by decide +kernel, by decide +kernel⟩
theorem fl_X6_32 : FLI RX6 32 6 1 := ⟨⟨RX6, TX6, 9, rfl, by decide, inl6, Or.inl (mW (mT2 (List.mem_of_getElem? (i := 36) (by decide +kernel))) rfl)⟩, by decide, by decide +kernel⟩
theorem fp6_1 : FPI 6 1 := ⟨ft6, (RX6, TX6, 9), rfl, by decide +kernel, by decide +kernel⟩
theorem fl_X6_35 : FLI RX6 35 6 2 := ⟨⟨RX6, TX6, 9, rfl, by decide, inl6, Or.inl (mW (mT2 (List.mem_of_getElem? (i := 38) (by decide +kernel))) rfl)⟩, by decide, by decide +kernel⟩
theorem fp6_2 : FPI 6 2 := ⟨ft6, (RX6, TX6, 9), rfl, by decide +kernel, by decide +kernel⟩
theorem fl_X6_38 : FLI RX6 38 6 3 := ⟨⟨RX6, TX6, 9, rfl, by decide, inl6, Or.inl (mW (mT2 (List.mem_of_getElem? (i := 40) (by decide +kernel))) rfl)⟩, by decide, by decide +kernel⟩
theorem fp6_3 : FPI 6 3 := ⟨ft6, (RX6, TX6, 9), rfl, by decide +kernel, by decide +kernel⟩
theorem fl_X6_9 : FLR RX6 9 6 4 := ⟨⟨RX6, TX6, 9, rfl, by decide, inl6, Or.inl (mW (mT2 (List.mem_of_getElem? (i := 43) (by decide +kernel))) rfl)⟩, by decide, by decide +kernel⟩
theorem fl_X6_15 : FLR RX6 15 6 5 := ⟨⟨RX6, TX6, 9, rfl, by decide, inl6, Or.inl (mW (mT2 (List.mem_of_getElem? (i := 45) (by decide +kernel))) rfl)⟩, by decide, by decide +kernel⟩
theorem fl_X6_19 : FLR RX6 19 6 6 := ⟨⟨RX6, TX6, 9, rfl, by decide, inl6, Or.inl (mW (mT2 (List.mem_of_getElem? (i := 47) (by decide +kernel))) rfl)⟩, by decide, by decide +kernel⟩
theorem fl_X6_22 : FLR RX6 22 6 7 := ⟨⟨RX6, TX6, 9, rfl, by decide, inl6, Or.inl (mW (mT2 (List.mem_of_getElem? (i := 49) (by decide +kernel))) rfl)⟩, by decide, by decide +kernel⟩
theorem fl_X6_25 : FLR RX6 25 6 8 := ⟨⟨RX6, TX6, 9, rfl, by decide, inl6, Or.inl (mW (mT2 (List.mem_of_getElem? (i := 51) (by decide +kernel))) rfl)⟩, by decide, by decide +kernel⟩
theorem dX6_clear_0 : decode cX6_clear 0 = .ok (.aload_n 0, 1) := by decide +kernel
theorem dX6_clear_1 : decode cX6_clear 1 = .ok (.iconst 0, 1) := by decide +kernel
theorem dX6_clear_2 : decode cX6_clear 2 = .ok (.putfield 28, 3) := by decide +kernel
theorem dX6_clear_5 : decode cX6_clear 5 = .ok (.aload_n 0, 1) := by decide +kernel
theorem dX6_clear_6 : decode cX6_clear 6 = .ok (.iconst 0, 1) := by decide +kernel
theorem dX6_clear_7 : decode cX6_clear 7 = .ok (.putfield 32, 3) := by decide +kernel
theorem dX6_clear_10 : decode cX6_clear 10 = .ok (.aload_n 0, 1) := by decide +kernel
theorem dX6_clear_11 : decode cX6_clear 11 = .ok (.iconst 0, 1) := by decide +kernel
theorem dX6_clear_12 : decode cX6_clear 12 = .ok (.putfield 35, 3) := by decide +kernel
theorem dX6_clear_15 : decode cX6_clear 15 = .ok (.aload_n 0, 1) := by decide +kernel
theorem dX6_clear_16 : decode cX6_clear 16 = .ok (.iconst 0, 1) := by decide +kernel
theorem dX6_clear_17 : decode cX6_clear 17 = .ok (.putfield 38, 3) := by decide +kernel
theorem dX6_clear_20 : decode cX6_clear 20 = .ok (.iconst 0, 1) := by decide +kernel
theorem dX6_clear_21 : decode cX6_clear 21 = .ok (.istore_n 1, 1) := by decide +kernel
theorem dX6_clear_22 : decode cX6_clear 22 = .ok (.iload_n 1, 1) := by decide +kernel
theorem dX6_clear_23 : decode cX6_clear 23 = .ok (.bipush 24, 2) := by decide +kernel
theorem dX6_clear_25 : decode cX6_clear 25 = .ok (.if_icmp .ge 44, 3) := by decide +kernel
theorem dX6_clear_28 : decode cX6_clear 28 = .ok (.aload_n 0, 1) := by decide +kernel
theorem dX6_clear_29 : decode cX6_clear 29 = .ok (.getfield 9, 3) := by decide +kernel
theorem dX6_clear_32 : decode cX6_clear 32 = .ok (.iload_n 1, 1) := by decide +kernel
theorem dX6_clear_33 : decode cX6_clear 33 = .ok (.iconst 0, 1) := by decide +kernel
theorem dX6_clear_34 : decode cX6_clear 34 = .ok (.iastore, 1) := by decide +kernel
theorem dX6_clear_35 : decode cX6_clear 35 = .ok (.aload_n 0, 1) := by decide +kernel
theorem dX6_clear_36 : decode cX6_clear 36 = .ok (.getfield 15, 3) := by decide +kernel
theorem dX6_clear_39 : decode cX6_clear 39 = .ok (.iload_n 1, 1) := by decide +kernel
theorem dX6_clear_40 : decode cX6_clear 40 = .ok (.fconst 0, 1) := by decide +kernel
theorem dX6_clear_41 : decode cX6_clear 41 = .ok (.fastore, 1) := by decide +kernel
theorem dX6_clear_42 : decode cX6_clear 42 = .ok (.aload_n 0, 1) := by decide +kernel
theorem dX6_clear_43 : decode cX6_clear 43 = .ok (.getfield 19, 3) := by decide +kernel
theorem dX6_clear_46 : decode cX6_clear 46 = .ok (.iload_n 1, 1) := by decide +kernel
theorem dX6_clear_47 : decode cX6_clear 47 = .ok (.iconst 0, 1) := by decide +kernel
theorem dX6_clear_48 : decode cX6_clear 48 = .ok (.iastore, 1) := by decide +kernel
theorem dX6_clear_49 : decode cX6_clear 49 = .ok (.aload_n 0, 1) := by decide +kernel
theorem dX6_clear_50 : decode cX6_clear 50 = .ok (.getfield 22, 3) := by decide +kernel
theorem dX6_clear_53 : decode cX6_clear 53 = .ok (.iload_n 1, 1) := by decide +kernel
theorem dX6_clear_54 : decode cX6_clear 54 = .ok (.iconst 0, 1) := by decide +kernel
theorem dX6_clear_55 : decode cX6_clear 55 = .ok (.iastore, 1) := by decide +kernel
theorem dX6_clear_56 : decode cX6_clear 56 = .ok (.aload_n 0, 1) := by decide +kernel
theorem dX6_clear_57 : decode cX6_clear 57 = .ok (.getfield 25, 3) := by decide +kernel
theorem dX6_clear_60 : decode cX6_clear 60 = .ok (.iload_n 1, 1) := by decide +kernel
theorem dX6_clear_61 : decode cX6_clear 61 = .ok (.iconst (-1), 1) := by decide +kernel
theorem dX6_clear_62 : decode cX6_clear 62 = .ok (.iastore, 1) := by decide +kernel
theorem dX6_clear_63 : decode cX6_clear 63 = .ok (.iinc 1 1, 3) := by decide +kernel
theorem dX6_clear_66 : decode cX6_clear 66 = .ok (.goto (-44), 3) := by decide +kernel
theorem dX6_clear_69 : decode cX6_clear 69 = .ok (.return_, 1) := by decide +kernel
def rmX6_clear : Room := { frames := 0, cells := 0, slots := 0, locals := 0 }
set_option maxRecDepth 100000 in
def fX6_clear_B22 (N : Nat) (g : Gs) (x0 : Nat) (K22 : Int32 × Ds → Option (Unit × Ds)) (y1 : Int32) (d : Ds) : Option (Unit × Ds) := if (24 : Int32) ≤ y1 then (some ((), d)) else (gd (chk g x0 6) <| ob (gR g x0 4) fun r8 => (gd (chk g r8 102) <| gd (¬ (y1 < 0 ∨ gL g r8 ≤ y1.toNatClampNeg)) <| bd (sI d r8 y1.toNatClampNeg 0) fun d11 => (ob (gR g x0 5) fun r12 => (gd (chk g r12 101) <| gd (¬ (y1 < 0 ∨ gL g r12 ≤ y1.toNatClampNeg)) <| bd (sF d11 r12 y1.toNatClampNeg FP.fconst0) fun d15 => (ob (gR g x0 6) fun r16 => (gd (chk g r16 102) <| gd (¬ (y1 < 0 ∨ gL g r16 ≤ y1.toNatClampNeg)) <| bd (sI d15 r16 y1.toNatClampNeg 0) fun d19 => (ob (gR g x0 7) fun r20 => (gd (chk g r20 102) <| gd (¬ (y1 < 0 ∨ gL g r20 ≤ y1.toNatClampNeg)) <| bd (sI d19 r20 y1.toNatClampNeg 0) fun d23 => (ob (gR g x0 8) fun r24 => (gd (chk g r24 102) <| gd (¬ (y1 < 0 ∨ gL g r24 ≤ y1.toNatClampNeg)) <| bd (sI d23 r24 y1.toNatClampNeg (-1)) fun d27 => (bd (y1 + 1) fun u28 => (K22 (u28, d27)))))))))))))
set_option maxHeartbeats 4000000 in
set_option maxRecDepth 100000 in
theorem tX6_clear_22 {p : Program} {l : Launch} {e : Env} {s : State} {m : MethodId} {args : Array Value} {below : List Frame} {meth : Method} {c : Code} {D : va_G} {cy : Nat → ClassId} {B : Bs} (C : Cx p s m args c cX6_clear 2 RX6 D cy B) (hr : meth.sig.returnType = none) (hlocks : meth.locks = false) {N : Nat} {g : Gs} {x0 : Nat}  {dz : Ds} {K22 : Int32 × Ds → Option (Unit × Ds)} (hK22 : ∀ a, K22 a = some ((), dz) → WB p l e rmX6_clear s m args below meth c 2 D cy B 0 0 (MQ below (QV D cy B g dz) args s 0 0 (wA B)) g a.2 [(0, .ref (ad B x0)), (1, .int a.1)] 22 []) {y1 : Int32} {d : Ds} (hf : fX6_clear_B22 N g x0 K22 y1 d = some ((), dz)) : WB p l e rmX6_clear s m args below meth c 2 D cy B 0 0 (MQ below (QV D cy B g dz) args s 0 0 (wA B)) g d [(0, .ref (ad B x0)), (1, .int y1)] 22 [] := by
  unfold fX6_clear_B22 at hf
  refine b_iload_n C dX6_clear_22 1 rfl rfl ?_
  refine b_bipush C (v := 24) dX6_clear_23 (by decide) ?_
  refine b_icmp_ge C (tgt := 69) dX6_clear_25 (by decide) (fun c6 => ?_) (fun c6 => ?_)
  · have hf := it_s c6 hf
    exact b_vret C hr hlocks hf dX6_clear_69
  · have hf := if_s c6 hf
    refine b_aload_n C dX6_clear_28 0 rfl rfl ?_
    obtain ⟨h7, hf⟩ := gd_s hf
    obtain ⟨r8, er8, hf⟩ := ob_s hf
    refine b_gR C dX6_clear_29 fl_X6_9 h7 er8 ?_
    refine b_iload_n C dX6_clear_32 1 rfl rfl ?_
    refine b_iconst C (v := 0) dX6_clear_33 (by decide) ?_
    obtain ⟨h9, hf⟩ := gd_s hf
    obtain ⟨h10, hf⟩ := gd_s hf
    obtain ⟨d11, ed11, hf⟩ := bd_s hf
    refine b_iast C h9 h10 ed11 dX6_clear_34 ?_
    refine b_aload_n C dX6_clear_35 0 rfl rfl ?_
    obtain ⟨r12, er12, hf⟩ := ob_s hf
    refine b_gR C dX6_clear_36 fl_X6_15 h7 er12 ?_
    refine b_iload_n C dX6_clear_39 1 rfl rfl ?_
    refine b_fconst0 C dX6_clear_40 ?_
    obtain ⟨h13, hf⟩ := gd_s hf
    obtain ⟨h14, hf⟩ := gd_s hf
    obtain ⟨d15, ed15, hf⟩ := bd_s hf
    refine b_fast C h13 h14 ed15 dX6_clear_41 ?_
    refine b_aload_n C dX6_clear_42 0 rfl rfl ?_
    obtain ⟨r16, er16, hf⟩ := ob_s hf
    refine b_gR C dX6_clear_43 fl_X6_19 h7 er16 ?_
    refine b_iload_n C dX6_clear_46 1 rfl rfl ?_
    refine b_iconst C (v := 0) dX6_clear_47 (by decide) ?_
    obtain ⟨h17, hf⟩ := gd_s hf
    obtain ⟨h18, hf⟩ := gd_s hf
    obtain ⟨d19, ed19, hf⟩ := bd_s hf
    refine b_iast C h17 h18 ed19 dX6_clear_48 ?_
    refine b_aload_n C dX6_clear_49 0 rfl rfl ?_
    obtain ⟨r20, er20, hf⟩ := ob_s hf
    refine b_gR C dX6_clear_50 fl_X6_22 h7 er20 ?_
    refine b_iload_n C dX6_clear_53 1 rfl rfl ?_
    refine b_iconst C (v := 0) dX6_clear_54 (by decide) ?_
    obtain ⟨h21, hf⟩ := gd_s hf
    obtain ⟨h22, hf⟩ := gd_s hf
    obtain ⟨d23, ed23, hf⟩ := bd_s hf
    refine b_iast C h21 h22 ed23 dX6_clear_55 ?_
    refine b_aload_n C dX6_clear_56 0 rfl rfl ?_
    obtain ⟨r24, er24, hf⟩ := ob_s hf
    refine b_gR C dX6_clear_57 fl_X6_25 h7 er24 ?_
    refine b_iload_n C dX6_clear_60 1 rfl rfl ?_
    refine b_iconst C (v := (-1)) dX6_clear_61 (by decide) ?_
    obtain ⟨h25, hf⟩ := gd_s hf
    obtain ⟨h26, hf⟩ := gd_s hf
    obtain ⟨d27, ed27, hf⟩ := bd_s hf
    refine b_iast C h25 h26 ed27 dX6_clear_62 ?_
    obtain ⟨u28, eu28, hf⟩ := bd_s hf
    refine b_iinc C dX6_clear_63 1 rfl (by rw [eu28]; rfl) [(1, .int u28), (0, .ref (ad B x0))] (by decide) rfl ?_
    refine b_goto C (tgt := 22) dX6_clear_66 (by decide) ?_
    refine b_sub [(0, .ref (ad B x0)), (1, .int u28)] [1, 0] rfl ?_
    exact hK22 (u28, d27) hf
def fX6_clear_L22 (N : Nat) (g : Gs) (x0 : Nat) : Int32 × Ds → Option (Unit × Ds) := lp (fun K22 a => fX6_clear_B22 N g x0 K22 a.1 a.2) N
theorem tX6_clear_L22 {p : Program} {l : Launch} {e : Env} {s : State} {m : MethodId} {args : Array Value} {below : List Frame} {meth : Method} {c : Code} {D : va_G} {cy : Nat → ClassId} {B : Bs} (C : Cx p s m args c cX6_clear 2 RX6 D cy B) (hr : meth.sig.returnType = none) (hlocks : meth.locks = false) {N : Nat} {g : Gs} {x0 : Nat}  {dz : Ds} (a : Int32 × Ds) (hf : fX6_clear_L22 N g x0 a = some ((), dz)) : WB p l e rmX6_clear s m args below meth c 2 D cy B 0 0 (MQ below (QV D cy B g dz) args s 0 0 (wA B)) g a.2 [(0, .ref (ad B x0)), (1, .int a.1)] 22 [] :=
  lp_w (fun K22 hK22 a ha => tX6_clear_22 C hr hlocks hK22 ha) N a hf
set_option maxRecDepth 100000 in
def fX6_clear (N : Nat) (g : Gs) (x0 : Nat) (d : Ds) : Option (Unit × Ds) := gd (chk g x0 6) <| bd (sI d x0 0 0) fun d2 => (bd (sI d2 x0 1 0) fun d3 => (bd (sI d3 x0 2 0) fun d4 => (bd (sI d4 x0 3 0) fun d5 => (fX6_clear_L22 N g x0 (0, d5)))))
set_option maxHeartbeats 4000000 in
set_option maxRecDepth 100000 in
theorem tX6_clear_E {p : Program} {l : Launch} {e : Env} {s : State} {m : MethodId} {args : Array Value} {below : List Frame} {meth : Method} {c : Code} {D : va_G} {cy : Nat → ClassId} {B : Bs} (C : Cx p s m args c cX6_clear 2 RX6 D cy B) (hr : meth.sig.returnType = none) (hlocks : meth.locks = false) {N : Nat} {g : Gs} {x0 : Nat}  {dz : Ds} {d : Ds} (hf : fX6_clear N g x0 d = some ((), dz)) : WB p l e rmX6_clear s m args below meth c 2 D cy B 0 0 (MQ below (QV D cy B g dz) args s 0 0 (wA B)) g d [(0, .ref (ad B x0))] 0 [] := by
  unfold fX6_clear at hf
  refine b_aload_n C dX6_clear_0 0 rfl rfl ?_
  refine b_iconst C (v := 0) dX6_clear_1 (by decide) ?_
  obtain ⟨h1, hf⟩ := gd_s hf
  obtain ⟨d2, ed2, hf⟩ := bd_s hf
  refine b_pI C dX6_clear_2 fl_X6_28 fp6_0 h1 ed2 ?_
  refine b_aload_n C dX6_clear_5 0 rfl rfl ?_
  refine b_iconst C (v := 0) dX6_clear_6 (by decide) ?_
  obtain ⟨d3, ed3, hf⟩ := bd_s hf
  refine b_pI C dX6_clear_7 fl_X6_32 fp6_1 h1 ed3 ?_
  refine b_aload_n C dX6_clear_10 0 rfl rfl ?_
  refine b_iconst C (v := 0) dX6_clear_11 (by decide) ?_
  obtain ⟨d4, ed4, hf⟩ := bd_s hf
  refine b_pI C dX6_clear_12 fl_X6_35 fp6_2 h1 ed4 ?_
  refine b_aload_n C dX6_clear_15 0 rfl rfl ?_
  refine b_iconst C (v := 0) dX6_clear_16 (by decide) ?_
  obtain ⟨d5, ed5, hf⟩ := bd_s hf
  refine b_pI C dX6_clear_17 fl_X6_38 fp6_3 h1 ed5 ?_
  refine b_iconst C (v := 0) dX6_clear_20 (by decide) ?_
  refine b_istore_n C dX6_clear_21 rfl [(1, .int 0), (0, .ref (ad B x0))] (by decide) rfl ?_
  refine b_sub [(0, .ref (ad B x0)), (1, .int 0)] [1, 0] rfl ?_
  exact tX6_clear_L22 C hr hlocks (0, d5) hf
theorem kX6_clear (l : Launch) (D : va_G) (cy : Nat → ClassId) (B : Bs) {N : Nat} {g : Gs} {x0 : Nat}  {dz : Ds} {d : Ds} (hf : fX6_clear N g x0 d = some ((), dz)) : Met l yX6_clear (.code yX6_clear cX6_clear 2 none :: wl) rmX6_clear (PC D cy B [.ref (ad B x0)] g d) (QV D cy B g dz) 0 0 (wA B) :=
  met_of (by decide +kernel) (Nat.le_of_ble_eq_true rfl) (fun p e s m args below meth c C hr hlocks _ => b_sub [(0, .ref (ad B x0))] [0] rfl (tX6_clear_E C hr hlocks hf))
