/-! KeyMatrix$Queue.clear()V -/
theorem inl4 : ∀ w ∈ u_ws RX4 TX4 3, w ∈ wl := by
  have h0 : u_ws RX4 TX4 3 = [Cond.laysFinal "KeyMatrix$Queue" "KeyMatrix$Queue" "events" "[I", Cond.lays "KeyMatrix$Queue" "KeyMatrix$Queue" "size" "I", Cond.lays "KeyMatrix$Queue" "KeyMatrix$Queue" "total" "I"] := by decide +kernel
  rw [h0]
  exact List.forall_mem_cons.mpr ⟨mW (mT2 (List.mem_of_getElem? (i := 85) (by decide +kernel))) rfl, List.forall_mem_cons.mpr ⟨mW (mT2 (List.mem_of_getElem? (i := 87) (by decide +kernel))) rfl, List.forall_mem_cons.mpr ⟨mW (mT2 (List.mem_of_getElem? (i := 89) (by decide +kernel))) rfl, fun _ h => absurd h List.not_mem_nil⟩⟩⟩
theorem fl_X4_15 : FLI RX4 15 4 1 := ⟨⟨RX4, TX4, 3, rfl, by decide, inl4, Or.inl (mW (mT2 (List.mem_of_getElem? (i := 80) (by decide +kernel))) rfl)⟩, by decide, by decide +kernel⟩
theorem ft4 : FT 4 := ⟨RX4, TX4, 3, tyX4, rfl, tyX4_ok, nmX4⟩
theorem fp4_1 : FPI 4 1 := ⟨ft4, (RX4, TX4, 3), rfl, by decide +kernel, by decide +kernel⟩
theorem fl_X4_19 : FLI RX4 19 4 2 := ⟨⟨RX4, TX4, 3, rfl, by decide, inl4, Or.inl (mW (mT2 (List.mem_of_getElem? (i := 83) (by decide +kernel))) rfl)⟩, by decide, by decide +kernel⟩
theorem fp4_2 : FPI 4 2 := ⟨ft4, (RX4, TX4, 3), rfl, by decide +kernel, by decide +kernel⟩
theorem dX4_clear_0 : decode cX4_clear 0 = .ok (.aload_n 0, 1) := by decide +kernel
theorem dX4_clear_1 : decode cX4_clear 1 = .ok (.iconst 0, 1) := by decide +kernel
theorem dX4_clear_2 : decode cX4_clear 2 = .ok (.putfield 15, 3) := by decide +kernel
theorem dX4_clear_5 : decode cX4_clear 5 = .ok (.aload_n 0, 1) := by decide +kernel
theorem dX4_clear_6 : decode cX4_clear 6 = .ok (.iconst 0, 1) := by decide +kernel
theorem dX4_clear_7 : decode cX4_clear 7 = .ok (.putfield 19, 3) := by decide +kernel
theorem dX4_clear_10 : decode cX4_clear 10 = .ok (.return_, 1) := by decide +kernel
def rmX4_clear : Room := { frames := 0, cells := 0, slots := 0, locals := 0 }
def fX4_clear (N : Nat) (g : Gs) (x0 : Nat) (d : Ds) : Option (Unit × Ds) := gd (chk g x0 4) <| bd (sI d x0 1 0) fun d2 => (bd (sI d2 x0 2 0) fun d3 => (some ((), d3)))
set_option maxHeartbeats 4000000 in
set_option maxRecDepth 100000 in
theorem tX4_clear_E {p : Program} {l : Launch} {e : Env} {s : State} {m : MethodId} {args : Array Value} {below : List Frame} {meth : Method} {c : Code} {D : va_G} {cy : Nat → ClassId} {B : Bs} (C : Cx p s m args c cX4_clear 1 RX4 D cy B) (hr : meth.sig.returnType = none) (hlocks : meth.locks = false) {N : Nat} {g : Gs} {x0 : Nat}  {dz : Ds} {d : Ds} (hf : fX4_clear N g x0 d = some ((), dz)) : WB p l e rmX4_clear s m args below meth c 1 D cy B 0 0 (MQ below (QV D cy B g dz) args s 0 0 (wA B)) g d [(0, .ref (ad B x0))] 0 [] := by
  unfold fX4_clear at hf
  refine b_aload_n C dX4_clear_0 0 rfl rfl ?_
  refine b_iconst C (v := 0) dX4_clear_1 (by decide) ?_
  obtain ⟨h1, hf⟩ := gd_s hf
  obtain ⟨d2, ed2, hf⟩ := bd_s hf
  refine b_pI C dX4_clear_2 fl_X4_15 fp4_1 h1 ed2 ?_
  refine b_aload_n C dX4_clear_5 0 rfl rfl ?_
  refine b_iconst C (v := 0) dX4_clear_6 (by decide) ?_
  obtain ⟨d3, ed3, hf⟩ := bd_s hf
  refine b_pI C dX4_clear_7 fl_X4_19 fp4_2 h1 ed3 ?_
  exact b_vret C hr hlocks hf dX4_clear_10
theorem kX4_clear (l : Launch) (D : va_G) (cy : Nat → ClassId) (B : Bs) {N : Nat} {g : Gs} {x0 : Nat}  {dz : Ds} {d : Ds} (hf : fX4_clear N g x0 d = some ((), dz)) : Met l yX4_clear (.code yX4_clear cX4_clear 1 none :: wl) rmX4_clear (PC D cy B [.ref (ad B x0)] g d) (QV D cy B g dz) 0 0 (wA B) :=
  met_of (by decide +kernel) (Nat.le_of_ble_eq_true rfl) (fun p e s m args below meth c C hr hlocks _ => b_sub [(0, .ref (ad B x0))] [0] rfl (tX4_clear_E C hr hlocks hf))
/-! KeyMatrix$Queue.copyFrom(LKeyMatrix$Queue;)V -/
theorem fl_X4_11 : FLR RX4 11 4 0 := ⟨⟨RX4, TX4, 3, rfl, by decide, inl4, Or.inl (mW (mT2 (List.mem_of_getElem? (i := 79) (by decide +kernel))) rfl)⟩, by decide, by decide +kernel⟩
theorem ac_X4_22 : Cond.methodLink RX4 22 arraycopyName ∈ wl := mW (mT4 (List.mem_of_getElem? (i := 131) (by decide +kernel))) rfl
theorem ac_n : Cond.native arraycopyName ∈ wl := mW (mT4 (List.mem_of_getElem? (i := 17) (by decide +kernel))) rfl
theorem ac_s : Cond.static arraycopyName ∈ wl := mW (mT4 (List.mem_of_getElem? (i := 16) (by decide +kernel))) rfl
theorem ac_i : Cond.initialized "java/lang/System" ∈ wl := mW (mT1 (List.mem_of_getElem? (i := 19) (by decide +kernel))) rfl
theorem dX4_copyFrom_0 : decode cX4_copyFrom 0 = .ok (.aload_n 0, 1) := by decide +kernel
theorem dX4_copyFrom_1 : decode cX4_copyFrom 1 = .ok (.aload_n 1, 1) := by decide +kernel
theorem dX4_copyFrom_2 : decode cX4_copyFrom 2 = .ok (.getfield 15, 3) := by decide +kernel
theorem dX4_copyFrom_5 : decode cX4_copyFrom 5 = .ok (.putfield 15, 3) := by decide +kernel
theorem dX4_copyFrom_8 : decode cX4_copyFrom 8 = .ok (.aload_n 0, 1) := by decide +kernel
theorem dX4_copyFrom_9 : decode cX4_copyFrom 9 = .ok (.aload_n 1, 1) := by decide +kernel
theorem dX4_copyFrom_10 : decode cX4_copyFrom 10 = .ok (.getfield 19, 3) := by decide +kernel
theorem dX4_copyFrom_13 : decode cX4_copyFrom 13 = .ok (.putfield 19, 3) := by decide +kernel
theorem dX4_copyFrom_16 : decode cX4_copyFrom 16 = .ok (.aload_n 1, 1) := by decide +kernel
theorem dX4_copyFrom_17 : decode cX4_copyFrom 17 = .ok (.getfield 11, 3) := by decide +kernel
theorem dX4_copyFrom_20 : decode cX4_copyFrom 20 = .ok (.iconst 0, 1) := by decide +kernel
theorem dX4_copyFrom_21 : decode cX4_copyFrom 21 = .ok (.aload_n 0, 1) := by decide +kernel
theorem dX4_copyFrom_22 : decode cX4_copyFrom 22 = .ok (.getfield 11, 3) := by decide +kernel
theorem dX4_copyFrom_25 : decode cX4_copyFrom 25 = .ok (.iconst 0, 1) := by decide +kernel
theorem dX4_copyFrom_26 : decode cX4_copyFrom 26 = .ok (.aload_n 1, 1) := by decide +kernel
theorem dX4_copyFrom_27 : decode cX4_copyFrom 27 = .ok (.getfield 15, 3) := by decide +kernel
theorem dX4_copyFrom_30 : decode cX4_copyFrom 30 = .ok (.invokestatic 22, 3) := by decide +kernel
theorem dX4_copyFrom_33 : decode cX4_copyFrom 33 = .ok (.return_, 1) := by decide +kernel
def rmX4_copyFrom : Room := { frames := 1, cells := 0, slots := 0, locals := 40 }
def fX4_copyFrom (N : Nat) (g : Gs) (x0 : Nat) (x1 : Nat) (d : Ds) : Option (Unit × Ds) := gd (chk g x1 4) <| gd (chk g x0 4) <| bd (sI d x0 1 (dI d x1 1)) fun d3 => (bd (sI d3 x0 2 (dI d3 x1 2)) fun d4 => (ob (gR g x1 0) fun r5 => (ob (gR g x0 0) fun r6 => (gd (chk g r5 102) <| gd (chk g r6 102) <| gd (¬ (0 : Int32) < 0) <| gd (¬ (dI d4 x1 1) < 0) <| gd ((0 : Int32).toNatClampNeg + (dI d4 x1 1).toNatClampNeg ≤ gL g r5) <| gd ((0 : Int32).toNatClampNeg + (dI d4 x1 1).toNatClampNeg ≤ gL g r6) <| bd (cI d4 r5 r6 (0 : Int32).toNatClampNeg (0 : Int32).toNatClampNeg (dI d4 x1 1).toNatClampNeg) fun d13 => (some ((), d13))))))
set_option maxHeartbeats 4000000 in
set_option maxRecDepth 100000 in
theorem tX4_copyFrom_E {p : Program} {l : Launch} {e : Env} {s : State} {m : MethodId} {args : Array Value} {below : List Frame} {meth : Method} {c : Code} {D : va_G} {cy : Nat → ClassId} {B : Bs} (C : Cx p s m args c cX4_copyFrom 2 RX4 D cy B) (hr : meth.sig.returnType = none) (hlocks : meth.locks = false) {N : Nat} {g : Gs} {x0 : Nat} {x1 : Nat}  {dz : Ds} {d : Ds} (hf : fX4_copyFrom N g x0 x1 d = some ((), dz)) : WB p l e rmX4_copyFrom s m args below meth c 2 D cy B 0 0 (MQ below (QV D cy B g dz) args s 0 0 (wA B)) g d [(0, .ref (ad B x0)), (1, .ref (ad B x1))] 0 [] := by
  unfold fX4_copyFrom at hf
  refine b_aload_n C dX4_copyFrom_0 0 rfl rfl ?_
  refine b_aload_n C dX4_copyFrom_1 1 rfl rfl ?_
  obtain ⟨h1, hf⟩ := gd_s hf
  refine b_gI C dX4_copyFrom_2 fl_X4_15 h1 ?_
  obtain ⟨h2, hf⟩ := gd_s hf
  obtain ⟨d3, ed3, hf⟩ := bd_s hf
  refine b_pI C dX4_copyFrom_5 fl_X4_15 fp4_1 h2 ed3 ?_
  refine b_aload_n C dX4_copyFrom_8 0 rfl rfl ?_
  refine b_aload_n C dX4_copyFrom_9 1 rfl rfl ?_
  refine b_gI C dX4_copyFrom_10 fl_X4_19 h1 ?_
  obtain ⟨d4, ed4, hf⟩ := bd_s hf
  refine b_pI C dX4_copyFrom_13 fl_X4_19 fp4_2 h2 ed4 ?_
  refine b_aload_n C dX4_copyFrom_16 1 rfl rfl ?_
  obtain ⟨r5, er5, hf⟩ := ob_s hf
  refine b_gR C dX4_copyFrom_17 fl_X4_11 h1 er5 ?_
  refine b_iconst C (v := 0) dX4_copyFrom_20 (by decide) ?_
  refine b_aload_n C dX4_copyFrom_21 0 rfl rfl ?_
  obtain ⟨r6, er6, hf⟩ := ob_s hf
  refine b_gR C dX4_copyFrom_22 fl_X4_11 h2 er6 ?_
  refine b_iconst C (v := 0) dX4_copyFrom_25 (by decide) ?_
  refine b_aload_n C dX4_copyFrom_26 1 rfl rfl ?_
  refine b_gI C dX4_copyFrom_27 fl_X4_15 h1 ?_
  obtain ⟨h7, hf⟩ := gd_s hf
  obtain ⟨h8, hf⟩ := gd_s hf
  obtain ⟨h9, hf⟩ := gd_s hf
  obtain ⟨h10, hf⟩ := gd_s hf
  obtain ⟨h11, hf⟩ := gd_s hf
  obtain ⟨h12, hf⟩ := gd_s hf
  obtain ⟨d13, ed13, hf⟩ := bd_s hf
  refine b_copyI C ac_X4_22 ac_n ac_s ac_i h7 h8 h9 h9 h10 h11 h12 ed13 (by decide) (by decide +kernel) dX4_copyFrom_30 ?_
  exact b_vret C hr hlocks hf dX4_copyFrom_33
theorem kX4_copyFrom (l : Launch) (D : va_G) (cy : Nat → ClassId) (B : Bs) {N : Nat} {g : Gs} {x0 : Nat} {x1 : Nat}  {dz : Ds} {d : Ds} (hf : fX4_copyFrom N g x0 x1 d = some ((), dz)) : Met l yX4_copyFrom (.code yX4_copyFrom cX4_copyFrom 2 none :: wl) rmX4_copyFrom (PC D cy B [.ref (ad B x0), .ref (ad B x1)] g d) (QV D cy B g dz) 0 0 (wA B) :=
  met_of (by decide +kernel) (Nat.le_of_ble_eq_true rfl) (fun p e s m args below meth c C hr hlocks _ => b_sub [(0, .ref (ad B x0)), (1, .ref (ad B x1))] [0, 1] rfl (tX4_copyFrom_E C hr hlocks hf))
/-! KeyMatrix$Queue.add(IZI)V -/
theorem dX4_add_0 : decode cX4_add 0 = .ok (.aload_n 0, 1) := by decide +kernel
theorem dX4_add_1 : decode cX4_add 1 = .ok (.getfield 15, 3) := by decide +kernel
theorem dX4_add_4 : decode cX4_add 4 = .ok (.sipush 2400, 3) := by decide +kernel
theorem dX4_add_7 : decode cX4_add 7 = .ok (.if_icmp .ge 50, 3) := by decide +kernel
theorem dX4_add_10 : decode cX4_add 10 = .ok (.aload_n 0, 1) := by decide +kernel
theorem dX4_add_11 : decode cX4_add 11 = .ok (.getfield 11, 3) := by decide +kernel
theorem dX4_add_14 : decode cX4_add 14 = .ok (.aload_n 0, 1) := by decide +kernel
theorem dX4_add_15 : decode cX4_add 15 = .ok (.getfield 15, 3) := by decide +kernel
theorem dX4_add_18 : decode cX4_add 18 = .ok (.iload_n 3, 1) := by decide +kernel
theorem dX4_add_19 : decode cX4_add 19 = .ok (.bipush 64, 2) := by decide +kernel
theorem dX4_add_21 : decode cX4_add 21 = .ok (.imul, 1) := by decide +kernel
theorem dX4_add_22 : decode cX4_add 22 = .ok (.iload_n 1, 1) := by decide +kernel
theorem dX4_add_23 : decode cX4_add 23 = .ok (.iconst 2, 1) := by decide +kernel
theorem dX4_add_24 : decode cX4_add 24 = .ok (.imul, 1) := by decide +kernel
theorem dX4_add_25 : decode cX4_add 25 = .ok (.iadd, 1) := by decide +kernel
theorem dX4_add_26 : decode cX4_add 26 = .ok (.iload_n 2, 1) := by decide +kernel
theorem dX4_add_27 : decode cX4_add 27 = .ok (.ifCond .eq 7, 3) := by decide +kernel
theorem dX4_add_30 : decode cX4_add 30 = .ok (.iconst 1, 1) := by decide +kernel
theorem dX4_add_31 : decode cX4_add 31 = .ok (.goto 4, 3) := by decide +kernel
theorem dX4_add_34 : decode cX4_add 34 = .ok (.iconst 0, 1) := by decide +kernel
theorem dX4_add_35 : decode cX4_add 35 = .ok (.iadd, 1) := by decide +kernel
theorem dX4_add_36 : decode cX4_add 36 = .ok (.iastore, 1) := by decide +kernel
theorem dX4_add_37 : decode cX4_add 37 = .ok (.aload_n 0, 1) := by decide +kernel
theorem dX4_add_38 : decode cX4_add 38 = .ok (.dup, 1) := by decide +kernel
theorem dX4_add_39 : decode cX4_add 39 = .ok (.getfield 15, 3) := by decide +kernel
theorem dX4_add_42 : decode cX4_add 42 = .ok (.iconst 1, 1) := by decide +kernel
theorem dX4_add_43 : decode cX4_add 43 = .ok (.iadd, 1) := by decide +kernel
theorem dX4_add_44 : decode cX4_add 44 = .ok (.putfield 15, 3) := by decide +kernel
theorem dX4_add_47 : decode cX4_add 47 = .ok (.aload_n 0, 1) := by decide +kernel
theorem dX4_add_48 : decode cX4_add 48 = .ok (.dup, 1) := by decide +kernel
theorem dX4_add_49 : decode cX4_add 49 = .ok (.getfield 19, 3) := by decide +kernel
theorem dX4_add_52 : decode cX4_add 52 = .ok (.iconst 1, 1) := by decide +kernel
theorem dX4_add_53 : decode cX4_add 53 = .ok (.iadd, 1) := by decide +kernel
theorem dX4_add_54 : decode cX4_add 54 = .ok (.putfield 19, 3) := by decide +kernel
theorem dX4_add_57 : decode cX4_add 57 = .ok (.return_, 1) := by decide +kernel
def rmX4_add : Room := { frames := 0, cells := 0, slots := 0, locals := 0 }
def fX4_add_J57 (N : Nat) (g : Gs) (x0 : Nat) (x1 : Int32) (x2 : Int32) (x3 : Int32) (d : Ds) : Option (Unit × Ds) := some ((), d)
set_option maxHeartbeats 4000000 in
set_option maxRecDepth 100000 in
theorem tX4_add_57 {p : Program} {l : Launch} {e : Env} {s : State} {m : MethodId} {args : Array Value} {below : List Frame} {meth : Method} {c : Code} {D : va_G} {cy : Nat → ClassId} {B : Bs} (C : Cx p s m args c cX4_add 4 RX4 D cy B) (hr : meth.sig.returnType = none) (hlocks : meth.locks = false) {N : Nat} {g : Gs} {x0 : Nat} {x1 : Int32} {x2 : Int32} {x3 : Int32}  {dz : Ds} {d : Ds} (hf : fX4_add_J57 N g x0 x1 x2 x3 d = some ((), dz)) : WB p l e rmX4_add s m args below meth c 4 D cy B 0 0 (MQ below (QV D cy B g dz) args s 0 0 (wA B)) g d [(0, .ref (ad B x0)), (1, .int x1), (2, .int x2), (3, .int x3)] 57 [] := by
  unfold fX4_add_J57 at hf
  exact b_vret C hr hlocks hf dX4_add_57
def fX4_add_J35 (N : Nat) (g : Gs) (x0 : Nat) (x1 : Int32) (x2 : Int32) (x3 : Int32) (z0 : Int32) (z1 : Int32) (z2 : Int32) (z3 : Nat) (d : Ds) : Option (Unit × Ds) := gd (chk g z3 102) <| gd (¬ (z2 < 0 ∨ gL g z3 ≤ z2.toNatClampNeg)) <| bd (sI d z3 z2.toNatClampNeg (z1 + z0)) fun d7 => (gd (chk g x0 4) <| bd (sI d7 x0 1 ((dI d7 x0 1) + 1)) fun d9 => (bd (sI d9 x0 2 ((dI d9 x0 2) + 1)) fun d10 => (fX4_add_J57 N g x0 x1 x2 x3 d10)))
set_option maxHeartbeats 4000000 in
set_option maxRecDepth 100000 in
theorem tX4_add_35 {p : Program} {l : Launch} {e : Env} {s : State} {m : MethodId} {args : Array Value} {below : List Frame} {meth : Method} {c : Code} {D : va_G} {cy : Nat → ClassId} {B : Bs} (C : Cx p s m args c cX4_add 4 RX4 D cy B) (hr : meth.sig.returnType = none) (hlocks : meth.locks = false) {N : Nat} {g : Gs} {x0 : Nat} {x1 : Int32} {x2 : Int32} {x3 : Int32}  {dz : Ds} {z0 : Int32} {z1 : Int32} {z2 : Int32} {z3 : Nat} {d : Ds} (hf : fX4_add_J35 N g x0 x1 x2 x3 z0 z1 z2 z3 d = some ((), dz)) : WB p l e rmX4_add s m args below meth c 4 D cy B 0 0 (MQ below (QV D cy B g dz) args s 0 0 (wA B)) g d [(0, .ref (ad B x0)), (1, .int x1), (2, .int x2), (3, .int x3)] 35 [.int z0, .int z1, .int z2, .ref (ad B z3)] := by
  unfold fX4_add_J35 at hf
  refine b_iadd C dX4_add_35 ?_
  obtain ⟨h5, hf⟩ := gd_s hf
  obtain ⟨h6, hf⟩ := gd_s hf
  obtain ⟨d7, ed7, hf⟩ := bd_s hf
  refine b_iast C h5 h6 ed7 dX4_add_36 ?_
  refine b_aload_n C dX4_add_37 0 rfl rfl ?_
  refine b_dup C dX4_add_38 rfl ?_
  obtain ⟨h8, hf⟩ := gd_s hf
  refine b_gI C dX4_add_39 fl_X4_15 h8 ?_
  refine b_iconst C (v := 1) dX4_add_42 (by decide) ?_
  refine b_iadd C dX4_add_43 ?_
  obtain ⟨d9, ed9, hf⟩ := bd_s hf
  refine b_pI C dX4_add_44 fl_X4_15 fp4_1 h8 ed9 ?_
  refine b_aload_n C dX4_add_47 0 rfl rfl ?_
  refine b_dup C dX4_add_48 rfl ?_
  refine b_gI C dX4_add_49 fl_X4_19 h8 ?_
  refine b_iconst C (v := 1) dX4_add_52 (by decide) ?_
  refine b_iadd C dX4_add_53 ?_
  obtain ⟨d10, ed10, hf⟩ := bd_s hf
  refine b_pI C dX4_add_54 fl_X4_19 fp4_2 h8 ed10 ?_
  refine b_sub [(0, .ref (ad B x0)), (1, .int x1), (2, .int x2), (3, .int x3)] [0, 1, 2, 3] rfl ?_
  exact tX4_add_57 C hr hlocks hf
def fX4_add (N : Nat) (g : Gs) (x0 : Nat) (x1 : Int32) (x2 : Int32) (x3 : Int32) (d : Ds) : Option (Unit × Ds) := gd (chk g x0 4) <| if (2400 : Int32) ≤ (dI d x0 1) then (fX4_add_J57 N g x0 x1 x2 x3 d) else (ob (gR g x0 0) fun r3 => (if x2 = 0 then (fX4_add_J35 N g x0 x1 x2 x3 0 ((x3 * 64) + (x1 * 2)) (dI d x0 1) r3 d) else (fX4_add_J35 N g x0 x1 x2 x3 1 ((x3 * 64) + (x1 * 2)) (dI d x0 1) r3 d)))
set_option maxHeartbeats 4000000 in
set_option maxRecDepth 100000 in
theorem tX4_add_E {p : Program} {l : Launch} {e : Env} {s : State} {m : MethodId} {args : Array Value} {below : List Frame} {meth : Method} {c : Code} {D : va_G} {cy : Nat → ClassId} {B : Bs} (C : Cx p s m args c cX4_add 4 RX4 D cy B) (hr : meth.sig.returnType = none) (hlocks : meth.locks = false) {N : Nat} {g : Gs} {x0 : Nat} {x1 : Int32} {x2 : Int32} {x3 : Int32}  {dz : Ds} {d : Ds} (hf : fX4_add N g x0 x1 x2 x3 d = some ((), dz)) : WB p l e rmX4_add s m args below meth c 4 D cy B 0 0 (MQ below (QV D cy B g dz) args s 0 0 (wA B)) g d [(0, .ref (ad B x0)), (1, .int x1), (2, .int x2), (3, .int x3)] 0 [] := by
  unfold fX4_add at hf
  refine b_aload_n C dX4_add_0 0 rfl rfl ?_
  obtain ⟨h1, hf⟩ := gd_s hf
  refine b_gI C dX4_add_1 fl_X4_15 h1 ?_
  refine b_sipush C (v := 2400) dX4_add_4 (by decide) ?_
  refine b_icmp_ge C (tgt := 57) dX4_add_7 (by decide) (fun c2 => ?_) (fun c2 => ?_)
  · have hf := it_s c2 hf
    refine b_sub [(0, .ref (ad B x0)), (1, .int x1), (2, .int x2), (3, .int x3)] [0, 1, 2, 3] rfl ?_
    exact tX4_add_57 C hr hlocks hf
  · have hf := if_s c2 hf
    refine b_aload_n C dX4_add_10 0 rfl rfl ?_
    obtain ⟨r3, er3, hf⟩ := ob_s hf
    refine b_gR C dX4_add_11 fl_X4_11 h1 er3 ?_
    refine b_aload_n C dX4_add_14 0 rfl rfl ?_
    refine b_gI C dX4_add_15 fl_X4_15 h1 ?_
    refine b_iload_n C dX4_add_18 3 rfl rfl ?_
    refine b_bipush C (v := 64) dX4_add_19 (by decide) ?_
    refine b_imul C dX4_add_21 ?_
    refine b_iload_n C dX4_add_22 1 rfl rfl ?_
    refine b_iconst C (v := 2) dX4_add_23 (by decide) ?_
    refine b_imul C dX4_add_24 ?_
    refine b_iadd C dX4_add_25 ?_
    refine b_iload_n C dX4_add_26 2 rfl rfl ?_
    refine b_if_eq C (tgt := 34) dX4_add_27 (by decide) (fun c4 => ?_) (fun c4 => ?_)
    · have hf := it_s c4 hf
      refine b_iconst C (v := 0) dX4_add_34 (by decide) ?_
      refine b_sub [(0, .ref (ad B x0)), (1, .int x1), (2, .int x2), (3, .int x3)] [0, 1, 2, 3] rfl ?_
      exact tX4_add_35 C hr hlocks hf
    · have hf := if_s c4 hf
      refine b_iconst C (v := 1) dX4_add_30 (by decide) ?_
      refine b_goto C (tgt := 35) dX4_add_31 (by decide) ?_
      refine b_sub [(0, .ref (ad B x0)), (1, .int x1), (2, .int x2), (3, .int x3)] [0, 1, 2, 3] rfl ?_
      exact tX4_add_35 C hr hlocks hf
theorem kX4_add (l : Launch) (D : va_G) (cy : Nat → ClassId) (B : Bs) {N : Nat} {g : Gs} {x0 : Nat} {x1 : Int32} {x2 : Int32} {x3 : Int32}  {dz : Ds} {d : Ds} (hf : fX4_add N g x0 x1 x2 x3 d = some ((), dz)) : Met l yX4_add (.code yX4_add cX4_add 4 none :: wl) rmX4_add (PC D cy B [.ref (ad B x0), .int x1, .int x2, .int x3] g d) (QV D cy B g dz) 0 0 (wA B) :=
  met_of (by decide +kernel) (Nat.le_of_ble_eq_true rfl) (fun p e s m args below meth c C hr hlocks _ => b_sub [(0, .ref (ad B x0)), (1, .int x1), (2, .int x2), (3, .int x3)] [0, 1, 2, 3] rfl (tX4_add_E C hr hlocks hf))
/-! KeyMatrix$Queue.isDownAt(I)Z -/
theorem dX4_isDownAt_0 : decode cX4_isDownAt 0 = .ok (.iload_n 1, 1) := by decide +kernel
theorem dX4_isDownAt_1 : decode cX4_isDownAt 1 = .ok (.ifCond .lt 27, 3) := by decide +kernel
theorem dX4_isDownAt_4 : decode cX4_isDownAt 4 = .ok (.iload_n 1, 1) := by decide +kernel
theorem dX4_isDownAt_5 : decode cX4_isDownAt 5 = .ok (.aload_n 0, 1) := by decide +kernel
theorem dX4_isDownAt_6 : decode cX4_isDownAt 6 = .ok (.getfield 15, 3) := by decide +kernel
theorem dX4_isDownAt_9 : decode cX4_isDownAt 9 = .ok (.if_icmp .ge 19, 3) := by decide +kernel
theorem dX4_isDownAt_12 : decode cX4_isDownAt 12 = .ok (.aload_n 0, 1) := by decide +kernel
theorem dX4_isDownAt_13 : decode cX4_isDownAt 13 = .ok (.getfield 11, 3) := by decide +kernel
theorem dX4_isDownAt_16 : decode cX4_isDownAt 16 = .ok (.iload_n 1, 1) := by decide +kernel
theorem dX4_isDownAt_17 : decode cX4_isDownAt 17 = .ok (.iaload, 1) := by decide +kernel
theorem dX4_isDownAt_18 : decode cX4_isDownAt 18 = .ok (.iconst 2, 1) := by decide +kernel
theorem dX4_isDownAt_19 : decode cX4_isDownAt 19 = .ok (.irem, 1) := by decide +kernel
theorem dX4_isDownAt_20 : decode cX4_isDownAt 20 = .ok (.iconst 1, 1) := by decide +kernel
theorem dX4_isDownAt_21 : decode cX4_isDownAt 21 = .ok (.if_icmp .ne 7, 3) := by decide +kernel
theorem dX4_isDownAt_24 : decode cX4_isDownAt 24 = .ok (.iconst 1, 1) := by decide +kernel
theorem dX4_isDownAt_25 : decode cX4_isDownAt 25 = .ok (.goto 4, 3) := by decide +kernel
theorem dX4_isDownAt_28 : decode cX4_isDownAt 28 = .ok (.iconst 0, 1) := by decide +kernel
theorem dX4_isDownAt_29 : decode cX4_isDownAt 29 = .ok (.ireturn, 1) := by decide +kernel
def rmX4_isDownAt : Room := { frames := 0, cells := 0, slots := 0, locals := 0 }
def fX4_isDownAt_J29 (N : Nat) (g : Gs) (x0 : Nat) (x1 : Int32) (z0 : Int32) (d : Ds) : Option (Int32 × Ds) := gd (z0 = 0 ∨ z0 = 1) <| some (z0, d)
set_option maxHeartbeats 4000000 in
set_option maxRecDepth 100000 in
theorem tX4_isDownAt_29 {p : Program} {l : Launch} {e : Env} {s : State} {m : MethodId} {args : Array Value} {below : List Frame} {meth : Method} {c : Code} {D : va_G} {cy : Nat → ClassId} {B : Bs} (C : Cx p s m args c cX4_isDownAt 2 RX4 D cy B) (hr : meth.sig.returnType = (some .boolean)) (hlocks : meth.locks = false) {N : Nat} {g : Gs} {x0 : Nat} {x1 : Int32} {vz : Int32} {dz : Ds} {z0 : Int32} {d : Ds} (hf : fX4_isDownAt_J29 N g x0 x1 z0 d = some (vz, dz)) : WB p l e rmX4_isDownAt s m args below meth c 2 D cy B 0 0 (MQ below (QI D cy B vz g dz) args s 0 0 (wA B)) g d [(0, .ref (ad B x0)), (1, .int x1)] 29 [.int z0] := by
  unfold fX4_isDownAt_J29 at hf
  obtain ⟨h2, hf⟩ := gd_s hf
  exact b_zret C hr hlocks h2 hf dX4_isDownAt_29
def fX4_isDownAt_J28 (N : Nat) (g : Gs) (x0 : Nat) (x1 : Int32) (d : Ds) : Option (Int32 × Ds) := fX4_isDownAt_J29 N g x0 x1 0 d
set_option maxHeartbeats 4000000 in
set_option maxRecDepth 100000 in
theorem tX4_isDownAt_28 {p : Program} {l : Launch} {e : Env} {s : State} {m : MethodId} {args : Array Value} {below : List Frame} {meth : Method} {c : Code} {D : va_G} {cy : Nat → ClassId} {B : Bs} (C : Cx p s m args c cX4_isDownAt 2 RX4 D cy B) (hr : meth.sig.returnType = (some .boolean)) (hlocks : meth.locks = false) {N : Nat} {g : Gs} {x0 : Nat} {x1 : Int32} {vz : Int32} {dz : Ds} {d : Ds} (hf : fX4_isDownAt_J28 N g x0 x1 d = some (vz, dz)) : WB p l e rmX4_isDownAt s m args below meth c 2 D cy B 0 0 (MQ below (QI D cy B vz g dz) args s 0 0 (wA B)) g d [(0, .ref (ad B x0)), (1, .int x1)] 28 [] := by
  unfold fX4_isDownAt_J28 at hf
  refine b_iconst C (v := 0) dX4_isDownAt_28 (by decide) ?_
  refine b_sub [(0, .ref (ad B x0)), (1, .int x1)] [0, 1] rfl ?_
  exact tX4_isDownAt_29 C hr hlocks hf
def fX4_isDownAt (N : Nat) (g : Gs) (x0 : Nat) (x1 : Int32) (d : Ds) : Option (Int32 × Ds) := if x1 < 0 then (fX4_isDownAt_J28 N g x0 x1 d) else (gd (chk g x0 4) <| if (dI d x0 1) ≤ x1 then (fX4_isDownAt_J28 N g x0 x1 d) else (ob (gR g x0 0) fun r5 => (gd (chk g r5 102) <| gd (¬ (x1 < 0 ∨ gL g r5 ≤ x1.toNatClampNeg)) <| gd (¬ (2 : Int32) = 0) <| if ((dI d r5 x1.toNatClampNeg) - (dI d r5 x1.toNatClampNeg) / 2 * 2) = (1 : Int32) then (fX4_isDownAt_J29 N g x0 x1 1 d) else (fX4_isDownAt_J28 N g x0 x1 d))))
set_option maxHeartbeats 4000000 in
set_option maxRecDepth 100000 in
theorem tX4_isDownAt_E {p : Program} {l : Launch} {e : Env} {s : State} {m : MethodId} {args : Array Value} {below : List Frame} {meth : Method} {c : Code} {D : va_G} {cy : Nat → ClassId} {B : Bs} (C : Cx p s m args c cX4_isDownAt 2 RX4 D cy B) (hr : meth.sig.returnType = (some .boolean)) (hlocks : meth.locks = false) {N : Nat} {g : Gs} {x0 : Nat} {x1 : Int32} {vz : Int32} {dz : Ds} {d : Ds} (hf : fX4_isDownAt N g x0 x1 d = some (vz, dz)) : WB p l e rmX4_isDownAt s m args below meth c 2 D cy B 0 0 (MQ below (QI D cy B vz g dz) args s 0 0 (wA B)) g d [(0, .ref (ad B x0)), (1, .int x1)] 0 [] := by
  unfold fX4_isDownAt at hf
  refine b_iload_n C dX4_isDownAt_0 1 rfl rfl ?_
  refine b_if_lt C (tgt := 28) dX4_isDownAt_1 (by decide) (fun c1 => ?_) (fun c1 => ?_)
  · have hf := it_s c1 hf
    refine b_sub [(0, .ref (ad B x0)), (1, .int x1)] [0, 1] rfl ?_
    exact tX4_isDownAt_28 C hr hlocks hf
  · have hf := if_s c1 hf
    refine b_iload_n C dX4_isDownAt_4 1 rfl rfl ?_
    refine b_aload_n C dX4_isDownAt_5 0 rfl rfl ?_
    obtain ⟨h3, hf⟩ := gd_s hf
    refine b_gI C dX4_isDownAt_6 fl_X4_15 h3 ?_
    refine b_icmp_ge C (tgt := 28) dX4_isDownAt_9 (by decide) (fun c4 => ?_) (fun c4 => ?_)
    · have hf := it_s c4 hf
      refine b_sub [(0, .ref (ad B x0)), (1, .int x1)] [0, 1] rfl ?_
      exact tX4_isDownAt_28 C hr hlocks hf
    · have hf := if_s c4 hf
      refine b_aload_n C dX4_isDownAt_12 0 rfl rfl ?_
      obtain ⟨r5, er5, hf⟩ := ob_s hf
      refine b_gR C dX4_isDownAt_13 fl_X4_11 h3 er5 ?_
      refine b_iload_n C dX4_isDownAt_16 1 rfl rfl ?_
      obtain ⟨h6, hf⟩ := gd_s hf
      obtain ⟨h7, hf⟩ := gd_s hf
      refine b_iald C h6 h7 dX4_isDownAt_17 ?_
      refine b_iconst C (v := 2) dX4_isDownAt_18 (by decide) ?_
      obtain ⟨h8, hf⟩ := gd_s hf
      refine b_irem C dX4_isDownAt_19 h8 ?_
      refine b_iconst C (v := 1) dX4_isDownAt_20 (by decide) ?_
      refine b_icmp_ne C (tgt := 28) dX4_isDownAt_21 (by decide) (fun c9 => ?_) (fun c9 => ?_)
      · have hf := if_s c9 hf
        refine b_sub [(0, .ref (ad B x0)), (1, .int x1)] [0, 1] rfl ?_
        exact tX4_isDownAt_28 C hr hlocks hf
      · have hf := it_s c9 hf
        refine b_iconst C (v := 1) dX4_isDownAt_24 (by decide) ?_
        refine b_goto C (tgt := 29) dX4_isDownAt_25 (by decide) ?_
        refine b_sub [(0, .ref (ad B x0)), (1, .int x1)] [0, 1] rfl ?_
        exact tX4_isDownAt_29 C hr hlocks hf
theorem kX4_isDownAt (l : Launch) (D : va_G) (cy : Nat → ClassId) (B : Bs) {N : Nat} {g : Gs} {x0 : Nat} {x1 : Int32} {vz : Int32} {dz : Ds} {d : Ds} (hf : fX4_isDownAt N g x0 x1 d = some (vz, dz)) : Met l yX4_isDownAt (.code yX4_isDownAt cX4_isDownAt 2 (some .boolean) :: wl) rmX4_isDownAt (PC D cy B [.ref (ad B x0), .int x1] g d) (QI D cy B vz g dz) 0 0 (wA B) :=
  met_of (by decide +kernel) (Nat.le_of_ble_eq_true rfl) (fun p e s m args below meth c C hr hlocks _ => b_sub [(0, .ref (ad B x0)), (1, .int x1)] [0, 1] rfl (tX4_isDownAt_E C hr hlocks hf))
/-! KeyMatrix$Queue.keyAt(I)I -/
theorem dX4_keyAt_0 : decode cX4_keyAt 0 = .ok (.iload_n 1, 1) := by decide +kernel
theorem dX4_keyAt_1 : decode cX4_keyAt 1 = .ok (.ifCond .lt 11, 3) := by decide +kernel
theorem dX4_keyAt_4 : decode cX4_keyAt 4 = .ok (.iload_n 1, 1) := by decide +kernel
theorem dX4_keyAt_5 : decode cX4_keyAt 5 = .ok (.aload_n 0, 1) := by decide +kernel
theorem dX4_keyAt_6 : decode cX4_keyAt 6 = .ok (.getfield 15, 3) := by decide +kernel
theorem dX4_keyAt_9 : decode cX4_keyAt 9 = .ok (.if_icmp .lt 7, 3) := by decide +kernel
theorem dX4_keyAt_12 : decode cX4_keyAt 12 = .ok (.iconst (-1), 1) := by decide +kernel
theorem dX4_keyAt_13 : decode cX4_keyAt 13 = .ok (.goto 14, 3) := by decide +kernel
theorem dX4_keyAt_16 : decode cX4_keyAt 16 = .ok (.aload_n 0, 1) := by decide +kernel
theorem dX4_keyAt_17 : decode cX4_keyAt 17 = .ok (.getfield 11, 3) := by decide +kernel
theorem dX4_keyAt_20 : decode cX4_keyAt 20 = .ok (.iload_n 1, 1) := by decide +kernel
theorem dX4_keyAt_21 : decode cX4_keyAt 21 = .ok (.iaload, 1) := by decide +kernel
theorem dX4_keyAt_22 : decode cX4_keyAt 22 = .ok (.bipush 64, 2) := by decide +kernel
theorem dX4_keyAt_24 : decode cX4_keyAt 24 = .ok (.irem, 1) := by decide +kernel
theorem dX4_keyAt_25 : decode cX4_keyAt 25 = .ok (.iconst 2, 1) := by decide +kernel
theorem dX4_keyAt_26 : decode cX4_keyAt 26 = .ok (.idiv, 1) := by decide +kernel
theorem dX4_keyAt_27 : decode cX4_keyAt 27 = .ok (.ireturn, 1) := by decide +kernel
def rmX4_keyAt : Room := { frames := 0, cells := 0, slots := 0, locals := 0 }
def fX4_keyAt_J27 (N : Nat) (g : Gs) (x0 : Nat) (x1 : Int32) (z0 : Int32) (d : Ds) : Option (Int32 × Ds) := some (z0, d)
set_option maxHeartbeats 4000000 in
set_option maxRecDepth 100000 in
theorem tX4_keyAt_27 {p : Program} {l : Launch} {e : Env} {s : State} {m : MethodId} {args : Array Value} {below : List Frame} {meth : Method} {c : Code} {D : va_G} {cy : Nat → ClassId} {B : Bs} (C : Cx p s m args c cX4_keyAt 2 RX4 D cy B) (hr : meth.sig.returnType = (some .int)) (hlocks : meth.locks = false) {N : Nat} {g : Gs} {x0 : Nat} {x1 : Int32} {vz : Int32} {dz : Ds} {z0 : Int32} {d : Ds} (hf : fX4_keyAt_J27 N g x0 x1 z0 d = some (vz, dz)) : WB p l e rmX4_keyAt s m args below meth c 2 D cy B 0 0 (MQ below (QI D cy B vz g dz) args s 0 0 (wA B)) g d [(0, .ref (ad B x0)), (1, .int x1)] 27 [.int z0] := by
  unfold fX4_keyAt_J27 at hf
  exact b_iret C hr hlocks hf dX4_keyAt_27
def fX4_keyAt_J12 (N : Nat) (g : Gs) (x0 : Nat) (x1 : Int32) (d : Ds) : Option (Int32 × Ds) := fX4_keyAt_J27 N g x0 x1 (-1) d
set_option maxHeartbeats 4000000 in
set_option maxRecDepth 100000 in
theorem tX4_keyAt_12 {p : Program} {l : Launch} {e : Env} {s : State} {m : MethodId} {args : Array Value} {below : List Frame} {meth : Method} {c : Code} {D : va_G} {cy : Nat → ClassId} {B : Bs} (C : Cx p s m args c cX4_keyAt 2 RX4 D cy B) (hr : meth.sig.returnType = (some .int)) (hlocks : meth.locks = false) {N : Nat} {g : Gs} {x0 : Nat} {x1 : Int32} {vz : Int32} {dz : Ds} {d : Ds} (hf : fX4_keyAt_J12 N g x0 x1 d = some (vz, dz)) : WB p l e rmX4_keyAt s m args below meth c 2 D cy B 0 0 (MQ below (QI D cy B vz g dz) args s 0 0 (wA B)) g d [(0, .ref (ad B x0)), (1, .int x1)] 12 [] := by
  unfold fX4_keyAt_J12 at hf
  refine b_iconst C (v := (-1)) dX4_keyAt_12 (by decide) ?_
  refine b_goto C (tgt := 27) dX4_keyAt_13 (by decide) ?_
  refine b_sub [(0, .ref (ad B x0)), (1, .int x1)] [0, 1] rfl ?_
  exact tX4_keyAt_27 C hr hlocks hf
def fX4_keyAt (N : Nat) (g : Gs) (x0 : Nat) (x1 : Int32) (d : Ds) : Option (Int32 × Ds) := if x1 < 0 then (fX4_keyAt_J12 N g x0 x1 d) else (gd (chk g x0 4) <| if x1 < (dI d x0 1) then (ob (gR g x0 0) fun r4 => (gd (chk g r4 102) <| gd (¬ (x1 < 0 ∨ gL g r4 ≤ x1.toNatClampNeg)) <| gd (¬ (64 : Int32) = 0) <| gd (¬ (2 : Int32) = 0) <| fX4_keyAt_J27 N g x0 x1 (((dI d r4 x1.toNatClampNeg) - (dI d r4 x1.toNatClampNeg) / 64 * 64) / 2) d)) else (fX4_keyAt_J12 N g x0 x1 d))
set_option maxHeartbeats 4000000 in
set_option maxRecDepth 100000 in
theorem tX4_keyAt_E {p : Program} {l : Launch} {e : Env} {s : State} {m : MethodId} {args : Array Value} {below : List Frame} {meth : Method} {c : Code} {D : va_G} {cy : Nat → ClassId} {B : Bs} (C : Cx p s m args c cX4_keyAt 2 RX4 D cy B) (hr : meth.sig.returnType = (some .int)) (hlocks : meth.locks = false) {N : Nat} {g : Gs} {x0 : Nat} {x1 : Int32} {vz : Int32} {dz : Ds} {d : Ds} (hf : fX4_keyAt N g x0 x1 d = some (vz, dz)) : WB p l e rmX4_keyAt s m args below meth c 2 D cy B 0 0 (MQ below (QI D cy B vz g dz) args s 0 0 (wA B)) g d [(0, .ref (ad B x0)), (1, .int x1)] 0 [] := by
  unfold fX4_keyAt at hf
  refine b_iload_n C dX4_keyAt_0 1 rfl rfl ?_
  refine b_if_lt C (tgt := 12) dX4_keyAt_1 (by decide) (fun c1 => ?_) (fun c1 => ?_)
  · have hf := it_s c1 hf
    refine b_sub [(0, .ref (ad B x0)), (1, .int x1)] [0, 1] rfl ?_
    exact tX4_keyAt_12 C hr hlocks hf
  · have hf := if_s c1 hf
    refine b_iload_n C dX4_keyAt_4 1 rfl rfl ?_
    refine b_aload_n C dX4_keyAt_5 0 rfl rfl ?_
    obtain ⟨h2, hf⟩ := gd_s hf
    refine b_gI C dX4_keyAt_6 fl_X4_15 h2 ?_
    refine b_icmp_lt C (tgt := 16) dX4_keyAt_9 (by decide) (fun c3 => ?_) (fun c3 => ?_)
    · have hf := it_s c3 hf
      refine b_aload_n C dX4_keyAt_16 0 rfl rfl ?_
      obtain ⟨r4, er4, hf⟩ := ob_s hf
      refine b_gR C dX4_keyAt_17 fl_X4_11 h2 er4 ?_
      refine b_iload_n C dX4_keyAt_20 1 rfl rfl ?_
      obtain ⟨h5, hf⟩ := gd_s hf
      obtain ⟨h6, hf⟩ := gd_s hf
      refine b_iald C h5 h6 dX4_keyAt_21 ?_
      refine b_bipush C (v := 64) dX4_keyAt_22 (by decide) ?_
      obtain ⟨h7, hf⟩ := gd_s hf
      refine b_irem C dX4_keyAt_24 h7 ?_
      refine b_iconst C (v := 2) dX4_keyAt_25 (by decide) ?_
      obtain ⟨h8, hf⟩ := gd_s hf
      refine b_idiv C dX4_keyAt_26 h8 ?_
      refine b_sub [(0, .ref (ad B x0)), (1, .int x1)] [0, 1] rfl ?_
      exact tX4_keyAt_27 C hr hlocks hf
    · have hf := if_s c3 hf
      refine b_sub [(0, .ref (ad B x0)), (1, .int x1)] [0, 1] rfl ?_
      exact tX4_keyAt_12 C hr hlocks hf
theorem kX4_keyAt (l : Launch) (D : va_G) (cy : Nat → ClassId) (B : Bs) {N : Nat} {g : Gs} {x0 : Nat} {x1 : Int32} {vz : Int32} {dz : Ds} {d : Ds} (hf : fX4_keyAt N g x0 x1 d = some (vz, dz)) : Met l yX4_keyAt (.code yX4_keyAt cX4_keyAt 2 (some .int) :: wl) rmX4_keyAt (PC D cy B [.ref (ad B x0), .int x1] g d) (QI D cy B vz g dz) 0 0 (wA B) :=
  met_of (by decide +kernel) (Nat.le_of_ble_eq_true rfl) (fun p e s m args below meth c C hr hlocks _ => b_sub [(0, .ref (ad B x0)), (1, .int x1)] [0, 1] rfl (tX4_keyAt_E C hr hlocks hf))
/-! KeyMatrix$Queue.tickAt(I)I -/
theorem dX4_tickAt_0 : decode cX4_tickAt 0 = .ok (.iload_n 1, 1) := by decide +kernel
theorem dX4_tickAt_1 : decode cX4_tickAt 1 = .ok (.ifCond .lt 11, 3) := by decide +kernel
theorem dX4_tickAt_4 : decode cX4_tickAt 4 = .ok (.iload_n 1, 1) := by decide +kernel
theorem dX4_tickAt_5 : decode cX4_tickAt 5 = .ok (.aload_n 0, 1) := by decide +kernel
theorem dX4_tickAt_6 : decode cX4_tickAt 6 = .ok (.getfield 15, 3) := by decide +kernel
theorem dX4_tickAt_9 : decode cX4_tickAt 9 = .ok (.if_icmp .lt 7, 3) := by decide +kernel
theorem dX4_tickAt_12 : decode cX4_tickAt 12 = .ok (.iconst (-1), 1) := by decide +kernel
theorem dX4_tickAt_13 : decode cX4_tickAt 13 = .ok (.goto 12, 3) := by decide +kernel
theorem dX4_tickAt_16 : decode cX4_tickAt 16 = .ok (.aload_n 0, 1) := by decide +kernel
theorem dX4_tickAt_17 : decode cX4_tickAt 17 = .ok (.getfield 11, 3) := by decide +kernel
theorem dX4_tickAt_20 : decode cX4_tickAt 20 = .ok (.iload_n 1, 1) := by decide +kernel
theorem dX4_tickAt_21 : decode cX4_tickAt 21 = .ok (.iaload, 1) := by decide +kernel
theorem dX4_tickAt_22 : decode cX4_tickAt 22 = .ok (.bipush 64, 2) := by decide +kernel
theorem dX4_tickAt_24 : decode cX4_tickAt 24 = .ok (.idiv, 1) := by decide +kernel
theorem dX4_tickAt_25 : decode cX4_tickAt 25 = .ok (.ireturn, 1) := by decide +kernel
def rmX4_tickAt : Room := { frames := 0, cells := 0, slots := 0, locals := 0 }
def fX4_tickAt_J25 (N : Nat) (g : Gs) (x0 : Nat) (x1 : Int32) (z0 : Int32) (d : Ds) : Option (Int32 × Ds) := some (z0, d)
set_option maxHeartbeats 4000000 in
set_option maxRecDepth 100000 in
theorem tX4_tickAt_25 {p : Program} {l : Launch} {e : Env} {s : State} {m : MethodId} {args : Array Value} {below : List Frame} {meth : Method} {c : Code} {D : va_G} {cy : Nat → ClassId} {B : Bs} (C : Cx p s m args c cX4_tickAt 2 RX4 D cy B) (hr : meth.sig.returnType = (some .int)) (hlocks : meth.locks = false) {N : Nat} {g : Gs} {x0 : Nat} {x1 : Int32} {vz : Int32} {dz : Ds} {z0 : Int32} {d : Ds} (hf : fX4_tickAt_J25 N g x0 x1 z0 d = some (vz, dz)) : WB p l e rmX4_tickAt s m args below meth c 2 D cy B 0 0 (MQ below (QI D cy B vz g dz) args s 0 0 (wA B)) g d [(0, .ref (ad B x0)), (1, .int x1)] 25 [.int z0] := by
  unfold fX4_tickAt_J25 at hf
  exact b_iret C hr hlocks hf dX4_tickAt_25
def fX4_tickAt_J12 (N : Nat) (g : Gs) (x0 : Nat) (x1 : Int32) (d : Ds) : Option (Int32 × Ds) := fX4_tickAt_J25 N g x0 x1 (-1) d
set_option maxHeartbeats 4000000 in
set_option maxRecDepth 100000 in
theorem tX4_tickAt_12 {p : Program} {l : Launch} {e : Env} {s : State} {m : MethodId} {args : Array Value} {below : List Frame} {meth : Method} {c : Code} {D : va_G} {cy : Nat → ClassId} {B : Bs} (C : Cx p s m args c cX4_tickAt 2 RX4 D cy B) (hr : meth.sig.returnType = (some .int)) (hlocks : meth.locks = false) {N : Nat} {g : Gs} {x0 : Nat} {x1 : Int32} {vz : Int32} {dz : Ds} {d : Ds} (hf : fX4_tickAt_J12 N g x0 x1 d = some (vz, dz)) : WB p l e rmX4_tickAt s m args below meth c 2 D cy B 0 0 (MQ below (QI D cy B vz g dz) args s 0 0 (wA B)) g d [(0, .ref (ad B x0)), (1, .int x1)] 12 [] := by
  unfold fX4_tickAt_J12 at hf
  refine b_iconst C (v := (-1)) dX4_tickAt_12 (by decide) ?_
  refine b_goto C (tgt := 25) dX4_tickAt_13 (by decide) ?_
  refine b_sub [(0, .ref (ad B x0)), (1, .int x1)] [0, 1] rfl ?_
  exact tX4_tickAt_25 C hr hlocks hf
def fX4_tickAt (N : Nat) (g : Gs) (x0 : Nat) (x1 : Int32) (d : Ds) : Option (Int32 × Ds) := if x1 < 0 then (fX4_tickAt_J12 N g x0 x1 d) else (gd (chk g x0 4) <| if x1 < (dI d x0 1) then (ob (gR g x0 0) fun r4 => (gd (chk g r4 102) <| gd (¬ (x1 < 0 ∨ gL g r4 ≤ x1.toNatClampNeg)) <| gd (¬ (64 : Int32) = 0) <| fX4_tickAt_J25 N g x0 x1 ((dI d r4 x1.toNatClampNeg) / 64) d)) else (fX4_tickAt_J12 N g x0 x1 d))
set_option maxHeartbeats 4000000 in
set_option maxRecDepth 100000 in
theorem tX4_tickAt_E {p : Program} {l : Launch} {e : Env} {s : State} {m : MethodId} {args : Array Value} {below : List Frame} {meth : Method} {c : Code} {D : va_G} {cy : Nat → ClassId} {B : Bs} (C : Cx p s m args c cX4_tickAt 2 RX4 D cy B) (hr : meth.sig.returnType = (some .int)) (hlocks : meth.locks = false) {N : Nat} {g : Gs} {x0 : Nat} {x1 : Int32} {vz : Int32} {dz : Ds} {d : Ds} (hf : fX4_tickAt N g x0 x1 d = some (vz, dz)) : WB p l e rmX4_tickAt s m args below meth c 2 D cy B 0 0 (MQ below (QI D cy B vz g dz) args s 0 0 (wA B)) g d [(0, .ref (ad B x0)), (1, .int x1)] 0 [] := by
  unfold fX4_tickAt at hf
  refine b_iload_n C dX4_tickAt_0 1 rfl rfl ?_
  refine b_if_lt C (tgt := 12) dX4_tickAt_1 (by decide) (fun c1 => ?_) (fun c1 => ?_)
  · have hf := it_s c1 hf
    refine b_sub [(0, .ref (ad B x0)), (1, .int x1)] [0, 1] rfl ?_
    exact tX4_tickAt_12 C hr hlocks hf
  · have hf := if_s c1 hf
    refine b_iload_n C dX4_tickAt_4 1 rfl rfl ?_
    refine b_aload_n C dX4_tickAt_5 0 rfl rfl ?_
    obtain ⟨h2, hf⟩ := gd_s hf
    refine b_gI C dX4_tickAt_6 fl_X4_15 h2 ?_
    refine b_icmp_lt C (tgt := 16) dX4_tickAt_9 (by decide) (fun c3 => ?_) (fun c3 => ?_)
    · have hf := it_s c3 hf
      refine b_aload_n C dX4_tickAt_16 0 rfl rfl ?_
      obtain ⟨r4, er4, hf⟩ := ob_s hf
      refine b_gR C dX4_tickAt_17 fl_X4_11 h2 er4 ?_
      refine b_iload_n C dX4_tickAt_20 1 rfl rfl ?_
      obtain ⟨h5, hf⟩ := gd_s hf
      obtain ⟨h6, hf⟩ := gd_s hf
      refine b_iald C h5 h6 dX4_tickAt_21 ?_
      refine b_bipush C (v := 64) dX4_tickAt_22 (by decide) ?_
      obtain ⟨h7, hf⟩ := gd_s hf
      refine b_idiv C dX4_tickAt_24 h7 ?_
      refine b_sub [(0, .ref (ad B x0)), (1, .int x1)] [0, 1] rfl ?_
      exact tX4_tickAt_25 C hr hlocks hf
    · have hf := if_s c3 hf
      refine b_sub [(0, .ref (ad B x0)), (1, .int x1)] [0, 1] rfl ?_
      exact tX4_tickAt_12 C hr hlocks hf
theorem kX4_tickAt (l : Launch) (D : va_G) (cy : Nat → ClassId) (B : Bs) {N : Nat} {g : Gs} {x0 : Nat} {x1 : Int32} {vz : Int32} {dz : Ds} {d : Ds} (hf : fX4_tickAt N g x0 x1 d = some (vz, dz)) : Met l yX4_tickAt (.code yX4_tickAt cX4_tickAt 2 (some .int) :: wl) rmX4_tickAt (PC D cy B [.ref (ad B x0), .int x1] g d) (QI D cy B vz g dz) 0 0 (wA B) :=
  met_of (by decide +kernel) (Nat.le_of_ble_eq_true rfl) (fun p e s m args below meth c C hr hlocks _ => b_sub [(0, .ref (ad B x0)), (1, .int x1)] [0, 1] rfl (tX4_tickAt_E C hr hlocks hf))
/-! KeyMatrix$Queue.drop(I)V -/
theorem dX4_drop_0 : decode cX4_drop 0 = .ok (.iload_n 1, 1) := by decide +kernel
theorem dX4_drop_1 : decode cX4_drop 1 = .ok (.ifCond .lt 44, 3) := by decide +kernel
theorem dX4_drop_4 : decode cX4_drop 4 = .ok (.iload_n 1, 1) := by decide +kernel
theorem dX4_drop_5 : decode cX4_drop 5 = .ok (.aload_n 0, 1) := by decide +kernel
theorem dX4_drop_6 : decode cX4_drop 6 = .ok (.getfield 15, 3) := by decide +kernel
theorem dX4_drop_9 : decode cX4_drop 9 = .ok (.if_icmp .ge 36, 3) := by decide +kernel
theorem dX4_drop_12 : decode cX4_drop 12 = .ok (.aload_n 0, 1) := by decide +kernel
theorem dX4_drop_13 : decode cX4_drop 13 = .ok (.getfield 11, 3) := by decide +kernel
theorem dX4_drop_16 : decode cX4_drop 16 = .ok (.iload_n 1, 1) := by decide +kernel
theorem dX4_drop_17 : decode cX4_drop 17 = .ok (.iconst 1, 1) := by decide +kernel
theorem dX4_drop_18 : decode cX4_drop 18 = .ok (.iadd, 1) := by decide +kernel
theorem dX4_drop_19 : decode cX4_drop 19 = .ok (.aload_n 0, 1) := by decide +kernel
theorem dX4_drop_20 : decode cX4_drop 20 = .ok (.getfield 11, 3) := by decide +kernel
theorem dX4_drop_23 : decode cX4_drop 23 = .ok (.iload_n 1, 1) := by decide +kernel
theorem dX4_drop_24 : decode cX4_drop 24 = .ok (.aload_n 0, 1) := by decide +kernel
theorem dX4_drop_25 : decode cX4_drop 25 = .ok (.getfield 15, 3) := by decide +kernel
theorem dX4_drop_28 : decode cX4_drop 28 = .ok (.iload_n 1, 1) := by decide +kernel
theorem dX4_drop_29 : decode cX4_drop 29 = .ok (.isub, 1) := by decide +kernel
theorem dX4_drop_30 : decode cX4_drop 30 = .ok (.iconst 1, 1) := by decide +kernel
theorem dX4_drop_31 : decode cX4_drop 31 = .ok (.isub, 1) := by decide +kernel
theorem dX4_drop_32 : decode cX4_drop 32 = .ok (.invokestatic 22, 3) := by decide +kernel
theorem dX4_drop_35 : decode cX4_drop 35 = .ok (.aload_n 0, 1) := by decide +kernel
theorem dX4_drop_36 : decode cX4_drop 36 = .ok (.dup, 1) := by decide +kernel
theorem dX4_drop_37 : decode cX4_drop 37 = .ok (.getfield 15, 3) := by decide +kernel
theorem dX4_drop_40 : decode cX4_drop 40 = .ok (.iconst 1, 1) := by decide +kernel
theorem dX4_drop_41 : decode cX4_drop 41 = .ok (.isub, 1) := by decide +kernel
theorem dX4_drop_42 : decode cX4_drop 42 = .ok (.putfield 15, 3) := by decide +kernel
theorem dX4_drop_45 : decode cX4_drop 45 = .ok (.return_, 1) := by decide +kernel
def rmX4_drop : Room := { frames := 1, cells := 0, slots := 0, locals := 40 }
def fX4_drop_J45 (N : Nat) (g : Gs) (x0 : Nat) (x1 : Int32) (d : Ds) : Option (Unit × Ds) := some ((), d)
set_option maxHeartbeats 4000000 in
set_option maxRecDepth 100000 in
theorem tX4_drop_45 {p : Program} {l : Launch} {e : Env} {s : State} {m : MethodId} {args : Array Value} {below : List Frame} {meth : Method} {c : Code} {D : va_G} {cy : Nat → ClassId} {B : Bs} (C : Cx p s m args c cX4_drop 2 RX4 D cy B) (hr : meth.sig.returnType = none) (hlocks : meth.locks = false) {N : Nat} {g : Gs} {x0 : Nat} {x1 : Int32}  {dz : Ds} {d : Ds} (hf : fX4_drop_J45 N g x0 x1 d = some ((), dz)) : WB p l e rmX4_drop s m args below meth c 2 D cy B 0 0 (MQ below (QV D cy B g dz) args s 0 0 (wA B)) g d [(0, .ref (ad B x0)), (1, .int x1)] 45 [] := by
  unfold fX4_drop_J45 at hf
  exact b_vret C hr hlocks hf dX4_drop_45
def fX4_drop (N : Nat) (g : Gs) (x0 : Nat) (x1 : Int32) (d : Ds) : Option (Unit × Ds) := if x1 < 0 then (fX4_drop_J45 N g x0 x1 d) else (gd (chk g x0 4) <| if (dI d x0 1) ≤ x1 then (fX4_drop_J45 N g x0 x1 d) else (ob (gR g x0 0) fun r4 => (gd (chk g r4 102) <| gd (¬ (x1 + 1) < 0) <| gd (¬ x1 < 0) <| gd (¬ (((dI d x0 1) - x1) - 1) < 0) <| gd ((x1 + 1).toNatClampNeg + (((dI d x0 1) - x1) - 1).toNatClampNeg ≤ gL g r4) <| gd (x1.toNatClampNeg + (((dI d x0 1) - x1) - 1).toNatClampNeg ≤ gL g r4) <| bd (cI d r4 r4 (x1 + 1).toNatClampNeg x1.toNatClampNeg (((dI d x0 1) - x1) - 1).toNatClampNeg) fun d11 => (bd (sI d11 x0 1 ((dI d11 x0 1) - 1)) fun d12 => (fX4_drop_J45 N g x0 x1 d12)))))
set_option maxHeartbeats 4000000 in
set_option maxRecDepth 100000 in
theorem tX4_drop_E {p : Program} {l : Launch} {e : Env} {s : State} {m : MethodId} {args : Array Value} {below : List Frame} {meth : Method} {c : Code} {D : va_G} {cy : Nat → ClassId} {B : Bs} (C : Cx p s m args c cX4_drop 2 RX4 D cy B) (hr : meth.sig.returnType = none) (hlocks : meth.locks = false) {N : Nat} {g : Gs} {x0 : Nat} {x1 : Int32}  {dz : Ds} {d : Ds} (hf : fX4_drop N g x0 x1 d = some ((), dz)) : WB p l e rmX4_drop s m args below meth c 2 D cy B 0 0 (MQ below (QV D cy B g dz) args s 0 0 (wA B)) g d [(0, .ref (ad B x0)), (1, .int x1)] 0 [] := by
  unfold fX4_drop at hf
  refine b_iload_n C dX4_drop_0 1 rfl rfl ?_
  refine b_if_lt C (tgt := 45) dX4_drop_1 (by decide) (fun c1 => ?_) (fun c1 => ?_)
  · have hf := it_s c1 hf
    refine b_sub [(0, .ref (ad B x0)), (1, .int x1)] [0, 1] rfl ?_
    exact tX4_drop_45 C hr hlocks hf
  · have hf := if_s c1 hf
    refine b_iload_n C dX4_drop_4 1 rfl rfl ?_
    refine b_aload_n C dX4_drop_5 0 rfl rfl ?_
    obtain ⟨h2, hf⟩ := gd_s hf
    refine b_gI C dX4_drop_6 fl_X4_15 h2 ?_
    refine b_icmp_ge C (tgt := 45) dX4_drop_9 (by decide) (fun c3 => ?_) (fun c3 => ?_)
    · have hf := it_s c3 hf
      refine b_sub [(0, .ref (ad B x0)), (1, .int x1)] [0, 1] rfl ?_
      exact tX4_drop_45 C hr hlocks hf
    · have hf := if_s c3 hf
      refine b_aload_n C dX4_drop_12 0 rfl rfl ?_
      obtain ⟨r4, er4, hf⟩ := ob_s hf
      refine b_gR C dX4_drop_13 fl_X4_11 h2 er4 ?_
      refine b_iload_n C dX4_drop_16 1 rfl rfl ?_
      refine b_iconst C (v := 1) dX4_drop_17 (by decide) ?_
      refine b_iadd C dX4_drop_18 ?_
      refine b_aload_n C dX4_drop_19 0 rfl rfl ?_
      refine b_gR C dX4_drop_20 fl_X4_11 h2 er4 ?_
      refine b_iload_n C dX4_drop_23 1 rfl rfl ?_
      refine b_aload_n C dX4_drop_24 0 rfl rfl ?_
      refine b_gI C dX4_drop_25 fl_X4_15 h2 ?_
      refine b_iload_n C dX4_drop_28 1 rfl rfl ?_
      refine b_isub C dX4_drop_29 ?_
      refine b_iconst C (v := 1) dX4_drop_30 (by decide) ?_
      refine b_isub C dX4_drop_31 ?_
      obtain ⟨h5, hf⟩ := gd_s hf
      obtain ⟨h6, hf⟩ := gd_s hf
      obtain ⟨h7, hf⟩ := gd_s hf
      obtain ⟨h8, hf⟩ := gd_s hf
      obtain ⟨h9, hf⟩ := gd_s hf
      obtain ⟨h10, hf⟩ := gd_s hf
      obtain ⟨d11, ed11, hf⟩ := bd_s hf
      refine b_copyI C ac_X4_22 ac_n ac_s ac_i h5 h5 h6 h7 h8 h9 h10 ed11 (by decide) (by decide +kernel) dX4_drop_32 ?_
      refine b_aload_n C dX4_drop_35 0 rfl rfl ?_
      refine b_dup C dX4_drop_36 rfl ?_
      refine b_gI C dX4_drop_37 fl_X4_15 h2 ?_
      refine b_iconst C (v := 1) dX4_drop_40 (by decide) ?_
      refine b_isub C dX4_drop_41 ?_
      obtain ⟨d12, ed12, hf⟩ := bd_s hf
      refine b_pI C dX4_drop_42 fl_X4_15 fp4_1 h2 ed12 ?_
      refine b_sub [(0, .ref (ad B x0)), (1, .int x1)] [0, 1] rfl ?_
      exact tX4_drop_45 C hr hlocks hf
theorem kX4_drop (l : Launch) (D : va_G) (cy : Nat → ClassId) (B : Bs) {N : Nat} {g : Gs} {x0 : Nat} {x1 : Int32}  {dz : Ds} {d : Ds} (hf : fX4_drop N g x0 x1 d = some ((), dz)) : Met l yX4_drop (.code yX4_drop cX4_drop 2 none :: wl) rmX4_drop (PC D cy B [.ref (ad B x0), .int x1] g d) (QV D cy B g dz) 0 0 (wA B) :=
  met_of (by decide +kernel) (Nat.le_of_ble_eq_true rfl) (fun p e s m args below meth c C hr hlocks _ => b_sub [(0, .ref (ad B x0)), (1, .int x1)] [0, 1] rfl (tX4_drop_E C hr hlocks hf))
/-! KeyMatrix$Queue.dropNext(IZ)V -/
theorem yo_X4_keyAt : yX4_keyAt.cls ≠ "java/lang/invoke/MethodHandle" ∧ yX4_keyAt.cls ≠ "java/lang/invoke/VarHandle" ∧ (parseMethodDescriptor yX4_keyAt.desc).map (fun d => d.parameters.length) = some 1 := by decide +kernel
theorem co_X4_keyAt : Cond.code yX4_keyAt cX4_keyAt 2 (some .int) ∈ wl := mW (mT4 (List.mem_of_getElem? (i := 99) (by decide +kernel))) rfl
theorem in_X4_keyAt : Cond.initialized yX4_keyAt.cls ∈ wl := mW (mT1 (List.mem_of_getElem? (i := 9) (by decide +kernel))) rfl
theorem im_X4_keyAt : Cond.instanceMethod yX4_keyAt ∈ wl := mW (mT4 (List.mem_of_getElem? (i := 97) (by decide +kernel))) rfl
theorem se_X4_keyAt : Cond.selects yX4_keyAt.cls yX4_keyAt yX4_keyAt ∈ wl := mW (mT4 (List.mem_of_getElem? (i := 98) (by decide +kernel))) rfl
theorem lv_X4_28 : LV RX4 28 yX4_keyAt cX4_keyAt 2 (some .int) 1 4 := ⟨⟨(RX4, TX4, 3), rfl, rfl⟩, yo_X4_keyAt, mW (mT4 (List.mem_of_getElem? (i := 201) (by decide +kernel))) rfl, im_X4_keyAt, se_X4_keyAt, in_X4_keyAt, co_X4_keyAt⟩
theorem yo_X4_isDownAt : yX4_isDownAt.cls ≠ "java/lang/invoke/MethodHandle" ∧ yX4_isDownAt.cls ≠ "java/lang/invoke/VarHandle" ∧ (parseMethodDescriptor yX4_isDownAt.desc).map (fun d => d.parameters.length) = some 1 := by decide +kernel
theorem co_X4_isDownAt : Cond.code yX4_isDownAt cX4_isDownAt 2 (some .boolean) ∈ wl := mW (mT4 (List.mem_of_getElem? (i := 95) (by decide +kernel))) rfl
theorem in_X4_isDownAt : Cond.initialized yX4_isDownAt.cls ∈ wl := mW (mT1 (List.mem_of_getElem? (i := 9) (by decide +kernel))) rfl
theorem im_X4_isDownAt : Cond.instanceMethod yX4_isDownAt ∈ wl := mW (mT4 (List.mem_of_getElem? (i := 93) (by decide +kernel))) rfl
theorem se_X4_isDownAt : Cond.selects yX4_isDownAt.cls yX4_isDownAt yX4_isDownAt ∈ wl := mW (mT4 (List.mem_of_getElem? (i := 94) (by decide +kernel))) rfl
theorem lv_X4_32 : LV RX4 32 yX4_isDownAt cX4_isDownAt 2 (some .boolean) 1 4 := ⟨⟨(RX4, TX4, 3), rfl, rfl⟩, yo_X4_isDownAt, mW (mT4 (List.mem_of_getElem? (i := 202) (by decide +kernel))) rfl, im_X4_isDownAt, se_X4_isDownAt, in_X4_isDownAt, co_X4_isDownAt⟩
theorem yo_X4_drop : yX4_drop.cls ≠ "java/lang/invoke/MethodHandle" ∧ yX4_drop.cls ≠ "java/lang/invoke/VarHandle" ∧ (parseMethodDescriptor yX4_drop.desc).map (fun d => d.parameters.length) = some 1 := by decide +kernel
theorem co_X4_drop : Cond.code yX4_drop cX4_drop 2 none ∈ wl := mW (mT4 (List.mem_of_getElem? (i := 130) (by decide +kernel))) rfl
theorem in_X4_drop : Cond.initialized yX4_drop.cls ∈ wl := mW (mT1 (List.mem_of_getElem? (i := 9) (by decide +kernel))) rfl
theorem im_X4_drop : Cond.instanceMethod yX4_drop ∈ wl := mW (mT4 (List.mem_of_getElem? (i := 128) (by decide +kernel))) rfl
theorem se_X4_drop : Cond.selects yX4_drop.cls yX4_drop yX4_drop ∈ wl := mW (mT4 (List.mem_of_getElem? (i := 129) (by decide +kernel))) rfl
theorem lv_X4_36 : LV RX4 36 yX4_drop cX4_drop 2 none 1 4 := ⟨⟨(RX4, TX4, 3), rfl, rfl⟩, yo_X4_drop, mW (mT4 (List.mem_of_getElem? (i := 203) (by decide +kernel))) rfl, im_X4_drop, se_X4_drop, in_X4_drop, co_X4_drop⟩
theorem dX4_dropNext_0 : decode cX4_dropNext 0 = .ok (.iconst 0, 1) := by decide +kernel
theorem dX4_dropNext_1 : decode cX4_dropNext 1 = .ok (.istore_n 3, 1) := by decide +kernel
theorem dX4_dropNext_2 : decode cX4_dropNext 2 = .ok (.iload_n 3, 1) := by decide +kernel
theorem dX4_dropNext_3 : decode cX4_dropNext 3 = .ok (.aload_n 0, 1) := by decide +kernel
theorem dX4_dropNext_4 : decode cX4_dropNext 4 = .ok (.getfield 15, 3) := by decide +kernel
theorem dX4_dropNext_7 : decode cX4_dropNext 7 = .ok (.if_icmp .ge 33, 3) := by decide +kernel
theorem dX4_dropNext_10 : decode cX4_dropNext 10 = .ok (.aload_n 0, 1) := by decide +kernel
theorem dX4_dropNext_11 : decode cX4_dropNext 11 = .ok (.iload_n 3, 1) := by decide +kernel
theorem dX4_dropNext_12 : decode cX4_dropNext 12 = .ok (.invokevirtual 28, 3) := by decide +kernel
theorem dX4_dropNext_15 : decode cX4_dropNext 15 = .ok (.iload_n 1, 1) := by decide +kernel
theorem dX4_dropNext_16 : decode cX4_dropNext 16 = .ok (.if_icmp .ne 18, 3) := by decide +kernel
theorem dX4_dropNext_19 : decode cX4_dropNext 19 = .ok (.aload_n 0, 1) := by decide +kernel
theorem dX4_dropNext_20 : decode cX4_dropNext 20 = .ok (.iload_n 3, 1) := by decide +kernel
theorem dX4_dropNext_21 : decode cX4_dropNext 21 = .ok (.invokevirtual 32, 3) := by decide +kernel
theorem dX4_dropNext_24 : decode cX4_dropNext 24 = .ok (.iload_n 2, 1) := by decide +kernel
theorem dX4_dropNext_25 : decode cX4_dropNext 25 = .ok (.if_icmp .ne 9, 3) := by decide +kernel
theorem dX4_dropNext_28 : decode cX4_dropNext 28 = .ok (.aload_n 0, 1) := by decide +kernel
theorem dX4_dropNext_29 : decode cX4_dropNext 29 = .ok (.iload_n 3, 1) := by decide +kernel
theorem dX4_dropNext_30 : decode cX4_dropNext 30 = .ok (.invokevirtual 36, 3) := by decide +kernel
theorem dX4_dropNext_33 : decode cX4_dropNext 33 = .ok (.return_, 1) := by decide +kernel
theorem dX4_dropNext_34 : decode cX4_dropNext 34 = .ok (.iinc 3 1, 3) := by decide +kernel
theorem dX4_dropNext_37 : decode cX4_dropNext 37 = .ok (.goto (-35), 3) := by decide +kernel
theorem dX4_dropNext_40 : decode cX4_dropNext 40 = .ok (.return_, 1) := by decide +kernel
def rmX4_dropNext : Room := { frames := 2, cells := 0, slots := 0, locals := 61 }
def fX4_dropNext_J34 (N : Nat) (g : Gs) (x0 : Nat) (x1 : Int32) (x2 : Int32) (K2 : Int32 × Ds → Option (Unit × Ds)) (y3 : Int32) (d : Ds) : Option (Unit × Ds) := bd (y3 + 1) fun u7 => (K2 (u7, d))
set_option maxHeartbeats 4000000 in
set_option maxRecDepth 100000 in
theorem tX4_dropNext_34 {p : Program} {l : Launch} {e : Env} {s : State} {m : MethodId} {args : Array Value} {below : List Frame} {meth : Method} {c : Code} {D : va_G} {cy : Nat → ClassId} {B : Bs} (C : Cx p s m args c cX4_dropNext 4 RX4 D cy B) (hr : meth.sig.returnType = none) (hlocks : meth.locks = false) {N : Nat} {g : Gs} {x0 : Nat} {x1 : Int32} {x2 : Int32}  {dz : Ds} {K2 : Int32 × Ds → Option (Unit × Ds)} (hK2 : ∀ a, K2 a = some ((), dz) → WB p l e rmX4_dropNext s m args below meth c 4 D cy B 0 0 (MQ below (QV D cy B g dz) args s 0 0 (wA B)) g a.2 [(0, .ref (ad B x0)), (1, .int x1), (2, .int x2), (3, .int a.1)] 2 []) {y3 : Int32} {d : Ds} (hf : fX4_dropNext_J34 N g x0 x1 x2 K2 y3 d = some ((), dz)) : WB p l e rmX4_dropNext s m args below meth c 4 D cy B 0 0 (MQ below (QV D cy B g dz) args s 0 0 (wA B)) g d [(0, .ref (ad B x0)), (1, .int x1), (2, .int x2), (3, .int y3)] 34 [] := by
  unfold fX4_dropNext_J34 at hf
  obtain ⟨u7, eu7, hf⟩ := bd_s hf
  refine b_iinc C dX4_dropNext_34 3 rfl (by rw [eu7]; rfl) [(3, .int u7), (0, .ref (ad B x0)), (1, .int x1), (2, .int x2)] (by decide) rfl ?_
  refine b_goto C (tgt := 2) dX4_dropNext_37 (by decide) ?_
  refine b_sub [(0, .ref (ad B x0)), (1, .int x1), (2, .int x2), (3, .int u7)] [1, 2, 3, 0] rfl ?_
  exact hK2 (u7, d) hf
def fX4_dropNext_B2 (N : Nat) (g : Gs) (x0 : Nat) (x1 : Int32) (x2 : Int32) (K2 : Int32 × Ds → Option (Unit × Ds)) (y3 : Int32) (d : Ds) : Option (Unit × Ds) := gd (chk g x0 4) <| if (dI d x0 1) ≤ y3 then (some ((), d)) else (cb (fX4_keyAt N g x0 y3 d) fun u5 d3 => (if u5 = x1 then (cb (fX4_isDownAt N g x0 y3 d3) fun u10 d8 => (if u10 = x2 then (cv (fX4_drop N g x0 y3 d8) fun d12 => (some ((), d12))) else (fX4_dropNext_J34 N g x0 x1 x2 K2 y3 d8))) else (fX4_dropNext_J34 N g x0 x1 x2 K2 y3 d3)))
set_option maxHeartbeats 4000000 in
set_option maxRecDepth 100000 in
theorem tX4_dropNext_2 {p : Program} {l : Launch} {e : Env} {s : State} {m : MethodId} {args : Array Value} {below : List Frame} {meth : Method} {c : Code} {D : va_G} {cy : Nat → ClassId} {B : Bs} (C : Cx p s m args c cX4_dropNext 4 RX4 D cy B) (hr : meth.sig.returnType = none) (hlocks : meth.locks = false) {N : Nat} {g : Gs} {x0 : Nat} {x1 : Int32} {x2 : Int32}  {dz : Ds} {K2 : Int32 × Ds → Option (Unit × Ds)} (hK2 : ∀ a, K2 a = some ((), dz) → WB p l e rmX4_dropNext s m args below meth c 4 D cy B 0 0 (MQ below (QV D cy B g dz) args s 0 0 (wA B)) g a.2 [(0, .ref (ad B x0)), (1, .int x1), (2, .int x2), (3, .int a.1)] 2 []) {y3 : Int32} {d : Ds} (hf : fX4_dropNext_B2 N g x0 x1 x2 K2 y3 d = some ((), dz)) : WB p l e rmX4_dropNext s m args below meth c 4 D cy B 0 0 (MQ below (QV D cy B g dz) args s 0 0 (wA B)) g d [(0, .ref (ad B x0)), (1, .int x1), (2, .int x2), (3, .int y3)] 2 [] := by
  unfold fX4_dropNext_B2 at hf
  refine b_iload_n C dX4_dropNext_2 3 rfl rfl ?_
  refine b_aload_n C dX4_dropNext_3 0 rfl rfl ?_
  obtain ⟨h1, hf⟩ := gd_s hf
  refine b_gI C dX4_dropNext_4 fl_X4_15 h1 ?_
  refine b_icmp_ge C (tgt := 40) dX4_dropNext_7 (by decide) (fun c2 => ?_) (fun c2 => ?_)
  · have hf := it_s c2 hf
    exact b_vret C hr hlocks hf dX4_dropNext_40
  · have hf := if_s c2 hf
    refine b_aload_n C dX4_dropNext_10 0 rfl rfl ?_
    refine b_iload_n C dX4_dropNext_11 3 rfl rfl ?_
    obtain ⟨u5, d3, k4, hf⟩ := cb_s hf
    refine b_cVI C [] dX4_dropNext_12 (kX4_keyAt l D cy B k4) lv_X4_28 ⟨rfl, rfl, Nat.le_of_ble_eq_true rfl, Nat.le_of_ble_eq_true rfl⟩ h1 (by decide) rfl (Nat.le_of_ble_eq_true rfl) ⟨Nat.zero_le _, Nat.zero_le _⟩ rfl ?_
    refine b_iload_n C dX4_dropNext_15 1 rfl rfl ?_
    refine b_icmp_ne C (tgt := 34) dX4_dropNext_16 (by decide) (fun c6 => ?_) (fun c6 => ?_)
    · have hf := if_s c6 hf
      refine b_sub [(0, .ref (ad B x0)), (1, .int x1), (2, .int x2), (3, .int y3)] [0, 1, 2, 3] rfl ?_
      exact tX4_dropNext_34 C hr hlocks hK2 hf
    · have hf := it_s c6 hf
      refine b_aload_n C dX4_dropNext_19 0 rfl rfl ?_
      refine b_iload_n C dX4_dropNext_20 3 rfl rfl ?_
      obtain ⟨u10, d8, k9, hf⟩ := cb_s hf
      refine b_cVI C [] dX4_dropNext_21 (kX4_isDownAt l D cy B k9) lv_X4_32 ⟨rfl, rfl, Nat.le_of_ble_eq_true rfl, Nat.le_of_ble_eq_true rfl⟩ h1 (by decide) rfl (Nat.le_of_ble_eq_true rfl) ⟨Nat.zero_le _, Nat.zero_le _⟩ rfl ?_
      refine b_iload_n C dX4_dropNext_24 2 rfl rfl ?_
      refine b_icmp_ne C (tgt := 34) dX4_dropNext_25 (by decide) (fun c11 => ?_) (fun c11 => ?_)
      · have hf := if_s c11 hf
        refine b_sub [(0, .ref (ad B x0)), (1, .int x1), (2, .int x2), (3, .int y3)] [0, 1, 2, 3] rfl ?_
        exact tX4_dropNext_34 C hr hlocks hK2 hf
      · have hf := it_s c11 hf
        refine b_aload_n C dX4_dropNext_28 0 rfl rfl ?_
        refine b_iload_n C dX4_dropNext_29 3 rfl rfl ?_
        obtain ⟨d12, k13, hf⟩ := cv_s hf
        refine b_cVN C [] dX4_dropNext_30 (kX4_drop l D cy B k13) lv_X4_36 ⟨rfl, rfl, Nat.le_of_ble_eq_true rfl, Nat.le_of_ble_eq_true rfl⟩ h1 (by decide) rfl (Nat.le_of_ble_eq_true rfl) ⟨Nat.zero_le _, Nat.zero_le _⟩ rfl ?_
        exact b_vret C hr hlocks hf dX4_dropNext_33
def fX4_dropNext_L2 (N : Nat) (g : Gs) (x0 : Nat) (x1 : Int32) (x2 : Int32) : Int32 × Ds → Option (Unit × Ds) := lp (fun K2 a => fX4_dropNext_B2 N g x0 x1 x2 K2 a.1 a.2) N
theorem tX4_dropNext_L2 {p : Program} {l : Launch} {e : Env} {s : State} {m : MethodId} {args : Array Value} {below : List Frame} {meth : Method} {c : Code} {D : va_G} {cy : Nat → ClassId} {B : Bs} (C : Cx p s m args c cX4_dropNext 4 RX4 D cy B) (hr : meth.sig.returnType = none) (hlocks : meth.locks = false) {N : Nat} {g : Gs} {x0 : Nat} {x1 : Int32} {x2 : Int32}  {dz : Ds} (a : Int32 × Ds) (hf : fX4_dropNext_L2 N g x0 x1 x2 a = some ((), dz)) : WB p l e rmX4_dropNext s m args below meth c 4 D cy B 0 0 (MQ below (QV D cy B g dz) args s 0 0 (wA B)) g a.2 [(0, .ref (ad B x0)), (1, .int x1), (2, .int x2), (3, .int a.1)] 2 [] :=
  lp_w (fun K2 hK2 a ha => tX4_dropNext_2 C hr hlocks hK2 ha) N a hf
def fX4_dropNext (N : Nat) (g : Gs) (x0 : Nat) (x1 : Int32) (x2 : Int32) (d : Ds) : Option (Unit × Ds) := fX4_dropNext_L2 N g x0 x1 x2 (0, d)
set_option maxHeartbeats 4000000 in
set_option maxRecDepth 100000 in
theorem tX4_dropNext_E {p : Program} {l : Launch} {e : Env} {s : State} {m : MethodId} {args : Array Value} {below : List Frame} {meth : Method} {c : Code} {D : va_G} {cy : Nat → ClassId} {B : Bs} (C : Cx p s m args c cX4_dropNext 4 RX4 D cy B) (hr : meth.sig.returnType = none) (hlocks : meth.locks = false) {N : Nat} {g : Gs} {x0 : Nat} {x1 : Int32} {x2 : Int32}  {dz : Ds} {d : Ds} (hf : fX4_dropNext N g x0 x1 x2 d = some ((), dz)) : WB p l e rmX4_dropNext s m args below meth c 4 D cy B 0 0 (MQ below (QV D cy B g dz) args s 0 0 (wA B)) g d [(0, .ref (ad B x0)), (1, .int x1), (2, .int x2)] 0 [] := by
  unfold fX4_dropNext at hf
  refine b_iconst C (v := 0) dX4_dropNext_0 (by decide) ?_
  refine b_istore_n C dX4_dropNext_1 rfl [(3, .int 0), (0, .ref (ad B x0)), (1, .int x1), (2, .int x2)] (by decide) rfl ?_
  refine b_sub [(0, .ref (ad B x0)), (1, .int x1), (2, .int x2), (3, .int 0)] [1, 2, 3, 0] rfl ?_
  exact tX4_dropNext_L2 C hr hlocks (0, d) hf
theorem kX4_dropNext (l : Launch) (D : va_G) (cy : Nat → ClassId) (B : Bs) {N : Nat} {g : Gs} {x0 : Nat} {x1 : Int32} {x2 : Int32}  {dz : Ds} {d : Ds} (hf : fX4_dropNext N g x0 x1 x2 d = some ((), dz)) : Met l yX4_dropNext (.code yX4_dropNext cX4_dropNext 4 none :: wl) rmX4_dropNext (PC D cy B [.ref (ad B x0), .int x1, .int x2] g d) (QV D cy B g dz) 0 0 (wA B) :=
  met_of (by decide +kernel) (Nat.le_of_ble_eq_true rfl) (fun p e s m args below meth c C hr hlocks _ => b_sub [(0, .ref (ad B x0)), (1, .int x1), (2, .int x2)] [0, 1, 2] rfl (tX4_dropNext_E C hr hlocks hf))
