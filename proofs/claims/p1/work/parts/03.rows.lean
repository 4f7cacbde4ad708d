/-- what stays through a method: the machine, the code, the tables' words, the classes, the statics -/
def Cx (p : Program) (s : State) (m : MethodId) (args : Array Value) (c : Code) (cc : ByteArray) (nL : Nat) (own : String) (D : va_G) (cy : Nat → ClassId) (B : Bs) : Prop :=
  p.tables.exec = Jvm.exec ∧ c.code = cc ∧ c.maxLocals = nL ∧ s.vm.findClass own = some m.cls ∧ (∀ w ∈ wl, w.before args s = true) ∧ va_K D vwCl (tys8 cy) s ∧ Sx B s ∧ NzS s
/-- from any heap that holds (g, d), any locals that hold lv, the machine at pc with the stack st comes to Q -/
def WB (p : Program) (l : Launch) (e : Env) (R : Room) (s : State) (m : MethodId) (args : Array Value) (below : List Frame) (meth : Method) (c : Code) (nL : Nat) (D : va_G) (cy : Nat → ClassId) (B : Bs) (cells slots : Nat) (Q : State → Prop) (g : Gs) (d : Ds) (lv : List (Nat × Value)) (pc : Nat) (st : List Value) : Prop :=
  ∀ (H : Heap) (locs : List Loc) (ls : Array Slot), lv_has ls nL lv → WP D cy B g d H → va_S (wA B) s.heap H locs → W p l e R s m args below meth c H locs cells slots Q (F0 m pc ls st)
section BR
variable {p : Program} {l : Launch} {e : Env} {R : Room} {s : State} {m : MethodId} {args : Array Value} {below : List Frame} {meth : Method} {c : Code} {cells slots : Nat} {Q : State → Prop} {nL : Nat} {D : va_G} {cy : Nat → ClassId} {B : Bs} {g : Gs} {d : Ds} {lv : List (Nat × Value)} {pc : Nat} {cc : ByteArray} {own : String} {rest : List Value}
theorem b_iconst (C : Cx p s m args c cc nL own D cy B) {n : Int} {v : Int32} (hdg : decode cc pc = .ok (.iconst n, 1)) (hv : Int32.ofInt n = v) (k : WB p l e R s m args below meth c nL D cy B cells slots Q g d lv (pc + 1) (.int v :: rest)) : WB p l e R s m args below meth c nL D cy B cells slots Q g d lv pc rest := fun H locs ls hl hP hS => lv_iconst C.1 C.2.1 hdg hv (k H locs ls hl hP hS)
theorem b_bipush (C : Cx p s m args c cc nL own D cy B) {n : Int} {v : Int32} (hdg : decode cc pc = .ok (.bipush n, 2)) (hv : (Int8.ofInt n).toInt32 = v) (k : WB p l e R s m args below meth c nL D cy B cells slots Q g d lv (pc + 2) (.int v :: rest)) : WB p l e R s m args below meth c nL D cy B cells slots Q g d lv pc rest := fun H locs ls hl hP hS => lv_bipush C.1 C.2.1 hdg hv (k H locs ls hl hP hS)
theorem b_sipush (C : Cx p s m args c cc nL own D cy B) {n : Int} {v : Int32} (hdg : decode cc pc = .ok (.sipush n, 3)) (hv : (Int16.ofInt n).toInt32 = v) (k : WB p l e R s m args below meth c nL D cy B cells slots Q g d lv (pc + 3) (.int v :: rest)) : WB p l e R s m args below meth c nL D cy B cells slots Q g d lv pc rest := fun H locs ls hl hP hS => lv_sipush C.1 C.2.1 hdg hv (k H locs ls hl hP hS)
theorem b_lconst (C : Cx p s m args c cc nL own D cy B) {n : Fin 2} {v : Int64} (hdg : decode cc pc = .ok (.lconst n, 1)) (hv : Int64.ofNat (n : Nat) = v) (k : WB p l e R s m args below meth c nL D cy B cells slots Q g d lv (pc + 1) (.long v :: rest)) : WB p l e R s m args below meth c nL D cy B cells slots Q g d lv pc rest := fun H locs ls hl hP hS => lv_lconst C.1 C.2.1 hdg hv (k H locs ls hl hP hS)
theorem b_null (C : Cx p s m args c cc nL own D cy B)  (hdg : decode cc pc = .ok (.aconst_null, 1))  (k : WB p l e R s m args below meth c nL D cy B cells slots Q g d lv (pc + 1) (.null :: rest)) : WB p l e R s m args below meth c nL D cy B cells slots Q g d lv pc rest := fun H locs ls hl hP hS => lv_null C.1 C.2.1 hdg (k H locs ls hl hP hS)
theorem b_iload_n (C : Cx p s m args c cc nL own D cy B) {k : Fin 4} {i : Nat} {x : Int32} (hdg : decode cc pc = .ok (.iload_n k, 1)) (q : Nat) (hq : lv[q]? = some (i, .int x)) (hi : (k : Nat) = i) (k : WB p l e R s m args below meth c nL D cy B cells slots Q g d lv (pc + 1) (.int x :: rest)) : WB p l e R s m args below meth c nL D cy B cells slots Q g d lv pc rest := fun H locs ls hl hP hS => lv_iload_n C.1 C.2.1 hdg hi (lv_at hl q hq) (k H locs ls hl hP hS)
theorem b_iload (C : Cx p s m args c cc nL own D cy B) {i : Nat} {x : Int32} (hdg : decode cc pc = .ok (.iload i, 2)) (q : Nat) (hq : lv[q]? = some (i, .int x)) (k : WB p l e R s m args below meth c nL D cy B cells slots Q g d lv (pc + 2) (.int x :: rest)) : WB p l e R s m args below meth c nL D cy B cells slots Q g d lv pc rest := fun H locs ls hl hP hS => lv_iload C.1 C.2.1 hdg (lv_at hl q hq) (k H locs ls hl hP hS)
theorem b_lload_n (C : Cx p s m args c cc nL own D cy B) {k : Fin 4} {i : Nat} {x : Int64} (hdg : decode cc pc = .ok (.lload_n k, 1)) (q : Nat) (hq : lv[q]? = some (i, .long x)) (hi : (k : Nat) = i) (k : WB p l e R s m args below meth c nL D cy B cells slots Q g d lv (pc + 1) (.long x :: rest)) : WB p l e R s m args below meth c nL D cy B cells slots Q g d lv pc rest := fun H locs ls hl hP hS => lv_lload_n C.1 C.2.1 hdg hi (lv_at hl q hq) (k H locs ls hl hP hS)
theorem b_lload (C : Cx p s m args c cc nL own D cy B) {i : Nat} {x : Int64} (hdg : decode cc pc = .ok (.lload i, 2)) (q : Nat) (hq : lv[q]? = some (i, .long x)) (k : WB p l e R s m args below meth c nL D cy B cells slots Q g d lv (pc + 2) (.long x :: rest)) : WB p l e R s m args below meth c nL D cy B cells slots Q g d lv pc rest := fun H locs ls hl hP hS => lv_lload C.1 C.2.1 hdg (lv_at hl q hq) (k H locs ls hl hP hS)
theorem b_fload_n (C : Cx p s m args c cc nL own D cy B) {k : Fin 4} {i : Nat} {x : UInt32} (hdg : decode cc pc = .ok (.fload_n k, 1)) (q : Nat) (hq : lv[q]? = some (i, .float x)) (hi : (k : Nat) = i) (k : WB p l e R s m args below meth c nL D cy B cells slots Q g d lv (pc + 1) (.float x :: rest)) : WB p l e R s m args below meth c nL D cy B cells slots Q g d lv pc rest := fun H locs ls hl hP hS => lv_fload_n C.1 C.2.1 hdg hi (lv_at hl q hq) (k H locs ls hl hP hS)
theorem b_fload (C : Cx p s m args c cc nL own D cy B) {i : Nat} {x : UInt32} (hdg : decode cc pc = .ok (.fload i, 2)) (q : Nat) (hq : lv[q]? = some (i, .float x)) (k : WB p l e R s m args below meth c nL D cy B cells slots Q g d lv (pc + 2) (.float x :: rest)) : WB p l e R s m args below meth c nL D cy B cells slots Q g d lv pc rest := fun H locs ls hl hP hS => lv_fload C.1 C.2.1 hdg (lv_at hl q hq) (k H locs ls hl hP hS)
theorem b_aload_n (C : Cx p s m args c cc nL own D cy B) {k : Fin 4} {i : Nat} {x : Nat} (hdg : decode cc pc = .ok (.aload_n k, 1)) (q : Nat) (hq : lv[q]? = some (i, .ref x)) (hi : (k : Nat) = i) (k : WB p l e R s m args below meth c nL D cy B cells slots Q g d lv (pc + 1) (.ref x :: rest)) : WB p l e R s m args below meth c nL D cy B cells slots Q g d lv pc rest := fun H locs ls hl hP hS => lv_aload_n C.1 C.2.1 hdg hi (lv_at hl q hq) (k H locs ls hl hP hS)
theorem b_aload (C : Cx p s m args c cc nL own D cy B) {i : Nat} {x : Nat} (hdg : decode cc pc = .ok (.aload i, 2)) (q : Nat) (hq : lv[q]? = some (i, .ref x)) (k : WB p l e R s m args below meth c nL D cy B cells slots Q g d lv (pc + 2) (.ref x :: rest)) : WB p l e R s m args below meth c nL D cy B cells slots Q g d lv pc rest := fun H locs ls hl hP hS => lv_aload C.1 C.2.1 hdg (lv_at hl q hq) (k H locs ls hl hP hS)
theorem b_aload_nQ (C : Cx p s m args c cc nL own D cy B) {k : Fin 4} {i : Nat} {x : Option Nat} (hdg : decode cc pc = .ok (.aload_n k, 1)) (q : Nat) (hq : lv[q]? = some (i, rv B x)) (hi : (k : Nat) = i) (k0 : WB p l e R s m args below meth c nL D cy B cells slots Q g d lv (pc + 1) (rv B x :: rest)) : WB p l e R s m args below meth c nL D cy B cells slots Q g d lv pc rest := fun H locs ls hl hP hS => by
  cases x with
  | none => exact lv_aload_nN C.1 C.2.1 hdg hi (lv_at hl q hq) (k0 H locs ls hl hP hS)
  | some y => exact lv_aload_n C.1 C.2.1 hdg hi (lv_at hl q hq) (k0 H locs ls hl hP hS)
theorem b_aloadQ (C : Cx p s m args c cc nL own D cy B) {i : Nat} {x : Option Nat} (hdg : decode cc pc = .ok (.aload i, 2)) (q : Nat) (hq : lv[q]? = some (i, rv B x))  (k0 : WB p l e R s m args below meth c nL D cy B cells slots Q g d lv (pc + 2) (rv B x :: rest)) : WB p l e R s m args below meth c nL D cy B cells slots Q g d lv pc rest := fun H locs ls hl hP hS => by
  cases x with
  | none => exact lv_aloadN C.1 C.2.1 hdg (lv_at hl q hq) (k0 H locs ls hl hP hS)
  | some y => exact lv_aload C.1 C.2.1 hdg (lv_at hl q hq) (k0 H locs ls hl hP hS)
theorem b_istore_n (C : Cx p s m args c cc nL own D cy B) {k : Fin 4} {i : Nat} {x : Int32} (hdg : decode cc pc = .ok (.istore_n k, 1)) (hi : (k : Nat) = i) (lv' : List (Nat × Value)) (hn : i < nL) (he : (i, .int x) :: lv.filter (fun q => !(q.1 == i) && !(q.1 + 1 == i && q.2.category == 2)) = lv') (k1 : WB p l e R s m args below meth c nL D cy B cells slots Q g d lv' (pc + 1) rest) : WB p l e R s m args below meth c nL D cy B cells slots Q g d lv pc (.int x :: rest) := fun H locs ls hl hP hS => lv_istore_n C.1 C.2.1 hdg hi hl hn he (fun ls1 hl1 => k1 H locs ls1 hl1 hP hS)
theorem b_istore (C : Cx p s m args c cc nL own D cy B) {i : Nat} {x : Int32} (hdg : decode cc pc = .ok (.istore i, 2))  (lv' : List (Nat × Value)) (hn : i < nL) (he : (i, .int x) :: lv.filter (fun q => !(q.1 == i) && !(q.1 + 1 == i && q.2.category == 2)) = lv') (k1 : WB p l e R s m args below meth c nL D cy B cells slots Q g d lv' (pc + 2) rest) : WB p l e R s m args below meth c nL D cy B cells slots Q g d lv pc (.int x :: rest) := fun H locs ls hl hP hS => lv_istore C.1 C.2.1 hdg hl hn he (fun ls1 hl1 => k1 H locs ls1 hl1 hP hS)
theorem b_lstore_n (C : Cx p s m args c cc nL own D cy B) {k : Fin 4} {i : Nat} {x : Int64} (hdg : decode cc pc = .ok (.lstore_n k, 1)) (hi : (k : Nat) = i) (lv' : List (Nat × Value)) (hn : i + 1 < nL) (he : (i, .long x) :: lv.filter (fun q => !(q.1 == i) && (!(q.1 == i + 1) && !(q.1 + 1 == i && q.2.category == 2))) = lv') (k1 : WB p l e R s m args below meth c nL D cy B cells slots Q g d lv' (pc + 1) rest) : WB p l e R s m args below meth c nL D cy B cells slots Q g d lv pc (.long x :: rest) := fun H locs ls hl hP hS => lv_lstore_n C.1 C.2.1 hdg hi hl hn he (fun ls1 hl1 => k1 H locs ls1 hl1 hP hS)
theorem b_lstore (C : Cx p s m args c cc nL own D cy B) {i : Nat} {x : Int64} (hdg : decode cc pc = .ok (.lstore i, 2))  (lv' : List (Nat × Value)) (hn : i + 1 < nL) (he : (i, .long x) :: lv.filter (fun q => !(q.1 == i) && (!(q.1 == i + 1) && !(q.1 + 1 == i && q.2.category == 2))) = lv') (k1 : WB p l e R s m args below meth c nL D cy B cells slots Q g d lv' (pc + 2) rest) : WB p l e R s m args below meth c nL D cy B cells slots Q g d lv pc (.long x :: rest) := fun H locs ls hl hP hS => lv_lstore C.1 C.2.1 hdg hl hn he (fun ls1 hl1 => k1 H locs ls1 hl1 hP hS)
theorem b_fstore_n (C : Cx p s m args c cc nL own D cy B) {k : Fin 4} {i : Nat} {x : UInt32} (hdg : decode cc pc = .ok (.fstore_n k, 1)) (hi : (k : Nat) = i) (lv' : List (Nat × Value)) (hn : i < nL) (he : (i, .float x) :: lv.filter (fun q => !(q.1 == i) && !(q.1 + 1 == i && q.2.category == 2)) = lv') (k1 : WB p l e R s m args below meth c nL D cy B cells slots Q g d lv' (pc + 1) rest) : WB p l e R s m args below meth c nL D cy B cells slots Q g d lv pc (.float x :: rest) := fun H locs ls hl hP hS => lv_fstore_n C.1 C.2.1 hdg hi hl hn he (fun ls1 hl1 => k1 H locs ls1 hl1 hP hS)
theorem b_fstore (C : Cx p s m args c cc nL own D cy B) {i : Nat} {x : UInt32} (hdg : decode cc pc = .ok (.fstore i, 2))  (lv' : List (Nat × Value)) (hn : i < nL) (he : (i, .float x) :: lv.filter (fun q => !(q.1 == i) && !(q.1 + 1 == i && q.2.category == 2)) = lv') (k1 : WB p l e R s m args below meth c nL D cy B cells slots Q g d lv' (pc + 2) rest) : WB p l e R s m args below meth c nL D cy B cells slots Q g d lv pc (.float x :: rest) := fun H locs ls hl hP hS => lv_fstore C.1 C.2.1 hdg hl hn he (fun ls1 hl1 => k1 H locs ls1 hl1 hP hS)
theorem b_astore_n (C : Cx p s m args c cc nL own D cy B) {k : Fin 4} {i : Nat} {x : Nat} (hdg : decode cc pc = .ok (.astore_n k, 1)) (hi : (k : Nat) = i) (lv' : List (Nat × Value)) (hn : i < nL) (he : (i, .ref x) :: lv.filter (fun q => !(q.1 == i) && !(q.1 + 1 == i && q.2.category == 2)) = lv') (k1 : WB p l e R s m args below meth c nL D cy B cells slots Q g d lv' (pc + 1) rest) : WB p l e R s m args below meth c nL D cy B cells slots Q g d lv pc (.ref x :: rest) := fun H locs ls hl hP hS => lv_astore_n C.1 C.2.1 hdg hi hl hn he (fun ls1 hl1 => k1 H locs ls1 hl1 hP hS)
theorem b_astore (C : Cx p s m args c cc nL own D cy B) {i : Nat} {x : Nat} (hdg : decode cc pc = .ok (.astore i, 2))  (lv' : List (Nat × Value)) (hn : i < nL) (he : (i, .ref x) :: lv.filter (fun q => !(q.1 == i) && !(q.1 + 1 == i && q.2.category == 2)) = lv') (k1 : WB p l e R s m args below meth c nL D cy B cells slots Q g d lv' (pc + 2) rest) : WB p l e R s m args below meth c nL D cy B cells slots Q g d lv pc (.ref x :: rest) := fun H locs ls hl hP hS => lv_astore C.1 C.2.1 hdg hl hn he (fun ls1 hl1 => k1 H locs ls1 hl1 hP hS)
theorem b_astore_nQ (C : Cx p s m args c cc nL own D cy B) {k : Fin 4} {i : Nat} {x : Option Nat} (hdg : decode cc pc = .ok (.astore_n k, 1)) (hi : (k : Nat) = i) (lv' : List (Nat × Value)) (hn : i < nL) (he : (i, rv B x) :: lv.filter (fun q => !(q.1 == i) && !(q.1 + 1 == i && q.2.category == 2)) = lv') (k1 : WB p l e R s m args below meth c nL D cy B cells slots Q g d lv' (pc + 1) rest) : WB p l e R s m args below meth c nL D cy B cells slots Q g d lv pc (rv B x :: rest) := fun H locs ls hl hP hS => by
  cases x with
  | none => exact lv_astore_nN C.1 C.2.1 hdg hi hl hn he (fun ls1 hl1 => k1 H locs ls1 hl1 hP hS)
  | some y => exact lv_astore_n C.1 C.2.1 hdg hi hl hn he (fun ls1 hl1 => k1 H locs ls1 hl1 hP hS)
theorem b_astoreQ (C : Cx p s m args c cc nL own D cy B) {i : Nat} {x : Option Nat} (hdg : decode cc pc = .ok (.astore i, 2))  (lv' : List (Nat × Value)) (hn : i < nL) (he : (i, rv B x) :: lv.filter (fun q => !(q.1 == i) && !(q.1 + 1 == i && q.2.category == 2)) = lv') (k1 : WB p l e R s m args below meth c nL D cy B cells slots Q g d lv' (pc + 2) rest) : WB p l e R s m args below meth c nL D cy B cells slots Q g d lv pc (rv B x :: rest) := fun H locs ls hl hP hS => by
  cases x with
  | none => exact lv_astoreN C.1 C.2.1 hdg hl hn he (fun ls1 hl1 => k1 H locs ls1 hl1 hP hS)
  | some y => exact lv_astore C.1 C.2.1 hdg hl hn he (fun ls1 hl1 => k1 H locs ls1 hl1 hP hS)
theorem b_iinc (C : Cx p s m args c cc nL own D cy B) {i : Nat} {n : Int} {x v : Int32} (hdg : decode cc pc = .ok (.iinc i n, 3)) (q : Nat) (hq : lv[q]? = some (i, .int x)) (hv : x + Int32.ofInt n = v) (lv' : List (Nat × Value)) (hn : i < nL) (he : (i, .int v) :: lv.filter (fun q => !(q.1 == i) && !(q.1 + 1 == i && q.2.category == 2)) = lv') (k1 : WB p l e R s m args below meth c nL D cy B cells slots Q g d lv' (pc + 3) rest) : WB p l e R s m args below meth c nL D cy B cells slots Q g d lv pc rest := fun H locs ls hl hP hS => lv_iinc C.1 C.2.1 hdg hl hq hv hn he (fun ls1 hl1 => k1 H locs ls1 hl1 hP hS)
theorem b_iadd (C : Cx p s m args c cc nL own D cy B) {x y : Int32} (hdg : decode cc pc = .ok (.iadd, 1))  (k : WB p l e R s m args below meth c nL D cy B cells slots Q g d lv (pc + 1) (.int (x + y) :: rest)) : WB p l e R s m args below meth c nL D cy B cells slots Q g d lv pc (.int y :: .int x :: rest) := fun H locs ls hl hP hS => lv_iadd C.1 C.2.1 hdg (k H locs ls hl hP hS)
theorem b_isub (C : Cx p s m args c cc nL own D cy B) {x y : Int32} (hdg : decode cc pc = .ok (.isub, 1))  (k : WB p l e R s m args below meth c nL D cy B cells slots Q g d lv (pc + 1) (.int (x - y) :: rest)) : WB p l e R s m args below meth c nL D cy B cells slots Q g d lv pc (.int y :: .int x :: rest) := fun H locs ls hl hP hS => lv_isub C.1 C.2.1 hdg (k H locs ls hl hP hS)
theorem b_imul (C : Cx p s m args c cc nL own D cy B) {x y : Int32} (hdg : decode cc pc = .ok (.imul, 1))  (k : WB p l e R s m args below meth c nL D cy B cells slots Q g d lv (pc + 1) (.int (x * y) :: rest)) : WB p l e R s m args below meth c nL D cy B cells slots Q g d lv pc (.int y :: .int x :: rest) := fun H locs ls hl hP hS => lv_imul C.1 C.2.1 hdg (k H locs ls hl hP hS)
theorem b_iand (C : Cx p s m args c cc nL own D cy B) {x y : Int32} (hdg : decode cc pc = .ok (.iand, 1))  (k : WB p l e R s m args below meth c nL D cy B cells slots Q g d lv (pc + 1) (.int (x &&& y) :: rest)) : WB p l e R s m args below meth c nL D cy B cells slots Q g d lv pc (.int y :: .int x :: rest) := fun H locs ls hl hP hS => lv_iand C.1 C.2.1 hdg (k H locs ls hl hP hS)
theorem b_ior (C : Cx p s m args c cc nL own D cy B) {x y : Int32} (hdg : decode cc pc = .ok (.ior, 1))  (k : WB p l e R s m args below meth c nL D cy B cells slots Q g d lv (pc + 1) (.int (x ||| y) :: rest)) : WB p l e R s m args below meth c nL D cy B cells slots Q g d lv pc (.int y :: .int x :: rest) := fun H locs ls hl hP hS => lv_ior C.1 C.2.1 hdg (k H locs ls hl hP hS)
theorem b_ixor (C : Cx p s m args c cc nL own D cy B) {x y : Int32} (hdg : decode cc pc = .ok (.ixor, 1))  (k : WB p l e R s m args below meth c nL D cy B cells slots Q g d lv (pc + 1) (.int (x ^^^ y) :: rest)) : WB p l e R s m args below meth c nL D cy B cells slots Q g d lv pc (.int y :: .int x :: rest) := fun H locs ls hl hP hS => lv_ixor C.1 C.2.1 hdg (k H locs ls hl hP hS)
theorem b_ishl (C : Cx p s m args c cc nL own D cy B) {x y : Int32} (hdg : decode cc pc = .ok (.ishl, 1))  (k : WB p l e R s m args below meth c nL D cy B cells slots Q g d lv (pc + 1) (.int (x <<< (y &&& 31)) :: rest)) : WB p l e R s m args below meth c nL D cy B cells slots Q g d lv pc (.int y :: .int x :: rest) := fun H locs ls hl hP hS => lv_ishl C.1 C.2.1 hdg (k H locs ls hl hP hS)
theorem b_ishr (C : Cx p s m args c cc nL own D cy B) {x y : Int32} (hdg : decode cc pc = .ok (.ishr, 1))  (k : WB p l e R s m args below meth c nL D cy B cells slots Q g d lv (pc + 1) (.int (x >>> (y &&& 31)) :: rest)) : WB p l e R s m args below meth c nL D cy B cells slots Q g d lv pc (.int y :: .int x :: rest) := fun H locs ls hl hP hS => lv_ishr C.1 C.2.1 hdg (k H locs ls hl hP hS)
theorem b_iushr (C : Cx p s m args c cc nL own D cy B) {x y : Int32} (hdg : decode cc pc = .ok (.iushr, 1))  (k : WB p l e R s m args below meth c nL D cy B cells slots Q g d lv (pc + 1) (.int ((x.toUInt32 >>> (y.toUInt32 &&& Int32.toUInt32 31)).toInt32) :: rest)) : WB p l e R s m args below meth c nL D cy B cells slots Q g d lv pc (.int y :: .int x :: rest) := fun H locs ls hl hP hS => lv_iushr C.1 C.2.1 hdg rfl (k H locs ls hl hP hS)
theorem b_idiv (C : Cx p s m args c cc nL own D cy B) {x y : Int32} (hdg : decode cc pc = .ok (.idiv, 1)) (hne : ¬ y = 0) (k : WB p l e R s m args below meth c nL D cy B cells slots Q g d lv (pc + 1) (.int (x / y) :: rest)) : WB p l e R s m args below meth c nL D cy B cells slots Q g d lv pc (.int y :: .int x :: rest) := fun H locs ls hl hP hS => lv_idiv C.1 C.2.1 hdg hne (k H locs ls hl hP hS)
theorem b_irem (C : Cx p s m args c cc nL own D cy B) {x y : Int32} (hdg : decode cc pc = .ok (.irem, 1)) (hne : ¬ y = 0) (k : WB p l e R s m args below meth c nL D cy B cells slots Q g d lv (pc + 1) (.int (x - x / y * y) :: rest)) : WB p l e R s m args below meth c nL D cy B cells slots Q g d lv pc (.int y :: .int x :: rest) := fun H locs ls hl hP hS => lv_irem C.1 C.2.1 hdg hne (k H locs ls hl hP hS)
theorem b_ladd (C : Cx p s m args c cc nL own D cy B) {x y : Int64} (hdg : decode cc pc = .ok (.ladd, 1))  (k : WB p l e R s m args below meth c nL D cy B cells slots Q g d lv (pc + 1) (.long (x + y) :: rest)) : WB p l e R s m args below meth c nL D cy B cells slots Q g d lv pc (.long y :: .long x :: rest) := fun H locs ls hl hP hS => lv_ladd C.1 C.2.1 hdg (k H locs ls hl hP hS)
theorem b_lmul (C : Cx p s m args c cc nL own D cy B) {x y : Int64} (hdg : decode cc pc = .ok (.lmul, 1))  (k : WB p l e R s m args below meth c nL D cy B cells slots Q g d lv (pc + 1) (.long (x * y) :: rest)) : WB p l e R s m args below meth c nL D cy B cells slots Q g d lv pc (.long y :: .long x :: rest) := fun H locs ls hl hP hS => lv_lmul C.1 C.2.1 hdg (k H locs ls hl hP hS)
theorem b_i2l (C : Cx p s m args c cc nL own D cy B) {x : Int32} (hdg : decode cc pc = .ok (.i2l, 1))  (k : WB p l e R s m args below meth c nL D cy B cells slots Q g d lv (pc + 1) (.long (x.toInt64) :: rest)) : WB p l e R s m args below meth c nL D cy B cells slots Q g d lv pc (.int x :: rest) := fun H locs ls hl hP hS => lv_i2l C.1 C.2.1 hdg rfl (k H locs ls hl hP hS)
theorem b_i2b (C : Cx p s m args c cc nL own D cy B) {x : Int32} (hdg : decode cc pc = .ok (.i2b, 1))  (k : WB p l e R s m args below meth c nL D cy B cells slots Q g d lv (pc + 1) (.int (x.toInt8.toInt32) :: rest)) : WB p l e R s m args below meth c nL D cy B cells slots Q g d lv pc (.int x :: rest) := fun H locs ls hl hP hS => lv_i2b C.1 C.2.1 hdg rfl (k H locs ls hl hP hS)
theorem b_dup (C : Cx p s m args c cc nL own D cy B) {v : Value} (hdg : decode cc pc = .ok (.dup, 1)) (hv : v.category = 1) (k : WB p l e R s m args below meth c nL D cy B cells slots Q g d lv (pc + 1) (v :: v :: rest)) : WB p l e R s m args below meth c nL D cy B cells slots Q g d lv pc (v :: rest) := fun H locs ls hl hP hS => lv_dup C.1 C.2.1 hdg hv (k H locs ls hl hP hS)
theorem b_dup2 (C : Cx p s m args c cc nL own D cy B) {v u : Value} (hdg : decode cc pc = .ok (.dup2, 1)) (hv : v.category = 1) (hu : u.category = 1) (k : WB p l e R s m args below meth c nL D cy B cells slots Q g d lv (pc + 1) (v :: u :: v :: u :: rest)) : WB p l e R s m args below meth c nL D cy B cells slots Q g d lv pc (v :: u :: rest) := fun H locs ls hl hP hS => lv_dup2_11 C.1 C.2.1 hdg hv hu (k H locs ls hl hP hS)
theorem b_fconst0 (C : Cx p s m args c cc nL own D cy B)  (hdg : decode cc pc = .ok (.fconst 0, 1))  (k : WB p l e R s m args below meth c nL D cy B cells slots Q g d lv (pc + 1) (.float FP.fconst0 :: rest)) : WB p l e R s m args below meth c nL D cy B cells slots Q g d lv pc rest := fun H locs ls hl hP hS => lv_fconst0 C.1 C.2.1 hdg (k H locs ls hl hP hS)
theorem b_fcmp (C : Cx p s m args c cc nL own D cy B) {x y : UInt32} {op : CmpOp} (hdg : decode cc pc = .ok (.fcmp op, 1))  (k : WB p l e R s m args below meth c nL D cy B cells slots Q g d lv (pc + 1) (.int (Op.cmpValue (FP.fcmp x y) op) :: rest)) : WB p l e R s m args below meth c nL D cy B cells slots Q g d lv pc (.float y :: .float x :: rest) := fun H locs ls hl hP hS => lv_fcmp C.1 C.2.1 hdg (k H locs ls hl hP hS)
theorem b_lcmp (C : Cx p s m args c cc nL own D cy B) {x y : Int64} (hdg : decode cc pc = .ok (.lcmp, 1))  (k : WB p l e R s m args below meth c nL D cy B cells slots Q g d lv (pc + 1) (.int (lg_cmp x y) :: rest)) : WB p l e R s m args below meth c nL D cy B cells slots Q g d lv pc (.long y :: .long x :: rest) := fun H locs ls hl hP hS => W.lcmp C.1 C.2.1 hdg (k H locs ls hl hP hS)
theorem b_if_eq (C : Cx p s m args c cc nL own D cy B) {x : Int32} {off : Int} {tgt : Nat} (hdg : decode cc pc = .ok (.ifCond .eq off, 3)) (ht : (pc : Int) + off = (tgt : Int)) (kt : x = 0 → WB p l e R s m args below meth c nL D cy B cells slots Q g d lv tgt rest) (kf : ¬ x = 0 → WB p l e R s m args below meth c nL D cy B cells slots Q g d lv (pc + 3) rest) : WB p l e R s m args below meth c nL D cy B cells slots Q g d lv pc (.int x :: rest) := fun H locs ls hl hP hS => lv_if_eq C.1 C.2.1 hdg ht (fun h => kt h H locs ls hl hP hS) (fun h => kf h H locs ls hl hP hS)
theorem b_if_ne (C : Cx p s m args c cc nL own D cy B) {x : Int32} {off : Int} {tgt : Nat} (hdg : decode cc pc = .ok (.ifCond .ne off, 3)) (ht : (pc : Int) + off = (tgt : Int)) (kt : ¬ x = 0 → WB p l e R s m args below meth c nL D cy B cells slots Q g d lv tgt rest) (kf : x = 0 → WB p l e R s m args below meth c nL D cy B cells slots Q g d lv (pc + 3) rest) : WB p l e R s m args below meth c nL D cy B cells slots Q g d lv pc (.int x :: rest) := fun H locs ls hl hP hS => lv_if_ne C.1 C.2.1 hdg ht (fun h => kt h H locs ls hl hP hS) (fun h => kf h H locs ls hl hP hS)
theorem b_if_lt (C : Cx p s m args c cc nL own D cy B) {x : Int32} {off : Int} {tgt : Nat} (hdg : decode cc pc = .ok (.ifCond .lt off, 3)) (ht : (pc : Int) + off = (tgt : Int)) (kt : x < 0 → WB p l e R s m args below meth c nL D cy B cells slots Q g d lv tgt rest) (kf : ¬ x < 0 → WB p l e R s m args below meth c nL D cy B cells slots Q g d lv (pc + 3) rest) : WB p l e R s m args below meth c nL D cy B cells slots Q g d lv pc (.int x :: rest) := fun H locs ls hl hP hS => lv_if_lt C.1 C.2.1 hdg ht (fun h => kt h H locs ls hl hP hS) (fun h => kf h H locs ls hl hP hS)
theorem b_if_ge (C : Cx p s m args c cc nL own D cy B) {x : Int32} {off : Int} {tgt : Nat} (hdg : decode cc pc = .ok (.ifCond .ge off, 3)) (ht : (pc : Int) + off = (tgt : Int)) (kt : 0 ≤ x → WB p l e R s m args below meth c nL D cy B cells slots Q g d lv tgt rest) (kf : ¬ 0 ≤ x → WB p l e R s m args below meth c nL D cy B cells slots Q g d lv (pc + 3) rest) : WB p l e R s m args below meth c nL D cy B cells slots Q g d lv pc (.int x :: rest) := fun H locs ls hl hP hS => lv_if_ge C.1 C.2.1 hdg ht (fun h => kt h H locs ls hl hP hS) (fun h => kf h H locs ls hl hP hS)
theorem b_if_gt (C : Cx p s m args c cc nL own D cy B) {x : Int32} {off : Int} {tgt : Nat} (hdg : decode cc pc = .ok (.ifCond .gt off, 3)) (ht : (pc : Int) + off = (tgt : Int)) (kt : 0 < x → WB p l e R s m args below meth c nL D cy B cells slots Q g d lv tgt rest) (kf : ¬ 0 < x → WB p l e R s m args below meth c nL D cy B cells slots Q g d lv (pc + 3) rest) : WB p l e R s m args below meth c nL D cy B cells slots Q g d lv pc (.int x :: rest) := fun H locs ls hl hP hS => lv_if_gt C.1 C.2.1 hdg ht (fun h => kt h H locs ls hl hP hS) (fun h => kf h H locs ls hl hP hS)
theorem b_if_le (C : Cx p s m args c cc nL own D cy B) {x : Int32} {off : Int} {tgt : Nat} (hdg : decode cc pc = .ok (.ifCond .le off, 3)) (ht : (pc : Int) + off = (tgt : Int)) (kt : x ≤ 0 → WB p l e R s m args below meth c nL D cy B cells slots Q g d lv tgt rest) (kf : ¬ x ≤ 0 → WB p l e R s m args below meth c nL D cy B cells slots Q g d lv (pc + 3) rest) : WB p l e R s m args below meth c nL D cy B cells slots Q g d lv pc (.int x :: rest) := fun H locs ls hl hP hS => lv_if_le C.1 C.2.1 hdg ht (fun h => kt h H locs ls hl hP hS) (fun h => kf h H locs ls hl hP hS)
theorem b_icmp_eq (C : Cx p s m args c cc nL own D cy B) {x y : Int32} {off : Int} {tgt : Nat} (hdg : decode cc pc = .ok (.if_icmp .eq off, 3)) (ht : (pc : Int) + off = (tgt : Int)) (kt : x = y → WB p l e R s m args below meth c nL D cy B cells slots Q g d lv tgt rest) (kf : ¬ x = y → WB p l e R s m args below meth c nL D cy B cells slots Q g d lv (pc + 3) rest) : WB p l e R s m args below meth c nL D cy B cells slots Q g d lv pc (.int y :: .int x :: rest) := fun H locs ls hl hP hS => lv_icmp_eq C.1 C.2.1 hdg ht (fun h => kt h H locs ls hl hP hS) (fun h => kf h H locs ls hl hP hS)
theorem b_icmp_ne (C : Cx p s m args c cc nL own D cy B) {x y : Int32} {off : Int} {tgt : Nat} (hdg : decode cc pc = .ok (.if_icmp .ne off, 3)) (ht : (pc : Int) + off = (tgt : Int)) (kt : ¬ x = y → WB p l e R s m args below meth c nL D cy B cells slots Q g d lv tgt rest) (kf : x = y → WB p l e R s m args below meth c nL D cy B cells slots Q g d lv (pc + 3) rest) : WB p l e R s m args below meth c nL D cy B cells slots Q g d lv pc (.int y :: .int x :: rest) := fun H locs ls hl hP hS => lv_icmp_ne C.1 C.2.1 hdg ht (fun h => kt h H locs ls hl hP hS) (fun h => kf h H locs ls hl hP hS)
theorem b_icmp_lt (C : Cx p s m args c cc nL own D cy B) {x y : Int32} {off : Int} {tgt : Nat} (hdg : decode cc pc = .ok (.if_icmp .lt off, 3)) (ht : (pc : Int) + off = (tgt : Int)) (kt : x < y → WB p l e R s m args below meth c nL D cy B cells slots Q g d lv tgt rest) (kf : ¬ x < y → WB p l e R s m args below meth c nL D cy B cells slots Q g d lv (pc + 3) rest) : WB p l e R s m args below meth c nL D cy B cells slots Q g d lv pc (.int y :: .int x :: rest) := fun H locs ls hl hP hS => lv_icmp_lt C.1 C.2.1 hdg ht (fun h => kt h H locs ls hl hP hS) (fun h => kf h H locs ls hl hP hS)
theorem b_icmp_ge (C : Cx p s m args c cc nL own D cy B) {x y : Int32} {off : Int} {tgt : Nat} (hdg : decode cc pc = .ok (.if_icmp .ge off, 3)) (ht : (pc : Int) + off = (tgt : Int)) (kt : y ≤ x → WB p l e R s m args below meth c nL D cy B cells slots Q g d lv tgt rest) (kf : ¬ y ≤ x → WB p l e R s m args below meth c nL D cy B cells slots Q g d lv (pc + 3) rest) : WB p l e R s m args below meth c nL D cy B cells slots Q g d lv pc (.int y :: .int x :: rest) := fun H locs ls hl hP hS => lv_icmp_ge C.1 C.2.1 hdg ht (fun h => kt h H locs ls hl hP hS) (fun h => kf h H locs ls hl hP hS)
theorem b_icmp_gt (C : Cx p s m args c cc nL own D cy B) {x y : Int32} {off : Int} {tgt : Nat} (hdg : decode cc pc = .ok (.if_icmp .gt off, 3)) (ht : (pc : Int) + off = (tgt : Int)) (kt : y < x → WB p l e R s m args below meth c nL D cy B cells slots Q g d lv tgt rest) (kf : ¬ y < x → WB p l e R s m args below meth c nL D cy B cells slots Q g d lv (pc + 3) rest) : WB p l e R s m args below meth c nL D cy B cells slots Q g d lv pc (.int y :: .int x :: rest) := fun H locs ls hl hP hS => lv_icmp_gt C.1 C.2.1 hdg ht (fun h => kt h H locs ls hl hP hS) (fun h => kf h H locs ls hl hP hS)
theorem b_icmp_le (C : Cx p s m args c cc nL own D cy B) {x y : Int32} {off : Int} {tgt : Nat} (hdg : decode cc pc = .ok (.if_icmp .le off, 3)) (ht : (pc : Int) + off = (tgt : Int)) (kt : x ≤ y → WB p l e R s m args below meth c nL D cy B cells slots Q g d lv tgt rest) (kf : ¬ x ≤ y → WB p l e R s m args below meth c nL D cy B cells slots Q g d lv (pc + 3) rest) : WB p l e R s m args below meth c nL D cy B cells slots Q g d lv pc (.int y :: .int x :: rest) := fun H locs ls hl hP hS => lv_icmp_le C.1 C.2.1 hdg ht (fun h => kt h H locs ls hl hP hS) (fun h => kf h H locs ls hl hP hS)
theorem b_goto (C : Cx p s m args c cc nL own D cy B) {off : Int} {tgt : Nat} (hdg : decode cc pc = .ok (.goto off, 3)) (ht : (pc : Int) + off = (tgt : Int)) (k : WB p l e R s m args below meth c nL D cy B cells slots Q g d lv tgt rest) : WB p l e R s m args below meth c nL D cy B cells slots Q g d lv pc rest := fun H locs ls hl hP hS => lv_goto C.1 C.2.1 hdg ht (k H locs ls hl hP hS)
theorem b_tabOut (C : Cx p s m args c cc nL own D cy B) {dflt lo hi : Int} {offs : Array Int} {len : Nat} {x : Int32} {tgt : Nat} (hdg : decode cc pc = .ok (.tableswitch dflt lo hi offs, len)) (h : x.toInt < lo ∨ hi < x.toInt) (ht : (pc : Int) + dflt = (tgt : Int)) (k : WB p l e R s m args below meth c nL D cy B cells slots Q g d lv tgt rest) : WB p l e R s m args below meth c nL D cy B cells slots Q g d lv pc (.int x :: rest) := fun H locs ls hl hP hS => lv_tableOut C.1 C.2.1 hdg h ht (k H locs ls hl hP hS)
theorem b_tabIn (C : Cx p s m args c cc nL own D cy B) {dflt lo hi off : Int} {offs : Array Int} {len : Nat} {x v : Int32} {tgt : Nat} (hdg : decode cc pc = .ok (.tableswitch dflt lo hi offs, len)) (hx : x = v) (h1 : ¬ v.toInt < lo) (h2 : ¬ hi < v.toInt) (ho : offs[(v.toInt - lo).toNat]? = some off) (ht : (pc : Int) + off = (tgt : Int)) (k : WB p l e R s m args below meth c nL D cy B cells slots Q g d lv tgt rest) : WB p l e R s m args below meth c nL D cy B cells slots Q g d lv pc (.int x :: rest) := fun H locs ls hl hP hS => lv_tableIn C.1 C.2.1 hdg (by rw [hx]; exact h1) (by rw [hx]; exact h2) (by rw [hx]; exact ho) ht (k H locs ls hl hP hS)
theorem b_sub (lv' : List (Nat × Value)) (ks : List Nat) (h : lv_pick lv ks = lv') (k : WB p l e R s m args below meth c nL D cy B cells slots Q g d lv' pc rest) : WB p l e R s m args below meth c nL D cy B cells slots Q g d lv pc rest := fun H locs ls hl hP hS => k H locs ls (lv_sub hl ks h) hP hS
theorem b_eq {g1 : Gs} {d1 : Ds} {st1 : List Value} (hg : g = g1) (hd : d = d1) (hs : rest = st1) (k : WB p l e R s m args below meth c nL D cy B cells slots Q g1 d1 lv pc st1) : WB p l e R s m args below meth c nL D cy B cells slots Q g d lv pc rest := by
  subst hg; subst hd; subst hs
  exact k
theorem WP.set {H1 : Heap} {g1 : Gs} {d1 : Ds} {r : Nat} {e : va_E} {H : Heap} (hP : WP D cy B g d H) (hr : r < gN g) (hg : gN g1 = gN g) (ho : ∀ x, x < gN g → x ≠ r → cel B cy g d x = cel B cy g1 d1 x) (he : cel B cy g1 d1 r = e) (hP1 : va_P D vwCl ((wls B cy g d).set r (ad B r, e)) H1) : WP D cy B g1 d1 H1 := by
  rw [wls_set hr hg ho he] at hP1
  exact ⟨by rw [hg]; exact hP.1, hP1⟩
theorem tys8_at {t : Nat} (h : t < 8) : (tys8 cy)[t]? = some (cy t, tyk t) := by
  match t, h with
  | 0, _ => rfl
  | 1, _ => rfl
  | 2, _ => rfl
  | 3, _ => rfl
  | 4, _ => rfl
  | 5, _ => rfl
  | 6, _ => rfl
  | 7, _ => rfl
  | n + 8, h => exact absurd h (by omega)
/-- what a field's access rests on: own class, place in its pool, class and field -/
def FL (own : String) (index cl j : Nat) : Prop := ∃ (CN : String) (T : u_T) (N : Nat), vwCl[cl]? = some (CN, T, N) ∧ j < N ∧ (∀ w ∈ u_ws CN T N, w ∈ wl) ∧ (Cond.fieldLink own index (T j).1 (T j).2.1 (T j).2.2.1 ∈ wl ∨ Cond.fieldLinkNest own index (T j).1 (T j).2.1 (T j).2.2.1 "KeyMatrix" ∈ lw_tbl)
def FT (cl : Nat) : Prop := ∃ (CN : String) (T : u_T) (N : Nat) (ty : Nat → FieldType), vwCl[cl]? = some (CN, T, N) ∧ (∀ k, k < N → parseFieldDescriptor (T k).2.2.1 = some (ty k)) ∧ (∀ a, a < N → ∀ b, b < N → a ≠ b → (T a).2.1 ≠ (T b).2.1)
theorem fN_of {cl : Nat} {q : vw_C} (h : vwCl[cl]? = some q) : fN cl = q.2.2 := by
  unfold fN
  rw [h]
theorem vp_in_of2 {i : Int32} {n : Nat} (h : ¬ (i < 0 ∨ n ≤ i.toNatClampNeg)) : vp_in i n := h
theorem b_get0 (C : Cx p s m args c cc nL own D cy B) {index cl j r : Nat} (hf : FL own index cl j) (hq : chk g r cl) (hc : cl < 100) (hdg : decode cc pc = .ok (.getfield index, 3)) (k : WB p l e R s m args below meth c nL D cy B cells slots Q g d lv (pc + 3) (fv B g d r cl j :: rest)) : WB p l e R s m args below meth c nL D cy B cells slots Q g d lv pc (.ref (ad B r) :: rest) := by
  intro H locs ls hl hP hS
  obtain ⟨CN, T, N, h1, h2, h3, h4⟩ := hf
  obtain ⟨hx, hb, hml, hown, hts, hK, -, hN⟩ := C
  have hj : j < fN cl := by rw [fN_of h1]; exact h2
  rcases h4 with h4 | h4
  · exact va_get (D := D) hx hb hts h3 hown hK hP.2 r ((wls_at hq.1).trans (by rw [cel_o hq.2 hc])) h1 j h2 (hts _ h4) (fun _ h9 => h9) (fls_at hj) hdg (k H locs ls hl hP hS)
  · exact va_getN (D := D) hx hb hts h3 hown hK hP.2 r ((wls_at hq.1).trans (by rw [cel_o hq.2 hc])) h1 j h2 (va_Nw.use rfl (hN _ h4 rfl)) (fun _ h9 => h9) (fls_at hj) hdg (k H locs ls hl hP hS)
theorem b_getI (C : Cx p s m args c cc nL own D cy B) {index cl j r : Nat} (hf : FL own index cl j) (hq : chk g r cl) (hc : cl < 100) (hr : fR cl j = false) (hdg : decode cc pc = .ok (.getfield index, 3)) (k : WB p l e R s m args below meth c nL D cy B cells slots Q g d lv (pc + 3) (.int (dI d r j) :: rest)) : WB p l e R s m args below meth c nL D cy B cells slots Q g d lv pc (.ref (ad B r) :: rest) := by
  refine b_get0 C hf hq hc hdg ?_
  have e : fv B g d r cl j = .int (dI d r j) := by unfold fv; rw [hr]; rfl
  rw [e]
  exact k
theorem b_getR (C : Cx p s m args c cc nL own D cy B) {index cl j r r1 : Nat} (hf : FL own index cl j) (hq : chk g r cl) (hc : cl < 100) (hr : fR cl j = true) (he : gR g r j = some r1) (hdg : decode cc pc = .ok (.getfield index, 3)) (k : WB p l e R s m args below meth c nL D cy B cells slots Q g d lv (pc + 3) (.ref (ad B r1) :: rest)) : WB p l e R s m args below meth c nL D cy B cells slots Q g d lv pc (.ref (ad B r) :: rest) := by
  refine b_get0 C hf hq hc hdg ?_
  have e : fv B g d r cl j = .ref (ad B r1) := by unfold fv; rw [hr, he]; rfl
  rw [e]
  exact k
def okb (cl j : Nat) (v : Int32) : Prop := ∃ q : vw_C, vwCl[cl]? = some q ∧ (q.2.1 j).2.2.2 = false ∧ ((q.2.1 j).2.2.1 = "I" ∨ ((q.2.1 j).2.2.1 = "Z" ∧ (v = 0 ∨ v = 1)))
theorem nar_ib {ds : String} {ty : FieldType} {v : Int32} (h : ds = "I" ∨ (ds = "Z" ∧ (v = 0 ∨ v = 1))) (hp : parseFieldDescriptor ds = some ty) : narrow ty (.int v) = .int v ∧ fits ty (.int v) = true := by
  rcases h with rfl | ⟨rfl, h⟩
  · have e : parseFieldDescriptor "I" = some .int := by decide +kernel
    rw [e] at hp
    cases hp
    exact ⟨rfl, rfl⟩
  · have e : parseFieldDescriptor "Z" = some .boolean := by decide +kernel
    rw [e] at hp
    cases hp
    rcases h with rfl | rfl <;> exact ⟨by decide +kernel, by decide +kernel⟩
theorem sI_at {r j k : Nat} {v : Int32} : dI (sI d r j v) r k = if k = j then v else dI d r k := by
  by_cases h : k = j <;> simp [dI, sI, va_up, h]
theorem b_putI (C : Cx p s m args c cc nL own D cy B) {index cl j r : Nat} {v : Int32} {d1 : Ds} (hf : FL own index cl j) (ht : FT cl) (hq : chk g r cl) (hc : cl < 100) (hr : fR cl j = false) (ho : okb cl j v) (hd1 : d1 = sI d r j v) (hdg : decode cc pc = .ok (.putfield index, 3)) (k : WB p l e R s m args below meth c nL D cy B cells slots Q g d1 lv (pc + 3) rest) : WB p l e R s m args below meth c nL D cy B cells slots Q g d lv pc (.int v :: .ref (ad B r) :: rest) := by
  intro H locs ls hl hP hS
  obtain ⟨CN, T, N, h1, h2, h3, h4⟩ := hf
  obtain ⟨CN', T', N', ty, t1, t2, t3⟩ := ht
  rw [h1] at t1
  cases t1
  obtain ⟨hx, hb, hml, hown, hts, hK, hSx, hN⟩ := C
  have hj : j < fN cl := by rw [fN_of h1]; exact h2
  obtain ⟨q, e1, ho1, ho2⟩ := ho
  rw [h1] at e1
  cases e1
  have hn := nar_ib ho2 (t2 j h2)
  subst hd1
  have fin : cel B cy g (sI d r j v) r = .inr (cl, (fls B g d r cl).set j (.int v)) := by
    rw [cel_o hq.2 hc]
    congr 2
    refine (fls_set hj (fun x hx => ?_) ?_).symm
    · unfold fv
      rw [sI_at, if_neg hx]
    · unfold fv
      rw [hr, sI_at, if_pos rfl]
      rfl
  rcases h4 with h4 | h4
  · exact va_put (D := D) hx hb hts h3 ty t2 t3 hown hK hP.2 (wls_D hP.1) hS r ((wls_at hq.1).trans (by rw [cel_o hq.2 hc])) h1 j h2 (hts _ h4) (fun _ h9 => h9) ho1 (t2 j h2) hn.1 hn.2 (by simpa [fls] using hj) hdg (fun H1 locs1 hP1 hD1 hS1 => k H1 locs1 ls hl (hP.set hq.1 rfl (fun x _ hx => sI_o hx) fin hP1) hS1)
  · exact va_putN (D := D) hx hb hts h3 ty t2 t3 hown hK hP.2 (wls_D hP.1) hS r ((wls_at hq.1).trans (by rw [cel_o hq.2 hc])) h1 j h2 (va_Nw.use rfl (hN _ h4 rfl)) (fun _ h9 => h9) ho1 (t2 j h2) hn.1 hn.2 (by simpa [fls] using hj) hdg (fun H1 locs1 hP1 hD1 hS1 => k H1 locs1 ls hl (hP.set hq.1 rfl (fun x _ hx => sI_o hx) fin hP1) hS1)
theorem upd_eq (f : Nat → Int32) (k : Nat) (x : Int32) : upd f k x = va_up f k x := by
  funext j
  by_cases h : j = k <;> simp [upd, va_up, h]
theorem updL_eq (f : Nat → Int64) (k : Nat) (x : Int64) : vp_updL f k x = va_up f k x := by
  funext j
  by_cases h : j = k <;> simp [vp_updL, va_up, h]
theorem updF_eq (f : Nat → UInt32) (k : Nat) (x : UInt32) : vf_upd f k x = va_up f k x := by
  funext j
  by_cases h : j = k <;> simp [vf_upd, va_up, h]
theorem sI_row {r j : Nat} {v : Int32} : dI (sI d r j v) r = va_up (dI d r) j v := by simp [dI, sI, va_up]
theorem sF_row {r j : Nat} {v : UInt32} : dF (sF d r j v) r = va_up (dF d r) j v := by simp [dF, sF, va_up]
theorem sL_row {r j : Nat} {v : Int64} : dL (sL d r j v) r = va_up (dL d r) j v := by simp [dL, sL, va_up]
theorem sW_row {r j : Nat} {v : Option Nat} : dW (sW d r j v) r = va_up (dW d r) j v := by simp [dW, sW, va_up]
theorem cI_row {a r sp dp n : Nat} : dI (cI d a r sp dp n) r = va_cpy (dI d a) (dI d r) sp dp n := by simp [dI, cI, va_up]
theorem cF_row {a r sp dp n : Nat} : dF (cF d a r sp dp n) r = va_cpy (dF d a) (dF d r) sp dp n := by simp [dF, cF, va_up]
theorem b_iald (C : Cx p s m args c cc nL own D cy B) {r : Nat} {i : Int32} (hq : chk g r 102) (hi : ¬ (i < 0 ∨ gL g r ≤ i.toNatClampNeg)) (hdg : decode cc pc = .ok (.iaload, 1)) (k : WB p l e R s m args below meth c nL D cy B cells slots Q g d lv (pc + 1) (.int (dI d r i.toNatClampNeg) :: rest)) : WB p l e R s m args below meth c nL D cy B cells slots Q g d lv pc (.int i :: .ref (ad B r) :: rest) := by
  intro H locs ls hl hP hS
  obtain ⟨hx, hb, hml, hown, hts, hK, -⟩ := C
  exact va_iald (D := D) hx hb hK hP.2 r 2 ((wls_at hq.1).trans (by rw [cel_a (t := 2) hq.2]; rfl)) rfl hi hdg (k H locs ls hl hP hS)
theorem b_bald (C : Cx p s m args c cc nL own D cy B) {r : Nat} {i : Int32} (hq : chk g r 100) (hi : ¬ (i < 0 ∨ gL g r ≤ i.toNatClampNeg)) (hdg : decode cc pc = .ok (.baload, 1)) (k : WB p l e R s m args below meth c nL D cy B cells slots Q g d lv (pc + 1) (.int (dI d r i.toNatClampNeg) :: rest)) : WB p l e R s m args below meth c nL D cy B cells slots Q g d lv pc (.int i :: .ref (ad B r) :: rest) := by
  intro H locs ls hl hP hS
  obtain ⟨hx, hb, hml, hown, hts, hK, -⟩ := C
  exact va_bald (D := D) hx hb hK hP.2 r 0 ((wls_at hq.1).trans (by rw [cel_a (t := 0) hq.2]; rfl)) rfl hi hdg (k H locs ls hl hP hS)
theorem b_zald (C : Cx p s m args c cc nL own D cy B) {r : Nat} {i : Int32} (hq : chk g r 104) (hi : ¬ (i < 0 ∨ gL g r ≤ i.toNatClampNeg)) (hdg : decode cc pc = .ok (.baload, 1)) (k : WB p l e R s m args below meth c nL D cy B cells slots Q g d lv (pc + 1) (.int (dI d r i.toNatClampNeg) :: rest)) : WB p l e R s m args below meth c nL D cy B cells slots Q g d lv pc (.int i :: .ref (ad B r) :: rest) := by
  intro H locs ls hl hP hS
  obtain ⟨hx, hb, hml, hown, hts, hK, -⟩ := C
  exact va_zald (D := D) hx hb hK hP.2 r 4 ((wls_at hq.1).trans (by rw [cel_a (t := 4) hq.2]; rfl)) rfl hi hdg (k H locs ls hl hP hS)
theorem b_lald (C : Cx p s m args c cc nL own D cy B) {r : Nat} {i : Int32} (hq : chk g r 103) (hi : ¬ (i < 0 ∨ gL g r ≤ i.toNatClampNeg)) (hdg : decode cc pc = .ok (.laload, 1)) (k : WB p l e R s m args below meth c nL D cy B cells slots Q g d lv (pc + 1) (.long (dL d r i.toNatClampNeg) :: rest)) : WB p l e R s m args below meth c nL D cy B cells slots Q g d lv pc (.int i :: .ref (ad B r) :: rest) := by
  intro H locs ls hl hP hS
  obtain ⟨hx, hb, hml, hown, hts, hK, -⟩ := C
  exact va_lald (D := D) hx hb hK hP.2 r 3 ((wls_at hq.1).trans (by rw [cel_a (t := 3) hq.2]; rfl)) rfl hi hdg (k H locs ls hl hP hS)
theorem b_fald (C : Cx p s m args c cc nL own D cy B) {r : Nat} {i : Int32} (hq : chk g r 101) (hi : ¬ (i < 0 ∨ gL g r ≤ i.toNatClampNeg)) (hdg : decode cc pc = .ok (.faload, 1)) (k : WB p l e R s m args below meth c nL D cy B cells slots Q g d lv (pc + 1) (.float (dF d r i.toNatClampNeg) :: rest)) : WB p l e R s m args below meth c nL D cy B cells slots Q g d lv pc (.int i :: .ref (ad B r) :: rest) := by
  intro H locs ls hl hP hS
  obtain ⟨hx, hb, hml, hown, hts, hK, -⟩ := C
  exact va_fald (D := D) hx hb hK hP.2 r 1 ((wls_at hq.1).trans (by rw [cel_a (t := 1) hq.2]; rfl)) rfl hi hdg (k H locs ls hl hP hS)
theorem b_aaldD (C : Cx p s m args c cc nL own D cy B) {r r1 : Nat} {i : Int32} (hq : chk g r 105) (hi : ¬ (i < 0 ∨ gL g r ≤ i.toNatClampNeg)) (he : gR g r i.toNatClampNeg = some r1) (hdg : decode cc pc = .ok (.aaload, 1)) (k : WB p l e R s m args below meth c nL D cy B cells slots Q g d lv (pc + 1) (.ref (ad B r1) :: rest)) : WB p l e R s m args below meth c nL D cy B cells slots Q g d lv pc (.int i :: .ref (ad B r) :: rest) := by
  intro H locs ls hl hP hS
  obtain ⟨hx, hb, hml, hown, hts, hK, -⟩ := C
  refine va_aldq (D := D) hx hb hK hP.2 r 5 ((wls_at hq.1).trans (by rw [cel_a (t := 5) hq.2]; rfl)) rfl hi hdg ?_
  rw [he]
  exact k H locs ls hl hP hS
theorem b_aaldC (C : Cx p s m args c cc nL own D cy B) {r r1 : Nat} {i : Int32} (hq : chk g r 106) (hi : ¬ (i < 0 ∨ gL g r ≤ i.toNatClampNeg)) (he : gR g r i.toNatClampNeg = some r1) (hdg : decode cc pc = .ok (.aaload, 1)) (k : WB p l e R s m args below meth c nL D cy B cells slots Q g d lv (pc + 1) (.ref (ad B r1) :: rest)) : WB p l e R s m args below meth c nL D cy B cells slots Q g d lv pc (.int i :: .ref (ad B r) :: rest) := by
  intro H locs ls hl hP hS
  obtain ⟨hx, hb, hml, hown, hts, hK, -⟩ := C
  refine va_aldq (D := D) hx hb hK hP.2 r 6 ((wls_at hq.1).trans (by rw [cel_a (t := 6) hq.2]; rfl)) rfl hi hdg ?_
  rw [he]
  exact k H locs ls hl hP hS
theorem b_aaldW (C : Cx p s m args c cc nL own D cy B) {r : Nat} {i : Int32} (hq : chk g r 107) (hi : ¬ (i < 0 ∨ gL g r ≤ i.toNatClampNeg)) (hdg : decode cc pc = .ok (.aaload, 1)) (k : WB p l e R s m args below meth c nL D cy B cells slots Q g d lv (pc + 1) (rv B (dW d r i.toNatClampNeg) :: rest)) : WB p l e R s m args below meth c nL D cy B cells slots Q g d lv pc (.int i :: .ref (ad B r) :: rest) := by
  intro H locs ls hl hP hS
  obtain ⟨hx, hb, hml, hown, hts, hK, -⟩ := C
  exact va_aldq (D := D) (f := fun i => (dW d r i).map (ad B)) hx hb hK hP.2 r 7 ((wls_at hq.1).trans (by rw [cel_a (t := 7) hq.2]; rfl)) rfl hi hdg (k H locs ls hl hP hS)
theorem b_iast (C : Cx p s m args c cc nL own D cy B) {r : Nat} {i : Int32} {x : Int32} {d1 : Ds} (hq : chk g r 102) (hi : ¬ (i < 0 ∨ gL g r ≤ i.toNatClampNeg)) (hd1 : d1 = sI d r i.toNatClampNeg x) (hdg : decode cc pc = .ok (.iastore, 1)) (k : WB p l e R s m args below meth c nL D cy B cells slots Q g d1 lv (pc + 1) rest) : WB p l e R s m args below meth c nL D cy B cells slots Q g d lv pc (.int x :: .int i :: .ref (ad B r) :: rest) := by
  intro H locs ls hl hP hS
  obtain ⟨hx, hb, hml, hown, hts, hK, -⟩ := C
  subst hd1
  refine va_iast (D := D) hx hb hK hP.2 (wls_D hP.1) hS r 2 ((wls_at hq.1).trans (by rw [cel_a (t := 2) hq.2]; rfl)) rfl hi hdg (fun H1 locs1 hP1 hD1 hS1 => k H1 locs1 ls hl (hP.set hq.1 rfl (fun x _ hx => sI_o hx) ?_ hP1) hS1)
  rw [cel_a (t := 2) hq.2, upd_eq]
  unfold ar
  rw [sI_row]
  rfl
theorem b_bast (C : Cx p s m args c cc nL own D cy B) {r : Nat} {i : Int32} {x : Int32} {d1 : Ds} (hq : chk g r 100) (hi : ¬ (i < 0 ∨ gL g r ≤ i.toNatClampNeg)) (hd1 : d1 = sI d r i.toNatClampNeg (vp_nar .byte x)) (hdg : decode cc pc = .ok (.bastore, 1)) (k : WB p l e R s m args below meth c nL D cy B cells slots Q g d1 lv (pc + 1) rest) : WB p l e R s m args below meth c nL D cy B cells slots Q g d lv pc (.int x :: .int i :: .ref (ad B r) :: rest) := by
  intro H locs ls hl hP hS
  obtain ⟨hx, hb, hml, hown, hts, hK, -⟩ := C
  subst hd1
  refine va_bast (D := D) hx hb hK hP.2 (wls_D hP.1) hS r 0 ((wls_at hq.1).trans (by rw [cel_a (t := 0) hq.2]; rfl)) rfl hi hdg (fun H1 locs1 hP1 hD1 hS1 => k H1 locs1 ls hl (hP.set hq.1 rfl (fun x _ hx => sI_o hx) ?_ hP1) hS1)
  rw [cel_a (t := 0) hq.2, upd_eq]
  unfold ar
  rw [sI_row]
  rfl
theorem b_zast (C : Cx p s m args c cc nL own D cy B) {r : Nat} {i : Int32} {x : Int32} {d1 : Ds} (hq : chk g r 104) (hi : ¬ (i < 0 ∨ gL g r ≤ i.toNatClampNeg)) (hd1 : d1 = sI d r i.toNatClampNeg (vp_nar .boolean x)) (hdg : decode cc pc = .ok (.bastore, 1)) (k : WB p l e R s m args below meth c nL D cy B cells slots Q g d1 lv (pc + 1) rest) : WB p l e R s m args below meth c nL D cy B cells slots Q g d lv pc (.int x :: .int i :: .ref (ad B r) :: rest) := by
  intro H locs ls hl hP hS
  obtain ⟨hx, hb, hml, hown, hts, hK, -⟩ := C
  subst hd1
  refine va_zast (D := D) hx hb hK hP.2 (wls_D hP.1) hS r 4 ((wls_at hq.1).trans (by rw [cel_a (t := 4) hq.2]; rfl)) rfl hi hdg (fun H1 locs1 hP1 hD1 hS1 => k H1 locs1 ls hl (hP.set hq.1 rfl (fun x _ hx => sI_o hx) ?_ hP1) hS1)
  rw [cel_a (t := 4) hq.2, upd_eq]
  unfold ar
  rw [sI_row]
  rfl
theorem b_last (C : Cx p s m args c cc nL own D cy B) {r : Nat} {i : Int32} {x : Int64} {d1 : Ds} (hq : chk g r 103) (hi : ¬ (i < 0 ∨ gL g r ≤ i.toNatClampNeg)) (hd1 : d1 = sL d r i.toNatClampNeg x) (hdg : decode cc pc = .ok (.lastore, 1)) (k : WB p l e R s m args below meth c nL D cy B cells slots Q g d1 lv (pc + 1) rest) : WB p l e R s m args below meth c nL D cy B cells slots Q g d lv pc (.long x :: .int i :: .ref (ad B r) :: rest) := by
  intro H locs ls hl hP hS
  obtain ⟨hx, hb, hml, hown, hts, hK, -⟩ := C
  subst hd1
  refine va_last (D := D) hx hb hK hP.2 (wls_D hP.1) hS r 3 ((wls_at hq.1).trans (by rw [cel_a (t := 3) hq.2]; rfl)) rfl hi hdg (fun H1 locs1 hP1 hD1 hS1 => k H1 locs1 ls hl (hP.set hq.1 rfl (fun x _ hx => sL_o hx) ?_ hP1) hS1)
  rw [cel_a (t := 3) hq.2, updL_eq]
  unfold ar
  rw [sL_row]
  rfl
theorem b_fast (C : Cx p s m args c cc nL own D cy B) {r : Nat} {i : Int32} {x : UInt32} {d1 : Ds} (hq : chk g r 101) (hi : ¬ (i < 0 ∨ gL g r ≤ i.toNatClampNeg)) (hd1 : d1 = sF d r i.toNatClampNeg x) (hdg : decode cc pc = .ok (.fastore, 1)) (k : WB p l e R s m args below meth c nL D cy B cells slots Q g d1 lv (pc + 1) rest) : WB p l e R s m args below meth c nL D cy B cells slots Q g d lv pc (.float x :: .int i :: .ref (ad B r) :: rest) := by
  intro H locs ls hl hP hS
  obtain ⟨hx, hb, hml, hown, hts, hK, -⟩ := C
  subst hd1
  refine va_fast (D := D) hx hb hK hP.2 (wls_D hP.1) hS r 1 ((wls_at hq.1).trans (by rw [cel_a (t := 1) hq.2]; rfl)) rfl hi hdg (fun H1 locs1 hP1 hD1 hS1 => k H1 locs1 ls hl (hP.set hq.1 rfl (fun x _ hx => sF_o hx) ?_ hP1) hS1)
  rw [cel_a (t := 1) hq.2, updF_eq]
  unfold ar
  rw [sF_row]
  rfl
theorem b_alen (C : Cx p s m args c cc nL own D cy B) {r t : Nat} (hq : chk g r (100 + t)) (ht : t < 8) (hdg : decode cc pc = .ok (.arraylength, 1)) (k : WB p l e R s m args below meth c nL D cy B cells slots Q g d lv (pc + 1) (.int (Int32.ofNat (gL g r)) :: rest)) : WB p l e R s m args below meth c nL D cy B cells slots Q g d lv pc (.ref (ad B r) :: rest) := by
  intro H locs ls hl hP hS
  obtain ⟨hx, hb, hml, hown, hts, hK, -⟩ := C
  exact va_alen (D := D) (v := Int32.ofNat (gL g r)) hx hb hK hP.2 r t ((wls_at hq.1).trans (by rw [cel_a hq.2])) (tys8_at ht) rfl hdg (k H locs ls hl hP hS)
def FLI (own : String) (index cl j : Nat) : Prop := FL own index cl j ∧ cl < 100 ∧ fR cl j = false
def FLR (own : String) (index cl j : Nat) : Prop := FL own index cl j ∧ cl < 100 ∧ fR cl j = true
def FPI (cl j : Nat) : Prop := FT cl ∧ ∃ q : vw_C, vwCl[cl]? = some q ∧ (q.2.1 j).2.2.2 = false ∧ (q.2.1 j).2.2.1 = "I"
def FPZ (cl j : Nat) : Prop := FT cl ∧ ∃ q : vw_C, vwCl[cl]? = some q ∧ (q.2.1 j).2.2.2 = false ∧ (q.2.1 j).2.2.1 = "Z"
theorem b_gI (C : Cx p s m args c cc nL own D cy B) {index cl j r : Nat} (hdg : decode cc pc = .ok (.getfield index, 3)) (hf : FLI own index cl j) (hq : chk g r cl) (k : WB p l e R s m args below meth c nL D cy B cells slots Q g d lv (pc + 3) (.int (dI d r j) :: rest)) : WB p l e R s m args below meth c nL D cy B cells slots Q g d lv pc (.ref (ad B r) :: rest) := b_getI C hf.1 hq hf.2.1 hf.2.2 hdg k
theorem b_gR (C : Cx p s m args c cc nL own D cy B) {index cl j r r1 : Nat} (hdg : decode cc pc = .ok (.getfield index, 3)) (hf : FLR own index cl j) (hq : chk g r cl) (he : gR g r j = some r1) (k : WB p l e R s m args below meth c nL D cy B cells slots Q g d lv (pc + 3) (.ref (ad B r1) :: rest)) : WB p l e R s m args below meth c nL D cy B cells slots Q g d lv pc (.ref (ad B r) :: rest) := b_getR C hf.1 hq hf.2.1 hf.2.2 he hdg k
theorem b_pI (C : Cx p s m args c cc nL own D cy B) {index cl j r : Nat} {v : Int32} {d1 : Ds} (hdg : decode cc pc = .ok (.putfield index, 3)) (hf : FLI own index cl j) (ht : FPI cl j) (hq : chk g r cl) (hd1 : d1 = sI d r j v) (k : WB p l e R s m args below meth c nL D cy B cells slots Q g d1 lv (pc + 3) rest) : WB p l e R s m args below meth c nL D cy B cells slots Q g d lv pc (.int v :: .ref (ad B r) :: rest) := b_putI C hf.1 ht.1 hq hf.2.1 hf.2.2 (by obtain ⟨-, q, h1, h2, h3⟩ := ht; exact ⟨q, h1, h2, Or.inl h3⟩) hd1 hdg k
theorem b_pZ (C : Cx p s m args c cc nL own D cy B) {index cl j r : Nat} {v : Int32} {d1 : Ds} (hdg : decode cc pc = .ok (.putfield index, 3)) (hf : FLI own index cl j) (ht : FPZ cl j) (hz : v = 0 ∨ v = 1) (hq : chk g r cl) (hd1 : d1 = sI d r j v) (k : WB p l e R s m args below meth c nL D cy B cells slots Q g d1 lv (pc + 3) rest) : WB p l e R s m args below meth c nL D cy B cells slots Q g d lv pc (.int v :: .ref (ad B r) :: rest) := b_putI C hf.1 ht.1 hq hf.2.1 hf.2.2 (by obtain ⟨-, q, h1, h2, h3⟩ := ht; exact ⟨q, h1, h2, Or.inr ⟨h3, hz⟩⟩) hd1 hdg k
end BR
