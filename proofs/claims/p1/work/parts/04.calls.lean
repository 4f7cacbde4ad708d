/-- a method's start: its arguments, the world -/
def PC (D : va_G) (cy : Nat → ClassId) (B : Bs) (av : List Value) (g : Gs) (d : Ds) : Array Value → State → Prop := va_Pc av (fun U => WP D cy B g d U.heap ∧ va_K D vwCl (tys8 cy) U ∧ Sx B U ∧ NzS U)
def QI (D : va_G) (cy : Nat → ClassId) (B : Bs) (v : Int32) (g : Gs) (d : Ds) : Array Value → State → Outcome → State → Prop := va_Qi (fun (x : Int32) (_ : Unit) => x = v) (fun _ t => WP D cy B g d t.heap) (wA B)
def QJ (D : va_G) (cy : Nat → ClassId) (B : Bs) (v : Int64) (g : Gs) (d : Ds) : Array Value → State → Outcome → State → Prop := va_Ql (fun (x : Int64) (_ : Unit) => x = v) (fun _ t => WP D cy B g d t.heap) (wA B)
def QV (D : va_G) (cy : Nat → ClassId) (B : Bs) (g : Gs) (d : Ds) : Array Value → State → Outcome → State → Prop := va_Qv (fun (_ : Unit) => True) (fun _ t => WP D cy B g d t.heap) (wA B)
def QR (D : va_G) (cy : Nat → ClassId) (B : Bs) (v : Nat) (g : Gs) (d : Ds) : Array Value → State → Outcome → State → Prop := va_Qr (fun (_ : Unit) => True) (fun _ a t => a = ad B v ∧ WP D cy B g d t.heap) (wA B)
def QQ (D : va_G) (cy : Nat → ClassId) (B : Bs) (v : Option Nat) (g : Gs) (d : Ds) : Array Value → State → Outcome → State → Prop := va_Qq (fun (x : Option Nat) (_ : Unit) => x = v.map (ad B)) (fun _ t => WP D cy B g d t.heap) (wA B)
theorem wp_at {D : va_G} {cy : Nat → ClassId} {B : Bs} {g : Gs} {d : Ds} {t : State} {H : Heap} (ht : t.heap = H) (hP : WP D cy B g d H) : WP D cy B g d t.heap := by
  rw [ht]
  exact hP
theorem Sx.moved {B : Bs} {u U : State} (hvm : u.vm.Alike U.vm) (hq : ∀ a : Nat, a < u.heap.size → ¬ wA B a → U.heap[a]? = u.heap[a]?) (h : Sx B u) : Sx B U := ⟨fun i hi => ((h.1 i hi).moved hvm).kept hq, h.2⟩
theorem PC.blind {D : va_G} {cy : Nat → ClassId} {B : Bs} {av : List Value} {g : Gs} {d : Ds} : FrameBlind (PC D cy B av g d) := fun a U f mk q => by
  obtain ⟨q0, qP, qK, qS, qN⟩ := q
  exact ⟨q0, qP, va_K.moved (u := U) (U := U.calling f mk a) (Vm.Alike.refl U.vm) qK, Sx.moved (u := U) (U := U.calling f mk a) (Vm.Alike.refl U.vm) (fun _ _ _ => rfl) qS, NzS.same (s := U) (U := U.calling f mk a) rfl qN⟩
/-- from the walk of its body a method's contract -/
theorem met_of {l : Launch} {y : MethodName} {cd : ByteArray} {maxL : Nat} {ret : Option FieldType} {rm : Room} {D : va_G} {cy : Nat → ClassId} {B : Bs} {av : List Value} {g : Gs} {d : Ds} {Qc : Array Value → State → Outcome → State → Prop} {mc ms : Nat} (hy : plainName y.cls = true) (ha : (lg_sl av).length ≤ maxL)
    (body : ∀ (p : Program) (e : Env) (s : State) (m : MethodId) (args : Array Value) (below : List Frame) (meth : Method) (c : Code), Cx p s m args c cd maxL y.cls D cy B → meth.sig.returnType = ret → meth.locks = false → meth.name = y.name → WB p l e rm s m args below meth c maxL D cy B 0 0 (MQ below Qc args s mc ms (wA B)) g d (lv_args 0 av) 0 []) : Met l y (.code y cd maxL ret :: wl) rm (PC D cy B av g d) Qc mc ms (wA B) := by
  refine Met.ofW (cc := cd) (maxL := maxL) (ret := ret) hy rfl ?_
  intro p e s m args below meth c s1 A hml hv
  obtain ⟨ha2, hP, hK, hS, hN⟩ := hv
  have hts := atoms_spec (ws := .code y cd maxL ret :: wl) A.pre
  have hbody := body p e s m args below meth c ⟨A.exec, A.bytes, hml, findClass_of_methodNamed A.named, fun w hw => hts w (List.mem_cons_of_mem _ hw), hK, hS, hN⟩ A.returns A.notSynchronized (name_of_methodNamed A.named A.method).1
  subst ha2
  rw [lg_entry_eq]
  exact hbody s.heap [] _ (lv_entry av ha) hP va_S.rf
section BC
variable {p : Program} {l : Launch} {e : Env} {R : Room} {s : State} {m : MethodId} {args : Array Value} {below : List Frame} {meth : Method} {c : Code} {cells slots : Nat} {Q : State → Prop} {nL : Nat} {D : va_G} {cy : Nat → ClassId} {B : Bs} {g : Gs} {d : Ds} {lv : List (Nat × Value)} {pc : Nat} {cc : ByteArray} {own : String} {rest : List Value}
theorem b_iret (C : Cx p s m args c cc nL own D cy B) (hr : meth.sig.returnType = some .int) (hlocks : meth.locks = false)  {v v1 : Int32} {d1 : Ds} (h : some (v, d) = some (v1, d1)) (hdg : decode cc pc = .ok (.ireturn, 1)) : WB p l e R s m args below meth c nL D cy B cells slots (MQ below (QI D cy B v1 g d1) args s cells slots (wA B)) g d lv pc ([.int v]) := by
  cases h
  intro H locs ls hl hP hS
  obtain ⟨hx, hb, hml, hown, hts, hK, -⟩ := C
  exact W.iret hx hb hr (fun t ht hW => ⟨⟨v, (), rfl, rfl, wp_at ht hP⟩, hS.F ht⟩) hS.2.2 hdg hlocks
theorem b_lret (C : Cx p s m args c cc nL own D cy B) (hr : meth.sig.returnType = some .long) (hlocks : meth.locks = false)  {v v1 : Int64} {d1 : Ds} (h : some (v, d) = some (v1, d1)) (hdg : decode cc pc = .ok (.lreturn, 1)) : WB p l e R s m args below meth c nL D cy B cells slots (MQ below (QJ D cy B v1 g d1) args s cells slots (wA B)) g d lv pc ([.long v]) := by
  cases h
  intro H locs ls hl hP hS
  obtain ⟨hx, hb, hml, hown, hts, hK, -⟩ := C
  exact W.lret hx hb hr (fun t ht hW => ⟨⟨v, (), rfl, rfl, wp_at ht hP⟩, hS.F ht⟩) hS.2.2 hdg hlocks
theorem nar_b {v : Int32} (h : v = 0 ∨ v = 1) : narrow .boolean (.int v) = .int v := by rcases h with rfl | rfl <;> decide +kernel
theorem b_zret (C : Cx p s m args c cc nL own D cy B) (hr : meth.sig.returnType = some .boolean) (hlocks : meth.locks = false) {v v1 : Int32} {d1 : Ds} (hz : v = 0 ∨ v = 1) (h : some (v, d) = some (v1, d1)) (hdg : decode cc pc = .ok (.ireturn, 1)) : WB p l e R s m args below meth c nL D cy B cells slots (MQ below (QI D cy B v1 g d1) args s cells slots (wA B)) g d lv pc ([.int v]) := by
  cases h
  intro H locs ls hl hP hS
  obtain ⟨hx, hb, hml, hown, hts, hK, -⟩ := C
  exact W.zret hx hb hr (nar_b hz) (fun t ht hW => ⟨⟨v, (), rfl, rfl, wp_at ht hP⟩, hS.F ht⟩) hS.2.2 hdg hlocks
theorem b_vret (C : Cx p s m args c cc nL own D cy B) (hr : meth.sig.returnType = none) (hlocks : meth.locks = false) {d1 : Ds} (h : some ((), d) = some ((), d1)) (hdg : decode cc pc = .ok (.return_, 1)) : WB p l e R s m args below meth c nL D cy B cells slots (MQ below (QV D cy B g d1) args s cells slots (wA B)) g d lv pc [] := by
  cases h
  intro H locs ls hl hP hS
  obtain ⟨hx, hb, hml, hown, hts, hK, -⟩ := C
  exact W.vret hx hb hr (fun t ht hW => ⟨⟨(), rfl, trivial, wp_at ht hP⟩, hS.F ht⟩) hS.2.2 hdg hlocks
theorem b_aret (C : Cx p s m args c cc nL own D cy B) {CN : String} (hr : meth.sig.returnType = some (.object CN)) (hlocks : meth.locks = false) {v v1 : Nat} {d1 : Ds} (h : some (v, d) = some (v1, d1)) (hdg : decode cc pc = .ok (.areturn, 1)) : WB p l e R s m args below meth c nL D cy B cells slots (MQ below (QR D cy B v1 g d1) args s cells slots (wA B)) g d lv pc ([.ref (ad B v)]) := by
  cases h
  intro H locs ls hl hP hS
  obtain ⟨hx, hb, hml, hown, hts, hK, -⟩ := C
  exact W.aret hx hb hr (Or.inl ⟨_, rfl⟩) (Or.inr ⟨_, rfl⟩) (fun t ht hW => ⟨⟨(), ad B v, rfl, trivial, rfl, wp_at ht hP⟩, hS.F ht⟩) hS.2.2 hdg hlocks
theorem b_aretQ (C : Cx p s m args c cc nL own D cy B) {CN : String} (hr : meth.sig.returnType = some (.object CN)) (hlocks : meth.locks = false) {v v1 : Option Nat} {d1 : Ds} (h : some (v, d) = some (v1, d1)) (hdg : decode cc pc = .ok (.areturn, 1)) : WB p l e R s m args below meth c nL D cy B cells slots (MQ below (QQ D cy B v1 g d1) args s cells slots (wA B)) g d lv pc ([rv B v]) := by
  cases h
  intro H locs ls hl hP hS
  obtain ⟨hx, hb, hml, hown, hts, hK, -⟩ := C
  refine W.aret hx hb hr (Or.inl ⟨_, rfl⟩) (by cases v <;> first | exact Or.inl rfl | exact Or.inr ⟨_, rfl⟩) (fun t ht hW => ⟨⟨v.map (ad B), (), rfl, rfl, wp_at ht hP⟩, hS.F ht⟩) hS.2.2 hdg hlocks
/-- what a call of an instance's method rests on -/
def LV (own : String) (index : Nat) (y : MethodName) (bytes : ByteArray) (maxL : Nat) (ret : Option FieldType) (n cl : Nat) : Prop := (∃ q : vw_C, vwCl[cl]? = some q ∧ q.1 = y.cls) ∧ (y.cls ≠ "java/lang/invoke/MethodHandle" ∧ y.cls ≠ "java/lang/invoke/VarHandle" ∧ (parseMethodDescriptor y.desc).map (fun d => d.parameters.length) = some n) ∧ Cond.methodLink own index y ∈ wl ∧ Cond.instanceMethod y ∈ wl ∧ Cond.selects y.cls y y ∈ wl ∧ Cond.initialized y.cls ∈ wl ∧ Cond.code y bytes maxL ret ∈ wl
/-- a static one -/
def LSt (own : String) (index : Nat) (y : MethodName) (bytes : ByteArray) (maxL : Nat) (ret : Option FieldType) (n : Nat) : Prop := (y.cls ≠ "java/lang/invoke/MethodHandle" ∧ y.cls ≠ "java/lang/invoke/VarHandle" ∧ (parseMethodDescriptor y.desc).map (fun d => d.parameters.length) = some n) ∧ (Cond.methodLink own index y ∈ wl ∨ Cond.methodLinkNest own index y "KeyMatrix" ∈ lw_tbl) ∧ Cond.static y ∈ wl ∧ Cond.initialized y.cls ∈ wl ∧ Cond.code y bytes maxL ret ∈ wl
theorem law_in {y : MethodName} {bytes : ByteArray} {maxL : Nat} {ret : Option FieldType} (h : Cond.code y bytes maxL ret ∈ wl) : GoodIn wl (.code y bytes maxL ret :: wl) := by
  intro w hw
  have hm : w ∈ wl := by
    rcases List.mem_cons.mp hw with rfl | h2
    · exact h
    · exact h2
  exact ⟨hm, good_of_word (wl_good hm)⟩
def rmOk (R rm : Room) (maxL mc ms : Nat) : Prop := rm.cells = mc ∧ rm.slots = ms ∧ rm.frames + 1 ≤ R.frames ∧ 8 + (maxL + 11) + rm.locals ≤ R.locals
theorem runV (C : Cx p s m args c cc nL own D cy B) {index maxL n mc ms : Nat} {y : MethodName} {bytes : ByteArray} {ret : Option FieldType} {rm : Room} {As : List Value} {Qc : Array Value → State → Outcome → State → Prop} {cl r0 : Nat} (hM : Met l y (.code y bytes maxL ret :: wl) rm (PC D cy B (.ref (ad B r0) :: As) g d) Qc mc ms (wA B)) (hV : LV own index y bytes maxL ret n cl) (hrm : rmOk R rm maxL mc ms) (hq : chk g r0 cl) (hc : cl < 100) (hn : As.length = n) (hrest : (rest.map fun v => v.category).sum ≤ 8) (hdg : decode cc pc = .ok (.invokevirtual index, 3)) (hcs : cells + mc ≤ R.cells ∧ slots + ms ≤ R.slots) {st : List Value} (hst : st = As.reverse ++ .ref (ad B r0) :: rest) {H : Heap} {locs : List Loc} {ls : Array Slot} (hl : lv_has ls nL lv) (hP : WP D cy B g d H) (hS : va_S (wA B) s.heap H locs) : va_Run p l e R s m args below meth c H locs cells slots mc ms (F0 m pc ls st) rest (Qc (Value.ref (ad B r0) :: As).toArray) (wA B) := by
  obtain ⟨hx, hb, hml, hown, hts, hK, hSx, hN⟩ := C
  obtain ⟨⟨q, v1, v2⟩, v3, v4, v5, v6, v7, v8⟩ := hV
  have he : (wls B cy g d)[r0]? = some (ad B r0, .inr (cl, fls B g d r0 cl)) := (wls_at hq.1).trans (by rw [cel_o hq.2 hc])
  have hG := law_in v8
  have cw : CallW R s args own y.cls index y bytes maxL ret (.code y bytes maxL ret :: wl) rm mc ms n :=
    ⟨callB_of n hts hG rfl hrm.1 hrm.2.1 (hts _ v7) (hts _ v4) v3 hrm.2.2, hts _ v5, hts _ v6⟩
  refine va_runV (As := As) (rest := rest) (b := ad B r0) (C := y.cls) ⟨hx, hb, hml, hown, hts⟩ hM cw ⟨PC.blind, ?_, fun U hU hW => ⟨rfl, by rw [hU]; exact hP, va_K.moved hW.alike hK, Sx.moved hW.alike (fun a h1 h2 => by rw [hU]; exact hS.2.1 a h1 h2) hSx, NzS.warm hW hN⟩⟩ rfl hn hl.1 hst (lv_room hrest) hdg hcs
  rw [← v2]
  exact va_recv hK hP.2 v1 he
theorem runS (C : Cx p s m args c cc nL own D cy B) {index maxL n mc ms : Nat} {y : MethodName} {bytes : ByteArray} {ret : Option FieldType} {rm : Room} {As : List Value} {Qc : Array Value → State → Outcome → State → Prop} (hM : Met l y (.code y bytes maxL ret :: wl) rm (PC D cy B As g d) Qc mc ms (wA B)) (hV : LSt own index y bytes maxL ret n) (hrm : rmOk R rm maxL mc ms) (hn : As.length = n) (hrest : (rest.map fun v => v.category).sum ≤ 8) (hdg : decode cc pc = .ok (.invokestatic index, 3)) (hcs : cells + mc ≤ R.cells ∧ slots + ms ≤ R.slots) {st : List Value} (hst : st = As.reverse ++ rest) {H : Heap} {locs : List Loc} {ls : Array Slot} (hl : lv_has ls nL lv) (hP : WP D cy B g d H) (hS : va_S (wA B) s.heap H locs) : va_Run p l e R s m args below meth c H locs cells slots mc ms (F0 m pc ls st) rest (Qc As.toArray) (wA B) := by
  obtain ⟨hx, hb, hml, hown, hts, hK, hSx, hN⟩ := C
  obtain ⟨v3, v4, v5, v7, v8⟩ := hV
  have hp : PreS s H (PC D cy B As g d) As := ⟨PC.blind, fun U hU hW => ⟨rfl, by rw [hU]; exact hP, va_K.moved hW.alike hK, Sx.moved hW.alike (fun a h1 h2 => by rw [hU]; exact hS.2.1 a h1 h2) hSx, NzS.warm hW hN⟩⟩
  rcases v4 with v4 | v4
  · exact va_runS (As := As) (rest := rest) ⟨hx, hb, hml, hown, hts⟩ hM ⟨callB_of n hts (law_in v8) rfl hrm.1 hrm.2.1 (hts _ v7) (hts _ v4) v3 hrm.2.2, hts _ v5⟩ hp rfl hn hl.1 hst (lv_room hrest) hdg hcs
  · exact va_runSN (As := As) (rest := rest) ⟨hx, hb, hml, hown, hts⟩ hM ⟨va_cnB n hts (law_in v8) rfl hrm.1 hrm.2.1 (hN _ v4 rfl) (hts _ v7) v3 hrm.2.2, hts _ v5, trivial⟩ hp rfl hn hl.1 hst (lv_room hrest) hdg hcs
/-- a constructor -/
def LCo (own : String) (index : Nat) (y : MethodName) (bytes : ByteArray) (maxL : Nat) (n : Nat) : Prop := y.name = "<init>" ∧ (y.cls ≠ "java/lang/invoke/MethodHandle" ∧ y.cls ≠ "java/lang/invoke/VarHandle" ∧ (parseMethodDescriptor y.desc).map (fun d => d.parameters.length) = some n) ∧ (Cond.methodLink own index y ∈ wl ∨ Cond.methodLinkNest own index y "KeyMatrix" ∈ lw_tbl) ∧ Cond.instanceMethod y ∈ wl ∧ Cond.initialized y.cls ∈ wl ∧ Cond.code y bytes maxL none ∈ wl
theorem runI (C : Cx p s m args c cc nL own D cy B) {index maxL n mc ms : Nat} {y : MethodName} {bytes : ByteArray}  {rm : Room} {As : List Value} {ret : Option FieldType} {Qc : Array Value → State → Outcome → State → Prop} {r0 : Nat} (hret : ret = none) (hM : Met l y (.code y bytes maxL none :: wl) rm (PC D cy B (.ref (ad B r0) :: As) g d) Qc mc ms (wA B)) (hV : LCo own index y bytes maxL n) (hrm : rmOk R rm maxL mc ms) (hn : As.length = n) (hrest : (rest.map fun v => v.category).sum ≤ 8) (hdg : decode cc pc = .ok (.invokespecial index, 3)) (hcs : cells + mc ≤ R.cells ∧ slots + ms ≤ R.slots) {st : List Value} (hst : st = As.reverse ++ .ref (ad B r0) :: rest) {H : Heap} {locs : List Loc} {ls : Array Slot} (hl : lv_has ls nL lv) (hP : WP D cy B g d H) (hS : va_S (wA B) s.heap H locs) : va_Run p l e R s m args below meth c H locs cells slots mc ms (F0 m pc ls st) rest (Qc (Value.ref (ad B r0) :: As).toArray) (wA B) := by
  obtain ⟨hx, hb, hml, hown, hts, hK, hSx, hN⟩ := C
  obtain ⟨v2, v3, v4, v5, v7, v8⟩ := hV
  have hp : PreS s H (PC D cy B (.ref (ad B r0) :: As) g d) (.ref (ad B r0) :: As) := ⟨PC.blind, fun U hU hW => ⟨rfl, by rw [hU]; exact hP, va_K.moved hW.alike hK, Sx.moved hW.alike (fun a h1 h2 => by rw [hU]; exact hS.2.1 a h1 h2) hSx, NzS.warm hW hN⟩⟩
  rcases v4 with v4 | v4
  · exact va_runI (As := As) (rest := rest) (b := ad B r0) ⟨hx, hb, hml, hown, hts⟩ hM ⟨callB_of n hts (law_in v8) rfl hrm.1 hrm.2.1 (hts _ v7) (hts _ v4) v3 hrm.2.2, v2, hts _ v5⟩ hp rfl hn hl.1 hst (lv_room hrest) hdg hcs
  · exact va_runIN (As := As) (rest := rest) (b := ad B r0) ⟨hx, hb, hml, hown, hts⟩ hM ⟨va_cnB n hts (law_in v8) rfl hrm.1 hrm.2.1 (hN _ v4 rfl) (hts _ v7) v3 hrm.2.2, v2, hts _ v5⟩ hp rfl hn hl.1 hst (lv_room hrest) hdg hcs
theorem b_callVI (C : Cx p s m args c cc nL own D cy B) {index maxL n mc ms : Nat} {y : MethodName} {bytes : ByteArray} {ret : Option FieldType} {rm : Room} {As : List Value} {v1 : Int32} {g1 : Gs} {d1 : Ds} {cl r0 : Nat} (hM : Met l y (.code y bytes maxL ret :: wl) rm (PC D cy B (.ref (ad B r0) :: As) g d) (QI D cy B v1 g1 d1) mc ms (wA B)) (hV : LV own index y bytes maxL ret n cl) (hrm : rmOk R rm maxL mc ms) (hq : chk g r0 cl) (hc : cl < 100) (hn : As.length = n) (hrest : (rest.map fun v => v.category).sum ≤ 8) (hdg : decode cc pc = .ok (.invokevirtual index, 3)) (hcs : cells + mc ≤ R.cells ∧ slots + ms ≤ R.slots) {st : List Value} (hst : st = As.reverse ++ .ref (ad B r0) :: rest) (k : WB p l e R s m args below meth c nL D cy B (cells + mc) (slots + ms) Q g1 d1 lv (pc + 3) (.int v1 :: rest)) : WB p l e R s m args below meth c nL D cy B cells slots Q g d lv pc st := fun H locs ls hl hP hS =>
  va_calli (runV C hM hV hrm hq hc hn hrest hdg hcs hst hl hP hS) hS (fun q _ h => h) (fun q h => h) (fun r u t H1 locs1 ht hvm hw hB hz1 hk1 hS1 => by
    subst hw
    exact k H1 locs1 ls hl (by rw [← ht]; exact hB) hS1)
theorem b_callVJ (C : Cx p s m args c cc nL own D cy B) {index maxL n mc ms : Nat} {y : MethodName} {bytes : ByteArray} {ret : Option FieldType} {rm : Room} {As : List Value} {v1 : Int64} {g1 : Gs} {d1 : Ds} {cl r0 : Nat} (hM : Met l y (.code y bytes maxL ret :: wl) rm (PC D cy B (.ref (ad B r0) :: As) g d) (QJ D cy B v1 g1 d1) mc ms (wA B)) (hV : LV own index y bytes maxL ret n cl) (hrm : rmOk R rm maxL mc ms) (hq : chk g r0 cl) (hc : cl < 100) (hn : As.length = n) (hrest : (rest.map fun v => v.category).sum ≤ 8) (hdg : decode cc pc = .ok (.invokevirtual index, 3)) (hcs : cells + mc ≤ R.cells ∧ slots + ms ≤ R.slots) {st : List Value} (hst : st = As.reverse ++ .ref (ad B r0) :: rest) (k : WB p l e R s m args below meth c nL D cy B (cells + mc) (slots + ms) Q g1 d1 lv (pc + 3) (.long v1 :: rest)) : WB p l e R s m args below meth c nL D cy B cells slots Q g d lv pc st := fun H locs ls hl hP hS =>
  va_calll (runV C hM hV hrm hq hc hn hrest hdg hcs hst hl hP hS) hS (fun q _ h => h) (fun q h => h) (fun r u t H1 locs1 ht hvm hw hB hz1 hk1 hS1 => by
    subst hw
    exact k H1 locs1 ls hl (by rw [← ht]; exact hB) hS1)
theorem b_callVN (C : Cx p s m args c cc nL own D cy B) {index maxL n mc ms : Nat} {y : MethodName} {bytes : ByteArray} {ret : Option FieldType} {rm : Room} {As : List Value}  {g1 : Gs} {d1 : Ds} {cl r0 : Nat} (hM : Met l y (.code y bytes maxL ret :: wl) rm (PC D cy B (.ref (ad B r0) :: As) g d) (QV D cy B g1 d1) mc ms (wA B)) (hV : LV own index y bytes maxL ret n cl) (hrm : rmOk R rm maxL mc ms) (hq : chk g r0 cl) (hc : cl < 100) (hn : As.length = n) (hrest : (rest.map fun v => v.category).sum ≤ 8) (hdg : decode cc pc = .ok (.invokevirtual index, 3)) (hcs : cells + mc ≤ R.cells ∧ slots + ms ≤ R.slots) {st : List Value} (hst : st = As.reverse ++ .ref (ad B r0) :: rest) (k : WB p l e R s m args below meth c nL D cy B (cells + mc) (slots + ms) Q g1 d1 lv (pc + 3) rest) : WB p l e R s m args below meth c nL D cy B cells slots Q g d lv pc st := fun H locs ls hl hP hS =>
  va_callv (runV C hM hV hrm hq hc hn hrest hdg hcs hst hl hP hS) hS (fun q _ h => h) (fun q h => h) (fun u t H1 locs1 ht hvm hw hB hz1 hk1 hS1 => k H1 locs1 ls hl (by rw [← ht]; exact hB) hS1)
theorem b_callVR (C : Cx p s m args c cc nL own D cy B) {index maxL n mc ms : Nat} {y : MethodName} {bytes : ByteArray} {ret : Option FieldType} {rm : Room} {As : List Value} {v1 : Nat} {g1 : Gs} {d1 : Ds} {cl r0 : Nat} (hM : Met l y (.code y bytes maxL ret :: wl) rm (PC D cy B (.ref (ad B r0) :: As) g d) (QR D cy B v1 g1 d1) mc ms (wA B)) (hV : LV own index y bytes maxL ret n cl) (hrm : rmOk R rm maxL mc ms) (hq : chk g r0 cl) (hc : cl < 100) (hn : As.length = n) (hrest : (rest.map fun v => v.category).sum ≤ 8) (hdg : decode cc pc = .ok (.invokevirtual index, 3)) (hcs : cells + mc ≤ R.cells ∧ slots + ms ≤ R.slots) {st : List Value} (hst : st = As.reverse ++ .ref (ad B r0) :: rest) (k : WB p l e R s m args below meth c nL D cy B (cells + mc) (slots + ms) Q g1 d1 lv (pc + 3) (.ref (ad B v1) :: rest)) : WB p l e R s m args below meth c nL D cy B cells slots Q g d lv pc st := fun H locs ls hl hP hS =>
  va_callr (runV C hM hV hrm hq hc hn hrest hdg hcs hst hl hP hS) hS (fun q _ h => h) (fun q h => h) (fun u ra t H1 locs1 ht hvm hw hB hz1 hk1 hS1 => by
    obtain ⟨rfl, hB⟩ := hB
    exact k H1 locs1 ls hl (by rw [← ht]; exact hB) hS1)
theorem b_callVQ (C : Cx p s m args c cc nL own D cy B) {index maxL n mc ms : Nat} {y : MethodName} {bytes : ByteArray} {ret : Option FieldType} {rm : Room} {As : List Value} {v1 : Option Nat} {g1 : Gs} {d1 : Ds} {cl r0 : Nat} (hM : Met l y (.code y bytes maxL ret :: wl) rm (PC D cy B (.ref (ad B r0) :: As) g d) (QQ D cy B v1 g1 d1) mc ms (wA B)) (hV : LV own index y bytes maxL ret n cl) (hrm : rmOk R rm maxL mc ms) (hq : chk g r0 cl) (hc : cl < 100) (hn : As.length = n) (hrest : (rest.map fun v => v.category).sum ≤ 8) (hdg : decode cc pc = .ok (.invokevirtual index, 3)) (hcs : cells + mc ≤ R.cells ∧ slots + ms ≤ R.slots) {st : List Value} (hst : st = As.reverse ++ .ref (ad B r0) :: rest) (k : WB p l e R s m args below meth c nL D cy B (cells + mc) (slots + ms) Q g1 d1 lv (pc + 3) (rv B v1 :: rest)) : WB p l e R s m args below meth c nL D cy B cells slots Q g d lv pc st := fun H locs ls hl hP hS =>
  va_callq (runV C hM hV hrm hq hc hn hrest hdg hcs hst hl hP hS) hS (fun q _ h => h) (fun q h => h) (fun r u t H1 locs1 ht hvm hw hB hz1 hk1 hS1 => by
    subst hw
    exact k H1 locs1 ls hl (by rw [← ht]; exact hB) hS1)
theorem b_callSI (C : Cx p s m args c cc nL own D cy B) {index maxL n mc ms : Nat} {y : MethodName} {bytes : ByteArray} {ret : Option FieldType} {rm : Room} {As : List Value} {v1 : Int32} {g1 : Gs} {d1 : Ds}  (hM : Met l y (.code y bytes maxL ret :: wl) rm (PC D cy B As g d) (QI D cy B v1 g1 d1) mc ms (wA B)) (hV : LSt own index y bytes maxL ret n) (hrm : rmOk R rm maxL mc ms) (hn : As.length = n) (hrest : (rest.map fun v => v.category).sum ≤ 8) (hdg : decode cc pc = .ok (.invokestatic index, 3)) (hcs : cells + mc ≤ R.cells ∧ slots + ms ≤ R.slots) {st : List Value} (hst : st = As.reverse ++ rest) (k : WB p l e R s m args below meth c nL D cy B (cells + mc) (slots + ms) Q g1 d1 lv (pc + 3) (.int v1 :: rest)) : WB p l e R s m args below meth c nL D cy B cells slots Q g d lv pc st := fun H locs ls hl hP hS =>
  va_calli (runS C hM hV hrm hn hrest hdg hcs hst hl hP hS) hS (fun q _ h => h) (fun q h => h) (fun r u t H1 locs1 ht hvm hw hB hz1 hk1 hS1 => by
    subst hw
    exact k H1 locs1 ls hl (by rw [← ht]; exact hB) hS1)
theorem b_callSJ (C : Cx p s m args c cc nL own D cy B) {index maxL n mc ms : Nat} {y : MethodName} {bytes : ByteArray} {ret : Option FieldType} {rm : Room} {As : List Value} {v1 : Int64} {g1 : Gs} {d1 : Ds}  (hM : Met l y (.code y bytes maxL ret :: wl) rm (PC D cy B As g d) (QJ D cy B v1 g1 d1) mc ms (wA B)) (hV : LSt own index y bytes maxL ret n) (hrm : rmOk R rm maxL mc ms) (hn : As.length = n) (hrest : (rest.map fun v => v.category).sum ≤ 8) (hdg : decode cc pc = .ok (.invokestatic index, 3)) (hcs : cells + mc ≤ R.cells ∧ slots + ms ≤ R.slots) {st : List Value} (hst : st = As.reverse ++ rest) (k : WB p l e R s m args below meth c nL D cy B (cells + mc) (slots + ms) Q g1 d1 lv (pc + 3) (.long v1 :: rest)) : WB p l e R s m args below meth c nL D cy B cells slots Q g d lv pc st := fun H locs ls hl hP hS =>
  va_calll (runS C hM hV hrm hn hrest hdg hcs hst hl hP hS) hS (fun q _ h => h) (fun q h => h) (fun r u t H1 locs1 ht hvm hw hB hz1 hk1 hS1 => by
    subst hw
    exact k H1 locs1 ls hl (by rw [← ht]; exact hB) hS1)
theorem b_callSN (C : Cx p s m args c cc nL own D cy B) {index maxL n mc ms : Nat} {y : MethodName} {bytes : ByteArray} {ret : Option FieldType} {rm : Room} {As : List Value}  {g1 : Gs} {d1 : Ds}  (hM : Met l y (.code y bytes maxL ret :: wl) rm (PC D cy B As g d) (QV D cy B g1 d1) mc ms (wA B)) (hV : LSt own index y bytes maxL ret n) (hrm : rmOk R rm maxL mc ms) (hn : As.length = n) (hrest : (rest.map fun v => v.category).sum ≤ 8) (hdg : decode cc pc = .ok (.invokestatic index, 3)) (hcs : cells + mc ≤ R.cells ∧ slots + ms ≤ R.slots) {st : List Value} (hst : st = As.reverse ++ rest) (k : WB p l e R s m args below meth c nL D cy B (cells + mc) (slots + ms) Q g1 d1 lv (pc + 3) rest) : WB p l e R s m args below meth c nL D cy B cells slots Q g d lv pc st := fun H locs ls hl hP hS =>
  va_callv (runS C hM hV hrm hn hrest hdg hcs hst hl hP hS) hS (fun q _ h => h) (fun q h => h) (fun u t H1 locs1 ht hvm hw hB hz1 hk1 hS1 => k H1 locs1 ls hl (by rw [← ht]; exact hB) hS1)
theorem b_callSR (C : Cx p s m args c cc nL own D cy B) {index maxL n mc ms : Nat} {y : MethodName} {bytes : ByteArray} {ret : Option FieldType} {rm : Room} {As : List Value} {v1 : Nat} {g1 : Gs} {d1 : Ds}  (hM : Met l y (.code y bytes maxL ret :: wl) rm (PC D cy B As g d) (QR D cy B v1 g1 d1) mc ms (wA B)) (hV : LSt own index y bytes maxL ret n) (hrm : rmOk R rm maxL mc ms) (hn : As.length = n) (hrest : (rest.map fun v => v.category).sum ≤ 8) (hdg : decode cc pc = .ok (.invokestatic index, 3)) (hcs : cells + mc ≤ R.cells ∧ slots + ms ≤ R.slots) {st : List Value} (hst : st = As.reverse ++ rest) (k : WB p l e R s m args below meth c nL D cy B (cells + mc) (slots + ms) Q g1 d1 lv (pc + 3) (.ref (ad B v1) :: rest)) : WB p l e R s m args below meth c nL D cy B cells slots Q g d lv pc st := fun H locs ls hl hP hS =>
  va_callr (runS C hM hV hrm hn hrest hdg hcs hst hl hP hS) hS (fun q _ h => h) (fun q h => h) (fun u ra t H1 locs1 ht hvm hw hB hz1 hk1 hS1 => by
    obtain ⟨rfl, hB⟩ := hB
    exact k H1 locs1 ls hl (by rw [← ht]; exact hB) hS1)
theorem b_callSQ (C : Cx p s m args c cc nL own D cy B) {index maxL n mc ms : Nat} {y : MethodName} {bytes : ByteArray} {ret : Option FieldType} {rm : Room} {As : List Value} {v1 : Option Nat} {g1 : Gs} {d1 : Ds}  (hM : Met l y (.code y bytes maxL ret :: wl) rm (PC D cy B As g d) (QQ D cy B v1 g1 d1) mc ms (wA B)) (hV : LSt own index y bytes maxL ret n) (hrm : rmOk R rm maxL mc ms) (hn : As.length = n) (hrest : (rest.map fun v => v.category).sum ≤ 8) (hdg : decode cc pc = .ok (.invokestatic index, 3)) (hcs : cells + mc ≤ R.cells ∧ slots + ms ≤ R.slots) {st : List Value} (hst : st = As.reverse ++ rest) (k : WB p l e R s m args below meth c nL D cy B (cells + mc) (slots + ms) Q g1 d1 lv (pc + 3) (rv B v1 :: rest)) : WB p l e R s m args below meth c nL D cy B cells slots Q g d lv pc st := fun H locs ls hl hP hS =>
  va_callq (runS C hM hV hrm hn hrest hdg hcs hst hl hP hS) hS (fun q _ h => h) (fun q h => h) (fun r u t H1 locs1 ht hvm hw hB hz1 hk1 hS1 => by
    subst hw
    exact k H1 locs1 ls hl (by rw [← ht]; exact hB) hS1)
theorem b_objInit (C : Cx p s m args c cc nL own D cy B) {index r0 : Nat} (h1 : Cond.methodLink own index objectInit ∈ wl) (h2 : Cond.instanceMethod objectInit ∈ wl) (h3 : Cond.code objectInit ⟨#[0xb1]⟩ 1 none ∈ wl) (hfr : 1 ≤ R.frames) (hlo : (rest.map fun v => v.category).sum + 12 ≤ R.locals) (hdg : decode cc pc = .ok (.invokespecial index, 3)) (k : WB p l e R s m args below meth c nL D cy B cells slots Q g d lv (pc + 3) rest) : WB p l e R s m args below meth c nL D cy B cells slots Q g d lv pc (.ref (ad B r0) :: rest) := fun H locs ls hl hP hS => by
  obtain ⟨hx, hb, hml, hown, hts, hK, hSx, hN⟩ := C
  refine W.objInit hx hb hown (hts _ h1) (hts _ h2) (hts _ h3) rfl (by rw [hml]; exact hl.1) rfl hdg hfr (by show 2 * 0 + _ + 12 ≤ _; omega) ?_
  exact k H locs ls hl hP hS
end BC
