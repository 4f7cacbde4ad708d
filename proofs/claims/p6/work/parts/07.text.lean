section BX
variable {p : Program} {l : Launch} {e : Env} {R : Room} {s : State} {m : MethodId} {args : Array Value} {below : List Frame} {meth : Method} {c : Code} {cells slots : Nat} {Q : State → Prop} {nL : Nat} {D : va_G} {cy : Nat → ClassId} {B : Bs} {g : Gs} {d : Ds} {lv : List (Nat × Value)} {pc : Nat} {cc : ByteArray} {own : String} {rest : List Value}
theorem b_getWA (C : Cx p s m args c cc nL own D cy B) {index : Nat} (hlk : Cond.fieldLink own index "KeyMatrix$Tokens" "WORDS" "[LKeyMatrix$Word;" ∈ wl) (hdg : decode cc pc = .ok (.getstatic index, 3)) (k : WB p l e R s m args below meth c nL D cy B cells slots Q g d lv (pc + 3) (.ref (ad B 100020) :: rest)) : WB p l e R s m args below meth c nL D cy B cells slots Q g d lv pc rest := fun H locs ls hl hP hS => by
  obtain ⟨hx, hb, hml, hown, hts, hK, hSx, hN⟩ := C
  exact va_gets hx hb hSx.2.2.2.2.2.1 hS hown (hts _ hlk) (fun _ h => h) hdg (k H locs ls hl hP hS)
theorem b_getCS (C : Cx p s m args c cc nL own D cy B) {index : Nat} (hlk : Cond.fieldLink own index "java/lang/String" "COMPACT_STRINGS" "Z" ∈ wl) (hdg : decode cc pc = .ok (.getstatic index, 3)) (k : WB p l e R s m args below meth c nL D cy B cells slots Q g d lv (pc + 3) (.int 1 :: rest)) : WB p l e R s m args below meth c nL D cy B cells slots Q g d lv pc rest := fun H locs ls hl hP hS => by
  obtain ⟨hx, hb, hml, hown, hts, hK, hSx, hN⟩ := C
  exact va_gets hx hb hSx.2.2.2.2.2.2.2.1 hS hown (hts _ hlk) (fun _ h => h) hdg (k H locs ls hl hP hS)
theorem b_getSF (C : Cx p s m args c cc nL own D cy B) {index : Nat} (hlk : Cond.fieldLink own index "jdk/internal/util/Preconditions" "SIOOBE_FORMATTER" "Ljava/util/function/BiFunction;" ∈ wl) (hdg : decode cc pc = .ok (.getstatic index, 3)) (k : ∀ v : Option Nat, WB p l e R s m args below meth c nL D cy B cells slots Q g d lv (pc + 3) (rv B v :: rest)) : WB p l e R s m args below meth c nL D cy B cells slots Q g d lv pc rest := fun H locs ls hl hP hS => by
  obtain ⟨hx, hb, hml, hown, hts, hK, hSx, hN⟩ := C
  obtain ⟨v, hv⟩ := hSx.2.2.2.2.2.2.2.2.1
  exact va_gets hx hb hv hS hown (hts _ hlk) (fun _ h => h) hdg (k v H locs ls hl hP hS)
theorem b_waal (C : Cx p s m args c cc nL own D cy B) {r : Nat} {i : Int32} (hr : r = 100020) (hi : ¬ (i < 0 ∨ 20 ≤ i.toNatClampNeg)) (hdg : decode cc pc = .ok (.aaload, 1)) (k : WB p l e R s m args below meth c nL D cy B cells slots Q g d lv (pc + 1) (.ref (ad B (100000 + i.toNatClampNeg)) :: rest)) : WB p l e R s m args below meth c nL D cy B cells slots Q g d lv pc (.int i :: .ref (ad B r) :: rest) := fun H locs ls hl hP hS => by
  obtain ⟨hx, hb, hml, hown, hts, hK, hSx, hN⟩ := C
  subst hr
  exact vb_tq hx hb hSx.2.2.2.2.2.2.1 hS hi rfl hdg (k H locs ls hl hP hS)
theorem b_wlen (C : Cx p s m args c cc nL own D cy B) {r : Nat} (hr : r = 100020) (hdg : decode cc pc = .ok (.arraylength, 1)) (k : WB p l e R s m args below meth c nL D cy B cells slots Q g d lv (pc + 1) (.int 20 :: rest)) : WB p l e R s m args below meth c nL D cy B cells slots Q g d lv pc (.ref (ad B r) :: rest) := fun H locs ls hl hP hS => by
  obtain ⟨hx, hb, hml, hown, hts, hK, hSx, hN⟩ := C
  subst hr
  exact va_tlen hx hb hSx.2.2.2.2.2.2.1 hS (by decide) hdg (k H locs ls hl hP hS)
theorem b_wtext (C : Cx p s m args c cc nL own D cy B) {index x : Nat} (hr : 100000 ≤ x ∧ x < 100020) (hlk : Cond.fieldLinkNest own index "KeyMatrix$Word" "text" "Ljava/lang/String;" "KeyMatrix" ∈ lw_tbl) (hdg : decode cc pc = .ok (.getfield index, 3)) (k : WB p l e R s m args below meth c nL D cy B cells slots Q g d lv (pc + 3) (.ref (ad B (x + 21)) :: rest)) : WB p l e R s m args below meth c nL D cy B cells slots Q g d lv pc (.ref (ad B x) :: rest) := fun H locs ls hl hP hS => by
  obtain ⟨hx, hb, hml, hown, hts, hK, hSx, hN⟩ := C
  have h := (hSx.2.2.2.2.2.2.2.2.2 (x - 100000) (by omega)).2.1
  rw [show 100000 + (x - 100000) = x by omega, show 100021 + (x - 100000) = x + 21 by omega] at h
  obtain ⟨cf, kf, fi, f, cell, h1, h2, h3, h4, h5, h6⟩ := h.kept hS.2.1
  exact va_Wgetf hx hb hown (va_Nw.use rfl (hN _ hlk rfl)) h1 h2 h3 h4 (v := .ref (ad B (x + 21))) h5 rfl rfl hdg (k H locs ls hl hP hS)
theorem b_xcod (C : Cx p s m args c cc nL own D cy B) {index x : Nat} (hr : 100021 ≤ x ∧ x < 100041) (hlk : Cond.fieldLink own index "java/lang/String" "coder" "B" ∈ wl) (hdg : decode cc pc = .ok (.getfield index, 3)) (k : WB p l e R s m args below meth c nL D cy B cells slots Q g d lv (pc + 3) (.int 0 :: rest)) : WB p l e R s m args below meth c nL D cy B cells slots Q g d lv pc (.ref (ad B x) :: rest) := fun H locs ls hl hP hS => by
  obtain ⟨hx, hb, hml, hown, hts, hK, hSx, hN⟩ := C
  have h := (hSx.2.2.2.2.2.2.2.2.2 (x - 100021) (by omega)).2.2.2.1
  rw [show 100021 + (x - 100021) = x by omega] at h
  exact vk_getf hx hb h hS hown (hts _ hlk) (fun _ h => h) hdg (k H locs ls hl hP hS)
theorem b_xval (C : Cx p s m args c cc nL own D cy B) {index x : Nat} (hr : 100021 ≤ x ∧ x < 100041) (hlk : Cond.fieldLink own index "java/lang/String" "value" "[B" ∈ wl) (hdg : decode cc pc = .ok (.getfield index, 3)) (k : WB p l e R s m args below meth c nL D cy B cells slots Q g d lv (pc + 3) (.ref (ad B (x + 20)) :: rest)) : WB p l e R s m args below meth c nL D cy B cells slots Q g d lv pc (.ref (ad B x) :: rest) := fun H locs ls hl hP hS => by
  obtain ⟨hx, hb, hml, hown, hts, hK, hSx, hN⟩ := C
  have h := (hSx.2.2.2.2.2.2.2.2.2 (x - 100021) (by omega)).2.2.2.2.1
  rw [show 100021 + (x - 100021) = x by omega, show 100041 + (x - 100021) = x + 20 by omega] at h
  exact vk_getf hx hb h hS hown (hts _ hlk) (fun _ h => h) hdg (k H locs ls hl hP hS)
theorem b_xlen (C : Cx p s m args c cc nL own D cy B) {x : Nat} (hr : 100041 ≤ x ∧ x < 100061) (hdg : decode cc pc = .ok (.arraylength, 1)) (k : WB p l e R s m args below meth c nL D cy B cells slots Q g d lv (pc + 1) (.int (Int32.ofNat (wsl (x - 100041))) :: rest)) : WB p l e R s m args below meth c nL D cy B cells slots Q g d lv pc (.ref (ad B x) :: rest) := fun H locs ls hl hP hS => by
  obtain ⟨hx, hb, hml, hown, hts, hK, hSx, hN⟩ := C
  have h := (hSx.2.2.2.2.2.2.2.2.2 (x - 100041) (by omega)).2.2.2.2.2
  rw [show 100041 + (x - 100041) = x by omega] at h
  exact va_tlen hx hb h hS rfl hdg (k H locs ls hl hP hS)
theorem b_xbal (C : Cx p s m args c cc nL own D cy B) {x : Nat} {i : Int32} (hr : 100041 ≤ x ∧ x < 100061) (hi : ¬ (i < 0 ∨ wsl (x - 100041) ≤ i.toNatClampNeg)) (hdg : decode cc pc = .ok (.baload, 1)) (k : WB p l e R s m args below meth c nL D cy B cells slots Q g d lv (pc + 1) (.int (wsb (x - 100041) i.toNatClampNeg) :: rest)) : WB p l e R s m args below meth c nL D cy B cells slots Q g d lv pc (.int i :: .ref (ad B x) :: rest) := fun H locs ls hl hP hS => by
  obtain ⟨hx, hb, hml, hown, hts, hK, hSx, hN⟩ := C
  have h := (hSx.2.2.2.2.2.2.2.2.2 (x - 100041) (by omega)).2.2.2.2.2
  rw [show 100041 + (x - 100041) = x by omega] at h
  exact va_tb hx hb h hS hi rfl hdg (k H locs ls hl hP hS)
theorem b_i2c (C : Cx p s m args c cc nL own D cy B) {x : Int32} (hdg : decode cc pc = .ok (.i2c, 1)) (k : WB p l e R s m args below meth c nL D cy B cells slots Q g d lv (pc + 1) (.int (x.toUInt32 % 65536).toInt32 :: rest)) : WB p l e R s m args below meth c nL D cy B cells slots Q g d lv pc (.int x :: rest) := fun H locs ls hl hP hS => lv_i2c C.1 C.2.1 hdg rfl (k H locs ls hl hP hS)
theorem b_popI (C : Cx p s m args c cc nL own D cy B) {x : Int32} (hdg : decode cc pc = .ok (.pop, 1)) (k : WB p l e R s m args below meth c nL D cy B cells slots Q g d lv (pc + 1) rest) : WB p l e R s m args below meth c nL D cy B cells slots Q g d lv pc (.int x :: rest) := fun H locs ls hl hP hS => lv_pop C.1 C.2.1 hdg rfl (k H locs ls hl hP hS)
theorem b_nret (C : Cx p s m args c cc nL own D cy B) {ty : FieldType} (hr : meth.sig.returnType = some ty) (hlocks : meth.locks = false) {v v1 : Int32} {d1 : Ds} (hz : narrow ty (.int v) = .int v) (h : some (v, d) = some (v1, d1)) (hdg : decode cc pc = .ok (.ireturn, 1)) : WB p l e R s m args below meth c nL D cy B cells slots (MQ below (QI D cy B v1 g d1) args s cells slots (wA B)) g d lv pc ([.int v]) := by
  cases h
  intro H locs ls hl hP hS
  obtain ⟨hx, hb, hml, hown, hts, hK, -⟩ := C
  exact W.zret hx hb hr hz (fun t ht hW => ⟨⟨v, (), rfl, rfl, wp_at ht hP⟩, hS.F ht⟩) hS.2.2 hdg hlocks
theorem nar_c {v : Int32} (h : (v.toUInt32 % 65536).toInt32 = v) : narrow .char (.int v) = .int v := congrArg Value.int h
theorem nar_y {v : Int32} (h : v = 0) : narrow .byte (.int v) = .int v := by rw [h]; decide +kernel
/-- what a call of a method of one of the texts rests on -/
def LX (own : String) (index : Nat) (y : MethodName) (bytes : ByteArray) (maxL : Nat) (ret : Option FieldType) (n : Nat) : Prop := y.cls = "java/lang/String" ∧ (y.cls ≠ "java/lang/invoke/MethodHandle" ∧ y.cls ≠ "java/lang/invoke/VarHandle" ∧ (parseMethodDescriptor y.desc).map (fun d => d.parameters.length) = some n) ∧ Cond.methodLink own index y ∈ wl ∧ Cond.instanceMethod y ∈ wl ∧ Cond.selects y.cls y y ∈ wl ∧ Cond.initialized y.cls ∈ wl ∧ Cond.code y bytes maxL ret ∈ wl
theorem runX (C : Cx p s m args c cc nL own D cy B) {index maxL n mc ms : Nat} {y : MethodName} {bytes : ByteArray} {ret : Option FieldType} {rm : Room} {As : List Value} {Qc : Array Value → State → Outcome → State → Prop} {r0 : Nat} (hM : Met l y (.code y bytes maxL ret :: wl) rm (PC D cy B (.ref (ad B r0) :: As) g d) Qc mc ms (wA B)) (hV : LX own index y bytes maxL ret n) (hrm : rmOk R rm maxL mc ms) (hq : 100021 ≤ r0 ∧ r0 < 100041) (hn : As.length = n) (hrest : (rest.map fun v => v.category).sum ≤ 8) (hdg : decode cc pc = .ok (.invokevirtual index, 3)) (hcs : cells + mc ≤ R.cells ∧ slots + ms ≤ R.slots) {st : List Value} (hst : st = As.reverse ++ .ref (ad B r0) :: rest) {H : Heap} {locs : List Loc} {ls : Array Slot} (hl : lv_has ls nL lv) (hP : WP D cy B g d H) (hS : va_S (wA B) s.heap H locs) : va_Run p l e R s m args below meth c H locs cells slots mc ms (F0 m pc ls st) rest (Qc (Value.ref (ad B r0) :: As).toArray) (wA B) := by
  obtain ⟨hx, hb, hml, hown, hts, hK, hSx, hN⟩ := C
  obtain ⟨v2, v3, v4, v5, v6, v7, v8⟩ := hV
  have hG := law_in v8
  have cw : CallW R s args own y.cls index y bytes maxL ret (.code y bytes maxL ret :: wl) rm mc ms n :=
    ⟨callB_of n hts hG rfl hrm.1 hrm.2.1 (hts _ v7) (hts _ v4) v3 hrm.2.2, hts _ v5, hts _ v6⟩
  refine va_runV (As := As) (rest := rest) (b := ad B r0) (C := y.cls) ⟨hx, hb, hml, hown, hts⟩ hM cw ⟨PC.blind, ?_, fun U hU hW => ⟨rfl, by rw [hU]; exact hP, va_K.moved hW.alike hK, Sx.moved hW.alike (fun a h1 h2 => by rw [hU]; exact hS.2.1 a h1 h2) hSx, NzS.warm hW hN⟩⟩ rfl hn hl.1 hst (lv_room hrest) hdg hcs
  have h := (hSx.2.2.2.2.2.2.2.2.2 (r0 - 100021) (by omega)).2.2.1.kept hS.2.1
  rw [show 100021 + (r0 - 100021) = r0 by omega] at h
  obtain ⟨cell, h1, h2, h3, h4⟩ := h
  exact ⟨cell, h1, h2, by rw [v2]; exact h3⟩
theorem b_cXI (C : Cx p s m args c cc nL own D cy B) {index maxL n : Nat} {y : MethodName} {bytes : ByteArray} {ret : Option FieldType} {rm : Room} {As : List Value} {v1 : Int32} {d1 : Ds} {r0 : Nat} (rest : List Value) (hdg : decode cc pc = .ok (.invokevirtual index, 3)) (hM : Met l y (.code y bytes maxL ret :: wl) rm (PC D cy B (.ref (ad B r0) :: As) g d) (QI D cy B v1 g d1) 0 0 (wA B)) (hV : LX own index y bytes maxL ret n) (hrm : rmOk R rm maxL 0 0) (hq : 100021 ≤ r0 ∧ r0 < 100041) (hn : As.length = n) (hrest : (rest.map fun v => v.category).sum ≤ 8) (hcs : cells ≤ R.cells ∧ slots ≤ R.slots) {st : List Value} (hst : st = As.reverse ++ .ref (ad B r0) :: rest) (k : WB p l e R s m args below meth c nL D cy B cells slots Q g d1 lv (pc + 3) (.int v1 :: rest)) : WB p l e R s m args below meth c nL D cy B cells slots Q g d lv pc st := fun H locs ls hl hP hS =>
  va_calli (runX C hM hV hrm hq hn hrest hdg hcs hst hl hP hS) hS (fun q _ h => h) (fun q h => h) (fun r u t H1 locs1 ht hvm hw hB hz1 hk1 hS1 => by
    subst hw
    exact k H1 locs1 ls hl (by rw [← ht]; exact hB) hS1)
theorem map_upW {B : Bs} {f : Nat → Option Nat} {j : Nat} {v : Option Nat} : (fun i => (va_up f j v i).map (ad B)) = va_up (fun i => (f i).map (ad B)) j (v.map (ad B)) := by
  funext i
  unfold va_up
  by_cases h : i = j
  · simp [h]
  · simp [h]
theorem b_aastW (C : Cx p s m args c cc nL own D cy B) {r : Nat} {i : Int32} {x : Option Nat} {d1 : Ds} (hq : chk g r 107) (hi : ¬ (i < 0 ∨ gL g r ≤ i.toNatClampNeg)) (hw : wk x) (hd1 : d1 = sW d r i.toNatClampNeg x) (hdg : decode cc pc = .ok (.aastore, 1)) (k : WB p l e R s m args below meth c nL D cy B cells slots Q g d1 lv (pc + 1) rest) : WB p l e R s m args below meth c nL D cy B cells slots Q g d lv pc (rv B x :: .int i :: .ref (ad B r) :: rest) := by
  intro H locs ls hl hP hS
  obtain ⟨hx, hb, hml, hown, hts, hK, hSx, hN⟩ := C
  subst hd1
  have ce : cel B cy g (sW d r i.toNatClampNeg x) r = .inl (cy 7, gL g r, .inr (.inr (.inr (.inr (va_up (fun i => (dW d r i).map (ad B)) i.toNatClampNeg (x.map (ad B))))))) := by
    rw [cel_a (t := 7) hq.2]
    unfold ar
    rw [sW_row, map_upW]
    rfl
  have ca : (wls B cy g d)[r]? = some (ad B r, .inl (cy 7, gL g r, .inr (.inr (.inr (.inr (fun i => (dW d r i).map (ad B))))))) := (wls_at hq.1).trans (by rw [cel_a (t := 7) hq.2]; rfl)
  rcases hw with rfl | ⟨z, hz, rfl⟩
  · exact va_astqN (D := D) hx hb hK hP.2 (wls_D hP.1) hS r 7 ca rfl hi hdg (fun H1 locs1 hP1 hD1 hS1 => k H1 locs1 ls hl (hP.set hq.1 rfl (fun x _ hx => sW_o hx) ce hP1) hS1)
  · refine vb_astq (D := D) (E := "KeyMatrix$Word") (C := "KeyMatrix$Word") hx hb hK hP.2 (wls_D hP.1) hS r 7 ca rfl ?_ (fun comp c0 h1 h2 => vb_asgS comp c0 h1 h2) hi hdg (fun H1 locs1 hP1 hD1 hS1 => k H1 locs1 ls hl (hP.set hq.1 rfl (fun x _ hx => sW_o hx) ce hP1) hS1)
    obtain ⟨cell, h1, h2, h3, h4⟩ := (hSx.2.2.2.2.2.2.2.2.2 z hz).1.kept hS.2.1
    exact ⟨cell, h1, h2, h3⟩
end BX
