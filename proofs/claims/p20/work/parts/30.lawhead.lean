/-! THE CLAIM OUT OF ONE WALK OF THE LAW'S BODY. Your part is whole_start (and what it stands on); all else here is the same for every law, but numbers. -/
def R_law : String := "KeyMatrixLaw"
def lw_P (b : Addr) (xs : List Int32) (args : Array Value) (s : State) : Prop := args = #[.ref b] ∧ s.IntsAt b xs ∧ xs.length ≤ 3072 ∧ (Jvm.Cond.and given_1 narrow_1).before args s = true
/-- what a walk over the start with the record d0 says of its end, said of the start itself -/
theorem lw_closed {s t : State} {o : Outcome} {d0 : Drawn} {L : List Loc} {k n : Nat} (hd0 : s.drawn.sameBut d0 lw_cs) (hv : ∃ v, o = .returned v) (hW : (s.setDrawn d0).WarmedH t.vm) (hs : (s.setDrawn d0).sameButNew ({ t with vm := s.vm } : State) L k n) : State.butDraws s t lw_cs (fun t1 => Framed s o t1 L k n) := by
  have h2 : t.drawn = d0 := congrArg State.drawn hs.1
  refine ⟨⟨hv, hW, State.sameButNew.setDrawn hs s.drawn⟩, ?_, by decide⟩
  rw [h2]
  exact hd0
def lw_Q (_ : Array Value) (s : State) (o : Outcome) (t : State) : Prop := o = .returned (some (.int 1)) ∧ State.butDraws s t lw_cs (fun t1 => Framed s o t1 [] 600000 7302250)
def lw_Z (below : List Frame) (a : Array Value) (s : State) : State → Prop := fun t => ∃ o, t.status = .running ∧ Ended t below o ∧ lw_Q a s o t
/-- the law's own end, with 1 on the stack, nothing written that was there before, its room as the claim has it; d0: the record of draws at this point (at the entry s.drawn: begin with 'refine W.base ?_' and 'have hd0 := Drawn.sameBut.refl s.drawn lw_cs') -/
theorem lw_ret {p : Program} {l : Launch} {e : Env} {s : State} {m : MethodId} {below : List Frame} {meth : Method} {c : Code} {b : Nat} {d0 : Drawn} (hd0 : s.drawn.sameBut d0 lw_cs) (hx : p.tables.exec = Jvm.exec) (hb : c.code = code) (hr : meth.sig.returnType = ret) (hlocks : meth.locks = false) {pc : Nat} {H : Heap} {ls : Array Slot} (hdg : decode code pc = .ok (.ireturn, 1)) : W p l e room_1 (s.setDrawn d0) m #[Value.ref b] below meth c H [] 600000 7302250 (lw_Z below #[Value.ref b] s) (F0 m pc ls [.int 1]) := by
  intro T hT X
  obtain ⟨fs, hret, hrun, hended, hW, hframe⟩ := X.leave (v := some (.int 1)) (hlocks := hlocks) (fun h => by rw [hr] at h; cases h)
  have hmeth' : T.vm.method? m = some meth := X.method'
  refine ⟨T.setFrames fs, ?_, .returned (some (.int 1)), hrun, hended, rfl, lw_closed hd0 ⟨_, rfl⟩ hW hframe⟩
  jvm_step X.here [X.here.top, hx, hb, hdg, hmeth', hr, ret, narrow_b1]
  (try refine ⟨rfl, ?_⟩); (try refine ⟨rfl, ?_⟩)
  first | (intro acts; rw [hret _ acts rfl rfl rfl]) | rw [hret _ _ rfl rfl rfl]
  exact Steps.refl _
/-- what holds at the law's entry: the machine, the code, the tables' words (any of lw_tbl by 'hts w (by decide +kernel)'), the script of L ints xs at the cell b, what the Statement gives of the start (any of its parts by flat_of_before) -/
def lw_At (p : Program) (s : State) (m : MethodId) (meth : Method) (c : Code) (b L : Nat) (xs : Nat → Int32) : Prop :=
  p.tables.exec = Jvm.exec ∧ c.code = code ∧ meth.sig.returnType = ret ∧ c.maxLocals = 4 ∧ s.vm.findClass R_law = some m.cls ∧ (∀ w ∈ lw_tbl, w.before #[Value.ref b] s = true) ∧ va_X b L xs s s.heap ∧ b < s.heap.size ∧ meth.locks = false ∧ (Jvm.Cond.and given_1 narrow_1).before #[Value.ref b] s = true

theorem wfact : ∀ i, i < 20 → Cond.exactly (.static "KeyMatrix$Word" (wnm i) "LKeyMatrix$Word;") "KeyMatrix$Word" ∈ flatC narrow_1 ∧ Cond.eq (.field (.static "KeyMatrix$Word" (wnm i) "LKeyMatrix$Word;") "java/lang/Enum" "ordinal" "I") (.int (Int32.ofNat i)) ∈ flatC narrow_1 ∧ Cond.laysStatic "KeyMatrix$Word" (wnm i) "LKeyMatrix$Word;" ∈ lw_tbl := by
  intro i hi
  match i, hi with
  | 0, _ => exact ⟨List.mem_of_getElem? (i := 32) (by decide +kernel), List.mem_of_getElem? (i := 33) (by decide +kernel), mT3 (List.mem_of_getElem? (i := 126) (by decide +kernel))⟩
  | 1, _ => exact ⟨List.mem_of_getElem? (i := 53) (by decide +kernel), List.mem_of_getElem? (i := 54) (by decide +kernel), mT3 (List.mem_of_getElem? (i := 160) (by decide +kernel))⟩
  | 2, _ => exact ⟨List.mem_of_getElem? (i := 60) (by decide +kernel), List.mem_of_getElem? (i := 61) (by decide +kernel), mT3 (List.mem_of_getElem? (i := 162) (by decide +kernel))⟩
  | 3, _ => exact ⟨List.mem_of_getElem? (i := 130) (by decide +kernel), List.mem_of_getElem? (i := 131) (by decide +kernel), mT3 (List.mem_of_getElem? (i := 238) (by decide +kernel))⟩
  | 4, _ => exact ⟨List.mem_of_getElem? (i := 137) (by decide +kernel), List.mem_of_getElem? (i := 138) (by decide +kernel), mT4 (List.mem_of_getElem? (i := 0) (by decide +kernel))⟩
  | 5, _ => exact ⟨List.mem_of_getElem? (i := 144) (by decide +kernel), List.mem_of_getElem? (i := 145) (by decide +kernel), mT4 (List.mem_of_getElem? (i := 2) (by decide +kernel))⟩
  | 6, _ => exact ⟨List.mem_of_getElem? (i := 151) (by decide +kernel), List.mem_of_getElem? (i := 152) (by decide +kernel), mT4 (List.mem_of_getElem? (i := 4) (by decide +kernel))⟩
  | 7, _ => exact ⟨List.mem_of_getElem? (i := 158) (by decide +kernel), List.mem_of_getElem? (i := 159) (by decide +kernel), mT4 (List.mem_of_getElem? (i := 6) (by decide +kernel))⟩
  | 8, _ => exact ⟨List.mem_of_getElem? (i := 67) (by decide +kernel), List.mem_of_getElem? (i := 68) (by decide +kernel), mT3 (List.mem_of_getElem? (i := 164) (by decide +kernel))⟩
  | 9, _ => exact ⟨List.mem_of_getElem? (i := 39) (by decide +kernel), List.mem_of_getElem? (i := 40) (by decide +kernel), mT3 (List.mem_of_getElem? (i := 156) (by decide +kernel))⟩
  | 10, _ => exact ⟨List.mem_of_getElem? (i := 46) (by decide +kernel), List.mem_of_getElem? (i := 47) (by decide +kernel), mT3 (List.mem_of_getElem? (i := 158) (by decide +kernel))⟩
  | 11, _ => exact ⟨List.mem_of_getElem? (i := 116) (by decide +kernel), List.mem_of_getElem? (i := 117) (by decide +kernel), mT3 (List.mem_of_getElem? (i := 212) (by decide +kernel))⟩
  | 12, _ => exact ⟨List.mem_of_getElem? (i := 102) (by decide +kernel), List.mem_of_getElem? (i := 103) (by decide +kernel), mT3 (List.mem_of_getElem? (i := 191) (by decide +kernel))⟩
  | 13, _ => exact ⟨List.mem_of_getElem? (i := 95) (by decide +kernel), List.mem_of_getElem? (i := 96) (by decide +kernel), mT3 (List.mem_of_getElem? (i := 189) (by decide +kernel))⟩
  | 14, _ => exact ⟨List.mem_of_getElem? (i := 165) (by decide +kernel), List.mem_of_getElem? (i := 166) (by decide +kernel), mT7 (List.mem_of_getElem? (i := 54) (by decide +kernel))⟩
  | 15, _ => exact ⟨List.mem_of_getElem? (i := 74) (by decide +kernel), List.mem_of_getElem? (i := 75) (by decide +kernel), mT3 (List.mem_of_getElem? (i := 183) (by decide +kernel))⟩
  | 16, _ => exact ⟨List.mem_of_getElem? (i := 81) (by decide +kernel), List.mem_of_getElem? (i := 82) (by decide +kernel), mT3 (List.mem_of_getElem? (i := 185) (by decide +kernel))⟩
  | 17, _ => exact ⟨List.mem_of_getElem? (i := 88) (by decide +kernel), List.mem_of_getElem? (i := 89) (by decide +kernel), mT3 (List.mem_of_getElem? (i := 187) (by decide +kernel))⟩
  | 18, _ => exact ⟨List.mem_of_getElem? (i := 109) (by decide +kernel), List.mem_of_getElem? (i := 110) (by decide +kernel), mT3 (List.mem_of_getElem? (i := 193) (by decide +kernel))⟩
  | 19, _ => exact ⟨List.mem_of_getElem? (i := 123) (by decide +kernel), List.mem_of_getElem? (i := 124) (by decide +kernel), mT3 (List.mem_of_getElem? (i := 214) (by decide +kernel))⟩
  | n + 20, h => exact absurd h (by omega)
theorem wfact2 : ∀ i, i < 20 → ∀ j, j < 4 → Cond.eq (.field (.static "KeyMatrix$Word" (wnm i) "LKeyMatrix$Word;") "KeyMatrix$Word" (wfn j) (wfd j)) (.int (wfv j i)) ∈ flatC narrow_1 := by
  intro i hi j hj
  match i, hi, j, hj with
  | 0, _, 0, _ => exact List.mem_of_getElem? (i := 37) (by decide +kernel)
  | 0, _, 1, _ => exact List.mem_of_getElem? (i := 38) (by decide +kernel)
  | 0, _, 2, _ => exact List.mem_of_getElem? (i := 36) (by decide +kernel)
  | 0, _, 3, _ => exact List.mem_of_getElem? (i := 35) (by decide +kernel)
  | 1, _, 0, _ => exact List.mem_of_getElem? (i := 58) (by decide +kernel)
  | 1, _, 1, _ => exact List.mem_of_getElem? (i := 59) (by decide +kernel)
  | 1, _, 2, _ => exact List.mem_of_getElem? (i := 57) (by decide +kernel)
  | 1, _, 3, _ => exact List.mem_of_getElem? (i := 56) (by decide +kernel)
  | 2, _, 0, _ => exact List.mem_of_getElem? (i := 65) (by decide +kernel)
  | 2, _, 1, _ => exact List.mem_of_getElem? (i := 66) (by decide +kernel)
  | 2, _, 2, _ => exact List.mem_of_getElem? (i := 64) (by decide +kernel)
  | 2, _, 3, _ => exact List.mem_of_getElem? (i := 63) (by decide +kernel)
  | 3, _, 0, _ => exact List.mem_of_getElem? (i := 135) (by decide +kernel)
  | 3, _, 1, _ => exact List.mem_of_getElem? (i := 136) (by decide +kernel)
  | 3, _, 2, _ => exact List.mem_of_getElem? (i := 134) (by decide +kernel)
  | 3, _, 3, _ => exact List.mem_of_getElem? (i := 133) (by decide +kernel)
  | 4, _, 0, _ => exact List.mem_of_getElem? (i := 142) (by decide +kernel)
  | 4, _, 1, _ => exact List.mem_of_getElem? (i := 143) (by decide +kernel)
  | 4, _, 2, _ => exact List.mem_of_getElem? (i := 141) (by decide +kernel)
  | 4, _, 3, _ => exact List.mem_of_getElem? (i := 140) (by decide +kernel)
  | 5, _, 0, _ => exact List.mem_of_getElem? (i := 149) (by decide +kernel)
  | 5, _, 1, _ => exact List.mem_of_getElem? (i := 150) (by decide +kernel)
  | 5, _, 2, _ => exact List.mem_of_getElem? (i := 148) (by decide +kernel)
  | 5, _, 3, _ => exact List.mem_of_getElem? (i := 147) (by decide +kernel)
  | 6, _, 0, _ => exact List.mem_of_getElem? (i := 156) (by decide +kernel)
  | 6, _, 1, _ => exact List.mem_of_getElem? (i := 157) (by decide +kernel)
  | 6, _, 2, _ => exact List.mem_of_getElem? (i := 155) (by decide +kernel)
  | 6, _, 3, _ => exact List.mem_of_getElem? (i := 154) (by decide +kernel)
  | 7, _, 0, _ => exact List.mem_of_getElem? (i := 163) (by decide +kernel)
  | 7, _, 1, _ => exact List.mem_of_getElem? (i := 164) (by decide +kernel)
  | 7, _, 2, _ => exact List.mem_of_getElem? (i := 162) (by decide +kernel)
  | 7, _, 3, _ => exact List.mem_of_getElem? (i := 161) (by decide +kernel)
  | 8, _, 0, _ => exact List.mem_of_getElem? (i := 72) (by decide +kernel)
  | 8, _, 1, _ => exact List.mem_of_getElem? (i := 73) (by decide +kernel)
  | 8, _, 2, _ => exact List.mem_of_getElem? (i := 71) (by decide +kernel)
  | 8, _, 3, _ => exact List.mem_of_getElem? (i := 70) (by decide +kernel)
  | 9, _, 0, _ => exact List.mem_of_getElem? (i := 44) (by decide +kernel)
  | 9, _, 1, _ => exact List.mem_of_getElem? (i := 45) (by decide +kernel)
  | 9, _, 2, _ => exact List.mem_of_getElem? (i := 43) (by decide +kernel)
  | 9, _, 3, _ => exact List.mem_of_getElem? (i := 42) (by decide +kernel)
  | 10, _, 0, _ => exact List.mem_of_getElem? (i := 51) (by decide +kernel)
  | 10, _, 1, _ => exact List.mem_of_getElem? (i := 52) (by decide +kernel)
  | 10, _, 2, _ => exact List.mem_of_getElem? (i := 50) (by decide +kernel)
  | 10, _, 3, _ => exact List.mem_of_getElem? (i := 49) (by decide +kernel)
  | 11, _, 0, _ => exact List.mem_of_getElem? (i := 121) (by decide +kernel)
  | 11, _, 1, _ => exact List.mem_of_getElem? (i := 122) (by decide +kernel)
  | 11, _, 2, _ => exact List.mem_of_getElem? (i := 120) (by decide +kernel)
  | 11, _, 3, _ => exact List.mem_of_getElem? (i := 119) (by decide +kernel)
  | 12, _, 0, _ => exact List.mem_of_getElem? (i := 107) (by decide +kernel)
  | 12, _, 1, _ => exact List.mem_of_getElem? (i := 108) (by decide +kernel)
  | 12, _, 2, _ => exact List.mem_of_getElem? (i := 106) (by decide +kernel)
  | 12, _, 3, _ => exact List.mem_of_getElem? (i := 105) (by decide +kernel)
  | 13, _, 0, _ => exact List.mem_of_getElem? (i := 100) (by decide +kernel)
  | 13, _, 1, _ => exact List.mem_of_getElem? (i := 101) (by decide +kernel)
  | 13, _, 2, _ => exact List.mem_of_getElem? (i := 99) (by decide +kernel)
  | 13, _, 3, _ => exact List.mem_of_getElem? (i := 98) (by decide +kernel)
  | 14, _, 0, _ => exact List.mem_of_getElem? (i := 170) (by decide +kernel)
  | 14, _, 1, _ => exact List.mem_of_getElem? (i := 171) (by decide +kernel)
  | 14, _, 2, _ => exact List.mem_of_getElem? (i := 169) (by decide +kernel)
  | 14, _, 3, _ => exact List.mem_of_getElem? (i := 168) (by decide +kernel)
  | 15, _, 0, _ => exact List.mem_of_getElem? (i := 79) (by decide +kernel)
  | 15, _, 1, _ => exact List.mem_of_getElem? (i := 80) (by decide +kernel)
  | 15, _, 2, _ => exact List.mem_of_getElem? (i := 78) (by decide +kernel)
  | 15, _, 3, _ => exact List.mem_of_getElem? (i := 77) (by decide +kernel)
  | 16, _, 0, _ => exact List.mem_of_getElem? (i := 86) (by decide +kernel)
  | 16, _, 1, _ => exact List.mem_of_getElem? (i := 87) (by decide +kernel)
  | 16, _, 2, _ => exact List.mem_of_getElem? (i := 85) (by decide +kernel)
  | 16, _, 3, _ => exact List.mem_of_getElem? (i := 84) (by decide +kernel)
  | 17, _, 0, _ => exact List.mem_of_getElem? (i := 93) (by decide +kernel)
  | 17, _, 1, _ => exact List.mem_of_getElem? (i := 94) (by decide +kernel)
  | 17, _, 2, _ => exact List.mem_of_getElem? (i := 92) (by decide +kernel)
  | 17, _, 3, _ => exact List.mem_of_getElem? (i := 91) (by decide +kernel)
  | 18, _, 0, _ => exact List.mem_of_getElem? (i := 114) (by decide +kernel)
  | 18, _, 1, _ => exact List.mem_of_getElem? (i := 115) (by decide +kernel)
  | 18, _, 2, _ => exact List.mem_of_getElem? (i := 113) (by decide +kernel)
  | 18, _, 3, _ => exact List.mem_of_getElem? (i := 112) (by decide +kernel)
  | 19, _, 0, _ => exact List.mem_of_getElem? (i := 128) (by decide +kernel)
  | 19, _, 1, _ => exact List.mem_of_getElem? (i := 129) (by decide +kernel)
  | 19, _, 2, _ => exact List.mem_of_getElem? (i := 127) (by decide +kernel)
  | 19, _, 3, _ => exact List.mem_of_getElem? (i := 126) (by decide +kernel)
  | n + 20, h, _, _ => exact absurd h (by omega)
  | _, _, n + 4, h => exact absurd h (by omega)
theorem eq_ev {args : Array Value} {s : State} {t : Term} {z : Int32} (h : (Cond.eq t (.int z)).before args s = true) : t.eval args s none [] s = some (.int z) := by
  cases hv : t.eval args s none [] s with
  | none => simp [Cond.before, Cond.holds, Cond.value, hv] at h
  | some w =>
    have hz : (Term.int z).eval args s none [] s = some (.int z) := rfl
    simp only [Cond.before, Cond.holds, Cond.value, hv, hz] at h
    cases w <;> simp_all
def wcOf (args : Array Value) (s : State) (i : Nat) : Nat := match (Term.static "KeyMatrix$Word" (wnm i) "LKeyMatrix$Word;").eval args s none [] s with
  | some (.ref a) => a
  | _ => 0
theorem wc_ev {args : Array Value} {s : State} (hs : ∀ c ∈ flatC narrow_1, c.before args s = true) {i : Nat} (hi : i < 20) : (Term.static "KeyMatrix$Word" (wnm i) "LKeyMatrix$Word;").eval args s none [] s = some (.ref (wcOf args s i)) := by
  obtain ⟨a, c, cell, k, h1, -⟩ := Cond.exactly_spec (args := args) (first := s) (o := none) (s := s) (idx := []) (hs _ (wfact i hi).1)
  unfold wcOf
  rw [h1]
theorem wc_inj {args : Array Value} {s : State} (hs : ∀ c ∈ flatC narrow_1, c.before args s = true) {i j : Nat} (hi : i < 20) (hj : j < 20) (h : wcOf args s i = wcOf args s j) : i = j := by
  have e1 := wc_ev hs hi
  have e2 := wc_ev hs hj
  have f1 := eq_ev (hs _ (wfact i hi).2.1)
  have f2 := eq_ev (hs _ (wfact j hj).2.1)
  rw [h] at e1
  have key : (Term.field (.static "KeyMatrix$Word" (wnm i) "LKeyMatrix$Word;") "java/lang/Enum" "ordinal" "I").eval args s none [] s = (Term.field (.static "KeyMatrix$Word" (wnm j) "LKeyMatrix$Word;") "java/lang/Enum" "ordinal" "I").eval args s none [] s := by
    simp only [Term.eval] at e1 e2 ⊢
    rw [e1, e2]
  rw [f1, f2] at key
  have k2 : Int32.ofNat i = Int32.ofNat j := by
    injection key with k3
    injection k3
  exact (nI_eq (a := i) (b := j) (by omega) (by omega)).mp k2
theorem ar_ex {args : Array Value} {s : State} (hts : ∀ w ∈ lw_tbl, w.before args s = true) : ∃ cy : Nat → ClassId, ∀ t, t < 8 → ArrOfT s (cy t) (tyk t) ∧ va_RA s (cy t) (tyk t) := by
  have prim : ∀ ty : FieldType, (∀ C, ty ≠ .object C) → (Cond.arrayClass ty).before args s = true → ∃ c : ClassId, ArrOfT s c ty ∧ va_RA s c ty := by
    intro ty hty h
    obtain ⟨c, k, comp, h1, h2, h3⟩ := Cond.arrayClass_spec (args := args) (first := s) (o := none) (s := s) (idx := []) h
    refine ⟨c, fun n z => ⟨fun k h => (by cases h), k, h2, comp, h3⟩, ?_⟩
    cases ty with
    | object C => exact absurd rfl (hty C)
    | _ => exact h1
  have obj : ∀ C : String, (Cond.arrayOver (.object C)).before args s = true → ∃ c : ClassId, ArrOfT s c (.object C) ∧ va_RA s c (.object C) := by
    intro C h
    obtain ⟨comp, c, k, h1, h2, h3, h4, h5⟩ := Cond.arrayOver_spec (args := args) (first := s) (o := none) (s := s) (idx := []) h
    exact ⟨c, fun n z => ⟨fun k h => (by cases h), k, h3, comp, h4⟩, k, comp, h3, h4, h1, h5⟩
  obtain ⟨c0, h0⟩ := prim .byte (fun C h => by cases h) (hts _ (mT1 (List.mem_of_getElem? (i := 63) (by decide +kernel))))
  obtain ⟨c1, h1⟩ := prim .float (fun C h => by cases h) (hts _ (mT2 (List.mem_of_getElem? (i := 72) (by decide +kernel))))
  obtain ⟨c2, h2⟩ := prim .int (fun C h => by cases h) (hts _ (mT1 (List.mem_of_getElem? (i := 64) (by decide +kernel))))
  obtain ⟨c3, h3⟩ := prim .long (fun C h => by cases h) (hts _ (mT5 (List.mem_of_getElem? (i := 191) (by decide +kernel))))
  obtain ⟨c4, h4⟩ := prim .boolean (fun C h => by cases h) (hts _ (mT5 (List.mem_of_getElem? (i := 192) (by decide +kernel))))
  obtain ⟨c5, h5⟩ := obj "KeyMatrix$Deed" (hts _ (mT1 (List.mem_of_getElem? (i := 98) (by decide +kernel))))
  obtain ⟨c6, h6⟩ := obj "KeyMatrix$Course" (hts _ (mT2 (List.mem_of_getElem? (i := 229) (by decide +kernel))))
  obtain ⟨c7, h7⟩ := obj "KeyMatrix$Word" (hts _ (mT1 (List.mem_of_getElem? (i := 43) (by decide +kernel))))
  refine ⟨fun t => match t with | 0 => c0 | 1 => c1 | 2 => c2 | 3 => c3 | 4 => c4 | 5 => c5 | 6 => c6 | _ => c7, fun t ht => ?_⟩
  match t, ht with
  | 0, _ => exact h0
  | 1, _ => exact h1
  | 2, _ => exact h2
  | 3, _ => exact h3
  | 4, _ => exact h4
  | 5, _ => exact h5
  | 6, _ => exact h6
  | 7, _ => exact h7
  | n + 8, h => exact absurd h (by omega)
theorem cl_ex {args : Array Value} {s : State} (hts : ∀ w ∈ lw_tbl, w.before args s = true) : ∃ (dC : Nat → ClassId) (dI : Nat → Nat → Nat), ∀ (k : Nat) (q : vw_C), vwCl[k]? = some q → u_Kn s q.1 q.2.1 q.2.2 (dC k) (dI k) := by
  obtain ⟨c0, i0, h0⟩ := u_known (C := RX0) (T := TX0) (N := 19) (n := 19) hts (fun w h => wl_in (inl0 w h)) (hts _ (mT1 (List.mem_of_getElem? (i := 92) (by decide +kernel))))
  obtain ⟨c1, i1, h1⟩ := u_known (C := RX1) (T := TX1) (N := 6) (n := 6) hts (fun w h => wl_in (inl1 w h)) (hts _ (mT2 (List.mem_of_getElem? (i := 23) (by decide +kernel))))
  obtain ⟨c2, i2, h2⟩ := u_known (C := RX2) (T := TX2) (N := 3) (n := 3) hts (fun w h => wl_in (inl2 w h)) (hts _ (mT1 (List.mem_of_getElem? (i := 66) (by decide +kernel))))
  obtain ⟨c3, i3, h3⟩ := u_known (C := RX3) (T := TX3) (N := 9) (n := 9) hts (fun w h => wl_in (inl3 w h)) (hts _ (mT2 (List.mem_of_getElem? (i := 93) (by decide +kernel))))
  obtain ⟨c4, i4, h4⟩ := u_known (C := RX4) (T := TX4) (N := 3) (n := 3) hts (fun w h => wl_in (inl4 w h)) (hts _ (mT2 (List.mem_of_getElem? (i := 74) (by decide +kernel))))
  obtain ⟨c5, i5, h5⟩ := u_known (C := RX5) (T := TX5) (N := 9) (n := 9) hts (fun w h => wl_in (inl5 w h)) (hts _ (mT2 (List.mem_of_getElem? (i := 140) (by decide +kernel))))
  obtain ⟨c6, i6, h6⟩ := u_known (C := RX6) (T := TX6) (N := 9) (n := 9) hts (fun w h => wl_in (inl6 w h)) (hts _ (mT2 (List.mem_of_getElem? (i := 29) (by decide +kernel))))
  obtain ⟨c7, i7, h7⟩ := u_known (C := RX7) (T := TX7) (N := 10) (n := 10) hts (fun w h => wl_in (inl7 w h)) (hts _ (mT1 (List.mem_of_getElem? (i := 31) (by decide +kernel))))
  obtain ⟨c8, i8, h8⟩ := u_known (C := RX8) (T := TX8) (N := 6) (n := 6) hts (fun w h => wl_in (inl8 w h)) (hts _ (mT1 (List.mem_of_getElem? (i := 37) (by decide +kernel))))
  obtain ⟨c9, i9, h9⟩ := u_known (C := RX9) (T := TX9) (N := 4) (n := 4) hts (fun w h => wl_in (inl9 w h)) (hts _ (mT2 (List.mem_of_getElem? (i := 1) (by decide +kernel))))
  obtain ⟨c10, i10, h10⟩ := u_known (C := RX11) (T := TX11) (N := 10) (n := 10) hts (fun w h => wl_in (inl10 w h)) (hts _ (mT1 (List.mem_of_getElem? (i := 23) (by decide +kernel))))
  obtain ⟨c11, i11, h11⟩ := u_known (C := RX12) (T := TX12) (N := 33) (n := 33) hts (fun w h => wl_in (inl11 w h)) (hts _ (mT5 (List.mem_of_getElem? (i := 73) (by decide +kernel))))
  refine ⟨fun k => match k with | 0 => c0 | 1 => c1 | 2 => c2 | 3 => c3 | 4 => c4 | 5 => c5 | 6 => c6 | 7 => c7 | 8 => c8 | 9 => c9 | 10 => c10 | _ => c11, fun k => match k with | 0 => i0 | 1 => i1 | 2 => i2 | 3 => i3 | 4 => i4 | 5 => i5 | 6 => i6 | 7 => i7 | 8 => i8 | 9 => i9 | 10 => i10 | _ => i11, fun k q hq => ?_⟩
  match k, hq with
  | 0, hq => cases hq; exact h0
  | 1, hq => cases hq; exact h1
  | 2, hq => cases hq; exact h2
  | 3, hq => cases hq; exact h3
  | 4, hq => cases hq; exact h4
  | 5, hq => cases hq; exact h5
  | 6, hq => cases hq; exact h6
  | 7, hq => cases hq; exact h7
  | 8, hq => cases hq; exact h8
  | 9, hq => cases hq; exact h9
  | 10, hq => cases hq; exact h10
  | 11, hq => cases hq; exact h11
  | n + 12, hq => exact absurd hq (by simp [vwCl])
def g00 : Gs := (0, 0, fun _ => 0, fun _ => 0, fun _ _ => none)
def d00 : Ds := (fun _ _ => 0, fun _ _ => 0, fun _ _ => 0, fun _ _ => none)
theorem b_lwret {p : Program} {l : Launch} {e : Env} {s : State} {m : MethodId} {below : List Frame} {meth : Method} {c : Code} {nL : Nat} {D : va_G} {cy : Nat → ClassId} {B : Bs} {g : Gs} {d : Ds} {lv : List (Nat × Value)} {pc b n0 s0 : Nat} (C : Cx p s m #[Value.ref b] c code nL RL D cy B) (hr : meth.sig.returnType = ret) (hlocks : meth.locks = false) (hB0 : s.heap.size ≤ B.1) (h : gN g - n0 ≤ 600000 ∧ gS g - s0 ≤ 7302250) (hdg : decode code pc = .ok (.ireturn, 1)) : WB p l e room_1 s m #[Value.ref b] below meth c nL D cy B (gN g - n0) (gS g - s0) (lw_Z below #[Value.ref b] s) g d lv pc [.int 1] := by
  intro H locs ls hl hP hS
  refine va_forget (fun q hq => Nat.le_trans hB0 (hS.2.2 q hq)) ?_
  refine W.widen h.1 h.2 ?_
  exact lw_ret (d0 := s.drawn) (Drawn.sameBut.refl s.drawn lw_cs) C.1 C.2.1 hr hlocks hdg
