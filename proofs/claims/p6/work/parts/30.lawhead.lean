/-! THE CLAIM OUT OF ONE WALK OF THE LAW'S BODY. Your part is whole_start (and what it stands on); all else here is the same for every law, but numbers. -/
def R_law : String := "KeyMatrixLaw"
def lw_P (b : Addr) (xs : List Int32) (args : Array Value) (s : State) : Prop := args = #[.ref b] ∧ s.IntsAt b xs ∧ xs.length ≤ 3072 ∧ (Jvm.Cond.and given_1 narrow_1).before args s = true
/-- what a walk over the start with the record d0 says of its end, said of the start itself -/
theorem lw_closed {s t : State} {o : Outcome} {d0 : Drawn} {L : List Loc} {k n : Nat} (hd0 : s.drawn.sameBut d0 lw_cs) (hv : ∃ v, o = .returned v) (hW : (s.setDrawn d0).WarmedH t.vm) (hs : (s.setDrawn d0).sameButNew ({ t with vm := s.vm } : State) L k n) : State.butDraws s t lw_cs (fun t1 => Framed s o t1 L k n) := by
  have h2 : t.drawn = d0 := congrArg State.drawn hs.1
  refine ⟨⟨hv, hW, State.sameButNew.setDrawn hs s.drawn⟩, ?_, by decide⟩
  rw [h2]
  exact hd0
def lw_Q (_ : Array Value) (s : State) (o : Outcome) (t : State) : Prop := o = .returned (some (.int 1)) ∧ State.butDraws s t lw_cs (fun t1 => Framed s o t1 [] 600000 7302250)
def lw_Z (below : List Frame) (a : Array Value) (s : State) : State → Prop := fun t => ∃ o, t.status = .running ∧ Ended t below o ∧ lw_Q a s o t
/-- the law's own end, with 1 on the stack, nothing written that was there before, its room as the claim has it; d0: the record of draws at this point (at the entry s.drawn: begin with 'refine W.base ?_' and 'have hd0 := Drawn.sameBut.refl s.drawn lw_cs') -/
theorem lw_ret {p : Program} {l : Launch} {e : Env} {s : State} {m : MethodId} {below : List Frame} {meth : Method} {c : Code} {b : Nat} {d0 : Drawn} (hd0 : s.drawn.sameBut d0 lw_cs) (hx : p.tables.exec = Jvm.exec) (hb : c.code = code) (hr : meth.sig.returnType = ret) (hlocks : meth.locks = false) {pc : Nat} {H : Heap} {ls : Array Slot} (hdg : decode code pc = .ok (.ireturn, 1)) : W p l e room_1 (s.setDrawn d0) m #[Value.ref b] below meth c H [] 600000 7302250 (lw_Z below #[Value.ref b] s) (F0 m pc ls [.int 1]) := by
  intro T hT X
  obtain ⟨fs, hret, hrun, hended, hW, hframe⟩ := X.leave (v := some (.int 1)) (hlocks := hlocks) (fun h => by rw [hr] at h; cases h)
  have hmeth' : T.vm.method? m = some meth := X.method'
  refine ⟨T.setFrames fs, ?_, .returned (some (.int 1)), hrun, hended, rfl, lw_closed hd0 ⟨_, rfl⟩ hW hframe⟩
  jvm_step X.here [X.here.top, hx, hb, hdg, hmeth', hr, ret, narrow_b1]
  (try refine ⟨rfl, ?_⟩); (try refine ⟨rfl, ?_⟩)
  first | (intro acts; rw [hret _ acts rfl rfl rfl]) | rw [hret _ _ rfl rfl rfl]
  exact Steps.refl _
/-- what holds at the law's entry: the machine, the code, the tables' words (any of lw_tbl by 'hts w (by decide +kernel)'), the script of L ints xs at the cell b, what the Statement gives of the start (any of its parts by flat_of_before) -/
def lw_At (p : Program) (s : State) (m : MethodId) (meth : Method) (c : Code) (b L : Nat) (xs : Nat → Int32) : Prop :=
  p.tables.exec = Jvm.exec ∧ c.code = code ∧ meth.sig.returnType = ret ∧ c.maxLocals = 4 ∧ s.vm.findClass R_law = some m.cls ∧ (∀ w ∈ lw_tbl, w.before #[Value.ref b] s = true) ∧ va_X b L xs s s.heap ∧ b < s.heap.size ∧ meth.locks = false ∧ (Jvm.Cond.and given_1 narrow_1).before #[Value.ref b] s = true

theorem wfact : ∀ i, i < 20 → Cond.exactly (.static "KeyMatrix$Word" (wnm i) "LKeyMatrix$Word;") "KeyMatrix$Word" ∈ flatC narrow_1 ∧ Cond.eq (.field (.static "KeyMatrix$Word" (wnm i) "LKeyMatrix$Word;") "java/lang/Enum" "ordinal" "I") (.int (Int32.ofNat i)) ∈ flatC narrow_1 ∧ Cond.laysStatic "KeyMatrix$Word" (wnm i) "LKeyMatrix$Word;" ∈ lw_tbl := by
  intro i hi
  match i, hi with
  | 0, _ => exact ⟨List.mem_of_getElem? (i := 32) (by decide +kernel), List.mem_of_getElem? (i := 33) (by decide +kernel), mT3 (List.mem_of_getElem? (i := 126) (by decide +kernel))⟩
  | 1, _ => exact ⟨List.mem_of_getElem? (i := 53) (by decide +kernel), List.mem_of_getElem? (i := 54) (by decide +kernel), mT3 (List.mem_of_getElem? (i := 160) (by decide +kernel))⟩
  | 2, _ => exact ⟨List.mem_of_getElem? (i := 60) (by decide +kernel), List.mem_of_getElem? (i := 61) (by decide +kernel), mT3 (List.mem_of_getElem? (i := 162) (by decide +kernel))⟩
  | 3, _ => exact ⟨List.mem_of_getElem? (i := 130) (by decide +kernel), List.mem_of_getElem? (i := 131) (by decide +kernel), mT3 (List.mem_of_getElem? (i := 238) (by decide +kernel))⟩
  | 4, _ => exact ⟨List.mem_of_getElem? (i := 137) (by decide +kernel), List.mem_of_getElem? (i := 138) (by decide +kernel), mT4 (List.mem_of_getElem? (i := 0) (by decide +kernel))⟩
  | 5, _ => exact ⟨List.mem_of_getElem? (i := 144) (by decide +kernel), List.mem_of_getElem? (i := 145) (by decide +kernel), mT4 (List.mem_of_getElem? (i := 2) (by decide +kernel))⟩
  | 6, _ => exact ⟨List.mem_of_getElem? (i := 151) (by decide +kernel), List.mem_of_getElem? (i := 152) (by decide +kernel), mT4 (List.mem_of_getElem? (i := 4) (by decide +kernel))⟩
  | 7, _ => exact ⟨List.mem_of_getElem? (i := 158) (by decide +kernel), List.mem_of_getElem? (i := 159) (by decide +kernel), mT4 (List.mem_of_getElem? (i := 6) (by decide +kernel))⟩
  | 8, _ => exact ⟨List.mem_of_getElem? (i := 67) (by decide +kernel), List.mem_of_getElem? (i := 68) (by decide +kernel), mT3 (List.mem_of_getElem? (i := 164) (by decide +kernel))⟩
  | 9, _ => exact ⟨List.mem_of_getElem? (i := 39) (by decide +kernel), List.mem_of_getElem? (i := 40) (by decide +kernel), mT3 (List.mem_of_getElem? (i := 156) (by decide +kernel))⟩
  | 10, _ => exact ⟨List.mem_of_getElem? (i := 46) (by decide +kernel), List.mem_of_getElem? (i := 47) (by decide +kernel), mT3 (List.mem_of_getElem? (i := 158) (by decide +kernel))⟩
  | 11, _ => exact ⟨List.mem_of_getElem? (i := 116) (by decide +kernel), List.mem_of_getElem? (i := 117) (by decide +kernel), mT3 (List.mem_of_getElem? (i := 212) (by decide +kernel))⟩
  | 12, _ => exact ⟨List.mem_of_getElem? (i := 102) (by decide +kernel), List.mem_of_getElem? (i := 103) (by decide +kernel), mT3 (List.mem_of_getElem? (i := 191) (by decide +kernel))⟩
  | 13, _ => exact ⟨List.mem_of_getElem? (i := 95) (by decide +kernel), List.mem_of_getElem? (i := 96) (by decide +kernel), mT3 (List.mem_of_getElem? (i := 189) (by decide +kernel))⟩
  | 14, _ => exact ⟨List.mem_of_getElem? (i := 165) (by decide +kernel), List.mem_of_getElem? (i := 166) (by decide +kernel), mT7 (List.mem_of_getElem? (i := 54) (by decide +kernel))⟩
  | 15, _ => exact ⟨List.mem_of_getElem? (i := 74) (by decide +kernel), List.mem_of_getElem? (i := 75) (by decide +kernel), mT3 (List.mem_of_getElem? (i := 183) (by decide +kernel))⟩
  | 16, _ => exact ⟨List.mem_of_getElem? (i := 81) (by decide +kernel), List.mem_of_getElem? (i := 82) (by decide +kernel), mT3 (List.mem_of_getElem? (i := 185) (by decide +kernel))⟩
  | 17, _ => exact ⟨List.mem_of_getElem? (i := 88) (by decide +kernel), List.mem_of_getElem? (i := 89) (by decide +kernel), mT3 (List.mem_of_getElem? (i := 187) (by decide +kernel))⟩
  | 18, _ => exact ⟨List.mem_of_getElem? (i := 109) (by decide +kernel), List.mem_of_getElem? (i := 110) (by decide +kernel), mT3 (List.mem_of_getElem? (i := 193) (by decide +kernel))⟩
  | 19, _ => exact ⟨List.mem_of_getElem? (i := 123) (by decide +kernel), List.mem_of_getElem? (i := 124) (by decide +kernel), mT3 (List.mem_of_getElem? (i := 214) (by decide +kernel))⟩
  | n + 20, h => exact absurd h (by omega)
theorem wfact2 : ∀ i, i < 20 → ∀ j, j < 4 → Cond.eq (.field (.static "KeyMatrix$Word" (wnm i) "LKeyMatrix$Word;") "KeyMatrix$Word" (wfn j) (wfd j)) (.int (wfv j i)) ∈ flatC narrow_1 := by
  intro i hi j hj
  match i, hi, j, hj with
  | 0, _, 0, _ => exact List.mem_of_getElem? (i := 37) (by decide +kernel)
  | 0, _, 1, _ => exact List.mem_of_getElem? (i := 38) (by decide +kernel)
  | 0, _, 2, _ => exact List.mem_of_getElem? (i := 36) (by decide +kernel)
  | 0, _, 3, _ => exact List.mem_of_getElem? (i := 35) (by decide +kernel)
  | 1, _, 0, _ => exact List.mem_of_getElem? (i := 58) (by decide +kernel)
  | 1, _, 1, _ => exact List.mem_of_getElem? (i := 59) (by decide +kernel)
  | 1, _, 2, _ => exact List.mem_of_getElem? (i := 57) (by decide +kernel)
  | 1, _, 3, _ => exact List.mem_of_getElem? (i := 56) (by decide +kernel)
  | 2, _, 0, _ => exact List.mem_of_getElem? (i := 65) (by decide +kernel)
  | 2, _, 1, _ => exact List.mem_of_getElem? (i := 66) (by decide +kernel)
  | 2, _, 2, _ => exact List.mem_of_getElem? (i := 64) (by decide +kernel)
  | 2, _, 3, _ => exact List.mem_of_getElem? (i := 63) (by decide +kernel)
  | 3, _, 0, _ => exact List.mem_of_getElem? (i := 135) (by decide +kernel)
  | 3, _, 1, _ => exact List.mem_of_getElem? (i := 136) (by decide +kernel)
  | 3, _, 2, _ => exact List.mem_of_getElem? (i := 134) (by decide +kernel)
  | 3, _, 3, _ => exact List.mem_of_getElem? (i := 133) (by decide +kernel)
  | 4, _, 0, _ => exact List.mem_of_getElem? (i := 142) (by decide +kernel)
  | 4, _, 1, _ => exact List.mem_of_getElem? (i := 143) (by decide +kernel)
  | 4, _, 2, _ => exact List.mem_of_getElem? (i := 141) (by decide +kernel)
  | 4, _, 3, _ => exact List.mem_of_getElem? (i := 140) (by decide +kernel)
  | 5, _, 0, _ => exact List.mem_of_getElem? (i := 149) (by decide +kernel)
  | 5, _, 1, _ => exact List.mem_of_getElem? (i := 150) (by decide +kernel)
  | 5, _, 2, _ => exact List.mem_of_getElem? (i := 148) (by decide +kernel)
  | 5, _, 3, _ => exact List.mem_of_getElem? (i := 147) (by decide +kernel)
  | 6, _, 0, _ => exact List.mem_of_getElem? (i := 156) (by decide +kernel)
  | 6, _, 1, _ => exact List.mem_of_getElem? (i := 157) (by decide +kernel)
  | 6, _, 2, _ => exact List.mem_of_getElem? (i := 155) (by decide +kernel)
  | 6, _, 3, _ => exact List.mem_of_getElem? (i := 154) (by decide +kernel)
  | 7, _, 0, _ => exact List.mem_of_getElem? (i := 163) (by decide +kernel)
  | 7, _, 1, _ => exact List.mem_of_getElem? (i := 164) (by decide +kernel)
  | 7, _, 2, _ => exact List.mem_of_getElem? (i := 162) (by decide +kernel)
  | 7, _, 3, _ => exact List.mem_of_getElem? (i := 161) (by decide +kernel)
  | 8, _, 0, _ => exact List.mem_of_getElem? (i := 72) (by decide +kernel)
  | 8, _, 1, _ => exact List.mem_of_getElem? (i := 73) (by decide +kernel)
  | 8, _, 2, _ => exact List.mem_of_getElem? (i := 71) (by decide +kernel)
  | 8, _, 3, _ => exact List.mem_of_getElem? (i := 70) (by decide +kernel)
  | 9, _, 0, _ => exact List.mem_of_getElem? (i := 44) (by decide +kernel)
  | 9, _, 1, _ => exact List.mem_of_getElem? (i := 45) (by decide +kernel)
  | 9, _, 2, _ => exact List.mem_of_getElem? (i := 43) (by decide +kernel)
  | 9, _, 3, _ => exact List.mem_of_getElem? (i := 42) (by decide +kernel)
  | 10, _, 0, _ => exact List.mem_of_getElem? (i := 51) (by decide +kernel)
  | 10, _, 1, _ => exact List.mem_of_getElem? (i := 52) (by decide +kernel)
  | 10, _, 2, _ => exact List.mem_of_getElem? (i := 50) (by decide +kernel)
  | 10, _, 3, _ => exact List.mem_of_getElem? (i := 49) (by decide +kernel)
  | 11, _, 0, _ => exact List.mem_of_getElem? (i := 121) (by decide +kernel)
  | 11, _, 1, _ => exact List.mem_of_getElem? (i := 122) (by decide +kernel)
  | 11, _, 2, _ => exact List.mem_of_getElem? (i := 120) (by decide +kernel)
  | 11, _, 3, _ => exact List.mem_of_getElem? (i := 119) (by decide +kernel)
  | 12, _, 0, _ => exact List.mem_of_getElem? (i := 107) (by decide +kernel)
  | 12, _, 1, _ => exact List.mem_of_getElem? (i := 108) (by decide +kernel)
  | 12, _, 2, _ => exact List.mem_of_getElem? (i := 106) (by decide +kernel)
  | 12, _, 3, _ => exact List.mem_of_getElem? (i := 105) (by decide +kernel)
  | 13, _, 0, _ => exact List.mem_of_getElem? (i := 100) (by decide +kernel)
  | 13, _, 1, _ => exact List.mem_of_getElem? (i := 101) (by decide +kernel)
  | 13, _, 2, _ => exact List.mem_of_getElem? (i := 99) (by decide +kernel)
  | 13, _, 3, _ => exact List.mem_of_getElem? (i := 98) (by decide +kernel)
  | 14, _, 0, _ => exact List.mem_of_getElem? (i := 170) (by decide +kernel)
  | 14, _, 1, _ => exact List.mem_of_getElem? (i := 171) (by decide +kernel)
  | 14, _, 2, _ => exact List.mem_of_getElem? (i := 169) (by decide +kernel)
  | 14, _, 3, _ => exact List.mem_of_getElem? (i := 168) (by decide +kernel)
  | 15, _, 0, _ => exact List.mem_of_getElem? (i := 79) (by decide +kernel)
  | 15, _, 1, _ => exact List.mem_of_getElem? (i := 80) (by decide +kernel)
  | 15, _, 2, _ => exact List.mem_of_getElem? (i := 78) (by decide +kernel)
  | 15, _, 3, _ => exact List.mem_of_getElem? (i := 77) (by decide +kernel)
  | 16, _, 0, _ => exact List.mem_of_getElem? (i := 86) (by decide +kernel)
  | 16, _, 1, _ => exact List.mem_of_getElem? (i := 87) (by decide +kernel)
  | 16, _, 2, _ => exact List.mem_of_getElem? (i := 85) (by decide +kernel)
  | 16, _, 3, _ => exact List.mem_of_getElem? (i := 84) (by decide +kernel)
  | 17, _, 0, _ => exact List.mem_of_getElem? (i := 93) (by decide +kernel)
  | 17, _, 1, _ => exact List.mem_of_getElem? (i := 94) (by decide +kernel)
  | 17, _, 2, _ => exact List.mem_of_getElem? (i := 92) (by decide +kernel)
  | 17, _, 3, _ => exact List.mem_of_getElem? (i := 91) (by decide +kernel)
  | 18, _, 0, _ => exact List.mem_of_getElem? (i := 114) (by decide +kernel)
  | 18, _, 1, _ => exact List.mem_of_getElem? (i := 115) (by decide +kernel)
  | 18, _, 2, _ => exact List.mem_of_getElem? (i := 113) (by decide +kernel)
  | 18, _, 3, _ => exact List.mem_of_getElem? (i := 112) (by decide +kernel)
  | 19, _, 0, _ => exact List.mem_of_getElem? (i := 128) (by decide +kernel)
  | 19, _, 1, _ => exact List.mem_of_getElem? (i := 129) (by decide +kernel)
  | 19, _, 2, _ => exact List.mem_of_getElem? (i := 127) (by decide +kernel)
  | 19, _, 3, _ => exact List.mem_of_getElem? (i := 126) (by decide +kernel)
  | n + 20, h, _, _ => exact absurd h (by omega)
  | _, _, n + 4, h => exact absurd h (by omega)
theorem eq_ev {args : Array Value} {s : State} {t : Term} {z : Int32} (h : (Cond.eq t (.int z)).before args s = true) : t.eval args s none [] s = some (.int z) := by
  cases hv : t.eval args s none [] s with
  | none => simp [Cond.before, Cond.holds, Cond.value, hv] at h
  | some w =>
    have hz : (Term.int z).eval args s none [] s = some (.int z) := rfl
    simp only [Cond.before, Cond.holds, Cond.value, hv, hz] at h
    cases w <;> simp_all
def wki (i : Nat) : Nat := ([104, 110, 113, 116, 119, 122, 125, 128, 131, 134, 137, 140, 143, 146, 149, 152, 155, 158, 161, 164] : List Nat).getD i 0
def tmW (i : Nat) : Term := .static "KeyMatrix$Word" (wnm i) "LKeyMatrix$Word;"
def tmA : Term := .static "KeyMatrix$Tokens" "WORDS" "[LKeyMatrix$Word;"
def tmS (i : Nat) : Term := .string "KeyMatrix$Word" (wki i)
def tmV (i : Nat) : Term := .field (tmS i) "java/lang/String" "value" "[B"
def tmF : Term := .static "jdk/internal/util/Preconditions" "SIOOBE_FORMATTER" "Ljava/util/function/BiFunction;"
def tmOf (i : Nat) : Term := if i < 20 then tmW i else if i = 20 then tmA else if i < 41 then tmS (i - 21) else if i < 61 then tmV (i - 41) else tmF
def wcOf (args : Array Value) (s : State) (i : Nat) : Nat := match (tmOf i).eval args s none [] s with
  | some (.ref a) => a
  | _ => 0
theorem wc_of {args : Array Value} {s : State} {i a : Nat} (h : (tmOf i).eval args s none [] s = some (.ref a)) : wcOf args s i = a := by
  unfold wcOf
  rw [h]
theorem tm_W {i : Nat} (hi : i < 20) : tmOf i = tmW i := if_pos hi
theorem tm_A : tmOf 20 = tmA := rfl
theorem tm_S {i : Nat} (hi : i < 20) : tmOf (21 + i) = tmS i := by
  unfold tmOf
  rw [if_neg (by omega), if_neg (by omega), if_pos (by omega), Nat.add_sub_cancel_left]
theorem tm_V {i : Nat} (hi : i < 20) : tmOf (41 + i) = tmV i := by
  unfold tmOf
  rw [if_neg (by omega), if_neg (by omega), if_neg (by omega), if_pos (by omega), Nat.add_sub_cancel_left]
theorem tm_F : tmOf 61 = tmF := rfl
theorem wc_ev {args : Array Value} {s : State} (hs : ∀ c ∈ flatC narrow_1, c.before args s = true) {i : Nat} (hi : i < 20) : (Term.static "KeyMatrix$Word" (wnm i) "LKeyMatrix$Word;").eval args s none [] s = some (.ref (wcOf args s i)) := by
  obtain ⟨a, c, cell, k, h1, -⟩ := Cond.exactly_spec (args := args) (first := s) (o := none) (s := s) (idx := []) (hs _ (wfact i hi).1)
  rw [wc_of (i := i) (a := a) (by rw [tm_W hi]; exact h1)]
  exact h1
theorem wsl_lt : ∀ i, i < 20 → wsl i < 2 ^ 31 := by decide +kernel
theorem wfact3 : ∀ i, i < 20 → Cond.exactly (tmS i) "java/lang/String" ∈ flatC narrow_1 ∧ Cond.eq (.field (tmS i) "java/lang/String" "coder" "B") (.int 0) ∈ flatC narrow_1 ∧ Cond.arrayOf (tmV i) .byte ∈ flatC narrow_1 ∧ Cond.eq (.length (tmV i)) (.int (Int32.ofNat (wsl i))) ∈ flatC narrow_1 ∧ Cond.eq (.field (tmW i) "KeyMatrix$Word" "text" "Ljava/lang/String;") (tmS i) ∈ flatC narrow_1 := by
  intro i hi
  match i, hi with
  | 0, _ => exact ⟨List.mem_of_getElem? (i := 208) (by decide +kernel), List.mem_of_getElem? (i := 209) (by decide +kernel), List.mem_of_getElem? (i := 210) (by decide +kernel), List.mem_of_getElem? (i := 211) (by decide +kernel), List.mem_of_getElem? (i := 34) (by decide +kernel)⟩
  | 1, _ => exact ⟨List.mem_of_getElem? (i := 235) (by decide +kernel), List.mem_of_getElem? (i := 236) (by decide +kernel), List.mem_of_getElem? (i := 237) (by decide +kernel), List.mem_of_getElem? (i := 238) (by decide +kernel), List.mem_of_getElem? (i := 55) (by decide +kernel)⟩
  | 2, _ => exact ⟨List.mem_of_getElem? (i := 245) (by decide +kernel), List.mem_of_getElem? (i := 246) (by decide +kernel), List.mem_of_getElem? (i := 247) (by decide +kernel), List.mem_of_getElem? (i := 248) (by decide +kernel), List.mem_of_getElem? (i := 62) (by decide +kernel)⟩
  | 3, _ => exact ⟨List.mem_of_getElem? (i := 329) (by decide +kernel), List.mem_of_getElem? (i := 330) (by decide +kernel), List.mem_of_getElem? (i := 331) (by decide +kernel), List.mem_of_getElem? (i := 332) (by decide +kernel), List.mem_of_getElem? (i := 132) (by decide +kernel)⟩
  | 4, _ => exact ⟨List.mem_of_getElem? (i := 339) (by decide +kernel), List.mem_of_getElem? (i := 340) (by decide +kernel), List.mem_of_getElem? (i := 341) (by decide +kernel), List.mem_of_getElem? (i := 342) (by decide +kernel), List.mem_of_getElem? (i := 139) (by decide +kernel)⟩
  | 5, _ => exact ⟨List.mem_of_getElem? (i := 347) (by decide +kernel), List.mem_of_getElem? (i := 348) (by decide +kernel), List.mem_of_getElem? (i := 349) (by decide +kernel), List.mem_of_getElem? (i := 350) (by decide +kernel), List.mem_of_getElem? (i := 146) (by decide +kernel)⟩
  | 6, _ => exact ⟨List.mem_of_getElem? (i := 359) (by decide +kernel), List.mem_of_getElem? (i := 360) (by decide +kernel), List.mem_of_getElem? (i := 361) (by decide +kernel), List.mem_of_getElem? (i := 362) (by decide +kernel), List.mem_of_getElem? (i := 153) (by decide +kernel)⟩
  | 7, _ => exact ⟨List.mem_of_getElem? (i := 368) (by decide +kernel), List.mem_of_getElem? (i := 369) (by decide +kernel), List.mem_of_getElem? (i := 370) (by decide +kernel), List.mem_of_getElem? (i := 371) (by decide +kernel), List.mem_of_getElem? (i := 160) (by decide +kernel)⟩
  | 8, _ => exact ⟨List.mem_of_getElem? (i := 252) (by decide +kernel), List.mem_of_getElem? (i := 253) (by decide +kernel), List.mem_of_getElem? (i := 254) (by decide +kernel), List.mem_of_getElem? (i := 255) (by decide +kernel), List.mem_of_getElem? (i := 69) (by decide +kernel)⟩
  | 9, _ => exact ⟨List.mem_of_getElem? (i := 217) (by decide +kernel), List.mem_of_getElem? (i := 218) (by decide +kernel), List.mem_of_getElem? (i := 219) (by decide +kernel), List.mem_of_getElem? (i := 220) (by decide +kernel), List.mem_of_getElem? (i := 41) (by decide +kernel)⟩
  | 10, _ => exact ⟨List.mem_of_getElem? (i := 226) (by decide +kernel), List.mem_of_getElem? (i := 227) (by decide +kernel), List.mem_of_getElem? (i := 228) (by decide +kernel), List.mem_of_getElem? (i := 229) (by decide +kernel), List.mem_of_getElem? (i := 48) (by decide +kernel)⟩
  | 11, _ => exact ⟨List.mem_of_getElem? (i := 313) (by decide +kernel), List.mem_of_getElem? (i := 314) (by decide +kernel), List.mem_of_getElem? (i := 315) (by decide +kernel), List.mem_of_getElem? (i := 316) (by decide +kernel), List.mem_of_getElem? (i := 118) (by decide +kernel)⟩
  | 12, _ => exact ⟨List.mem_of_getElem? (i := 296) (by decide +kernel), List.mem_of_getElem? (i := 297) (by decide +kernel), List.mem_of_getElem? (i := 298) (by decide +kernel), List.mem_of_getElem? (i := 299) (by decide +kernel), List.mem_of_getElem? (i := 104) (by decide +kernel)⟩
  | 13, _ => exact ⟨List.mem_of_getElem? (i := 287) (by decide +kernel), List.mem_of_getElem? (i := 288) (by decide +kernel), List.mem_of_getElem? (i := 289) (by decide +kernel), List.mem_of_getElem? (i := 290) (by decide +kernel), List.mem_of_getElem? (i := 97) (by decide +kernel)⟩
  | 14, _ => exact ⟨List.mem_of_getElem? (i := 378) (by decide +kernel), List.mem_of_getElem? (i := 379) (by decide +kernel), List.mem_of_getElem? (i := 380) (by decide +kernel), List.mem_of_getElem? (i := 381) (by decide +kernel), List.mem_of_getElem? (i := 167) (by decide +kernel)⟩
  | 15, _ => exact ⟨List.mem_of_getElem? (i := 259) (by decide +kernel), List.mem_of_getElem? (i := 260) (by decide +kernel), List.mem_of_getElem? (i := 261) (by decide +kernel), List.mem_of_getElem? (i := 262) (by decide +kernel), List.mem_of_getElem? (i := 76) (by decide +kernel)⟩
  | 16, _ => exact ⟨List.mem_of_getElem? (i := 270) (by decide +kernel), List.mem_of_getElem? (i := 271) (by decide +kernel), List.mem_of_getElem? (i := 272) (by decide +kernel), List.mem_of_getElem? (i := 273) (by decide +kernel), List.mem_of_getElem? (i := 83) (by decide +kernel)⟩
  | 17, _ => exact ⟨List.mem_of_getElem? (i := 279) (by decide +kernel), List.mem_of_getElem? (i := 280) (by decide +kernel), List.mem_of_getElem? (i := 281) (by decide +kernel), List.mem_of_getElem? (i := 282) (by decide +kernel), List.mem_of_getElem? (i := 90) (by decide +kernel)⟩
  | 18, _ => exact ⟨List.mem_of_getElem? (i := 303) (by decide +kernel), List.mem_of_getElem? (i := 304) (by decide +kernel), List.mem_of_getElem? (i := 305) (by decide +kernel), List.mem_of_getElem? (i := 306) (by decide +kernel), List.mem_of_getElem? (i := 111) (by decide +kernel)⟩
  | 19, _ => exact ⟨List.mem_of_getElem? (i := 321) (by decide +kernel), List.mem_of_getElem? (i := 322) (by decide +kernel), List.mem_of_getElem? (i := 323) (by decide +kernel), List.mem_of_getElem? (i := 324) (by decide +kernel), List.mem_of_getElem? (i := 125) (by decide +kernel)⟩
  | n + 20, h => exact absurd h (by omega)
theorem wfact4 : ∀ i, i < 20 → ∀ j, j < wsl i → Cond.eq (.elem (tmV i) (.int (Int32.ofNat j))) (.int (wsb i j)) ∈ flatC narrow_1 := by
  intro i hi j hj
  match i, hi, j, hj with
  | 0, _, 0, _ => exact List.mem_of_getElem? (i := 212) (by decide +kernel)
  | 0, _, 1, _ => exact List.mem_of_getElem? (i := 213) (by decide +kernel)
  | 0, _, 2, _ => exact List.mem_of_getElem? (i := 214) (by decide +kernel)
  | 0, _, 3, _ => exact List.mem_of_getElem? (i := 215) (by decide +kernel)
  | 0, _, 4, _ => exact List.mem_of_getElem? (i := 216) (by decide +kernel)
  | 0, _, n + 5, h => exact absurd h (by show ¬ n + 5 < 5; omega)
  | 1, _, 0, _ => exact List.mem_of_getElem? (i := 239) (by decide +kernel)
  | 1, _, 1, _ => exact List.mem_of_getElem? (i := 240) (by decide +kernel)
  | 1, _, 2, _ => exact List.mem_of_getElem? (i := 241) (by decide +kernel)
  | 1, _, 3, _ => exact List.mem_of_getElem? (i := 242) (by decide +kernel)
  | 1, _, 4, _ => exact List.mem_of_getElem? (i := 243) (by decide +kernel)
  | 1, _, 5, _ => exact List.mem_of_getElem? (i := 244) (by decide +kernel)
  | 1, _, n + 6, h => exact absurd h (by show ¬ n + 6 < 6; omega)
  | 2, _, 0, _ => exact List.mem_of_getElem? (i := 249) (by decide +kernel)
  | 2, _, 1, _ => exact List.mem_of_getElem? (i := 250) (by decide +kernel)
  | 2, _, 2, _ => exact List.mem_of_getElem? (i := 251) (by decide +kernel)
  | 2, _, n + 3, h => exact absurd h (by show ¬ n + 3 < 3; omega)
  | 3, _, 0, _ => exact List.mem_of_getElem? (i := 333) (by decide +kernel)
  | 3, _, 1, _ => exact List.mem_of_getElem? (i := 334) (by decide +kernel)
  | 3, _, 2, _ => exact List.mem_of_getElem? (i := 335) (by decide +kernel)
  | 3, _, 3, _ => exact List.mem_of_getElem? (i := 336) (by decide +kernel)
  | 3, _, 4, _ => exact List.mem_of_getElem? (i := 337) (by decide +kernel)
  | 3, _, 5, _ => exact List.mem_of_getElem? (i := 338) (by decide +kernel)
  | 3, _, n + 6, h => exact absurd h (by show ¬ n + 6 < 6; omega)
  | 4, _, 0, _ => exact List.mem_of_getElem? (i := 343) (by decide +kernel)
  | 4, _, 1, _ => exact List.mem_of_getElem? (i := 344) (by decide +kernel)
  | 4, _, 2, _ => exact List.mem_of_getElem? (i := 345) (by decide +kernel)
  | 4, _, 3, _ => exact List.mem_of_getElem? (i := 346) (by decide +kernel)
  | 4, _, n + 4, h => exact absurd h (by show ¬ n + 4 < 4; omega)
  | 5, _, 0, _ => exact List.mem_of_getElem? (i := 351) (by decide +kernel)
  | 5, _, 1, _ => exact List.mem_of_getElem? (i := 352) (by decide +kernel)
  | 5, _, 2, _ => exact List.mem_of_getElem? (i := 353) (by decide +kernel)
  | 5, _, 3, _ => exact List.mem_of_getElem? (i := 354) (by decide +kernel)
  | 5, _, 4, _ => exact List.mem_of_getElem? (i := 355) (by decide +kernel)
  | 5, _, 5, _ => exact List.mem_of_getElem? (i := 356) (by decide +kernel)
  | 5, _, 6, _ => exact List.mem_of_getElem? (i := 357) (by decide +kernel)
  | 5, _, 7, _ => exact List.mem_of_getElem? (i := 358) (by decide +kernel)
  | 5, _, n + 8, h => exact absurd h (by show ¬ n + 8 < 8; omega)
  | 6, _, 0, _ => exact List.mem_of_getElem? (i := 363) (by decide +kernel)
  | 6, _, 1, _ => exact List.mem_of_getElem? (i := 364) (by decide +kernel)
  | 6, _, 2, _ => exact List.mem_of_getElem? (i := 365) (by decide +kernel)
  | 6, _, 3, _ => exact List.mem_of_getElem? (i := 366) (by decide +kernel)
  | 6, _, 4, _ => exact List.mem_of_getElem? (i := 367) (by decide +kernel)
  | 6, _, n + 5, h => exact absurd h (by show ¬ n + 5 < 5; omega)
  | 7, _, 0, _ => exact List.mem_of_getElem? (i := 372) (by decide +kernel)
  | 7, _, 1, _ => exact List.mem_of_getElem? (i := 373) (by decide +kernel)
  | 7, _, 2, _ => exact List.mem_of_getElem? (i := 374) (by decide +kernel)
  | 7, _, 3, _ => exact List.mem_of_getElem? (i := 375) (by decide +kernel)
  | 7, _, 4, _ => exact List.mem_of_getElem? (i := 376) (by decide +kernel)
  | 7, _, 5, _ => exact List.mem_of_getElem? (i := 377) (by decide +kernel)
  | 7, _, n + 6, h => exact absurd h (by show ¬ n + 6 < 6; omega)
  | 8, _, 0, _ => exact List.mem_of_getElem? (i := 256) (by decide +kernel)
  | 8, _, 1, _ => exact List.mem_of_getElem? (i := 257) (by decide +kernel)
  | 8, _, 2, _ => exact List.mem_of_getElem? (i := 258) (by decide +kernel)
  | 8, _, n + 3, h => exact absurd h (by show ¬ n + 3 < 3; omega)
  | 9, _, 0, _ => exact List.mem_of_getElem? (i := 221) (by decide +kernel)
  | 9, _, 1, _ => exact List.mem_of_getElem? (i := 222) (by decide +kernel)
  | 9, _, 2, _ => exact List.mem_of_getElem? (i := 223) (by decide +kernel)
  | 9, _, 3, _ => exact List.mem_of_getElem? (i := 224) (by decide +kernel)
  | 9, _, 4, _ => exact List.mem_of_getElem? (i := 225) (by decide +kernel)
  | 9, _, n + 5, h => exact absurd h (by show ¬ n + 5 < 5; omega)
  | 10, _, 0, _ => exact List.mem_of_getElem? (i := 230) (by decide +kernel)
  | 10, _, 1, _ => exact List.mem_of_getElem? (i := 231) (by decide +kernel)
  | 10, _, 2, _ => exact List.mem_of_getElem? (i := 232) (by decide +kernel)
  | 10, _, 3, _ => exact List.mem_of_getElem? (i := 233) (by decide +kernel)
  | 10, _, 4, _ => exact List.mem_of_getElem? (i := 234) (by decide +kernel)
  | 10, _, n + 5, h => exact absurd h (by show ¬ n + 5 < 5; omega)
  | 11, _, 0, _ => exact List.mem_of_getElem? (i := 317) (by decide +kernel)
  | 11, _, 1, _ => exact List.mem_of_getElem? (i := 318) (by decide +kernel)
  | 11, _, 2, _ => exact List.mem_of_getElem? (i := 319) (by decide +kernel)
  | 11, _, 3, _ => exact List.mem_of_getElem? (i := 320) (by decide +kernel)
  | 11, _, n + 4, h => exact absurd h (by show ¬ n + 4 < 4; omega)
  | 12, _, 0, _ => exact List.mem_of_getElem? (i := 300) (by decide +kernel)
  | 12, _, 1, _ => exact List.mem_of_getElem? (i := 301) (by decide +kernel)
  | 12, _, 2, _ => exact List.mem_of_getElem? (i := 302) (by decide +kernel)
  | 12, _, n + 3, h => exact absurd h (by show ¬ n + 3 < 3; omega)
  | 13, _, 0, _ => exact List.mem_of_getElem? (i := 291) (by decide +kernel)
  | 13, _, 1, _ => exact List.mem_of_getElem? (i := 292) (by decide +kernel)
  | 13, _, 2, _ => exact List.mem_of_getElem? (i := 293) (by decide +kernel)
  | 13, _, 3, _ => exact List.mem_of_getElem? (i := 294) (by decide +kernel)
  | 13, _, 4, _ => exact List.mem_of_getElem? (i := 295) (by decide +kernel)
  | 13, _, n + 5, h => exact absurd h (by show ¬ n + 5 < 5; omega)
  | 14, _, 0, _ => exact List.mem_of_getElem? (i := 382) (by decide +kernel)
  | 14, _, 1, _ => exact List.mem_of_getElem? (i := 383) (by decide +kernel)
  | 14, _, 2, _ => exact List.mem_of_getElem? (i := 384) (by decide +kernel)
  | 14, _, 3, _ => exact List.mem_of_getElem? (i := 385) (by decide +kernel)
  | 14, _, 4, _ => exact List.mem_of_getElem? (i := 386) (by decide +kernel)
  | 14, _, 5, _ => exact List.mem_of_getElem? (i := 387) (by decide +kernel)
  | 14, _, n + 6, h => exact absurd h (by show ¬ n + 6 < 6; omega)
  | 15, _, 0, _ => exact List.mem_of_getElem? (i := 263) (by decide +kernel)
  | 15, _, 1, _ => exact List.mem_of_getElem? (i := 264) (by decide +kernel)
  | 15, _, 2, _ => exact List.mem_of_getElem? (i := 265) (by decide +kernel)
  | 15, _, 3, _ => exact List.mem_of_getElem? (i := 266) (by decide +kernel)
  | 15, _, 4, _ => exact List.mem_of_getElem? (i := 267) (by decide +kernel)
  | 15, _, 5, _ => exact List.mem_of_getElem? (i := 268) (by decide +kernel)
  | 15, _, 6, _ => exact List.mem_of_getElem? (i := 269) (by decide +kernel)
  | 15, _, n + 7, h => exact absurd h (by show ¬ n + 7 < 7; omega)
  | 16, _, 0, _ => exact List.mem_of_getElem? (i := 274) (by decide +kernel)
  | 16, _, 1, _ => exact List.mem_of_getElem? (i := 275) (by decide +kernel)
  | 16, _, 2, _ => exact List.mem_of_getElem? (i := 276) (by decide +kernel)
  | 16, _, 3, _ => exact List.mem_of_getElem? (i := 277) (by decide +kernel)
  | 16, _, 4, _ => exact List.mem_of_getElem? (i := 278) (by decide +kernel)
  | 16, _, n + 5, h => exact absurd h (by show ¬ n + 5 < 5; omega)
  | 17, _, 0, _ => exact List.mem_of_getElem? (i := 283) (by decide +kernel)
  | 17, _, 1, _ => exact List.mem_of_getElem? (i := 284) (by decide +kernel)
  | 17, _, 2, _ => exact List.mem_of_getElem? (i := 285) (by decide +kernel)
  | 17, _, 3, _ => exact List.mem_of_getElem? (i := 286) (by decide +kernel)
  | 17, _, n + 4, h => exact absurd h (by show ¬ n + 4 < 4; omega)
  | 18, _, 0, _ => exact List.mem_of_getElem? (i := 307) (by decide +kernel)
  | 18, _, 1, _ => exact List.mem_of_getElem? (i := 308) (by decide +kernel)
  | 18, _, 2, _ => exact List.mem_of_getElem? (i := 309) (by decide +kernel)
  | 18, _, 3, _ => exact List.mem_of_getElem? (i := 310) (by decide +kernel)
  | 18, _, 4, _ => exact List.mem_of_getElem? (i := 311) (by decide +kernel)
  | 18, _, 5, _ => exact List.mem_of_getElem? (i := 312) (by decide +kernel)
  | 18, _, n + 6, h => exact absurd h (by show ¬ n + 6 < 6; omega)
  | 19, _, 0, _ => exact List.mem_of_getElem? (i := 325) (by decide +kernel)
  | 19, _, 1, _ => exact List.mem_of_getElem? (i := 326) (by decide +kernel)
  | 19, _, 2, _ => exact List.mem_of_getElem? (i := 327) (by decide +kernel)
  | 19, _, 3, _ => exact List.mem_of_getElem? (i := 328) (by decide +kernel)
  | 19, _, n + 4, h => exact absurd h (by show ¬ n + 4 < 4; omega)
  | n + 20, h, _, _ => exact absurd h (by omega)
theorem wfact5 : Cond.arrayOf tmA (.object "KeyMatrix$Word") ∈ flatC narrow_1 ∧ Cond.eq (.length tmA) (.int (Int32.ofNat 20)) ∈ flatC narrow_1 ∧ Cond.eq (.static "java/lang/String" "COMPACT_STRINGS" "Z") (.int 1) ∈ flatC narrow_1 ∧ Cond.isRef tmF ∈ flatC narrow_1 := ⟨List.mem_of_getElem? (i := 4) (by decide +kernel), List.mem_of_getElem? (i := 5) (by decide +kernel), List.mem_of_getElem? (i := 27) (by decide +kernel), List.mem_of_getElem? (i := 28) (by decide +kernel)⟩
theorem wfact6 : ∀ j, j < 20 → Cond.eq (.elem tmA (.int (Int32.ofNat j))) (.static "KeyMatrix$Word" (wnm j) "LKeyMatrix$Word;") ∈ flatC narrow_1 := by
  intro j hj
  match j, hj with
  | 0, _ => exact List.mem_of_getElem? (i := 7) (by decide +kernel)
  | 1, _ => exact List.mem_of_getElem? (i := 8) (by decide +kernel)
  | 2, _ => exact List.mem_of_getElem? (i := 9) (by decide +kernel)
  | 3, _ => exact List.mem_of_getElem? (i := 10) (by decide +kernel)
  | 4, _ => exact List.mem_of_getElem? (i := 11) (by decide +kernel)
  | 5, _ => exact List.mem_of_getElem? (i := 12) (by decide +kernel)
  | 6, _ => exact List.mem_of_getElem? (i := 13) (by decide +kernel)
  | 7, _ => exact List.mem_of_getElem? (i := 14) (by decide +kernel)
  | 8, _ => exact List.mem_of_getElem? (i := 15) (by decide +kernel)
  | 9, _ => exact List.mem_of_getElem? (i := 16) (by decide +kernel)
  | 10, _ => exact List.mem_of_getElem? (i := 17) (by decide +kernel)
  | 11, _ => exact List.mem_of_getElem? (i := 18) (by decide +kernel)
  | 12, _ => exact List.mem_of_getElem? (i := 19) (by decide +kernel)
  | 13, _ => exact List.mem_of_getElem? (i := 20) (by decide +kernel)
  | 14, _ => exact List.mem_of_getElem? (i := 21) (by decide +kernel)
  | 15, _ => exact List.mem_of_getElem? (i := 22) (by decide +kernel)
  | 16, _ => exact List.mem_of_getElem? (i := 23) (by decide +kernel)
  | 17, _ => exact List.mem_of_getElem? (i := 24) (by decide +kernel)
  | 18, _ => exact List.mem_of_getElem? (i := 25) (by decide +kernel)
  | 19, _ => exact List.mem_of_getElem? (i := 26) (by decide +kernel)
  | n + 20, h => exact absurd h (by omega)
theorem sx_text {s : State} {b : Nat} (hs : ∀ c ∈ flatC narrow_1, c.before #[Value.ref b] s = true) (hts : ∀ w ∈ lw_tbl, w.before #[Value.ref b] s = true) : SxT (s.heap.size, wcOf #[Value.ref b] s) s := by
  have ea : ∀ i, ad (s.heap.size, wcOf #[Value.ref b] s) (100000 + i) = wcOf #[Value.ref b] s i := by
    intro i
    unfold ad
    rw [if_neg (by omega), Nat.add_sub_cancel_left]
  have hA : ∀ a : Nat, a < s.heap.size → ¬ wA (s.heap.size, wcOf #[Value.ref b] s) a := fun a ha h => absurd h (Nat.not_le.mpr ha)
  obtain ⟨t, ht, hT⟩ := va_Tof (args := #[Value.ref b]) (s := s) (tm := tmA) (ty := .object "KeyMatrix$Word") (N := 20) (f := fun j => .ref (ad (s.heap.size, wcOf #[Value.ref b] s) (100000 + j))) (A := wA (s.heap.size, wcOf #[Value.ref b] s)) (by decide) (hs _ wfact5.1) (eq_ev (hs _ wfact5.2.1)) (fun j hj => by
    have h := va_eqv (hs _ (wfact6 j hj)) (wc_ev hs hj)
    rw [h, ea]) hA
  have hA20 : ad (s.heap.size, wcOf #[Value.ref b] s) 100020 = t := (ea 20).trans (wc_of (by rw [tm_A]; exact ht))
  refine ⟨?_, ?_, va_Zof (hts _ (mT3 (List.mem_of_getElem? (i := 70) (by decide +kernel)))) (hts _ (mT1 (List.mem_of_getElem? (i := 13) (by decide +kernel)))) (eq_ev (hs _ wfact5.2.2.1)) hA, ?_, fun i hi => ?_⟩
  · rw [hA20]
    exact va_Zof (hts _ (mT3 (List.mem_of_getElem? (i := 57) (by decide +kernel)))) (hts _ (mT1 (List.mem_of_getElem? (i := 3) (by decide +kernel)))) ht hA
  · rw [hA20]
    exact hT
  · have h := hs _ wfact5.2.2.2
    cases hv : tmF.eval #[Value.ref b] s none [] s with
    | none =>
      simp only [Cond.before, Cond.holds, Cond.value, hv] at h
      cases h
    | some w =>
      have hz := va_Zof (hts _ (mT3 (List.mem_of_getElem? (i := 86) (by decide +kernel)))) (hts _ (mT1 (List.mem_of_getElem? (i := 15) (by decide +kernel)))) hv hA
      cases w with
      | null => exact ⟨none, hz⟩
      | ref a =>
        refine ⟨some 100061, ?_⟩
        have e : ad (s.heap.size, wcOf #[Value.ref b] s) 100061 = a := (ea 61).trans (wc_of (by rw [tm_F]; exact hv))
        show va_Z _ _ _ (.ref (ad (s.heap.size, wcOf #[Value.ref b] s) 100061)) _ _ _
        rw [e]
        exact hz
      | _ =>
        simp only [Cond.before, Cond.holds, Cond.value, hv] at h
        cases h
  · obtain ⟨f1, f2, f3, f4, f5⟩ := wfact3 i hi
    have eS : ∀ j, 100021 + j = 100000 + (21 + j) := fun j => by omega
    have eV : ∀ j, 100041 + j = 100000 + (41 + j) := fun j => by omega
    obtain ⟨a, c, cA, kA, q1, q2, q3, q4, q5, q6, -⟩ := Cond.exactly_spec (args := #[Value.ref b]) (first := s) (o := none) (s := s) (idx := []) (hs _ (wfact i hi).1)
    have w1 : wcOf #[Value.ref b] s i = a := wc_of (by rw [tm_W hi]; exact q1)
    obtain ⟨a2, c2, cA2, kA2, r1, r2, r3, r4, r5, r6, -⟩ := Cond.exactly_spec (args := #[Value.ref b]) (first := s) (o := none) (s := s) (idx := []) (hs _ f1)
    have w2 : wcOf #[Value.ref b] s (21 + i) = a2 := wc_of (by rw [tm_S hi]; exact r1)
    obtain ⟨t2, ht2, hT2⟩ := va_Tof (args := #[Value.ref b]) (s := s) (tm := tmV i) (ty := .byte) (N := wsl i) (f := fun j => .int (wsb i j)) (A := wA (s.heap.size, wcOf #[Value.ref b] s)) (wsl_lt i hi) (hs _ f3) (eq_ev (hs _ f4)) (fun j hj => eq_ev (hs _ (wfact4 i hi j hj))) hA
    have w3 : wcOf #[Value.ref b] s (41 + i) = t2 := wc_of (by rw [tm_V hi]; exact ht2)
    rw [ea, eS, ea, eV, ea, w1, w2, w3]
    exact ⟨⟨cA, q3, q5, by rw [q6]; exact q2, hA a (Array.getElem?_eq_some_iff.mp q3).1⟩, vk_OFof q1 (va_eqv (hs _ f5) r1) hA, ⟨cA2, r3, r5, by rw [r6]; exact r2, hA a2 (Array.getElem?_eq_some_iff.mp r3).1⟩, vk_OFof r1 (eq_ev (hs _ f2)) hA, vk_OFof r1 ht2 hA, hT2⟩
theorem wc_inj {args : Array Value} {s : State} (hs : ∀ c ∈ flatC narrow_1, c.before args s = true) {i j : Nat} (hi : i < 20) (hj : j < 20) (h : wcOf args s i = wcOf args s j) : i = j := by
  have e1 := wc_ev hs hi
  have e2 := wc_ev hs hj
  have f1 := eq_ev (hs _ (wfact i hi).2.1)
  have f2 := eq_ev (hs _ (wfact j hj).2.1)
  rw [h] at e1
  have key : (Term.field (.static "KeyMatrix$Word" (wnm i) "LKeyMatrix$Word;") "java/lang/Enum" "ordinal" "I").eval args s none [] s = (Term.field (.static "KeyMatrix$Word" (wnm j) "LKeyMatrix$Word;") "java/lang/Enum" "ordinal" "I").eval args s none [] s := by
    simp only [Term.eval] at e1 e2 ⊢
    rw [e1, e2]
  rw [f1, f2] at key
  have k2 : Int32.ofNat i = Int32.ofNat j := by
    injection key with k3
    injection k3
  exact (nI_eq (a := i) (b := j) (by omega) (by omega)).mp k2
theorem ar_ex {args : Array Value} {s : State} (hts : ∀ w ∈ lw_tbl, w.before args s = true) : ∃ cy : Nat → ClassId, ∀ t, t < 8 → ArrOfT s (cy t) (tyk t) ∧ va_RA s (cy t) (tyk t) := by
  have prim : ∀ ty : FieldType, (∀ C, ty ≠ .object C) → (Cond.arrayClass ty).before args s = true → ∃ c : ClassId, ArrOfT s c ty ∧ va_RA s c ty := by
    intro ty hty h
    obtain ⟨c, k, comp, h1, h2, h3⟩ := Cond.arrayClass_spec (args := args) (first := s) (o := none) (s := s) (idx := []) h
    refine ⟨c, fun n z => ⟨fun k h => (by cases h), k, h2, comp, h3⟩, ?_⟩
    cases ty with
    | object C => exact absurd rfl (hty C)
    | _ => exact h1
  have obj : ∀ C : String, (Cond.arrayOver (.object C)).before args s = true → ∃ c : ClassId, ArrOfT s c (.object C) ∧ va_RA s c (.object C) := by
    intro C h
    obtain ⟨comp, c, k, h1, h2, h3, h4, h5⟩ := Cond.arrayOver_spec (args := args) (first := s) (o := none) (s := s) (idx := []) h
    exact ⟨c, fun n z => ⟨fun k h => (by cases h), k, h3, comp, h4⟩, k, comp, h3, h4, h1, h5⟩
  obtain ⟨c0, h0⟩ := prim .byte (fun C h => by cases h) (hts _ (mT1 (List.mem_of_getElem? (i := 63) (by decide +kernel))))
  obtain ⟨c1, h1⟩ := prim .float (fun C h => by cases h) (hts _ (mT2 (List.mem_of_getElem? (i := 72) (by decide +kernel))))
  obtain ⟨c2, h2⟩ := prim .int (fun C h => by cases h) (hts _ (mT1 (List.mem_of_getElem? (i := 64) (by decide +kernel))))
  obtain ⟨c3, h3⟩ := prim .long (fun C h => by cases h) (hts _ (mT5 (List.mem_of_getElem? (i := 191) (by decide +kernel))))
  obtain ⟨c4, h4⟩ := prim .boolean (fun C h => by cases h) (hts _ (mT5 (List.mem_of_getElem? (i := 192) (by decide +kernel))))
  obtain ⟨c5, h5⟩ := obj "KeyMatrix$Deed" (hts _ (mT1 (List.mem_of_getElem? (i := 98) (by decide +kernel))))
  obtain ⟨c6, h6⟩ := obj "KeyMatrix$Course" (hts _ (mT2 (List.mem_of_getElem? (i := 229) (by decide +kernel))))
  obtain ⟨c7, h7⟩ := obj "KeyMatrix$Word" (hts _ (mT1 (List.mem_of_getElem? (i := 43) (by decide +kernel))))
  refine ⟨fun t => match t with | 0 => c0 | 1 => c1 | 2 => c2 | 3 => c3 | 4 => c4 | 5 => c5 | 6 => c6 | _ => c7, fun t ht => ?_⟩
  match t, ht with
  | 0, _ => exact h0
  | 1, _ => exact h1
  | 2, _ => exact h2
  | 3, _ => exact h3
  | 4, _ => exact h4
  | 5, _ => exact h5
  | 6, _ => exact h6
  | 7, _ => exact h7
  | n + 8, h => exact absurd h (by omega)
theorem cl_ex {args : Array Value} {s : State} (hts : ∀ w ∈ lw_tbl, w.before args s = true) : ∃ (dC : Nat → ClassId) (dI : Nat → Nat → Nat), ∀ (k : Nat) (q : vw_C), vwCl[k]? = some q → u_Kn s q.1 q.2.1 q.2.2 (dC k) (dI k) := by
  obtain ⟨c0, i0, h0⟩ := u_known (C := RX0) (T := TX0) (N := 19) (n := 19) hts (fun w h => wl_in (inl0 w h)) (hts _ (mT1 (List.mem_of_getElem? (i := 92) (by decide +kernel))))
  obtain ⟨c1, i1, h1⟩ := u_known (C := RX1) (T := TX1) (N := 6) (n := 6) hts (fun w h => wl_in (inl1 w h)) (hts _ (mT2 (List.mem_of_getElem? (i := 23) (by decide +kernel))))
  obtain ⟨c2, i2, h2⟩ := u_known (C := RX2) (T := TX2) (N := 3) (n := 3) hts (fun w h => wl_in (inl2 w h)) (hts _ (mT1 (List.mem_of_getElem? (i := 66) (by decide +kernel))))
  obtain ⟨c3, i3, h3⟩ := u_known (C := RX3) (T := TX3) (N := 9) (n := 9) hts (fun w h => wl_in (inl3 w h)) (hts _ (mT2 (List.mem_of_getElem? (i := 93) (by decide +kernel))))
  obtain ⟨c4, i4, h4⟩ := u_known (C := RX4) (T := TX4) (N := 3) (n := 3) hts (fun w h => wl_in (inl4 w h)) (hts _ (mT2 (List.mem_of_getElem? (i := 74) (by decide +kernel))))
  obtain ⟨c5, i5, h5⟩ := u_known (C := RX5) (T := TX5) (N := 9) (n := 9) hts (fun w h => wl_in (inl5 w h)) (hts _ (mT2 (List.mem_of_getElem? (i := 140) (by decide +kernel))))
  obtain ⟨c6, i6, h6⟩ := u_known (C := RX6) (T := TX6) (N := 9) (n := 9) hts (fun w h => wl_in (inl6 w h)) (hts _ (mT2 (List.mem_of_getElem? (i := 29) (by decide +kernel))))
  obtain ⟨c7, i7, h7⟩ := u_known (C := RX7) (T := TX7) (N := 10) (n := 10) hts (fun w h => wl_in (inl7 w h)) (hts _ (mT1 (List.mem_of_getElem? (i := 31) (by decide +kernel))))
  obtain ⟨c8, i8, h8⟩ := u_known (C := RX8) (T := TX8) (N := 6) (n := 6) hts (fun w h => wl_in (inl8 w h)) (hts _ (mT1 (List.mem_of_getElem? (i := 37) (by decide +kernel))))
  obtain ⟨c9, i9, h9⟩ := u_known (C := RX9) (T := TX9) (N := 4) (n := 4) hts (fun w h => wl_in (inl9 w h)) (hts _ (mT2 (List.mem_of_getElem? (i := 1) (by decide +kernel))))
  obtain ⟨c10, i10, h10⟩ := u_known (C := RX11) (T := TX11) (N := 10) (n := 10) hts (fun w h => wl_in (inl10 w h)) (hts _ (mT1 (List.mem_of_getElem? (i := 23) (by decide +kernel))))
  obtain ⟨c11, i11, h11⟩ := u_known (C := RX12) (T := TX12) (N := 33) (n := 33) hts (fun w h => wl_in (inl11 w h)) (hts _ (mT5 (List.mem_of_getElem? (i := 73) (by decide +kernel))))
  refine ⟨fun k => match k with | 0 => c0 | 1 => c1 | 2 => c2 | 3 => c3 | 4 => c4 | 5 => c5 | 6 => c6 | 7 => c7 | 8 => c8 | 9 => c9 | 10 => c10 | _ => c11, fun k => match k with | 0 => i0 | 1 => i1 | 2 => i2 | 3 => i3 | 4 => i4 | 5 => i5 | 6 => i6 | 7 => i7 | 8 => i8 | 9 => i9 | 10 => i10 | _ => i11, fun k q hq => ?_⟩
  match k, hq with
  | 0, hq => cases hq; exact h0
  | 1, hq => cases hq; exact h1
  | 2, hq => cases hq; exact h2
  | 3, hq => cases hq; exact h3
  | 4, hq => cases hq; exact h4
  | 5, hq => cases hq; exact h5
  | 6, hq => cases hq; exact h6
  | 7, hq => cases hq; exact h7
  | 8, hq => cases hq; exact h8
  | 9, hq => cases hq; exact h9
  | 10, hq => cases hq; exact h10
  | 11, hq => cases hq; exact h11
  | n + 12, hq => exact absurd hq (by simp [vwCl])
def g00 : Gs := (0, 0, fun _ => 0, fun _ => 0, fun _ _ => none)
def d00 : Ds := (fun _ _ => 0, fun _ _ => 0, fun _ _ => 0, fun _ _ => none)
theorem b_lwret {p : Program} {l : Launch} {e : Env} {s : State} {m : MethodId} {below : List Frame} {meth : Method} {c : Code} {nL : Nat} {D : va_G} {cy : Nat → ClassId} {B : Bs} {g : Gs} {d : Ds} {lv : List (Nat × Value)} {pc b n0 s0 : Nat} (C : Cx p s m #[Value.ref b] c code nL RL D cy B) (hr : meth.sig.returnType = ret) (hlocks : meth.locks = false) (hB0 : s.heap.size ≤ B.1) (h : gN g - n0 ≤ 600000 ∧ gS g - s0 ≤ 7302250) (hdg : decode code pc = .ok (.ireturn, 1)) : WB p l e room_1 s m #[Value.ref b] below meth c nL D cy B (gN g - n0) (gS g - s0) (lw_Z below #[Value.ref b] s) g d lv pc [.int 1] := by
  intro H locs ls hl hP hS
  refine va_forget (fun q hq => Nat.le_trans hB0 (hS.2.2 q hq)) ?_
  refine W.widen h.1 h.2 ?_
  exact lw_ret (d0 := s.drawn) (Drawn.sameBut.refl s.drawn lw_cs) C.1 C.2.1 hr hlocks hdg
