section BM
variable {p : Program} {l : Launch} {e : Env} {R : Room} {s : State} {m : MethodId} {args : Array Value} {below : List Frame} {meth : Method} {c : Code} {cells slots : Nat} {Q : State → Prop} {nL : Nat} {D : va_G} {cy : Nat → ClassId} {B : Bs} {g : Gs} {d : Ds} {lv : List (Nat × Value)} {pc : Nat} {cc : ByteArray} {own : String} {rest : List Value}
theorem b_topI {x y : Int32} (h : y = x) (k : WB p l e R s m args below meth c nL D cy B cells slots Q g d lv pc (.int y :: rest)) : WB p l e R s m args below meth c nL D cy B cells slots Q g d lv pc (.int x :: rest) := h ▸ k
theorem b_topJ {x y : Int64} (h : y = x) (k : WB p l e R s m args below meth c nL D cy B cells slots Q g d lv pc (.long y :: rest)) : WB p l e R s m args below meth c nL D cy B cells slots Q g d lv pc (.long x :: rest) := h ▸ k
theorem b_topF {x y : UInt32} (h : y = x) (k : WB p l e R s m args below meth c nL D cy B cells slots Q g d lv pc (.float y :: rest)) : WB p l e R s m args below meth c nL D cy B cells slots Q g d lv pc (.float x :: rest) := h ▸ k
theorem b_topD {x y : UInt64} (h : y = x) (k : WB p l e R s m args below meth c nL D cy B cells slots Q g d lv pc (.double y :: rest)) : WB p l e R s m args below meth c nL D cy B cells slots Q g d lv pc (.double x :: rest) := h ▸ k
theorem rv_cat1 {B : Bs} {x : Option Nat} : (rv B x).category = 1 := by cases x <;> rfl
theorem b_topQ {x y : Option Nat} (h : y = x) (k : WB p l e R s m args below meth c nL D cy B cells slots Q g d lv pc (rv B y :: rest)) : WB p l e R s m args below meth c nL D cy B cells slots Q g d lv pc (rv B x :: rest) := h ▸ k
theorem b_some {x : Option Nat} {r : Nat} (h : x = some r) (k : WB p l e R s m args below meth c nL D cy B cells slots Q g d lv pc (.ref (ad B r) :: rest)) : WB p l e R s m args below meth c nL D cy B cells slots Q g d lv pc (rv B x :: rest) := h ▸ k
theorem b_nullQ (C : Cx p s m args c cc nL own D cy B) (hdg : decode cc pc = .ok (.aconst_null, 1)) (k : WB p l e R s m args below meth c nL D cy B cells slots Q g d lv (pc + 1) (rv B none :: rest)) : WB p l e R s m args below meth c nL D cy B cells slots Q g d lv pc rest := b_null C hdg k
theorem b_ifnull (C : Cx p s m args c cc nL own D cy B) {x : Option Nat} {off : Int} {tgt : Nat} (hdg : decode cc pc = .ok (.ifnull off, 3)) (ht : (pc : Int) + off = (tgt : Int)) (kt : x = none → WB p l e R s m args below meth c nL D cy B cells slots Q g d lv tgt rest) (kf : ¬ x = none → WB p l e R s m args below meth c nL D cy B cells slots Q g d lv (pc + 3) rest) : WB p l e R s m args below meth c nL D cy B cells slots Q g d lv pc (rv B x :: rest) := fun H locs ls hl hP hS => by
  cases x with
  | none => exact lv_ifnullN C.1 C.2.1 hdg ht (kt rfl H locs ls hl hP hS)
  | some y => exact lv_ifnull C.1 C.2.1 hdg (kf (fun h => by cases h) H locs ls hl hP hS)
theorem b_ifnonnull (C : Cx p s m args c cc nL own D cy B) {x : Option Nat} {off : Int} {tgt : Nat} (hdg : decode cc pc = .ok (.ifnonnull off, 3)) (ht : (pc : Int) + off = (tgt : Int)) (kt : ¬ x = none → WB p l e R s m args below meth c nL D cy B cells slots Q g d lv tgt rest) (kf : x = none → WB p l e R s m args below meth c nL D cy B cells slots Q g d lv (pc + 3) rest) : WB p l e R s m args below meth c nL D cy B cells slots Q g d lv pc (rv B x :: rest) := fun H locs ls hl hP hS => by
  cases x with
  | none => exact lv_ifnonnullN C.1 C.2.1 hdg (kf rfl H locs ls hl hP hS)
  | some y => exact lv_ifnonnull C.1 C.2.1 hdg ht (kt (fun h => by cases h) H locs ls hl hP hS)
/-- a reference that is null or one of Word's constants -/
abbrev wk (x : Option Nat) : Prop := x = none ∨ ∃ i, i < 20 ∧ x = some (100000 + i)
abbrev wkb (x : Option Nat) : Prop := 100000 ≤ x.getD 100000 ∧ x.getD 100000 < 100020
theorem wkb_s {x : Option Nat} (h : wkb x) : wk x := by
  cases x with
  | none => exact Or.inl rfl
  | some r =>
    have h1 : 100000 ≤ r := h.1
    have h2 : r < 100020 := h.2
    have h3 : 100000 + (r - 100000) = r := Nat.add_sub_cancel' h1
    exact Or.inr ⟨r - 100000, Nat.sub_lt_left_of_lt_add h1 h2, by rw [h3]⟩
theorem wk_inj {x y : Option Nat} (hS : Sx B s) (hx : wk x) (hy : wk y) : x.map (ad B) = y.map (ad B) ↔ x = y := by
  refine ⟨fun h => ?_, fun h => by rw [h]⟩
  rcases hx with rfl | ⟨i, hi, rfl⟩ <;> rcases hy with rfl | ⟨j, hj, rfl⟩
  · rfl
  · cases h
  · cases h
  · have h2 := hS.2.1 i j hi hj (Option.some.inj h)
    rw [h2]
theorem b_acmp_eq (C : Cx p s m args c cc nL own D cy B) {x y : Option Nat} {off : Int} {tgt : Nat} (hx : wk x) (hy : wk y) (hdg : decode cc pc = .ok (.if_acmp .eq off, 3)) (ht : (pc : Int) + off = (tgt : Int)) (kt : x = y → WB p l e R s m args below meth c nL D cy B cells slots Q g d lv tgt rest) (kf : ¬ x = y → WB p l e R s m args below meth c nL D cy B cells slots Q g d lv (pc + 3) rest) : WB p l e R s m args below meth c nL D cy B cells slots Q g d lv pc (rv B y :: rv B x :: rest) := fun H locs ls hl hP hS => by
  have hi := wk_inj C.2.2.2.2.2.2.1 hx hy
  exact lv_acmp_eq C.1 C.2.1 hdg ht (fun h => kt (by rw [← hi]; exact h) H locs ls hl hP hS) (fun h => kf (by rw [← hi]; exact h) H locs ls hl hP hS)
theorem b_acmp_ne (C : Cx p s m args c cc nL own D cy B) {x y : Option Nat} {off : Int} {tgt : Nat} (hx : wk x) (hy : wk y) (hdg : decode cc pc = .ok (.if_acmp .ne off, 3)) (ht : (pc : Int) + off = (tgt : Int)) (kt : ¬ x = y → WB p l e R s m args below meth c nL D cy B cells slots Q g d lv tgt rest) (kf : x = y → WB p l e R s m args below meth c nL D cy B cells slots Q g d lv (pc + 3) rest) : WB p l e R s m args below meth c nL D cy B cells slots Q g d lv pc (rv B y :: rv B x :: rest) := fun H locs ls hl hP hS => by
  have hi := wk_inj C.2.2.2.2.2.2.1 hx hy
  exact lv_acmp_ne C.1 C.2.1 hdg ht (fun h => kt (by rw [← hi]; exact h) H locs ls hl hP hS) (fun h => kf (by rw [← hi]; exact h) H locs ls hl hP hS)
theorem b_wfld (C : Cx p s m args c cc nL own D cy B) {index j x : Nat} (hr : 100000 ≤ x ∧ x < 100020) (hj : j < 4) (hlk : Cond.fieldLinkNest own index "KeyMatrix$Word" (wfn j) (wfd j) "KeyMatrix" ∈ lw_tbl) (hdg : decode cc pc = .ok (.getfield index, 3)) (k : WB p l e R s m args below meth c nL D cy B cells slots Q g d lv (pc + 3) (.int (wfv j (x - 100000)) :: rest)) : WB p l e R s m args below meth c nL D cy B cells slots Q g d lv pc (.ref (ad B x) :: rest) := fun H locs ls hl hP hS => by
  obtain ⟨hx, hb, hml, hown, hts, hK, hSx, hN⟩ := C
  have h := (hSx.1 (x - 100000) (by omega)).2 j hj
  rw [show 100000 + (x - 100000) = x by omega] at h
  obtain ⟨cf, kf, fi, f, cell, h1, h2, h3, h4, h5, h6⟩ := h.kept hS.2.1
  exact va_Wgetf hx hb hown (va_Nw.use rfl (hN _ hlk rfl)) h1 h2 h3 h4 (v := .int (wfv j (x - 100000))) h5 rfl rfl hdg (k H locs ls hl hP hS)
theorem b_getW (C : Cx p s m args c cc nL own D cy B) {index i : Nat} (hi : i < 20) (hlk : Cond.fieldLink own index "KeyMatrix$Word" (wnm i) "LKeyMatrix$Word;" ∈ wl) (hdg : decode cc pc = .ok (.getstatic index, 3)) (k : WB p l e R s m args below meth c nL D cy B cells slots Q g d lv (pc + 3) (rv B (some (100000 + i)) :: rest)) : WB p l e R s m args below meth c nL D cy B cells slots Q g d lv pc rest := fun H locs ls hl hP hS => by
  obtain ⟨hx, hb, hml, hown, hts, hK, hSx, hN⟩ := C
  exact va_gets hx hb (hSx.1 i hi).1 hS hown (hts _ hlk) (fun _ h => h) hdg (k H locs ls hl hP hS)
theorem b_ldcfw (C : Cx p s m args c cc nL own D cy B) {index : Nat} {v : UInt32} (hc : Cond.constantFloat own index v ∈ wl) (hdg : decode cc pc = .ok (.ldc_w index, 3)) (k : WB p l e R s m args below meth c nL D cy B cells slots Q g d lv (pc + 3) (.float v :: rest)) : WB p l e R s m args below meth c nL D cy B cells slots Q g d lv pc rest := fun H locs ls hl hP hS => by
  obtain ⟨hx, hb, -, hown, hts, -⟩ := C
  intro T hT X
  obtain ⟨t, a1, b1⟩ := k H locs ls hl hP hS T hT X
  refine ⟨t, ?_, b1⟩
  obtain ⟨kf, cf, hk, hcf, hcp⟩ := Cond.constantFloat_spec hown (hts _ hc)
  obtain ⟨k', hk', he⟩ := X.warmed.alike.2.2 _ _ hk
  jvm_step X.here [hx, hb, hdg, ldc_w.wp_float (s := T) (f := F0 m pc ls rest) X.here.top hk' (by rw [he]; exact hcf) hcp]
  exact a1
theorem b_ldc2d (C : Cx p s m args c cc nL own D cy B) {index : Nat} {v : UInt64} (hc : Cond.constantDouble own index v ∈ wl) (hdg : decode cc pc = .ok (.ldc2_w index, 3)) (k : WB p l e R s m args below meth c nL D cy B cells slots Q g d lv (pc + 3) (.double v :: rest)) : WB p l e R s m args below meth c nL D cy B cells slots Q g d lv pc rest := fun H locs ls hl hP hS => lv_ldc2d C.1 C.2.1 C.2.2.2.1 (C.2.2.2.2.1 _ hc) hdg (k H locs ls hl hP hS)
theorem b_ldcf (C : Cx p s m args c cc nL own D cy B) {index : Nat} {v : UInt32} (hc : Cond.constantFloat own index v ∈ wl) (hdg : decode cc pc = .ok (.ldc index, 2)) (k : WB p l e R s m args below meth c nL D cy B cells slots Q g d lv (pc + 2) (.float v :: rest)) : WB p l e R s m args below meth c nL D cy B cells slots Q g d lv pc rest := fun H locs ls hl hP hS => lv_ldcf C.1 C.2.1 C.2.2.2.1 (C.2.2.2.2.1 _ hc) hdg (k H locs ls hl hP hS)
theorem b_ldc (C : Cx p s m args c cc nL own D cy B) {index : Nat} {v : Int32} (hc : Cond.constant own index v ∈ wl) (hdg : decode cc pc = .ok (.ldc index, 2)) (k : WB p l e R s m args below meth c nL D cy B cells slots Q g d lv (pc + 2) (.int v :: rest)) : WB p l e R s m args below meth c nL D cy B cells slots Q g d lv pc rest := fun H locs ls hl hP hS => lv_ldc C.1 C.2.1 C.2.2.2.1 (C.2.2.2.2.1 _ hc) hdg (k H locs ls hl hP hS)
theorem b_ldcw (C : Cx p s m args c cc nL own D cy B) {index : Nat} {v : Int32} (hc : Cond.constant own index v ∈ wl) (hdg : decode cc pc = .ok (.ldc_w index, 3)) (k : WB p l e R s m args below meth c nL D cy B cells slots Q g d lv (pc + 3) (.int v :: rest)) : WB p l e R s m args below meth c nL D cy B cells slots Q g d lv pc rest := fun H locs ls hl hP hS => lv_ldcw C.1 C.2.1 C.2.2.2.1 (C.2.2.2.2.1 _ hc) hdg (k H locs ls hl hP hS)
theorem b_ldc2 (C : Cx p s m args c cc nL own D cy B) {index : Nat} {v : Int64} (hc : Cond.constantLong own index v ∈ wl) (hdg : decode cc pc = .ok (.ldc2_w index, 3)) (k : WB p l e R s m args below meth c nL D cy B cells slots Q g d lv (pc + 3) (.long v :: rest)) : WB p l e R s m args below meth c nL D cy B cells slots Q g d lv pc rest := fun H locs ls hl hP hS => lv_ldc2 C.1 C.2.1 C.2.2.2.1 (C.2.2.2.2.1 _ hc) hdg (k H locs ls hl hP hS)
theorem b_mmax (C : Cx p s m args c cc nL own D cy B) {index : Nat} (h1 : Cond.methodLink own index Lib.Math.max.name ∈ wl) (h2 : Cond.static Lib.Math.max.name ∈ wl) (h3 : Cond.initialized "java/lang/Math" ∈ wl) (h4 : Cond.code Lib.Math.max.name Lib.Math.max.code 2 (some .int) ∈ wl) (hfr : 1 ≤ R.frames) (hlo : (rest.map fun v => v.category).sum + 13 ≤ R.locals) (hc : cells ≤ R.cells) (hs : slots ≤ R.slots) {x y : Int32} (hdg : decode cc pc = .ok (.invokestatic index, 3)) (k : WB p l e R s m args below meth c nL D cy B cells slots Q g d lv (pc + 3) (.int (if x < y then y else x) :: rest)) : WB p l e R s m args below meth c nL D cy B cells slots Q g d lv pc (.int y :: .int x :: rest) := fun H locs ls hl hP hS => by
  obtain ⟨hx, hb, hml, hown, hts, hK, hSx, hN⟩ := C
  exact va_mmax hx hb (hml.trans hl.1.symm) hown (hts _ h1) (hts _ h2) (hts _ h3) (hts _ h4) hfr hlo hc hs hdg (k H locs ls hl hP hS)
theorem b_copyI (C : Cx p s m args c cc nL own D cy B) {index a b : Nat} {sp dp n : Int32} {d1 : Ds} (h1 : Cond.methodLink own index arraycopyName ∈ wl) (h2 : Cond.native arraycopyName ∈ wl) (h3 : Cond.static arraycopyName ∈ wl) (h4 : Cond.initialized "java/lang/System" ∈ wl) (hqa : chk g a 102) (hqb : chk g b 102) (g1 : ¬ sp < 0) (g2 : ¬ dp < 0) (g3 : ¬ n < 0) (g4 : sp.toNatClampNeg + n.toNatClampNeg ≤ gL g a) (g5 : dp.toNatClampNeg + n.toNatClampNeg ≤ gL g b) (hd1 : d1 = cI d a b sp.toNatClampNeg dp.toNatClampNeg n.toNatClampNeg) (hfr : 1 ≤ R.frames) (hlo : (rest.map fun v => v.category).sum + (nativeFrameWords "java/lang/System" "arraycopy" 5 + 11) ≤ R.locals) (hdg : decode cc pc = .ok (.invokestatic index, 3)) (k : WB p l e R s m args below meth c nL D cy B cells slots Q g d1 lv (pc + 3) rest) : WB p l e R s m args below meth c nL D cy B cells slots Q g d lv pc (.int n :: .int dp :: .ref (ad B b) :: .int sp :: .ref (ad B a) :: rest) := fun H locs ls hl hP hS => by
  obtain ⟨hx, hb, hml, hown, hts, hK, hSx, hN⟩ := C
  subst hd1
  refine va_copyi (D := D) hx hb (hml.trans hl.1.symm) hown (hts _ h1) (hts _ h2) (hts _ h3) (hts _ h4) hK hP.2 (wls_D hP.1) hS a b 2 2 ((wls_at hqa.1).trans (by rw [cel_a (t := 2) hqa.2]; rfl)) ((wls_at hqb.1).trans (by rw [cel_a (t := 2) hqb.2]; rfl)) rfl rfl (by decide +kernel) g1 g2 g3 g4 g5 (fun i hi => rfl) hfr hlo hdg (fun H1 locs1 hP1 hD1 hS1 => k H1 locs1 ls hl (hP.set hqb.1 rfl (fun x _ hx => cI_o hx) ?_ hP1) hS1)
  rw [cel_a (t := 2) hqb.2]
  unfold ar
  rw [cI_row]
  rfl
theorem b_copyF (C : Cx p s m args c cc nL own D cy B) {index a b : Nat} {sp dp n : Int32} {d1 : Ds} (h1 : Cond.methodLink own index arraycopyName ∈ wl) (h2 : Cond.native arraycopyName ∈ wl) (h3 : Cond.static arraycopyName ∈ wl) (h4 : Cond.initialized "java/lang/System" ∈ wl) (hqa : chk g a 101) (hqb : chk g b 101) (g1 : ¬ sp < 0) (g2 : ¬ dp < 0) (g3 : ¬ n < 0) (g4 : sp.toNatClampNeg + n.toNatClampNeg ≤ gL g a) (g5 : dp.toNatClampNeg + n.toNatClampNeg ≤ gL g b) (hd1 : d1 = cF d a b sp.toNatClampNeg dp.toNatClampNeg n.toNatClampNeg) (hfr : 1 ≤ R.frames) (hlo : (rest.map fun v => v.category).sum + (nativeFrameWords "java/lang/System" "arraycopy" 5 + 11) ≤ R.locals) (hdg : decode cc pc = .ok (.invokestatic index, 3)) (k : WB p l e R s m args below meth c nL D cy B cells slots Q g d1 lv (pc + 3) rest) : WB p l e R s m args below meth c nL D cy B cells slots Q g d lv pc (.int n :: .int dp :: .ref (ad B b) :: .int sp :: .ref (ad B a) :: rest) := fun H locs ls hl hP hS => by
  obtain ⟨hx, hb, hml, hown, hts, hK, hSx, hN⟩ := C
  subst hd1
  refine va_copyf (D := D) hx hb (hml.trans hl.1.symm) hown (hts _ h1) (hts _ h2) (hts _ h3) (hts _ h4) hK hP.2 (wls_D hP.1) hS a b 1 1 ((wls_at hqa.1).trans (by rw [cel_a (t := 1) hqa.2]; rfl)) ((wls_at hqb.1).trans (by rw [cel_a (t := 1) hqb.2]; rfl)) rfl rfl (by decide +kernel) g1 g2 g3 g4 g5 (fun i hi => rfl) hfr hlo hdg (fun H1 locs1 hP1 hD1 hS1 => k H1 locs1 ls hl (hP.set hqb.1 rfl (fun x _ hx => cF_o hx) ?_ hP1) hS1)
  rw [cel_a (t := 1) hqb.2]
  unfold ar
  rw [cF_row]
  rfl
/-! the loop of the pure functions -/
def lp {α β : Type} (F : (α → Option β) → α → Option β) : Nat → α → Option β
  | 0 => fun _ => none
  | n + 1 => fun a => F (lp F n) a
theorem lp_s {α β : Type} {F : (α → Option β) → α → Option β} {n : Nat} {a : α} : lp F (n + 1) a = F (lp F n) a := rfl
theorem lp_z {α β : Type} {F : (α → Option β) → α → Option β} {a : α} : lp F 0 a = none := rfl
/-- a loop's walk: what holds of the head with whatever comes behind, holds of the loop -/
theorem lp_w {α β : Type} {F : (α → Option β) → α → Option β} {y : β} {G : α → Prop} (h : ∀ (K : α → Option β), (∀ a, K a = some y → G a) → ∀ a, F K a = some y → G a) : ∀ (n : Nat) (a : α), lp F n a = some y → G a := by
  intro n
  induction n with
  | zero => intro a ha; cases ha
  | succ n ih => exact h _ ih
/-- a loop comes to its end: an invariant, and a measure that falls -/
theorem lp_ok {α β : Type} {F : (α → Option β) → α → Option β} {P : Option β → Prop} (I : α → Prop) (μ : α → Nat) (h : ∀ (K : α → Option β) (a : α), I a → (∀ b, I b → μ b < μ a → P (K b)) → P (F K a)) : ∀ (n : Nat) (a : α), I a → μ a < n → P (lp F n a) := by
  intro n
  induction n with
  | zero => intro a _ ha; exact absurd ha (Nat.not_lt_zero _)
  | succ n ih => exact fun a ha hn => h _ a ha (fun b hb hm => ih b hb (by omega))
end BM
