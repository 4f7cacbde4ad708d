/-! the constructors: whatever they answer keeps this -/
def pc {α : Type} (x : Option (α × Ds)) (Q : α → Ds → Prop) : Prop := ∀ a d, x = some (a, d) → Q a d
section PCR
variable {α β γ : Type} {Q : α → Ds → Prop}
theorem pc_some {a : α} {d : Ds} (h : Q a d) : pc (some (a, d)) Q := by
  intro a' d' e
  cases e
  exact h
theorem pc_none : pc (none : Option (α × Ds)) Q := fun _ _ e => by cases e
theorem pc_gd {c : Prop} [Decidable c] {x : Option (α × Ds)} (h : c → pc x Q) : pc (gd c x) Q := by
  by_cases hc : c
  · rw [gd_t hc]
    exact h hc
  · intro a d e
    unfold gd at e
    rw [if_neg hc] at e
    cases e
theorem pc_bd {a : β} {f : β → Option (α × Ds)} (h : ∀ u, u = a → pc (f u) Q) : pc (bd a f) Q := h a rfl
theorem pc_ob {x : Option β} {f : β → Option (α × Ds)} (h : ∀ u, x = some u → pc (f u) Q) : pc (ob x f) Q := by
  cases e : x with
  | none =>
    intro a d q
    cases q
  | some u =>
    rw [ob_t]
    exact h u e
theorem pc_cb {x : Option (β × Ds)} {f : β → Ds → Option (α × Ds)} {P : β → Ds → Prop} (hx : pc x P) (h : ∀ u d, P u d → pc (f u d) Q) : pc (cb x f) Q := by
  cases e : x with
  | none =>
    intro a d q
    cases q
  | some w =>
    obtain ⟨u, d⟩ := w
    rw [cb_t]
    exact h u d (hx u d e)
theorem pc_cv {x : Option (Unit × Ds)} {f : Ds → Option (α × Ds)} {P : Unit → Ds → Prop} (hx : pc x P) (h : ∀ d, P () d → pc (f d) Q) : pc (cv x f) Q := by
  cases e : x with
  | none =>
    intro a d q
    cases q
  | some w =>
    obtain ⟨u, d⟩ := w
    rw [cv_t]
    exact h d (hx u d e)
theorem pc_if {c : Prop} [Decidable c] {x y : Option (α × Ds)} (h1 : c → pc x Q) (h2 : ¬ c → pc y Q) : pc (if c then x else y) Q := by
  by_cases hc : c
  · rw [if_pos hc]
    exact h1 hc
  · rw [if_neg hc]
    exact h2 hc
theorem pc_lp {F : (γ → Option (α × Ds)) → γ → Option (α × Ds)} (I : γ → Prop) (h : ∀ K a, I a → (∀ b, I b → pc (K b) Q) → pc (F K a) Q) : ∀ n a, I a → pc (lp F n a) Q := by
  intro n
  induction n with
  | zero =>
    intro a _ u d e
    cases e
  | succ n ih =>
    intro a hI
    rw [lp_s]
    exact h (lp F n) a hI ih
end PCR
def Zp (g : Gs) (d : Ds) : Prop := (∀ r j, nnF (dF d r j)) ∧ (∀ r j, dW d r j = none) ∧ ∀ r j, gN g ≤ r ∨ 24 ≤ j → dI d r j = 0
theorem Zp.sI {g : Gs} {d d1 : Ds} {r j k : Nat} {v : Int32} (h : Zp g d) (hc : chk g r k) (hj : j < 24) (e : d1 = sI d r j v) : Zp g d1 := by
  subst e
  refine ⟨h.1, h.2.1, fun r' j' hr => ?_⟩
  rw [sI_rd, if_neg (fun z => by have := hc.1; omega)]
  exact h.2.2 r' j' hr
theorem Zp.sF {g : Gs} {d d1 : Ds} {r j : Nat} {v : UInt32} (h : Zp g d) (hv : nnF v) (e : d1 = sF d r j v) : Zp g d1 := by
  subst e
  refine ⟨fun r' j' => ?_, h.2.1, h.2.2⟩
  rw [sF_rd]
  split
  · exact hv
  · exact h.1 r' j'
theorem Zp.sR {g g1 : Gs} {d : Ds} {r j v : Nat} (h : Zp g d) (e : g1 = sR g r j v) : Zp g1 d := by
  subst e
  exact h
theorem nd_rd {α : Type} {f : Nat → Nat → α} {g : Gs} {z : Nat → α} {r j : Nat} : va_up f g.1 z r j = if r = g.1 then z j else f r j := by
  unfold va_up
  split <;> rfl
theorem Zp.nw {g g1 : Gs} {d d1 : Ds} {k l s : Nat} (h : Zp g d) (e : g1 = nG g k l s) (e1 : d1 = nD g d) : Zp g1 d1 := by
  subst e
  subst e1
  refine ⟨fun r j => ?_, fun r j => ?_, fun r j hr => ?_⟩
  · show nnF (va_up d.2.1 g.1 (fun _ => 0) r j)
    rw [nd_rd]
    split
    · decide
    · exact h.1 r j
  · show va_up d.2.2.2 g.1 (fun _ => none) r j = none
    rw [nd_rd]
    split
    · rfl
    · exact h.2.1 r j
  · show va_up d.1 g.1 (fun _ => 0) r j = 0
    rw [nd_rd]
    split
    · rfl
    · refine h.2.2 r j ?_
      have : gN (nG g k l s) = gN g + 1 := rfl
      omega
theorem lt24 {y : Int32} (h : ¬ (24 : Int32) ≤ y) : y.toNatClampNeg < 24 := by
  have h1 := Int32.lt_iff_toInt_lt.mp (nle h)
  have e : (24 : Int32).toInt = 24 := by decide
  show y.toInt.toNat < 24
  omega
/-- the model's: before its row begins -/
def Zx (q : Ds) (m : Nat) (d : Ds) : Prop := (∀ r j, nnF (dF d r j)) ∧ (∀ r j, dW d r j = none) ∧ ∀ r j, ¬ (r = m ∧ j = 16) → dI d r j = dI q r j ∨ dI d r j = 0
theorem Zx.sI {q : Ds} {m : Nat} {d d1 : Ds} {v : Int32} (h : Zx q m d) (e : d1 = sI d m 16 v) : Zx q m d1 := by
  subst e
  refine ⟨h.1, h.2.1, fun r' j' hr => ?_⟩
  rw [sI_rd, if_neg hr]
  exact h.2.2 r' j' hr
theorem Zx.sL {q : Ds} {m : Nat} {d d1 : Ds} {r j : Nat} {v : Int64} (h : Zx q m d) (e : d1 = sL d r j v) : Zx q m d1 := by
  subst e
  exact h
theorem Zx.nw {q : Ds} {m : Nat} {g : Gs} {d d1 : Ds} (h : Zx q m d) (e1 : d1 = nD g d) : Zx q m d1 := by
  subst e1
  refine ⟨fun r j => ?_, fun r j => ?_, fun r j hr => ?_⟩
  · show nnF (va_up d.2.1 g.1 (fun _ => 0) r j)
    rw [nd_rd]
    split
    · decide
    · exact h.1 r j
  · show va_up d.2.2.2 g.1 (fun _ => none) r j = none
    rw [nd_rd]
    split
    · rfl
    · exact h.2.1 r j
  · show va_up d.1 g.1 (fun _ => 0) r j = dI q r j ∨ va_up d.1 g.1 (fun _ => 0) r j = 0
    rw [nd_rd]
    split
    · exact Or.inr rfl
    · exact h.2.2 r j hr
theorem z_fX8_init_E (N : Nat) (x0 : Nat) (n0 s0 : Nat) (g : Gs) (d : Ds) (hZ : Zp g d) : pc (fX8_init_E N x0 n0 s0 g d) (fun g1 d1 => Zp g1 d1) := by
  unfold fX8_init_E
  refine pc_gd (fun c_1 => ?_)
  refine pc_gd (fun c_2 => ?_)
  refine pc_gd (fun c_3 => ?_)
  refine pc_gd (fun c_4 => ?_)
  refine pc_bd (fun g5 e_5 => ?_)
  refine pc_bd (fun d6 e_6 => ?_)
  have z_7 := Zp.nw hZ e_5 e_6
  refine pc_bd (fun r7 e_8 => ?_)
  refine pc_gd (fun c_9 => ?_)
  refine pc_bd (fun g10 e_10 => ?_)
  have z_11 := Zp.sR z_7 e_10
  refine pc_gd (fun c_12 => ?_)
  refine pc_gd (fun c_13 => ?_)
  refine pc_bd (fun g14 e_14 => ?_)
  refine pc_bd (fun d15 e_15 => ?_)
  have z_16 := Zp.nw z_11 e_14 e_15
  refine pc_bd (fun r16 e_17 => ?_)
  refine pc_gd (fun c_18 => ?_)
  refine pc_bd (fun g19 e_19 => ?_)
  have z_20 := Zp.sR z_16 e_19
  refine pc_gd (fun c_21 => ?_)
  refine pc_gd (fun c_22 => ?_)
  refine pc_bd (fun g23 e_23 => ?_)
  refine pc_bd (fun d24 e_24 => ?_)
  have z_25 := Zp.nw z_20 e_23 e_24
  refine pc_bd (fun r25 e_26 => ?_)
  refine pc_gd (fun c_27 => ?_)
  refine pc_bd (fun g28 e_28 => ?_)
  have z_29 := Zp.sR z_25 e_28
  refine pc_gd (fun c_30 => ?_)
  refine pc_gd (fun c_31 => ?_)
  refine pc_bd (fun g32 e_32 => ?_)
  refine pc_bd (fun d33 e_33 => ?_)
  have z_34 := Zp.nw z_29 e_32 e_33
  refine pc_bd (fun r34 e_35 => ?_)
  refine pc_gd (fun c_36 => ?_)
  refine pc_bd (fun g37 e_37 => ?_)
  have z_38 := Zp.sR z_34 e_37
  refine pc_gd (fun c_39 => ?_)
  exact pc_some z_38
theorem z_fX8_init (N : Nat) (x0 : Nat) (g : Gs) (d : Ds) (hZ : Zp g d) : pc (fX8_init N x0 g d) (fun g1 d1 => Zp g1 d1) := by
  unfold fX8_init
  exact z_fX8_init_E N x0 (gN g) (gS g) g d hZ
theorem z_fX2_init_E (N : Nat) (x0 : Nat) (n0 s0 : Nat) (g : Gs) (d : Ds) (hZ : Zp g d) : pc (fX2_init_E N x0 n0 s0 g d) (fun g1 d1 => Zp g1 d1) := by
  unfold fX2_init_E
  refine pc_gd (fun c_1 => ?_)
  refine pc_bd (fun d2 e_2 => ?_)
  have z_3 := Zp.sI hZ c_1 (by decide) e_2
  refine pc_bd (fun d3 e_4 => ?_)
  have z_5 := Zp.sI z_3 c_1 (by decide) e_4
  refine pc_bd (fun d4 e_6 => ?_)
  have z_7 := Zp.sI z_5 c_1 (by decide) e_6
  refine pc_gd (fun c_8 => ?_)
  exact pc_some z_7
theorem z_fX2_init (N : Nat) (x0 : Nat) (g : Gs) (d : Ds) (hZ : Zp g d) : pc (fX2_init N x0 g d) (fun g1 d1 => Zp g1 d1) := by
  unfold fX2_init
  exact z_fX2_init_E N x0 (gN g) (gS g) g d hZ
theorem z_fX2_tell (N : Nat) (g : Gs) (x0 : Nat) (x1 : Int32) (x2 : Int32) (x3 : Int32) (d : Ds) (hZ : Zp g d) : pc (fX2_tell N g x0 x1 x2 x3 d) (fun _ d1 => Zp g d1) := by
  unfold fX2_tell
  refine pc_gd (fun c_1 => ?_)
  refine pc_bd (fun d2 e_2 => ?_)
  have z_3 := Zp.sI hZ c_1 (by decide) e_2
  refine pc_bd (fun d3 e_4 => ?_)
  have z_5 := Zp.sI z_3 c_1 (by decide) e_4
  refine pc_bd (fun d4 e_6 => ?_)
  have z_7 := Zp.sI z_5 c_1 (by decide) e_6
  exact pc_some z_7
theorem z_fX0_clear_J81 (N : Nat) (g : Gs) (x0 : Nat) (K55 : Int32 × Ds → Option (Unit × Ds)) (y1 : Int32) (z0 : Int32) (z1 : Nat) (d : Ds) (hZ : Zp g d) (hK : ∀ (a0 : Int32) (a1 : Ds), Zp g a1 → pc (K55 (a0, a1)) (fun _ d1 => Zp g d1)) : pc (fX0_clear_J81 N g x0 K55 y1 z0 z1 d) (fun _ d1 => Zp g d1) := by
  unfold fX0_clear_J81
  refine pc_gd (fun c_1 => ?_)
  refine pc_cv (z_fX2_tell N g z1 z0 (-1) (-1) d hZ) (fun d22 z_2 => ?_)
  refine pc_bd (fun u24 e_3 => ?_)
  exact hK u24 d22 z_2
theorem z_fX0_clear_B55 (N : Nat) (g : Gs) (x0 : Nat) (K55 : Int32 × Ds → Option (Unit × Ds)) (y1 : Int32) (d : Ds) (hZ : Zp g d) (hK : ∀ (a0 : Int32) (a1 : Ds), Zp g a1 → pc (K55 (a0, a1)) (fun _ d1 => Zp g d1)) : pc (fX0_clear_B55 N g x0 K55 y1 d) (fun _ d1 => Zp g d1) := by
  unfold fX0_clear_B55
  refine pc_gd (fun c_1 => ?_)
  refine pc_ob (fun r13 e_2 => ?_)
  refine pc_gd (fun c_3 => ?_)
  refine pc_if (fun c_4 => ?_) (fun c_5 => ?_)
  · refine pc_bd (fun d16 e_6 => ?_)
    have z_7 := Zp.sI hZ c_1 (by decide) e_6
    refine pc_bd (fun d17 e_8 => ?_)
    have z_9 := Zp.sI z_7 c_1 (by decide) e_8
    exact pc_some z_9
  · refine pc_gd (fun c_10 => ?_)
    refine pc_ob (fun r19 e_11 => ?_)
    refine pc_if (fun c_12 => ?_) (fun c_13 => ?_)
    · exact z_fX0_clear_J81 N g x0 K55 y1 5 r19 d hZ hK
    · exact z_fX0_clear_J81 N g x0 K55 y1 4 r19 d hZ hK
theorem z_fX0_clear_L55 (N : Nat) (g : Gs) (x0 : Nat) (a0 : Int32) (a1 : Ds) (hZ : Zp g a1) : pc (fX0_clear_L55 N g x0 (a0, a1)) (fun _ d1 => Zp g d1) := by
  unfold fX0_clear_L55
  refine pc_lp (fun a => Zp g a.2) ?_ N (a0, a1) hZ
  rintro K ⟨a0, a1⟩ hZ hK
  exact z_fX0_clear_B55 N g x0 K a0 a1 hZ (fun a0 a1 h => hK (a0, a1) h)
theorem z_fX0_clear (N : Nat) (g : Gs) (x0 : Nat) (d : Ds) (hZ : Zp g d) : pc (fX0_clear N g x0 d) (fun _ d1 => Zp g d1) := by
  unfold fX0_clear
  refine pc_gd (fun c_1 => ?_)
  refine pc_bd (fun d2 e_2 => ?_)
  have z_3 := Zp.sI hZ c_1 (by decide) e_2
  refine pc_bd (fun d3 e_4 => ?_)
  have z_5 := Zp.sI z_3 c_1 (by decide) e_4
  refine pc_bd (fun d4 e_6 => ?_)
  have z_7 := Zp.sI z_5 c_1 (by decide) e_6
  refine pc_bd (fun d5 e_8 => ?_)
  have z_9 := Zp.sI z_7 c_1 (by decide) e_8
  refine pc_bd (fun d6 e_10 => ?_)
  have z_11 := Zp.sI z_9 c_1 (by decide) e_10
  refine pc_bd (fun d7 e_12 => ?_)
  have z_13 := Zp.sI z_11 c_1 (by decide) e_12
  refine pc_bd (fun d8 e_14 => ?_)
  have z_15 := Zp.sI z_13 c_1 (by decide) e_14
  refine pc_bd (fun d9 e_16 => ?_)
  have z_17 := Zp.sI z_15 c_1 (by decide) e_16
  refine pc_bd (fun d10 e_18 => ?_)
  have z_19 := Zp.sI z_17 c_1 (by decide) e_18
  refine pc_bd (fun d11 e_20 => ?_)
  have z_21 := Zp.sI z_19 c_1 (by decide) e_20
  exact z_fX0_clear_L55 N g x0 0 d11 z_21
theorem z_fX0_init_B93 (N : Nat)  (x0 : Nat) (n0 s0 : Nat) (K93 : Int32 × Gs × Ds → Option (Gs × Ds)) (y1 : Int32) (g : Gs) (d : Ds) (hZ : Zp g d) (hK : ∀ (a0 : Int32) (a1 : Gs) (a2 : Ds), Zp a1 a2 → pc (K93 (a0, a1, a2)) (fun g1 d1 => Zp g1 d1)) : pc (fX0_init_B93 N x0 n0 s0 K93 y1 g d) (fun g1 d1 => Zp g1 d1) := by
  unfold fX0_init_B93
  refine pc_if (fun c_1 => ?_) (fun c_2 => ?_)
  · refine pc_gd (fun c_3 => ?_)
    refine pc_gd (fun c_4 => ?_)
    refine pc_cv (z_fX0_clear N g x0 d hZ) (fun d84 z_5 => ?_)
    refine pc_gd (fun c_6 => ?_)
    exact pc_some z_5
  · refine pc_gd (fun c_7 => ?_)
    refine pc_ob (fun r88 e_8 => ?_)
    refine pc_gd (fun c_9 => ?_)
    refine pc_gd (fun c_10 => ?_)
    refine pc_bd (fun g91 e_11 => ?_)
    refine pc_bd (fun d92 e_12 => ?_)
    have z_13 := Zp.nw hZ e_11 e_12
    refine pc_bd (fun r93 e_14 => ?_)
    refine pc_gd (fun c_15 => ?_)
    refine pc_cb (z_fX2_init N r93 g91 d92 z_13) (fun g96 d97 z_16 => ?_)
    refine pc_gd (fun c_17 => ?_)
    refine pc_gd (fun c_18 => ?_)
    refine pc_gd (fun c_19 => ?_)
    refine pc_gd (fun c_20 => ?_)
    refine pc_gd (fun c_21 => ?_)
    refine pc_bd (fun g105 e_22 => ?_)
    have z_23 := Zp.sR z_16 e_22
    refine pc_bd (fun u107 e_24 => ?_)
    exact hK u107 g105 d97 z_23
theorem z_fX0_init_L93 (N : Nat)  (x0 : Nat) (n0 s0 : Nat) (a0 : Int32) (a1 : Gs) (a2 : Ds) (hZ : Zp a1 a2) : pc (fX0_init_L93 N x0 n0 s0 (a0, a1, a2)) (fun g1 d1 => Zp g1 d1) := by
  unfold fX0_init_L93
  refine pc_lp (fun a => Zp a.2.1 a.2.2) ?_ N (a0, a1, a2) hZ
  rintro K ⟨a0, a1, a2⟩ hZ hK
  exact z_fX0_init_B93 N x0 n0 s0 K a0 a1 a2 hZ (fun a0 a1 a2 h => hK (a0, a1, a2) h)
theorem z_fX0_init_B63 (N : Nat)  (x0 : Nat) (n0 s0 : Nat) (K63 : Int32 × Gs × Ds → Option (Gs × Ds)) (y1 : Int32) (g : Gs) (d : Ds) (hZ : Zp g d) (hK : ∀ (a0 : Int32) (a1 : Gs) (a2 : Ds), Zp a1 a2 → pc (K63 (a0, a1, a2)) (fun g1 d1 => Zp g1 d1)) : pc (fX0_init_B63 N x0 n0 s0 K63 y1 g d) (fun g1 d1 => Zp g1 d1) := by
  unfold fX0_init_B63
  refine pc_gd (fun c_1 => ?_)
  refine pc_ob (fun r78 e_2 => ?_)
  refine pc_gd (fun c_3 => ?_)
  refine pc_if (fun c_4 => ?_) (fun c_5 => ?_)
  · exact z_fX0_init_L93 N x0 n0 s0 0 g d hZ
  · refine pc_gd (fun c_6 => ?_)
    refine pc_gd (fun c_7 => ?_)
    refine pc_bd (fun g110 e_8 => ?_)
    refine pc_bd (fun d111 e_9 => ?_)
    have z_10 := Zp.nw hZ e_8 e_9
    refine pc_bd (fun r112 e_11 => ?_)
    refine pc_gd (fun c_12 => ?_)
    refine pc_cb (z_fX2_init N r112 g110 d111 z_10) (fun g115 d116 z_13 => ?_)
    refine pc_gd (fun c_14 => ?_)
    refine pc_gd (fun c_15 => ?_)
    refine pc_gd (fun c_16 => ?_)
    refine pc_gd (fun c_17 => ?_)
    refine pc_gd (fun c_18 => ?_)
    refine pc_bd (fun g124 e_19 => ?_)
    have z_20 := Zp.sR z_13 e_19
    refine pc_bd (fun u126 e_21 => ?_)
    exact hK u126 g124 d116 z_20
theorem z_fX0_init_L63 (N : Nat)  (x0 : Nat) (n0 s0 : Nat) (a0 : Int32) (a1 : Gs) (a2 : Ds) (hZ : Zp a1 a2) : pc (fX0_init_L63 N x0 n0 s0 (a0, a1, a2)) (fun g1 d1 => Zp g1 d1) := by
  unfold fX0_init_L63
  refine pc_lp (fun a => Zp a.2.1 a.2.2) ?_ N (a0, a1, a2) hZ
  rintro K ⟨a0, a1, a2⟩ hZ hK
  exact z_fX0_init_B63 N x0 n0 s0 K a0 a1 a2 hZ (fun a0 a1 a2 h => hK (a0, a1, a2) h)
theorem z_fX0_init_E (N : Nat) (x0 : Nat) (n0 s0 : Nat) (g : Gs) (d : Ds) (hZ : Zp g d) : pc (fX0_init_E N x0 n0 s0 g d) (fun g1 d1 => Zp g1 d1) := by
  unfold fX0_init_E
  refine pc_gd (fun c_1 => ?_)
  refine pc_gd (fun c_2 => ?_)
  refine pc_gd (fun c_3 => ?_)
  refine pc_gd (fun c_4 => ?_)
  refine pc_bd (fun g5 e_5 => ?_)
  refine pc_bd (fun d6 e_6 => ?_)
  have z_7 := Zp.nw hZ e_5 e_6
  refine pc_bd (fun r7 e_8 => ?_)
  refine pc_gd (fun c_9 => ?_)
  refine pc_bd (fun g10 e_10 => ?_)
  have z_11 := Zp.sR z_7 e_10
  refine pc_gd (fun c_12 => ?_)
  refine pc_gd (fun c_13 => ?_)
  refine pc_bd (fun g14 e_14 => ?_)
  refine pc_bd (fun d15 e_15 => ?_)
  have z_16 := Zp.nw z_11 e_14 e_15
  refine pc_bd (fun r16 e_17 => ?_)
  refine pc_gd (fun c_18 => ?_)
  refine pc_cb (z_fX2_init N r16 g14 d15 z_16) (fun g19 d20 z_19 => ?_)
  refine pc_gd (fun c_20 => ?_)
  refine pc_gd (fun c_21 => ?_)
  refine pc_gd (fun c_22 => ?_)
  refine pc_bd (fun g26 e_23 => ?_)
  have z_24 := Zp.sR z_19 e_23
  refine pc_gd (fun c_25 => ?_)
  refine pc_gd (fun c_26 => ?_)
  refine pc_gd (fun c_27 => ?_)
  refine pc_gd (fun c_28 => ?_)
  refine pc_bd (fun g32 e_29 => ?_)
  refine pc_bd (fun d33 e_30 => ?_)
  have z_31 := Zp.nw z_24 e_29 e_30
  refine pc_bd (fun r34 e_32 => ?_)
  refine pc_gd (fun c_33 => ?_)
  refine pc_bd (fun g37 e_34 => ?_)
  have z_35 := Zp.sR z_31 e_34
  refine pc_gd (fun c_36 => ?_)
  refine pc_gd (fun c_37 => ?_)
  refine pc_bd (fun g41 e_38 => ?_)
  refine pc_bd (fun d42 e_39 => ?_)
  have z_40 := Zp.nw z_35 e_38 e_39
  refine pc_bd (fun r43 e_41 => ?_)
  refine pc_gd (fun c_42 => ?_)
  refine pc_bd (fun g46 e_43 => ?_)
  have z_44 := Zp.sR z_40 e_43
  refine pc_gd (fun c_45 => ?_)
  refine pc_gd (fun c_46 => ?_)
  refine pc_bd (fun g50 e_47 => ?_)
  refine pc_bd (fun d51 e_48 => ?_)
  have z_49 := Zp.nw z_44 e_47 e_48
  refine pc_bd (fun r52 e_50 => ?_)
  refine pc_gd (fun c_51 => ?_)
  refine pc_bd (fun g55 e_52 => ?_)
  have z_53 := Zp.sR z_49 e_52
  refine pc_gd (fun c_54 => ?_)
  refine pc_gd (fun c_55 => ?_)
  refine pc_bd (fun g59 e_56 => ?_)
  refine pc_bd (fun d60 e_57 => ?_)
  have z_58 := Zp.nw z_53 e_56 e_57
  refine pc_bd (fun r61 e_59 => ?_)
  refine pc_gd (fun c_60 => ?_)
  refine pc_bd (fun g64 e_61 => ?_)
  have z_62 := Zp.sR z_58 e_61
  refine pc_gd (fun c_63 => ?_)
  refine pc_gd (fun c_64 => ?_)
  refine pc_gd (fun c_65 => ?_)
  refine pc_gd (fun c_66 => ?_)
  refine pc_bd (fun g70 e_67 => ?_)
  refine pc_bd (fun d71 e_68 => ?_)
  have z_69 := Zp.nw z_62 e_67 e_68
  refine pc_bd (fun r72 e_70 => ?_)
  refine pc_gd (fun c_71 => ?_)
  refine pc_bd (fun g75 e_72 => ?_)
  have z_73 := Zp.sR z_69 e_72
  exact z_fX0_init_L63 N x0 n0 s0 0 g75 d71 z_73
theorem z_fX0_init (N : Nat) (x0 : Nat) (g : Gs) (d : Ds) (hZ : Zp g d) : pc (fX0_init N x0 g d) (fun g1 d1 => Zp g1 d1) := by
  unfold fX0_init
  exact z_fX0_init_E N x0 (gN g) (gS g) g d hZ
theorem z_fX7_init_E (N : Nat) (x0 : Nat) (n0 s0 : Nat) (g : Gs) (d : Ds) (hZ : Zp g d) : pc (fX7_init_E N x0 n0 s0 g d) (fun g1 d1 => Zp g1 d1) := by
  unfold fX7_init_E
  refine pc_gd (fun c_1 => ?_)
  refine pc_gd (fun c_2 => ?_)
  refine pc_bd (fun g3 e_3 => ?_)
  refine pc_bd (fun d4 e_4 => ?_)
  have z_5 := Zp.nw hZ e_3 e_4
  refine pc_bd (fun r5 e_6 => ?_)
  refine pc_gd (fun c_7 => ?_)
  refine pc_cb (z_fX8_init N r5 g3 d4 z_5) (fun g8 d9 z_8 => ?_)
  refine pc_gd (fun c_9 => ?_)
  refine pc_gd (fun c_10 => ?_)
  refine pc_gd (fun c_11 => ?_)
  refine pc_bd (fun g15 e_12 => ?_)
  have z_13 := Zp.sR z_8 e_12
  refine pc_gd (fun c_14 => ?_)
  refine pc_gd (fun c_15 => ?_)
  refine pc_bd (fun g19 e_16 => ?_)
  refine pc_bd (fun d20 e_17 => ?_)
  have z_18 := Zp.nw z_13 e_16 e_17
  refine pc_bd (fun r21 e_19 => ?_)
  refine pc_gd (fun c_20 => ?_)
  refine pc_cb (z_fX2_init N r21 g19 d20 z_18) (fun g24 d25 z_21 => ?_)
  refine pc_gd (fun c_22 => ?_)
  refine pc_gd (fun c_23 => ?_)
  refine pc_gd (fun c_24 => ?_)
  refine pc_bd (fun g31 e_25 => ?_)
  have z_26 := Zp.sR z_21 e_25
  refine pc_gd (fun c_27 => ?_)
  refine pc_gd (fun c_28 => ?_)
  refine pc_bd (fun g35 e_29 => ?_)
  refine pc_bd (fun d36 e_30 => ?_)
  have z_31 := Zp.nw z_26 e_29 e_30
  refine pc_bd (fun r37 e_32 => ?_)
  refine pc_gd (fun c_33 => ?_)
  refine pc_cb (z_fX0_init N r37 g35 d36 z_31) (fun g40 d41 z_34 => ?_)
  refine pc_gd (fun c_35 => ?_)
  refine pc_gd (fun c_36 => ?_)
  refine pc_gd (fun c_37 => ?_)
  refine pc_bd (fun g47 e_38 => ?_)
  have z_39 := Zp.sR z_34 e_38
  refine pc_gd (fun c_40 => ?_)
  exact pc_some z_39
theorem z_fX7_init (N : Nat) (x0 : Nat) (g : Gs) (d : Ds) (hZ : Zp g d) : pc (fX7_init N x0 g d) (fun g1 d1 => Zp g1 d1) := by
  unfold fX7_init
  exact z_fX7_init_E N x0 (gN g) (gS g) g d hZ
theorem z_fX9_init_E (N : Nat) (x0 : Nat) (n0 s0 : Nat) (g : Gs) (d : Ds) (hZ : Zp g d) : pc (fX9_init_E N x0 n0 s0 g d) (fun g1 d1 => Zp g1 d1) := by
  unfold fX9_init_E
  refine pc_gd (fun c_1 => ?_)
  refine pc_gd (fun c_2 => ?_)
  refine pc_gd (fun c_3 => ?_)
  refine pc_gd (fun c_4 => ?_)
  refine pc_bd (fun g5 e_5 => ?_)
  refine pc_bd (fun d6 e_6 => ?_)
  have z_7 := Zp.nw hZ e_5 e_6
  refine pc_bd (fun r7 e_8 => ?_)
  refine pc_gd (fun c_9 => ?_)
  refine pc_bd (fun g10 e_10 => ?_)
  have z_11 := Zp.sR z_7 e_10
  refine pc_gd (fun c_12 => ?_)
  exact pc_some z_11
theorem z_fX9_init (N : Nat) (x0 : Nat) (g : Gs) (d : Ds) (hZ : Zp g d) : pc (fX9_init N x0 g d) (fun g1 d1 => Zp g1 d1) := by
  unfold fX9_init
  exact z_fX9_init_E N x0 (gN g) (gS g) g d hZ
theorem z_fX6_init_E (N : Nat) (x0 : Nat) (n0 s0 : Nat) (g : Gs) (d : Ds) (hZ : Zp g d) : pc (fX6_init_E N x0 n0 s0 g d) (fun g1 d1 => Zp g1 d1) := by
  unfold fX6_init_E
  refine pc_gd (fun c_1 => ?_)
  refine pc_gd (fun c_2 => ?_)
  refine pc_gd (fun c_3 => ?_)
  refine pc_gd (fun c_4 => ?_)
  refine pc_bd (fun g5 e_5 => ?_)
  refine pc_bd (fun d6 e_6 => ?_)
  have z_7 := Zp.nw hZ e_5 e_6
  refine pc_bd (fun r7 e_8 => ?_)
  refine pc_gd (fun c_9 => ?_)
  refine pc_bd (fun g10 e_10 => ?_)
  have z_11 := Zp.sR z_7 e_10
  refine pc_gd (fun c_12 => ?_)
  refine pc_gd (fun c_13 => ?_)
  refine pc_bd (fun g14 e_14 => ?_)
  refine pc_bd (fun d15 e_15 => ?_)
  have z_16 := Zp.nw z_11 e_14 e_15
  refine pc_bd (fun r16 e_17 => ?_)
  refine pc_gd (fun c_18 => ?_)
  refine pc_bd (fun g19 e_19 => ?_)
  have z_20 := Zp.sR z_16 e_19
  refine pc_gd (fun c_21 => ?_)
  refine pc_gd (fun c_22 => ?_)
  refine pc_bd (fun g23 e_23 => ?_)
  refine pc_bd (fun d24 e_24 => ?_)
  have z_25 := Zp.nw z_20 e_23 e_24
  refine pc_bd (fun r25 e_26 => ?_)
  refine pc_gd (fun c_27 => ?_)
  refine pc_bd (fun g28 e_28 => ?_)
  have z_29 := Zp.sR z_25 e_28
  refine pc_gd (fun c_30 => ?_)
  refine pc_gd (fun c_31 => ?_)
  refine pc_bd (fun g32 e_32 => ?_)
  refine pc_bd (fun d33 e_33 => ?_)
  have z_34 := Zp.nw z_29 e_32 e_33
  refine pc_bd (fun r34 e_35 => ?_)
  refine pc_gd (fun c_36 => ?_)
  refine pc_bd (fun g37 e_37 => ?_)
  have z_38 := Zp.sR z_34 e_37
  refine pc_gd (fun c_39 => ?_)
  refine pc_gd (fun c_40 => ?_)
  refine pc_bd (fun g41 e_41 => ?_)
  refine pc_bd (fun d42 e_42 => ?_)
  have z_43 := Zp.nw z_38 e_41 e_42
  refine pc_bd (fun r43 e_44 => ?_)
  refine pc_gd (fun c_45 => ?_)
  refine pc_bd (fun g46 e_46 => ?_)
  have z_47 := Zp.sR z_43 e_46
  refine pc_gd (fun c_48 => ?_)
  exact pc_some z_47
theorem z_fX6_init (N : Nat) (x0 : Nat) (g : Gs) (d : Ds) (hZ : Zp g d) : pc (fX6_init N x0 g d) (fun g1 d1 => Zp g1 d1) := by
  unfold fX6_init
  exact z_fX6_init_E N x0 (gN g) (gS g) g d hZ
theorem z_fX4_init_E (N : Nat) (x0 : Nat) (n0 s0 : Nat) (g : Gs) (d : Ds) (hZ : Zp g d) : pc (fX4_init_E N x0 n0 s0 g d) (fun g1 d1 => Zp g1 d1) := by
  unfold fX4_init_E
  refine pc_gd (fun c_1 => ?_)
  refine pc_gd (fun c_2 => ?_)
  refine pc_gd (fun c_3 => ?_)
  refine pc_gd (fun c_4 => ?_)
  refine pc_bd (fun g5 e_5 => ?_)
  refine pc_bd (fun d6 e_6 => ?_)
  have z_7 := Zp.nw hZ e_5 e_6
  refine pc_bd (fun r7 e_8 => ?_)
  refine pc_gd (fun c_9 => ?_)
  refine pc_bd (fun g10 e_10 => ?_)
  have z_11 := Zp.sR z_7 e_10
  refine pc_gd (fun c_12 => ?_)
  exact pc_some z_11
theorem z_fX4_init (N : Nat) (x0 : Nat) (g : Gs) (d : Ds) (hZ : Zp g d) : pc (fX4_init N x0 g d) (fun g1 d1 => Zp g1 d1) := by
  unfold fX4_init
  exact z_fX4_init_E N x0 (gN g) (gS g) g d hZ
theorem z_fX3_init_E (N : Nat) (x0 : Nat) (n0 s0 : Nat) (g : Gs) (d : Ds) (hZ : Zp g d) : pc (fX3_init_E N x0 n0 s0 g d) (fun g1 d1 => Zp g1 d1) := by
  unfold fX3_init_E
  refine pc_gd (fun c_1 => ?_)
  refine pc_gd (fun c_2 => ?_)
  refine pc_gd (fun c_3 => ?_)
  refine pc_gd (fun c_4 => ?_)
  refine pc_bd (fun g5 e_5 => ?_)
  refine pc_bd (fun d6 e_6 => ?_)
  have z_7 := Zp.nw hZ e_5 e_6
  refine pc_bd (fun r7 e_8 => ?_)
  refine pc_gd (fun c_9 => ?_)
  refine pc_bd (fun g10 e_10 => ?_)
  have z_11 := Zp.sR z_7 e_10
  refine pc_gd (fun c_12 => ?_)
  refine pc_gd (fun c_13 => ?_)
  refine pc_bd (fun g14 e_14 => ?_)
  refine pc_bd (fun d15 e_15 => ?_)
  have z_16 := Zp.nw z_11 e_14 e_15
  refine pc_bd (fun r16 e_17 => ?_)
  refine pc_gd (fun c_18 => ?_)
  refine pc_bd (fun g19 e_19 => ?_)
  have z_20 := Zp.sR z_16 e_19
  refine pc_gd (fun c_21 => ?_)
  refine pc_gd (fun c_22 => ?_)
  refine pc_bd (fun g23 e_23 => ?_)
  refine pc_bd (fun d24 e_24 => ?_)
  have z_25 := Zp.nw z_20 e_23 e_24
  refine pc_bd (fun r25 e_26 => ?_)
  refine pc_gd (fun c_27 => ?_)
  refine pc_bd (fun g28 e_28 => ?_)
  have z_29 := Zp.sR z_25 e_28
  refine pc_gd (fun c_30 => ?_)
  refine pc_gd (fun c_31 => ?_)
  refine pc_bd (fun g32 e_32 => ?_)
  refine pc_bd (fun d33 e_33 => ?_)
  have z_34 := Zp.nw z_29 e_32 e_33
  refine pc_bd (fun r34 e_35 => ?_)
  refine pc_gd (fun c_36 => ?_)
  refine pc_bd (fun g37 e_37 => ?_)
  have z_38 := Zp.sR z_34 e_37
  refine pc_gd (fun c_39 => ?_)
  refine pc_gd (fun c_40 => ?_)
  refine pc_gd (fun c_41 => ?_)
  refine pc_gd (fun c_42 => ?_)
  refine pc_bd (fun g43 e_43 => ?_)
  refine pc_bd (fun d44 e_44 => ?_)
  have z_45 := Zp.nw z_38 e_43 e_44
  refine pc_bd (fun r45 e_46 => ?_)
  refine pc_gd (fun c_47 => ?_)
  refine pc_bd (fun g48 e_48 => ?_)
  have z_49 := Zp.sR z_45 e_48
  refine pc_gd (fun c_50 => ?_)
  exact pc_some z_49
theorem z_fX3_init (N : Nat) (x0 : Nat) (g : Gs) (d : Ds) (hZ : Zp g d) : pc (fX3_init N x0 g d) (fun g1 d1 => Zp g1 d1) := by
  unfold fX3_init
  exact z_fX3_init_E N x0 (gN g) (gS g) g d hZ
theorem z_fX5_init_E (N : Nat) (x0 : Nat) (n0 s0 : Nat) (g : Gs) (d : Ds) (hZ : Zp g d) : pc (fX5_init_E N x0 n0 s0 g d) (fun g1 d1 => Zp g1 d1) := by
  unfold fX5_init_E
  refine pc_gd (fun c_1 => ?_)
  refine pc_gd (fun c_2 => ?_)
  refine pc_gd (fun c_3 => ?_)
  refine pc_gd (fun c_4 => ?_)
  refine pc_bd (fun g5 e_5 => ?_)
  refine pc_bd (fun d6 e_6 => ?_)
  have z_7 := Zp.nw hZ e_5 e_6
  refine pc_bd (fun r7 e_8 => ?_)
  refine pc_gd (fun c_9 => ?_)
  refine pc_bd (fun g10 e_10 => ?_)
  have z_11 := Zp.sR z_7 e_10
  refine pc_gd (fun c_12 => ?_)
  refine pc_gd (fun c_13 => ?_)
  refine pc_bd (fun g14 e_14 => ?_)
  refine pc_bd (fun d15 e_15 => ?_)
  have z_16 := Zp.nw z_11 e_14 e_15
  refine pc_bd (fun r16 e_17 => ?_)
  refine pc_gd (fun c_18 => ?_)
  refine pc_bd (fun g19 e_19 => ?_)
  have z_20 := Zp.sR z_16 e_19
  refine pc_gd (fun c_21 => ?_)
  refine pc_gd (fun c_22 => ?_)
  refine pc_bd (fun g23 e_23 => ?_)
  refine pc_bd (fun d24 e_24 => ?_)
  have z_25 := Zp.nw z_20 e_23 e_24
  refine pc_bd (fun r25 e_26 => ?_)
  refine pc_gd (fun c_27 => ?_)
  refine pc_bd (fun g28 e_28 => ?_)
  have z_29 := Zp.sR z_25 e_28
  refine pc_gd (fun c_30 => ?_)
  refine pc_gd (fun c_31 => ?_)
  refine pc_gd (fun c_32 => ?_)
  refine pc_gd (fun c_33 => ?_)
  refine pc_bd (fun g34 e_34 => ?_)
  refine pc_bd (fun d35 e_35 => ?_)
  have z_36 := Zp.nw z_29 e_34 e_35
  refine pc_bd (fun r36 e_37 => ?_)
  refine pc_gd (fun c_38 => ?_)
  refine pc_bd (fun g39 e_39 => ?_)
  have z_40 := Zp.sR z_36 e_39
  refine pc_gd (fun c_41 => ?_)
  exact pc_some z_40
theorem z_fX5_init (N : Nat) (x0 : Nat) (g : Gs) (d : Ds) (hZ : Zp g d) : pc (fX5_init N x0 g d) (fun g1 d1 => Zp g1 d1) := by
  unfold fX5_init
  exact z_fX5_init_E N x0 (gN g) (gS g) g d hZ
theorem z_fX6_clear_B22 (N : Nat) (g : Gs) (x0 : Nat) (K22 : Int32 × Ds → Option (Unit × Ds)) (y1 : Int32) (d : Ds) (hZ : Zp g d) (hK : ∀ (a0 : Int32) (a1 : Ds), Zp g a1 → pc (K22 (a0, a1)) (fun _ d1 => Zp g d1)) : pc (fX6_clear_B22 N g x0 K22 y1 d) (fun _ d1 => Zp g d1) := by
  unfold fX6_clear_B22
  refine pc_if (fun c_1 => ?_) (fun c_2 => ?_)
  · exact pc_some hZ
  · refine pc_gd (fun c_3 => ?_)
    refine pc_ob (fun r8 e_4 => ?_)
    refine pc_gd (fun c_5 => ?_)
    refine pc_gd (fun c_6 => ?_)
    refine pc_bd (fun d11 e_7 => ?_)
    have z_8 := Zp.sI hZ c_5 (lt24 c_2) e_7
    refine pc_ob (fun r12 e_9 => ?_)
    refine pc_gd (fun c_10 => ?_)
    refine pc_gd (fun c_11 => ?_)
    refine pc_bd (fun d15 e_12 => ?_)
    have z_13 := Zp.sF z_8 (by decide) e_12
    refine pc_ob (fun r16 e_14 => ?_)
    refine pc_gd (fun c_15 => ?_)
    refine pc_gd (fun c_16 => ?_)
    refine pc_bd (fun d19 e_17 => ?_)
    have z_18 := Zp.sI z_13 c_15 (lt24 c_2) e_17
    refine pc_ob (fun r20 e_19 => ?_)
    refine pc_gd (fun c_20 => ?_)
    refine pc_gd (fun c_21 => ?_)
    refine pc_bd (fun d23 e_22 => ?_)
    have z_23 := Zp.sI z_18 c_20 (lt24 c_2) e_22
    refine pc_ob (fun r24 e_24 => ?_)
    refine pc_gd (fun c_25 => ?_)
    refine pc_gd (fun c_26 => ?_)
    refine pc_bd (fun d27 e_27 => ?_)
    have z_28 := Zp.sI z_23 c_25 (lt24 c_2) e_27
    refine pc_bd (fun u28 e_29 => ?_)
    exact hK u28 d27 z_28
theorem z_fX6_clear_L22 (N : Nat) (g : Gs) (x0 : Nat) (a0 : Int32) (a1 : Ds) (hZ : Zp g a1) : pc (fX6_clear_L22 N g x0 (a0, a1)) (fun _ d1 => Zp g d1) := by
  unfold fX6_clear_L22
  refine pc_lp (fun a => Zp g a.2) ?_ N (a0, a1) hZ
  rintro K ⟨a0, a1⟩ hZ hK
  exact z_fX6_clear_B22 N g x0 K a0 a1 hZ (fun a0 a1 h => hK (a0, a1) h)
theorem z_fX6_clear (N : Nat) (g : Gs) (x0 : Nat) (d : Ds) (hZ : Zp g d) : pc (fX6_clear N g x0 d) (fun _ d1 => Zp g d1) := by
  unfold fX6_clear
  refine pc_gd (fun c_1 => ?_)
  refine pc_bd (fun d2 e_2 => ?_)
  have z_3 := Zp.sI hZ c_1 (by decide) e_2
  refine pc_bd (fun d3 e_4 => ?_)
  have z_5 := Zp.sI z_3 c_1 (by decide) e_4
  refine pc_bd (fun d4 e_6 => ?_)
  have z_7 := Zp.sI z_5 c_1 (by decide) e_6
  refine pc_bd (fun d5 e_8 => ?_)
  have z_9 := Zp.sI z_7 c_1 (by decide) e_8
  exact z_fX6_clear_L22 N g x0 0 d5 z_9
theorem z_fX4_clear (N : Nat) (g : Gs) (x0 : Nat) (d : Ds) (hZ : Zp g d) : pc (fX4_clear N g x0 d) (fun _ d1 => Zp g d1) := by
  unfold fX4_clear
  refine pc_gd (fun c_1 => ?_)
  refine pc_bd (fun d2 e_2 => ?_)
  have z_3 := Zp.sI hZ c_1 (by decide) e_2
  refine pc_bd (fun d3 e_4 => ?_)
  have z_5 := Zp.sI z_3 c_1 (by decide) e_4
  exact pc_some z_5
theorem z_fX3_clear_B2 (N : Nat) (g : Gs) (x0 : Nat) (K2 : Int32 × Ds → Option (Unit × Ds)) (y1 : Int32) (d : Ds) (hZ : Zp g d) (hK : ∀ (a0 : Int32) (a1 : Ds), Zp g a1 → pc (K2 (a0, a1)) (fun _ d1 => Zp g d1)) : pc (fX3_clear_B2 N g x0 K2 y1 d) (fun _ d1 => Zp g d1) := by
  unfold fX3_clear_B2
  refine pc_if (fun c_1 => ?_) (fun c_2 => ?_)
  · refine pc_gd (fun c_3 => ?_)
    refine pc_bd (fun d3 e_4 => ?_)
    have z_5 := Zp.sI hZ c_3 (by decide) e_4
    refine pc_bd (fun d4 e_6 => ?_)
    have z_7 := Zp.sI z_5 c_3 (by decide) e_6
    exact pc_some z_7
  · refine pc_gd (fun c_8 => ?_)
    refine pc_ob (fun r6 e_9 => ?_)
    refine pc_gd (fun c_10 => ?_)
    refine pc_gd (fun c_11 => ?_)
    refine pc_bd (fun d9 e_12 => ?_)
    have z_13 := Zp.sI hZ c_10 (lt24 c_2) e_12
    refine pc_ob (fun r10 e_14 => ?_)
    refine pc_gd (fun c_15 => ?_)
    refine pc_gd (fun c_16 => ?_)
    refine pc_bd (fun d13 e_17 => ?_)
    have z_18 := Zp.sI z_13 c_15 (lt24 c_2) e_17
    refine pc_ob (fun r14 e_19 => ?_)
    refine pc_gd (fun c_20 => ?_)
    refine pc_gd (fun c_21 => ?_)
    refine pc_bd (fun d17 e_22 => ?_)
    have z_23 := Zp.sI z_18 c_20 (lt24 c_2) e_22
    refine pc_bd (fun u18 e_24 => ?_)
    exact hK u18 d17 z_23
theorem z_fX3_clear_L2 (N : Nat) (g : Gs) (x0 : Nat) (a0 : Int32) (a1 : Ds) (hZ : Zp g a1) : pc (fX3_clear_L2 N g x0 (a0, a1)) (fun _ d1 => Zp g d1) := by
  unfold fX3_clear_L2
  refine pc_lp (fun a => Zp g a.2) ?_ N (a0, a1) hZ
  rintro K ⟨a0, a1⟩ hZ hK
  exact z_fX3_clear_B2 N g x0 K a0 a1 hZ (fun a0 a1 h => hK (a0, a1) h)
theorem z_fX3_clear (N : Nat) (g : Gs) (x0 : Nat) (d : Ds) (hZ : Zp g d) : pc (fX3_clear N g x0 d) (fun _ d1 => Zp g d1) := by
  unfold fX3_clear
  exact z_fX3_clear_L2 N g x0 0 d hZ
theorem z_fX5_makeLatest_J21 (N : Nat) (g : Gs) (x0 : Nat) (x1 : Int32) (x2 : Int32) (z0 : Int32) (z1 : Nat) (d : Ds) (hZ : Zp g d) : pc (fX5_makeLatest_J21 N g x0 x1 x2 z0 z1 d) (fun _ d1 => Zp g d1) := by
  unfold fX5_makeLatest_J21
  refine pc_gd (fun c_1 => ?_)
  refine pc_bd (fun d6 e_2 => ?_)
  have z_3 := Zp.sI hZ c_1 (by decide) e_2
  exact pc_some z_3
theorem z_fX5_makeLatest (N : Nat) (g : Gs) (x0 : Nat) (x1 : Int32) (x2 : Int32) (d : Ds) (hZ : Zp g d) : pc (fX5_makeLatest N g x0 x1 x2 d) (fun _ d1 => Zp g d1) := by
  unfold fX5_makeLatest
  refine pc_gd (fun c_1 => ?_)
  refine pc_bd (fun d2 e_2 => ?_)
  have z_3 := Zp.sI hZ c_1 (by decide) e_2
  refine pc_bd (fun d3 e_4 => ?_)
  have z_5 := Zp.sI z_3 c_1 (by decide) e_4
  refine pc_if (fun c_6 => ?_) (fun c_7 => ?_)
  · exact z_fX5_makeLatest_J21 N g x0 x1 x2 (-1) x0 d3 z_5
  · exact z_fX5_makeLatest_J21 N g x0 x1 x2 0 x0 d3 z_5
theorem z_fX5_clear (N : Nat) (g : Gs) (x0 : Nat) (d : Ds) (hZ : Zp g d) : pc (fX5_clear N g x0 d) (fun _ d1 => Zp g d1) := by
  unfold fX5_clear
  refine pc_gd (fun c_1 => ?_)
  refine pc_bd (fun d2 e_2 => ?_)
  have z_3 := Zp.sI hZ c_1 (by decide) e_2
  refine pc_bd (fun d3 e_4 => ?_)
  have z_5 := Zp.sI z_3 c_1 (by decide) e_4
  refine pc_cv (z_fX5_makeLatest N g x0 (-1) (-1) d3 z_5) (fun d4 z_6 => ?_)
  exact pc_some z_6
theorem z_fX1_clear (N : Nat) (g : Gs) (x0 : Nat) (d : Ds) (hZ : Zp g d) : pc (fX1_clear N g x0 d) (fun _ d1 => Zp g d1) := by
  unfold fX1_clear
  refine pc_gd (fun c_1 => ?_)
  refine pc_bd (fun d2 e_2 => ?_)
  have z_3 := Zp.sI hZ c_1 (by decide) e_2
  refine pc_ob (fun r3 e_4 => ?_)
  refine pc_gd (fun c_5 => ?_)
  refine pc_cv (z_fX6_clear N g r3 d2 z_3) (fun d5 z_6 => ?_)
  refine pc_ob (fun r7 e_7 => ?_)
  refine pc_gd (fun c_8 => ?_)
  refine pc_cv (z_fX4_clear N g r7 d5 z_6) (fun d9 z_9 => ?_)
  refine pc_ob (fun r11 e_10 => ?_)
  refine pc_gd (fun c_11 => ?_)
  refine pc_cv (z_fX3_clear N g r11 d9 z_9) (fun d13 z_12 => ?_)
  refine pc_ob (fun r15 e_13 => ?_)
  refine pc_gd (fun c_14 => ?_)
  refine pc_cv (z_fX5_clear N g r15 d13 z_12) (fun d17 z_15 => ?_)
  exact pc_some z_15
theorem z_fX1_init_E (N : Nat) (x0 : Nat) (x1 : Nat) (n0 s0 : Nat) (g : Gs) (d : Ds) (hZ : Zp g d) : pc (fX1_init_E N x0 x1 n0 s0 g d) (fun g1 d1 => Zp g1 d1) := by
  unfold fX1_init_E
  refine pc_gd (fun c_1 => ?_)
  refine pc_gd (fun c_2 => ?_)
  refine pc_bd (fun g3 e_3 => ?_)
  refine pc_bd (fun d4 e_4 => ?_)
  have z_5 := Zp.nw hZ e_3 e_4
  refine pc_bd (fun r5 e_6 => ?_)
  refine pc_gd (fun c_7 => ?_)
  refine pc_cb (z_fX6_init N r5 g3 d4 z_5) (fun g8 d9 z_8 => ?_)
  refine pc_gd (fun c_9 => ?_)
  refine pc_gd (fun c_10 => ?_)
  refine pc_gd (fun c_11 => ?_)
  refine pc_bd (fun g15 e_12 => ?_)
  have z_13 := Zp.sR z_8 e_12
  refine pc_gd (fun c_14 => ?_)
  refine pc_gd (fun c_15 => ?_)
  refine pc_bd (fun g19 e_16 => ?_)
  refine pc_bd (fun d20 e_17 => ?_)
  have z_18 := Zp.nw z_13 e_16 e_17
  refine pc_bd (fun r21 e_19 => ?_)
  refine pc_gd (fun c_20 => ?_)
  refine pc_cb (z_fX4_init N r21 g19 d20 z_18) (fun g24 d25 z_21 => ?_)
  refine pc_gd (fun c_22 => ?_)
  refine pc_gd (fun c_23 => ?_)
  refine pc_gd (fun c_24 => ?_)
  refine pc_bd (fun g31 e_25 => ?_)
  have z_26 := Zp.sR z_21 e_25
  refine pc_gd (fun c_27 => ?_)
  refine pc_gd (fun c_28 => ?_)
  refine pc_bd (fun g35 e_29 => ?_)
  refine pc_bd (fun d36 e_30 => ?_)
  have z_31 := Zp.nw z_26 e_29 e_30
  refine pc_bd (fun r37 e_32 => ?_)
  refine pc_gd (fun c_33 => ?_)
  refine pc_cb (z_fX3_init N r37 g35 d36 z_31) (fun g40 d41 z_34 => ?_)
  refine pc_gd (fun c_35 => ?_)
  refine pc_gd (fun c_36 => ?_)
  refine pc_gd (fun c_37 => ?_)
  refine pc_bd (fun g47 e_38 => ?_)
  have z_39 := Zp.sR z_34 e_38
  refine pc_gd (fun c_40 => ?_)
  refine pc_gd (fun c_41 => ?_)
  refine pc_bd (fun g51 e_42 => ?_)
  refine pc_bd (fun d52 e_43 => ?_)
  have z_44 := Zp.nw z_39 e_42 e_43
  refine pc_bd (fun r53 e_45 => ?_)
  refine pc_gd (fun c_46 => ?_)
  refine pc_cb (z_fX5_init N r53 g51 d52 z_44) (fun g56 d57 z_47 => ?_)
  refine pc_gd (fun c_48 => ?_)
  refine pc_gd (fun c_49 => ?_)
  refine pc_gd (fun c_50 => ?_)
  refine pc_bd (fun g63 e_51 => ?_)
  have z_52 := Zp.sR z_47 e_51
  refine pc_gd (fun c_53 => ?_)
  refine pc_bd (fun g66 e_54 => ?_)
  have z_55 := Zp.sR z_52 e_54
  refine pc_gd (fun c_56 => ?_)
  refine pc_gd (fun c_57 => ?_)
  refine pc_cv (z_fX1_clear N g66 x0 d57 z_55) (fun d70 z_58 => ?_)
  refine pc_gd (fun c_59 => ?_)
  exact pc_some z_58
theorem z_fX1_init (N : Nat) (x0 : Nat) (x1 : Nat) (g : Gs) (d : Ds) (hZ : Zp g d) : pc (fX1_init N x0 x1 g d) (fun g1 d1 => Zp g1 d1) := by
  unfold fX1_init
  exact z_fX1_init_E N x0 x1 (gN g) (gS g) g d hZ
theorem z_fX11_init_B96 (N : Nat)  (x0 : Nat) (n0 s0 : Nat) (K96 : Int32 × Gs × Ds → Option (Gs × Ds)) (y1 : Int32) (g : Gs) (d : Ds) (hZ : Zp g d) (hK : ∀ (a0 : Int32) (a1 : Gs) (a2 : Ds), Zp a1 a2 → pc (K96 (a0, a1, a2)) (fun g1 d1 => Zp g1 d1)) : pc (fX11_init_B96 N x0 n0 s0 K96 y1 g d) (fun g1 d1 => Zp g1 d1) := by
  unfold fX11_init_B96
  refine pc_if (fun c_1 => ?_) (fun c_2 => ?_)
  · refine pc_gd (fun c_3 => ?_)
    refine pc_bd (fun d112 e_4 => ?_)
    have z_5 := Zp.sI hZ c_3 (by decide) e_4
    refine pc_gd (fun c_6 => ?_)
    exact pc_some z_5
  · refine pc_gd (fun c_7 => ?_)
    refine pc_ob (fun r115 e_8 => ?_)
    refine pc_gd (fun c_9 => ?_)
    refine pc_gd (fun c_10 => ?_)
    refine pc_bd (fun g118 e_11 => ?_)
    refine pc_bd (fun d119 e_12 => ?_)
    have z_13 := Zp.nw hZ e_11 e_12
    refine pc_bd (fun r120 e_14 => ?_)
    refine pc_gd (fun c_15 => ?_)
    refine pc_ob (fun r123 e_16 => ?_)
    refine pc_gd (fun c_17 => ?_)
    refine pc_cb (z_fX1_init N r120 r123 g118 d119 z_13) (fun g125 d126 z_18 => ?_)
    refine pc_gd (fun c_19 => ?_)
    refine pc_gd (fun c_20 => ?_)
    refine pc_gd (fun c_21 => ?_)
    refine pc_gd (fun c_22 => ?_)
    refine pc_gd (fun c_23 => ?_)
    refine pc_bd (fun g134 e_24 => ?_)
    have z_25 := Zp.sR z_18 e_24
    refine pc_bd (fun u136 e_26 => ?_)
    exact hK u136 g134 d126 z_25
theorem z_fX11_init_L96 (N : Nat)  (x0 : Nat) (n0 s0 : Nat) (a0 : Int32) (a1 : Gs) (a2 : Ds) (hZ : Zp a1 a2) : pc (fX11_init_L96 N x0 n0 s0 (a0, a1, a2)) (fun g1 d1 => Zp g1 d1) := by
  unfold fX11_init_L96
  refine pc_lp (fun a => Zp a.2.1 a.2.2) ?_ N (a0, a1, a2) hZ
  rintro K ⟨a0, a1, a2⟩ hZ hK
  exact z_fX11_init_B96 N x0 n0 s0 K a0 a1 a2 hZ (fun a0 a1 a2 h => hK (a0, a1, a2) h)
theorem z_fX11_init_E (N : Nat) (x0 : Nat) (n0 s0 : Nat) (g : Gs) (d : Ds) (hZ : Zp g d) : pc (fX11_init_E N x0 n0 s0 g d) (fun g1 d1 => Zp g1 d1) := by
  unfold fX11_init_E
  refine pc_gd (fun c_1 => ?_)
  refine pc_gd (fun c_2 => ?_)
  refine pc_gd (fun c_3 => ?_)
  refine pc_gd (fun c_4 => ?_)
  refine pc_bd (fun g5 e_5 => ?_)
  refine pc_bd (fun d6 e_6 => ?_)
  have z_7 := Zp.nw hZ e_5 e_6
  refine pc_bd (fun r7 e_8 => ?_)
  refine pc_gd (fun c_9 => ?_)
  refine pc_bd (fun g10 e_10 => ?_)
  have z_11 := Zp.sR z_7 e_10
  refine pc_gd (fun c_12 => ?_)
  refine pc_bd (fun d13 e_13 => ?_)
  have z_14 := Zp.sI z_7 c_9 (by decide) e_13
  have z_15 := Zp.sI z_11 c_12 (by decide) e_13
  refine pc_bd (fun d14 e_16 => ?_)
  have z_17 := Zp.sI z_14 c_9 (by decide) e_16
  have z_18 := Zp.sI z_15 c_12 (by decide) e_16
  refine pc_gd (fun c_19 => ?_)
  refine pc_gd (fun c_20 => ?_)
  refine pc_bd (fun g17 e_21 => ?_)
  refine pc_bd (fun d18 e_22 => ?_)
  have z_23 := Zp.nw z_18 e_21 e_22
  refine pc_bd (fun r19 e_24 => ?_)
  refine pc_gd (fun c_25 => ?_)
  refine pc_cb (z_fX7_init N r19 g17 d18 z_23) (fun g22 d23 z_26 => ?_)
  refine pc_gd (fun c_27 => ?_)
  refine pc_gd (fun c_28 => ?_)
  refine pc_gd (fun c_29 => ?_)
  refine pc_bd (fun g29 e_30 => ?_)
  have z_31 := Zp.sR z_26 e_30
  refine pc_gd (fun c_32 => ?_)
  refine pc_gd (fun c_33 => ?_)
  refine pc_bd (fun g33 e_34 => ?_)
  refine pc_bd (fun d34 e_35 => ?_)
  have z_36 := Zp.nw z_31 e_34 e_35
  refine pc_bd (fun r35 e_37 => ?_)
  refine pc_gd (fun c_38 => ?_)
  refine pc_cb (z_fX0_init N r35 g33 d34 z_36) (fun g38 d39 z_39 => ?_)
  refine pc_gd (fun c_40 => ?_)
  refine pc_gd (fun c_41 => ?_)
  refine pc_gd (fun c_42 => ?_)
  refine pc_bd (fun g45 e_43 => ?_)
  have z_44 := Zp.sR z_39 e_43
  refine pc_gd (fun c_45 => ?_)
  refine pc_gd (fun c_46 => ?_)
  refine pc_bd (fun g49 e_47 => ?_)
  refine pc_bd (fun d50 e_48 => ?_)
  have z_49 := Zp.nw z_44 e_47 e_48
  refine pc_bd (fun r51 e_50 => ?_)
  refine pc_gd (fun c_51 => ?_)
  refine pc_cb (z_fX9_init N r51 g49 d50 z_49) (fun g54 d55 z_52 => ?_)
  refine pc_gd (fun c_53 => ?_)
  refine pc_gd (fun c_54 => ?_)
  refine pc_gd (fun c_55 => ?_)
  refine pc_bd (fun g61 e_56 => ?_)
  have z_57 := Zp.sR z_52 e_56
  refine pc_gd (fun c_58 => ?_)
  refine pc_gd (fun c_59 => ?_)
  refine pc_bd (fun g65 e_60 => ?_)
  refine pc_bd (fun d66 e_61 => ?_)
  have z_62 := Zp.nw z_57 e_60 e_61
  refine pc_bd (fun r67 e_63 => ?_)
  refine pc_gd (fun c_64 => ?_)
  refine pc_ob (fun r70 e_65 => ?_)
  refine pc_gd (fun c_66 => ?_)
  refine pc_cb (z_fX1_init N r67 r70 g65 d66 z_62) (fun g72 d73 z_67 => ?_)
  refine pc_gd (fun c_68 => ?_)
  refine pc_gd (fun c_69 => ?_)
  refine pc_gd (fun c_70 => ?_)
  refine pc_bd (fun g79 e_71 => ?_)
  have z_72 := Zp.sR z_67 e_71
  refine pc_gd (fun c_73 => ?_)
  refine pc_gd (fun c_74 => ?_)
  refine pc_bd (fun g83 e_75 => ?_)
  refine pc_bd (fun d84 e_76 => ?_)
  have z_77 := Zp.nw z_72 e_75 e_76
  refine pc_bd (fun r85 e_78 => ?_)
  refine pc_gd (fun c_79 => ?_)
  refine pc_ob (fun r88 e_80 => ?_)
  refine pc_gd (fun c_81 => ?_)
  refine pc_cb (z_fX1_init N r85 r88 g83 d84 z_77) (fun g90 d91 z_82 => ?_)
  refine pc_gd (fun c_83 => ?_)
  refine pc_gd (fun c_84 => ?_)
  refine pc_gd (fun c_85 => ?_)
  refine pc_bd (fun g97 e_86 => ?_)
  have z_87 := Zp.sR z_82 e_86
  refine pc_gd (fun c_88 => ?_)
  refine pc_gd (fun c_89 => ?_)
  refine pc_gd (fun c_90 => ?_)
  refine pc_gd (fun c_91 => ?_)
  refine pc_bd (fun g103 e_92 => ?_)
  refine pc_bd (fun d104 e_93 => ?_)
  have z_94 := Zp.nw z_87 e_92 e_93
  refine pc_bd (fun r105 e_95 => ?_)
  refine pc_gd (fun c_96 => ?_)
  refine pc_bd (fun g108 e_97 => ?_)
  have z_98 := Zp.sR z_94 e_97
  exact z_fX11_init_L96 N x0 n0 s0 0 g108 d104 z_98
theorem z_fX11_init (N : Nat) (x0 : Nat) (g : Gs) (d : Ds) (hZ : Zp g d) : pc (fX11_init N x0 g d) (fun g1 d1 => Zp g1 d1) := by
  unfold fX11_init
  exact z_fX11_init_E N x0 (gN g) (gS g) g d hZ
theorem z_fX12_appends_J21 (N : Nat) (g : Gs) (x0 : Int64) (x2 : Int32) (z0 : Int64) (d : Ds) {q : Ds} {m : Nat} (hZ : Zx q m d) : pc (fX12_appends_J21 N g x0 x2 z0 d) (fun _ d1 => Zx q m d1) := by
  unfold fX12_appends_J21
  exact pc_some hZ
theorem z_fX12_appends (N : Nat) (g : Gs) (x0 : Int64) (x2 : Int32) (d : Ds) {q : Ds} {m : Nat} (hZ : Zx q m d) : pc (fX12_appends N g x0 x2 d) (fun _ d1 => Zx q m d1) := by
  unfold fX12_appends
  refine pc_if (fun c_1 => ?_) (fun c_2 => ?_)
  · exact z_fX12_appends_J21 N g x0 x2 x0 d hZ
  · exact z_fX12_appends_J21 N g x0 x2 ((27 * x0) + ((x2 - 97) + 1).toInt64) d hZ
theorem z_fX12_letters (N : Nat) (g : Gs) (x0 : Int32) (x1 : Int32) (x2 : Int32) (x3 : Int32) (x4 : Int32) (x5 : Int32) (x6 : Int32) (d : Ds) {q : Ds} {m : Nat} (hZ : Zx q m d) : pc (fX12_letters N g x0 x1 x2 x3 x4 x5 x6 d) (fun _ d1 => Zx q m d1) := by
  unfold fX12_letters
  refine pc_cb (z_fX12_appends N g 0 x0 d hZ) (fun u3 d1 z_1 => ?_)
  refine pc_cb (z_fX12_appends N g u3 x1 d1 z_1) (fun u6 d4 z_2 => ?_)
  refine pc_cb (z_fX12_appends N g u6 x2 d4 z_2) (fun u9 d7 z_3 => ?_)
  refine pc_cb (z_fX12_appends N g u9 x3 d7 z_3) (fun u12 d10 z_4 => ?_)
  refine pc_cb (z_fX12_appends N g u12 x4 d10 z_4) (fun u15 d13 z_5 => ?_)
  refine pc_cb (z_fX12_appends N g u15 x5 d13 z_5) (fun u18 d16 z_6 => ?_)
  refine pc_cb (z_fX12_appends N g u18 x6 d16 z_6) (fun u21 d19 z_7 => ?_)
  exact pc_some z_7
theorem z_fX12_init_J555 (N : Nat)  (x0 : Nat) (n0 s0 : Nat) (g : Gs) (d : Ds) {q : Ds} (hZ : Zx q x0 d) : pc (fX12_init_J555 N x0 n0 s0 g d) (fun g1 d1 => ∃ r d7 d9, gR g1 x0 17 = some r ∧ Zx q x0 d7 ∧ fX12_begins N g1 r d7 = some ((), d9) ∧ fX12_startsAnew N g1 x0 d9 = some ((), d1)) := by
  unfold fX12_init_J555
  refine pc_gd (fun c_1 => ?_)
  refine pc_ob (fun r295 e_2 => ?_)
  refine pc_gd (fun c_3 => ?_)
  refine pc_cb (z_fX12_letters N g 100 111 117 98 108 101 0 d hZ) (fun u299 d297 z_4 => ?_)
  refine pc_gd (fun c_5 => ?_)
  refine pc_gd (fun c_6 => ?_)
  refine pc_bd (fun d302 e_7 => ?_)
  have z_8 := Zx.sL z_4 e_7
  refine pc_cb (z_fX12_letters N g 112 108 97 121 0 0 0 d302 z_8) (fun u305 d303 z_9 => ?_)
  refine pc_gd (fun c_10 => ?_)
  refine pc_bd (fun d307 e_11 => ?_)
  have z_12 := Zx.sL z_9 e_11
  refine pc_ob (fun r308 e_13 => ?_)
  refine pc_cv (P := fun _ d' => fX12_begins N g r308 d307 = some ((), d')) (fun _ _ h => h) (fun d309 z_14 => ?_)
  refine pc_cv (P := fun _ d' => fX12_startsAnew N g x0 d309 = some ((), d')) (fun _ _ h => h) (fun d311 z_15 => ?_)
  refine pc_gd (fun c_16 => ?_)
  exact pc_some ⟨r308, d307, d309, e_13, z_12, z_14, z_15⟩
theorem z_fX12_init_J423 (N : Nat)  (x0 : Nat) (n0 s0 : Nat) (g : Gs) (d : Ds) {q : Ds} (hZ : Zx q x0 d) : pc (fX12_init_J423 N x0 n0 s0 g d) (fun g1 d1 => ∃ r d7 d9, gR g1 x0 17 = some r ∧ Zx q x0 d7 ∧ fX12_begins N g1 r d7 = some ((), d9) ∧ fX12_startsAnew N g1 x0 d9 = some ((), d1)) := by
  unfold fX12_init_J423
  refine pc_gd (fun c_1 => ?_)
  refine pc_ob (fun r261 e_2 => ?_)
  refine pc_gd (fun c_3 => ?_)
  refine pc_cb (z_fX12_letters N g 109 111 100 0 0 0 0 d hZ) (fun u265 d263 z_4 => ?_)
  refine pc_gd (fun c_5 => ?_)
  refine pc_gd (fun c_6 => ?_)
  refine pc_bd (fun d268 e_7 => ?_)
  have z_8 := Zx.sL z_4 e_7
  refine pc_cb (z_fX12_letters N g 108 97 121 101 114 0 0 d268 z_8) (fun u271 d269 z_9 => ?_)
  refine pc_gd (fun c_10 => ?_)
  refine pc_bd (fun d273 e_11 => ?_)
  have z_12 := Zx.sL z_9 e_11
  refine pc_cb (z_fX12_letters N g 116 111 103 103 108 101 0 d273 z_12) (fun u276 d274 z_13 => ?_)
  refine pc_gd (fun c_14 => ?_)
  refine pc_bd (fun d278 e_15 => ?_)
  have z_16 := Zx.sL z_13 e_15
  refine pc_cb (z_fX12_letters N g 110 111 116 104 105 110 103 d278 z_16) (fun u281 d279 z_17 => ?_)
  refine pc_gd (fun c_18 => ?_)
  refine pc_bd (fun d283 e_19 => ?_)
  have z_20 := Zx.sL z_17 e_19
  refine pc_cb (z_fX12_letters N g 98 101 108 111 119 0 0 d283 z_20) (fun u286 d284 z_21 => ?_)
  refine pc_gd (fun c_22 => ?_)
  refine pc_bd (fun d288 e_23 => ?_)
  have z_24 := Zx.sL z_21 e_23
  refine pc_cb (z_fX12_letters N g 104 111 108 100 0 0 0 d288 z_24) (fun u291 d289 z_25 => ?_)
  refine pc_gd (fun c_26 => ?_)
  refine pc_bd (fun d293 e_27 => ?_)
  have z_28 := Zx.sL z_25 e_27
  exact z_fX12_init_J555 N x0 n0 s0 g d293 z_28
theorem z_fX12_init_J293 (N : Nat)  (x0 : Nat) (n0 s0 : Nat) (g : Gs) (d : Ds) {q : Ds} (hZ : Zx q x0 d) : pc (fX12_init_J293 N x0 n0 s0 g d) (fun g1 d1 => ∃ r d7 d9, gR g1 x0 17 = some r ∧ Zx q x0 d7 ∧ fX12_begins N g1 r d7 = some ((), d9) ∧ fX12_startsAnew N g1 x0 d9 = some ((), d1)) := by
  unfold fX12_init_J293
  refine pc_gd (fun c_1 => ?_)
  refine pc_ob (fun r227 e_2 => ?_)
  refine pc_gd (fun c_3 => ?_)
  refine pc_cb (z_fX12_letters N g 116 119 105 99 101 0 0 d hZ) (fun u231 d229 z_4 => ?_)
  refine pc_gd (fun c_5 => ?_)
  refine pc_gd (fun c_6 => ?_)
  refine pc_bd (fun d234 e_7 => ?_)
  have z_8 := Zx.sL z_4 e_7
  refine pc_cb (z_fX12_letters N g 114 101 112 101 97 116 0 d234 z_8) (fun u237 d235 z_9 => ?_)
  refine pc_gd (fun c_10 => ?_)
  refine pc_bd (fun d239 e_11 => ?_)
  have z_12 := Zx.sL z_9 e_11
  refine pc_cb (z_fX12_letters N g 107 101 121 0 0 0 0 d239 z_12) (fun u242 d240 z_13 => ?_)
  refine pc_gd (fun c_14 => ?_)
  refine pc_bd (fun d244 e_15 => ?_)
  have z_16 := Zx.sL z_13 e_15
  refine pc_cb (z_fX12_letters N g 99 104 111 114 100 0 0 d244 z_16) (fun u247 d245 z_17 => ?_)
  refine pc_gd (fun c_18 => ?_)
  refine pc_bd (fun d249 e_19 => ?_)
  have z_20 := Zx.sL z_17 e_19
  refine pc_cb (z_fX12_letters N g 109 97 99 114 111 0 0 d249 z_20) (fun u252 d250 z_21 => ?_)
  refine pc_gd (fun c_22 => ?_)
  refine pc_bd (fun d254 e_23 => ?_)
  have z_24 := Zx.sL z_21 e_23
  refine pc_cb (z_fX12_letters N g 99 111 100 101 0 0 0 d254 z_24) (fun u257 d255 z_25 => ?_)
  refine pc_gd (fun c_26 => ?_)
  refine pc_bd (fun d259 e_27 => ?_)
  have z_28 := Zx.sL z_25 e_27
  exact z_fX12_init_J423 N x0 n0 s0 g d259 z_28
theorem z_fX12_init_J154 (N : Nat)  (x0 : Nat) (n0 s0 : Nat) (g : Gs) (d : Ds) {q : Ds} (hZ : Zx q x0 d) : pc (fX12_init_J154 N x0 n0 s0 g d) (fun g1 d1 => ∃ r d7 d9, gR g1 x0 17 = some r ∧ Zx q x0 d7 ∧ fX12_begins N g1 r d7 = some ((), d9) ∧ fX12_startsAnew N g1 x0 d9 = some ((), d1)) := by
  unfold fX12_init_J154
  refine pc_gd (fun c_1 => ?_)
  refine pc_gd (fun c_2 => ?_)
  refine pc_gd (fun c_3 => ?_)
  refine pc_gd (fun c_4 => ?_)
  refine pc_bd (fun g182 e_5 => ?_)
  refine pc_bd (fun d183 e_7 => ?_)
  have z_8 := Zx.nw hZ e_7
  refine pc_bd (fun r184 e_9 => ?_)
  refine pc_gd (fun c_11 => ?_)
  refine pc_bd (fun g187 e_12 => ?_)
  refine pc_gd (fun c_14 => ?_)
  refine pc_ob (fun r190 e_15 => ?_)
  refine pc_gd (fun c_16 => ?_)
  refine pc_cb (z_fX12_letters N g187 98 111 97 114 100 0 0 d183 z_8) (fun u194 d192 z_17 => ?_)
  refine pc_gd (fun c_18 => ?_)
  refine pc_gd (fun c_19 => ?_)
  refine pc_bd (fun d197 e_20 => ?_)
  have z_21 := Zx.sL z_17 e_20
  refine pc_cb (z_fX12_letters N g187 100 105 111 100 101 115 0 d197 z_21) (fun u200 d198 z_22 => ?_)
  refine pc_gd (fun c_23 => ?_)
  refine pc_bd (fun d202 e_24 => ?_)
  have z_25 := Zx.sL z_22 e_24
  refine pc_cb (z_fX12_letters N g187 115 105 120 0 0 0 0 d202 z_25) (fun u205 d203 z_26 => ?_)
  refine pc_gd (fun c_27 => ?_)
  refine pc_bd (fun d207 e_28 => ?_)
  have z_29 := Zx.sL z_26 e_28
  refine pc_cb (z_fX12_letters N g187 98 111 117 110 99 101 0 d207 z_29) (fun u210 d208 z_30 => ?_)
  refine pc_gd (fun c_31 => ?_)
  refine pc_bd (fun d212 e_32 => ?_)
  have z_33 := Zx.sL z_30 e_32
  refine pc_cb (z_fX12_letters N g187 116 101 114 109 0 0 0 d212 z_33) (fun u215 d213 z_34 => ?_)
  refine pc_gd (fun c_35 => ?_)
  refine pc_bd (fun d217 e_36 => ?_)
  have z_37 := Zx.sL z_34 e_36
  refine pc_cb (z_fX12_letters N g187 99 104 111 114 100 105 110 d217 z_37) (fun u220 d218 z_38 => ?_)
  refine pc_cb (z_fX12_appends N g187 u220 103 d218 z_38) (fun u223 d221 z_39 => ?_)
  refine pc_gd (fun c_40 => ?_)
  refine pc_bd (fun d225 e_41 => ?_)
  have z_42 := Zx.sL z_39 e_41
  exact z_fX12_init_J293 N x0 n0 s0 g187 d225 z_42
theorem z_fX12_init_E (N : Nat) (x0 : Nat) (n0 s0 : Nat) (g : Gs) (d : Ds) {q : Ds} (hZ : Zx q x0 d) : pc (fX12_init_E N x0 n0 s0 g d) (fun g1 d1 => ∃ r d7 d9, gR g1 x0 17 = some r ∧ Zx q x0 d7 ∧ fX12_begins N g1 r d7 = some ((), d9) ∧ fX12_startsAnew N g1 x0 d9 = some ((), d1)) := by
  unfold fX12_init_E
  refine pc_gd (fun c_1 => ?_)
  refine pc_gd (fun c_2 => ?_)
  refine pc_gd (fun c_3 => ?_)
  refine pc_gd (fun c_4 => ?_)
  refine pc_bd (fun g5 e_5 => ?_)
  refine pc_bd (fun d6 e_7 => ?_)
  have z_8 := Zx.nw hZ e_7
  refine pc_bd (fun r7 e_9 => ?_)
  refine pc_gd (fun c_11 => ?_)
  refine pc_bd (fun g10 e_12 => ?_)
  refine pc_gd (fun c_14 => ?_)
  refine pc_gd (fun c_15 => ?_)
  refine pc_bd (fun g14 e_16 => ?_)
  refine pc_bd (fun d15 e_18 => ?_)
  have z_19 := Zx.nw z_8 e_18
  refine pc_bd (fun r16 e_20 => ?_)
  refine pc_gd (fun c_22 => ?_)
  refine pc_bd (fun g19 e_23 => ?_)
  refine pc_gd (fun c_25 => ?_)
  refine pc_gd (fun c_26 => ?_)
  refine pc_gd (fun c_27 => ?_)
  refine pc_gd (fun c_28 => ?_)
  refine pc_bd (fun g25 e_29 => ?_)
  refine pc_bd (fun d26 e_31 => ?_)
  have z_32 := Zx.nw z_19 e_31
  refine pc_bd (fun r27 e_33 => ?_)
  refine pc_gd (fun c_35 => ?_)
  refine pc_bd (fun g30 e_36 => ?_)
  refine pc_gd (fun c_38 => ?_)
  refine pc_gd (fun c_39 => ?_)
  refine pc_bd (fun g34 e_40 => ?_)
  refine pc_bd (fun d35 e_42 => ?_)
  have z_43 := Zx.nw z_32 e_42
  refine pc_bd (fun r36 e_44 => ?_)
  refine pc_gd (fun c_46 => ?_)
  refine pc_bd (fun g39 e_47 => ?_)
  refine pc_gd (fun c_49 => ?_)
  refine pc_gd (fun c_50 => ?_)
  refine pc_bd (fun g43 e_51 => ?_)
  refine pc_bd (fun d44 e_53 => ?_)
  have z_54 := Zx.nw z_43 e_53
  refine pc_bd (fun r45 e_55 => ?_)
  refine pc_gd (fun c_57 => ?_)
  refine pc_bd (fun g48 e_58 => ?_)
  refine pc_gd (fun c_60 => ?_)
  refine pc_gd (fun c_61 => ?_)
  refine pc_bd (fun g52 e_62 => ?_)
  refine pc_bd (fun d53 e_64 => ?_)
  have z_65 := Zx.nw z_54 e_64
  refine pc_bd (fun r54 e_66 => ?_)
  refine pc_gd (fun c_68 => ?_)
  refine pc_bd (fun g57 e_69 => ?_)
  refine pc_gd (fun c_71 => ?_)
  refine pc_gd (fun c_72 => ?_)
  refine pc_gd (fun c_73 => ?_)
  refine pc_gd (fun c_74 => ?_)
  refine pc_bd (fun g63 e_75 => ?_)
  refine pc_bd (fun d64 e_77 => ?_)
  have z_78 := Zx.nw z_65 e_77
  refine pc_bd (fun r65 e_79 => ?_)
  refine pc_gd (fun c_81 => ?_)
  refine pc_bd (fun g68 e_82 => ?_)
  refine pc_gd (fun c_84 => ?_)
  refine pc_bd (fun d71 e_85 => ?_)
  have z_86 := Zx.sI z_78 e_85
  refine pc_gd (fun c_87 => ?_)
  refine pc_gd (fun c_88 => ?_)
  refine pc_gd (fun c_89 => ?_)
  refine pc_gd (fun c_90 => ?_)
  refine pc_bd (fun g76 e_91 => ?_)
  refine pc_bd (fun d77 e_93 => ?_)
  have z_94 := Zx.nw z_86 e_93
  refine pc_bd (fun r78 e_95 => ?_)
  refine pc_gd (fun c_97 => ?_)
  refine pc_bd (fun g81 e_98 => ?_)
  refine pc_gd (fun c_100 => ?_)
  refine pc_gd (fun c_101 => ?_)
  refine pc_gd (fun c_102 => ?_)
  refine pc_gd (fun c_103 => ?_)
  refine pc_bd (fun g87 e_104 => ?_)
  refine pc_bd (fun d88 e_106 => ?_)
  have z_107 := Zx.nw z_94 e_106
  refine pc_bd (fun r89 e_108 => ?_)
  refine pc_gd (fun c_110 => ?_)
  refine pc_bd (fun g92 e_111 => ?_)
  refine pc_gd (fun c_113 => ?_)
  refine pc_gd (fun c_114 => ?_)
  refine pc_gd (fun c_115 => ?_)
  refine pc_gd (fun c_116 => ?_)
  refine pc_bd (fun g98 e_117 => ?_)
  refine pc_bd (fun d99 e_119 => ?_)
  have z_120 := Zx.nw z_107 e_119
  refine pc_bd (fun r100 e_121 => ?_)
  refine pc_gd (fun c_123 => ?_)
  refine pc_bd (fun g103 e_124 => ?_)
  refine pc_gd (fun c_126 => ?_)
  refine pc_gd (fun c_127 => ?_)
  refine pc_gd (fun c_128 => ?_)
  refine pc_gd (fun c_129 => ?_)
  refine pc_bd (fun g109 e_130 => ?_)
  refine pc_bd (fun d110 e_132 => ?_)
  have z_133 := Zx.nw z_120 e_132
  refine pc_bd (fun r111 e_134 => ?_)
  refine pc_gd (fun c_136 => ?_)
  refine pc_bd (fun g114 e_137 => ?_)
  refine pc_gd (fun c_139 => ?_)
  refine pc_gd (fun c_140 => ?_)
  refine pc_gd (fun c_141 => ?_)
  refine pc_gd (fun c_142 => ?_)
  refine pc_bd (fun g120 e_143 => ?_)
  refine pc_bd (fun d121 e_145 => ?_)
  have z_146 := Zx.nw z_133 e_145
  refine pc_bd (fun r122 e_147 => ?_)
  refine pc_gd (fun c_149 => ?_)
  refine pc_bd (fun g125 e_150 => ?_)
  refine pc_gd (fun c_152 => ?_)
  refine pc_gd (fun c_153 => ?_)
  refine pc_gd (fun c_154 => ?_)
  refine pc_gd (fun c_155 => ?_)
  refine pc_bd (fun g131 e_156 => ?_)
  refine pc_bd (fun d132 e_158 => ?_)
  have z_159 := Zx.nw z_146 e_158
  refine pc_bd (fun r133 e_160 => ?_)
  refine pc_gd (fun c_162 => ?_)
  refine pc_bd (fun g136 e_163 => ?_)
  refine pc_gd (fun c_165 => ?_)
  refine pc_gd (fun c_166 => ?_)
  refine pc_bd (fun g140 e_167 => ?_)
  refine pc_bd (fun d141 e_169 => ?_)
  have z_170 := Zx.nw z_159 e_169
  refine pc_bd (fun r142 e_171 => ?_)
  refine pc_gd (fun c_173 => ?_)
  refine pc_bd (fun g145 e_174 => ?_)
  refine pc_gd (fun c_176 => ?_)
  refine pc_gd (fun c_177 => ?_)
  refine pc_bd (fun g149 e_178 => ?_)
  refine pc_bd (fun d150 e_180 => ?_)
  have z_181 := Zx.nw z_170 e_180
  refine pc_bd (fun r151 e_182 => ?_)
  refine pc_gd (fun c_184 => ?_)
  refine pc_bd (fun g154 e_185 => ?_)
  refine pc_gd (fun c_187 => ?_)
  refine pc_gd (fun c_188 => ?_)
  refine pc_gd (fun c_189 => ?_)
  refine pc_gd (fun c_190 => ?_)
  refine pc_bd (fun g160 e_191 => ?_)
  refine pc_bd (fun d161 e_193 => ?_)
  have z_194 := Zx.nw z_181 e_193
  refine pc_bd (fun r162 e_195 => ?_)
  refine pc_gd (fun c_197 => ?_)
  refine pc_bd (fun g165 e_198 => ?_)
  refine pc_gd (fun c_200 => ?_)
  refine pc_gd (fun c_201 => ?_)
  refine pc_gd (fun c_202 => ?_)
  refine pc_gd (fun c_203 => ?_)
  refine pc_bd (fun g171 e_204 => ?_)
  refine pc_bd (fun d172 e_206 => ?_)
  have z_207 := Zx.nw z_194 e_206
  refine pc_bd (fun r173 e_208 => ?_)
  refine pc_gd (fun c_210 => ?_)
  refine pc_bd (fun g176 e_211 => ?_)
  exact z_fX12_init_J154 N x0 n0 s0 g176 d172 z_207
theorem z_fX12_init (N : Nat) (x0 : Nat) (g : Gs) (d : Ds) {q : Ds} (hZ : Zx q x0 d) : pc (fX12_init N x0 g d) (fun g1 d1 => ∃ r d7 d9, gR g1 x0 17 = some r ∧ Zx q x0 d7 ∧ fX12_begins N g1 r d7 = some ((), d9) ∧ fX12_startsAnew N g1 x0 d9 = some ((), d1)) := by
  unfold fX12_init
  exact z_fX12_init_E N x0 (gN g) (gS g) g d hZ
