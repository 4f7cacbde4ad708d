/-! safety: a pure function answers, and what it leaves keeps Q -/
def ok {α : Type} (x : Option (α × Ds)) (Q : α → Ds → Prop) : Prop := ∃ a d, x = some (a, d) ∧ Q a d
section OKR
variable {α β γ : Type} {Q : α → Ds → Prop}
theorem ok_some {a : α} {d : Ds} (h : Q a d) : ok (some (a, d)) Q := ⟨a, d, rfl, h⟩
theorem ok_gd {c : Prop} [Decidable c] {x : Option (α × Ds)} (hc : c) (h : ok x Q) : ok (gd c x) Q := by
  rw [gd_t hc]
  exact h
theorem ok_bd {a : β} {f : β → Option (α × Ds)} (h : ∀ u, u = a → ok (f u) Q) : ok (bd a f) Q := h a rfl
theorem ok_ob {x : Option β} {a : β} {f : β → Option (α × Ds)} (hx : x = some a) (h : ok (f a) Q) : ok (ob x f) Q := by
  rw [hx, ob_t]
  exact h
theorem ok_if {c : Prop} [Decidable c] {x y : Option (α × Ds)} (h1 : c → ok x Q) (h2 : ¬ c → ok y Q) : ok (if c then x else y) Q := by
  by_cases hc : c
  · rw [if_pos hc]
    exact h1 hc
  · rw [if_neg hc]
    exact h2 hc
theorem ok_cb {x : Option (β × Ds)} {f : β → Ds → Option (α × Ds)} {P : β → Ds → Prop} (hx : ok x P) (h : ∀ a d, P a d → ok (f a d) Q) : ok (cb x f) Q := by
  obtain ⟨a, d, e, hp⟩ := hx
  rw [e, cb_t]
  exact h a d hp
theorem ok_cv {x : Option (Unit × Ds)} {f : Ds → Option (α × Ds)} {P : Unit → Ds → Prop} (hx : ok x P) (h : ∀ d, P () d → ok (f d) Q) : ok (cv x f) Q := by
  obtain ⟨a, d, e, hp⟩ := hx
  rw [e, cv_t]
  exact h d hp
theorem ok_mono {x : Option (α × Ds)} {P : α → Ds → Prop} (hx : ok x P) (h : ∀ a d, P a d → Q a d) : ok x Q := by
  obtain ⟨a, d, e, hp⟩ := hx
  exact ⟨a, d, e, h a d hp⟩
theorem ok_lp {F : (γ → Option (α × Ds)) → γ → Option (α × Ds)} (I : γ → Prop) (m : γ → Nat) (h : ∀ K a, I a → (∀ b, I b → m b < m a → ok (K b) Q) → ok (F K a) Q) : ∀ n a, I a → m a < n → ok (lp F n a) Q := by
  intro n
  induction n with
  | zero => intro a _ hm; exact absurd hm (Nat.not_lt_zero _)
  | succ n ih =>
    intro a hI hm
    rw [lp_s]
    exact h (lp F n) a hI (fun b hb hlt => ih b hb (by omega))
end OKR
/-! numbers between bounds -/
abbrev iv (x : Int32) (a b : Int) : Prop := a ≤ x.toInt ∧ x.toInt ≤ b
theorem ivT (x : Int32) : iv x (-2147483648) 2147483647 := ⟨Int32.le_toInt x, by have := Int32.toInt_lt x; omega⟩
theorem iv.w {x : Int32} {a b c e : Int} (h : iv x a b) (hd : c ≤ a ∧ b ≤ e) : iv x c e := ⟨Int.le_trans hd.1 h.1, Int.le_trans h.2 hd.2⟩
theorem iv_e {x y : Int32} {a b : Int} (e : x = y) (h : iv y a b) : iv x a b := e ▸ h
theorem iv_no {x : Int32} {a b : Int} {p : Prop} (h : iv x a b) (hd : b < a) : p := absurd (Int.le_trans h.1 h.2) (by omega)
theorem z_add {x y : Int32} {a b : Int} (hx : x.toInt = a) (hy : y.toInt = b) (h1 : -2147483648 ≤ a + b) (h2 : a + b < 2147483648) : (x + y).toInt = a + b := by
  rw [Int32.toInt_add, hx, hy]
  exact Int.bmod_eq_of_le (by omega) (by omega)
theorem z_sub {x y : Int32} {a b : Int} (hx : x.toInt = a) (hy : y.toInt = b) (h1 : -2147483648 ≤ a - b) (h2 : a - b < 2147483648) : (x - y).toInt = a - b := by
  rw [Int32.toInt_sub, hx, hy]
  exact Int.bmod_eq_of_le (by omega) (by omega)
theorem z_mul {x y : Int32} {a b : Int} (hx : x.toInt = a) (hy : y.toInt = b) (h1 : -2147483648 ≤ a * b) (h2 : a * b < 2147483648) : (x * y).toInt = a * b := by
  rw [Int32.toInt_mul, hx, hy]
  exact Int.bmod_eq_of_le (by omega) (by omega)
theorem iv_add {x y : Int32} {a b c e l h : Int} (hx : iv x a b) (hy : iv y c e) (hd : -2147483648 ≤ a + c ∧ b + e ≤ 2147483647 ∧ l ≤ a + c ∧ b + e ≤ h) : iv (x + y) l h := by
  obtain ⟨h1, h2⟩ := hx
  obtain ⟨h3, h4⟩ := hy
  have := z_add (x := x) (y := y) rfl rfl (by omega) (by omega)
  exact ⟨by omega, by omega⟩
theorem iv_sub {x y : Int32} {a b c e l h : Int} (hx : iv x a b) (hy : iv y c e) (hd : -2147483648 ≤ a - e ∧ b - c ≤ 2147483647 ∧ l ≤ a - e ∧ b - c ≤ h) : iv (x - y) l h := by
  obtain ⟨h1, h2⟩ := hx
  obtain ⟨h3, h4⟩ := hy
  have := z_sub (x := x) (y := y) rfl rfl (by omega) (by omega)
  exact ⟨by omega, by omega⟩
/-- a product of what is not negative -/
theorem iv_mul {x y : Int32} {a b c e l h : Int} (hx : iv x a b) (hy : iv y c e) (hd : 0 ≤ a ∧ 0 ≤ c ∧ b * e ≤ 2147483647 ∧ l ≤ a * c ∧ b * e ≤ h) : iv (x * y) l h := by
  obtain ⟨h1, h2⟩ := hx
  obtain ⟨h3, h4⟩ := hy
  obtain ⟨d1, d2, d3, d4, d5⟩ := hd
  have k1 : a * c ≤ x.toInt * y.toInt := Int.mul_le_mul h1 h3 d2 (by omega)
  have k2 : x.toInt * y.toInt ≤ b * e := Int.mul_le_mul h2 h4 (by omega) (by omega)
  have k0 : 0 ≤ a * c := Int.mul_nonneg d1 d2
  have := z_mul (x := x) (y := y) rfl rfl (by omega) (by omega)
  exact ⟨by omega, by omega⟩
theorem iv_mulk {x y : Int32} {k a b l h : Int} (hx : iv x k k) (hy : iv y a b) (hd : 0 ≤ k ∧ -2147483648 ≤ k * a ∧ k * b ≤ 2147483647 ∧ l ≤ k * a ∧ k * b ≤ h) : iv (x * y) l h := by
  obtain ⟨h1, h2⟩ := hx
  obtain ⟨h3, h4⟩ := hy
  obtain ⟨d1, d2, d3, d4, d5⟩ := hd
  have e : x.toInt = k := Int.le_antisymm h2 h1
  have k1 : k * a ≤ k * y.toInt := Int.mul_le_mul_of_nonneg_left h3 d1
  have k2 : k * y.toInt ≤ k * b := Int.mul_le_mul_of_nonneg_left h4 d1
  have := z_mul (x := x) (y := y) e rfl (by omega) (by omega)
  exact ⟨by omega, by omega⟩
theorem z_div {x y : Int32} (h : 0 ≤ x.toInt) (h2 : 0 < y.toInt) : (x / y).toInt = x.toInt / y.toInt := by
  rw [Int32.toInt_div]
  have e : x.toInt.tdiv y.toInt = x.toInt / y.toInt := Int.tdiv_eq_ediv_of_nonneg h
  rw [e]
  have k1 : 0 ≤ x.toInt / y.toInt := Int.ediv_nonneg h (by omega)
  have k2 : x.toInt / y.toInt ≤ x.toInt := Int.ediv_le_self _ h
  have k3 := (ivT x).2
  exact Int.bmod_eq_of_le (by omega) (by omega)
theorem iv_div {x y : Int32} {a b c e : Int} (hx : iv x a b) (hy : iv y c e) (hd : 0 ≤ a ∧ 0 < c) : iv (x / y) 0 b := by
  obtain ⟨h1, h2⟩ := hx
  obtain ⟨h3, h4⟩ := hy
  have := z_div (x := x) (y := y) (by omega) (by omega)
  rw [iv, this]
  have k1 : 0 ≤ x.toInt / y.toInt := Int.ediv_nonneg (by omega) (by omega)
  have k2 : x.toInt / y.toInt ≤ x.toInt := Int.ediv_le_self _ (by omega)
  exact ⟨k1, by omega⟩
/-- a key below rows times columns lies in one of the rows -/
theorem iv_row {x r y : Int32} {b R c C : Int} (h : x < r * y) (hx : iv x 0 b) (hr : iv r 0 R) (hy : iv y c C) (hd : 0 ≤ c ∧ R * C ≤ 2147483647) : iv (x / y) 0 (R - 1) ∧ iv y 1 C := by
  obtain ⟨h1, h2⟩ := hx
  obtain ⟨h3, h4⟩ := hr
  obtain ⟨h5, h6⟩ := hy
  have k1 : r.toInt * y.toInt ≤ R * C := Int.mul_le_mul h4 h6 (by omega) (by omega)
  have k0 : 0 ≤ r.toInt * y.toInt := Int.mul_nonneg h3 (by omega)
  have e := z_mul (x := r) (y := y) rfl rfl (by omega) (by omega)
  have h7 := Int32.lt_iff_toInt_lt.mp h
  rw [e] at h7
  have hy1 : 1 ≤ y.toInt := by
    rcases Int.lt_or_le y.toInt 1 with q | q
    · have : y.toInt = 0 := by omega
      rw [this, Int.mul_zero] at h7
      omega
    · exact q
  have hd2 := z_div (x := x) (y := y) h1 (by omega)
  refine ⟨?_, hy1, h6⟩
  rw [iv, hd2]
  have k2 : 0 ≤ x.toInt / y.toInt := Int.ediv_nonneg h1 (by omega)
  have k3 : x.toInt / y.toInt < r.toInt := Int.ediv_lt_of_lt_mul (by omega) h7
  exact ⟨k2, by omega⟩
theorem z_rem {x y : Int32} (h : 0 ≤ x.toInt) (h2 : 0 < y.toInt) : (x - x / y * y).toInt = x.toInt % y.toInt := by
  have e := z_div h h2
  have k1 : 0 ≤ x.toInt / y.toInt := Int.ediv_nonneg h (by omega)
  have k2 : x.toInt / y.toInt * y.toInt ≤ x.toInt := Int.ediv_mul_le _ (by omega)
  have k3 : 0 ≤ x.toInt / y.toInt * y.toInt := Int.mul_nonneg k1 (by omega)
  have k4 := (ivT x).2
  have e2 := z_mul (x := x / y) (y := y) e rfl (by omega) (by omega)
  have e3 := z_sub (x := x) (y := x / y * y) rfl e2 (by omega) (by omega)
  rw [e3, Int.emod_def, Int.mul_comm]
theorem iv_rem {x y : Int32} {a b c e : Int} (hx : iv x a b) (hy : iv y c e) (hd : 0 ≤ a ∧ 0 < c) : iv (x - x / y * y) 0 (e - 1) := by
  obtain ⟨h1, h2⟩ := hx
  obtain ⟨h3, h4⟩ := hy
  rw [iv, z_rem (by omega) (by omega)]
  have k1 := Int.emod_nonneg x.toInt (show y.toInt ≠ 0 by omega)
  have k2 := Int.emod_lt_of_pos x.toInt (show 0 < y.toInt by omega)
  exact ⟨k1, by omega⟩
theorem and_le {x y : Int32} (h : 0 ≤ y.toInt) : iv (x &&& y) 0 y.toInt := by
  have hb : y.toBitVec.msb = false := by
    rw [BitVec.msb_eq_false_iff_two_mul_lt]
    have h2 : 0 ≤ y.toBitVec.toInt := h
    rw [BitVec.toInt_eq_toNat_cond] at h2
    split at h2
    · omega
    · have := y.toBitVec.isLt
      omega
  have e1 : (x &&& y).toInt = ((x &&& y).toBitVec.toNat : Int) := by
    have hm : (x &&& y).toBitVec.msb = false := by
      rw [Int32.toBitVec_and, BitVec.msb_and, hb, Bool.and_false]
    show (x &&& y).toBitVec.toInt = _
    rw [BitVec.toInt_eq_toNat_of_msb hm]
  have e2 : y.toInt = (y.toBitVec.toNat : Int) := by
    show y.toBitVec.toInt = _
    rw [BitVec.toInt_eq_toNat_of_msb hb]
  rw [iv, e1, e2, Int32.toBitVec_and, BitVec.toNat_and]
  exact ⟨by omega, by exact_mod_cast Nat.and_le_right⟩
theorem iv_and {x y : Int32} {a b : Int} (hy : iv y a b) (hd : 0 ≤ a) : iv (x &&& y) 0 b := by
  have h := and_le (x := x) (y := y) (by have := hy.1; omega)
  exact ⟨h.1, Int.le_trans h.2 hy.2⟩
theorem iv_andl {x y : Int32} {a b : Int} (hx : iv x a b) (hd : 0 ≤ a) : iv (x &&& y) 0 b := by
  rw [Int32.and_comm]
  exact iv_and hx hd
theorem iv_ite {p : Prop} [Decidable p] {x y : Int32} {a b c e l h : Int} (hx : iv x a b) (hy : iv y c e) (hd : l ≤ a ∧ l ≤ c ∧ b ≤ h ∧ e ≤ h) : iv (if p then x else y) l h := by
  split
  · exact hx.w ⟨hd.1, hd.2.2.1⟩
  · exact hy.w ⟨hd.2.1, hd.2.2.2⟩
theorem iv_i2b {x : Int32} : iv x.toInt8.toInt32 (-128) 127 := by
  have h1 := Int8.le_toInt x.toInt8
  have h2 := Int8.toInt_lt x.toInt8
  rw [iv, Int8.toInt_toInt32]
  exact ⟨by omega, by omega⟩
theorem iv_of {n : Nat} (h : n < 2147483648) : iv (Int32.ofNat n) n n := by
  have e : (Int32.ofNat n).toInt = n := by
    have hs : Int32.size = 4294967296 := rfl
    rw [Int32.toInt_ofNat', hs]
    exact Int.bmod_eq_of_le (by omega) (by omega)
  rw [iv, e]
  exact ⟨Int.le_refl _, Int.le_refl _⟩
theorem iv_len {g : Gs} {r n : Nat} (h : gL g r = n) (hd : n < 2147483648) : iv (Int32.ofNat (gL g r)) n n := by
  rw [h]
  exact iv_of hd
/-! what a comparison tells -/
theorem le_l {x y : Int32} {a b c e : Int} (h : x ≤ y) (hx : iv x a b) (hy : iv y c e) : iv x a e := ⟨hx.1, Int.le_trans (Int32.le_iff_toInt_le.mp h) hy.2⟩
theorem le_r {x y : Int32} {a b c e : Int} (h : x ≤ y) (hx : iv x a b) (hy : iv y c e) : iv y a e := ⟨Int.le_trans hx.1 (Int32.le_iff_toInt_le.mp h), hy.2⟩
theorem lt_l {x y : Int32} {a b c e : Int} (h : x < y) (hx : iv x a b) (hy : iv y c e) : iv x a (e - 1) := ⟨hx.1, by have := Int32.lt_iff_toInt_lt.mp h; have := hy.2; omega⟩
theorem lt_r {x y : Int32} {a b c e : Int} (h : x < y) (hx : iv x a b) (hy : iv y c e) : iv y (a + 1) e := ⟨by have := Int32.lt_iff_toInt_lt.mp h; have := hx.1; omega, hy.2⟩
theorem nle {x y : Int32} (h : ¬ x ≤ y) : y < x := Int32.not_le.mp h
theorem nlt {x y : Int32} (h : ¬ x < y) : y ≤ x := Int32.not_lt.mp h
theorem eq_l {x y : Int32} {c e : Int} (h : x = y) (hy : iv y c e) : iv x c e := h ▸ hy
theorem eq_r {x y : Int32} {a b : Int} (h : x = y) (hx : iv x a b) : iv y a b := h ▸ hx
theorem ne_lo {x y : Int32} {a b : Int} (h : ¬ x = y) (hx : iv x a b) (hy : iv y a a) : iv x (a + 1) b := by
  refine ⟨?_, hx.2⟩
  have h1 : x.toInt ≠ y.toInt := fun e => h (Int32.toInt_inj.mp e)
  have := hx.1
  have := hy.1
  have := hy.2
  omega
theorem ne_hi {x y : Int32} {a b : Int} (h : ¬ x = y) (hx : iv x a b) (hy : iv y b b) : iv x a (b - 1) := by
  refine ⟨hx.1, ?_⟩
  have h1 : x.toInt ≠ y.toInt := fun e => h (Int32.toInt_inj.mp e)
  have := hx.2
  have := hy.1
  have := hy.2
  omega
theorem eq_no {x y : Int32} {a b c e : Int} {p : Prop} (h : x = y) (hx : iv x a b) (hy : iv y c e) (hd : b < c ∨ e < a) : p := by
  subst h
  have := hx.1
  have := hx.2
  have := hy.1
  have := hy.2
  exfalso
  omega
theorem ne_no {x y : Int32} {a : Int} {p : Prop} (h : ¬ x = y) (hx : iv x a a) (hy : iv y a a) : p := by
  exfalso
  apply h
  apply Int32.toInt_inj.mp
  have := hx.1
  have := hx.2
  have := hy.1
  have := hy.2
  omega
theorem tab_s {x : Int32} {a b : Int} (h : ¬ (x.toInt < a ∨ b < x.toInt)) : iv x a b := ⟨by omega, by omega⟩
/-! guards -/
theorem z_nat {x : Int32} (h : 0 ≤ x.toInt) : (x.toNatClampNeg : Int) = x.toInt := by
  show ((x.toInt.toNat : Nat) : Int) = x.toInt
  omega
theorem ixg {x : Int32} {n m : Nat} {a b : Int} (h : iv x a b) (hn : n = m) (hd : 0 ≤ a ∧ b < (m : Int)) : ¬ (x < 0 ∨ n ≤ x.toNatClampNeg) := by
  have h0 : 0 ≤ x.toInt := Int.le_trans hd.1 h.1
  have e := z_nat h0
  have h2 := h.2
  rintro (q | q)
  · have := Int32.lt_iff_toInt_lt.mp q
    have e0 : (0 : Int32).toInt = 0 := by decide
    omega
  · omega
theorem ixn {x : Int32} {m : Nat} {a b : Int} (h : iv x a b) (hd : 0 < m ∧ b < (m : Int)) : x.toNatClampNeg < m := by
  have h2 := h.2
  show x.toInt.toNat < m
  omega
theorem iv_nz {x : Int32} {a b : Int} (h : iv x a b) (hd : 0 < a ∨ b < 0) : ¬ x = 0 := by
  intro e
  have e0 : (0 : Int32).toInt = 0 := by decide
  have h1 := h.1
  have h2 := h.2
  rw [e] at h1 h2
  omega
theorem iv_b {x : Int32} {a b : Int} (h : iv x a b) (hd : 0 ≤ a ∧ b ≤ 1) : x = 0 ∨ x = 1 := by
  have e0 : (0 : Int32).toInt = 0 := by decide
  have e1 : (1 : Int32).toInt = 1 := by decide
  have h1 := h.1
  have h2 := h.2
  rcases (show x.toInt = 0 ∨ x.toInt = 1 by omega) with q | q
  · exact Or.inl (Int32.toInt_inj.mp (q.trans e0.symm))
  · exact Or.inr (Int32.toInt_inj.mp (q.trans e1.symm))
theorem iv_nn {x : Int32} {a b : Int} (h : iv x a b) (hd : 0 ≤ a) : ¬ x < 0 := by
  intro q
  have := Int32.lt_iff_toInt_lt.mp q
  have e0 : (0 : Int32).toInt = 0 := by decide
  have := h.1
  omega
theorem iv_cp {x y : Int32} {n m : Nat} {a b c e : Int} (h : iv x a b) (h2 : iv y c e) (hn : n = m) (hd : 0 ≤ b ∧ 0 ≤ e ∧ b + e ≤ (m : Int)) : x.toNatClampNeg + y.toNatClampNeg ≤ n := by
  have h3 := h.2
  have h4 := h2.2
  show x.toInt.toNat + y.toInt.toNat ≤ n
  omega
theorem wk_some {r : Nat} (h : 100000 ≤ r ∧ r < 100020) : wkb (some r) := h
theorem wk_none : wkb none := ⟨Nat.le_refl _, by decide⟩
theorem wk_ex {x : Option Nat} (h : wkb x) (hn : ¬ x = none) : ∃ r, x = some r ∧ 100000 ≤ r ∧ r < 100020 := by
  cases x with
  | none => exact absurd rfl hn
  | some r => exact ⟨r, rfl, h⟩
/-! measures -/
theorem ms_up {x u y : Int32} {a b k H : Int} (e : u = x + y) (hx : iv x a b) (hy : iv y k k) (hd : 0 < k ∧ b + k ≤ 2147483647 ∧ b < H ∧ -2147483648 ≤ a + k) : (H - u.toInt).toNat < (H - x.toInt).toNat := by
  obtain ⟨h1, h2⟩ := hx
  obtain ⟨h3, h4⟩ := hy
  have := z_add (x := x) (y := y) rfl rfl (by omega) (by omega)
  rw [e, this]
  omega
theorem ms_dn {x u y : Int32} {a b k H : Int} (e : u = x + y) (hx : iv x a b) (hy : iv y k k) (hd : k < 0 ∧ -2147483648 ≤ a + k ∧ H < a ∧ b + k ≤ 2147483647) : (u.toInt - H).toNat < (x.toInt - H).toNat := by
  obtain ⟨h1, h2⟩ := hx
  obtain ⟨h3, h4⟩ := hy
  have := z_add (x := x) (y := y) rfl rfl (by omega) (by omega)
  rw [e, this]
  omega
theorem ms_b {x : Int32} {a b H : Int} {n : Nat} (hx : iv x a b) (hd : H - a < (n : Int) ∧ 0 < n) : (H - x.toInt).toNat < n := by
  have := hx.1
  omega
theorem ms_c {x : Int32} {a b H : Int} {n : Nat} (hx : iv x a b) (hd : b - H < (n : Int) ∧ 0 < n) : (x.toInt - H).toNat < n := by
  have := hx.2
  omega
/-! reading behind a write -/
theorem sI_rd {d : Ds} {r j r' j' : Nat} {v : Int32} : dI (sI d r j v) r' j' = if r' = r ∧ j' = j then v else dI d r' j' := by
  by_cases h : r' = r
  · subst h
    rw [sI_at]
    by_cases h2 : j' = j
    · rw [if_pos h2, if_pos ⟨rfl, h2⟩]
    · rw [if_neg h2, if_neg (fun q => h2 q.2)]
  · rw [if_neg (fun q => h q.1)]
    simp [dI, sI, va_up, h]
theorem sF_rd {d : Ds} {r j r' j' : Nat} {v : UInt32} : dF (sF d r j v) r' j' = if r' = r ∧ j' = j then v else dF d r' j' := by
  by_cases h : r' = r
  · subst h
    by_cases h2 : j' = j
    · rw [if_pos ⟨rfl, h2⟩]
      simp [dF, sF, va_up, h2]
    · rw [if_neg (fun q => h2 q.2)]
      simp [dF, sF, va_up, h2]
  · rw [if_neg (fun q => h q.1)]
    simp [dF, sF, va_up, h]
theorem sW_rd {d : Ds} {r j r' j' : Nat} {v : Option Nat} : dW (sW d r j v) r' j' = if r' = r ∧ j' = j then v else dW d r' j' := by
  by_cases h : r' = r
  · subst h
    by_cases h2 : j' = j
    · rw [if_pos ⟨rfl, h2⟩]
      simp [dW, sW, va_up, h2]
    · rw [if_neg (fun q => h2 q.2)]
      simp [dW, sW, va_up, h2]
  · rw [if_neg (fun q => h q.1)]
    simp [dW, sW, va_up, h]
theorem cI_rd {d : Ds} {a r sp dp n r' j' : Nat} : dI (cI d a r sp dp n) r' j' = if r' = r ∧ dp ≤ j' ∧ j' < dp + n then dI d a (sp + (j' - dp)) else dI d r' j' := by
  by_cases h : r' = r
  · subst h
    by_cases h2 : dp ≤ j' ∧ j' < dp + n
    · rw [if_pos ⟨rfl, h2⟩]
      simp [dI, cI, va_up, va_cpy, h2]
    · rw [if_neg (fun q => h2 q.2)]
      simp [dI, cI, va_up, va_cpy, h2]
  · rw [if_neg (fun q => h q.1)]
    simp [dI, cI, va_up, h]
theorem cF_rd {d : Ds} {a r sp dp n r' j' : Nat} : dF (cF d a r sp dp n) r' j' = if r' = r ∧ dp ≤ j' ∧ j' < dp + n then dF d a (sp + (j' - dp)) else dF d r' j' := by
  by_cases h : r' = r
  · subst h
    by_cases h2 : dp ≤ j' ∧ j' < dp + n
    · rw [if_pos ⟨rfl, h2⟩]
      simp [dF, cF, va_up, va_cpy, h2]
    · rw [if_neg (fun q => h2 q.2)]
      simp [dF, cF, va_up, va_cpy, h2]
  · rw [if_neg (fun q => h q.1)]
    simp [dF, cF, va_up, h]
theorem rd_at {d d1 : Ds} {r j : Nat} {v : Int32} {a b : Int} (e : d1 = sI d r j v) (h : iv v a b) : iv (dI d1 r j) a b := by
  rw [e, sI_rd, if_pos ⟨rfl, rfl⟩]
  exact h
theorem rd_sk {d d1 : Ds} {r j r' j' : Nat} {v : Int32} {a b : Int} (e : d1 = sI d r j v) (hn : r' ≠ r ∨ j' ≠ j) (h : iv (dI d r' j') a b) : iv (dI d1 r' j') a b := by
  rw [e, sI_rd, if_neg (fun q => hn.elim (fun z => z q.1) (fun z => z q.2))]
  exact h
theorem cl_ne {cl : Nat → Nat} {r r' c c' : Nat} (h : cl r = c) (h' : cl r' = c') (hd : c' ≠ c) : r' ≠ r := fun e => hd (by rw [← h', e, h])
/-! floats that are numbers -/
abbrev nnF (x : UInt32) : Prop := x &&& 0x7fffffff ≤ 0x7f800000
def nnD (x : UInt64) : Prop := x &&& 0x7fffffffffffffff ≤ 0x7ff0000000000000
theorem cnt_z {x : Int32} {B : Int} (h : iv x 0 B) : iv (0 : Int32) 0 B := by
  have e0 : (0 : Int32).toInt = 0 := by decide
  rw [iv, e0]
  have h1 := h.1
  have h2 := h.2
  omega
theorem iv_sb {x y : Int32} {a b c e h : Int} (hl : y < x) (hx : iv x a b) (hy : iv y c e) (hd : 0 ≤ c ∧ b - c ≤ h) : iv (x - y) 1 h := by
  have h1 := Int32.lt_iff_toInt_lt.mp hl
  obtain ⟨h2, h3⟩ := hx
  obtain ⟨h4, h5⟩ := hy
  have h6 := (ivT x).2
  have := z_sub (x := x) (y := y) rfl rfl (by omega) (by omega)
  rw [iv, this]
  omega
theorem iv_sl {x y : Int32} {a b c e h : Int} (hl : y ≤ x) (hx : iv x a b) (hy : iv y c e) (hd : 0 ≤ c ∧ b - c ≤ h) : iv (x - y) 0 h := by
  have h1 := Int32.le_iff_toInt_le.mp hl
  obtain ⟨h2, h3⟩ := hx
  obtain ⟨h4, h5⟩ := hy
  have h6 := (ivT x).2
  have := z_sub (x := x) (y := y) rfl rfl (by omega) (by omega)
  rw [iv, this]
  omega
theorem iv_s1 {x y : Int32} {a b c e h : Int} (hl : y < x) (hx : iv x a b) (hy : iv y c e) (hd : 0 ≤ c ∧ b - 1 - c ≤ h) : iv (x - 1 - y) 0 h := by
  have h1 := Int32.lt_iff_toInt_lt.mp hl
  obtain ⟨h2, h3⟩ := hx
  obtain ⟨h4, h5⟩ := hy
  have h6 := (ivT x).2
  have e1 : (1 : Int32).toInt = 1 := by decide
  have k1 := z_sub (x := x) (y := 1) rfl e1 (by omega) (by omega)
  have := z_sub (x := x - 1) (y := y) k1 rfl (by omega) (by omega)
  rw [iv, this]
  omega
theorem cp_n {x y : Int32} {a b c e : Int} (hl : y < x) (hx : iv x a b) (hy : iv y c e) (hc : 0 ≤ c) : (x - y - 1).toInt = x.toInt - y.toInt - 1 := by
  have h1 := Int32.lt_iff_toInt_lt.mp hl
  obtain ⟨h2, h3⟩ := hx
  obtain ⟨h4, h5⟩ := hy
  have h6 := (ivT x).2
  have e1 : (1 : Int32).toInt = 1 := by decide
  have k1 := z_sub (x := x) (y := y) rfl rfl (by omega) (by omega)
  exact z_sub (x := x - y) (y := 1) k1 e1 (by omega) (by omega)
theorem cp_a {x y : Int32} {a b c e : Int} {n m : Nat} (hl : y < x) (hx : iv x a b) (hy : iv y c e) (hn : n = m) (hd : 0 ≤ c ∧ b ≤ (m : Int)) : y.toNatClampNeg + (x - y - 1).toNatClampNeg ≤ n := by
  have k := cp_n hl hx hy hd.1
  have h1 := Int32.lt_iff_toInt_lt.mp hl
  have h2 := hx.2
  have h3 := hy.1
  show y.toInt.toNat + (x - y - 1).toInt.toNat ≤ n
  rw [k]
  omega
theorem cp_b {x y : Int32} {a b c e : Int} {n m : Nat} (hl : y < x) (hx : iv x a b) (hy : iv y c e) (hn : n = m) (hd : 0 ≤ c ∧ b ≤ (m : Int)) : (y + 1).toNatClampNeg + (x - y - 1).toNatClampNeg ≤ n := by
  have k := cp_n hl hx hy hd.1
  have h1 := Int32.lt_iff_toInt_lt.mp hl
  have h2 := hx.2
  have h3 := hy.1
  have h6 := (ivT x).2
  have e1 : (1 : Int32).toInt = 1 := by decide
  have k2 := z_add (x := y) (y := 1) rfl e1 (by omega) (by omega)
  show (y + 1).toInt.toNat + (x - y - 1).toInt.toNat ≤ n
  rw [k, k2]
  omega
theorem cnt_zn {x : Int32} {B : Int} (h : 0 ≤ x.toInt ∧ 64 * x.toInt ≤ B) : 0 ≤ (0 : Int32).toInt ∧ 64 * (0 : Int32).toInt ≤ B := by
  have e0 : (0 : Int32).toInt = 0 := by decide
  rw [e0]
  have h1 := h.1
  have h2 := h.2
  omega
theorem now_lo {x : Int32} {B : Int} (h : 0 ≤ x.toInt ∧ 64 * x.toInt ≤ B) : iv x 0 2147483647 := ⟨h.1, (ivT x).2⟩
theorem okE_k {v : Int32} (h : 0 ≤ v.toInt ∧ v.toInt % 64 < 48) : iv ((v - v / 64 * 64) / 2) 0 23 := by
  have e64 : (64 : Int32).toInt = 64 := by decide
  have e2 : (2 : Int32).toInt = 2 := by decide
  have h1 := z_rem (x := v) (y := 64) h.1 (by rw [e64]; decide)
  rw [e64] at h1
  have h2 := h.2
  have h3 : 0 ≤ v.toInt % 64 := Int.emod_nonneg _ (by decide)
  have h4 := z_div (x := v - v / 64 * 64) (y := 2) (by omega) (by rw [e2]; decide)
  rw [iv, h4, h1, e2]
  omega
theorem okE_w {t k z : Int32} (ht : iv t 0 33554375) (hk : iv k 0 23) (hz : iv z 0 1) : 0 ≤ (t * 64 + k * 2 + z).toInt ∧ (t * 64 + k * 2 + z).toInt % 64 < 48 := by
  have e64 : (64 : Int32).toInt = 64 := by decide
  have e2 : (2 : Int32).toInt = 2 := by decide
  obtain ⟨h1, h2⟩ := ht
  obtain ⟨h3, h4⟩ := hk
  obtain ⟨h5, h6⟩ := hz
  have k1 := z_mul (x := t) (y := 64) rfl e64 (by omega) (by omega)
  have k2 := z_mul (x := k) (y := 2) rfl e2 (by omega) (by omega)
  have k3 := z_add (x := t * 64) (y := k * 2) k1 k2 (by omega) (by omega)
  have k4 := z_add (x := t * 64 + k * 2) (y := z) k3 rfl (by omega) (by omega)
  rw [k4]
  omega
