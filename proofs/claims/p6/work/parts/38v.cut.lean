/-! a text's tokens: what both cut -/
def blk (c : Int32) : Bool := c == 32 || c == 9 || c == 10 || c == 13
def ltr (c : Int32) : Bool := decide (97 ≤ c.toInt) && decide (c.toInt ≤ 122)
def dgt (c : Int32) : Bool := decide (48 ≤ c.toInt) && decide (c.toInt ≤ 57)
theorem ltr_i {c : Int32} : ltr c = true ↔ 97 ≤ c.toInt ∧ c.toInt ≤ 122 := by simp [ltr]
theorem dgt_i {c : Int32} : dgt c = true ↔ 48 ≤ c.toInt ∧ c.toInt ≤ 57 := by simp [dgt]
theorem blk_i {c : Int32} : blk c = true ↔ (c = 32 ∨ c = 9 ∨ c = 10 ∨ c = 13) := by simp [blk, or_assoc]
/-- on from p as long as q holds -/
def rnF (q : Int32 → Bool) (t : Nat → Int32) (n : Nat) : Nat → Nat → Nat
  | 0, p => p
  | k + 1, p => if p < n ∧ q (t p) = true then rnF q t n k (p + 1) else p
def rn (q : Int32 → Bool) (t : Nat → Int32) (n p : Nat) : Nat := rnF q t n (n - p) p
section RN
variable {q : Int32 → Bool} {t : Nat → Int32} {n p : Nat}
theorem rn_s (h : p < n) (hq : q (t p) = true) : rn q t n p = rn q t n (p + 1) := by
  unfold rn
  rw [show n - p = (n - (p + 1)) + 1 by omega]
  show (if p < n ∧ q (t p) = true then rnF q t n (n - (p + 1)) (p + 1) else p) = _
  rw [if_pos ⟨h, hq⟩]
theorem rn_e (h : ¬ (p < n ∧ q (t p) = true)) : rn q t n p = p := by
  unfold rn
  cases n - p with
  | zero => rfl
  | succ k =>
    show (if p < n ∧ q (t p) = true then rnF q t n k (p + 1) else p) = p
    rw [if_neg h]
theorem rn_all : ∀ m p, n - p = m → p ≤ rn q t n p ∧ (p ≤ n → rn q t n p ≤ n) ∧ (∀ j, p ≤ j → j < rn q t n p → q (t j) = true) ∧ ¬ (rn q t n p < n ∧ q (t (rn q t n p)) = true) := by
  intro m
  induction m with
  | zero =>
    intro p hm
    have e : rn q t n p = p := rn_e (fun z => by omega)
    rw [e]
    exact ⟨Nat.le_refl _, fun h => h, fun j h1 h2 => absurd h1 (by omega), fun z => by omega⟩
  | succ m ih =>
    intro p hm
    by_cases h : q (t p) = true
    · have e : rn q t n p = rn q t n (p + 1) := rn_s (by omega) h
      obtain ⟨i1, i2, i3, i4⟩ := ih (p + 1) (by omega)
      rw [e]
      refine ⟨by omega, fun _ => i2 (by omega), fun j h1 h2 => ?_, i4⟩
      by_cases z : j = p
      · rw [z]
        exact h
      · exact i3 j (by omega) h2
    · have e : rn q t n p = p := rn_e (fun z => h z.2)
      rw [e]
      exact ⟨Nat.le_refl _, fun h => h, fun j h1 h2 => absurd h1 (by omega), fun z => h z.2⟩
theorem rn_ge : p ≤ rn q t n p := (rn_all _ p rfl).1
theorem rn_le (h : p ≤ n) : rn q t n p ≤ n := (rn_all _ p rfl).2.1 h
theorem rn_in {j : Nat} (h1 : p ≤ j) (h2 : j < rn q t n p) : q (t j) = true := (rn_all _ p rfl).2.2.1 j h1 h2
theorem rn_x : ¬ (rn q t n p < n ∧ q (t (rn q t n p)) = true) := (rn_all _ p rfl).2.2.2
/-- the run is what it is: all of it holds, its end doesn't -/
theorem rn_un {e : Nat} (h1 : p ≤ e) (h2 : ∀ j, p ≤ j → j < e → j < n ∧ q (t j) = true) (h3 : ¬ (e < n ∧ q (t e) = true)) : rn q t n p = e := by
  obtain ⟨m, hm⟩ : ∃ m, e = p + m := ⟨e - p, by omega⟩
  induction m generalizing p with
  | zero =>
    have : e = p := by omega
    subst this
    exact rn_e h3
  | succ m ih =>
    obtain ⟨a, b⟩ := h2 p (Nat.le_refl _) (by omega)
    rw [rn_s a b]
    exact ih (by omega) (fun j q1 q2 => h2 j (by omega) q2) (by omega)
end RN
def en (t : Nat → Int32) (n p : Nat) : Nat := if ltr (t p) = true then rn ltr t n p else if dgt (t p) = true then rn dgt t n p else p + 1
/-- where the tokens stand -/
def ps (t : Nat → Int32) (n : Nat) : Nat → Nat
  | 0 => rn blk t n 0
  | i + 1 => if ps t n i < n then rn blk t n (en t n (ps t n i)) else ps t n i
theorem en_gt {t : Nat → Int32} {n p : Nat} (h : p < n) : p < en t n p ∧ en t n p ≤ n := by
  unfold en
  split
  · rename_i q
    rw [rn_s h q]
    exact ⟨rn_ge, rn_le h⟩
  · split
    · rename_i q
      rw [rn_s h q]
      exact ⟨rn_ge, rn_le h⟩
    · omega
theorem ps_le {t : Nat → Int32} {n : Nat} : ∀ i, ps t n i ≤ n := by
  intro i
  induction i with
  | zero => exact rn_le (Nat.zero_le _)
  | succ i ih =>
    show (if ps t n i < n then rn blk t n (en t n (ps t n i)) else ps t n i) ≤ n
    split
    · rename_i h
      exact rn_le (en_gt h).2
    · exact ih
theorem ps_lt {t : Nat → Int32} {n i : Nat} (h : ps t n i < n) : ps t n i < ps t n (i + 1) := by
  show ps t n i < (if ps t n i < n then rn blk t n (en t n (ps t n i)) else ps t n i)
  rw [if_pos h]
  exact Nat.lt_of_lt_of_le (en_gt h).1 rn_ge
theorem ps_b {t : Nat → Int32} {n i : Nat} (h : ps t n i < n) : blk (t (ps t n i)) = false := by
  have k : ¬ (ps t n i < n ∧ blk (t (ps t n i)) = true) := by
    cases i with
    | zero => exact rn_x
    | succ i =>
      by_cases q : ps t n i < n
      · have e : ps t n (i + 1) = rn blk t n (en t n (ps t n i)) := if_pos q
        rw [e]
        exact rn_x
      · exfalso
        have e : ps t n (i + 1) = ps t n i := if_neg q
        omega
  exact Bool.eq_false_iff.mpr (fun z => k ⟨h, z⟩)
/-- the word spelt by l letters from p -/
def wsp (t : Nat → Int32) (p l k : Nat) : Bool := l == wsl k && (List.range l).all (fun j => t (p + j) == wsb k j)
theorem wsp_i {t : Nat → Int32} {p l k : Nat} : wsp t p l k = true ↔ l = wsl k ∧ ∀ j, j < l → t (p + j) = wsb k j := by
  simp [wsp]
def wdF (t : Nat → Int32) (p l : Nat) : Nat → Nat
  | 0 => 0
  | k + 1 => if wsp t p l k = true then k + 1 else wdF t p l k
theorem wdF_le {t : Nat → Int32} {p l : Nat} : ∀ k, wdF t p l k ≤ k := by
  intro k
  induction k with
  | zero => exact Nat.le_refl _
  | succ k ih =>
    show (if wsp t p l k = true then k + 1 else wdF t p l k) ≤ k + 1
    split <;> omega
def wd (t : Nat → Int32) (n p : Nat) : Nat := wdF t p (rn ltr t n p - p) 20
def vlF (t : Nat → Int32) (p : Nat) : Nat → Int32
  | 0 => 0
  | k + 1 => vlF t p k * 10 + (t (p + k) - 48)
def vl (t : Nat → Int32) (n p : Nat) : Int32 := if dgt (t p) = true then vlF t p (min (rn dgt t n p - p) 4) else 0
/-- the kind as the model has it -/
def kdS (t : Nat → Int32) (n p : Nat) : Int32 := if ltr (t p) = true then (if wd t n p = 0 then (if 8 < rn ltr t n p - p then 3 else 1) else Int32.ofNat (19 + wd t n p)) else if dgt (t p) = true then (if rn dgt t n p - p ≤ 4 then 2 else 3) else if t p = 59 then 4 else 3
/-- as the class has it -/
def kdC (t : Nat → Int32) (n p : Nat) : Int32 := if ltr (t p) = true then 1 else if dgt (t p) = true then (if rn dgt t n p - p ≤ 4 then 2 else 4) else if t p = 59 then 3 else 4
def KS (t : Nat → Int32) (n i : Nat) : Int32 := if ps t n i < n then kdS t n (ps t n i) else 0
def VS (t : Nat → Int32) (n i : Nat) : Int32 := if ps t n i < n then vl t n (ps t n i) else 0
theorem tn {y : Int32} {p : Nat} (h : y.toInt = (p : Int)) : y.toNatClampNeg = p := by
  show y.toInt.toNat = p
  omega
theorem gq {g : Gs} (hS : Shp g) {r j e x : Nat} (h : rfr r j = e + 1) (q : gR g r j = some x) : x = e := by
  rw [hS.2.2 r j (by omega), h] at q
  cases q
  rfl
theorem ltrC_e {N : Nat} {g : Gs} {x0 : Int32} {d : Ds} : pc (fX8_isLetter N g x0 d) (fun u d' => d' = d ∧ (u = 1 ∧ ltr x0 = true ∨ u = 0 ∧ ¬ ltr x0 = true)) := by
  have e1 : (97 : Int32).toInt = 97 := by decide
  have e2 : (122 : Int32).toInt = 122 := by decide
  have no : (x0.toInt < 97 ∨ 122 < x0.toInt) → pc (fX8_isLetter_J16 N g x0 d) (fun u d' => d' = d ∧ (u = 1 ∧ ltr x0 = true ∨ u = 0 ∧ ¬ ltr x0 = true)) := by
    intro h
    unfold fX8_isLetter_J16 fX8_isLetter_J17
    exact pc_gd (fun _ => pc_some ⟨rfl, Or.inr ⟨rfl, fun z => by have := ltr_i.mp z; omega⟩⟩)
  unfold fX8_isLetter
  refine pc_if (fun c => no (Or.inl (by have := Int32.lt_iff_toInt_lt.mp c; omega))) (fun c1 => pc_if (fun c => no (Or.inr (by have := Int32.lt_iff_toInt_lt.mp c; omega))) (fun c2 => ?_))
  unfold fX8_isLetter_J17
  exact pc_gd (fun _ => pc_some ⟨rfl, Or.inl ⟨rfl, ltr_i.mpr ⟨by have := Int32.le_iff_toInt_le.mp (nlt c1); omega, by have := Int32.le_iff_toInt_le.mp (nlt c2); omega⟩⟩⟩)
theorem dgtC_e {N : Nat} {g : Gs} {x0 : Int32} {d : Ds} : pc (fX8_isDigit N g x0 d) (fun u d' => d' = d ∧ (u = 1 ∧ dgt x0 = true ∨ u = 0 ∧ ¬ dgt x0 = true)) := by
  have e1 : (48 : Int32).toInt = 48 := by decide
  have e2 : (57 : Int32).toInt = 57 := by decide
  have no : (x0.toInt < 48 ∨ 57 < x0.toInt) → pc (fX8_isDigit_J16 N g x0 d) (fun u d' => d' = d ∧ (u = 1 ∧ dgt x0 = true ∨ u = 0 ∧ ¬ dgt x0 = true)) := by
    intro h
    unfold fX8_isDigit_J16 fX8_isDigit_J17
    exact pc_gd (fun _ => pc_some ⟨rfl, Or.inr ⟨rfl, fun z => by have := dgt_i.mp z; omega⟩⟩)
  unfold fX8_isDigit
  refine pc_if (fun c => no (Or.inl (by have := Int32.lt_iff_toInt_lt.mp c; omega))) (fun c1 => pc_if (fun c => no (Or.inr (by have := Int32.lt_iff_toInt_lt.mp c; omega))) (fun c2 => ?_))
  unfold fX8_isDigit_J17
  exact pc_gd (fun _ => pc_some ⟨rfl, Or.inl ⟨rfl, dgt_i.mpr ⟨by have := Int32.le_iff_toInt_le.mp (nlt c1); omega, by have := Int32.le_iff_toInt_le.mp (nlt c2); omega⟩⟩⟩)
/-! the class cuts -/
theorem skip_e {g : Gs} {x2 : Int32} {d : Ds} {n p : Nat} (hn : (dI d 3 5).toInt = (n : Int)) (h2 : n ≤ 2000) (hx : x2.toInt = (p : Int)) (hp : p ≤ n) : pc (fX8_skipBlanks 10000 g 3 1 x2 d) (fun u d' => d' = d ∧ u.toInt = ((rn blk (fun j => dI d 1 j) n p : Nat) : Int)) := by
  have e1 : (1 : Int32).toInt = 1 := by decide
  unfold fX8_skipBlanks fX8_skipBlanks_L2
  refine pc_lp (fun a => a.2 = d ∧ ∃ q : Nat, a.1.toInt = (q : Int) ∧ q ≤ n ∧ rn blk (fun j => dI d 1 j) n q = rn blk (fun j => dI d 1 j) n p) ?_ 10000 (x2, d) ⟨rfl, p, hx, hp, rfl⟩
  rintro K ⟨y3, dd⟩ ⟨e, q, hy, hq, hr⟩ hK
  dsimp only at e hy hK ⊢
  subst e
  have ty := tn hy
  have go : q < n → blk (dI dd 1 q) = true → pc (fX8_skipBlanks_J42 10000 g 3 1 x2 K y3 dd) (fun u d' => d' = dd ∧ u.toInt = ((rn blk (fun j => dI dd 1 j) n p : Nat) : Int)) := by
    intro h hb
    unfold fX8_skipBlanks_J42
    refine pc_bd (fun u6 e6 => ?_)
    have z := z_add (x := y3) (y := 1) hy e1 (by omega) (by omega)
    refine hK _ ⟨rfl, q + 1, by rw [e6, z]; omega, by omega, ?_⟩
    rw [← hr]
    exact (rn_s h hb).symm
  have st : ¬ (q < n ∧ blk (dI dd 1 q) = true) → pc (fX8_skipBlanks_J48 10000 g 3 1 x2 y3 dd) (fun u d' => d' = dd ∧ u.toInt = ((rn blk (fun j => dI dd 1 j) n p : Nat) : Int)) := by
    intro h
    unfold fX8_skipBlanks_J48
    refine pc_some ⟨rfl, ?_⟩
    rw [← hr, rn_e h]
    exact hy
  unfold fX8_skipBlanks_B2
  refine pc_gd (fun _ => pc_if (fun c => st ?_) (fun c => ?_))
  · have := Int32.le_iff_toInt_le.mp c
    omega
  · have hlt : q < n := by
      have := Int32.lt_iff_toInt_lt.mp (nle c)
      omega
    rw [ty]
    refine pc_gd (fun _ => pc_gd (fun _ => pc_if (fun c => go hlt (blk_i.mpr (Or.inl c))) (fun c1 => pc_if (fun c => go hlt (blk_i.mpr (Or.inr (Or.inl c)))) (fun c2 => pc_if (fun c => go hlt (blk_i.mpr (Or.inr (Or.inr (Or.inl c))))) (fun c3 => pc_if (fun c => go hlt (blk_i.mpr (Or.inr (Or.inr (Or.inr c))))) (fun c4 => st ?_))))))
    intro z
    rcases blk_i.mp z.2 with k | k | k | k
    · exact c1 k
    · exact c2 k
    · exact c3 k
    · exact c4 k
def cbb (b : Int32) : Int32 := ((b &&& 255).toUInt32 % 65536).toInt32
theorem cbb_w : ∀ k, k < 20 → ∀ j, j < wsl k → cbb (wsb k j) = wsb k j := by decide +kernel
theorem charAt_e {N : Nat} {g : Gs} {x0 : Nat} {x1 : Int32} {d : Ds} : pc (fJ0_charAt_5068e N g x0 x1 d) (fun u d' => d' = d ∧ u = cbb (wsb (x0 + 20 - 100041) x1.toNatClampNeg)) := by
  unfold fJ0_charAt_5068e
  refine pc_gd (fun _ => ?_)
  refine pc_cb (P := fun u d' => d' = d) ?_ (fun u d' e => ?_)
  · unfold fJ0_isLatin1_aae02
    have j18 : ∀ z, pc (fJ0_isLatin1_aae02_J18 N g x0 z d) (fun u d' => d' = d) := by
      intro z
      unfold fJ0_isLatin1_aae02_J18
      exact pc_gd (fun _ => pc_some rfl)
    have j17 : pc (fJ0_isLatin1_aae02_J17 N g x0 d) (fun u d' => d' = d) := by
      unfold fJ0_isLatin1_aae02_J17
      exact j18 0
    exact pc_if (fun _ => j17) (fun _ => pc_gd (fun _ => pc_if (fun _ => j18 1) (fun _ => j17)))
  · subst e
    refine pc_if (fun _ => pc_none) (fun _ => ?_)
    refine pc_cb (P := fun u d'' => d'' = d' ∧ u = cbb (wsb (x0 + 20 - 100041) x1.toNatClampNeg)) ?_ (fun u d'' r => pc_gd (fun _ => pc_some r))
    unfold fJ1_charAt_3b067
    refine pc_gd (fun _ => ?_)
    refine pc_cv (P := fun _ d'' => d'' = d') ?_ (fun d'' e => ?_)
    · unfold fJ0_checkIndex_df160
      refine pc_cb (P := fun _ d'' => d'' = d') ?_ (fun u d'' e => pc_some e)
      unfold fJ3_checkIndex_8e157
      have j9 : pc (fJ3_checkIndex_8e157_J9 N g x1 (Int32.ofNat (wsl (x0 + 20 - 100041))) none d') (fun _ d'' => d'' = d') := by
        unfold fJ3_checkIndex_8e157_J9
        exact pc_none
      exact pc_if (fun _ => j9) (fun _ => pc_if (fun _ => pc_some rfl) (fun _ => j9))
    · subst e
      exact pc_gd (fun _ => pc_gd (fun _ => pc_some ⟨rfl, rfl⟩))
theorem strlen_e {N : Nat} {g : Gs} {x0 : Nat} {d : Ds} : pc (fJ0_length_8abf5 N g x0 d) (fun u d' => d' = d ∧ u = Int32.ofNat (wsl (x0 + 20 - 100041))) := by
  unfold fJ0_length_8abf5
  refine pc_gd (fun _ => pc_gd (fun _ => ?_))
  refine pc_cb (P := fun u d' => d' = d ∧ u = 0) ?_ (fun u d' r => ?_)
  · unfold fJ0_coder_7d493
    have j14 : ∀ z, pc (fJ0_coder_7d493_J14 N g x0 z d) (fun u d' => d' = d ∧ u = 0) := by
      intro z
      unfold fJ0_coder_7d493_J14
      exact pc_gd (fun h => pc_some ⟨rfl, h⟩)
    exact pc_if (fun _ => j14 1) (fun _ => pc_gd (fun _ => j14 0))
  · obtain ⟨e, eu⟩ := r
    subst e
    subst eu
    exact pc_some ⟨rfl, shr_z _⟩
theorem spelt_e {g : Gs} {k : Nat} (hk : k < 20) {x2 x3 : Int32} {p l : Nat} (h2 : x2.toInt = (p : Int)) (h3 : x3.toInt = ((p + l : Nat) : Int)) (hl : p + l ≤ 2000) {d : Ds} : pc (fX8_isSpelt 10000 g (100000 + k + 21) 1 x2 x3 d) (fun u d' => d' = d ∧ (u = 1 ∧ wsp (fun j => dI d 1 j) p l k = true ∨ u = 0 ∧ ¬ wsp (fun j => dI d 1 j) p l k = true)) := by
  have e1 : (1 : Int32).toInt = 1 := by decide
  have hw := wsl_8 k
  have ex : 100000 + k + 21 + 20 - 100041 = k := by omega
  have ew : (Int32.ofNat (wsl k)).toInt = wsl k := by
    have q := iv_of (n := wsl k) (by omega)
    exact Int.le_antisymm q.2 q.1
  have q23 := z_sub (x := x3) (y := x2) h3 h2 (by omega) (by omega)
  unfold fX8_isSpelt
  refine pc_gd (fun _ => pc_cb strlen_e (fun u4 d2 r => ?_))
  obtain ⟨e, eu⟩ := r
  subst e
  rw [eu, ex]
  refine pc_if (fun c => ?_) (fun c => ?_)
  · have hl2 : l = wsl k := by
      have := congrArg Int32.toInt c
      omega
    unfold fX8_isSpelt_L15
    refine pc_lp (fun a => a.2 = d2 ∧ ∃ j : Nat, a.1.toInt = (j : Int) ∧ j ≤ l ∧ ∀ i, i < j → dI d2 1 (p + i) = wsb k i) ?_ 10000 (0, d2) ⟨rfl, 0, (by decide : (0 : Int32).toInt = ((0 : Nat) : Int)), by omega, fun i hi => absurd hi (by omega)⟩
    rintro K ⟨y4, dd⟩ ⟨e, j, hy, hj, ha⟩ hK
    dsimp only at e hy hK ⊢
    subst e
    unfold fX8_isSpelt_B15
    refine pc_gd (fun _ => pc_cb strlen_e (fun u9 d7 r => ?_))
    obtain ⟨e, eu⟩ := r
    subst e
    rw [eu, ex]
    refine pc_if (fun c => ?_) (fun c => ?_)
    · have := Int32.le_iff_toInt_le.mp c
      have hjl : j = l := by omega
      subst hjl
      exact pc_some ⟨rfl, Or.inl ⟨rfl, wsp_i.mpr ⟨hl2, ha⟩⟩⟩
    · have c2 := Int32.lt_iff_toInt_lt.mp (nle c)
      have hjl : j < l := by omega
      refine pc_cb charAt_e (fun u13 d11 r => ?_)
      obtain ⟨e, eu⟩ := r
      subst e
      rw [ex, tn hy, cbb_w k hk j (by omega)] at eu
      have z := z_add (x := x2) (y := y4) h2 hy (by omega) (by omega)
      have zt : (x2 + y4).toNatClampNeg = p + j := tn (by rw [z]; omega)
      rw [zt]
      refine pc_gd (fun _ => pc_gd (fun _ => pc_if (fun c => ?_) (fun c => ?_)))
      · refine pc_bd (fun u17 e17 => ?_)
        have z2 := z_add (x := y4) (y := 1) hy e1 (by omega) (by omega)
        refine hK _ ⟨rfl, j + 1, by rw [e17, z2]; omega, by omega, fun i hi => ?_⟩
        by_cases zi : i = j
        · rw [zi, ← eu]
          exact c.symm
        · exact ha i (by omega)
      · refine pc_some ⟨rfl, Or.inr ⟨rfl, fun z => ?_⟩⟩
        have := (wsp_i.mp z).2 j hjl
        exact c (eu.trans this.symm)
  · refine pc_some ⟨rfl, Or.inr ⟨rfl, fun z => c ?_⟩⟩
    have := (wsp_i.mp z).1
    apply Int32.toInt_inj.mp
    rw [ew, q23]
    omega
theorem cutWord_e {g : Gs} (hS : Shp g) {x2 : Int32} {d : Ds} {n p s : Nat} (hn : (dI d 3 5).toInt = (n : Int)) (h2 : n ≤ 2000) (hx : x2.toInt = (p : Int)) (hp : p ≤ n) (hs : (dI d 3 4).toInt = (s : Int)) : pc (fX8_cutWord 10000 g 3 1 x2 d) (fun u d' => u.toInt = ((rn ltr (fun j => dI d 1 j) n p : Nat) : Int) ∧ (∀ r j, dI d' r j = if r = 4 ∧ j = s then 1 else dI d r j) ∧ ∀ r j, dW d' r j = if r = 7 ∧ j = s ∧ wd (fun j => dI d 1 j) n p ≠ 0 then some (100000 + (wd (fun j => dI d 1 j) n p - 1)) else dW d r j) := by
  have e1 : (1 : Int32).toInt = 1 := by decide
  obtain ⟨t, ht⟩ : ∃ t : Nat → Int32, t = fun j => dI d 1 j := ⟨_, rfl⟩
  have tt : ∀ j, dI d 1 j = t j := fun j => by rw [ht]
  rw [← ht]
  unfold fX8_cutWord fX8_cutWord_L2
  refine pc_lp (fun a => a.2 = d ∧ ∃ q : Nat, a.1.toInt = (q : Int) ∧ p ≤ q ∧ q ≤ n ∧ ∀ j, p ≤ j → j < q → j < n ∧ ltr (t j) = true) ?_ 10000 (x2, d) ⟨rfl, p, hx, Nat.le_refl _, hp, fun j h1 h2 => absurd h1 (by omega)⟩
  rintro K ⟨y3, dd⟩ ⟨e, q, hy, hpq, hq, hr⟩ hK
  dsimp only at e hy hK ⊢
  subst e
  have ty := tn hy
  have st : ¬ (q < n ∧ ltr (t q) = true) → pc (fX8_cutWord_J25 10000 g 3 1 x2 y3 dd) (fun u d' => u.toInt = ((rn ltr t n p : Nat) : Int) ∧ (∀ r j, dI d' r j = if r = 4 ∧ j = s then 1 else dI dd r j) ∧ ∀ r j, dW d' r j = if r = 7 ∧ j = s ∧ wd t n p ≠ 0 then some (100000 + (wd t n p - 1)) else dW dd r j) := by
    intro h
    have er : rn ltr t n p = q := rn_un hpq hr h
    have ew : wd t n p = wdF t p (q - p) 20 := by
      unfold wd
      rw [er]
    rw [er, ew]
    unfold fX8_cutWord_J25
    refine pc_gd (fun _ => pc_ob (fun r4 e4 => ?_))
    have := gq hS (e := 4) (by decide +kernel) e4
    subst this
    refine pc_gd (fun _ => pc_gd (fun _ => pc_bd (fun d7 e7 => ?_)))
    rw [tn hs] at e7
    unfold fX8_cutWord_L48
    have f7 : ∀ r j, dI d7 r j = if r = 4 ∧ j = s then 1 else dI dd r j := fun r j => by rw [e7, sI_rd]
    have w7 : ∀ r j, dW d7 r j = dW dd r j := fun r j => by rw [e7]; rfl
    refine pc_lp (fun a => a.1 = y3 ∧ a.2.1 = 100020 ∧ a.2.2.1 = 20 ∧ ∃ k : Nat, a.2.2.2.1.toInt = (k : Int) ∧ k ≤ 20 ∧ (∀ r j, dI a.2.2.2.2 r j = if r = 4 ∧ j = s then 1 else dI dd r j) ∧ ∀ r j, dW a.2.2.2.2 r j = if r = 7 ∧ j = s ∧ wdF t p (q - p) k ≠ 0 then some (100000 + (wdF t p (q - p) k - 1)) else dW dd r j) ?_ 10000 (y3, 100020, 20, 0, d7) ⟨rfl, rfl, rfl, 0, (by decide : (0 : Int32).toInt = ((0 : Nat) : Int)), by omega, f7, fun r j => by show dW d7 r j = _; rw [w7, if_neg (fun z => z.2.2 rfl)]⟩
    rintro K2 ⟨z3, z4, z5, y6, de⟩ ⟨q3, q4, q5, k, hk, hk2, hI, hW⟩ hK2
    dsimp only at q3 q4 q5 hk hI hW hK2 ⊢
    subst q3
    subst q4
    subst q5
    have e20 : (20 : Int32).toInt = 20 := by decide
    unfold fX8_cutWord_B48
    refine pc_if (fun c => ?_) (fun c => ?_)
    · have := Int32.le_iff_toInt_le.mp c
      have : k = 20 := by omega
      subst this
      exact pc_some ⟨hy, hI, hW⟩
    · have c2 := Int32.lt_iff_toInt_lt.mp (nle c)
      have hk3 : k < 20 := by omega
      have z6 := z_add (x := y6) (y := 1) hk e1 (by omega) (by omega)
      have tj : ∀ j, dI de 1 j = t j := fun j => by rw [hI, if_neg (fun z => absurd z.1 (by decide))]; exact tt j
      have j87 : ∀ df, (∀ r j, dI df r j = if r = 4 ∧ j = s then 1 else dI dd r j) → (∀ r j, dW df r j = if r = 7 ∧ j = s ∧ wdF t p (q - p) (k + 1) ≠ 0 then some (100000 + (wdF t p (q - p) (k + 1) - 1)) else dW dd r j) → pc (fX8_cutWord_J87 10000 g 3 1 x2 K2 z3 100020 20 y6 df) (fun u d' => u.toInt = ((q : Nat) : Int) ∧ (∀ r j, dI d' r j = if r = 4 ∧ j = s then 1 else dI dd r j) ∧ ∀ r j, dW d' r j = if r = 7 ∧ j = s ∧ wdF t p (q - p) 20 ≠ 0 then some (100000 + (wdF t p (q - p) 20 - 1)) else dW dd r j) := by
        intro df a1 a2
        unfold fX8_cutWord_J87
        refine pc_bd (fun u16 e16 => ?_)
        exact hK2 _ ⟨rfl, rfl, rfl, k + 1, by rw [e16, z6]; omega, by omega, a1, a2⟩
      have es : wdF t p (q - p) (k + 1) = if wsp t p (q - p) k = true then k + 1 else wdF t p (q - p) k := rfl
      rw [tn hk]
      refine pc_gd (fun _ => pc_gd (fun _ => pc_gd (fun _ => pc_cb (spelt_e (k := k) hk3 (p := p) (l := q - p) hx (by rw [hy]; omega) (by omega)) (fun u14 d12 r => ?_))))
      obtain ⟨e, hu⟩ := r
      subst e
      have tf : (fun j => dI d12 1 j) = t := funext tj
      rw [tf] at hu
      rcases hu with ⟨hu, hw⟩ | ⟨hu, hw⟩ <;> rw [hu]
      · refine pc_if (fun z => absurd z (by decide)) (fun _ => ?_)
        refine pc_gd (fun _ => pc_ob (fun r18 e18 => ?_))
        have := gq hS (e := 7) (by decide +kernel) e18
        subst this
        have hs4 : dI d12 3 4 = dI dd 3 4 := by rw [hI, if_neg (fun z => absurd z.1 (by decide))]
        rw [hs4, tn hs]
        refine pc_gd (fun _ => pc_gd (fun _ => pc_gd (fun _ => pc_bd (fun d22 e22 => ?_))))
        refine j87 d22 (fun r j => by rw [e22]; exact hI r j) (fun r j => ?_)
        rw [es, if_pos hw, e22, sW_rd]
        by_cases z : r = 7 ∧ j = s
        · rw [if_pos z, if_pos ⟨z.1, z.2, by omega⟩, Nat.add_sub_cancel]
        · rw [if_neg z, if_neg (fun y => z ⟨y.1, y.2.1⟩), hW, if_neg (fun y => z ⟨y.1, y.2.1⟩)]
      · refine pc_if (fun _ => ?_) (fun z => absurd rfl z)
        refine j87 d12 hI (fun r j => ?_)
        rw [es, if_neg hw]
        exact hW r j
  unfold fX8_cutWord_B2
  refine pc_gd (fun _ => pc_if (fun c => st ?_) (fun c => ?_))
  · have := Int32.le_iff_toInt_le.mp c
    omega
  · have hlt : q < n := by
      have := Int32.lt_iff_toInt_lt.mp (nle c)
      omega
    rw [ty, tt]
    refine pc_gd (fun _ => pc_gd (fun _ => pc_cb ltrC_e (fun u27 d25 r => ?_)))
    obtain ⟨e, hu⟩ := r
    subst e
    rcases hu with ⟨hu, hl⟩ | ⟨hu, hl⟩ <;> rw [hu]
    · refine pc_if (fun z => absurd z (by decide)) (fun _ => pc_bd (fun u29 e29 => ?_))
      have z := z_add (x := y3) (y := 1) hy e1 (by omega) (by omega)
      refine hK _ ⟨rfl, q + 1, by rw [e29, z]; omega, by omega, by omega, fun j h1 h3 => ?_⟩
      by_cases zj : j = q
      · rw [zj]
        exact ⟨hlt, hl⟩
      · exact hr j h1 (by omega)
    · exact pc_if (fun _ => st (fun z => hl z.2)) (fun z => absurd rfl z)
theorem cutInt_e {g : Gs} (hS : Shp g) {x2 : Int32} {d : Ds} {n p s : Nat} (hn : (dI d 3 5).toInt = (n : Int)) (h2 : n ≤ 2000) (hx : x2.toInt = (p : Int)) (hp : p ≤ n) (hs : (dI d 3 4).toInt = (s : Int)) : pc (fX8_cutInt 10000 g 3 1 x2 d) (fun u d' => u.toInt = ((rn dgt (fun j => dI d 1 j) n p : Nat) : Int) ∧ (∀ r j, dI d' r j = if r = 6 ∧ j = s then vlF (fun j => dI d 1 j) p (min (rn dgt (fun j => dI d 1 j) n p - p) 4) else if r = 4 ∧ j = s then (if rn dgt (fun j => dI d 1 j) n p - p ≤ 4 then 2 else 4) else dI d r j) ∧ ∀ r j, dW d' r j = dW d r j) := by
  have e1 : (1 : Int32).toInt = 1 := by decide
  have e4 : (4 : Int32).toInt = 4 := by decide
  obtain ⟨t, ht⟩ : ∃ t : Nat → Int32, t = fun j => dI d 1 j := ⟨_, rfl⟩
  have tt : ∀ j, dI d 1 j = t j := fun j => by rw [ht]
  rw [← ht]
  unfold fX8_cutInt fX8_cutInt_L5
  refine pc_lp (fun a => a.2.2 = d ∧ ∃ q : Nat, a.1.toInt = (q : Int) ∧ p ≤ q ∧ q ≤ n ∧ (∀ j, p ≤ j → j < q → j < n ∧ dgt (t j) = true) ∧ a.2.1 = vlF t p (min (q - p) 4)) ?_ 10000 (x2, 0, d) ⟨rfl, p, hx, Nat.le_refl _, hp, fun j h1 h2 => absurd h1 (by omega), by rw [Nat.sub_self]; rfl⟩
  rintro K ⟨y3, y4, dd⟩ ⟨e, q, hy, hpq, hq, hr, hv⟩ hK
  dsimp only at e hy hv hK ⊢
  subst e
  have ty := tn hy
  have q32 := z_sub (x := y3) (y := x2) hy hx (by omega) (by omega)
  have st : ¬ (q < n ∧ dgt (t q) = true) → pc (fX8_cutInt_J49 10000 g 3 1 x2 y3 y4 dd) (fun u d' => u.toInt = ((rn dgt t n p : Nat) : Int) ∧ (∀ r j, dI d' r j = if r = 6 ∧ j = s then vlF t p (min (rn dgt t n p - p) 4) else if r = 4 ∧ j = s then (if rn dgt t n p - p ≤ 4 then 2 else 4) else dI dd r j) ∧ ∀ r j, dW d' r j = dW dd r j) := by
    intro h
    have er : rn dgt t n p = q := rn_un hpq hr h
    rw [er, ← hv]
    have j69 : ∀ z0 : Int32, (z0 = if q - p ≤ 4 then 2 else 4) → pc (fX8_cutInt_J69 10000 g 3 1 x2 y3 y4 z0 (dI dd 3 4) 4 dd) (fun u d' => u.toInt = ((q : Nat) : Int) ∧ (∀ r j, dI d' r j = if r = 6 ∧ j = s then y4 else if r = 4 ∧ j = s then (if q - p ≤ 4 then 2 else 4) else dI dd r j) ∧ ∀ r j, dW d' r j = dW dd r j) := by
      intro z0 hz
      unfold fX8_cutInt_J69
      rw [tn hs]
      refine pc_gd (fun _ => pc_gd (fun _ => pc_bd (fun d8 e8 => pc_gd (fun _ => pc_ob (fun r10 e10 => ?_)))))
      have := gq hS (e := 6) (by decide +kernel) e10
      subst this
      have hs8 : dI d8 3 4 = dI dd 3 4 := rdq e8 (Or.inl (by decide))
      rw [hs8, tn hs]
      refine pc_gd (fun _ => pc_gd (fun _ => pc_bd (fun d13 e13 => pc_some ⟨hy, fun r j => ?_, fun r j => ?_⟩)))
      · rw [e13, sI_rd, e8, sI_rd, hz]
      · rw [e13, e8]
        rfl
    unfold fX8_cutInt_J49
    refine pc_gd (fun _ => pc_ob (fun r4 er4 => ?_))
    have := gq hS (e := 4) (by decide +kernel) er4
    subst this
    refine pc_if (fun c => j69 4 ?_) (fun c => j69 2 ?_)
    · have := Int32.lt_iff_toInt_lt.mp c
      rw [if_neg (by omega)]
    · have := Int32.le_iff_toInt_le.mp (nlt c)
      rw [if_pos (by omega)]
  unfold fX8_cutInt_B5
  refine pc_gd (fun _ => pc_if (fun c => st ?_) (fun c => ?_))
  · have := Int32.le_iff_toInt_le.mp c
    omega
  · have hlt : q < n := by
      have := Int32.lt_iff_toInt_lt.mp (nle c)
      omega
    rw [ty, tt]
    refine pc_gd (fun _ => pc_gd (fun _ => pc_cb dgtC_e (fun u18 d16 r => ?_)))
    obtain ⟨e, hu⟩ := r
    subst e
    have z := z_add (x := y3) (y := 1) hy e1 (by omega) (by omega)
    rcases hu with ⟨hu, hl⟩ | ⟨hu, hl⟩ <;> rw [hu]
    · have hr2 : ∀ j, p ≤ j → j < q + 1 → j < n ∧ dgt (t j) = true := by
        intro j h1 h3
        by_cases zj : j = q
        · rw [zj]
          exact ⟨hlt, hl⟩
        · exact hr j h1 (by omega)
      refine pc_if (fun z => absurd z (by decide)) (fun _ => pc_if (fun c => ?_) (fun c => ?_))
      · have := Int32.le_iff_toInt_le.mp c
        unfold fX8_cutInt_J43
        refine pc_bd (fun u21 e21 => ?_)
        refine hK _ ⟨rfl, q + 1, by rw [e21, z]; omega, by omega, by omega, hr2, ?_⟩
        dsimp only
        rw [hv, show min (q + 1 - p) 4 = min (q - p) 4 by omega]
      · have c2 := Int32.lt_iff_toInt_lt.mp (nle c)
        refine pc_bd (fun u22 e22 => ?_)
        unfold fX8_cutInt_J43
        refine pc_bd (fun u21 e21 => ?_)
        refine hK _ ⟨rfl, q + 1, by rw [e21, z]; omega, by omega, by omega, hr2, ?_⟩
        dsimp only
        rw [e22, tt, hv, show min (q + 1 - p) 4 = min (q - p) 4 + 1 by omega]
        show _ = vlF t p (min (q - p) 4) * 10 + (t (p + min (q - p) 4) - 48)
        rw [show p + min (q - p) 4 = q by omega]
    · exact pc_if (fun _ => st (fun z => hl z.2)) (fun z => absurd rfl z)
def wdo (t : Nat → Int32) (n p : Nat) : Option Nat := if ltr (t p) = true ∧ wd t n p ≠ 0 then some (100000 + (wd t n p - 1)) else none
/-- the class's token -/
def TKC (t : Nat → Int32) (n : Nat) (d : Ds) (i : Nat) : Prop := ps t n i < n ∧ dI d 4 i = kdC t n (ps t n i) ∧ (dI d 5 i).toInt = ((ps t n i : Nat) : Int) ∧ dI d 6 i = vl t n (ps t n i) ∧ dW d 7 i = wdo t n (ps t n i)
def CT (t : Nat → Int32) (n : Nat) (d : Ds) : Prop := ∃ s : Nat, (dI d 3 4).toInt = (s : Int) ∧ s ≤ 401 ∧ (dI d 3 5).toInt = (n : Int) ∧ (∀ i, i < s → TKC t n d i) ∧ (s = 401 ∨ ¬ ps t n s < n)
/-- what a token's telling touches -/
def FR (d df : Ds) (s : Nat) : Prop := (∀ r j, ¬ ((r = 4 ∨ r = 5 ∨ r = 6) ∧ j = s) → dI df r j = dI d r j) ∧ ∀ r j, ¬ (r = 7 ∧ j = s) → dW df r j = dW d r j
theorem FR.rf {d : Ds} {s : Nat} : FR d d s := ⟨fun _ _ _ => rfl, fun _ _ _ => rfl⟩
theorem FR.i {d df de : Ds} {s r : Nat} {v : Int32} (h : FR d df s) (e : de = sI df r s v) (hr : r = 4 ∨ r = 5 ∨ r = 6) : FR d de s := by
  subst e
  refine ⟨fun r' j hn => ?_, h.2⟩
  rw [sI_rd, if_neg (fun z => hn ⟨by rw [z.1]; exact hr, z.2⟩)]
  exact h.1 r' j hn
theorem FR.w {d df de : Ds} {s : Nat} {v : Option Nat} (h : FR d df s) (e : de = sW df 7 s v) : FR d de s := by
  subst e
  refine ⟨h.1, fun r' j hn => ?_⟩
  rw [sW_rd, if_neg hn]
  exact h.2 r' j hn
theorem TKC.fr {t : Nat → Int32} {n : Nat} {d df : Ds} {s i : Nat} (h : TKC t n d i) (f : FR d df s) (hi : i ≠ s) : TKC t n df i := by
  obtain ⟨h1, h2, h3, h4, h5⟩ := h
  exact ⟨h1, by rw [f.1 4 i (fun z => hi z.2)]; exact h2, by rw [f.1 5 i (fun z => hi z.2)]; exact h3, by rw [f.1 6 i (fun z => hi z.2)]; exact h4, by rw [f.2 7 i (fun z => hi z.2)]; exact h5⟩
theorem ltr_dgt {c : Int32} (h : ltr c = true) : ¬ dgt c = true := fun z => by
  have h1 := ltr_i.mp h
  have h2 := dgt_i.mp z
  omega
theorem cut_e {g : Gs} (hS : Shp g) {x2 : Int32} {d : Ds} {n : Nat} (hx : x2.toInt = (n : Int)) (h2 : n ≤ 2000) : pc (fX8_cut 10000 g 3 1 x2 d) (fun _ d' => CT (fun j => dI d 1 j) n d') := by
  have e1 : (1 : Int32).toInt = 1 := by decide
  have e0 : (0 : Int32).toInt = 0 := by decide
  obtain ⟨t, ht⟩ : ∃ t : Nat → Int32, t = fun j => dI d 1 j := ⟨_, rfl⟩
  have tt : ∀ j, dI d 1 j = t j := fun j => by rw [ht]
  rw [← ht]
  have l28 : ∀ (y3 : Int32) (dd : Ds), y3.toInt = ((ps t n 0 : Nat) : Int) → (dI dd 3 4).toInt = 0 → (dI dd 3 5).toInt = (n : Int) → (∀ j, dI dd 1 j = t j) → pc (fX8_cut_L28 10000 g 3 1 x2 (y3, dd)) (fun _ d' => CT t n d') := by
    intro y3 dd hy hs hn htt
    unfold fX8_cut_L28
    refine pc_lp (fun a => ∃ s : Nat, (dI a.2 3 4).toInt = (s : Int) ∧ s ≤ 401 ∧ (dI a.2 3 5).toInt = (n : Int) ∧ (∀ i, i < s → TKC t n a.2 i) ∧ a.1.toInt = ((ps t n s : Nat) : Int) ∧ ∀ j, dI a.2 1 j = t j) ?_ 10000 (y3, dd) ⟨0, hs, by omega, hn, fun i hi => absurd hi (by omega), hy, htt⟩
    rintro K ⟨y3, de⟩ ⟨s, hs, hs4, hn, hT, hy, htt⟩ hK
    dsimp only at hs hn hT hy htt hK ⊢
    have hp : ps t n s ≤ n := ps_le s
    have j143 : ∀ (y4 : Int32) (df : Ds), ps t n s < n → s ≤ 400 → FR de df s → TKC t n df s → y4.toInt = ((en t n (ps t n s) : Nat) : Int) → pc (fX8_cut_J143 10000 g 3 1 x2 K y4 df) (fun _ d' => CT t n d') := by
      intro y4 df hlt h400 hf hk hy4
      unfold fX8_cut_J143
      have s4 : dI df 3 4 = dI de 3 4 := hf.1 3 4 (fun z => absurd z.1 (by decide))
      have s5 : dI df 3 5 = dI de 3 5 := hf.1 3 5 (fun z => absurd z.1 (by decide))
      refine pc_gd (fun _ => pc_bd (fun d44 e44 => ?_))
      have q4 : (dI d44 3 4).toInt = (s : Int) + 1 := by
        rw [e44, sI_rd, if_pos ⟨rfl, rfl⟩, s4]
        exact z_add hs e1 (by omega) (by omega)
      have q5 : (dI d44 3 5).toInt = (n : Int) := by
        rw [rdq e44 (Or.inr (by decide)), s5]
        exact hn
      have t44 : ∀ j, dI d44 1 j = t j := fun j => by rw [rdq e44 (Or.inl (by decide)), hf.1 1 j (fun z => absurd z.1 (by decide))]; exact htt j
      have f44 : (fun j => dI d44 1 j) = t := funext t44
      refine pc_cb (skip_e q5 h2 hy4 (en_gt hlt).2) (fun u47 d45 r => ?_)
      obtain ⟨e, hu⟩ := r
      subst e
      rw [f44] at hu
      have ep : ps t n (s + 1) = rn blk t n (en t n (ps t n s)) := if_pos hlt
      refine hK _ ⟨s + 1, by dsimp only; rw [q4]; omega, by omega, q5, fun i hi => ?_, by dsimp only; rw [ep]; exact hu, t44⟩
      have k44 : ∀ i, TKC t n df i → TKC t n d45 i := fun i h => ⟨h.1, by rw [rdq e44 (Or.inl (by decide))]; exact h.2.1, by rw [rdq e44 (Or.inl (by decide))]; exact h.2.2.1, by rw [rdq e44 (Or.inl (by decide))]; exact h.2.2.2.1, by rw [e44]; exact h.2.2.2.2⟩
      by_cases z : i = s
      · rw [z]
        exact k44 s hk
      · exact k44 i ((hT i (by omega)).fr hf z)
    unfold fX8_cut_B28
    refine pc_gd (fun _ => pc_if (fun c => ?_) (fun c => ?_))
    · have := Int32.le_iff_toInt_le.mp c
      unfold fX8_cut_J164
      exact pc_some ⟨s, hs, hs4, hn, hT, Or.inr (by omega)⟩
    · have c2 := Int32.lt_iff_toInt_lt.mp (nle c)
      have hlt : ps t n s < n := by omega
      have e400 : (400 : Int32).toInt = 400 := by decide
      refine pc_if (fun c => ?_) (fun c => ?_)
      · have := Int32.lt_iff_toInt_lt.mp c
        unfold fX8_cut_J164
        exact pc_some ⟨s, hs, hs4, hn, hT, Or.inl (by omega)⟩
      · have c3 := Int32.le_iff_toInt_le.mp (nlt c)
        have hs3 : s ≤ 400 := by omega
        have ty := tn hy
        refine pc_ob (fun r14 e14 => ?_)
        have := gq hS (e := 5) (by decide +kernel) e14
        subst this
        rw [tn hs]
        refine pc_gd (fun _ => pc_gd (fun _ => pc_bd (fun d17 e17 => ?_)))
        have F17 : FR de d17 s := FR.rf.i e17 (by omega)
        refine pc_ob (fun r18 e18 => ?_)
        have := gq hS (e := 7) (by decide +kernel) e18
        subst this
        have s17 : dI d17 3 4 = dI de 3 4 := F17.1 3 4 (fun z => absurd z.1 (by decide))
        rw [s17, tn hs]
        refine pc_gd (fun _ => pc_gd (fun _ => pc_gd (fun _ => pc_bd (fun d22 e22 => ?_))))
        have F22 : FR de d22 s := F17.w e22
        refine pc_ob (fun r23 e23 => ?_)
        have := gq hS (e := 6) (by decide +kernel) e23
        subst this
        have s22 : dI d22 3 4 = dI de 3 4 := F22.1 3 4 (fun z => absurd z.1 (by decide))
        rw [s22, tn hs]
        refine pc_gd (fun _ => pc_gd (fun _ => pc_bd (fun d26 e26 => ?_)))
        have F26 : FR de d26 s := F22.i e26 (by omega)
        refine pc_bd (fun u27 e27 => ?_)
        rw [ty]
        have t26 : ∀ j, dI d26 1 j = t j := fun j => by rw [F26.1 1 j (fun z => absurd z.1 (by decide))]; exact htt j
        have f26 : (fun j => dI d26 1 j) = t := funext t26
        have p5 : (dI d26 5 s).toInt = ((ps t n s : Nat) : Int) := by
          rw [rdq e26 (Or.inl (by decide)), e22]
          show (dI d17 5 s).toInt = _
          rw [e17, sI_rd, if_pos ⟨rfl, rfl⟩]
          exact hy
        have p6 : dI d26 6 s = 0 := by rw [e26, sI_rd, if_pos ⟨rfl, rfl⟩]
        have p7 : dW d26 7 s = none := by
          rw [e26]
          show dW d22 7 s = none
          rw [e22, sW_rd, if_pos ⟨rfl, rfl⟩]
        have n26 : (dI d26 3 5).toInt = (n : Int) := by rw [F26.1 3 5 (fun z => absurd z.1 (by decide))]; exact hn
        have s26 : (dI d26 3 4).toInt = (s : Int) := by rw [F26.1 3 4 (fun z => absurd z.1 (by decide))]; exact hs
        rw [t26]
        refine pc_gd (fun _ => pc_gd (fun _ => pc_cb ltrC_e (fun u32 d30 r => ?_)))
        obtain ⟨e, hu⟩ := r
        subst e
        rcases hu with ⟨hu, hl⟩ | ⟨hu, hl⟩ <;> rw [hu]
        · -- a word
          refine pc_if (fun z => absurd z (by decide)) (fun _ => ?_)
          refine pc_cb (cutWord_e hS n26 h2 hy hp s26) (fun u53 d51 r => ?_)
          obtain ⟨hu53, hI, hW⟩ := r
          rw [f26] at hu53 hW
          have F51 : FR de d51 s := ⟨fun r j hn => by rw [hI, if_neg (fun z => hn ⟨Or.inl z.1, z.2⟩)]; exact F26.1 r j hn, fun r j hn => by rw [hW, if_neg (fun z => hn ⟨z.1, z.2.1⟩)]; exact F26.2 r j hn⟩
          refine j143 u53 d51 hlt hs3 F51 ⟨hlt, ?_, ?_, ?_, ?_⟩ ?_
          · rw [hI, if_pos ⟨rfl, rfl⟩]
            unfold kdC
            rw [if_pos hl]
          · rw [hI, if_neg (fun z => absurd z.1 (by decide))]
            exact p5
          · rw [hI, if_neg (fun z => absurd z.1 (by decide)), p6]
            unfold vl
            rw [if_neg (ltr_dgt hl)]
          · rw [hW, p7]
            unfold wdo
            by_cases z : wd t n (ps t n s) ≠ 0
            · rw [if_pos ⟨rfl, rfl, z⟩, if_pos ⟨hl, z⟩]
            · rw [if_neg (fun y => z y.2.2), if_neg (fun y => z y.2)]
          · rw [hu53]
            unfold en
            rw [if_pos hl]
        · refine pc_if (fun _ => ?_) (fun z => absurd rfl z)
          have w0 : wdo t n (ps t n s) = none := by
            unfold wdo
            rw [if_neg (fun z => hl z.1)]
          rw [t26]
          refine pc_cb dgtC_e (fun u36 d34 r => ?_)
          obtain ⟨e, hu⟩ := r
          subst e
          rcases hu with ⟨hu, hd⟩ | ⟨hu, hd⟩ <;> rw [hu]
          · -- an int
            refine pc_if (fun z => absurd z (by decide)) (fun _ => ?_)
            refine pc_cb (cutInt_e hS n26 h2 hy hp s26) (fun u50 d48 r => ?_)
            obtain ⟨hu50, hI, hW⟩ := r
            rw [f26] at hu50 hI
            have F48 : FR de d48 s := ⟨fun r j hn => by rw [hI, if_neg (fun z => hn ⟨Or.inr (Or.inr z.1), z.2⟩), if_neg (fun z => hn ⟨Or.inl z.1, z.2⟩)]; exact F26.1 r j hn, fun r j hn => by rw [hW]; exact F26.2 r j hn⟩
            refine j143 u50 d48 hlt hs3 F48 ⟨hlt, ?_, ?_, ?_, ?_⟩ ?_
            · rw [hI, if_neg (fun z => absurd z.1 (by decide)), if_pos ⟨rfl, rfl⟩]
              unfold kdC
              rw [if_neg hl, if_pos hd]
            · rw [hI, if_neg (fun z => absurd z.1 (by decide)), if_neg (fun z => absurd z.1 (by decide))]
              exact p5
            · rw [hI, if_pos ⟨rfl, rfl⟩]
              unfold vl
              rw [if_pos hd]
            · rw [hW, p7, w0]
            · rw [hu50]
              unfold en
              rw [if_neg hl, if_pos hd]
          · -- a sign
            refine pc_if (fun _ => ?_) (fun z => absurd rfl z)
            have q27 := z_add (x := y3) (y := 1) hy e1 (by omega) (by omega)
            have ee : en t n (ps t n s) = ps t n s + 1 := by
              unfold en
              rw [if_neg hl, if_neg hd]
            have v0 : vl t n (ps t n s) = 0 := by
              unfold vl
              rw [if_neg hd]
            have j142 : ∀ z0 : Int32, z0 = (if t (ps t n s) = 59 then 3 else 4) → pc (fX8_cut_J142 10000 g 3 1 x2 K u27 z0 (dI d34 3 4) 4 d34) (fun _ d' => CT t n d') := by
              intro z0 hz
              unfold fX8_cut_J142
              rw [tn s26]
              refine pc_gd (fun _ => pc_gd (fun _ => pc_bd (fun d42 e42 => ?_)))
              refine j143 u27 d42 hlt hs3 (F26.i e42 (by omega)) ⟨hlt, ?_, ?_, ?_, ?_⟩ ?_
              · rw [e42, sI_rd, if_pos ⟨rfl, rfl⟩, hz]
                unfold kdC
                rw [if_neg hl, if_neg hd]
              · rw [rdq e42 (Or.inl (by decide))]
                exact p5
              · rw [rdq e42 (Or.inl (by decide)), p6, v0]
              · rw [e42]
                show dW d34 7 s = _
                rw [p7, w0]
              · rw [e27, q27, ee]
                omega
            refine pc_ob (fun r38 e38 => ?_)
            have := gq hS (e := 4) (by decide +kernel) e38
            subst this
            rw [t26]
            exact pc_if (fun c => j142 3 (by rw [if_pos c])) (fun c => j142 4 (by rw [if_neg c]))
  have j18 : ∀ (dd : Ds), dd = sI d 3 4 0 → pc (fX8_cut_J18 10000 g 3 1 x2 x2 3 dd) (fun _ d' => CT t n d') := by
    intro dd e
    unfold fX8_cut_J18
    refine pc_gd (fun _ => pc_bd (fun d6 e6 => pc_gd (fun _ => ?_)))
    have n6 : (dI d6 3 5).toInt = (n : Int) := by
      rw [e6, sI_rd, if_pos ⟨rfl, rfl⟩]
      exact hx
    have t6 : ∀ j, dI d6 1 j = t j := fun j => by rw [rdq e6 (Or.inl (by decide)), rdq e (Or.inl (by decide))]; exact tt j
    refine pc_cb (skip_e (p := 0) n6 h2 e0 (Nat.zero_le _)) (fun u10 d8 r => ?_)
    obtain ⟨e8, hu⟩ := r
    subst e8
    rw [show (fun j => dI d8 1 j) = t from funext t6] at hu
    refine l28 u10 d8 hu ?_ n6 t6
    rw [rdq e6 (Or.inr (by decide)), e, sI_rd, if_pos ⟨rfl, rfl⟩]
    exact e0
  unfold fX8_cut
  refine pc_gd (fun _ => pc_bd (fun d2 e2 => pc_gd (fun _ => ?_)))
  have hL : gL g 1 = 2000 := ln_20 hS (by decide +kernel)
  rw [hL]
  refine pc_if (fun c => ?_) (fun _ => j18 d2 e2)
  have := Int32.lt_iff_toInt_lt.mp c
  have : (Int32.ofNat 2000).toInt = 2000 := by decide
  exfalso
  omega
/-! the model cuts -/
def byr (c : Int32) : Prop := iv c (-128) 127
theorem a255t : ∀ n : Nat, n < 256 → ((Int32.ofInt ((n : Int) - 128) &&& 255).toInt = if (n : Int) - 128 < 0 then (n : Int) + 128 else (n : Int) - 128) := by decide +kernel
theorem a255 {c : Int32} (h : byr c) : (c &&& 255).toInt = if c.toInt < 0 then c.toInt + 256 else c.toInt := by
  have h1 := h.1
  have h2 := h.2
  have e := a255t (c.toInt + 128).toNat (by omega)
  rw [show (((c.toInt + 128).toNat : Nat) : Int) - 128 = c.toInt by omega, Int32.ofInt_toInt] at e
  rw [e]
  split
  · omega
  · rfl
theorem a255p {c : Int32} (h : byr c) (h0 : 0 ≤ c.toInt) : c &&& 255 = c := by
  apply Int32.toInt_inj.mp
  rw [a255 h, if_neg (by omega)]
theorem a255l {c : Int32} (h : byr c) : ltr (c &&& 255) = true ↔ ltr c = true := by
  have h1 := h.1
  have h2 := h.2
  rw [ltr_i, ltr_i, a255 h]
  split <;> omega
theorem a255d {c : Int32} (h : byr c) : dgt (c &&& 255) = true ↔ dgt c = true := by
  have h1 := h.1
  have h2 := h.2
  rw [dgt_i, dgt_i, a255 h]
  split <;> omega
theorem a255e {c k : Int32} (h : byr c) (hk : 0 ≤ k.toInt ∧ k.toInt < 128) : c &&& 255 = k ↔ c = k := by
  have h1 := h.1
  have h2 := h.2
  rw [← Int32.toInt_inj, ← Int32.toInt_inj, a255 h]
  split <;> omega
def bt (t : Nat → Int32) (n p : Nat) : Int32 := if n ≤ p then 0 else t p &&& 255
theorem bt_l {t : Nat → Int32} (hb : ∀ j, byr (t j)) {n p : Nat} : ltr (bt t n p) = true ↔ p < n ∧ ltr (t p) = true := by
  unfold bt
  split
  · exact ⟨fun z => absurd z (by decide), fun z => by omega⟩
  · rw [a255l (hb p)]
    exact ⟨fun z => ⟨by omega, z⟩, fun z => z.2⟩
theorem bt_d {t : Nat → Int32} (hb : ∀ j, byr (t j)) {n p : Nat} : dgt (bt t n p) = true ↔ p < n ∧ dgt (t p) = true := by
  unfold bt
  split
  · exact ⟨fun z => absurd z (by decide), fun z => by omega⟩
  · rw [a255d (hb p)]
    exact ⟨fun z => ⟨by omega, z⟩, fun z => z.2⟩
theorem bt_v {t : Nat → Int32} (hb : ∀ j, byr (t j)) {n p : Nat} (h : p < n) (h0 : 0 ≤ (t p).toInt) : bt t n p = t p := by
  unfold bt
  rw [if_neg (by omega)]
  exact a255p (hb p) h0
theorem ltrM_e {N : Nat} {g : Gs} {x0 : Int32} {d : Ds} : pc (fX12_isLetter N g x0 d) (fun u d' => d' = d ∧ (u = 1 ∧ ltr x0 = true ∨ u = 0 ∧ ¬ ltr x0 = true)) := by
  have e1 : (97 : Int32).toInt = 97 := by decide
  have e2 : (122 : Int32).toInt = 122 := by decide
  have no : (x0.toInt < 97 ∨ 122 < x0.toInt) → pc (fX12_isLetter_J16 N g x0 d) (fun u d' => d' = d ∧ (u = 1 ∧ ltr x0 = true ∨ u = 0 ∧ ¬ ltr x0 = true)) := by
    intro h
    unfold fX12_isLetter_J16 fX12_isLetter_J17
    exact pc_gd (fun _ => pc_some ⟨rfl, Or.inr ⟨rfl, fun z => by have := ltr_i.mp z; omega⟩⟩)
  unfold fX12_isLetter
  refine pc_if (fun c => no (Or.inl (by have := Int32.lt_iff_toInt_lt.mp c; omega))) (fun c1 => pc_if (fun c => no (Or.inr (by have := Int32.lt_iff_toInt_lt.mp c; omega))) (fun c2 => ?_))
  unfold fX12_isLetter_J17
  exact pc_gd (fun _ => pc_some ⟨rfl, Or.inl ⟨rfl, ltr_i.mpr ⟨by have := Int32.le_iff_toInt_le.mp (nlt c1); omega, by have := Int32.le_iff_toInt_le.mp (nlt c2); omega⟩⟩⟩)
theorem dgtM_e {N : Nat} {g : Gs} {x0 : Int32} {d : Ds} : pc (fX12_isDigit N g x0 d) (fun u d' => d' = d ∧ (u = 1 ∧ dgt x0 = true ∨ u = 0 ∧ ¬ dgt x0 = true)) := by
  have e1 : (48 : Int32).toInt = 48 := by decide
  have e2 : (57 : Int32).toInt = 57 := by decide
  have no : (x0.toInt < 48 ∨ 57 < x0.toInt) → pc (fX12_isDigit_J16 N g x0 d) (fun u d' => d' = d ∧ (u = 1 ∧ dgt x0 = true ∨ u = 0 ∧ ¬ dgt x0 = true)) := by
    intro h
    unfold fX12_isDigit_J16 fX12_isDigit_J17
    exact pc_gd (fun _ => pc_some ⟨rfl, Or.inr ⟨rfl, fun z => by have := dgt_i.mp z; omega⟩⟩)
  unfold fX12_isDigit
  refine pc_if (fun c => no (Or.inl (by have := Int32.lt_iff_toInt_lt.mp c; omega))) (fun c1 => pc_if (fun c => no (Or.inr (by have := Int32.lt_iff_toInt_lt.mp c; omega))) (fun c2 => ?_))
  unfold fX12_isDigit_J17
  exact pc_gd (fun _ => pc_some ⟨rfl, Or.inl ⟨rfl, dgt_i.mpr ⟨by have := Int32.le_iff_toInt_le.mp (nlt c1); omega, by have := Int32.le_iff_toInt_le.mp (nlt c2); omega⟩⟩⟩)
theorem byteAt_e {N : Nat} {g : Gs} (hS : Shp g) {x1 : Int32} {d : Ds} {n p : Nat} (hn : (dI d 328 4).toInt = (n : Int)) (hx : x1.toInt = (p : Int)) : pc (fX12_byteAt N g 328 x1 d) (fun u d' => d' = d ∧ u = bt (fun j => dI d 330 j) n p) := by
  unfold fX12_byteAt
  refine pc_gd (fun _ => pc_if (fun c => ?_) (fun c => ?_))
  · have := Int32.le_iff_toInt_le.mp c
    unfold fX12_byteAt_J22
    exact pc_some ⟨rfl, by unfold bt; rw [if_pos (by omega)]⟩
  · have := Int32.lt_iff_toInt_lt.mp (nle c)
    refine pc_ob (fun r3 e3 => ?_)
    have := gq hS (e := 330) (by decide +kernel) e3
    subst this
    rw [tn hx]
    unfold fX12_byteAt_J22
    exact pc_gd (fun _ => pc_gd (fun _ => pc_some ⟨rfl, by unfold bt; rw [if_neg (by omega)]⟩))
/-! names as numbers -/
def val (a : Nat → Nat) : Nat → Nat
  | 0 => 0
  | j + 1 => 27 * val a j + a j
theorem val_b {a : Nat → Nat} : ∀ l, (∀ j, j < l → a j ≤ 26) → val a l < 27 ^ l := by
  intro l
  induction l with
  | zero => intro _; exact Nat.zero_lt_one
  | succ l ih =>
    intro h
    have h1 := ih (fun j hj => h j (by omega))
    have h2 := h l (by omega)
    show 27 * val a l + a l < 27 ^ (l + 1)
    rw [Nat.pow_succ]
    omega
theorem val_in {a b : Nat → Nat} : ∀ l m, (∀ j, j < l → 1 ≤ a j ∧ a j ≤ 26) → (∀ j, j < m → 1 ≤ b j ∧ b j ≤ 26) → val a l = val b m → l = m ∧ ∀ j, j < l → a j = b j := by
  intro l
  induction l with
  | zero =>
    intro m ha hb h
    cases m with
    | zero => exact ⟨rfl, fun j hj => absurd hj (by omega)⟩
    | succ m =>
      have := hb m (by omega)
      have e : val b (m + 1) = 27 * val b m + b m := rfl
      have e2 : val a 0 = 0 := rfl
      omega
  | succ l ih =>
    intro m ha hb h
    have h1 := ha l (by omega)
    have e : val a (l + 1) = 27 * val a l + a l := rfl
    cases m with
    | zero =>
      have e2 : val b 0 = 0 := rfl
      omega
    | succ m =>
      have h2 := hb m (by omega)
      have e2 : val b (m + 1) = 27 * val b m + b m := rfl
      have h3 : val a l = val b m := by omega
      have h4 : a l = b m := by omega
      obtain ⟨q1, q2⟩ := ih m (fun j hj => ha j (by omega)) (fun j hj => hb j (by omega)) h3
      subst q1
      refine ⟨rfl, fun j hj => ?_⟩
      by_cases z : j = l
      · rw [z]
        exact h4
      · exact q2 j (by omega)
def nmF (t : Nat → Int32) (p : Nat) : Nat → Int64
  | 0 => 0
  | j + 1 => 27 * nmF t p j + ((t (p + j) - 97) + 1).toInt64
def dga (t : Nat → Int32) (p j : Nat) : Nat := ((t (p + j)).toInt - 96).toNat
theorem nm_val {t : Nat → Int32} {p : Nat} : ∀ l, l ≤ 8 → (∀ j, j < l → ltr (t (p + j)) = true) → (nmF t p l).toInt = ((val (dga t p) l : Nat) : Int) := by
  have e97 : (97 : Int32).toInt = 97 := by decide
  have e1 : (1 : Int32).toInt = 1 := by decide
  have e27 : (27 : Int64).toInt = 27 := by decide
  intro l
  induction l with
  | zero =>
    intro _ _
    show (0 : Int64).toInt = ((0 : Nat) : Int)
    decide
  | succ l ih =>
    intro hl h
    have i1 := ih (by omega) (fun j hj => h j (by omega))
    have h1 := ltr_i.mp (h l (by omega))
    have b1 : val (dga t p) l < 27 ^ l := val_b l (fun j hj => by have := ltr_i.mp (h j (by omega)); unfold dga; omega)
    have b2 : 27 ^ l ≤ 27 ^ 7 := Nat.pow_le_pow_right (by decide) (by omega)
    have b3 : 27 ^ 7 = 10460353203 := by decide
    have q1 := z_sub (x := t (p + l)) (y := 97) rfl e97 (by omega) (by omega)
    have q2 := z_add (x := t (p + l) - 97) (y := 1) q1 e1 (by omega) (by omega)
    have m1 : (27 * nmF t p l).toInt = 27 * ((val (dga t p) l : Nat) : Int) := by
      rw [Int64.toInt_mul, e27, i1]
      exact Int.bmod_eq_of_le (by omega) (by omega)
    show (27 * nmF t p l + ((t (p + l) - 97) + 1).toInt64).toInt = ((27 * val (dga t p) l + dga t p l : Nat) : Int)
    rw [Int64.toInt_add, m1, Int32.toInt_toInt64, q2]
    have e : ((dga t p l : Nat) : Int) = (t (p + l)).toInt - 97 + 1 := by unfold dga; omega
    rw [Int.natCast_add, Int.natCast_mul, e]
    exact Int.bmod_eq_of_le (by omega) (by omega)
def wga (k j : Nat) : Nat := ((wsb k j).toInt - 96).toNat
theorem w_val : ∀ k, k < 20 → (kyc k).toInt = ((val (wga k) (wsl k) : Nat) : Int) ∧ ∀ j, j < wsl k → 97 ≤ (wsb k j).toInt ∧ (wsb k j).toInt ≤ 122 := by decide +kernel
theorem w_val1 {k : Nat} (hk : k < 20) : (kyc k).toInt = ((val (wga k) (wsl k) : Nat) : Int) := (w_val k hk).1
theorem w_val2 {k : Nat} (hk : k < 20) : ∀ j, j < wsl k → 97 ≤ (wsb k j).toInt ∧ (wsb k j).toInt ≤ 122 := (w_val k hk).2
theorem dga_i {t : Nat → Int32} {p j : Nat} (h : ltr (t (p + j)) = true) : ((dga t p j : Nat) : Int) = (t (p + j)).toInt - 96 ∧ 1 ≤ dga t p j ∧ dga t p j ≤ 26 := by
  have := ltr_i.mp h
  unfold dga
  omega
theorem wga_i {k j : Nat} (h : 97 ≤ (wsb k j).toInt ∧ (wsb k j).toInt ≤ 122) : ((wga k j : Nat) : Int) = (wsb k j).toInt - 96 ∧ 1 ≤ wga k j ∧ wga k j ≤ 26 := by
  unfold wga
  generalize (wsb k j).toInt = z at h
  omega
theorem nm_w1 {t : Nat → Int32} {p l k : Nat} (hk : k < 20) (hl : l ≤ 8) (h : ∀ j, j < l → ltr (t (p + j)) = true) (e : kyc k = nmF t p l) : l = wsl k ∧ ∀ j, j < l → t (p + j) = wsb k j := by
  have hv : val (dga t p) l = val (wga k) (wsl k) := by
    have a := nm_val l hl h
    rw [← e] at a
    exact Int.ofNat.inj (a.symm.trans (w_val1 hk))
  obtain ⟨q1, q2⟩ := val_in l (wsl k) (fun j hj => (dga_i (h j hj)).2) (fun j hj => (wga_i (w_val2 hk j hj)).2) hv
  refine ⟨q1, fun j hj => ?_⟩
  have a1 := q2 j hj
  have a2 := (dga_i (h j hj)).1
  have a3 := (wga_i (w_val2 hk j (by rw [← q1]; exact hj))).1
  rw [a1] at a2
  have a4 := a2.symm.trans a3
  exact Int32.toInt_inj.mp (Int.sub_left_inj _ |>.mp a4)
theorem val_e {a b : Nat → Nat} : ∀ m, (∀ j, j < m → a j = b j) → val a m = val b m := by
  intro m
  induction m with
  | zero => intro _; rfl
  | succ m ih =>
    intro h
    show 27 * val a m + a m = 27 * val b m + b m
    rw [ih (fun j hj => h j (by omega)), h m (by omega)]
theorem nm_w2 {t : Nat → Int32} {p l k : Nat} (hk : k < 20) (hl : l ≤ 8) (h : ∀ j, j < l → ltr (t (p + j)) = true) (e : l = wsl k ∧ ∀ j, j < l → t (p + j) = wsb k j) : kyc k = nmF t p l := by
  obtain ⟨q1, q2⟩ := e
  apply Int64.toInt_inj.mp
  rw [w_val1 hk, nm_val l hl h, ← q1]
  have hv : val (wga k) l = val (dga t p) l := val_e l (fun j hj => by unfold dga wga; rw [q2 j hj])
  rw [hv]
theorem nm_w {t : Nat → Int32} {p l k : Nat} (hk : k < 20) (hl : l ≤ 8) (h : ∀ j, j < l → ltr (t (p + j)) = true) : kyc k = nmF t p l ↔ wsp t p l k = true := by
  rw [wsp_i]
  exact ⟨nm_w1 hk hl h, nm_w2 hk hl h⟩
theorem cmp_0 {a b : Int64} : lg_cmp a b = 0 ↔ a = b := by
  unfold lg_cmp
  constructor
  · intro h
    split at h
    · exact absurd h (by decide)
    · split at h
      · assumption
      · exact absurd h (by decide)
  · intro h
    subst h
    have : ¬ a > a := Int64.lt_irrefl
    rw [if_neg this, if_pos rfl]
/-- the model's token -/
def TKM (t : Nat → Int32) (n : Nat) (d : Ds) (i : Nat) : Prop := ps t n i < n ∧ dI d 331 i = kdS t n (ps t n i) ∧ (dI d 332 i).toInt = ((ps t n i : Nat) : Int) ∧ dI d 333 i = vl t n (ps t n i)
def MT (t : Nat → Int32) (n : Nat) (d : Ds) : Prop := ∃ s : Nat, s ≤ 401 ∧ (∀ i, i < s → TKM t n d i) ∧ (s = 401 ∧ (dI d 328 10).toInt = 401 ∨ ¬ ps t n s < n ∧ s ≤ 400 ∧ (dI d 328 10).toInt = (s : Int) + 1 ∧ dI d 331 s = 0 ∧ (dI d 332 s).toInt = (n : Int) ∧ dI d 333 s = 0)
/-- what a token's laying touches -/
def FM (d df : Ds) (s : Nat) : Prop := (∀ r j, ¬ (r = 328 ∧ j = 10) → ¬ ((r = 331 ∨ r = 332 ∨ r = 333) ∧ j = s) → dI df r j = dI d r j) ∧ ∀ j, dL df 335 j = dL d 335 j
theorem token_e {N : Nat} {g : Gs} (hS : Shp g) {x1 x2 x3 : Int32} {x4 : Int64} {d : Ds} {s : Nat} (hs : (dI d 328 10).toInt = (s : Int)) (h4 : s ≤ 400) : pc (fX12_token N g 328 x1 x2 x3 x4 d) (fun _ d' => FM d d' s ∧ (dI d' 328 10).toInt = (s : Int) + 1 ∧ dI d' 331 s = x1 ∧ dI d' 332 s = x2 ∧ dI d' 333 s = x3) := by
  have e1 : (1 : Int32).toInt = 1 := by decide
  unfold fX12_token
  refine pc_gd (fun _ => pc_ob (fun r2 e2 => ?_))
  have := gq hS (e := 331) (by decide +kernel) e2
  subst this
  rw [tn hs]
  refine pc_gd (fun _ => pc_gd (fun _ => pc_bd (fun d5 e5 => pc_ob (fun r6 e6 => ?_))))
  have := gq hS (e := 332) (by decide +kernel) e6
  subst this
  have f5 : dI d5 328 10 = dI d 328 10 := rdq e5 (Or.inl (by decide))
  rw [f5, tn hs]
  refine pc_gd (fun _ => pc_gd (fun _ => pc_bd (fun d9 e9 => pc_ob (fun r10 e10 => ?_))))
  have := gq hS (e := 333) (by decide +kernel) e10
  subst this
  have f9 : dI d9 328 10 = dI d 328 10 := (rdq e9 (Or.inl (by decide))).trans f5
  rw [f9, tn hs]
  refine pc_gd (fun _ => pc_gd (fun _ => pc_bd (fun d13 e13 => pc_ob (fun r14 e14 => ?_))))
  have := gq hS (e := 334) (by decide +kernel) e14
  subst this
  have f13 : dI d13 328 10 = dI d 328 10 := (rdq e13 (Or.inl (by decide))).trans f9
  rw [f13, tn hs]
  refine pc_gd (fun _ => pc_gd (fun _ => pc_bd (fun d17 e17 => pc_bd (fun d18 e18 => ?_))))
  have f17 : dI d17 328 10 = dI d 328 10 := (rdqL e17).trans f13
  refine pc_some ⟨⟨fun r j h1 h2 => ?_, fun j => ?_⟩, ?_, ?_, ?_, ?_⟩
  · rw [e18, sI_rd, if_neg h1, rdqL e17, e13, sI_rd, if_neg (fun z => h2 ⟨Or.inr (Or.inr z.1), z.2⟩), e9, sI_rd, if_neg (fun z => h2 ⟨Or.inr (Or.inl z.1), z.2⟩), e5, sI_rd, if_neg (fun z => h2 ⟨Or.inl z.1, z.2⟩)]
  · rw [e18]
    show dL d17 335 j = dL d 335 j
    rw [e17]
    show va_up d13.2.2.1 334 (va_up (d13.2.2.1 334) s x4) 335 j = dL d 335 j
    unfold va_up
    rw [if_neg (by decide), e13, e9, e5]
    rfl
  · rw [e18, sI_rd, if_pos ⟨rfl, rfl⟩, f17]
    exact z_add hs e1 (by omega) (by omega)
  · rw [rdq e18 (Or.inl (by decide)), rdqL e17, rdq e13 (Or.inl (by decide)), rdq e9 (Or.inl (by decide)), e5, sI_rd, if_pos ⟨rfl, rfl⟩]
  · rw [rdq e18 (Or.inl (by decide)), rdqL e17, rdq e13 (Or.inl (by decide)), e9, sI_rd, if_pos ⟨rfl, rfl⟩]
  · rw [rdq e18 (Or.inl (by decide)), rdqL e17, e13, sI_rd, if_pos ⟨rfl, rfl⟩]
def ML (t : Nat → Int32) (n : Nat) (a : Int32 × Ds) : Prop := ∃ s p : Nat, a.1.toInt = (p : Int) ∧ p ≤ n ∧ rn blk t n p = ps t n s ∧ s ≤ 401 ∧ (dI a.2 328 10).toInt = (s : Int) ∧ (∀ i, i < s → TKM t n a.2 i) ∧ (dI a.2 328 4).toInt = (n : Int) ∧ (∀ j, j < n → dI a.2 330 j = t j) ∧ KL a.2
/-- before a token -/
def MB (t : Nat → Int32) (n : Nat) (d : Ds) (s p : Nat) : Prop := p < n ∧ ps t n s = p ∧ s ≤ 400 ∧ (dI d 328 10).toInt = (s : Int) ∧ (∀ i, i < s → TKM t n d i) ∧ (dI d 328 4).toInt = (n : Int) ∧ (∀ j, j < n → dI d 330 j = t j) ∧ KL d
theorem bt_c {a t : Nat → Int32} {n p : Nat} (h : ∀ j, j < n → a j = t j) : bt a n p = bt t n p := by
  unfold bt
  split
  · rfl
  · rw [h p (by omega)]
theorem TKM.fm {t : Nat → Int32} {n : Nat} {d df : Ds} {s i : Nat} (h : TKM t n d i) (f : FM d df s) (hi : i ≠ s) : TKM t n df i := by
  obtain ⟨h1, h2, h3, h4⟩ := h
  exact ⟨h1, by rw [f.1 331 i (fun z => absurd z.1 (by decide)) (fun z => hi z.2)]; exact h2, by rw [f.1 332 i (fun z => absurd z.1 (by decide)) (fun z => hi z.2)]; exact h3, by rw [f.1 333 i (fun z => absurd z.1 (by decide)) (fun z => hi z.2)]; exact h4⟩
theorem tok_end {g : Gs} (hS : Shp g) {t : Nat → Int32} {n s p : Nat} {d : Ds} (h2 : n ≤ 2000) (hM : MB t n d s p) {k v y1 y3 : Int32} {z : Int64} (hk : k = kdS t n p) (hv : v = vl t n p) (hy1 : y1.toInt = (p : Int)) (hy : y1.toInt + y3.toInt = ((en t n p : Nat) : Int)) {K7 : Int32 × Ds → Option (Unit × Ds)} (hK : ∀ a, ML t n a → pc (K7 a) (fun _ d' => MT t n d')) : pc (cv (fX12_token 10000 g 328 k y1 v z d) fun d36 => (bd (y1 + y3) fun u38 => (fX12_cutsText_J284 10000 g 328 K7 u38 d36))) (fun _ d' => MT t n d') := by
  obtain ⟨hp, hps, h4, hs, hT, hn, htt, hKL⟩ := hM
  refine pc_cv (token_e hS hs h4) (fun d36 r => ?_)
  obtain ⟨f, r10, rk, rp, rv⟩ := r
  refine pc_bd (fun u38 e38 => ?_)
  have hen := en_gt (t := t) hp
  have q := z_add (x := y1) (y := y3) rfl rfl (by omega) (by omega)
  unfold fX12_cutsText_J284
  refine hK _ ⟨s + 1, en t n p, by dsimp only; rw [e38, q]; exact hy, hen.2, ?_, by omega, by dsimp only; rw [r10]; omega, fun i hi => ?_, ?_, fun j hj => ?_, fun k hk => ?_⟩
  · show rn blk t n (en t n p) = (if ps t n s < n then rn blk t n (en t n (ps t n s)) else ps t n s)
    rw [if_pos (by omega), hps]
  · by_cases z : i = s
    · subst z
      exact ⟨by omega, by rw [rk, hk, hps], by dsimp only; rw [rp, hy1, hps], by rw [rv, hv, hps]⟩
    · exact (hT i (by omega)).fm f z
  · dsimp only
    rw [f.1 328 4 (by decide) (fun z => absurd z.1 (by decide))]
    exact hn
  · dsimp only
    rw [f.1 330 j (fun z => absurd z.1 (by decide)) (fun z => absurd z.1 (by decide))]
    exact htt j hj
  · dsimp only
    rw [f.2]
    exact hKL k hk
theorem ct208 {g : Gs} (hS : Shp g) {t : Nat → Int32} (hb : ∀ j, byr (t j)) {n s p : Nat} {d : Ds} (h2 : n ≤ 2000) (hM : MB t n d s p) {y1 : Int32} (hy1 : y1.toInt = (p : Int)) (hl : ¬ ltr (t p) = true) (hd : dgt (t p) = true) {K7 : Int32 × Ds → Option (Unit × Ds)} (hK : ∀ a, ML t n a → pc (K7 a) (fun _ d' => MT t n d')) : pc (fX12_cutsText_L208 10000 g 328 K7 (y1, 0, 0, d)) (fun _ d' => MT t n d') := by
  have hM2 := hM
  obtain ⟨hp, hps, h4, hs, hT, hn, htt, hKL⟩ := hM2
  have e1 : (1 : Int32).toInt = 1 := by decide
  have e4 : (4 : Int32).toInt = 4 := by decide
  have ar : ∀ v u : Int32, ((10 : Int32) * v + u) - 48 = v * 10 + (u - 48) := by
    intro v u
    rw [Int32.mul_comm, Int32.sub_eq_add_neg, Int32.sub_eq_add_neg, Int32.add_assoc]
  unfold fX12_cutsText_L208
  refine pc_lp (fun a => a.1 = y1 ∧ a.2.2.2 = d ∧ ∃ c : Nat, a.2.1.toInt = (c : Int) ∧ p + c ≤ n ∧ (∀ j, p ≤ j → j < p + c → j < n ∧ dgt (t j) = true) ∧ a.2.2.1 = vlF t p (min c 4)) ?_ 10000 (y1, 0, 0, d) ⟨rfl, rfl, 0, (by decide : (0 : Int32).toInt = ((0 : Nat) : Int)), by omega, fun j h1 h2 => absurd h1 (by omega), rfl⟩
  rintro K ⟨z1, y3, y4, dd⟩ ⟨q1, q2, c, hc, hpc, hr, hv⟩ hK2
  dsimp only at q1 q2 hc hv hK2 ⊢
  subst q1
  subst q2
  unfold fX12_cutsText_B208
  have qs := z_add (x := z1) (y := y3) hy1 hc (by omega) (by omega)
  have qn : (z1 + y3).toInt = ((p + c : Nat) : Int) := by rw [qs]; omega
  refine pc_gd (fun _ => pc_cb (byteAt_e hS hn qn) (fun u29 d27 r => ?_))
  obtain ⟨e, hu⟩ := r
  subst e
  rw [bt_c htt] at hu
  refine pc_cb dgtM_e (fun u32 d30 r => ?_)
  obtain ⟨e, hu32⟩ := r
  subst e
  rw [hu, bt_d hb] at hu32
  have z := z_add (x := y3) (y := 1) hc e1 (by omega) (by omega)
  rcases hu32 with ⟨h32, hcd⟩ | ⟨h32, hcd⟩ <;> rw [h32]
  · have hr2 : ∀ j, p ≤ j → j < p + (c + 1) → j < n ∧ dgt (t j) = true := by
      intro j h1 h3
      by_cases zj : j = p + c
      · rw [zj]
        exact hcd
      · exact hr j h1 (by omega)
    refine pc_if (fun z => absurd z (by decide)) (fun _ => pc_if (fun cc => ?_) (fun cc => ?_))
    · have := Int32.le_iff_toInt_le.mp cc
      unfold fX12_cutsText_J244
      refine pc_bd (fun u40 e40 => hK2 _ ⟨rfl, rfl, c + 1, by dsimp only; rw [e40, z]; omega, by omega, hr2, ?_⟩)
      dsimp only
      rw [hv, show min (c + 1) 4 = min c 4 by omega]
    · have cc2 := Int32.lt_iff_toInt_lt.mp (nle cc)
      refine pc_cb (byteAt_e hS hn qn) (fun u43 d41 r => ?_)
      obtain ⟨e, hu43⟩ := r
      subst e
      have h0 := (dgt_i.mp hcd.2).1
      rw [bt_c htt, bt_v hb hcd.1 (by omega)] at hu43
      refine pc_bd (fun u44 e44 => ?_)
      unfold fX12_cutsText_J244
      refine pc_bd (fun u40 e40 => hK2 _ ⟨rfl, rfl, c + 1, by dsimp only; rw [e40, z]; omega, by omega, hr2, ?_⟩)
      dsimp only
      rw [e44, hu43, hv, ar, show min c 4 = c by omega, show min (c + 1) 4 = c + 1 by omega]
      rfl
  · have er : rn dgt t n p = p + c := rn_un (by omega) (fun j h1 h3 => hr j h1 h3) hcd
    have hk : ∀ k0 : Int32, (k0 = if c ≤ 4 then 2 else 3) → pc (fX12_cutsText_J261 10000 g 328 K7 z1 y3 y4 k0 328 d30) (fun _ d' => MT t n d') := by
      intro k0 h0
      unfold fX12_cutsText_J261
      refine pc_gd (fun _ => tok_end hS h2 hM ?_ ?_ hy1 ?_ hK)
      · unfold kdS
        rw [if_neg hl, if_pos hd, er, Nat.add_sub_cancel_left, h0]
      · unfold vl
        rw [if_pos hd, er, Nat.add_sub_cancel_left, hv]
      · unfold en
        rw [if_neg hl, if_pos hd, er]
        omega
    refine pc_if (fun _ => pc_if (fun cc => hk 2 ?_) (fun cc => hk 3 ?_)) (fun z => absurd rfl z)
    · have := Int32.le_iff_toInt_le.mp cc
      rw [if_pos (by omega)]
    · have := Int32.lt_iff_toInt_lt.mp (nle cc)
      rw [if_neg (by omega)]
theorem appends_e {N : Nat} {g : Gs} {x0 : Int64} {x2 : Int32} {d : Ds} (h : ¬ x2 = 0) : pc (fX12_appends N g x0 x2 d) (fun u d' => d' = d ∧ u = 27 * x0 + ((x2 - 97) + 1).toInt64) := by
  unfold fX12_appends
  refine pc_if (fun c => absurd c h) (fun _ => ?_)
  unfold fX12_appends_J21
  exact pc_some ⟨rfl, rfl⟩
theorem wd_8 {t : Nat → Int32} {p l : Nat} (h : 8 < l) : ∀ k, wdF t p l k = 0 := by
  intro k
  induction k with
  | zero => rfl
  | succ k ih =>
    show (if wsp t p l k = true then k + 1 else wdF t p l k) = 0
    rw [if_neg, ih]
    intro z
    have := (wsp_i.mp z).1
    have := wsl_8 k
    omega
theorem ct85 {g : Gs} (hS : Shp g) {t : Nat → Int32} (hb : ∀ j, byr (t j)) {n s p : Nat} {d : Ds} (h2 : n ≤ 2000) (hM : MB t n d s p) {y1 : Int32} (hy1 : y1.toInt = (p : Int)) (hl : ltr (t p) = true) {K7 : Int32 × Ds → Option (Unit × Ds)} (hK : ∀ a, ML t n a → pc (K7 a) (fun _ d' => MT t n d')) : pc (fX12_cutsText_L85 10000 g 328 K7 (y1, 0, 0, d)) (fun _ d' => MT t n d') := by
  have hM2 := hM
  obtain ⟨hp, hps, h4, hs, hT, hn, htt, hKL⟩ := hM2
  have e1 : (1 : Int32).toInt = 1 := by decide
  have e8 : (8 : Int32).toInt = 8 := by decide
  have e20 : (20 : Int32).toInt = 20 := by decide
  have v0 : vl t n p = 0 := by
    unfold vl
    rw [if_neg (ltr_dgt hl)]
  unfold fX12_cutsText_L85
  refine pc_lp (fun a => a.1 = y1 ∧ a.2.2.2 = d ∧ ∃ c : Nat, a.2.1.toInt = (c : Int) ∧ p + c ≤ n ∧ (∀ j, p ≤ j → j < p + c → j < n ∧ ltr (t j) = true) ∧ a.2.2.1 = nmF t p (min c 8)) ?_ 10000 (y1, 0, 0, d) ⟨rfl, rfl, 0, (by decide : (0 : Int32).toInt = ((0 : Nat) : Int)), by omega, fun j h1 h2 => absurd h1 (by omega), rfl⟩
  rintro K ⟨z1, y3, y4, dd⟩ ⟨q1, q2, c, hc, hpc, hr, hv⟩ hK2
  dsimp only at q1 q2 hc hv hK2 ⊢
  subst q1
  subst q2
  unfold fX12_cutsText_B85
  have qs := z_add (x := z1) (y := y3) hy1 hc (by omega) (by omega)
  have qn : (z1 + y3).toInt = ((p + c : Nat) : Int) := by rw [qs]; omega
  refine pc_gd (fun _ => pc_cb (byteAt_e hS hn qn) (fun u48 d46 r => ?_))
  obtain ⟨e, hu⟩ := r
  subst e
  rw [bt_c htt] at hu
  refine pc_cb ltrM_e (fun u51 d49 r => ?_)
  obtain ⟨e, hu51⟩ := r
  subst e
  rw [hu, bt_l hb] at hu51
  have z := z_add (x := y3) (y := 1) hc e1 (by omega) (by omega)
  rcases hu51 with ⟨h51, hcd⟩ | ⟨h51, hcd⟩ <;> rw [h51]
  · have hr2 : ∀ j, p ≤ j → j < p + (c + 1) → j < n ∧ ltr (t j) = true := by
      intro j h1 h3
      by_cases zj : j = p + c
      · rw [zj]
        exact hcd
      · exact hr j h1 (by omega)
    refine pc_if (fun z => absurd z (by decide)) (fun _ => pc_if (fun cc => ?_) (fun cc => ?_))
    · have := Int32.le_iff_toInt_le.mp cc
      unfold fX12_cutsText_J118
      refine pc_bd (fun u68 e68 => hK2 _ ⟨rfl, rfl, c + 1, by dsimp only; rw [e68, z]; omega, by omega, hr2, ?_⟩)
      dsimp only
      rw [hv, show min (c + 1) 8 = min c 8 by omega]
    · have cc2 := Int32.lt_iff_toInt_lt.mp (nle cc)
      refine pc_cb (byteAt_e hS hn qn) (fun u71 d69 r => ?_)
      obtain ⟨e, hu71⟩ := r
      subst e
      have h0 := (ltr_i.mp hcd.2).1
      rw [bt_c htt, bt_v hb hcd.1 (by omega)] at hu71
      have hnz : ¬ u71 = 0 := by
        intro z
        rw [hu71] at z
        rw [z] at h0
        exact absurd h0 (by decide)
      refine pc_cb (appends_e hnz) (fun u74 d72 r => ?_)
      obtain ⟨e, hu74⟩ := r
      subst e
      unfold fX12_cutsText_J118
      refine pc_bd (fun u68 e68 => hK2 _ ⟨rfl, rfl, c + 1, by dsimp only; rw [e68, z]; omega, by omega, hr2, ?_⟩)
      dsimp only
      rw [hu74, hu71, hv, show min c 8 = c by omega, show min (c + 1) 8 = c + 1 by omega]
      rfl
  · have er : rn ltr t n p = p + c := rn_un (by omega) (fun j h1 h3 => hr j h1 h3) hcd
    have ew : wd t n p = wdF t p c 20 := by
      unfold wd
      rw [er, Nat.add_sub_cancel_left]
    have hen : z1.toInt + y3.toInt = ((en t n p : Nat) : Int) := by
      unfold en
      rw [if_pos hl, er]
      omega
    have fin : ∀ (nm : Int64) (k0 : Int32), k0 = kdS t n p → pc (fX12_cutsText_J179 10000 g 328 K7 z1 y3 nm k0 d49) (fun _ d' => MT t n d') := by
      intro nm k0 h0
      unfold fX12_cutsText_J179
      exact pc_gd (fun _ => tok_end hS h2 hM h0 v0.symm hy1 hen hK)
    have ek : kdS t n p = if wdF t p c 20 = 0 then (if 8 < c then 3 else 1) else Int32.ofNat (19 + wdF t p c 20) := by
      unfold kdS
      rw [if_pos hl, ew, er, Nat.add_sub_cancel_left]
    have j135 : ∀ k0 : Int32, (k0 = if 8 < c then 3 else 1) → pc (fX12_cutsText_J135 10000 g 328 K7 z1 y3 y4 k0 d49) (fun _ d' => MT t n d') := by
      intro k0 h0
      unfold fX12_cutsText_J135
      refine pc_if (fun cc => fin _ _ ?_) (fun cc => ?_)
      · have := Int32.lt_iff_toInt_lt.mp cc
        rw [ek, if_pos (wd_8 (by omega) 20), h0]
      · have cc2 := Int32.le_iff_toInt_le.mp (nlt cc)
        have hc8 : c ≤ 8 := by omega
        rw [if_neg (by omega)] at h0
        rw [show min c 8 = c by omega] at hv
        unfold fX12_cutsText_L146
        refine pc_lp (fun a => a.1 = z1 ∧ a.2.1 = y3 ∧ a.2.2.1 = y4 ∧ a.2.2.2.2.2 = d49 ∧ ∃ k : Nat, a.2.2.2.2.1.toInt = (k : Int) ∧ k ≤ 20 ∧ a.2.2.2.1 = if wdF t p c k = 0 then 1 else Int32.ofNat (19 + wdF t p c k)) ?_ 10000 (z1, y3, y4, k0, 0, d49) ⟨rfl, rfl, rfl, rfl, 0, (by decide : (0 : Int32).toInt = ((0 : Nat) : Int)), by omega, h0⟩
        rintro K3 ⟨w1, w3, w4, y6, y7, de⟩ ⟨a1, a3, a4, a5, k, hk, hk2, h6⟩ hK3
        dsimp only at a1 a3 a4 a5 hk h6 hK3 ⊢
        subst a1
        subst a3
        subst a4
        subst a5
        unfold fX12_cutsText_B146
        refine pc_if (fun cc => ?_) (fun cc => ?_)
        · have := Int32.le_iff_toInt_le.mp cc
          have : k = 20 := by omega
          subst this
          refine fin _ _ ?_
          rw [ek, h6]
          by_cases z0 : wdF t p c 20 = 0
          · rw [if_pos z0, if_pos z0, if_neg (by omega)]
          · rw [if_neg z0, if_neg z0]
        · have cc3 := Int32.lt_iff_toInt_lt.mp (nle cc)
          have hk3 : k < 20 := by omega
          have z7 := z_add (x := y7) (y := 1) hk e1 (by omega) (by omega)
          have z20 := z_add (x := 20) (y := y7) e20 hk (by omega) (by omega)
          have es : wdF t p c (k + 1) = if wsp t p c k = true then k + 1 else wdF t p c k := rfl
          have hll : ∀ j, j < c → ltr (t (p + j)) = true := fun j hj => (hr (p + j) (by omega) (by omega)).2
          have j173 : ∀ k1 : Int32, (k1 = if wdF t p c (k + 1) = 0 then 1 else Int32.ofNat (19 + wdF t p c (k + 1))) → pc (fX12_cutsText_J173 10000 g 328 K7 K3 w1 w3 w4 k1 y7 de) (fun _ d' => MT t n d') := by
            intro k1 h1
            unfold fX12_cutsText_J173
            exact pc_bd (fun u65 e65 => hK3 _ ⟨rfl, rfl, rfl, rfl, k + 1, by dsimp only; rw [e65, z7]; omega, by omega, h1⟩)
          refine pc_gd (fun _ => pc_ob (fun r61 e61 => ?_))
          have := gq hS (e := 335) (by decide +kernel) e61
          subst this
          rw [tn hk, hKL k hk3]
          refine pc_gd (fun _ => pc_gd (fun _ => pc_if (fun cm => ?_) (fun cm => ?_)))
          · have hw := (nm_w hk3 hc8 hll).mp ((cmp_0.mp cm).trans hv)
            refine pc_bd (fun u66 e66 => j173 u66 ?_)
            rw [es, if_pos hw, if_neg (by omega), e66]
            apply Int32.toInt_inj.mp
            rw [z20]
            have q := iv_of (n := 19 + (k + 1)) (by omega)
            have := q.1
            have := q.2
            omega
          · refine j173 y6 ?_
            have hw : ¬ wsp t p c k = true := fun z => cm (cmp_0.mpr (((nm_w hk3 hc8 hll).mpr z).trans hv.symm))
            rw [es, if_neg hw]
            exact h6
    refine pc_if (fun _ => pc_if (fun cc => j135 1 ?_) (fun cc => j135 3 ?_)) (fun z => absurd rfl z)
    · have := Int32.le_iff_toInt_le.mp cc
      rw [if_neg (by omega)]
    · have := Int32.lt_iff_toInt_lt.mp (nle cc)
      rw [if_pos (by omega)]
theorem cutsText_e {g : Gs} (hS : Shp g) {t : Nat → Int32} (hb : ∀ j, byr (t j)) {n : Nat} {d : Ds} (h2 : n ≤ 2000) (hn : (dI d 328 4).toInt = (n : Int)) (htt : ∀ j, j < n → dI d 330 j = t j) (hKL : KL d) : pc (fX12_cutsText 10000 g 328 d) (fun _ d' => MT t n d') := by
  have e1 : (1 : Int32).toInt = 1 := by decide
  have e0 : (0 : Int32).toInt = 0 := by decide
  have e400 : (400 : Int32).toInt = 400 := by decide
  unfold fX12_cutsText
  refine pc_gd (fun _ => pc_bd (fun d2 e2 => ?_))
  unfold fX12_cutsText_L7
  refine pc_lp (ML t n) ?_ 10000 (0, d2) ⟨0, 0, e0, Nat.zero_le _, rfl, by omega, by dsimp only; rw [e2, sI_rd, if_pos ⟨rfl, rfl⟩]; exact e0, fun i hi => absurd hi (by omega), by dsimp only; rw [rdq e2 (Or.inr (by decide))]; exact hn, fun j hj => by dsimp only; rw [rdq e2 (Or.inl (by decide))]; exact htt j hj, hKL.i e2⟩
  rintro K ⟨y1, dd⟩ ⟨s, p, hy, hp, hrn, hs4, hs, hT, hn, htt, hKL⟩ hK
  dsimp only at hy hs hT hn htt hKL hK ⊢
  unfold fX12_cutsText_B7
  refine pc_gd (fun _ => pc_if (fun c => ?_) (fun c => ?_))
  · have := Int32.lt_iff_toInt_lt.mp c
    exact pc_some ⟨s, hs4, hT, Or.inl ⟨by omega, by omega⟩⟩
  · have c2 := Int32.le_iff_toInt_le.mp (nlt c)
    have h4 : s ≤ 400 := by omega
    refine pc_cb (byteAt_e hS hn hy) (fun u7 d5 r => ?_)
    obtain ⟨e, hu⟩ := r
    subst e
    rw [bt_c htt] at hu
    refine pc_if (fun cs => ?_) (fun cs => ?_)
    · have cs2 := Int32.lt_iff_toInt_lt.mp cs
      have hlt : p < n := by omega
      have hu2 : u7 = t p &&& 255 := by
        rw [hu]
        unfold bt
        rw [if_neg (by omega)]
      have j67 : blk (t p) = true → pc (fX12_cutsText_J67 10000 g 328 K y1 d5) (fun _ d' => MT t n d') := by
        intro h
        unfold fX12_cutsText_J67
        refine pc_bd (fun u10 e10 => ?_)
        unfold fX12_cutsText_J284
        have z := z_add (x := y1) (y := 1) hy e1 (by omega) (by omega)
        exact hK _ ⟨s, p + 1, by dsimp only; rw [e10, z]; omega, by omega, by rw [← hrn]; exact (rn_s hlt h).symm, hs4, hs, hT, hn, htt, hKL⟩
      have be : ∀ k : Int32, 0 ≤ k.toInt ∧ k.toInt < 128 → (u7 = k ↔ t p = k) := fun k hk => by rw [hu2]; exact a255e (hb p) hk
      refine pc_if (fun c => j67 (blk_i.mpr (Or.inr (Or.inl ((be 9 (by decide)).mp c))))) (fun c1 => pc_if (fun c => j67 (blk_i.mpr (Or.inr (Or.inr (Or.inl ((be 10 (by decide)).mp c)))))) (fun c2 => pc_if (fun c => j67 (blk_i.mpr (Or.inr (Or.inr (Or.inr ((be 13 (by decide)).mp c)))))) (fun c3 => pc_if (fun c => j67 (blk_i.mpr (Or.inl ((be 32 (by decide)).mp c)))) (fun c4 => ?_))))
      have nb : ¬ blk (t p) = true := by
        intro z
        rcases blk_i.mp z with k | k | k | k
        · exact c4 ((be 32 (by decide)).mpr k)
        · exact c1 ((be 9 (by decide)).mpr k)
        · exact c2 ((be 10 (by decide)).mpr k)
        · exact c3 ((be 13 (by decide)).mpr k)
      have hps : ps t n s = p := by
        rw [← hrn]
        exact rn_e (fun z => nb z.2)
      have hMB : MB t n d5 s p := ⟨hlt, hps, h4, hs, hT, hn, htt, hKL⟩
      refine pc_cb ltrM_e (fun u16 d14 r => ?_)
      obtain ⟨e, hu16⟩ := r
      subst e
      rw [hu2, a255l (hb p)] at hu16
      rcases hu16 with ⟨h16, hl⟩ | ⟨h16, hl⟩ <;> rw [h16]
      · exact pc_if (fun z => absurd z (by decide)) (fun _ => ct85 hS hb h2 hMB hy hl hK)
      · refine pc_if (fun _ => ?_) (fun z => absurd rfl z)
        refine pc_cb dgtM_e (fun u20 d18 r => ?_)
        obtain ⟨e, hu20⟩ := r
        subst e
        rw [hu2, a255d (hb p)] at hu20
        rcases hu20 with ⟨h20, hd⟩ | ⟨h20, hd⟩ <;> rw [h20]
        · exact pc_if (fun z => absurd z (by decide)) (fun _ => ct208 hS hb h2 hMB hy hl hd hK)
        · refine pc_if (fun _ => ?_) (fun z => absurd rfl z)
          -- a sign
          have sg : ∀ k0 : Int32, k0 = kdS t n p → pc (fX12_sign_J12 10000 g 328 y1 u7 k0 328 d18) (fun u df => u = 1 ∧ FM d18 df s ∧ (dI df 328 10).toInt = (s : Int) + 1 ∧ dI df 331 s = kdS t n p ∧ dI df 332 s = y1 ∧ dI df 333 s = 0) := by
            intro k0 h0
            unfold fX12_sign_J12
            refine pc_gd (fun _ => pc_cv (token_e hS hs h4) (fun d3 r => ?_))
            obtain ⟨f, r10, rk, rp, rv⟩ := r
            exact pc_some ⟨rfl, f, r10, rk.trans h0, rp, rv⟩
          have ek : kdS t n p = if t p = 59 then 4 else 3 := by
            unfold kdS
            rw [if_neg hl, if_neg hd]
          refine pc_cb (P := fun u df => u = 1 ∧ FM d18 df s ∧ (dI df 328 10).toInt = (s : Int) + 1 ∧ dI df 331 s = kdS t n p ∧ dI df 332 s = y1 ∧ dI df 333 s = 0) ?_ (fun u24 d22 r => ?_)
          · unfold fX12_sign
            exact pc_if (fun c => sg 4 (by rw [ek, if_pos ((be 59 (by decide)).mp c)])) (fun c => sg 3 (by rw [ek, if_neg (fun z => c ((be 59 (by decide)).mpr z))]))
          · obtain ⟨h24, f, r10, rk, rp, rv⟩ := r
            refine pc_bd (fun u25 e25 => ?_)
            unfold fX12_cutsText_J284
            have z := z_add (x := y1) (y := 1) hy e1 (by omega) (by omega)
            have ee : en t n p = p + 1 := by
              unfold en
              rw [if_neg hl, if_neg hd]
            have v0 : vl t n p = 0 := by
              unfold vl
              rw [if_neg hd]
            refine hK _ ⟨s + 1, p + 1, by dsimp only; rw [e25, h24, z]; omega, by omega, ?_, by omega, by dsimp only; rw [r10]; omega, fun i hi => ?_, ?_, fun j hj => ?_, fun k hk => ?_⟩
            · show rn blk t n (p + 1) = (if ps t n s < n then rn blk t n (en t n (ps t n s)) else ps t n s)
              rw [if_pos (by omega), hps, ee]
            · by_cases z : i = s
              · subst z
                exact ⟨by omega, by rw [rk, hps], by dsimp only; rw [rp, hy, hps], by rw [rv, hps, v0]⟩
              · exact (hT i (by omega)).fm f z
            · dsimp only
              rw [f.1 328 4 (by decide) (fun z => absurd z.1 (by decide))]
              exact hn
            · dsimp only
              rw [f.1 330 j (fun z => absurd z.1 (by decide)) (fun z => absurd z.1 (by decide))]
              exact htt j hj
            · dsimp only
              rw [f.2]
              exact hKL k hk
    · have cs2 := Int32.le_iff_toInt_le.mp (nlt cs)
      have hpn : p = n := by omega
      have hps : ps t n s = n := by
        rw [← hrn, hpn]
        exact rn_e (fun z => by omega)
      refine pc_cv (token_e hS hs h4) (fun d75 r => ?_)
      obtain ⟨f, r10, rk, rp, rv⟩ := r
      refine pc_some ⟨s, by omega, fun i hi => (hT i hi).fm f (by omega), Or.inr ⟨by omega, h4, r10, rk, ?_, rv⟩⟩
      rw [rp]
      exact hn
