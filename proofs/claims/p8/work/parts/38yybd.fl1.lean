/-! the bits of a number between 0 and 1 -/
theorem iN {c : Nat} (h : c < 2147483648) : (Int32.ofInt (c : Int)).toInt = (c : Int) := Int32.toInt_ofInt_of_le (by omega) (by omega)
/-- a number between 0 and 1: its digits -/
theorem f01 {x : UInt32} (hx : x.toNat ≤ 1065353216) : ∃ c : Nat, ∃ q : Int, ∃ E T : Nat, x = fl_f c q ∧ c < 16777216 ∧ -149 ≤ q ∧ q ≤ 60 ∧ x.toNat = E * 8388608 + T ∧ T < 8388608 ∧ E ≤ 127 ∧ (E = 0 ∧ c = T ∧ q = -149 ∨ 1 ≤ E ∧ c = 8388608 + T ∧ q = (E : Int) - 150) := by
  obtain ⟨n, hn⟩ : ∃ n, x.toNat = n := ⟨_, rfl⟩
  have hT : n % 8388608 < 8388608 := Nat.mod_lt _ (by decide)
  have mk : ∀ {c : Nat} {q : Int}, c < 16777216 → -149 ≤ q → q ≤ 60 → (q = -149 ∨ 8388608 ≤ c) → FP.Core.encode FP.Core.b32 (.fin false c q) = n → x = fl_f c q := by
    intro c q hc h1 h2 h3 he
    obtain ⟨t, _, k1, k2, k3, k4⟩ := flx_f hc h1 h2
    refine UInt32.toNat_inj.mp ?_
    rw [k1, hn]
    by_cases t0 : t = 0
    · subst t0
      rw [Nat.pow_zero, Nat.mul_one, show q - ((0 : Nat) : Int) = q by omega]
      exact he.symm
    · exfalso
      rcases h3 with h3 | h3
      · omega
      · have h4 : 2 ^ 1 ≤ 2 ^ t := Nat.pow_le_pow_right (by decide) (by omega)
        have h5 : 8388608 * 2 ≤ c * 2 ^ t := Nat.mul_le_mul h3 h4
        omega
  by_cases hE : n / 8388608 = 0
  · have hc : n % 8388608 = n := by omega
    refine ⟨n % 8388608, -149, 0, n % 8388608, mk (by omega) (by omega) (by omega) (Or.inl rfl) ?_, by omega, by omega, by omega, by omega, hT, by omega, Or.inl ⟨rfl, rfl, rfl⟩⟩
    rw [enl_f hT]
    exact hc
  · refine ⟨8388608 + n % 8388608, ((n / 8388608 : Nat) : Int) - 150, n / 8388608, n % 8388608, mk (by omega) (by omega) (by omega) (Or.inr (by omega)) ?_, by omega, by omega, by omega, by omega, hT, by omega, Or.inr ⟨by omega, rfl, rfl⟩⟩
    rw [enh_f (by omega)]
    omega
/-- how far from one -/
theorem far_1 {c E T j : Nat} {q : Int} (hT : T < 8388608) (hE : E = 0 ∧ c = T ∧ q = -149 ∨ 1 ≤ E ∧ c = 8388608 + T ∧ q = (E : Int) - 150) (hj : j ≤ 126) : 2 ^ 149 ≤ c * 2 ^ (q + (j : Int) + 149).toNat ↔ 1 ≤ E ∧ 127 ≤ E + j := by
  have h149 : (2 : Nat) ^ 149 = 2 ^ 23 * 2 ^ 126 := by rw [← Nat.pow_add]
  have e23 : (2 : Nat) ^ 23 = 8388608 := by decide
  rcases hE with ⟨h1, h2, h3⟩ | ⟨h1, h2, h3⟩
  · constructor
    · intro h
      exfalso
      have p : 2 ^ (q + (j : Int) + 149).toNat ≤ 2 ^ 126 := Nat.pow_le_pow_right (by decide) (by omega)
      have p2 : c * 2 ^ (q + (j : Int) + 149).toNat ≤ c * 2 ^ 126 := Nat.mul_le_mul_left c p
      have p3 : c * 2 ^ 126 < 2 ^ 23 * 2 ^ 126 := (Nat.mul_lt_mul_right (Nat.two_pow_pos 126)).mpr (by omega)
      rw [h149] at h
      exact absurd (Nat.lt_of_le_of_lt (Nat.le_trans h p2) p3) (Nat.lt_irrefl _)
    · intro h
      omega
  · constructor
    · intro h
      refine ⟨h1, ?_⟩
      by_cases z : 127 ≤ E + j
      · exact z
      · exfalso
        have p : 2 ^ (q + (j : Int) + 149).toNat ≤ 2 ^ 125 := Nat.pow_le_pow_right (by decide) (by omega)
        have p2 : c * 2 ^ (q + (j : Int) + 149).toNat ≤ c * 2 ^ 125 := Nat.mul_le_mul_left c p
        have p24 : (2 : Nat) ^ 24 = 16777216 := by decide
        have p3 : c * 2 ^ 125 < 2 ^ 24 * 2 ^ 125 := (Nat.mul_lt_mul_right (Nat.two_pow_pos 125)).mpr (by omega)
        rw [← Nat.pow_add] at p3
        exact absurd (Nat.lt_of_le_of_lt (Nat.le_trans h p2) p3) (Nat.lt_irrefl _)
    · intro h
      have p : 2 ^ 126 ≤ 2 ^ (q + (j : Int) + 149).toNat := Nat.pow_le_pow_right (by decide) (by omega)
      rw [h149]
      exact Nat.mul_le_mul (by omega) p
theorem f2i_0 {c : Nat} (hc : c < 16777216) : (FP.f2i (fl_f c 0)).toInt = (c : Int) := by
  obtain ⟨t, k1, _⟩ := flx_f hc (e := 0) (by omega) (by omega)
  have e1 : FP.f2i (fl_f c 0) = Int32.ofInt (max (-2 ^ 31) (min (2 ^ 31 - 1) (FP.Core.truncate false (c * 2 ^ t) (0 - (t : Int))))) := by
    show FP.Core.toI (FP.Core.decode FP.Core.b32 (fl_f c 0).toNat) = _
    rw [k1]
    rfl
  have e2 : FP.Core.truncate false (c * 2 ^ t) (0 - (t : Int)) = (c : Int) := by
    show ((c * 2 ^ t * 2 ^ (0 - (t : Int)).toNat / 2 ^ (-(0 - (t : Int))).toNat : Nat) : Int) = _
    rw [show (0 - (t : Int)).toNat = 0 by omega, show (-(0 - (t : Int))).toNat = t by omega, Nat.pow_zero, Nat.mul_one, Nat.mul_div_cancel _ (Nat.two_pow_pos t)]
  rw [e1, e2, show max (-2 ^ 31) (min (2 ^ 31 - 1) (c : Int)) = (c : Int) by omega]
  exact iN (by omega)
theorem d2i_0 {c : Nat} (hc : c < 16777216) : (FP.d2i (fl_d c 0)).toInt = (c : Int) := by
  obtain ⟨t, k1, _⟩ := flx_d hc (e := 0) (by omega) (by omega)
  have e1 : FP.d2i (fl_d c 0) = Int32.ofInt (max (-2 ^ 31) (min (2 ^ 31 - 1) (FP.Core.truncate false (c * 2 ^ t) (0 - (t : Int))))) := by
    show FP.Core.toI (FP.Core.decode FP.Core.b64 (fl_d c 0).toNat) = _
    rw [k1]
    rfl
  have e2 : FP.Core.truncate false (c * 2 ^ t) (0 - (t : Int)) = (c : Int) := by
    show ((c * 2 ^ t * 2 ^ (0 - (t : Int)).toNat / 2 ^ (-(0 - (t : Int))).toNat : Nat) : Int) = _
    rw [show (0 - (t : Int)).toNat = 0 by omega, show (-(0 - (t : Int))).toNat = t by omega, Nat.pow_zero, Nat.mul_one, Nat.mul_div_cancel _ (Nat.two_pow_pos t)]
  rw [e1, e2, show max (-2 ^ 31) (min (2 ^ 31 - 1) (c : Int)) = (c : Int) by omega]
  exact iN (by omega)
theorem fsub_1 {T : Nat} (hT : T < 8388608) : FP.fsub (fl_f (8388608 + T) (-23)) FP.fconst1 = fl_f T (-23) := by
  obtain ⟨t, k1, _, k2, _⟩ := flx_f (c := 8388608 + T) (e := -23) (by omega) (by omega) (by omega)
  have t0 : t = 0 := by
    by_cases z : t = 0
    · exact z
    · exfalso
      have h4 : 2 ^ 1 ≤ 2 ^ t := Nat.pow_le_pow_right (by decide) (by omega)
      have h5 : 8388608 * 2 ≤ (8388608 + T) * 2 ^ t := Nat.mul_le_mul (by omega) h4
      omega
  subst t0
  have d2 : FP.Core.decode FP.Core.b32 (FP.fconst1 : UInt32).toNat = .fin false 8388608 (-23) := by decide +kernel
  show UInt32.ofNat (FP.Core.encode FP.Core.b32 (FP.Core.round FP.Core.b32 (FP.Core.exactSum (FP.Core.decode FP.Core.b32 (fl_f (8388608 + T) (-23)).toNat) (FP.Core.negate (FP.Core.decode FP.Core.b32 (FP.fconst1 : UInt32).toNat))))) = _
  rw [k1, d2, Nat.pow_zero, Nat.mul_one, show (-23 : Int) - ((0 : Nat) : Int) = -23 by omega]
  have eV : FP.Core.sumUnits false (8388608 + T) (-23) true 8388608 (-23) (min (-23) (-23)) = (T : Int) := by
    show (((8388608 + T) * 2 ^ 0 : Nat) : Int) + -((8388608 * 2 ^ 0 : Nat) : Int) = _
    omega
  have e1 : FP.Core.exactSum (.fin false (8388608 + T) (-23)) (FP.Core.negate (.fin false 8388608 (-23))) = .fin (FP.Core.sumSign false true (FP.Core.sumUnits false (8388608 + T) (-23) true 8388608 (-23) (min (-23) (-23)))) (FP.Core.sumUnits false (8388608 + T) (-23) true 8388608 (-23) (min (-23) (-23))).natAbs (min (-23) (-23)) := rfl
  have e2 : FP.Core.sumSign false true (T : Int) = false := by
    unfold FP.Core.sumSign
    split
    · rfl
    · exact decide_eq_false (by omega)
  rw [e1, eV, e2, show (T : Int).natAbs = T by omega]
  rfl
section FBZ
variable {d : Ds}
/-- the class's float, bit by bit -/
theorem floatBits_z {g : Gs} {x : UInt32} (hx : x.toNat ≤ 1065353216) : pc (fX11_floatBits 10000 g x d) (fun u d' => d' = d ∧ u.toInt = (x.toNat : Int)) := by
  obtain ⟨c, q, E, T, hxe, hc, q1, q2, hn, hT, hE7, hE⟩ := f01 hx
  have e1 : (1 : Int32).toInt = 1 := by decide
  have d23 : FP.Core.decode FP.Core.b32 ((1258291200 : UInt32)).toNat = .fin false 8388608 0 := by decide +kernel
  unfold fX11_floatBits fX11_floatBits_L5
  refine pc_lp (fun (a : UInt32 × Int32 × Ds) => a.2.2 = d ∧ ∃ j : Nat, j ≤ 126 ∧ (1 ≤ E → j ≤ 127 - E) ∧ a.1 = fl_f c (q + (j : Int)) ∧ a.2.1.toInt = 127 - (j : Int)) ?_ 10000 (x, 127, d) ⟨rfl, 0, by omega, by omega, by rw [show q + ((0 : Nat) : Int) = q by omega]; exact hxe, (by decide : (127 : Int32).toInt = 127 - ((0 : Nat) : Int))⟩
  rintro K ⟨y1, y2, dd⟩ ⟨ed, j, hj, hjE, hy, h2⟩ hK
  dsimp only at ed hy h2 hK ⊢
  subst ed
  subst hy
  have iff := (flc_f hc (e := q + (j : Int)) (by omega) (by omega)).trans (far_1 hT hE hj)
  have j26 : (1 ≤ E ∧ 127 ≤ E + j ∨ j = 126) → pc (fX11_floatBits_J26 10000 g x (fl_f c (q + (j : Int))) y2 dd) (fun u d' => d' = dd ∧ u.toInt = (x.toNat : Int)) := by
    intro h
    unfold fX11_floatBits_J26
    refine pc_if (fun z => ?_) (fun z => ?_)
    · have hh := iff.mp z
      have hj2 := hjE hh.1
      rcases hE with hE | ⟨_, hcT, hq⟩
      · omega
      have eq : q + (j : Int) = -23 := by omega
      rw [eq, hcT]
      refine pc_gd (fun _ => pc_bd (fun u4 e4 => ?_))
      rw [fsub_1 hT] at e4
      subst e4
      refine pc_gd (fun _ => pc_bd (fun u6 e6 => pc_some ⟨rfl, ?_⟩))
      have e6' : u6 = fl_f T 0 := e6.trans ((flm_f d23 (by omega) (by omega) (by omega)).trans (by rw [show (-23 : Int) + (0 + 23) = 0 by omega]))
      rw [e6']
      have sh : ∀ E, E < 128 → (Int32.ofNat E <<< ((23 : Int32) &&& 31)).toInt = ((E * 8388608 : Nat) : Int) := by decide +kernel
      have y2E : y2 = Int32.ofNat E := ofN (by omega) (by omega)
      rw [y2E, z_add (sh E (by omega)) (f2i_0 (by omega)) (by omega) (by omega), hn]
      omega
    · have hh : ¬ (1 ≤ E ∧ 127 ≤ E + j) := fun w => z (iff.mpr w)
      have hj6 : j = 126 := by omega
      rcases hE with ⟨hE0, hcT, hq⟩ | hE
      · refine pc_gd (fun _ => pc_bd (fun u8 e8 => pc_some ⟨rfl, ?_⟩))
        have e8' : u8 = fl_f c 0 := e8.trans ((flm_f d23 hc (by omega) (by omega)).trans (by rw [show q + (j : Int) + (0 + 23) = 0 by omega]))
        rw [e8', f2i_0 hc, hn]
        omega
      · omega
  unfold fX11_floatBits_B5
  refine pc_if (fun z => j26 (Or.inl (iff.mp z))) (fun z => pc_if (fun z2 => j26 (Or.inr ?_)) (fun z2 => ?_))
  · have := Int32.le_iff_toInt_le.mp z2
    omega
  · have l2 := Int32.lt_iff_toInt_lt.mp (nle z2)
    have hh : ¬ (1 ≤ E ∧ 127 ≤ E + j) := fun w => z (iff.mpr w)
    refine pc_gd (fun _ => pc_bd (fun u11 e11 => pc_bd (fun u12 e12 => hK _ ⟨rfl, j + 1, by omega, by omega, ?_, ?_⟩)))
    · dsimp only
      rw [e11]
      exact (flm_f two_f hc (by omega) (by omega)).trans (by rw [show q + (j : Int) + (-22 + 23) = q + ((j + 1 : Nat) : Int) by omega])
    · dsimp only
      rw [e12, z_add h2 (b := -1) (by decide) (by omega) (by omega)]
      omega
theorem f2d_e {c : Nat} {q : Int} (hc : c < 16777216) (h1 : -149 ≤ q) (h2 : q ≤ 60) : FP.f2d (fl_f c q) = fl_d c q := by
  obtain ⟨t, k1, _⟩ := flx_f hc h1 h2
  have n0 : FP.Core.fIsNaN (fl_f c q) = false := by
    show decide (FP.Core.decode FP.Core.b32 (fl_f c q).toNat = .nan) = false
    rw [k1]
    exact decide_eq_false (fun z => by cases z)
  unfold FP.f2d
  rw [n0, if_neg (by decide)]
  show UInt64.ofNat (FP.Core.encode FP.Core.b64 (FP.Core.round FP.Core.b64 (FP.Core.decode FP.Core.b32 (fl_f c q).toNat))) = _
  rw [k1]
  show UInt64.ofNat (FP.Core.encode FP.Core.b64 (FP.Core.roundRatio FP.Core.b64 false (c * 2 ^ t) 1 (q - (t : Int)))) = _
  rw [rrv_d, show q - (t : Int) + (t : Int) = q by omega]
  rfl
theorem far_d {c : Nat} {e : Int} (h1 : -149 ≤ e) : 2 ^ 1074 ≤ c * 2 ^ (e + 1074).toNat ↔ 2 ^ 149 ≤ c * 2 ^ (e + 149).toNat := by
  have p1 : (2 : Nat) ^ 1074 = 2 ^ 149 * 2 ^ 925 := by rw [← Nat.pow_add]
  have p2 : c * 2 ^ (e + 1074).toNat = c * 2 ^ (e + 149).toNat * 2 ^ 925 := by
    rw [Nat.mul_assoc, ← Nat.pow_add, show (e + 149).toNat + 925 = (e + 1074).toNat by omega]
  rw [p1, p2, Nat.mul_le_mul_right_iff (Nat.two_pow_pos 925)]
theorem or_sh {E T : Nat} (hE : E < 128) (hT : T < 8388608) {y z : Int32} (hy : y.toInt = (E : Int)) (hz : z.toInt = (T : Int)) : ((y <<< ((23 : Int32) &&& 31)) ||| z).toInt = ((E * 8388608 + T : Nat) : Int) := by
  have sh : ∀ E, E < 128 → Int32.ofNat E <<< ((23 : Int32) &&& 31) = Int32.ofNat (E * 8388608) := by decide +kernel
  have e1 : Int32.ofNat (E * 8388608) ||| Int32.ofNat T = Int32.ofNat (E * 8388608 ||| T) := Int32.toBitVec_inj.mp (by
    show BitVec.ofNat 32 _ ||| BitVec.ofNat 32 _ = BitVec.ofNat 32 _
    rw [BitVec.ofNat_or])
  have e2 : E * 8388608 ||| T = E * 8388608 + T := by
    have := Nat.shiftLeft_add_eq_or_of_lt (i := 23) (b := T) hT E
    rw [Nat.shiftLeft_eq] at this
    exact this.symm
  rw [ofN hy (by omega), ofN hz (by omega), sh E hE, e1, e2]
  exact Int32.toInt_ofNat_of_lt (by omega)
/-- the model's number, bit by bit -/
theorem bitsNum_z {g : Gs} {x : UInt32} (hx : x.toNat ≤ 1065353216) : pc (fX12_bitsOfNumber 10000 g x d) (fun u d' => d' = d ∧ u.toInt = (x.toNat : Int)) := by
  obtain ⟨c, q, E, T, hxe, hc, q1, q2, hn, hT, hE7, hE⟩ := f01 hx
  have e1 : (1 : Int32).toInt = 1 := by decide
  unfold fX12_bitsOfNumber
  refine pc_gd (fun _ => pc_bd (fun u2 e2 => ?_))
  have e2' : u2 = fl_d c q := by rw [e2, hxe]; exact f2d_e hc q1 q2
  have z0 : (Op.cmpValue (FP.dcmp u2 FP.dconst0) .l) = 0 → c = 0 := by
    intro h
    obtain ⟨t, k1, _⟩ := flx_d hc (e := q) (by omega) q2
    have d2 : FP.Core.decode FP.Core.b64 (FP.dconst0 : UInt64).toNat = .fin false 0 (-1074) := by decide +kernel
    have e0 : FP.dcmp u2 FP.dconst0 = some (compare (((c * 2 ^ t) * 2 ^ (q - (t : Int) - min (q - (t : Int)) (-1074)).toNat : Nat) : Int) ((0 * 2 ^ (-1074 - min (q - (t : Int)) (-1074)).toNat : Nat) : Int)) := by
      show FP.Core.order (FP.Core.decode FP.Core.b64 u2.toNat) (FP.Core.decode FP.Core.b64 (FP.dconst0 : UInt64).toNat) = _
      rw [e2', k1, d2]
      rfl
    rw [e0, Nat.zero_mul] at h
    obtain ⟨A, hA⟩ : ∃ A, c * 2 ^ t * 2 ^ (q - (t : Int) - min (q - (t : Int)) (-1074)).toNat = A := ⟨_, rfl⟩
    rw [hA] at h
    have a0 : A = 0 := cmp_zero8 h
    rw [a0] at hA
    rcases Nat.mul_eq_zero.mp hA with y | y
    · rcases Nat.mul_eq_zero.mp y with y | y
      · exact y
      · have := Nat.two_pow_pos t
        omega
    · exact absurd y (Nat.ne_of_gt (Nat.two_pow_pos _))
  refine pc_if (fun z => pc_some ⟨rfl, ?_⟩) (fun _ => ?_)
  · have c0 := z0 z
    have e0 : (0 : Int32).toInt = 0 := by decide
    rw [e0, hn]
    omega
  rw [e2']
  unfold fX12_bitsOfNumber_L14
  refine pc_lp (fun (a : UInt64 × Int32 × Ds) => a.2.2 = d ∧ ∃ j : Nat, j ≤ 126 ∧ (1 ≤ E → j ≤ 127 - E) ∧ a.1 = fl_d c (q + (j : Int)) ∧ a.2.1.toInt = 127 - (j : Int)) ?_ 10000 (fl_d c q, 127, d) ⟨rfl, 0, by omega, by omega, by rw [show q + ((0 : Nat) : Int) = q by omega], (by decide : (127 : Int32).toInt = 127 - ((0 : Nat) : Int))⟩
  rintro K ⟨y1, y3, dd⟩ ⟨ed, j, hj, hjE, hy, h2⟩ hK
  dsimp only at ed hy h2 hK ⊢
  subst ed
  subst hy
  have iff := ((flc_d hc (e := q + (j : Int)) (by omega) (by omega)).trans (far_d (by omega))).trans (far_1 hT hE hj)
  have two : FP.Core.decode FP.Core.b64 ((4611686018427387904 : UInt64)).toNat = .fin false 4503599627370496 (-51) := by decide +kernel
  have j37 : (1 ≤ E ∧ 127 ≤ E + j ∨ j = 126) → pc (fX12_bitsOfNumber_J37 10000 g x (fl_d c (q + (j : Int))) y3 dd) (fun u d' => d' = dd ∧ u.toInt = (x.toNat : Int)) := by
    intro h
    have hq : q + (j : Int) = -23 ∧ y3.toInt = (if 1 ≤ E then (E : Int) else 1) := by
      rcases hE with ⟨hE0, hcT, hq⟩ | ⟨hE0, hcT, hq⟩
      · rw [if_neg (by omega)]
        omega
      · have := hjE hE0
        rw [if_pos hE0]
        omega
    rw [hq.1]
    unfold fX12_bitsOfNumber_J37 fX12_bitsOfNumber_L40
    refine pc_lp (fun (a : UInt64 × Int32 × Int32 × Ds) => a.2.2.2 = dd ∧ a.2.1 = y3 ∧ ∃ i : Nat, i ≤ 23 ∧ a.2.2.1.toInt = (i : Int) ∧ a.1 = fl_d c (-23 + (i : Int))) ?_ 10000 (fl_d c (-23), y3, 0, dd) ⟨rfl, rfl, 0, by omega, (by decide : (0 : Int32).toInt = ((0 : Nat) : Int)), rfl⟩
    rintro K2 ⟨v1, v3, v4, de⟩ ⟨ee, e3, i, hi, hv, h1⟩ hK2
    dsimp only at ee e3 hv h1 hK2 ⊢
    subst ee
    subst e3
    subst h1
    unfold fX12_bitsOfNumber_B40
    refine pc_if (fun z => ?_) (fun z => ?_)
    · have := Int32.le_iff_toInt_le.mp z
      have e23 : (23 : Int32).toInt = 23 := by decide
      have i23 : i = 23 := by omega
      subst i23
      refine pc_bd (fun u6 e6 => ?_)
      have h6 : u6.toInt = (c : Int) := by rw [e6]; exact d2i_0 hc
      have e88 : (8388608 : Int32).toInt = 8388608 := by decide
      unfold fX12_bitsOfNumber_J87
      refine pc_if (fun w => pc_some ⟨rfl, ?_⟩) (fun w => pc_some ⟨rfl, ?_⟩)
      · have w2 := Int32.le_iff_toInt_le.mp w
        rcases hE with hE | ⟨hE1, hcT, _⟩
        · omega
        have h7 : (u6 - 8388608).toInt = (T : Int) := by
          rw [z_sub h6 e88 (by omega) (by omega)]
          omega
        rw [or_sh (E := E) (by omega) hT (by rw [hq.2, if_pos hE1]) h7, hn]
      · have w2 := Int32.lt_iff_toInt_lt.mp (nle w)
        rw [h6, hn]
        omega
    · have l4 := Int32.lt_iff_toInt_lt.mp (nle z)
      have e23 : (23 : Int32).toInt = 23 := by decide
      refine pc_gd (fun _ => pc_bd (fun u9 e9 => pc_bd (fun u10 e10 => hK2 _ ⟨rfl, rfl, i + 1, by omega, ?_, ?_⟩)))
      · dsimp only
        rw [e10, z_add hv e1 (by omega) (by omega)]
        omega
      · dsimp only
        rw [e9]
        exact (flm_d two hc (by omega) (by omega)).trans (by rw [show -23 + (i : Int) + (-51 + 52) = -23 + ((i + 1 : Nat) : Int) by omega])
  unfold fX12_bitsOfNumber_B14
  refine pc_if (fun z => j37 (Or.inl (iff.mp z))) (fun z => pc_if (fun z2 => j37 (Or.inr ?_)) (fun z2 => ?_))
  · have := Int32.le_iff_toInt_le.mp z2
    omega
  · have l2 := Int32.lt_iff_toInt_lt.mp (nle z2)
    have hh : ¬ (1 ≤ E ∧ 127 ≤ E + j) := fun w => z (iff.mpr w)
    refine pc_gd (fun _ => pc_bd (fun u13 e13 => pc_bd (fun u14 e14 => hK _ ⟨rfl, j + 1, by omega, by omega, ?_, ?_⟩)))
    · dsimp only
      rw [e13]
      exact (flm_d two hc (by omega) (by omega)).trans (by rw [show q + (j : Int) + (-51 + 52) = q + ((j + 1 : Nat) : Int) by omega])
    · dsimp only
      rw [e14, z_add h2 (b := -1) (by decide) (by omega) (by omega)]
      omega
end FBZ
