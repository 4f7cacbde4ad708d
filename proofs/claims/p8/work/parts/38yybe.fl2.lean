/-! a number that is no greater stays no greater when rounded -/
theorem near_le {a b M : Nat} (hb : 0 < b) (h : a ≤ M * b) : FP.Core.nearest a b ≤ M := by
  have d1 := Nat.div_add_mod a b
  have m1 := Nat.mod_lt a hb
  have q1 : a / b ≤ M := Nat.div_le_of_le_mul (by rw [Nat.mul_comm]; exact h)
  have q2 : 0 < a % b → a / b < M := by
    intro z
    refine Nat.lt_of_le_of_ne q1 (fun w => ?_)
    rw [w, Nat.mul_comm] at d1
    omega
  unfold FP.Core.nearest
  split
  · exact q1
  · split
    · have := q2 (by omega)
      omega
    · have := q2 (by omega)
      omega
theorem enc_le {num C : Nat} {e Q : Int} (h : ¬ num = 0) (h1 : 8388608 ≤ C) (h2 : C < 16777216) (h3 : -149 ≤ Q) (h4 : Q ≤ 103) (hle : num * 2 ^ (e - Q).toNat ≤ C * 2 ^ (Q - e).toNat) : FP.Core.encode FP.Core.b32 (FP.Core.roundRatio FP.Core.b32 false num 1 e) ≤ ((Q + 149).toNat + 1) * 8388608 + (C - 8388608) := by
  have lo := Nat.log2_self_le h
  have hi : num < 2 ^ (num.log2 + 1) := Nat.lt_log2_self
  obtain ⟨l, hl⟩ : ∃ l, num.log2 = l := ⟨_, rfl⟩
  have p24 : (2 : Nat) ^ 24 = 16777216 := by decide
  rw [hl] at lo hi
  have k1 : (l : Int) + e ≤ Q + 23 := by
    have a1 : 2 ^ l * 2 ^ (e - Q).toNat < 2 ^ 24 * 2 ^ (Q - e).toNat := by
      have b1 : 2 ^ l * 2 ^ (e - Q).toNat ≤ num * 2 ^ (e - Q).toNat := Nat.mul_le_mul_right _ lo
      have b2 : C * 2 ^ (Q - e).toNat < 2 ^ 24 * 2 ^ (Q - e).toNat := (Nat.mul_lt_mul_right (Nat.two_pow_pos _)).mpr (by omega)
      exact Nat.lt_of_le_of_lt (Nat.le_trans b1 hle) b2
    rw [← Nat.pow_add, ← Nat.pow_add] at a1
    have := (Nat.pow_lt_pow_iff_right (by decide : 1 < 2)).mp a1
    omega
  rw [rrx_f h, hl]
  obtain ⟨q, hq⟩ : ∃ q, max (-149) ((l : Int) + e - 23) = q := ⟨_, rfl⟩
  rw [hq]
  have q1 : q ≤ Q := by omega
  have q0 : -149 ≤ q := by omega
  have a1 : num * 2 ^ (e - q).toNat ≤ (C * 2 ^ (Q - q).toNat) * (1 * 2 ^ (q - e).toNat) := by
    rw [Nat.one_mul, Nat.mul_assoc, ← Nat.pow_add]
    by_cases z1 : Q ≤ e
    · have := Nat.mul_le_mul_right (2 ^ (Q - q).toNat) hle
      rw [Nat.mul_assoc, Nat.mul_assoc, ← Nat.pow_add, ← Nat.pow_add, show (e - Q).toNat + (Q - q).toNat = (e - q).toNat by omega, show (Q - e).toNat + (Q - q).toNat = (Q - q).toNat + (q - e).toNat by omega] at this
      exact this
    · by_cases z2 : q ≤ e
      · have := Nat.mul_le_mul_right (2 ^ (e - q).toNat) hle
        rw [Nat.mul_assoc, Nat.mul_assoc, ← Nat.pow_add, ← Nat.pow_add, show (e - Q).toNat + (e - q).toNat = (e - q).toNat by omega, show (Q - e).toNat + (e - q).toNat = (Q - q).toNat + (q - e).toNat by omega] at this
        exact this
      · rw [show (e - Q).toNat = 0 by omega] at hle
        rw [show (e - q).toNat = 0 by omega, show (Q - q).toNat + (q - e).toNat = (Q - e).toNat by omega]
        exact hle
  have a2 : num * 2 ^ (e - q).toNat ≤ 2 ^ 24 * (1 * 2 ^ (q - e).toNat) := by
    rw [Nat.one_mul, ← Nat.pow_add]
    have b1 : num * 2 ^ (e - q).toNat ≤ 2 ^ (l + 1) * 2 ^ (e - q).toNat := Nat.mul_le_mul_right _ (Nat.le_of_lt hi)
    rw [← Nat.pow_add] at b1
    exact Nat.le_trans b1 (Nat.pow_le_pow_right (by decide) (by omega))
  have hb : 0 < 1 * 2 ^ (q - e).toNat := by
    rw [Nat.one_mul]
    exact Nat.two_pow_pos _
  have n1 := near_le hb a1
  have n2 := near_le hb a2
  obtain ⟨c, hc⟩ : ∃ c, FP.Core.nearest (num * 2 ^ (e - q).toNat) (1 * 2 ^ (q - e).toNat) = c := ⟨_, rfl⟩
  rw [hc] at n1 n2 ⊢
  rw [p24] at n2
  have s0 : FP.Core.settle FP.Core.b32 false c q = if c < 16777216 then FP.Core.Datum.fin false c q else FP.Core.Datum.fin false 8388608 (q + 1) := by
    show (if c < 16777216 then (if q ≤ 104 then FP.Core.Datum.fin false c q else FP.Core.Datum.inf false) else (if q + 1 ≤ 104 then FP.Core.Datum.fin false 8388608 (q + 1) else FP.Core.Datum.inf false)) = _
    rw [if_pos (by omega : q ≤ 104), if_pos (by omega : q + 1 ≤ 104)]
  rw [s0]
  by_cases zq : q = Q
  · subst zq
    rw [show (q - q).toNat = 0 by omega, Nat.pow_zero, Nat.mul_one] at n1
    rw [if_pos (by omega)]
    by_cases z : c < 8388608
    · rw [enl_f z]
      omega
    · rw [enh_f z]
      omega
  · split
    · by_cases z : c < 8388608
      · rw [enl_f z]
        omega
      · rw [enh_f z]
        omega
    · rw [enh_f (by omega)]
      omega
/-- fallen by an eighth -/
theorem st_mul {x : UInt32} (hx : x.toNat ≤ 1065353216) : (FP.fmul x 1063256064).toNat ≤ 1063256064 := by
  obtain ⟨c, q, E, T, hxe, hc, q1, q2, hn, hT, hE7, hE⟩ := f01 hx
  obtain ⟨t, k1, k2, k3, k4, k5⟩ := flx_f hc q1 q2
  have d2 : FP.Core.decode FP.Core.b32 ((1063256064 : UInt32)).toNat = .fin false 14680064 (-24) := by decide +kernel
  have e1 : FP.fmul x 1063256064 = UInt32.ofNat (FP.Core.encode FP.Core.b32 (FP.Core.roundRatio FP.Core.b32 false (c * 14680064) 1 (q - 24))) := by
    show UInt32.ofNat (FP.Core.encode FP.Core.b32 (FP.Core.round FP.Core.b32 (FP.Core.exactProduct (FP.Core.decode FP.Core.b32 x.toNat) (FP.Core.decode FP.Core.b32 ((1063256064 : UInt32)).toNat)))) = _
    rw [hxe, k1, d2]
    show UInt32.ofNat (FP.Core.encode FP.Core.b32 (FP.Core.roundRatio FP.Core.b32 false (c * 2 ^ t * 14680064) 1 (q - (t : Int) + -24))) = _
    rw [Nat.mul_right_comm, rrv_f, show q - (t : Int) + -24 + (t : Int) = q - 24 by omega]
  have le : FP.Core.encode FP.Core.b32 (FP.Core.roundRatio FP.Core.b32 false (c * 14680064) 1 (q - 24)) ≤ 1063256064 := by
    by_cases h : c = 0
    · subst h
      have e0 : FP.Core.roundRatio FP.Core.b32 false 0 1 (q - 24) = .fin false 0 (-149) := if_pos rfl
      rw [Nat.zero_mul, e0, enl_f (by decide)]
      decide
    · have := enc_le (num := c * 14680064) (C := 14680064) (e := q - 24) (Q := -24) (by omega) (by decide) (by decide) (by decide) (by decide) (by
        rw [show (q - 24 - -24).toNat = 0 by omega, show (-24 - (q - 24)).toNat = (-q).toNat by omega, Nat.pow_zero, Nat.mul_one, Nat.mul_comm]
        refine Nat.mul_le_mul_left _ ?_
        rcases hE with ⟨h1, h2, h3⟩ | ⟨h1, h2, h3⟩
        · exact Nat.le_trans (Nat.le_of_lt (by omega : c < 2 ^ 23)) (Nat.pow_le_pow_right (by decide) (by omega))
        · by_cases z : E = 127
          · have : c = 2 ^ 23 := by omega
            rw [this, show (-q).toNat = 23 by omega]
            exact Nat.le_refl _
          · exact Nat.le_trans (Nat.le_of_lt (by omega : c < 2 ^ 24)) (Nat.pow_le_pow_right (by decide) (by omega)))
      have e3 : ((-24 + 149 : Int)).toNat = 125 := by decide
      rw [e3] at this
      omega
  rw [e1, UInt32.toNat_ofNat_of_lt' (by show _ < 4294967296; omega)]
  exact le
/-- and an eighth more -/
theorem st_add {x : UInt32} (hx : x.toNat ≤ 1063256064) : (FP.fadd x 1040187392).toNat ≤ 1065353216 := by
  obtain ⟨c, q, E, T, hxe, hc, q1, q2, hn, hT, hE7, hE⟩ := f01 (x := x) (by omega)
  obtain ⟨t, k1, k2, k3, k4, k5⟩ := flx_f hc q1 q2
  have d2 : FP.Core.decode FP.Core.b32 ((1040187392 : UInt32)).toNat = .fin false 8388608 (-26) := by decide +kernel
  obtain ⟨m, hm⟩ : ∃ m, min (q - (t : Int)) (-26) = m := ⟨_, rfl⟩
  obtain ⟨A, hA⟩ : ∃ A, c * 2 ^ t * 2 ^ (q - (t : Int) - m).toNat + 8388608 * 2 ^ (-26 - m).toNat = A := ⟨_, rfl⟩
  have eV : FP.Core.sumUnits false (c * 2 ^ t) (q - (t : Int)) false 8388608 (-26) m = (A : Int) := by
    rw [← hA]
    exact (Int.natCast_add _ _).symm
  have hs : FP.Core.sumSign false false (A : Int) = false := by
    unfold FP.Core.sumSign
    split
    · rfl
    · exact decide_eq_false (by omega)
  have e1 : FP.fadd x 1040187392 = UInt32.ofNat (FP.Core.encode FP.Core.b32 (FP.Core.roundRatio FP.Core.b32 false A 1 m)) := by
    show UInt32.ofNat (FP.Core.encode FP.Core.b32 (FP.Core.round FP.Core.b32 (FP.Core.exactSum (FP.Core.decode FP.Core.b32 x.toNat) (FP.Core.decode FP.Core.b32 ((1040187392 : UInt32)).toNat)))) = _
    rw [hxe, k1, d2]
    have e2 : FP.Core.exactSum (.fin false (c * 2 ^ t) (q - (t : Int))) (.fin false 8388608 (-26)) = .fin (FP.Core.sumSign false false (FP.Core.sumUnits false (c * 2 ^ t) (q - (t : Int)) false 8388608 (-26) (min (q - (t : Int)) (-26)))) (FP.Core.sumUnits false (c * 2 ^ t) (q - (t : Int)) false 8388608 (-26) (min (q - (t : Int)) (-26))).natAbs (min (q - (t : Int)) (-26)) := rfl
    rw [e2, hm, eV, hs, show (A : Int).natAbs = A by omega]
    rfl
  have p0 : 0 < 8388608 * 2 ^ (-26 - m).toNat := Nat.mul_pos (by decide) (Nat.two_pow_pos _)
  have s1 : c * 2 ^ t * 2 ^ (q - (t : Int) - m).toNat = c * 2 ^ (q - m).toNat := by
    rw [Nat.mul_assoc, ← Nat.pow_add, show t + (q - (t : Int) - m).toNat = (q - m).toNat by omega]
  have s2 : c ≤ 7 * 2 ^ (-q - 3).toNat := by
    rcases hE with ⟨h1, h2, h3⟩ | ⟨h1, h2, h3⟩
    · have : 2 ^ 23 ≤ 2 ^ (-q - 3).toNat := Nat.pow_le_pow_right (by decide) (by omega)
      have p23 : (2 : Nat) ^ 23 = 8388608 := by decide
      omega
    · by_cases z : E = 126
      · rw [show (-q - 3).toNat = 21 by omega]
        have p21 : (2 : Nat) ^ 21 = 2097152 := by decide
        omega
      · have : 2 ^ 22 ≤ 2 ^ (-q - 3).toNat := Nat.pow_le_pow_right (by decide) (by omega)
        have p22 : (2 : Nat) ^ 22 = 4194304 := by decide
        omega
  have s3 : A ≤ 2 ^ (-m).toNat := by
    have b1 : c * 2 ^ (q - m).toNat ≤ 7 * 2 ^ (-q - 3).toNat * 2 ^ (q - m).toNat := Nat.mul_le_mul_right _ s2
    rw [Nat.mul_assoc, ← Nat.pow_add, show (-q - 3).toNat + (q - m).toNat = (-m - 3).toNat by omega] at b1
    have b2 : 8388608 * 2 ^ (-26 - m).toNat = 2 ^ (-m - 3).toNat := by
      have p23 : 8388608 = 2 ^ 23 := by decide
      rw [p23, ← Nat.pow_add, show 23 + (-26 - m).toNat = (-m - 3).toNat by omega]
    have b3 : 2 ^ (-m).toNat = 8 * 2 ^ (-m - 3).toNat := by
      have p3 : 8 = 2 ^ 3 := by decide
      rw [p3, ← Nat.pow_add, show 3 + (-m - 3).toNat = (-m).toNat by omega]
    rw [← hA, s1, b2, b3]
    omega
  have le : FP.Core.encode FP.Core.b32 (FP.Core.roundRatio FP.Core.b32 false A 1 m) ≤ 1065353216 := by
    have := enc_le (num := A) (C := 8388608) (e := m) (Q := -23) (by omega) (by decide) (by decide) (by decide) (by decide) (by
      have p23 : 8388608 = 2 ^ 23 := by decide
      rw [show (m - -23).toNat = 0 by omega, Nat.pow_zero, Nat.mul_one, p23, ← Nat.pow_add, show 23 + (-23 - m).toNat = (-m).toNat by omega]
      exact s3)
    have e3 : ((-23 + 149 : Int)).toNat = 126 := by decide
    rw [e3] at this
    omega
  rw [e1, UInt32.toNat_ofNat_of_lt' (by show _ < 4294967296; omega)]
  exact le
theorem stS_1 {b : Bool} {x : UInt32} (hx : x.toNat ≤ 1065353216) : (stS b x).toNat ≤ 1065353216 := by
  have h := st_mul hx
  unfold stS
  cases b
  · exact Nat.le_trans h (by decide)
  · exact st_add h
