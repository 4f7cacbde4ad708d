/-! floats: no NaN comes of numbers -/
theorem fl_dec {x : UInt32} (h : nnF x) : FP.Core.decode FP.Core.b32 x.toNat ≠ .nan := by
  have hn : x.toNat < 4294967296 := x.toNat_lt
  rw [nnF, UInt32.le_iff_toNat_le, UInt32.toNat_and] at h
  have e : x.toNat &&& (0x7fffffff : UInt32).toNat = x.toNat % 2147483648 := by
    show x.toNat &&& (2 ^ 31 - 1) = _
    rw [Nat.and_two_pow_sub_one_eq_mod]
  rw [e] at h
  have h' : x.toNat % 2147483648 ≤ 2139095040 := h
  intro hv
  rw [FP.Core.decode] at hv
  split at hv
  · rename_i hE
    have hE' : x.toNat / 8388608 % 256 = 255 := hE
    split at hv
    · cases hv
    · rename_i hT
      have hT' : ¬ x.toNat % 8388608 = 0 := hT
      omega
  · split at hv <;> cases hv
theorem fl_enc {d : FP.Core.Datum} (h : d ≠ .nan) : nnF (UInt32.ofNat (FP.Core.encode FP.Core.b32 (FP.Core.round FP.Core.b32 d))) := by
  have key : ∀ e : FP.Core.Datum, (e ≠ .nan) → (∀ s c q, e = .fin s c q → c < 16777216 ∧ q ≤ 104) → FP.Core.encode FP.Core.b32 e < 4294967296 ∧ FP.Core.encode FP.Core.b32 e % 2147483648 ≤ 2139095040 := by
    intro e he hq
    cases e with
    | nan => exact absurd rfl he
    | inf s => cases s <;> exact ⟨by decide, by decide⟩
    | fin s c q =>
      obtain ⟨h1, h2⟩ := hq s c q rfl
      have hs : s.toNat = 0 ∨ s.toNat = 1 := by cases s <;> simp
      by_cases hc : c < 8388608
      · have e1 : FP.Core.encode FP.Core.b32 (.fin s c q) = (s.toNat * 256 + 0) * 8388608 + c := if_pos hc
        rw [e1]
        omega
      · have e1 : FP.Core.encode FP.Core.b32 (.fin s c q) = (s.toNat * 256 + ((q - (-149)).toNat + 1)) * 8388608 + (c - 8388608) := if_neg hc
        rw [e1]
        omega
  have hr : (FP.Core.round FP.Core.b32 d ≠ .nan) ∧ ∀ s c q, FP.Core.round FP.Core.b32 d = .fin s c q → c < 16777216 ∧ q ≤ 104 := by
    cases d with
    | nan => exact absurd rfl h
    | inf s => exact ⟨fun q => (by cases q), fun s c q z => (by cases z)⟩
    | fin s c q =>
      have e1 : FP.Core.round FP.Core.b32 (.fin s c q) = FP.Core.roundRatio FP.Core.b32 s c 1 q := rfl
      rw [e1]
      unfold FP.Core.roundRatio
      split
      · exact ⟨fun z => (by cases z), fun s2 c2 q2 z => by cases z; exact ⟨by decide, by decide⟩⟩
      · unfold FP.Core.roundAt FP.Core.settle FP.Core.bound
        split
        · rename_i hc
          split
          · rename_i hq
            exact ⟨fun z => (by cases z), fun s2 c2 q2 z => by cases z; exact ⟨hc, hq⟩⟩
          · exact ⟨fun z => (by cases z), fun s2 c2 q2 z => (by cases z)⟩
        · split
          · rename_i hq
            exact ⟨fun z => (by cases z), fun s2 c2 q2 z => by cases z; exact ⟨by decide, hq⟩⟩
          · exact ⟨fun z => (by cases z), fun s2 c2 q2 z => (by cases z)⟩
  obtain ⟨k1, k2⟩ := key _ hr.1 hr.2
  rw [nnF, UInt32.le_iff_toNat_le, UInt32.toNat_and]
  have e2 : (UInt32.ofNat (FP.Core.encode FP.Core.b32 (FP.Core.round FP.Core.b32 d))).toNat = FP.Core.encode FP.Core.b32 (FP.Core.round FP.Core.b32 d) := by
    rw [UInt32.toNat_ofNat']
    exact Nat.mod_eq_of_lt k1
  rw [e2]
  have e : FP.Core.encode FP.Core.b32 (FP.Core.round FP.Core.b32 d) &&& (0x7fffffff : UInt32).toNat = FP.Core.encode FP.Core.b32 (FP.Core.round FP.Core.b32 d) % 2147483648 := by
    show _ &&& (2 ^ 31 - 1) = _
    rw [Nat.and_two_pow_sub_one_eq_mod]
  rw [e]
  exact k2
theorem nn_mul {x c : UInt32} {s : Bool} {n : Nat} {q : Int} (h : nnF x) (hc : FP.Core.decode FP.Core.b32 c.toNat = .fin s n q) (hn : n ≠ 0) : nnF (FP.fmul x c) := by
  refine fl_enc (d := FP.Core.exactProduct (FP.Core.decode FP.Core.b32 x.toNat) (FP.Core.decode FP.Core.b32 c.toNat)) ?_
  have hx := fl_dec h
  rw [hc]
  cases hv : FP.Core.decode FP.Core.b32 x.toNat with
  | nan => exact absurd hv hx
  | inf t => simp [FP.Core.exactProduct, hn]
  | fin t c2 q2 => intro z; cases z
theorem nn_add {x c : UInt32} {s : Bool} {n : Nat} {q : Int} (h : nnF x) (hc : FP.Core.decode FP.Core.b32 c.toNat = .fin s n q) : nnF (FP.fadd x c) := by
  refine fl_enc (d := FP.Core.exactSum (FP.Core.decode FP.Core.b32 x.toNat) (FP.Core.decode FP.Core.b32 c.toNat)) ?_
  have hx := fl_dec h
  rw [hc]
  cases hv : FP.Core.decode FP.Core.b32 x.toNat with
  | nan => exact absurd hv hx
  | inf t => intro z; cases z
  | fin t c2 q2 => intro z; cases z
theorem nn_sub {x c : UInt32} {s : Bool} {n : Nat} {q : Int} (h : nnF x) (hc : FP.Core.decode FP.Core.b32 c.toNat = .fin s n q) : nnF (FP.fsub x c) := by
  refine fl_enc (d := FP.Core.exactSum (FP.Core.decode FP.Core.b32 x.toNat) (FP.Core.negate (FP.Core.decode FP.Core.b32 c.toNat))) ?_
  have hx := fl_dec h
  rw [hc]
  cases hv : FP.Core.decode FP.Core.b32 x.toNat with
  | nan => exact absurd hv hx
  | inf t => intro z; cases z
  | fin t c2 q2 => intro z; cases z
theorem nn_fmul_x_1063256064 {x : UInt32} (h : nnF x) : nnF (FP.fmul x 1063256064) := nn_mul (s := false) (n := 14680064) (q := -24) h (by decide +kernel) (by decide)
theorem nn_fadd_x_1040187392 {x : UInt32} (h : nnF x) : nnF (FP.fadd x 1040187392) := nn_add (s := false) (n := 8388608) (q := -26) h (by decide +kernel)
theorem nn_fmul_x_1258291200 {x : UInt32} (h : nnF x) : nnF (FP.fmul x 1258291200) := nn_mul (s := false) (n := 8388608) (q := 0) h (by decide +kernel) (by decide)
theorem nn_fmul_x_fconst2 {x : UInt32} (h : nnF x) : nnF (FP.fmul x FP.fconst2) := nn_mul (s := false) (n := 8388608) (q := -22) h (by decide +kernel) (by decide)
theorem nn_fsub_x_fconst1 {x : UInt32} (h : nnF x) : nnF (FP.fsub x FP.fconst1) := nn_sub (s := false) (n := 8388608) (q := -23) h (by decide +kernel)
/-! doubles: no NaN comes of numbers -/
theorem dl_dec {x : UInt64} (h : nnD x) : FP.Core.decode FP.Core.b64 x.toNat ≠ .nan := by
  have hn : x.toNat < 18446744073709551616 := x.toNat_lt
  rw [nnD, UInt64.le_iff_toNat_le, UInt64.toNat_and] at h
  have e : x.toNat &&& (0x7fffffffffffffff : UInt64).toNat = x.toNat % 9223372036854775808 := by
    show x.toNat &&& (2 ^ 63 - 1) = _
    rw [Nat.and_two_pow_sub_one_eq_mod]
  rw [e] at h
  have h' : x.toNat % 9223372036854775808 ≤ 9218868437227405312 := h
  intro hv
  rw [FP.Core.decode] at hv
  split at hv
  · rename_i hE
    have hE' : x.toNat / 4503599627370496 % 2048 = 2047 := hE
    split at hv
    · cases hv
    · rename_i hT
      have hT' : ¬ x.toNat % 4503599627370496 = 0 := hT
      omega
  · split at hv <;> cases hv
theorem dl_enc {d : FP.Core.Datum} (h : d ≠ .nan) : nnD (UInt64.ofNat (FP.Core.encode FP.Core.b64 (FP.Core.round FP.Core.b64 d))) := by
  have key : ∀ e : FP.Core.Datum, (e ≠ .nan) → (∀ s c q, e = .fin s c q → c < 9007199254740992 ∧ q ≤ 971) → FP.Core.encode FP.Core.b64 e < 18446744073709551616 ∧ FP.Core.encode FP.Core.b64 e % 9223372036854775808 ≤ 9218868437227405312 := by
    intro e he hq
    cases e with
    | nan => exact absurd rfl he
    | inf s => cases s <;> exact ⟨by decide, by decide⟩
    | fin s c q =>
      obtain ⟨h1, h2⟩ := hq s c q rfl
      have hs : s.toNat = 0 ∨ s.toNat = 1 := by cases s <;> simp
      by_cases hc : c < 4503599627370496
      · have e1 : FP.Core.encode FP.Core.b64 (.fin s c q) = (s.toNat * 2048 + 0) * 4503599627370496 + c := if_pos hc
        rw [e1]
        omega
      · have e1 : FP.Core.encode FP.Core.b64 (.fin s c q) = (s.toNat * 2048 + ((q - (-1074)).toNat + 1)) * 4503599627370496 + (c - 4503599627370496) := if_neg hc
        rw [e1]
        omega
  have hr : (FP.Core.round FP.Core.b64 d ≠ .nan) ∧ ∀ s c q, FP.Core.round FP.Core.b64 d = .fin s c q → c < 9007199254740992 ∧ q ≤ 971 := by
    cases d with
    | nan => exact absurd rfl h
    | inf s => exact ⟨fun q => (by cases q), fun s c q z => (by cases z)⟩
    | fin s c q =>
      have e1 : FP.Core.round FP.Core.b64 (.fin s c q) = FP.Core.roundRatio FP.Core.b64 s c 1 q := rfl
      rw [e1]
      unfold FP.Core.roundRatio
      split
      · exact ⟨fun z => (by cases z), fun s2 c2 q2 z => by cases z; exact ⟨by decide, by decide⟩⟩
      · unfold FP.Core.roundAt FP.Core.settle FP.Core.bound
        split
        · rename_i hc
          split
          · rename_i hq
            exact ⟨fun z => (by cases z), fun s2 c2 q2 z => by cases z; exact ⟨hc, hq⟩⟩
          · exact ⟨fun z => (by cases z), fun s2 c2 q2 z => (by cases z)⟩
        · split
          · rename_i hq
            exact ⟨fun z => (by cases z), fun s2 c2 q2 z => by cases z; exact ⟨by decide, hq⟩⟩
          · exact ⟨fun z => (by cases z), fun s2 c2 q2 z => (by cases z)⟩
  obtain ⟨k1, k2⟩ := key _ hr.1 hr.2
  rw [nnD, UInt64.le_iff_toNat_le, UInt64.toNat_and]
  have e2 : (UInt64.ofNat (FP.Core.encode FP.Core.b64 (FP.Core.round FP.Core.b64 d))).toNat = FP.Core.encode FP.Core.b64 (FP.Core.round FP.Core.b64 d) := by
    rw [UInt64.toNat_ofNat']
    exact Nat.mod_eq_of_lt k1
  rw [e2]
  have e : FP.Core.encode FP.Core.b64 (FP.Core.round FP.Core.b64 d) &&& (0x7fffffffffffffff : UInt64).toNat = FP.Core.encode FP.Core.b64 (FP.Core.round FP.Core.b64 d) % 9223372036854775808 := by
    show _ &&& (2 ^ 63 - 1) = _
    rw [Nat.and_two_pow_sub_one_eq_mod]
  rw [e]
  exact k2
theorem nn_muld {x c : UInt64} {s : Bool} {n : Nat} {q : Int} (h : nnD x) (hc : FP.Core.decode FP.Core.b64 c.toNat = .fin s n q) (hn : n ≠ 0) : nnD (FP.dmul x c) := by
  refine dl_enc (d := FP.Core.exactProduct (FP.Core.decode FP.Core.b64 x.toNat) (FP.Core.decode FP.Core.b64 c.toNat)) ?_
  have hx := dl_dec h
  rw [hc]
  cases hv : FP.Core.decode FP.Core.b64 x.toNat with
  | nan => exact absurd hv hx
  | inf t => simp [FP.Core.exactProduct, hn]
  | fin t c2 q2 => intro z; cases z
theorem nn_f2d_x {x : UInt32} (h : nnF x) : nnD (FP.f2d x) := by
  have hx := fl_dec h
  have h1 : FP.Core.fIsNaN x = false := by
    unfold FP.Core.fIsNaN FP.Core.isNaN
    cases hv : FP.Core.decode FP.Core.b32 x.toNat with
    | nan => exact absurd hv hx
    | inf t => rfl
    | fin t c q => rfl
  rw [FP.f2d, if_neg (by rw [h1]; exact Bool.false_ne_true)]
  exact dl_enc (d := FP.Core.decode FP.Core.b32 x.toNat) hx
theorem nn_dmul_x_4611686018427387904 {x : UInt64} (h : nnD x) : nnD (FP.dmul x 4611686018427387904) := nn_muld (s := false) (n := 4503599627370496) (q := -51) h (by decide +kernel) (by decide)
