/-! floats and doubles: exact numbers -/
theorem lead_1 {num : Nat} (h : ¬ num = 0) : FP.Core.leading num 1 = (num.log2 : Int) := by
  have e1 : (1 : Nat).log2 = 0 := by decide +kernel
  unfold FP.Core.leading
  dsimp only
  rw [e1, show ((num.log2 : Int) - ((0 : Nat) : Int)) = (num.log2 : Int) by omega, show ((num.log2 : Int)).toNat = num.log2 by omega, show (-(num.log2 : Int)).toNat = 0 by omega, Nat.pow_zero, Nat.mul_one, Nat.one_mul, if_pos (Nat.log2_self_le h)]
theorem near_s {n d m : Nat} (hm : 0 < m) : FP.Core.nearest (n * m) (d * m) = FP.Core.nearest n d := by
  unfold FP.Core.nearest
  rw [Nat.mul_mod_mul_right, Nat.mul_div_mul_right _ _ hm]
  by_cases h1 : 2 * (n % d) < d
  · rw [if_pos h1, if_pos (by rw [← Nat.mul_assoc]; exact (Nat.mul_lt_mul_right hm).mpr h1)]
  · rw [if_neg h1, if_neg (by rw [← Nat.mul_assoc]; exact fun z => h1 ((Nat.mul_lt_mul_right hm).mp z))]
    by_cases h2 : d < 2 * (n % d)
    · rw [if_pos h2, if_pos (by rw [← Nat.mul_assoc]; exact (Nat.mul_lt_mul_right hm).mpr h2)]
    · rw [if_neg h2, if_neg (by rw [← Nat.mul_assoc]; exact fun z => h2 ((Nat.mul_lt_mul_right hm).mp z))]
theorem near_1 {n : Nat} : FP.Core.nearest n (1 * 1) = n := by
  unfold FP.Core.nearest
  rw [Nat.one_mul, Nat.mod_one, Nat.div_one]
  rfl
theorem near_v {a k : Nat} {e q : Int} : FP.Core.nearest (a * 2 ^ k * 2 ^ (e - q).toNat) (1 * 2 ^ (q - e).toNat) = FP.Core.nearest (a * 2 ^ (e + (k : Int) - q).toNat) (1 * 2 ^ (q - (e + (k : Int))).toNat) := by
  by_cases h1 : q ≤ e
  · rw [show (q - e).toNat = 0 by omega, show (q - (e + (k : Int))).toNat = 0 by omega, Nat.mul_assoc, ← Nat.pow_add, show k + (e - q).toNat = (e + (k : Int) - q).toNat by omega]
  · by_cases h2 : q ≤ e + (k : Int)
    · rw [show (e - q).toNat = 0 by omega, show (q - (e + (k : Int))).toNat = 0 by omega, Nat.pow_zero, Nat.mul_one, Nat.mul_one]
      have : a * 2 ^ k = a * 2 ^ (e + (k : Int) - q).toNat * 2 ^ (q - e).toNat := by rw [Nat.mul_assoc, ← Nat.pow_add, show (e + (k : Int) - q).toNat + (q - e).toNat = k by omega]
      rw [this]
      exact near_s (d := 1) (Nat.two_pow_pos _)
    · rw [show (e - q).toNat = 0 by omega, show (e + (k : Int) - q).toNat = 0 by omega, Nat.pow_zero, Nat.mul_one, Nat.mul_one]
      have : 1 * 2 ^ (q - e).toNat = 1 * 2 ^ (q - (e + (k : Int))).toNat * 2 ^ k := by rw [Nat.mul_assoc, ← Nat.pow_add, show (q - (e + (k : Int))).toNat + k = (q - e).toNat by omega]
      rw [this]
      exact near_s (Nat.two_pow_pos _)
theorem cmp_ge8 {A C : Nat} : 0 ≤ Op.cmpValue (some (compare (A : Int) (C : Int))) .g ↔ C ≤ A := by
  have hc : compare (A : Int) (C : Int) = if (A : Int) < C then Ordering.lt else if (A : Int) = C then Ordering.eq else Ordering.gt := rfl
  rw [hc]
  by_cases h1 : (A : Int) < C
  · rw [if_pos h1]
    exact ⟨fun z => absurd z (by decide), fun z => by omega⟩
  · rw [if_neg h1]
    by_cases h2 : (A : Int) = C
    · rw [if_pos h2]
      exact ⟨fun _ => by omega, fun _ => by decide⟩
    · rw [if_neg h2]
      exact ⟨fun _ => by omega, fun _ => by decide⟩
theorem cmp_zero8 {A : Nat} (h : Op.cmpValue (some (compare (A : Int) ((0 : Nat) : Int))) .l = 0) : A = 0 := by
  have hc : compare (A : Int) ((0 : Nat) : Int) = if (A : Int) < ((0 : Nat) : Int) then Ordering.lt else if (A : Int) = ((0 : Nat) : Int) then Ordering.eq else Ordering.gt := rfl
  rw [hc] at h
  by_cases h1 : (A : Int) < ((0 : Nat) : Int)
  · omega
  · rw [if_neg h1] at h
    by_cases h2 : (A : Int) = ((0 : Nat) : Int)
    · omega
    · rw [if_neg h2] at h
      exact absurd h (by decide)
theorem rrx_f {num : Nat} {e : Int} (h : ¬ num = 0) : FP.Core.roundRatio FP.Core.b32 false num 1 e = FP.Core.settle FP.Core.b32 false (FP.Core.nearest (num * 2 ^ (e - max (-149) ((num.log2 : Int) + e - 23)).toNat) (1 * 2 ^ (max (-149) ((num.log2 : Int) + e - 23) - e).toNat)) (max (-149) ((num.log2 : Int) + e - 23)) := by
  have hl : FP.Core.leading num 1 = (num.log2 : Int) := lead_1 h
  have hq : FP.Core.quantum FP.Core.b32 num 1 e = max (-149) ((num.log2 : Int) + e - 23) := by
    show max (-149 : Int) (FP.Core.leading num 1 + e - 23) = _
    rw [hl]
  show (if num = 0 then _ else FP.Core.roundAt FP.Core.b32 false num 1 e (FP.Core.quantum FP.Core.b32 num 1 e)) = _
  rw [if_neg h, hq]
  rfl
theorem rrv_f {a k : Nat} {e : Int} : FP.Core.roundRatio FP.Core.b32 false (a * 2 ^ k) 1 e = FP.Core.roundRatio FP.Core.b32 false a 1 (e + (k : Int)) := by
  by_cases h : a = 0
  · subst h
    rw [Nat.zero_mul]
    rfl
  · have h2 : ¬ a * 2 ^ k = 0 := fun z => by
      rcases Nat.mul_eq_zero.mp z with y | y
      · exact h y
      · have := Nat.two_pow_pos k
        omega
    have el : (a * 2 ^ k).log2 = a.log2 + k := (Nat.log2_eq_iff h2).mpr ⟨by rw [Nat.pow_add]; exact Nat.mul_le_mul_right _ (Nat.log2_self_le h), by rw [show a.log2 + k + 1 = (a.log2 + 1) + k by omega, Nat.pow_add]; exact (Nat.mul_lt_mul_right (Nat.two_pow_pos k)).mpr Nat.lt_log2_self⟩
    rw [rrx_f h2, rrx_f h, el]
    have eq : max (-149) (((a.log2 + k : Nat) : Int) + e - 23) = max (-149) ((a.log2 : Int) + (e + (k : Int)) - 23) := by omega
    rw [eq]
    obtain ⟨q, hq⟩ : ∃ q, max (-149) ((a.log2 : Int) + (e + (k : Int)) - 23) = q := ⟨_, rfl⟩
    rw [hq]
    exact congrArg (fun c => FP.Core.settle FP.Core.b32 false c q) near_v
theorem dcn_f {n E T : Nat} (hn : n = E * 8388608 + T) (hT : T < 8388608) (hE : E < 255) : FP.Core.decode FP.Core.b32 n = if E = 0 then .fin false T (-149) else .fin false (8388608 + T) (-149 + ((E : Int) - 1)) := by
  have e1 : FP.Core.fieldE FP.Core.b32 n = E := by
    show n / 8388608 % 256 = E
    omega
  have e2 : FP.Core.fieldT FP.Core.b32 n = T := by
    show n % 8388608 = T
    omega
  have e3 : FP.Core.fieldS FP.Core.b32 n = false := by
    show (n / 8388608 / 256 % 2 == 1) = false
    have : n / 8388608 / 256 = 0 := by omega
    rw [this]
    rfl
  show (if FP.Core.fieldE FP.Core.b32 n = 255 then (if FP.Core.fieldT FP.Core.b32 n = 0 then FP.Core.Datum.inf (FP.Core.fieldS FP.Core.b32 n) else FP.Core.Datum.nan) else if FP.Core.fieldE FP.Core.b32 n = 0 then FP.Core.Datum.fin (FP.Core.fieldS FP.Core.b32 n) (FP.Core.fieldT FP.Core.b32 n) (-149) else FP.Core.Datum.fin (FP.Core.fieldS FP.Core.b32 n) (8388608 + FP.Core.fieldT FP.Core.b32 n) (-149 + ((FP.Core.fieldE FP.Core.b32 n : Int) - 1))) = _
  rw [e1, e2, e3, if_neg (by omega)]
theorem enl_f {c : Nat} {q : Int} (h : c < 8388608) : FP.Core.encode FP.Core.b32 (.fin false c q) = c := by
  have e1 : FP.Core.encode FP.Core.b32 (.fin false c q) = (0 * 256 + 0) * 8388608 + c := if_pos h
  omega
theorem enh_f {c : Nat} {q : Int} (h : ¬ c < 8388608) : FP.Core.encode FP.Core.b32 (.fin false c q) = ((q + 149).toNat + 1) * 8388608 + (c - 8388608) := by
  have e1 : FP.Core.encode FP.Core.b32 (.fin false c q) = (0 * 256 + ((q - (-149)).toNat + 1)) * 8388608 + (c - 8388608) := if_neg h
  rw [e1, show q - (-149) = q + 149 by omega]
  omega
theorem dce_f {c : Nat} {q : Int} (hc : c < 16777216) (h1 : -149 ≤ q) (h2 : q ≤ 104) (h3 : q = -149 ∨ 8388608 ≤ c) : FP.Core.decode FP.Core.b32 (FP.Core.encode FP.Core.b32 (.fin false c q)) = .fin false c q ∧ FP.Core.encode FP.Core.b32 (.fin false c q) < 255 * 8388608 := by
  by_cases z : c < 8388608
  · have hq : q = -149 := by omega
    rw [enl_f z, hq]
    exact ⟨(dcn_f (E := 0) (T := c) (by omega) z (by decide)).trans (if_pos rfl), by omega⟩
  · rw [enh_f z]
    refine ⟨(dcn_f (E := (q + 149).toNat + 1) (T := c - 8388608) rfl (by omega) (by omega)).trans ?_, by omega⟩
    rw [if_neg (by omega), show 8388608 + (c - 8388608) = c by omega, show -149 + ((((q + 149).toNat + 1 : Nat) : Int) - 1) = q by omega]
def fl_f (c : Nat) (e : Int) : UInt32 := UInt32.ofNat (FP.Core.encode FP.Core.b32 (FP.Core.roundRatio FP.Core.b32 false c 1 e))
theorem flx_f {c : Nat} {e : Int} (hc : c < 16777216) (h1 : -149 ≤ e) (h2 : e ≤ 60) : ∃ t : Nat, FP.Core.decode FP.Core.b32 (fl_f c e).toNat = .fin false (c * 2 ^ t) (e - (t : Int)) ∧ (fl_f c e).toNat = FP.Core.encode FP.Core.b32 (.fin false (c * 2 ^ t) (e - (t : Int))) ∧ c * 2 ^ t < 16777216 ∧ -149 ≤ e - (t : Int) ∧ (e - (t : Int) = -149 ∨ 8388608 ≤ c * 2 ^ t) := by
  have key : ∃ t : Nat, FP.Core.roundRatio FP.Core.b32 false c 1 e = .fin false (c * 2 ^ t) (e - (t : Int)) ∧ c * 2 ^ t < 16777216 ∧ -149 ≤ e - (t : Int) ∧ (e - (t : Int) = -149 ∨ 8388608 ≤ c * 2 ^ t) := by
    by_cases h : c = 0
    · subst h
      refine ⟨(e + 149).toNat, ?_, ?_, ?_, ?_⟩
      · rw [Nat.zero_mul, show e - (((e + 149).toNat : Nat) : Int) = -149 by omega]
        rfl
      · rw [Nat.zero_mul]
        decide
      · omega
      · omega
    · have l24 : c.log2 < 24 := (Nat.log2_lt h).mpr hc
      have lo := Nat.log2_self_le h
      have hi : c < 2 ^ (c.log2 + 1) := Nat.lt_log2_self
      obtain ⟨q, hq⟩ : ∃ q, max (-149) ((c.log2 : Int) + e - 23) = q := ⟨_, rfl⟩
      have q1 : q ≤ e := by omega
      have q2 : -149 ≤ q := by omega
      have q3 : q ≤ 60 := by omega
      refine ⟨(e - q).toNat, ?_, ?_, ?_, ?_⟩
      · have ht : c * 2 ^ (e - q).toNat < 16777216 := by
          have : c * 2 ^ (e - q).toNat < 2 ^ (c.log2 + 1) * 2 ^ (e - q).toNat := (Nat.mul_lt_mul_right (Nat.two_pow_pos _)).mpr hi
          rw [← Nat.pow_add] at this
          have h3 : 2 ^ (c.log2 + 1 + (e - q).toNat) ≤ 2 ^ 24 := Nat.pow_le_pow_right (by decide) (by omega)
          have h4 : 2 ^ 24 = 16777216 := by decide
          omega
        rw [rrx_f h, hq, show (q - e).toNat = 0 by omega, Nat.pow_zero, near_1]
        show (if c * 2 ^ (e - q).toNat < 16777216 then (if q ≤ 104 then FP.Core.Datum.fin false (c * 2 ^ (e - q).toNat) q else FP.Core.Datum.inf false) else _) = _
        rw [if_pos ht, if_pos (by omega), show e - (((e - q).toNat : Nat) : Int) = q by omega]
      · have : c * 2 ^ (e - q).toNat < 2 ^ (c.log2 + 1) * 2 ^ (e - q).toNat := (Nat.mul_lt_mul_right (Nat.two_pow_pos _)).mpr hi
        rw [← Nat.pow_add] at this
        have h3 : 2 ^ (c.log2 + 1 + (e - q).toNat) ≤ 2 ^ 24 := Nat.pow_le_pow_right (by decide) (by omega)
        have h4 : 2 ^ 24 = 16777216 := by decide
        omega
      · omega
      · by_cases z : q = -149
        · left
          omega
        · right
          have : 2 ^ c.log2 * 2 ^ (e - q).toNat ≤ c * 2 ^ (e - q).toNat := Nat.mul_le_mul_right _ lo
          rw [← Nat.pow_add, show c.log2 + (e - q).toNat = 23 by omega] at this
          have h4 : 2 ^ 23 = 8388608 := by decide
          omega
  obtain ⟨t, k1, k2, k3, k4⟩ := key
  have d := dce_f k2 k3 (by omega) k4
  have e2 : (fl_f c e).toNat = FP.Core.encode FP.Core.b32 (.fin false (c * 2 ^ t) (e - (t : Int))) := by
    unfold fl_f
    rw [k1]
    exact UInt32.toNat_ofNat_of_lt' (by have := d.2; show _ < 4294967296; omega)
  exact ⟨t, by rw [e2]; exact d.1, e2, k2, k3, k4⟩
/-- times a power of two -/
theorem flm_f {c : Nat} {e kq : Int} {w : UInt32} (hw : FP.Core.decode FP.Core.b32 w.toNat = .fin false 8388608 kq) (hc : c < 16777216) (h1 : -149 ≤ e) (h2 : e ≤ 60) : FP.fmul (fl_f c e) w = fl_f c (e + (kq + 23)) := by
  obtain ⟨t, k1, _⟩ := flx_f hc h1 h2
  show UInt32.ofNat (FP.Core.encode FP.Core.b32 (FP.Core.round FP.Core.b32 (FP.Core.exactProduct (FP.Core.decode FP.Core.b32 (fl_f c e).toNat) (FP.Core.decode FP.Core.b32 w.toNat)))) = _
  rw [k1, hw]
  show UInt32.ofNat (FP.Core.encode FP.Core.b32 (FP.Core.roundRatio FP.Core.b32 false (c * 2 ^ t * 8388608) 1 (e - (t : Int) + kq))) = _
  have h4 : 8388608 = 2 ^ 23 := by decide
  rw [h4, Nat.mul_assoc, ← Nat.pow_add, rrv_f, show e - (t : Int) + kq + ((t + 23 : Nat) : Int) = e + (kq + 23) by omega]
  rfl
theorem two_f : FP.Core.decode FP.Core.b32 (FP.fconst2 : UInt32).toNat = .fin false 8388608 (-22) := by decide +kernel
/-- one or more -/
theorem flc_f {c : Nat} {e : Int} (hc : c < 16777216) (h1 : -149 ≤ e) (h2 : e ≤ 60) : 0 ≤ Op.cmpValue (FP.fcmp (fl_f c e) FP.fconst1) .g ↔ 2 ^ 149 ≤ c * 2 ^ (e + 149).toNat := by
  obtain ⟨t, k1, _, k2, k3, k4⟩ := flx_f hc h1 h2
  have d2 : FP.Core.decode FP.Core.b32 (FP.fconst1 : UInt32).toNat = .fin false 8388608 (-23) := by decide +kernel
  have e0 : FP.fcmp (fl_f c e) FP.fconst1 = some (compare (((c * 2 ^ t) * 2 ^ (e - (t : Int) - min (e - (t : Int)) (-23)).toNat : Nat) : Int) ((8388608 * 2 ^ (-23 - min (e - (t : Int)) (-23)).toNat : Nat) : Int)) := by
    show FP.Core.order (FP.Core.decode FP.Core.b32 (fl_f c e).toNat) (FP.Core.decode FP.Core.b32 (FP.fconst1 : UInt32).toNat) = _
    rw [k1, d2]
    rfl
  rw [e0]
  obtain ⟨m, hm⟩ : ∃ m, min (e - (t : Int)) (-23) = m := ⟨_, rfl⟩
  rw [hm]
  have p1 : c * 2 ^ t * 2 ^ (e - (t : Int) - m).toNat * 2 ^ (m + 149).toNat = c * 2 ^ (e + 149).toNat := by
    rw [Nat.mul_assoc, Nat.mul_assoc, ← Nat.pow_add, ← Nat.pow_add]
    congr 2
    omega
  have p2 : 8388608 * 2 ^ (-23 - m).toNat * 2 ^ (m + 149).toNat = 2 ^ 149 := by
    have h4 : 8388608 = 2 ^ 23 := by decide
    rw [h4, ← Nat.pow_add, ← Nat.pow_add]
    congr 1
    omega
  rw [← p1, ← p2, Nat.mul_le_mul_right_iff (Nat.two_pow_pos _)]
  obtain ⟨A, hA⟩ : ∃ A, c * 2 ^ t * 2 ^ (e - (t : Int) - m).toNat = A := ⟨_, rfl⟩
  obtain ⟨C, hC⟩ : ∃ C, 8388608 * 2 ^ (-23 - m).toNat = C := ⟨_, rfl⟩
  rw [hA, hC]
  exact cmp_ge8
theorem rrx_d {num : Nat} {e : Int} (h : ¬ num = 0) : FP.Core.roundRatio FP.Core.b64 false num 1 e = FP.Core.settle FP.Core.b64 false (FP.Core.nearest (num * 2 ^ (e - max (-1074) ((num.log2 : Int) + e - 52)).toNat) (1 * 2 ^ (max (-1074) ((num.log2 : Int) + e - 52) - e).toNat)) (max (-1074) ((num.log2 : Int) + e - 52)) := by
  have hl : FP.Core.leading num 1 = (num.log2 : Int) := lead_1 h
  have hq : FP.Core.quantum FP.Core.b64 num 1 e = max (-1074) ((num.log2 : Int) + e - 52) := by
    show max (-1074 : Int) (FP.Core.leading num 1 + e - 52) = _
    rw [hl]
  show (if num = 0 then _ else FP.Core.roundAt FP.Core.b64 false num 1 e (FP.Core.quantum FP.Core.b64 num 1 e)) = _
  rw [if_neg h, hq]
  rfl
theorem rrv_d {a k : Nat} {e : Int} : FP.Core.roundRatio FP.Core.b64 false (a * 2 ^ k) 1 e = FP.Core.roundRatio FP.Core.b64 false a 1 (e + (k : Int)) := by
  by_cases h : a = 0
  · subst h
    rw [Nat.zero_mul]
    rfl
  · have h2 : ¬ a * 2 ^ k = 0 := fun z => by
      rcases Nat.mul_eq_zero.mp z with y | y
      · exact h y
      · have := Nat.two_pow_pos k
        omega
    have el : (a * 2 ^ k).log2 = a.log2 + k := (Nat.log2_eq_iff h2).mpr ⟨by rw [Nat.pow_add]; exact Nat.mul_le_mul_right _ (Nat.log2_self_le h), by rw [show a.log2 + k + 1 = (a.log2 + 1) + k by omega, Nat.pow_add]; exact (Nat.mul_lt_mul_right (Nat.two_pow_pos k)).mpr Nat.lt_log2_self⟩
    rw [rrx_d h2, rrx_d h, el]
    have eq : max (-1074) (((a.log2 + k : Nat) : Int) + e - 52) = max (-1074) ((a.log2 : Int) + (e + (k : Int)) - 52) := by omega
    rw [eq]
    obtain ⟨q, hq⟩ : ∃ q, max (-1074) ((a.log2 : Int) + (e + (k : Int)) - 52) = q := ⟨_, rfl⟩
    rw [hq]
    exact congrArg (fun c => FP.Core.settle FP.Core.b64 false c q) near_v
theorem dcn_d {n E T : Nat} (hn : n = E * 4503599627370496 + T) (hT : T < 4503599627370496) (hE : E < 2047) : FP.Core.decode FP.Core.b64 n = if E = 0 then .fin false T (-1074) else .fin false (4503599627370496 + T) (-1074 + ((E : Int) - 1)) := by
  have e1 : FP.Core.fieldE FP.Core.b64 n = E := by
    show n / 4503599627370496 % 2048 = E
    omega
  have e2 : FP.Core.fieldT FP.Core.b64 n = T := by
    show n % 4503599627370496 = T
    omega
  have e3 : FP.Core.fieldS FP.Core.b64 n = false := by
    show (n / 4503599627370496 / 2048 % 2 == 1) = false
    have : n / 4503599627370496 / 2048 = 0 := by omega
    rw [this]
    rfl
  show (if FP.Core.fieldE FP.Core.b64 n = 2047 then (if FP.Core.fieldT FP.Core.b64 n = 0 then FP.Core.Datum.inf (FP.Core.fieldS FP.Core.b64 n) else FP.Core.Datum.nan) else if FP.Core.fieldE FP.Core.b64 n = 0 then FP.Core.Datum.fin (FP.Core.fieldS FP.Core.b64 n) (FP.Core.fieldT FP.Core.b64 n) (-1074) else FP.Core.Datum.fin (FP.Core.fieldS FP.Core.b64 n) (4503599627370496 + FP.Core.fieldT FP.Core.b64 n) (-1074 + ((FP.Core.fieldE FP.Core.b64 n : Int) - 1))) = _
  rw [e1, e2, e3, if_neg (by omega)]
theorem enl_d {c : Nat} {q : Int} (h : c < 4503599627370496) : FP.Core.encode FP.Core.b64 (.fin false c q) = c := by
  have e1 : FP.Core.encode FP.Core.b64 (.fin false c q) = (0 * 2048 + 0) * 4503599627370496 + c := if_pos h
  omega
theorem enh_d {c : Nat} {q : Int} (h : ¬ c < 4503599627370496) : FP.Core.encode FP.Core.b64 (.fin false c q) = ((q + 1074).toNat + 1) * 4503599627370496 + (c - 4503599627370496) := by
  have e1 : FP.Core.encode FP.Core.b64 (.fin false c q) = (0 * 2048 + ((q - (-1074)).toNat + 1)) * 4503599627370496 + (c - 4503599627370496) := if_neg h
  rw [e1, show q - (-1074) = q + 1074 by omega]
  omega
theorem dce_d {c : Nat} {q : Int} (hc : c < 9007199254740992) (h1 : -1074 ≤ q) (h2 : q ≤ 971) (h3 : q = -1074 ∨ 4503599627370496 ≤ c) : FP.Core.decode FP.Core.b64 (FP.Core.encode FP.Core.b64 (.fin false c q)) = .fin false c q ∧ FP.Core.encode FP.Core.b64 (.fin false c q) < 2047 * 4503599627370496 := by
  by_cases z : c < 4503599627370496
  · have hq : q = -1074 := by omega
    rw [enl_d z, hq]
    exact ⟨(dcn_d (E := 0) (T := c) (by omega) z (by decide)).trans (if_pos rfl), by omega⟩
  · rw [enh_d z]
    refine ⟨(dcn_d (E := (q + 1074).toNat + 1) (T := c - 4503599627370496) rfl (by omega) (by omega)).trans ?_, by omega⟩
    rw [if_neg (by omega), show 4503599627370496 + (c - 4503599627370496) = c by omega, show -1074 + ((((q + 1074).toNat + 1 : Nat) : Int) - 1) = q by omega]
def fl_d (c : Nat) (e : Int) : UInt64 := UInt64.ofNat (FP.Core.encode FP.Core.b64 (FP.Core.roundRatio FP.Core.b64 false c 1 e))
theorem flx_d {c : Nat} {e : Int} (hc : c < 16777216) (h1 : -1074 ≤ e) (h2 : e ≤ 60) : ∃ t : Nat, FP.Core.decode FP.Core.b64 (fl_d c e).toNat = .fin false (c * 2 ^ t) (e - (t : Int)) ∧ (fl_d c e).toNat = FP.Core.encode FP.Core.b64 (.fin false (c * 2 ^ t) (e - (t : Int))) ∧ c * 2 ^ t < 9007199254740992 ∧ -1074 ≤ e - (t : Int) ∧ (e - (t : Int) = -1074 ∨ 4503599627370496 ≤ c * 2 ^ t) := by
  have key : ∃ t : Nat, FP.Core.roundRatio FP.Core.b64 false c 1 e = .fin false (c * 2 ^ t) (e - (t : Int)) ∧ c * 2 ^ t < 9007199254740992 ∧ -1074 ≤ e - (t : Int) ∧ (e - (t : Int) = -1074 ∨ 4503599627370496 ≤ c * 2 ^ t) := by
    by_cases h : c = 0
    · subst h
      refine ⟨(e + 1074).toNat, ?_, ?_, ?_, ?_⟩
      · rw [Nat.zero_mul, show e - (((e + 1074).toNat : Nat) : Int) = -1074 by omega]
        rfl
      · rw [Nat.zero_mul]
        decide
      · omega
      · omega
    · have l24 : c.log2 < 24 := (Nat.log2_lt h).mpr hc
      have lo := Nat.log2_self_le h
      have hi : c < 2 ^ (c.log2 + 1) := Nat.lt_log2_self
      obtain ⟨q, hq⟩ : ∃ q, max (-1074) ((c.log2 : Int) + e - 52) = q := ⟨_, rfl⟩
      have q1 : q ≤ e := by omega
      have q2 : -1074 ≤ q := by omega
      have q3 : q ≤ 60 := by omega
      refine ⟨(e - q).toNat, ?_, ?_, ?_, ?_⟩
      · have ht : c * 2 ^ (e - q).toNat < 9007199254740992 := by
          have : c * 2 ^ (e - q).toNat < 2 ^ (c.log2 + 1) * 2 ^ (e - q).toNat := (Nat.mul_lt_mul_right (Nat.two_pow_pos _)).mpr hi
          rw [← Nat.pow_add] at this
          have h3 : 2 ^ (c.log2 + 1 + (e - q).toNat) ≤ 2 ^ 53 := Nat.pow_le_pow_right (by decide) (by omega)
          have h4 : 2 ^ 53 = 9007199254740992 := by decide
          omega
        rw [rrx_d h, hq, show (q - e).toNat = 0 by omega, Nat.pow_zero, near_1]
        show (if c * 2 ^ (e - q).toNat < 9007199254740992 then (if q ≤ 971 then FP.Core.Datum.fin false (c * 2 ^ (e - q).toNat) q else FP.Core.Datum.inf false) else _) = _
        rw [if_pos ht, if_pos (by omega), show e - (((e - q).toNat : Nat) : Int) = q by omega]
      · have : c * 2 ^ (e - q).toNat < 2 ^ (c.log2 + 1) * 2 ^ (e - q).toNat := (Nat.mul_lt_mul_right (Nat.two_pow_pos _)).mpr hi
        rw [← Nat.pow_add] at this
        have h3 : 2 ^ (c.log2 + 1 + (e - q).toNat) ≤ 2 ^ 53 := Nat.pow_le_pow_right (by decide) (by omega)
        have h4 : 2 ^ 53 = 9007199254740992 := by decide
        omega
      · omega
      · by_cases z : q = -1074
        · left
          omega
        · right
          have : 2 ^ c.log2 * 2 ^ (e - q).toNat ≤ c * 2 ^ (e - q).toNat := Nat.mul_le_mul_right _ lo
          rw [← Nat.pow_add, show c.log2 + (e - q).toNat = 52 by omega] at this
          have h4 : 2 ^ 52 = 4503599627370496 := by decide
          omega
  obtain ⟨t, k1, k2, k3, k4⟩ := key
  have d := dce_d k2 k3 (by omega) k4
  have e2 : (fl_d c e).toNat = FP.Core.encode FP.Core.b64 (.fin false (c * 2 ^ t) (e - (t : Int))) := by
    unfold fl_d
    rw [k1]
    exact UInt64.toNat_ofNat_of_lt' (by have := d.2; show _ < 18446744073709551616; omega)
  exact ⟨t, by rw [e2]; exact d.1, e2, k2, k3, k4⟩
/-- times a power of two -/
theorem flm_d {c : Nat} {e kq : Int} {w : UInt64} (hw : FP.Core.decode FP.Core.b64 w.toNat = .fin false 4503599627370496 kq) (hc : c < 16777216) (h1 : -1074 ≤ e) (h2 : e ≤ 60) : FP.dmul (fl_d c e) w = fl_d c (e + (kq + 52)) := by
  obtain ⟨t, k1, _⟩ := flx_d hc h1 h2
  show UInt64.ofNat (FP.Core.encode FP.Core.b64 (FP.Core.round FP.Core.b64 (FP.Core.exactProduct (FP.Core.decode FP.Core.b64 (fl_d c e).toNat) (FP.Core.decode FP.Core.b64 w.toNat)))) = _
  rw [k1, hw]
  show UInt64.ofNat (FP.Core.encode FP.Core.b64 (FP.Core.roundRatio FP.Core.b64 false (c * 2 ^ t * 4503599627370496) 1 (e - (t : Int) + kq))) = _
  have h4 : 4503599627370496 = 2 ^ 52 := by decide
  rw [h4, Nat.mul_assoc, ← Nat.pow_add, rrv_d, show e - (t : Int) + kq + ((t + 52 : Nat) : Int) = e + (kq + 52) by omega]
  rfl
theorem two_d : FP.Core.decode FP.Core.b64 (4611686018427387904 : UInt64).toNat = .fin false 4503599627370496 (-51) := by decide +kernel
/-- one or more -/
theorem flc_d {c : Nat} {e : Int} (hc : c < 16777216) (h1 : -1074 ≤ e) (h2 : e ≤ 60) : 0 ≤ Op.cmpValue (FP.dcmp (fl_d c e) FP.dconst1) .g ↔ 2 ^ 1074 ≤ c * 2 ^ (e + 1074).toNat := by
  obtain ⟨t, k1, _, k2, k3, k4⟩ := flx_d hc h1 h2
  have d2 : FP.Core.decode FP.Core.b64 (FP.dconst1 : UInt64).toNat = .fin false 4503599627370496 (-52) := by decide +kernel
  have e0 : FP.dcmp (fl_d c e) FP.dconst1 = some (compare (((c * 2 ^ t) * 2 ^ (e - (t : Int) - min (e - (t : Int)) (-52)).toNat : Nat) : Int) ((4503599627370496 * 2 ^ (-52 - min (e - (t : Int)) (-52)).toNat : Nat) : Int)) := by
    show FP.Core.order (FP.Core.decode FP.Core.b64 (fl_d c e).toNat) (FP.Core.decode FP.Core.b64 (FP.dconst1 : UInt64).toNat) = _
    rw [k1, d2]
    rfl
  rw [e0]
  obtain ⟨m, hm⟩ : ∃ m, min (e - (t : Int)) (-52) = m := ⟨_, rfl⟩
  rw [hm]
  have p1 : c * 2 ^ t * 2 ^ (e - (t : Int) - m).toNat * 2 ^ (m + 1074).toNat = c * 2 ^ (e + 1074).toNat := by
    rw [Nat.mul_assoc, Nat.mul_assoc, ← Nat.pow_add, ← Nat.pow_add]
    congr 2
    omega
  have p2 : 4503599627370496 * 2 ^ (-52 - m).toNat * 2 ^ (m + 1074).toNat = 2 ^ 1074 := by
    have h4 : 4503599627370496 = 2 ^ 52 := by decide
    rw [h4, ← Nat.pow_add, ← Nat.pow_add]
    congr 1
    omega
  rw [← p1, ← p2, Nat.mul_le_mul_right_iff (Nat.two_pow_pos _)]
  obtain ⟨A, hA⟩ : ∃ A, c * 2 ^ t * 2 ^ (e - (t : Int) - m).toNat = A := ⟨_, rfl⟩
  obtain ⟨C, hC⟩ : ∃ C, 4503599627370496 * 2 ^ (-52 - m).toNat = C := ⟨_, rfl⟩
  rw [hA, hC]
  exact cmp_ge8
