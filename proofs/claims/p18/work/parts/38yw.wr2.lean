/-! how many bits -/
def pcF : Nat → Nat → Nat
  | 0, _ => 0
  | f + 1, k => k % 2 + pcF f (k / 2)
theorem pcF_sp : ∀ a {k x y : Nat}, x < 2 ^ a → pcF (a + k) (x + 2 ^ a * y) = pcF a x + pcF k y := by
  intro a
  induction a with
  | zero =>
    intro k x y h
    rw [Nat.pow_zero] at h
    have : x = 0 := by omega
    subst this
    rw [Nat.pow_zero, Nat.one_mul, Nat.zero_add, Nat.zero_add]
    show _ = 0 + _
    rw [Nat.zero_add]
  | succ a ih =>
    intro k x y h
    have e2 : 2 ^ (a + 1) * y = 2 * (2 ^ a * y) := by rw [Nat.pow_succ, Nat.mul_comm (2 ^ a) 2, Nat.mul_assoc]
    rw [Nat.pow_succ] at h
    rw [show a + 1 + k = a + k + 1 by omega, e2]
    show (x + 2 * (2 ^ a * y)) % 2 + pcF (a + k) ((x + 2 * (2 ^ a * y)) / 2) = x % 2 + pcF a (x / 2) + pcF k y
    rw [show (x + 2 * (2 ^ a * y)) / 2 = x / 2 + 2 ^ a * y by omega, ih (by omega)]
    omega
theorem pcF_24 {a b e : Nat} (ha : a < 256) (hb : b < 256) : pcF 24 (a + 256 * (b + 256 * e)) = pcF 8 a + (pcF 8 b + pcF 8 e) := by
  have h1 := pcF_sp 8 (k := 16) (x := a) (y := b + 256 * e) ha
  have h2 := pcF_sp 8 (k := 8) (x := b) (y := e) hb
  rw [show (2 : Nat) ^ 8 = 256 by rfl] at h1 h2
  rw [h1, h2]
theorem land8 (x m : Nat) : x &&& m = (x % 256 &&& m % 256) + 256 * (x / 256 &&& m / 256) := by
  have h1 : (x &&& m) % 2 ^ 8 = (x % 2 ^ 8) &&& (m % 2 ^ 8) := Nat.and_mod_two_pow
  have h2 : (x &&& m) / 2 ^ 8 = x / 2 ^ 8 &&& m / 2 ^ 8 := Nat.and_div_two_pow
  rw [show (2 : Nat) ^ 8 = 256 by rfl] at h1 h2
  rw [← h1, ← h2]
  omega
def bcN (w : Nat) : Nat :=
  let u1 := w - (w / 2 &&& 1431655765)
  let u2 := (u1 &&& 858993459) + (u1 / 4 &&& 858993459)
  let u3 := (u2 + u2 / 16) &&& 252645135
  let u4 := u3 + u3 / 256
  let u5 := u4 + u4 / 65536
  u5 &&& 63
def bA (b : Nat) : Nat := b / 2 &&& 85
def bS (b : Nat) : Nat := b - bA b
def bV (b : Nat) : Nat := (bS b &&& 51) + (bS b / 4 &&& 51)
theorem bT1 : ∀ b, b < 256 → bA b ≤ b ∧ (b / 2 &&& 85) = bA b ∧ ((b / 2 + 128) &&& 85) = bA b ∧ (b / 2 &&& 21845) = bA b := by decide +kernel
theorem bT2 : ∀ b, b < 256 → (bS b &&& 13107) = (bS b &&& 51) ∧ (bS b / 4 &&& 13107) = (bS b / 4 &&& 51) ∧ ∀ e, e < 4 → ((bS b / 4 + 64 * e) &&& 51) = (bS b / 4 &&& 51) := by decide +kernel
theorem bT3 : ∀ b, b < 256 → bV b % 16 ≤ 4 ∧ bV b / 16 ≤ 4 ∧ (bV b + bV b / 16) % 16 = pcF 8 b ∧ pcF 8 b ≤ 8 := by decide +kernel
theorem ch3 {A B E p q pa pb pe y : Nat} (hy : y = (A + 16 * p) + 256 * ((B + 16 * q) + 256 * E)) (hA : A ≤ 80) (hB : B ≤ 80) (hE : E ≤ 80) (hp : p ≤ 4) (hq : q ≤ 4) (h1 : A % 16 = pa) (h2 : B % 16 = pb) (h3 : E % 16 = pe) : y % 256 % 16 + 256 * (y / 256 % 256 % 16 + 256 * (y / 256 / 256 % 16)) = pa + 256 * (pb + 256 * pe) := by
  have e1 : y % 256 = A + 16 * p := by omega
  have e2 : y / 256 % 256 = B + 16 * q := by omega
  have e3 : y / 256 / 256 = E := by omega
  rw [e1, e2, e3]
  omega
theorem ch4 {A B E z : Nat} (hz : z = A + 256 * (B + 256 * E)) (hA : A ≤ 8) (hB : B ≤ 8) (hE : E ≤ 8) : (z + z / 256 + (z + z / 256) / 65536) % 64 = A + (B + E) := by
  have e1 : z / 256 = B + 256 * E := by omega
  have e2 : (z + (B + 256 * E)) / 65536 = E := by omega
  rw [e1, e2]
  omega
theorem bcN_e {w : Nat} (hw : w < 16777216) : bcN w = pcF 24 w ∧ (w / 2 &&& 1431655765) ≤ w := by
  obtain ⟨a, b, e, ha, hb, he, ew⟩ : ∃ a b e, a < 256 ∧ b < 256 ∧ e < 256 ∧ w = a + 256 * (b + 256 * e) := ⟨w % 256, w / 256 % 256, w / 65536, by omega, by omega, by omega, by omega⟩
  obtain ⟨a1, a2, a3, a4⟩ := bT1 a ha
  obtain ⟨b1, b2, b3, b4⟩ := bT1 b hb
  obtain ⟨e1, e2, e3, e4⟩ := bT1 e he
  obtain ⟨p1, p2, p3⟩ := bT2 a ha
  obtain ⟨q1, q2, q3⟩ := bT2 b hb
  obtain ⟨r1, r2, r3⟩ := bT2 e he
  obtain ⟨x1, x2, x3, x4⟩ := bT3 a ha
  obtain ⟨y1, y2, y3, y4⟩ := bT3 b hb
  obtain ⟨z1, z2, z3, z4⟩ := bT3 e he
  have t1 : (w / 2 &&& 1431655765) = bA a + 256 * (bA b + 256 * bA e) := by
    rw [land8, land8 (w / 2 / 256), show (1431655765 : Nat) % 256 = 85 by rfl, show (1431655765 : Nat) / 256 / 256 = 21845 by rfl]
    have i0 : (w / 2 % 256 &&& 85) = bA a := by
      rcases (show b % 2 = 0 ∨ b % 2 = 1 by omega) with z | z
      · rw [show w / 2 % 256 = a / 2 by omega]
        exact a2
      · rw [show w / 2 % 256 = a / 2 + 128 by omega]
        exact a3
    have i1 : (w / 2 / 256 % 256 &&& 85) = bA b := by
      rcases (show e % 2 = 0 ∨ e % 2 = 1 by omega) with z | z
      · rw [show w / 2 / 256 % 256 = b / 2 by omega]
        exact b2
      · rw [show w / 2 / 256 % 256 = b / 2 + 128 by omega]
        exact b3
    rw [i0, i1, show w / 2 / 256 / 256 = e / 2 by omega, e4]
  obtain ⟨u1, h1⟩ : ∃ u1, u1 = w - (w / 2 &&& 1431655765) := ⟨_, rfl⟩
  have v1 : u1 = bS a + 256 * (bS b + 256 * bS e) := by
    rw [h1, t1, ew]
    unfold bS
    omega
  have sa : bS a < 256 := by unfold bS; omega
  have sb : bS b < 256 := by unfold bS; omega
  have se : bS e < 256 := by unfold bS; omega
  obtain ⟨u2, h2⟩ : ∃ u2, u2 = (u1 &&& 858993459) + (u1 / 4 &&& 858993459) := ⟨_, rfl⟩
  have v2 : u2 = bV a + 256 * (bV b + 256 * bV e) := by
    rw [h2, land8, land8 (u1 / 256), land8 (u1 / 4), land8 (u1 / 4 / 256), show (858993459 : Nat) % 256 = 51 by rfl, show (858993459 : Nat) / 256 / 256 = 13107 by rfl, show u1 % 256 = bS a by omega, show u1 / 256 % 256 = bS b by omega, show u1 / 256 / 256 = bS e by omega, show u1 / 4 % 256 = bS a / 4 + 64 * (bS b % 4) by omega, show u1 / 4 / 256 % 256 = bS b / 4 + 64 * (bS e % 4) by omega, show u1 / 4 / 256 / 256 = bS e / 4 by omega, p3 _ (Nat.mod_lt _ (by decide)), q3 _ (Nat.mod_lt _ (by decide)), r1, r2]
    unfold bV
    omega
  obtain ⟨u3, h3⟩ : ∃ u3, u3 = (u2 + u2 / 16) &&& 252645135 := ⟨_, rfl⟩
  have m16 : ∀ x, x &&& 15 = x % 16 := fun x => Nat.and_two_pow_sub_one_eq_mod x 4
  have m3855 : ∀ x, x < 256 → x &&& 3855 = x % 16 := fun x hx => by
    rw [land8, show (3855 : Nat) % 256 = 15 by rfl, show x / 256 = 0 by omega, Nat.zero_and, m16]
    omega
  have v3 : u3 = pcF 8 a + 256 * (pcF 8 b + 256 * pcF 8 e) := by
    have g0 : u2 + u2 / 16 = (bV a + bV a / 16 + 16 * (bV b % 16)) + 256 * ((bV b + bV b / 16 + 16 * (bV e % 16)) + 256 * (bV e + bV e / 16)) := by omega
    obtain ⟨y, hy⟩ : ∃ y, y = u2 + u2 / 16 := ⟨_, rfl⟩
    rw [h3, ← hy, land8, land8 (y / 256), show (252645135 : Nat) % 256 = 15 by rfl, show (252645135 : Nat) / 256 / 256 = 3855 by rfl, m16, m16, m3855 (y / 256 / 256) (by omega)]
    exact ch3 (hy.trans g0) (by omega) (by omega) (by omega) y1 z1 x3 y3 z3
  have e63 : ∀ x, x &&& 63 = x % 64 := fun x => Nat.and_two_pow_sub_one_eq_mod x 6
  refine ⟨?_, by rw [t1]; omega⟩
  show ((((((w - (w / 2 &&& 1431655765)) &&& 858993459) + ((w - (w / 2 &&& 1431655765)) / 4 &&& 858993459)) + (((w - (w / 2 &&& 1431655765)) &&& 858993459) + ((w - (w / 2 &&& 1431655765)) / 4 &&& 858993459)) / 16) &&& 252645135) + (((((w - (w / 2 &&& 1431655765)) &&& 858993459) + ((w - (w / 2 &&& 1431655765)) / 4 &&& 858993459)) + (((w - (w / 2 &&& 1431655765)) &&& 858993459) + ((w - (w / 2 &&& 1431655765)) / 4 &&& 858993459)) / 16) &&& 252645135) / 256 + ((((((w - (w / 2 &&& 1431655765)) &&& 858993459) + ((w - (w / 2 &&& 1431655765)) / 4 &&& 858993459)) + (((w - (w / 2 &&& 1431655765)) &&& 858993459) + ((w - (w / 2 &&& 1431655765)) / 4 &&& 858993459)) / 16) &&& 252645135) + (((((w - (w / 2 &&& 1431655765)) &&& 858993459) + ((w - (w / 2 &&& 1431655765)) / 4 &&& 858993459)) + (((w - (w / 2 &&& 1431655765)) &&& 858993459) + ((w - (w / 2 &&& 1431655765)) / 4 &&& 858993459)) / 16) &&& 252645135) / 256) / 65536) &&& 63 = _
  rw [← h1, ← h2, ← h3, e63, ew, pcF_24 ha hb]
  exact ch4 v3 x4 y4 z4
/-! numbers of so many bits -/
theorem on_and {a b : Nat} : (Int32.ofNat a &&& Int32.ofNat b) = Int32.ofNat (a &&& b) := Int32.toBitVec_inj.mp (by
  show BitVec.ofNat 32 a &&& BitVec.ofNat 32 b = BitVec.ofNat 32 (a &&& b)
  exact BitVec.ofNat_and.symm)
theorem on_add {a b : Nat} : Int32.ofNat a + Int32.ofNat b = Int32.ofNat (a + b) := Int32.toBitVec_inj.mp (by
  show BitVec.ofNat 32 a + BitVec.ofNat 32 b = BitVec.ofNat 32 (a + b)
  exact (BitVec.ofNat_add a b).symm)
theorem on_sub {a b : Nat} (h : b ≤ a) : Int32.ofNat a - Int32.ofNat b = Int32.ofNat (a - b) := by
  have e : Int32.ofNat a = Int32.ofNat (a - b) + Int32.ofNat b := by rw [on_add, Nat.sub_add_cancel h]
  rw [e, Int32.add_sub_cancel]
theorem bN_on {a j : Nat} (hj : j < 32) : bN (Int32.ofNat a) j = a.testBit j := by
  show (BitVec.ofNat 32 a).getLsbD j = _
  rw [BitVec.getLsbD_ofNat, decide_eq_true hj, Bool.true_and]
theorem on_sh {a s : Nat} (ha : a < 4294967296) (hs : s < 32) : ((Int32.ofNat a).toUInt32 >>> ((Int32.ofNat s).toUInt32 &&& Int32.toUInt32 31)).toInt32 = Int32.ofNat (a / 2 ^ s) := by
  refine bN_ext (fun j hj => ?_)
  rw [bN_ush hs, bN_on hj, Nat.testBit_div_two_pow]
  by_cases z : s + j < 32
  · rw [bN_on z, Nat.add_comm]
  · rw [bN_big (by omega), Nat.testBit_lt_two_pow (Nat.lt_of_lt_of_le (show a < 2 ^ 32 by omega) (Nat.pow_le_pow_right (by decide) (by omega)))]
theorem bcF_e {w : Nat} (hw : w < 16777216) : bcF (Int32.ofNat w) = Int32.ofNat (pcF 24 w) := by
  obtain ⟨h, hle⟩ := bcN_e hw
  rw [← h]
  have le : ∀ x m : Nat, (x &&& m) ≤ m := fun x m => Nat.and_le_right
  have s1 : ((Int32.ofNat w).toUInt32 >>> ((1 : Int32).toUInt32 &&& Int32.toUInt32 31)).toInt32 = Int32.ofNat (w / 2) := on_sh (s := 1) (by omega) (by decide)
  obtain ⟨u1, e1⟩ : ∃ u1, u1 = w - (w / 2 &&& 1431655765) := ⟨_, rfl⟩
  have c1 : Int32.ofNat w - ((((Int32.ofNat w).toUInt32 >>> ((1 : Int32).toUInt32 &&& Int32.toUInt32 31)).toInt32) &&& 1431655765) = Int32.ofNat u1 := by
    rw [s1, show (1431655765 : Int32) = Int32.ofNat 1431655765 by rfl, on_and, on_sub hle, e1]
  have s2 : ((Int32.ofNat u1).toUInt32 >>> ((2 : Int32).toUInt32 &&& Int32.toUInt32 31)).toInt32 = Int32.ofNat (u1 / 4) := on_sh (s := 2) (by omega) (by decide)
  obtain ⟨u2, e2⟩ : ∃ u2, u2 = (u1 &&& 858993459) + (u1 / 4 &&& 858993459) := ⟨_, rfl⟩
  have l2 : u2 ≤ 1717986918 := by
    have := le u1 858993459
    have := le (u1 / 4) 858993459
    omega
  have c2 : (Int32.ofNat u1 &&& 858993459) + ((((Int32.ofNat u1).toUInt32 >>> ((2 : Int32).toUInt32 &&& Int32.toUInt32 31)).toInt32) &&& 858993459) = Int32.ofNat u2 := by
    rw [s2, show (858993459 : Int32) = Int32.ofNat 858993459 by rfl, on_and, on_and, on_add, e2]
  have s3 : ((Int32.ofNat u2).toUInt32 >>> ((4 : Int32).toUInt32 &&& Int32.toUInt32 31)).toInt32 = Int32.ofNat (u2 / 16) := on_sh (s := 4) (by omega) (by decide)
  obtain ⟨u3, e3⟩ : ∃ u3, u3 = (u2 + u2 / 16) &&& 252645135 := ⟨_, rfl⟩
  have l3 : u3 ≤ 252645135 := by rw [e3]; exact le _ _
  have c3 : (Int32.ofNat u2 + ((Int32.ofNat u2).toUInt32 >>> ((4 : Int32).toUInt32 &&& Int32.toUInt32 31)).toInt32) &&& 252645135 = Int32.ofNat u3 := by
    rw [s3, show (252645135 : Int32) = Int32.ofNat 252645135 by rfl, on_add, on_and, e3]
  have s4 : ((Int32.ofNat u3).toUInt32 >>> ((8 : Int32).toUInt32 &&& Int32.toUInt32 31)).toInt32 = Int32.ofNat (u3 / 256) := on_sh (s := 8) (by omega) (by decide)
  obtain ⟨u4, e4⟩ : ∃ u4, u4 = u3 + u3 / 256 := ⟨_, rfl⟩
  have c4 : Int32.ofNat u3 + ((Int32.ofNat u3).toUInt32 >>> ((8 : Int32).toUInt32 &&& Int32.toUInt32 31)).toInt32 = Int32.ofNat u4 := by
    rw [s4, on_add, e4]
  have s5 : ((Int32.ofNat u4).toUInt32 >>> ((16 : Int32).toUInt32 &&& Int32.toUInt32 31)).toInt32 = Int32.ofNat (u4 / 65536) := on_sh (s := 16) (by omega) (by decide)
  have hbN : bcN w = (u4 + u4 / 65536) &&& 63 := by
    rw [e4, e3, e2, e1]
    rfl
  rw [hbN]
  unfold bcF
  dsimp only
  rw [c1, c2, c3, c4, s5, on_add, show (63 : Int32) = Int32.ofNat 63 by rfl, on_and]
section GHO
variable {d : Ds}
theorem bitsOf_e {g : Gs} {w : Nat} (hw : w < 16777216) : pc (fX12_bitsOf 10000 g (Int32.ofNat w) d) (fun u d' => d' = d ∧ u = Int32.ofNat (pcF 24 w)) := by
  have e0 : (0 : Int32).toInt = 0 := by decide
  have p0 : ∀ f, pcF f 0 = 0 := by
    intro f
    induction f with
    | zero => rfl
    | succ f ih =>
      show 0 % 2 + pcF f (0 / 2) = 0
      rw [Nat.zero_div, ih]
  unfold fX12_bitsOf fX12_bitsOf_L4
  refine pc_lp (fun (a : Int32 × Int32 × Ds) => a.2.2 = d ∧ ∃ n k f : Nat, f ≤ 24 ∧ k < 2 ^ f ∧ a.1 = Int32.ofNat n ∧ a.2.1 = Int32.ofNat k ∧ n + pcF f k = pcF 24 w) ?_ 10000 (0, Int32.ofNat w, d) ⟨rfl, 0, w, 24, by decide, hw, rfl, rfl, Nat.zero_add _⟩
  rintro K ⟨y1, y2, dd⟩ ⟨ed, n, k, f, hf, hk, h1, h2, hp⟩ hK
  dsimp only at ed h1 h2 hK ⊢
  subst ed
  have hk24 : k < 16777216 := Nat.lt_of_lt_of_le hk (Nat.pow_le_pow_right (by decide) hf)
  have i2 : y2.toInt = (k : Int) := by rw [h2]; exact Int32.toInt_ofNat_of_lt (by omega)
  unfold fX12_bitsOf_B4
  refine pc_if (fun q => ?_) (fun q => pc_bd (fun u2 e2 => pc_bd (fun u3 e3 => ?_)))
  · have q2 := Int32.le_iff_toInt_le.mp q
    have k0 : k = 0 := by omega
    rw [k0, p0, Nat.add_zero] at hp
    exact pc_some ⟨rfl, by rw [h1, hp]⟩
  · have q2 := Int32.lt_iff_toInt_lt.mp (nle q)
    have hf0 : ¬ f = 0 := fun z => by
      rw [z, Nat.pow_zero] at hk
      omega
    obtain ⟨f', ef⟩ : ∃ f', f = f' + 1 := ⟨f - 1, by omega⟩
    subst ef
    have hpp : n + (k % 2 + pcF f' (k / 2)) = pcF 24 w := hp
    rw [Nat.pow_succ] at hk
    refine hK _ ⟨rfl, n + k % 2, k / 2, f', by omega, by omega, ?_, ?_, by omega⟩
    · dsimp only
      rw [e2, h1, h2, show (1 : Int32) = Int32.ofNat 1 by rfl, on_and, on_add, Nat.and_one_is_mod]
    · dsimp only
      rw [e3, h2]
      refine bN_ext (fun j hj => ?_)
      have hh : ((1 : Int32) &&& 31).toBitVec.smod 32 = BitVec.ofNat 32 1 := by decide
      show ((BitVec.ofNat 32 k).sshiftRight' (((1 : Int32) &&& 31).toBitVec.smod 32)).getLsbD j = _
      rw [hh, BitVec.getLsbD_sshiftRight', bN_on hj, show (BitVec.ofNat 32 1).toNat = 1 by rfl, decide_eq_false (by omega : ¬ 32 ≤ j), Bool.not_false, Bool.true_and]
      have td : (k / 2).testBit j = k.testBit (j + 1) := by
        have h2 := Nat.testBit_div_two_pow (n := 1) k j
        rw [Nat.pow_one] at h2
        exact h2
      rw [td]
      by_cases z : 1 + j < 32
      · rw [if_pos z, BitVec.getLsbD_ofNat, decide_eq_true z, Bool.true_and, Nat.add_comm]
      · rw [if_neg z, Nat.testBit_lt_two_pow (Nat.lt_of_lt_of_le (show k < 2 ^ 24 by omega) (Nat.pow_le_pow_right (by decide) (by omega)))]
        rw [BitVec.msb_eq_getLsbD_last, BitVec.getLsbD_ofNat, Nat.testBit_lt_two_pow (Nat.lt_of_lt_of_le (show k < 2 ^ 24 by omega) (Nat.pow_le_pow_right (by decide) (by decide))), Bool.and_false]
variable {r c : Nat} {x1 x2 u v : Int32}
theorem seF_b {cl : Int32} {n : Nat} : ∀ k, k ≤ 24 → ∀ j, 24 ≤ j → j < 32 → bN (seF r c cl n k) j = false := by
  intro k
  induction k with
  | zero => intro _ j _ _; exact bN_0
  | succ k ih =>
    intro hk j h1 h2
    have h := ih (by omega) j h1 h2
    show bN (if eqB r c cl n (k / c) (r + k % c) = true then seF r c cl n k ||| ((1 : Int32) <<< (Int32.ofNat k &&& 31)) else seF r c cl n k) j = false
    split
    · rw [bN_or, h, bN_1 (by omega) h2, decide_eq_false (by omega)]
      rfl
    · exact h
/-- what ghosts answers -/
def GHA (r c : Nat) (di : Prop) [Decidable di] (p x1 x2 u : Int32) : Prop := (∃ w, w < 2 ^ (r * c) ∧ x1 = Int32.ofNat w ∧ (x2 = 0 ∧ (∃ y, y < 16777216 ∧ (if di then x1 else seF r c x1 (r * c) (r * c)) &&& (x1 ^^^ (-1)) = Int32.ofNat y ∧ u = Int32.ofNat (pcF 24 y)) ∨ x2 = 1 ∧ (∃ y, y < 16777216 ∧ (if di then 0 else baF r c (seF r c x1 (r * c) (r * c)) (r * c)) = Int32.ofNat y ∧ u = Int32.ofNat (pcF 24 y)) ∨ x2 = 2 ∧ u = prt p r c x1 (r * c) ∨ ¬ x2 = 0 ∧ ¬ x2 = 1 ∧ ¬ x2 = 2 ∧ u = -1)) ∨ ((¬ ∃ w, w < 2 ^ (r * c) ∧ x1 = Int32.ofNat w) ∧ u = -1)
theorem gha_unq {di dj : Prop} [Decidable di] [Decidable dj] {p : Int32} (e : di ↔ dj) (h : GHA r c di p x1 x2 u) (k : GHA r c dj p x1 x2 v) : u = v := by
  have o : ∀ {a b : Int32}, (if di then a else b) = (if dj then a else b) := by
    intro a b
    by_cases z : di
    · rw [if_pos z, if_pos (e.mp z)]
    · rw [if_neg z, if_neg (fun y => z (e.mpr y))]
  have yy : ∀ {a b : Nat}, a < 16777216 → b < 16777216 → Int32.ofNat a = Int32.ofNat b → a = b := by
    intro a b ha hb h
    have := congrArg Int32.toInt h
    rw [Int32.toInt_ofNat_of_lt (by omega), Int32.toInt_ofNat_of_lt (by omega)] at this
    omega
  rcases h with ⟨w, w1, w2, h⟩ | ⟨h1, h2⟩
  · rcases k with ⟨w', w1', w2', k⟩ | ⟨k1, k2⟩
    · rcases h with ⟨a, y, y1, y2, y3⟩ | ⟨a, y, y1, y2, y3⟩ | ⟨a, y⟩ | ⟨a, b, c', y⟩
      · rcases k with ⟨a', z, z1, z2, z3⟩ | ⟨a', z⟩ | ⟨a', z⟩ | ⟨a', z⟩
        · rw [o, z2] at y2
          rw [y3, z3, yy z1 y1 y2]
        · exact absurd (a.symm.trans a') (by decide)
        · exact absurd (a.symm.trans a') (by decide)
        · exact absurd a a'
      · rcases k with ⟨a', z⟩ | ⟨a', z, z1, z2, z3⟩ | ⟨a', z⟩ | ⟨_, a', z⟩
        · exact absurd (a.symm.trans a') (by decide)
        · rw [o, z2] at y2
          rw [y3, z3, yy z1 y1 y2]
        · exact absurd (a.symm.trans a') (by decide)
        · exact absurd a a'
      · rcases k with ⟨a', z⟩ | ⟨a', z⟩ | ⟨a', z⟩ | ⟨_, _, a', z⟩
        · exact absurd (a.symm.trans a') (by decide)
        · exact absurd (a.symm.trans a') (by decide)
        · exact y.trans z.symm
        · exact absurd a a'
      · rcases k with ⟨a', z⟩ | ⟨a', z⟩ | ⟨a', z⟩ | ⟨_, _, a', z⟩
        · exact absurd a' a
        · exact absurd a' b
        · exact absurd a' c'
        · exact y.trans z.symm
    · exact absurd ⟨w, w1, w2⟩ k1
  · rcases k with ⟨w', w1', w2', k⟩ | ⟨k1, k2⟩
    · exact absurd ⟨w', w1', w2'⟩ h1
    · exact h2.trans k2.symm
/-- no bit above -/
theorem lo24 {x y : Int32} (h : ∀ j, 24 ≤ j → j < 32 → bN x j = false) : ∃ w, w < 16777216 ∧ (x &&& y) = Int32.ofNat w := bN_sm (m := 24) (by decide) (fun j h1 h2 => by rw [bN_and, h j h1 h2, Bool.false_and])
theorem lo24' {x : Int32} (h : ∀ j, 24 ≤ j → j < 32 → bN x j = false) : ∃ w, w < 16777216 ∧ x = Int32.ofNat w := bN_sm (m := 24) (by decide) h
theorem on24 {w n : Nat} (hn : n ≤ 24) (h : w < 2 ^ n) : ∀ j, 24 ≤ j → j < 32 → bN (Int32.ofNat w) j = false := fun j h1 h2 => by
  rw [bN_on h2, Nat.testBit_lt_two_pow (Nat.lt_of_lt_of_le h (Nat.pow_le_pow_right (by decide) (by omega)))]
theorem ghostsC_y {g : Gs} (hS : Shp g) (hR : RC r c) (hr : (dI d 117 0).toInt = (r : Int)) (hc : (dI d 117 1).toInt = (c : Int)) : pc (fX11_ghosts 10000 g 0 x1 x2 d) (fun u d' => GHA r c (¬ dI d 117 2 = 0) (dI d 117 0 + dI d 117 1) x1 x2 u) := by
  have e0 : (0 : Int32).toInt = 0 := by decide
  obtain ⟨hn24, hm10, hr4, hc6⟩ := hR.n
  have hmul := mul_rc hR hr hc
  unfold fX11_ghosts
  refine pc_gd (fun _ => pc_ob (fun r' e => ?_))
  have := gq hS (e := 117) (by decide +kernel) e
  subst this
  refine pc_gd (fun _ => pc_cb keys_y (fun u6 d4 r' => ?_))
  obtain ⟨e, hu⟩ := r'
  subst e
  have hu6 : u6 = Int32.ofNat (r * c) := ofN (by rw [hu]; exact hmul) (by omega)
  rw [hu6]
  refine pc_if (fun q => pc_ob (fun r' e => ?_)) (fun q => pc_some (Or.inr ⟨?_, rfl⟩))
  · obtain ⟨w, hw, ew⟩ := bN_sm (x := x1) (m := r * c) (by omega) (fun j h1 h2 => by
      have h := bN_ush (x := x1) (s := r * c) (j := j - r * c) (by omega)
      rw [q, bN_0, show r * c + (j - r * c) = j by omega] at h
      exact h.symm)
    have := gq hS (e := 225) (by decide +kernel) e
    subst this
    refine pc_gd (fun _ => pc_cv (follow_e hS hR hr hc) (fun d10 r10 => ?_))
    obtain ⟨f1, f2, f3, _⟩ := r10
    have x24 := on24 (by omega) hw
    rw [← ew] at x24
    have sN : dI d10 225 2 = if ¬ dI d4 117 2 = 0 then x1 else seF r c x1 (r * c) (r * c) := by
      rw [f2]
      by_cases z : dI d4 117 2 = 0
      · rw [if_pos z, if_neg (fun y => y z)]
      · rw [if_neg z, if_pos z]
    have bNn : dI d10 225 3 = if ¬ dI d4 117 2 = 0 then 0 else baF r c (seF r c x1 (r * c) (r * c)) (r * c) := by
      rw [f3]
      by_cases z : dI d4 117 2 = 0
      · rw [if_pos z, if_neg (fun y => y z)]
      · rw [if_neg z, if_pos z]
    refine pc_if (fun q3 => pc_some (Or.inl ⟨w, hw, ew, Or.inr (Or.inr (Or.inr ⟨fun z => ?_, fun z => ?_, fun z => ?_, rfl⟩))⟩)) (fun q3 => pc_if (fun q4 => ?_) (fun q4 => pc_if (fun q5 => ?_) (fun q5 => pc_if (fun q6 => ?_) (fun q6 => pc_none))))
    · rw [z] at q3
      exact absurd q3 (by decide)
    · rw [z] at q3
      exact absurd q3 (by decide)
    · rw [z] at q3
      exact absurd q3 (by decide)
    · obtain ⟨y, hy, ey⟩ := lo24 (x := dI d10 225 2) (y := x1 ^^^ (-1)) (fun j h1 h2 => by
        rw [sN]
        split
        · exact x24 j h1 h2
        · exact seF_b _ hn24 j h1 h2)
      rw [ey]
      refine pc_cb bitCount_e (fun u16 d14 r' => pc_some (Or.inl ⟨w, hw, ew, Or.inl ⟨q4, y, hy, ?_, ?_⟩⟩))
      · rw [← sN]
        exact ey
      · rw [r'.2]
        exact bcF_e hy
    · obtain ⟨y, hy, ey⟩ := lo24' (x := dI d10 225 3) (fun j h1 h2 => by
        rw [bNn]
        split
        · exact bN_0
        · rw [baF_b _ (by omega) j h2, decide_eq_false (by omega)]
          rfl)
      rw [ey]
      refine pc_cb bitCount_e (fun u16 d14 r' => pc_some (Or.inl ⟨w, hw, ew, Or.inr (Or.inl ⟨q5, y, hy, ?_, ?_⟩)⟩))
      · rw [← bNn]
        exact ey
      · rw [r'.2]
        exact bcF_e hy
    · exact pc_some (Or.inl ⟨w, hw, ew, Or.inr (Or.inr (Or.inl ⟨q6, f1⟩))⟩)
  · rintro ⟨w, hw, ew⟩
    apply q
    refine bN_ext (fun j hj => ?_)
    rw [bN_ush (by omega), bN_0, ew]
    by_cases z : r * c + j < 32
    · rw [bN_on z, Nat.testBit_lt_two_pow (Nat.lt_of_lt_of_le hw (Nat.pow_le_pow_right (by decide) (by omega)))]
    · exact bN_big (by omega)
theorem top_n : ∀ n, n ≤ 24 → (((1 : Int32) <<< (Int32.ofNat n &&& 31)) - 1).toInt = ((2 ^ n : Nat) : Int) - 1 := by decide +kernel
theorem ghostsM_y {g : Gs} (hS : Shp g) (hR : RC r c) (hr : (dI d 336 0).toInt = (r : Int)) (hc : (dI d 336 1).toInt = (c : Int)) : pc (fX12_ghosts 10000 g 328 x1 x2 d) (fun u d' => GHA r c (dI d 336 2 = 1) (dI d 336 0 + dI d 336 1) x1 x2 u) := by
  have e0 : (0 : Int32).toInt = 0 := by decide
  have e1 : (1 : Int32).toInt = 1 := by decide
  have e2 : (2 : Int32).toInt = 2 := by decide
  obtain ⟨hn24, hm10, hr4, hc6⟩ := hR.n
  have hmul := mul_rc hR hr hc
  have p24 : 2 ^ (r * c) ≤ 16777216 := Nat.pow_le_pow_right (n := 2) (by decide) (show r * c ≤ 24 from hn24)
  unfold fX12_ghosts fX12_ghosts_J25
  refine pc_gd (fun _ => pc_cb (manyM_y hS) (fun u4 d2 r' => ?_))
  obtain ⟨e, hu⟩ := r'
  subst e
  have hu4 : u4 = Int32.ofNat (r * c) := ofN (by rw [hu]; exact hmul) (by omega)
  rw [hu4]
  refine pc_cb inM_y (fun u7 d5 r' => ?_)
  obtain ⟨e, hin⟩ := r'
  subst e
  rw [top_n _ hn24, e0] at hin
  refine pc_if (fun q => pc_some (Or.inr ⟨?_, rfl⟩)) (fun q => ?_)
  · rintro ⟨w, hw, ew⟩
    have hx : x1.toInt = (w : Int) := by rw [ew]; exact Int32.toInt_ofNat_of_lt (by omega)
    rcases hin with ⟨_, hin⟩ | ⟨hin, _⟩
    · omega
    · rw [hin] at q
      exact absurd q (by decide)
  have hx : 0 ≤ x1.toInt ∧ x1.toInt ≤ ((2 ^ (r * c) : Nat) : Int) - 1 := by
    rcases hin with ⟨hin, _⟩ | ⟨_, hin⟩
    · exact absurd hin q
    · exact hin
  obtain ⟨w, hw⟩ : ∃ w : Nat, x1.toInt = (w : Int) := ⟨x1.toInt.toNat, by omega⟩
  have hw2 : w < 2 ^ (r * c) := by omega
  have ew : x1 = Int32.ofNat w := ofN hw (by omega)
  have x24 := on24 (by omega) hw2
  rw [← ew] at x24
  refine pc_cb inM_y (fun u11 d9 r' => ?_)
  obtain ⟨e, hin2⟩ := r'
  subst e
  rw [e0, e2] at hin2
  refine pc_if (fun q3 => pc_some (Or.inl ⟨w, hw2, ew, Or.inr (Or.inr (Or.inr ⟨fun z => ?_, fun z => ?_, fun z => ?_, rfl⟩))⟩)) (fun q3 => pc_cb (seenBy_e hS hR hr hc) (fun u15 d13 r' => ?_))
  · rw [z, e0] at hin2
    rcases hin2 with ⟨_, hin2⟩ | ⟨hin2, _⟩
    · omega
    · rw [hin2] at q3
      exact absurd q3 (by decide)
  · rw [z, e1] at hin2
    rcases hin2 with ⟨_, hin2⟩ | ⟨hin2, _⟩
    · omega
    · rw [hin2] at q3
      exact absurd q3 (by decide)
  · rw [z, e2] at hin2
    rcases hin2 with ⟨_, hin2⟩ | ⟨hin2, _⟩
    · omega
    · rw [hin2] at q3
      exact absurd q3 (by decide)
  obtain ⟨h15, hf, _⟩ := r'
  have w0 : (dI d13 336 0).toInt = (r : Int) := by rw [hf 336 0 (by decide)]; exact hr
  have w1 : (dI d13 336 1).toInt = (c : Int) := by rw [hf 336 1 (by decide)]; exact hc
  unfold fX12_ghosts_J69
  have hx2 : 0 ≤ x2.toInt ∧ x2.toInt ≤ 2 := by
    rcases hin2 with ⟨hin2, _⟩ | ⟨_, hin2⟩
    · exact absurd hin2 q3
    · exact hin2
  refine pc_if (fun q4 => ?_) (fun q4 => pc_if (fun q5 => pc_cb (barredBy_e hS hR w0 w1) (fun u23 d21 r' => ?_)) (fun q5 => pc_cb (laysParts_e hS hR w0 w1) (fun u20 d18 r' => pc_some (Or.inl ⟨w, hw2, ew, Or.inr (Or.inr (Or.inl ⟨?_, ?_⟩))⟩))))
  · obtain ⟨y, hy, ey⟩ := lo24 (x := u15) (y := x1 ^^^ (-1)) (fun j h1 h2 => by
      rw [h15]
      split
      · exact x24 j h1 h2
      · exact seF_b _ hn24 j h1 h2)
    rw [ey]
    refine pc_cb (bitsOf_e hy) (fun u29 d27 r' => pc_some (Or.inl ⟨w, hw2, ew, Or.inl ⟨q4, y, hy, ?_, r'.2⟩⟩))
    rw [← h15]
    exact ey
  · obtain ⟨_, h23⟩ := r'
    rw [hf 336 2 (by decide)] at h23
    have h23' : u23 = if dI d9 336 2 = 1 then 0 else baF r c (seF r c x1 (r * c) (r * c)) (r * c) := by
      rw [h23, h15]
      by_cases z : dI d9 336 2 = 1
      · rw [if_pos z, if_pos z]
      · rw [if_neg z, if_neg z, if_neg z]
    obtain ⟨y, hy, ey⟩ := lo24' (x := u23) (fun j h1 h2 => by
      rw [h23']
      split
      · exact bN_0
      · rw [baF_b _ (by omega) j h2, decide_eq_false (by omega)]
        rfl)
    rw [ey]
    refine pc_cb (bitsOf_e hy) (fun u26 d24 r' => pc_some (Or.inl ⟨w, hw2, ew, Or.inr (Or.inl ⟨q5, y, hy, ?_, r'.2⟩)⟩))
    rw [← h23']
    exact ey
  · refine Int32.toInt_inj.mp ?_
    have n0 : ¬ x2.toInt = 0 := fun z => q4 (Int32.toInt_inj.mp z)
    have n1 : ¬ x2.toInt = 1 := fun z => q5 (Int32.toInt_inj.mp z)
    rw [e2]
    omega
  · rw [r'.1, hf 336 0 (by decide), hf 336 1 (by decide)]
end GHO
/-! both sides ask -/
theorem bq_rc {f : Nat → Int32} {d : Ds} (h : BQf f d) : ∃ r c : Nat, RC r c ∧ (f 0).toInt = (r : Int) ∧ (f 1).toInt = (c : Int) ∧ dI d 117 0 = f 0 ∧ dI d 117 1 = f 1 := by
  obtain ⟨a0, a1, _, _, ab, _⟩ := h
  rcases ab with ⟨z0, z1⟩ | ⟨⟨p1, p2⟩, ⟨p3, p4⟩, _⟩
  · exact ⟨0, 0, Or.inl ⟨rfl, rfl⟩, by rw [z0]; decide, by rw [z1]; decide, a0, a1⟩
  · exact ⟨(f 0).toInt.toNat, (f 1).toInt.toNat, Or.inr ⟨by omega, by omega, by omega, by omega⟩, by omega, by omega, a0, a1⟩
/-- diodes: a flag -/
theorem di_01 {b : Nat → Int} {d : Ds} (hB : Bnd b d) : dI d 117 2 = 0 ∨ dI d 117 2 = 1 := by
  have k13 : cls 117 = 13 := by decide +kernel
  have h := hB.1 117 2 (by decide) (by decide +kernel)
  rw [k13] at h
  have h2 : iv (dI d 117 2) 0 1 := h
  have e0 : (0 : Int32).toInt = 0 := by decide
  have e1 : (1 : Int32).toInt = 1 := by decide
  rcases (show (dI d 117 2).toInt = 0 ∨ (dI d 117 2).toInt = 1 by have := h2.1; have := h2.2; omega) with z | z
  · exact Or.inl (Int32.toInt_inj.mp (z.trans e0.symm))
  · exact Or.inr (Int32.toInt_inj.mp (z.trans e1.symm))
theorem rr_ghosts {g : Gs} (hS : Shp g) {d0 d3 d6 : Ds} {u v x1 x2 : Int32} {b : Nat → Int} (h : RR d0) (hBn : Bnd b d0) (hu : fX11_ghosts 10000 g 0 x1 x2 d0 = some (u, d3)) (I1 : Inv m_sX11_ghosts__10 b d0 d3) (hv : fX12_ghosts 10000 g 328 x1 x2 d3 = some (v, d6)) : u = v := by
  have mM : MS d0 d3 := MS.fr I1 (by decide +kernel)
  have hB := h.2.2.2.2.1
  obtain ⟨r, c, hR, hr, hc, a0, a1⟩ := bq_rc hB
  have m0 := mM.2.1 0 (by decide)
  have m1 := mM.2.1 1 (by decide)
  have m2 := mM.2.1 2 (by decide)
  have a2 : dI d0 117 2 = dI d0 336 2 := hB.2.2.1
  have hC := ghostsC_y hS hR (by rw [a0]; exact hr) (by rw [a1]; exact hc) u d3 hu
  have hM := ghostsM_y hS hR (by rw [m0]; exact hr) (by rw [m1]; exact hc) v d6 hv
  rw [m0, m1, m2, ← a2] at hM
  rw [show dI d0 336 0 = dI d0 117 0 from a0.symm, show dI d0 336 1 = dI d0 117 1 from a1.symm] at hM
  refine gha_unq ?_ hC hM
  rcases di_01 hBn with z | z <;> rw [z]
  · exact ⟨fun y => absurd rfl y, fun y => absurd y (by decide)⟩
  · exact ⟨fun _ => rfl, fun _ => by decide⟩
