/-! bits -/
def bN (x : Int32) (k : Nat) : Bool := x.toBitVec.getLsbD k
theorem bN_us {x : Int32} {k : Nat} (h : k < 32) : ((x.toUInt32 >>> ((Int32.ofNat k).toUInt32 &&& Int32.toUInt32 31)).toInt32 &&& 1) = if bN x k = true then 1 else 0 := by
  have hs : ∀ k, k < 32 → (((Int32.ofNat k).toUInt32 &&& Int32.toUInt32 31).toBitVec % 32) = BitVec.ofNat 32 k := by decide
  apply Int32.toBitVec_inj.mp
  apply BitVec.eq_of_getLsbD_eq
  intro i hi
  show ((x.toBitVec >>> (((Int32.ofNat k).toUInt32 &&& Int32.toUInt32 31).toBitVec % 32)) &&& 1#32).getLsbD i = _
  rw [hs k h, BitVec.getLsbD_and, BitVec.ushiftRight_eq', BitVec.toNat_ofNat, Nat.mod_eq_of_lt (show k < 2 ^ 32 by omega), BitVec.getLsbD_ushiftRight, BitVec.getLsbD_one]
  unfold bN
  by_cases z : i = 0
  · subst z
    rw [Nat.add_zero]
    cases x.toBitVec.getLsbD k <;> rfl
  · have d0 : decide (i = 0) = false := decide_eq_false z
    rw [d0, Bool.and_false, Bool.and_false]
    cases x.toBitVec.getLsbD k
    · show false = (0#32).getLsbD i
      rw [BitVec.getLsbD_zero]
    · show false = (1#32).getLsbD i
      rw [BitVec.getLsbD_one, d0, Bool.and_false]
theorem bN_ss {x : Int32} {k : Nat} (h : k < 32) : ((x >>> (Int32.ofNat k &&& 31)) &&& 1) = if bN x k = true then 1 else 0 := by
  have hs : ∀ k, k < 32 → ((Int32.ofNat k &&& 31).toBitVec.smod 32) = BitVec.ofNat 32 k := by decide
  apply Int32.toBitVec_inj.mp
  apply BitVec.eq_of_getLsbD_eq
  intro i hi
  show ((x.toBitVec.sshiftRight' ((Int32.ofNat k &&& 31).toBitVec.smod 32)) &&& 1#32).getLsbD i = _
  rw [hs k h, BitVec.getLsbD_and, BitVec.getLsbD_sshiftRight', BitVec.toNat_ofNat, Nat.mod_eq_of_lt (show k < 2 ^ 32 by omega), BitVec.getLsbD_one]
  unfold bN
  by_cases z : i = 0
  · subst z
    rw [Nat.add_zero, if_pos h]
    cases x.toBitVec.getLsbD k <;> rfl
  · have d0 : decide (i = 0) = false := decide_eq_false z
    rw [d0, Bool.and_false, Bool.and_false]
    cases x.toBitVec.getLsbD k
    · show false = (0#32).getLsbD i
      rw [BitVec.getLsbD_zero]
    · show false = (1#32).getLsbD i
      rw [BitVec.getLsbD_one, d0, Bool.and_false]
theorem bN_1 {k j : Nat} (h : k < 32) (hj : j < 32) : bN ((1 : Int32) <<< (Int32.ofNat k &&& 31)) j = decide (j = k) := by
  have all : ∀ k, k < 32 → ∀ j, j < 32 → bN ((1 : Int32) <<< (Int32.ofNat k &&& 31)) j = decide (j = k) := by decide +kernel
  exact all k h j hj
theorem bN_or {x y : Int32} {j : Nat} : bN (x ||| y) j = (bN x j || bN y j) := by
  unfold bN
  rw [Int32.toBitVec_or, BitVec.getLsbD_or]
theorem bN_xor {x y : Int32} {j : Nat} : bN (x ^^^ y) j = (bN x j ^^ bN y j) := by
  unfold bN
  rw [Int32.toBitVec_xor, BitVec.getLsbD_xor]
theorem bN_and {x y : Int32} {j : Nat} : bN (x &&& y) j = (bN x j && bN y j) := by
  unfold bN
  rw [Int32.toBitVec_and, BitVec.getLsbD_and]
theorem bN_0 {j : Nat} : bN 0 j = false := by
  show (0#32).getLsbD j = false
  exact BitVec.getLsbD_zero
theorem bN_ext {x y : Int32} (h : ∀ j, j < 32 → bN x j = bN y j) : x = y := Int32.toBitVec_inj.mp (BitVec.eq_of_getLsbD_eq (fun j hj => h j hj))
theorem ofN {x : Int32} {k : Nat} (h : x.toInt = (k : Int)) (hk : k < 2147483648) : x = Int32.ofNat k := Int32.toInt_inj.mp (by rw [h, Int32.toInt_ofNat_of_lt (by omega)])
/-! a key pressed -/
def PRA (n : Nat) (x1 x2 cl u cl' : Int32) : Prop := (∃ k : Nat, k < n ∧ x1.toInt = (k : Int) ∧ ¬ (if bN cl k = true then (1 : Int32) else 0) = x2 ∧ u = 1 ∧ cl' = cl ^^^ ((1 : Int32) <<< (Int32.ofNat k &&& 31))) ∨ ((∀ k : Nat, k < n → x1.toInt = (k : Int) → (if bN cl k = true then (1 : Int32) else 0) = x2) ∧ u = 0 ∧ cl' = cl)
theorem PRA.u {n : Nat} {x1 x2 cl u v a b : Int32} (h : PRA n x1 x2 cl u a) (k : PRA n x1 x2 cl v b) : u = v ∧ a = b := by
  rcases h with ⟨i, h1, h2, h3, h4, h5⟩ | ⟨h1, h2, h3⟩
  · rcases k with ⟨j, k1, k2, k3, k4, k5⟩ | ⟨k1, k2, k3⟩
    · have : i = j := by omega
      subst this
      exact ⟨h4.trans k4.symm, h5.trans k5.symm⟩
    · exact absurd (k1 i h1 h2) h3
  · rcases k with ⟨j, k1, k2, k3, k4, k5⟩ | ⟨k1, k2, k3⟩
    · exact absurd (h1 j k1 k2) k3
    · exact ⟨h2.trans k2.symm, h3.trans k3.symm⟩
section PRS
variable {d : Ds} {x1 x2 : Int32} {n : Nat}
theorem keys_y {N : Nat} {g : Gs} {x : Nat} : pc (fX0_keys N g x d) (fun u d' => d' = d ∧ u = dI d x 0 * dI d x 1) := by
  unfold fX0_keys
  exact pc_gd (fun _ => pc_some ⟨rfl, rfl⟩)
theorem hasKey_y {N : Nat} {g : Gs} {x : Nat} : pc (fX0_hasKey N g x x1 d) (fun u d' => d' = d ∧ (u = 1 ∧ 0 ≤ x1.toInt ∧ x1.toInt < (dI d x 0 * dI d x 1).toInt ∨ u = 0 ∧ ¬ (0 ≤ x1.toInt ∧ x1.toInt < (dI d x 0 * dI d x 1).toInt))) := by
  have e0 : (0 : Int32).toInt = 0 := by decide
  unfold fX0_hasKey fX0_hasKey_J16 fX0_hasKey_J17
  refine pc_if (fun c => pc_gd (fun _ => pc_some ⟨rfl, Or.inr ⟨rfl, ?_⟩⟩)) (fun c1 => pc_gd (fun _ => pc_cb keys_y (fun u6 d4 r => ?_)))
  · have := Int32.lt_iff_toInt_lt.mp c
    omega
  obtain ⟨e, hu⟩ := r
  subst e
  subst hu
  have h1 := Int32.le_iff_toInt_le.mp (nlt c1)
  refine pc_if (fun c => pc_gd (fun _ => pc_some ⟨rfl, Or.inr ⟨rfl, ?_⟩⟩)) (fun c => pc_gd (fun _ => pc_some ⟨rfl, Or.inl ⟨rfl, ?_, ?_⟩⟩))
  · have := Int32.le_iff_toInt_le.mp c
    omega
  · omega
  · have := Int32.lt_iff_toInt_lt.mp (nle c)
    omega
theorem manyM_y {N : Nat} {g : Gs} (hS : Shp g) : pc (fX12_keysMany N g 328 d) (fun u d' => d' = d ∧ u = dI d 336 0 * dI d 336 1) := by
  unfold fX12_keysMany
  refine pc_gd (fun _ => pc_ob (fun r e => ?_))
  have := gq hS (e := 336) (by decide +kernel) e
  subst this
  exact pc_gd (fun _ => pc_gd (fun _ => pc_gd (fun _ => pc_some ⟨rfl, rfl⟩)))
theorem isKey_y {N : Nat} {g : Gs} (hS : Shp g) (hm : (dI d 336 0 * dI d 336 1).toInt = (n : Int)) : pc (fX12_isKey N g 328 x1 d) (fun u d' => d' = d ∧ (u = 1 ∧ 0 ≤ x1.toInt ∧ x1.toInt < n ∨ u = 0 ∧ ¬ (0 ≤ x1.toInt ∧ x1.toInt < n))) := by
  have e0 : (0 : Int32).toInt = 0 := by decide
  have e1 : (1 : Int32).toInt = 1 := by decide
  unfold fX12_isKey
  refine pc_gd (fun _ => pc_cb (manyM_y hS) (fun u4 d2 r => ?_))
  obtain ⟨e, hu⟩ := r
  subst e
  subst hu
  have hs := z_sub (x := dI d2 336 0 * dI d2 336 1) (y := 1) hm e1 (by omega) (by have := (ivT (dI d2 336 0 * dI d2 336 1)).2; omega)
  refine pc_cb inM_y (fun u7 d5 r => ?_)
  obtain ⟨e, hu⟩ := r
  subst e
  refine pc_gd (fun _ => pc_some ⟨rfl, ?_⟩)
  rw [hs, e0] at hu
  rcases hu with ⟨hu, h⟩ | ⟨hu, h1, h2⟩
  · exact Or.inr ⟨hu, by omega⟩
  · exact Or.inl ⟨hu, by omega, by omega⟩
theorem hasM_y {N : Nat} {g : Gs} {x y : Int32} {k : Nat} (hy : y.toInt = (k : Int)) (hk : k < 32) : pc (fX12_has N g x y d) (fun u d' => d' = d ∧ u = if bN x k = true then 1 else 0) := by
  unfold fX12_has fX12_has_J14
  rw [ofN hy (by omega), bN_ss hk]
  cases bN x k
  · exact pc_if (fun c => absurd c (by decide)) (fun _ => pc_gd (fun _ => pc_some ⟨rfl, rfl⟩))
  · exact pc_if (fun _ => pc_gd (fun _ => pc_some ⟨rfl, rfl⟩)) (fun c => absurd rfl c)
theorem isIn_k {N : Nat} {g : Gs} {x y : Int32} {k : Nat} (hy : y.toInt = (k : Int)) (hk : k < 32) : pc (fX11_isIn N g x y d) (fun u d' => d' = d ∧ u = if bN x k = true then 1 else 0) := by
  unfold fX11_isIn fX11_isIn_J13
  rw [ofN hy (by omega), bN_us hk]
  cases bN x k
  · exact pc_if (fun _ => pc_gd (fun _ => pc_some ⟨rfl, rfl⟩)) (fun c => absurd rfl c)
  · exact pc_if (fun c => absurd c (by decide)) (fun _ => pc_gd (fun _ => pc_some ⟨rfl, rfl⟩))
theorem pressC_y {g : Gs} (hS : Shp g) (hm : (dI d 117 0 * dI d 117 1).toInt = (n : Int)) (hn : n ≤ 24) : pc (fX11_press 10000 g 0 x1 x2 d) (fun u d' => PRA n x1 x2 (dI d 228 0) u (dI d' 228 0) ∧ (∀ r j, ¬ (225 ≤ r ∧ r ≤ 226) → ¬ r = 228 → dI d' r j = dI d r j) ∧ ∀ r j, ¬ (225 ≤ r ∧ r ≤ 226) → dF d' r j = dF d r j) := by
  unfold fX11_press fX11_press_J31
  refine pc_gd (fun _ => pc_ob (fun r e => ?_))
  have := gq hS (e := 227) (by decide +kernel) e
  subst this
  refine pc_gd (fun _ => pc_ob (fun r e => ?_))
  have := gq hS (e := 228) (by decide +kernel) e
  subst this
  refine pc_ob (fun r e => ?_)
  have := gq hS (e := 117) (by decide +kernel) e
  subst this
  refine pc_gd (fun _ => pc_cb hasKey_y (fun u9 d7 r => ?_))
  obtain ⟨e, hu⟩ := r
  subst e
  rw [hm] at hu
  rcases hu with ⟨hu, h0, h1⟩ | ⟨hu, h0⟩
  · obtain ⟨k, hk⟩ : ∃ k : Nat, x1.toInt = (k : Int) := ⟨x1.toInt.toNat, by omega⟩
    refine pc_if (fun q => absurd (hu.symm.trans q) (by decide)) (fun _ => pc_gd (fun _ => pc_cb (isIn_k hk (by omega)) (fun u14 d12 r => ?_)))
    obtain ⟨e, hu14⟩ := r
    subst e
    subst hu14
    refine pc_if (fun q => pc_some ⟨Or.inr ⟨fun j hj e => ?_, rfl, rfl⟩, fun _ _ _ _ => rfl, fun _ _ _ => rfl⟩) (fun q => ?_)
    · rw [show j = k by omega]
      exact q
    refine pc_bd (fun d16 e16 => pc_ob (fun r e => ?_))
    have := gq hS (e := 225) (by decide +kernel) e
    subst this
    refine pc_gd (fun _ => pc_cv (wW_fX9_follow 10000 g (dI d16 228 0) d16 hS (FQW.rf)) (fun d19 r19 => pc_bd (fun d21 e21 => pc_bd (fun d22 e22 => pc_some ⟨Or.inl ⟨k, by omega, hk, q, rfl, ?_⟩, fun r j a b => ?_, fun r j a => ?_⟩))))
    · rw [rdq e22 (Or.inr (by decide)), rdq e21 (Or.inr (by decide)), r19.1 228 0 (by decide), e16, sI_rd, if_pos ⟨rfl, rfl⟩, ofN hk (by omega)]
    · rw [rdq e22 (Or.inl b), rdq e21 (Or.inl b), r19.1 r j (by unfold fp_W; simp only [Bool.and_eq_false_imp, decide_eq_true_eq, decide_eq_false_iff_not]; omega), rdq e16 (Or.inl b)]
    · have h : dF d22 r j = dF d19 r j := by
        rw [e22, e21]
        rfl
      rw [h, r19.2 r j (by unfold fp_W; simp only [Bool.and_eq_false_imp, decide_eq_true_eq, decide_eq_false_iff_not]; omega), e16]
      rfl
  · refine pc_if (fun _ => pc_some ⟨Or.inr ⟨fun j hj e => absurd ⟨by omega, by omega⟩ h0, rfl, rfl⟩, fun _ _ _ _ => rfl, fun _ _ _ => rfl⟩) (fun q => absurd hu q)
theorem pressM_y {g : Gs} (hS : Shp g) (hm : (dI d 336 0 * dI d 336 1).toInt = (n : Int)) (hn : n ≤ 24) : pc (fX12_press 10000 g 328 x1 x2 d) (fun u d' => PRA n x1 x2 (dI d 336 352) u (dI d' 336 352) ∧ (∀ r j, ¬ (r = 336 ∧ j = 352) → dI d' r j = dI d r j) ∧ ∀ r j, dF d' r j = dF d r j) := by
  have n352 : (352 : Int32).toNatClampNeg = 352 := by decide
  unfold fX12_press fX12_press_J24
  refine pc_gd (fun _ => pc_cb (isKey_y hS hm) (fun u4 d2 r => ?_))
  obtain ⟨e, hu⟩ := r
  subst e
  rcases hu with ⟨hu, h0, h1⟩ | ⟨hu, h0⟩
  · obtain ⟨k, hk⟩ : ∃ k : Nat, x1.toInt = (k : Int) := ⟨x1.toInt.toNat, by omega⟩
    refine pc_if (fun q => absurd (hu.symm.trans q) (by decide)) (fun _ => pc_ob (fun r e => ?_))
    have := gq hS (e := 336) (by decide +kernel) e
    subst this
    rw [n352]
    refine pc_gd (fun _ => pc_gd (fun _ => pc_cb (hasM_y hk (by omega)) (fun u11 d9 r => ?_)))
    obtain ⟨e, hu11⟩ := r
    subst e
    subst hu11
    refine pc_if (fun q => pc_some ⟨Or.inr ⟨fun j hj e => ?_, rfl, rfl⟩, fun _ _ _ => rfl, fun _ _ => rfl⟩) (fun q => ?_)
    · rw [show j = k by omega]
      exact q
    refine pc_bd (fun d13 e13 => pc_some ⟨Or.inl ⟨k, by omega, hk, q, rfl, ?_⟩, fun r j a => ?_, fun r j => ?_⟩)
    · rw [e13, sI_rd, if_pos ⟨rfl, rfl⟩, ofN hk (by omega)]
    · rw [e13, sI_rd, if_neg a]
    · rw [e13]
      rfl
  · refine pc_if (fun _ => pc_some ⟨Or.inr ⟨fun j hj e => absurd ⟨by omega, by omega⟩ h0, rfl, rfl⟩, fun _ _ _ => rfl, fun _ _ => rfl⟩) (fun q => absurd hu q)
end PRS
