/-! a text's tokens stand in its own bytes alone -/
section CGT
variable {t t' : Nat → Int32} {n : Nat}
theorem rnF_cg (h : ∀ j, j < n → t' j = t j) {q : Int32 → Bool} : ∀ k p, rnF q t' n k p = rnF q t n k p := by
  intro k
  induction k with
  | zero => intro p; rfl
  | succ k ih =>
    intro p
    show (if p < n ∧ q (t' p) = true then rnF q t' n k (p + 1) else p) = (if p < n ∧ q (t p) = true then rnF q t n k (p + 1) else p)
    by_cases z : p < n
    · rw [h p z, ih]
    · rw [if_neg (fun y => z y.1), if_neg (fun y => z y.1)]
theorem rn_cg (h : ∀ j, j < n → t' j = t j) {q : Int32 → Bool} (p : Nat) : rn q t' n p = rn q t n p := rnF_cg h _ p
theorem en_cg (h : ∀ j, j < n → t' j = t j) {p : Nat} (hp : p < n) : en t' n p = en t n p := by
  unfold en
  rw [h p hp, rn_cg h, rn_cg h]
theorem ps_cg (h : ∀ j, j < n → t' j = t j) : ∀ i, ps t' n i = ps t n i := by
  intro i
  induction i with
  | zero => exact rn_cg h 0
  | succ i ih =>
    show (if ps t' n i < n then rn blk t' n (en t' n (ps t' n i)) else ps t' n i) = (if ps t n i < n then rn blk t n (en t n (ps t n i)) else ps t n i)
    rw [ih]
    by_cases z : ps t n i < n
    · rw [if_pos z, if_pos z, en_cg h z, rn_cg h]
    · rw [if_neg z, if_neg z]
theorem wsp_cg (h : ∀ j, j < n → t' j = t j) {p l : Nat} (hl : p + l ≤ n) (k : Nat) : wsp t' p l k = wsp t p l k := by
  have e : wsp t' p l k = true ↔ wsp t p l k = true := by
    rw [wsp_i, wsp_i]
    exact ⟨fun z => ⟨z.1, fun j hj => by rw [← h (p + j) (by omega)]; exact z.2 j hj⟩, fun z => ⟨z.1, fun j hj => by rw [h (p + j) (by omega)]; exact z.2 j hj⟩⟩
  exact Bool.eq_iff_iff.mpr e
theorem wdF_cg (h : ∀ j, j < n → t' j = t j) {p l : Nat} (hl : p + l ≤ n) : ∀ k, wdF t' p l k = wdF t p l k := by
  intro k
  induction k with
  | zero => rfl
  | succ k ih =>
    show (if wsp t' p l k = true then k + 1 else wdF t' p l k) = (if wsp t p l k = true then k + 1 else wdF t p l k)
    rw [wsp_cg h hl, ih]
theorem wd_cg (h : ∀ j, j < n → t' j = t j) {p : Nat} (hp : p < n) : wd t' n p = wd t n p := by
  have h1 : p ≤ rn ltr t n p := rn_ge
  have h2 : rn ltr t n p ≤ n := rn_le (by omega)
  unfold wd
  rw [rn_cg h]
  exact wdF_cg h (by omega) 20
theorem vlF_cg (h : ∀ j, j < n → t' j = t j) {p : Nat} : ∀ k, p + k ≤ n → vlF t' p k = vlF t p k := by
  intro k
  induction k with
  | zero => intro _; rfl
  | succ k ih =>
    intro hk
    show vlF t' p k * 10 + (t' (p + k) - 48) = vlF t p k * 10 + (t (p + k) - 48)
    rw [ih (by omega), h (p + k) (by omega)]
theorem vl_cg (h : ∀ j, j < n → t' j = t j) {p : Nat} (hp : p < n) : vl t' n p = vl t n p := by
  have h1 : p ≤ rn dgt t n p := rn_ge
  have h2 : rn dgt t n p ≤ n := rn_le (by omega)
  unfold vl
  rw [h p hp, rn_cg h, vlF_cg h _ (by have := Nat.min_le_left (rn dgt t n p - p) 4; omega)]
theorem kdS_cg (h : ∀ j, j < n → t' j = t j) {p : Nat} (hp : p < n) : kdS t' n p = kdS t n p := by
  unfold kdS
  rw [h p hp, wd_cg h hp, rn_cg h, rn_cg h]
theorem KS_cg (h : ∀ j, j < n → t' j = t j) : KS t' n = KS t n := by
  funext i
  unfold KS
  rw [ps_cg h]
  by_cases z : ps t n i < n
  · rw [if_pos z, if_pos z, kdS_cg h z]
  · rw [if_neg z, if_neg z]
theorem VS_cg (h : ∀ j, j < n → t' j = t j) : VS t' n = VS t n := by
  funext i
  unfold VS
  rw [ps_cg h]
  by_cases z : ps t n i < n
  · rw [if_pos z, if_pos z, vl_cg h z]
  · rw [if_neg z, if_neg z]
end CGT
/-! both tapes -/
/-- as long, the same bytes -/
def TB (d : Ds) : Prop := dI d 0 1 = dI d 328 2 ∧ iv (dI d 0 1) 0 2000 ∧ ∀ j : Nat, (j : Int) < (dI d 0 1).toInt → dI d 1 j = dI d 329 j ∧ byr (dI d 1 j)
/-! the bytes that feeding lays: both the same -/
def sC (x y : Int32) : Int32 := vp_nar .byte (((x.toUInt32 >>> (y.toUInt32 &&& Int32.toUInt32 31)).toInt32).toInt8.toInt32)
def sM8 (x y : Int32) : Int32 := vp_nar .byte ((x >>> (y &&& 31)).toInt8.toInt32)
theorem i8_by (c : Int8) : byr c.toInt32 := by
  have h1 := Int8.le_toInt c
  have h2 := Int8.toInt_lt c
  have e : c.toInt32.toInt = c.toInt := Int8.toInt_toInt32 c
  exact ⟨by rw [e]; exact h1, by rw [e]; omega⟩
theorem bv_sh (b : BitVec 32) (s : Nat) (h : s ≤ 24) : (b >>> s).setWidth 8 = (b.sshiftRight s).setWidth 8 := by
  apply BitVec.eq_of_getLsbD_eq
  intro i hi
  rw [BitVec.getLsbD_setWidth, BitVec.getLsbD_setWidth, BitVec.getLsbD_ushiftRight, BitVec.getLsbD_sshiftRight, if_pos (by omega)]
  have : ¬ 32 ≤ i := by omega
  simp [this]
theorem sCM (x : Int32) {y : Int32} (h : y = 24 ∨ y = 16 ∨ y = 8 ∨ y = 0) : sC x y = sM8 x y ∧ byr (sM8 x y) := by
  have key : ((x.toUInt32 >>> (y.toUInt32 &&& Int32.toUInt32 31)).toInt32).toInt8 = (x >>> (y &&& 31)).toInt8 := by
    apply Int8.toBitVec_inj.mp
    rcases h with h | h | h | h <;> subst h
    · rw [Int32.toBitVec_toInt8, Int32.toBitVec_toInt8, BitVec.signExtend_eq_setWidth_of_le _ (by decide), BitVec.signExtend_eq_setWidth_of_le _ (by decide)]
      show BitVec.setWidth 8 (x.toBitVec >>> ((Int32.toUInt32 24 &&& Int32.toUInt32 31).toBitVec % 32)) = BitVec.setWidth 8 (x.toBitVec.sshiftRight' (((24 : Int32) &&& 31).toBitVec.smod 32))
      rw [show ((Int32.toUInt32 24 &&& Int32.toUInt32 31).toBitVec % 32) = 24#32 by decide, show (((24 : Int32) &&& 31).toBitVec.smod 32) = 24#32 by decide]
      exact bv_sh x.toBitVec 24 (by decide)
    · rw [Int32.toBitVec_toInt8, Int32.toBitVec_toInt8, BitVec.signExtend_eq_setWidth_of_le _ (by decide), BitVec.signExtend_eq_setWidth_of_le _ (by decide)]
      show BitVec.setWidth 8 (x.toBitVec >>> ((Int32.toUInt32 16 &&& Int32.toUInt32 31).toBitVec % 32)) = BitVec.setWidth 8 (x.toBitVec.sshiftRight' (((16 : Int32) &&& 31).toBitVec.smod 32))
      rw [show ((Int32.toUInt32 16 &&& Int32.toUInt32 31).toBitVec % 32) = 16#32 by decide, show (((16 : Int32) &&& 31).toBitVec.smod 32) = 16#32 by decide]
      exact bv_sh x.toBitVec 16 (by decide)
    · rw [Int32.toBitVec_toInt8, Int32.toBitVec_toInt8, BitVec.signExtend_eq_setWidth_of_le _ (by decide), BitVec.signExtend_eq_setWidth_of_le _ (by decide)]
      show BitVec.setWidth 8 (x.toBitVec >>> ((Int32.toUInt32 8 &&& Int32.toUInt32 31).toBitVec % 32)) = BitVec.setWidth 8 (x.toBitVec.sshiftRight' (((8 : Int32) &&& 31).toBitVec.smod 32))
      rw [show ((Int32.toUInt32 8 &&& Int32.toUInt32 31).toBitVec % 32) = 8#32 by decide, show (((8 : Int32) &&& 31).toBitVec.smod 32) = 8#32 by decide]
      exact bv_sh x.toBitVec 8 (by decide)
    · rw [Int32.toBitVec_toInt8, Int32.toBitVec_toInt8, BitVec.signExtend_eq_setWidth_of_le _ (by decide), BitVec.signExtend_eq_setWidth_of_le _ (by decide)]
      show BitVec.setWidth 8 (x.toBitVec >>> ((Int32.toUInt32 0 &&& Int32.toUInt32 31).toBitVec % 32)) = BitVec.setWidth 8 (x.toBitVec.sshiftRight' (((0 : Int32) &&& 31).toBitVec.smod 32))
      rw [show ((Int32.toUInt32 0 &&& Int32.toUInt32 31).toBitVec % 32) = 0#32 by decide, show (((0 : Int32) &&& 31).toBitVec.smod 32) = 0#32 by decide]
      exact bv_sh x.toBitVec 0 (by decide)
  unfold sC sM8
  rw [key, nar_by (i8_by _)]
  exact ⟨rfl, i8_by _⟩
/-- byte i of what five ints lay -/
def yN (k : Nat) : Int32 := if k = 0 then 24 else if k = 1 then 16 else if k = 2 then 8 else 0
theorem yN_i {k : Nat} (h : k < 4) : yN k = 24 ∨ yN k = 16 ∨ yN k = 8 ∨ yN k = 0 := by
  unfold yN
  split
  · exact Or.inl rfl
  · split
    · exact Or.inr (Or.inl rfl)
    · split
      · exact Or.inr (Or.inr (Or.inl rfl))
      · exact Or.inr (Or.inr (Or.inr rfl))
theorem yN_t {k : Nat} (h : k < 4) {y : Int32} (hy : y.toInt = 24 - 8 * (k : Int)) : y = yN k := by
  have : (yN k).toInt = 24 - 8 * (k : Int) := by
    rcases (show k = 0 ∨ k = 1 ∨ k = 2 ∨ k = 3 by omega) with z | z | z | z <;> subst z <;> decide
  exact Int32.toInt_inj.mp (by omega)
theorem app4_b {g : Gs} (hS : Shp g) {x1 : Int32} {d : Ds} {l : Nat} (h0 : (dI d 0 1).toInt = (l : Int)) (hl : l + 4 ≤ 2000) : pc (fX11_appendFour 10000 g 0 x1 d) (fun _ d' => (dI d' 0 1).toInt = (l : Int) + 4 ∧ (∀ r j, ¬ (r = 0 ∧ j = 1) → ¬ r = 1 → dI d' r j = dI d r j) ∧ (∀ j, j < l → dI d' 1 j = dI d 1 j) ∧ ∀ i, i < 4 → dI d' 1 (l + i) = sC x1 (yN i)) := by
  have e1 : (1 : Int32).toInt = 1 := by decide
  have e0 : (0 : Int32).toInt = 0 := by decide
  have e8 : (-8 : Int32).toInt = -8 := by decide
  have e2 : (2000 : Int32).toInt = 2000 := by decide
  unfold fX11_appendFour
  unfold fX11_appendFour_L3
  refine pc_lp (fun (a : Int32 × Ds) => ∃ k : Nat, k ≤ 4 ∧ a.1.toInt = 24 - 8 * (k : Int) ∧ (dI a.2 0 1).toInt = (l : Int) + k ∧ (∀ r j, ¬ (r = 0 ∧ j = 1) → ¬ r = 1 → dI a.2 r j = dI d r j) ∧ (∀ j, j < l → dI a.2 1 j = dI d 1 j) ∧ ∀ i, i < k → dI a.2 1 (l + i) = sC x1 (yN i)) ?_ 10000 (24, d) ⟨0, by decide, (by decide : (24 : Int32).toInt = 24 - 8 * ((0 : Nat) : Int)), by show (dI d 0 1).toInt = _; omega, fun _ _ _ _ => rfl, fun _ _ => rfl, fun i hi => absurd hi (Nat.not_lt_zero _)⟩
  rintro K ⟨y2, dd⟩ ⟨k, hk, hy, hL, hf, ho, hb⟩ hK
  dsimp only at hy hL hf ho hb hK ⊢
  unfold fX11_appendFour_B3
  refine pc_if (fun c => ?_) (fun c => ?_)
  · have c2 := Int32.lt_iff_toInt_lt.mp c
    have : k = 4 := by omega
    subst this
    unfold fX11_appendFour_J46
    exact pc_some ⟨by omega, hf, ho, hb⟩
  · have c2 := Int32.le_iff_toInt_le.mp (nlt c)
    refine pc_gd (fun _ => ?_)
    refine pc_if (fun c => ?_) (fun _ => ?_)
    · have c3 := Int32.le_iff_toInt_le.mp c
      exfalso
      omega
    · refine pc_ob (fun r4 e4 => ?_)
      have := gq hS (e := 1) (by decide +kernel) e4
      subst this
      refine pc_gd (fun _ => pc_gd (fun _ => pc_bd (fun d7 e7 => pc_bd (fun d8 e8' => pc_bd (fun u9 e9 => ?_)))))
      have il : (dI dd 0 1).toNatClampNeg = l + k := tn (by omega)
      rw [il] at e7
      have q7 : dI d7 0 1 = dI dd 0 1 := rdq e7 (Or.inl (by decide))
      have q8 : (dI d8 0 1).toInt = (l : Int) + k + 1 := by
        rw [e8', sI_rd, if_pos ⟨rfl, rfl⟩, q7]
        exact z_add hL e1 (by omega) (by omega)
      have q9 := z_add hy e8 (by omega) (by omega)
      refine hK _ ⟨k + 1, by omega, by rw [e9, q9]; omega, by dsimp only; rw [q8]; omega, fun r j h1 h2 => ?_, fun j hj => ?_, fun i hi => ?_⟩
      · dsimp only
        rw [e8', sI_rd, if_neg (fun z => h1 z), rdq e7 (Or.inl h2)]
        exact hf r j h1 h2
      · dsimp only
        rw [rdq e8' (Or.inl (by decide)), rdq e7 (Or.inr (by omega))]
        exact ho j hj
      · dsimp only
        rw [rdq e8' (Or.inl (by decide)), e7, sI_rd]
        by_cases z : i = k
        · subst z
          rw [if_pos ⟨rfl, rfl⟩, yN_t (by omega) hy]
          rfl
        · rw [if_neg (fun y => z (by omega))]
          exact hb i (by omega)
theorem lays_b {g : Gs} (hS : Shp g) {x1 : Int32} {d : Ds} {l : Nat} (h0 : (dI d 328 2).toInt = (l : Int)) (hl : l + 4 ≤ 2000) : pc (fX12_lays 10000 g 328 x1 d) (fun _ d' => (dI d' 328 2).toInt = (l : Int) + 4 ∧ (∀ r j, ¬ (r = 328 ∧ j = 2) → ¬ r = 329 → dI d' r j = dI d r j) ∧ (∀ j, j < l → dI d' 329 j = dI d 329 j) ∧ ∀ i, i < 4 → dI d' 329 (l + i) = sM8 x1 (yN i)) := by
  have e1 : (1 : Int32).toInt = 1 := by decide
  have e0 : (0 : Int32).toInt = 0 := by decide
  have e8 : (-8 : Int32).toInt = -8 := by decide
  unfold fX12_lays
  unfold fX12_lays_L3
  refine pc_lp (fun (a : Int32 × Ds) => ∃ k : Nat, k ≤ 4 ∧ a.1.toInt = 24 - 8 * (k : Int) ∧ (dI a.2 328 2).toInt = (l : Int) + k ∧ (∀ r j, ¬ (r = 328 ∧ j = 2) → ¬ r = 329 → dI a.2 r j = dI d r j) ∧ (∀ j, j < l → dI a.2 329 j = dI d 329 j) ∧ ∀ i, i < k → dI a.2 329 (l + i) = sM8 x1 (yN i)) ?_ 10000 (24, d) ⟨0, by decide, (by decide : (24 : Int32).toInt = 24 - 8 * ((0 : Nat) : Int)), by show (dI d 328 2).toInt = _; omega, fun _ _ _ _ => rfl, fun _ _ => rfl, fun i hi => absurd hi (Nat.not_lt_zero _)⟩
  rintro K ⟨y2, dd⟩ ⟨k, hk, hy, hL, hf, ho, hb⟩ hK
  dsimp only at hy hL hf ho hb hK ⊢
  unfold fX12_lays_B3
  refine pc_if (fun c => ?_) (fun c => ?_)
  · have c2 := Int32.lt_iff_toInt_lt.mp c
    have : k = 4 := by omega
    subst this
    exact pc_some ⟨by omega, hf, ho, hb⟩
  · have c2 := Int32.le_iff_toInt_le.mp (nlt c)
    refine pc_gd (fun _ => pc_ob (fun r4 e4 => ?_))
    have := gq hS (e := 329) (by decide +kernel) e4
    subst this
    refine pc_gd (fun _ => pc_gd (fun _ => pc_bd (fun d7 e7 => pc_bd (fun d8 e8' => pc_bd (fun u9 e9 => ?_)))))
    have il : (dI dd 328 2).toNatClampNeg = l + k := tn (by omega)
    rw [il] at e7
    have q7 : dI d7 328 2 = dI dd 328 2 := rdq e7 (Or.inl (by decide))
    have q8 : (dI d8 328 2).toInt = (l : Int) + k + 1 := by
      rw [e8', sI_rd, if_pos ⟨rfl, rfl⟩, q7]
      exact z_add hL e1 (by omega) (by omega)
    have q9 := z_add hy e8 (by omega) (by omega)
    refine hK _ ⟨k + 1, by omega, by rw [e9, q9]; omega, by dsimp only; rw [q8]; omega, fun r j h1 h2 => ?_, fun j hj => ?_, fun i hi => ?_⟩
    · dsimp only
      rw [e8', sI_rd, if_neg (fun z => h1 z), rdq e7 (Or.inl h2)]
      exact hf r j h1 h2
    · dsimp only
      rw [rdq e8' (Or.inl (by decide)), rdq e7 (Or.inr (by omega))]
      exact ho j hj
    · dsimp only
      rw [rdq e8' (Or.inl (by decide)), e7, sI_rd]
      by_cases z : i = k
      · subst z
        rw [if_pos ⟨rfl, rfl⟩, yN_t (by omega) hy]
        rfl
      · rw [if_neg (fun y => z (by omega))]
        exact hb i (by omega)
/-! feeding and going back keep the tapes alike -/
def AP (s : Int32 → Int32 → Int32) (x : Int32) (l : Nat) (b b' : Nat → Int32) : Prop := (∀ j, j < l → b' j = b j) ∧ ∀ k, k < 4 → b' (l + k) = s x (yN k)
def AP5 (s : Int32 → Int32 → Int32) (xs : Nat → Int32) (l : Nat) (b b' : Nat → Int32) : Prop := (∀ j, j < l → b' j = b j) ∧ ∀ i k, i < 5 → k < 4 → b' (l + 4 * i + k) = s (xs i) (yN k)
theorem AP.five {s : Int32 → Int32 → Int32} {x1 x2 x3 x4 x5 : Int32} {l : Nat} {b0 b1 b2 b3 b4 b5 : Nat → Int32} (h1 : AP s x1 l b0 b1) (h2 : AP s x2 (l + 4) b1 b2) (h3 : AP s x3 (l + 8) b2 b3) (h4 : AP s x4 (l + 12) b3 b4) (h5 : AP s x5 (l + 16) b4 b5) : AP5 s (fun i => if i = 0 then x1 else if i = 1 then x2 else if i = 2 then x3 else if i = 3 then x4 else x5) l b0 b5 := by
  refine ⟨fun j hj => ?_, fun i k hi hk => ?_⟩
  · rw [h5.1 j (by omega), h4.1 j (by omega), h3.1 j (by omega), h2.1 j (by omega), h1.1 j hj]
  · rcases (show i = 0 ∨ i = 1 ∨ i = 2 ∨ i = 3 ∨ i = 4 by omega) with z | z | z | z | z <;> subst z
    · rw [h5.1 _ (by omega), h4.1 _ (by omega), h3.1 _ (by omega), h2.1 _ (by omega)]
      exact h1.2 k hk
    · rw [h5.1 _ (by omega), h4.1 _ (by omega), h3.1 _ (by omega)]
      exact h2.2 k hk
    · rw [h5.1 _ (by omega), h4.1 _ (by omega)]
      exact h3.2 k hk
    · rw [h5.1 _ (by omega)]
      exact h4.2 k hk
    · exact h5.2 k hk
def fdP (s : Int32 → Int32 → Int32) (xs : Nat → Int32) (l u l' : Int32) (b b' : Nat → Int32) : Prop := (l.toInt + 20 ≤ 2000 → u.toInt = l.toInt + 20 ∧ l'.toInt = l.toInt + 20 ∧ AP5 s xs l.toInt.toNat b b') ∧ (¬ l.toInt + 20 ≤ 2000 → u = -1 ∧ l' = l ∧ b' = b)
def bt1 (d : Ds) : Nat → Int32 := fun j => dI d 1 j
def bt2 (d : Ds) : Nat → Int32 := fun j => dI d 329 j
def xs5 (x1 x2 x3 x4 x5 : Int32) : Nat → Int32 := fun i => if i = 0 then x1 else if i = 1 then x2 else if i = 2 then x3 else if i = 3 then x4 else x5
theorem feed_b {g : Gs} (hS : Shp g) {x1 x2 x3 x4 x5 : Int32} {d : Ds} (h0 : iv (dI d 0 1) 0 2000) : pc (fX11_feed 10000 g 0 x1 x2 x3 x4 x5 d) (fun u d' => fdP sC (xs5 x1 x2 x3 x4 x5) (dI d 0 1) u (dI d' 0 1) (bt1 d) (bt1 d') ∧ ∀ r j, ¬ (r = 0 ∧ j = 1) → ¬ r = 1 → dI d' r j = dI d r j) := by
  have e20 : (20 : Int32).toInt = 20 := by decide
  have e2 : (2000 : Int32).toInt = 2000 := by decide
  have h1 := h0.1
  have h2 := h0.2
  obtain ⟨l, hl⟩ : ∃ l : Nat, (dI d 0 1).toInt = (l : Int) := ⟨(dI d 0 1).toInt.toNat, by omega⟩
  have q := z_add (x := dI d 0 1) (y := 20) rfl e20 (by omega) (by omega)
  unfold fX11_feed
  refine pc_gd (fun _ => pc_if (fun c => ?_) (fun c => ?_))
  · have c2 := Int32.le_iff_toInt_le.mp c
    rw [q, e2] at c2
    refine pc_cv (app4_b (l := l) hS hl (by omega)) (fun d3 r3 => ?_)
    refine pc_cv (app4_b (l := l + 4) hS (by rw [r3.1]; omega) (by omega)) (fun d5 r5 => ?_)
    refine pc_cv (app4_b (l := l + 8) hS (by rw [r5.1]; omega) (by omega)) (fun d7 r7 => ?_)
    refine pc_cv (app4_b (l := l + 12) hS (by rw [r7.1]; omega) (by omega)) (fun d9 r9 => ?_)
    refine pc_cv (app4_b (l := l + 16) hS (by rw [r9.1]; omega) (by omega)) (fun d11 r11 => ?_)
    have hln : (dI d 0 1).toInt.toNat = l := by omega
    refine pc_some ⟨⟨fun _ => ⟨by rw [r11.1]; omega, by rw [r11.1]; omega, ?_⟩, fun z => absurd c2 z⟩, fun r j a b => ?_⟩
    · rw [hln]
      exact AP.five (b0 := bt1 d) (b1 := bt1 d3) (b2 := bt1 d5) (b3 := bt1 d7) (b4 := bt1 d9) (b5 := bt1 d11) r3.2.2 r5.2.2 r7.2.2 r9.2.2 r11.2.2
    · rw [r11.2.1 r j a b, r9.2.1 r j a b, r7.2.1 r j a b, r5.2.1 r j a b, r3.2.1 r j a b]
  · have c2 : ¬ (dI d 0 1).toInt + 20 ≤ 2000 := fun z => c (Int32.le_iff_toInt_le.mpr (by rw [q, e2]; exact z))
    exact pc_some ⟨⟨fun z => absurd z c2, fun _ => ⟨rfl, rfl, rfl⟩⟩, fun _ _ _ _ => rfl⟩
theorem feedm_b {g : Gs} (hS : Shp g) {x1 x2 x3 x4 x5 : Int32} {d : Ds} (h0 : iv (dI d 328 2) 0 2000) : pc (fX12_feed 10000 g 328 x1 x2 x3 x4 x5 d) (fun u d' => fdP sM8 (xs5 x1 x2 x3 x4 x5) (dI d 328 2) u (dI d' 328 2) (bt2 d) (bt2 d') ∧ ∀ r j, ¬ (r = 328 ∧ j = 2) → ¬ r = 329 → dI d' r j = dI d r j) := by
  have e20 : (20 : Int32).toInt = 20 := by decide
  have e2 : (2000 : Int32).toInt = 2000 := by decide
  have h1 := h0.1
  have h2 := h0.2
  obtain ⟨l, hl⟩ : ∃ l : Nat, (dI d 328 2).toInt = (l : Int) := ⟨(dI d 328 2).toInt.toNat, by omega⟩
  have q := z_add (x := dI d 328 2) (y := 20) rfl e20 (by omega) (by omega)
  unfold fX12_feed
  refine pc_gd (fun _ => pc_if (fun c => ?_) (fun c => ?_))
  · have c2 := Int32.le_iff_toInt_le.mp c
    rw [q, e2] at c2
    refine pc_cv (lays_b (l := l) hS hl (by omega)) (fun d3 r3 => ?_)
    refine pc_cv (lays_b (l := l + 4) hS (by rw [r3.1]; omega) (by omega)) (fun d5 r5 => ?_)
    refine pc_cv (lays_b (l := l + 8) hS (by rw [r5.1]; omega) (by omega)) (fun d7 r7 => ?_)
    refine pc_cv (lays_b (l := l + 12) hS (by rw [r7.1]; omega) (by omega)) (fun d9 r9 => ?_)
    refine pc_cv (lays_b (l := l + 16) hS (by rw [r9.1]; omega) (by omega)) (fun d11 r11 => ?_)
    have hln : (dI d 328 2).toInt.toNat = l := by omega
    refine pc_some ⟨⟨fun _ => ⟨by rw [r11.1]; omega, by rw [r11.1]; omega, ?_⟩, fun z => absurd c2 z⟩, fun r j a b => ?_⟩
    · rw [hln]
      exact AP.five (b0 := bt2 d) (b1 := bt2 d3) (b2 := bt2 d5) (b3 := bt2 d7) (b4 := bt2 d9) (b5 := bt2 d11) r3.2.2 r5.2.2 r7.2.2 r9.2.2 r11.2.2
    · rw [r11.2.1 r j a b, r9.2.1 r j a b, r7.2.1 r j a b, r5.2.1 r j a b, r3.2.1 r j a b]
  · have c2 : ¬ (dI d 328 2).toInt + 20 ≤ 2000 := fun z => c (Int32.le_iff_toInt_le.mpr (by rw [q, e2]; exact z))
    exact pc_some ⟨⟨fun z => absurd z c2, fun _ => ⟨rfl, rfl, rfl⟩⟩, fun _ _ _ _ => rfl⟩
/-- both fed: alike again -/
theorem fd_tb {xs : Nat → Int32} {u v : Int32} {d0 d3 d6 : Ds} (h : TB d0) (hc : fdP sC xs (dI d0 0 1) u (dI d3 0 1) (bt1 d0) (bt1 d3)) (fc : ∀ r j, ¬ (r = 0 ∧ j = 1) → ¬ r = 1 → dI d3 r j = dI d0 r j) (hm : fdP sM8 xs (dI d3 328 2) v (dI d6 328 2) (bt2 d3) (bt2 d6)) (fm : ∀ r j, ¬ (r = 328 ∧ j = 2) → ¬ r = 329 → dI d6 r j = dI d3 r j) : u = v ∧ TB d6 := by
  obtain ⟨t1, t2, t3⟩ := h
  have l3 : dI d3 328 2 = dI d0 0 1 := by rw [fc 328 2 (by decide) (by decide)]; exact t1.symm
  have b3 : bt2 d3 = bt2 d0 := funext (fun j => fc 329 j (by omega) (by decide))
  have l6 : dI d6 0 1 = dI d3 0 1 := fm 0 1 (by decide) (by decide)
  have b6 : bt1 d6 = bt1 d3 := funext (fun j => fm 1 j (by omega) (by decide))
  rw [l3, b3] at hm
  by_cases z : (dI d0 0 1).toInt + 20 ≤ 2000
  · obtain ⟨a1, a2, a3, a4⟩ := hc.1 z
    obtain ⟨c1, c2, c3, c4⟩ := hm.1 z
    have lo := t2.1
    have hi := t2.2
    refine ⟨Int32.toInt_inj.mp (by omega), ?_, ?_, fun j hj => ?_⟩
    · rw [l6]
      exact Int32.toInt_inj.mp (by omega)
    · rw [l6]
      exact ⟨by omega, by omega⟩
    · rw [l6] at hj
      show bt1 d6 j = bt2 d6 j ∧ byr (bt1 d6 j)
      rw [b6]
      by_cases q : (j : Int) < (dI d0 0 1).toInt
      · rw [a3 j (by omega), c3 j (by omega)]
        exact t3 j q
      · obtain ⟨i, k, hi5, hk4, e⟩ : ∃ i k, i < 5 ∧ k < 4 ∧ j = (dI d0 0 1).toInt.toNat + 4 * i + k := ⟨(j - (dI d0 0 1).toInt.toNat) / 4, (j - (dI d0 0 1).toInt.toNat) % 4, by omega, by omega, by omega⟩
        subst e
        rw [a4 i k hi5 hk4, c4 i k hi5 hk4]
        have s := sCM (xs i) (yN_i hk4)
        exact ⟨s.1, by rw [s.1]; exact s.2⟩
  · obtain ⟨a1, a2, a3⟩ := hc.2 z
    obtain ⟨c1, c2, c3⟩ := hm.2 z
    refine ⟨a1.trans c1.symm, by rw [l6, a2, c2], by rw [l6, a2]; exact t2, fun j hj => ?_⟩
    rw [l6, a2] at hj
    show bt1 d6 j = bt2 d6 j ∧ byr (bt1 d6 j)
    rw [b6, a3, c3]
    exact t3 j hj
/-! both tapes through the other calls -/
theorem ta_20 : cls 1 = 20 := by decide +kernel
theorem ta_48 : cls 329 = 48 := by decide +kernel
theorem tb_frm {M : Nat} {b : Nat → Int} {d0 d : Ds} (h : Inv M b d0 d) (h1 : Nat.testBit M (cdn 10 1) = false) (h2 : Nat.testBit M (cdn 11 2) = false) (h3 : Nat.testBit M 1280 = false) (h4 : Nat.testBit M 3072 = false) (t : TB d0) : TB d := by
  have a1 : dI d 0 1 = dI d0 0 1 := rdqc h km_10 h1
  have a2 : dI d 328 2 = dI d0 328 2 := rdqc h mo_11 h2
  have a3 : ∀ j, dI d 1 j = dI d0 1 j := fun j => h.2.1 1 j (by rw [ta_20, cdn, if_neg (by decide), if_neg (by decide)]; exact h3)
  have a4 : ∀ j, dI d 329 j = dI d0 329 j := fun j => h.2.1 329 j (by rw [ta_48, cdn, if_neg (by decide), if_neg (by decide)]; exact h4)
  obtain ⟨t1, t2, t3⟩ := t
  refine ⟨by rw [a1, a2]; exact t1, by rw [a1]; exact t2, fun j hj => ?_⟩
  rw [a1] at hj
  rw [a3, a4]
  exact t3 j hj
/-- nothing on either -/
theorem tb_0 {d : Ds} (h : iv (dI d 0 1) 0 0) (k : iv (dI d 328 2) 0 0) : TB d := ⟨iv_0 h k, ⟨h.1, by have := h.2; omega⟩, fun j hj => by have := h.2; omega⟩
theorem back_b {g : Gs} {x1 : Int32} {d : Ds} : pc (fX11_back 10000 g 0 x1 d) (fun u d' => bkA x1 (dI d 0 1) u (dI d' 0 1) ∧ ∀ r j, ¬ (r = 0 ∧ j = 1) → dI d' r j = dI d r j) := by
  have j12 : ¬ (¬ x1 < 0 ∧ x1 ≤ dI d 0 1) → pc (fX11_back_J12 10000 g 0 x1 d) (fun u d' => bkA x1 (dI d 0 1) u (dI d' 0 1) ∧ ∀ r j, ¬ (r = 0 ∧ j = 1) → dI d' r j = dI d r j) := by
    intro h
    unfold fX11_back_J12
    exact pc_some ⟨⟨by rw [if_neg h], by rw [if_neg h]⟩, fun _ _ _ => rfl⟩
  unfold fX11_back
  refine pc_if (fun c => j12 (fun z => z.1 c)) (fun c => ?_)
  refine pc_gd (fun _ => ?_)
  refine pc_if (fun c2 => ?_) (fun c2 => j12 (fun z => c2 z.2))
  refine pc_bd (fun d4 e4 => ?_)
  have q : dI d4 0 1 = dI d 0 1 - x1 := by rw [e4, sI_rd, if_pos ⟨rfl, rfl⟩]
  exact pc_some ⟨⟨by rw [q, if_pos ⟨c, c2⟩], by rw [q, if_pos ⟨c, c2⟩]⟩, fun r j h => by rw [e4, sI_rd, if_neg h]⟩
theorem backm_b {g : Gs} {x1 : Int32} {d : Ds} : pc (fX12_back 10000 g 328 x1 d) (fun u d' => bkA x1 (dI d 328 2) u (dI d' 328 2) ∧ ∀ r j, ¬ (r = 328 ∧ j = 2) → dI d' r j = dI d r j) := by
  have j12 : ¬ (¬ x1 < 0 ∧ x1 ≤ dI d 328 2) → pc (fX12_back_J12 10000 g 328 x1 d) (fun u d' => bkA x1 (dI d 328 2) u (dI d' 328 2) ∧ ∀ r j, ¬ (r = 328 ∧ j = 2) → dI d' r j = dI d r j) := by
    intro h
    unfold fX12_back_J12
    exact pc_some ⟨⟨by rw [if_neg h], by rw [if_neg h]⟩, fun _ _ _ => rfl⟩
  unfold fX12_back
  refine pc_if (fun c => j12 (fun z => z.1 c)) (fun c => ?_)
  refine pc_gd (fun _ => ?_)
  refine pc_if (fun c2 => ?_) (fun c2 => j12 (fun z => c2 z.2))
  refine pc_bd (fun d4 e4 => ?_)
  have q : dI d4 328 2 = dI d 328 2 - x1 := by rw [e4, sI_rd, if_pos ⟨rfl, rfl⟩]
  exact pc_some ⟨⟨by rw [q, if_pos ⟨c, c2⟩], by rw [q, if_pos ⟨c, c2⟩]⟩, fun r j h => by rw [e4, sI_rd, if_neg h]⟩
/-- both gone back: alike again -/
theorem bk_tb {x u v : Int32} {d0 d3 d6 : Ds} (h : TB d0) (hc : bkA x (dI d0 0 1) u (dI d3 0 1)) (fc : ∀ r j, ¬ (r = 0 ∧ j = 1) → dI d3 r j = dI d0 r j) (hm : bkA x (dI d3 328 2) v (dI d6 328 2)) (fm : ∀ r j, ¬ (r = 328 ∧ j = 2) → dI d6 r j = dI d3 r j) : u = v ∧ TB d6 := by
  have e0 : (0 : Int32).toInt = 0 := by decide
  obtain ⟨t1, t2, t3⟩ := h
  have l3 : dI d3 328 2 = dI d0 0 1 := by rw [fc 328 2 (by decide)]; exact t1.symm
  rw [l3] at hm
  obtain ⟨q1, q2⟩ := hc.u hm
  have l6 : dI d6 0 1 = dI d3 0 1 := fm 0 1 (by decide)
  have bnd : 0 ≤ (dI d3 0 1).toInt ∧ (dI d3 0 1).toInt ≤ (dI d0 0 1).toInt := by
    have lo := t2.1
    have hi := t2.2
    rw [hc.2]
    by_cases z : ¬ x < 0 ∧ x ≤ dI d0 0 1
    · rw [if_pos z]
      have x0 := Int32.le_iff_toInt_le.mp (nlt z.1)
      have x1 := Int32.le_iff_toInt_le.mp z.2
      rw [z_sub (x := dI d0 0 1) (y := x) rfl rfl (by omega) (by omega)]
      omega
    · rw [if_neg z]
      omega
  have hi := t2.2
  refine ⟨q1, by rw [l6]; exact q2, by rw [l6]; exact ⟨bnd.1, by omega⟩, fun j hj => ?_⟩
  rw [l6] at hj
  rw [fm 1 j (by omega), fm 329 j (by omega), fc 1 j (by omega), fc 329 j (by omega)]
  exact t3 j (by omega)
