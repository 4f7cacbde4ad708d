/-! held, restored, told ahead: what goes where -/
/-- the course at c' is that of d at c, as the scan has it -/
def SCC (d : Ds) (c : Nat) (d' : Ds) (c' : Nat) : Prop := dI d' c' 5 = dI d c 5 ∧ (∀ j, j < 4 → dI d' (c' + 1) j = dI d (c + 1) j) ∧ ∀ k, k < 24 → dI d' (c' + 2) k = dI d (c + 2) k ∧ dF d' (c' + 3) k = dF d (c + 3) k ∧ dI d' (c' + 4) k = dI d (c + 4) k ∧ dI d' (c' + 5) k = dI d (c + 5) k ∧ dI d' (c' + 6) k = dI d (c + 6) k
/-- a slot's bit in the class -/
def bt9 (d : Ds) (x : Int32) : Prop := ¬ ((((dI d 0 9).toUInt32 >>> (x.toUInt32 &&& Int32.toUInt32 31)).toInt32) &&& 1) = 0
section RL0
variable {d : Ds} {x1 x2 : Int32}
theorem isin_y {N : Nat} {g : Gs} {x y : Int32} : pc (fX11_isIn N g x y d) (fun u d' => d' = d ∧ (u = 0 ∧ ((x.toUInt32 >>> (y.toUInt32 &&& Int32.toUInt32 31)).toInt32 &&& 1) = 0 ∨ u = 1 ∧ ¬ ((x.toUInt32 >>> (y.toUInt32 &&& Int32.toUInt32 31)).toInt32 &&& 1) = 0)) := by
  unfold fX11_isIn fX11_isIn_J13
  exact pc_if (fun c => pc_gd (fun _ => pc_some ⟨rfl, Or.inl ⟨rfl, c⟩⟩)) (fun c => pc_gd (fun _ => pc_some ⟨rfl, Or.inr ⟨rfl, c⟩⟩))
theorem inM_y {N : Nat} {g : Gs} {x y z : Int32} : pc (fX12_in N g x y z d) (fun u d' => d' = d ∧ (u = 0 ∧ ¬ (y.toInt ≤ x.toInt ∧ x.toInt ≤ z.toInt) ∨ u = 1 ∧ y.toInt ≤ x.toInt ∧ x.toInt ≤ z.toInt)) := by
  unfold fX12_in fX12_in_J14 fX12_in_J15
  refine pc_if (fun c => pc_gd (fun _ => pc_some ⟨rfl, Or.inl ⟨rfl, ?_⟩⟩)) (fun c1 => pc_if (fun c => pc_gd (fun _ => pc_some ⟨rfl, Or.inl ⟨rfl, ?_⟩⟩)) (fun c2 => pc_gd (fun _ => pc_some ⟨rfl, Or.inr ⟨rfl, ?_⟩⟩)))
  · have := Int32.lt_iff_toInt_lt.mp c
    omega
  · have := Int32.lt_iff_toInt_lt.mp c
    omega
  · have h1 := Int32.le_iff_toInt_le.mp (nlt c1)
    have h2 := Int32.le_iff_toInt_le.mp (nlt c2)
    exact ⟨h1, h2⟩
theorem restC_y {g : Gs} (hS : Shp g) : pc (fX11_restore 10000 g 0 x1 d) (fun u d' => (u = 0 ∧ d' = d ∧ ∀ s : Nat, s < 3 → x1.toInt = (s : Int) → ¬ bt9 d x1) ∨ ∃ s : Nat, s < 3 ∧ x1.toInt = (s : Int) ∧ bt9 d x1 ∧ u = 1 ∧ SCC d (268 + 20 * s) d' 227 ∧ (∀ r j, ¬ (227 ≤ r ∧ r ≤ 246) → dI d' r j = dI d r j) ∧ ∀ r j, ¬ r = 230 → dF d' r j = dF d r j) := by
  have e0 : (0 : Int32).toInt = 0 := by decide
  have e3 : (3 : Int32).toInt = 3 := by decide
  unfold fX11_restore fX11_restore_J20
  refine pc_if (fun c => pc_some (Or.inl ⟨rfl, rfl, fun s hs h => ?_⟩)) (fun c1 => pc_if (fun c => pc_some (Or.inl ⟨rfl, rfl, fun s hs h => ?_⟩)) (fun c2 => pc_gd (fun _ => pc_cb isin_y (fun u6 d4 r => ?_))))
  · have := Int32.lt_iff_toInt_lt.mp c
    omega
  · have := Int32.le_iff_toInt_le.mp c
    omega
  have h1 := Int32.le_iff_toInt_le.mp (nlt c1)
  have h2 := Int32.lt_iff_toInt_lt.mp (nle c2)
  obtain ⟨e, hu⟩ := r
  subst e
  refine pc_if (fun q => pc_some (Or.inl ⟨rfl, rfl, fun s hs h => ?_⟩)) (fun q => ?_)
  · rcases hu with ⟨_, hu⟩ | ⟨hu, _⟩
    · exact fun z => z hu
    · rw [hu] at q
      exact absurd q (by decide)
  have hb : bt9 d4 x1 := by
    rcases hu with ⟨hu, _⟩ | ⟨_, hu⟩
    · exact absurd hu q
    · exact hu
  refine pc_ob (fun r e => ?_)
  have := gq hS (e := 227) (by decide +kernel) e
  subst this
  refine pc_ob (fun r e => ?_)
  have := gq hS (e := 267) (by decide +kernel) e
  subst this
  refine pc_gd (fun _ => pc_gd (fun _ => pc_ob (fun r e => ?_)))
  rcases (show x1.toInt = ((0 : Nat) : Int) ∨ x1.toInt = ((1 : Nat) : Int) ∨ x1.toInt = ((2 : Nat) : Int) by omega) with z | z | z
  · rw [tn z] at e
    have := gq hS (e := 268) (by decide +kernel) e
    subst this
    refine pc_gd (fun _ => pc_cv (cp_227_268 hS) (fun d14 r => pc_some (Or.inr ⟨0, by decide, z, hb, rfl, ?_, r.2.2.2.1, r.2.2.2.2⟩)))
    exact ⟨r.1, r.2.1, r.2.2.1⟩
  · rw [tn z] at e
    have := gq hS (e := 288) (by decide +kernel) e
    subst this
    refine pc_gd (fun _ => pc_cv (cp_227_288 hS) (fun d14 r => pc_some (Or.inr ⟨1, by decide, z, hb, rfl, ?_, r.2.2.2.1, r.2.2.2.2⟩)))
    exact ⟨r.1, r.2.1, r.2.2.1⟩
  · rw [tn z] at e
    have := gq hS (e := 308) (by decide +kernel) e
    subst this
    refine pc_gd (fun _ => pc_cv (cp_227_308 hS) (fun d14 r => pc_some (Or.inr ⟨2, by decide, z, hb, rfl, ?_, r.2.2.2.1, r.2.2.2.2⟩)))
    exact ⟨r.1, r.2.1, r.2.2.1⟩
theorem holdC_y {g : Gs} (hS : Shp g) : pc (fX11_hold 10000 g 0 x1 d) (fun u d' => (u = 0 ∧ d' = d ∧ ∀ s : Nat, s < 3 → ¬ x1.toInt = (s : Int)) ∨ ∃ s : Nat, s < 3 ∧ x1.toInt = (s : Int) ∧ u = 1 ∧ SCC d 227 d' (268 + 20 * s) ∧ dI d' 0 9 = (dI d 0 9 ||| ((1 : Int32) <<< (x1 &&& 31))) ∧ (∀ r j, ¬ (268 + 20 * s ≤ r ∧ r ≤ 287 + 20 * s) → ¬ (r = 0 ∧ j = 9) → dI d' r j = dI d r j) ∧ ∀ r j, ¬ r = 271 + 20 * s → dF d' r j = dF d r j) := by
  have e0 : (0 : Int32).toInt = 0 := by decide
  have e3 : (3 : Int32).toInt = 3 := by decide
  unfold fX11_hold fX11_hold_J9
  refine pc_if (fun c => pc_some (Or.inl ⟨rfl, rfl, fun s hs h => ?_⟩)) (fun c1 => pc_if (fun c2 => ?_) (fun c => pc_some (Or.inl ⟨rfl, rfl, fun s hs h => ?_⟩)))
  · have := Int32.lt_iff_toInt_lt.mp c
    omega
  · have h1 := Int32.le_iff_toInt_le.mp (nlt c1)
    have h2 := Int32.lt_iff_toInt_lt.mp c2
    have fin : ∀ {d10 d12 : Ds} {s : Nat}, s < 3 → SCC d 227 d10 (268 + 20 * s) → (∀ r j, ¬ (268 + 20 * s ≤ r ∧ r ≤ 287 + 20 * s) → dI d10 r j = dI d r j) → (∀ r j, ¬ r = 271 + 20 * s → dF d10 r j = dF d r j) → d12 = sI d10 0 9 ((dI d10 0 9) ||| ((1 : Int32) <<< (x1 &&& 31))) → SCC d 227 d12 (268 + 20 * s) ∧ dI d12 0 9 = (dI d 0 9 ||| ((1 : Int32) <<< (x1 &&& 31))) ∧ (∀ r j, ¬ (268 + 20 * s ≤ r ∧ r ≤ 287 + 20 * s) → ¬ (r = 0 ∧ j = 9) → dI d12 r j = dI d r j) ∧ ∀ r j, ¬ r = 271 + 20 * s → dF d12 r j = dF d r j := by
      intro d10 d12 s hs h h3 h4 e
      have o : ∀ r j, ¬ (r = 0 ∧ j = 9) → dI d12 r j = dI d10 r j := fun r j q => by rw [e, sI_rd, if_neg q]
      have F : ∀ r j, dF d12 r j = dF d10 r j := fun r j => by
        rw [e]
        rfl
      refine ⟨⟨?_, fun j hj => ?_, fun k hk => ?_⟩, ?_, fun r j q1 q2 => ?_, fun r j q => ?_⟩
      · rw [o _ _ (by omega)]
        exact h.1
      · rw [o _ _ (by omega)]
        exact h.2.1 j hj
      · rw [o _ _ (by omega), o _ _ (by omega), o _ _ (by omega), o _ _ (by omega), F]
        exact h.2.2 k hk
      · rw [e, sI_rd, if_pos ⟨rfl, rfl⟩, h3 0 9 (by omega)]
      · rw [o r j q2]
        exact h3 r j q1
      · rw [F]
        exact h4 r j q
    refine pc_gd (fun _ => pc_ob (fun r e => ?_))
    have := gq hS (e := 267) (by decide +kernel) e
    subst this
    refine pc_gd (fun _ => pc_gd (fun _ => pc_ob (fun r7 e7 => pc_ob (fun r e => ?_))))
    have := gq hS (e := 227) (by decide +kernel) e
    subst this
    rcases (show x1.toInt = ((0 : Nat) : Int) ∨ x1.toInt = ((1 : Nat) : Int) ∨ x1.toInt = ((2 : Nat) : Int) by omega) with z | z | z
    · rw [tn z] at e7
      have := gq hS (e := 268) (by decide +kernel) e7
      subst this
      exact pc_gd (fun _ => pc_cv (cp_268_227 hS) (fun d10 r => pc_bd (fun d12 e12 => pc_some (Or.inr ⟨0, by decide, z, rfl, fin (s := 0) (by decide) ⟨r.1, r.2.1, r.2.2.1⟩ r.2.2.2.1 r.2.2.2.2 e12⟩))))
    · rw [tn z] at e7
      have := gq hS (e := 288) (by decide +kernel) e7
      subst this
      exact pc_gd (fun _ => pc_cv (cp_288_227 hS) (fun d10 r => pc_bd (fun d12 e12 => pc_some (Or.inr ⟨1, by decide, z, rfl, fin (s := 1) (by decide) ⟨r.1, r.2.1, r.2.2.1⟩ r.2.2.2.1 r.2.2.2.2 e12⟩))))
    · rw [tn z] at e7
      have := gq hS (e := 308) (by decide +kernel) e7
      subst this
      exact pc_gd (fun _ => pc_cv (cp_308_227 hS) (fun d10 r => pc_bd (fun d12 e12 => pc_some (Or.inr ⟨2, by decide, z, rfl, fin (s := 2) (by decide) ⟨r.1, r.2.1, r.2.2.1⟩ r.2.2.2.1 r.2.2.2.2 e12⟩))))
  · have := Int32.le_iff_toInt_le.mp (nlt c)
    omega
theorem restM_y {g : Gs} (hS : Shp g) : pc (fX12_restore 10000 g 328 x1 d) (fun u d' => (u = 0 ∧ d' = d ∧ ∀ s : Nat, s < 3 → x1.toInt = (s : Int) → dI d 346 s = 0) ∨ ∃ s : Nat, s < 3 ∧ x1.toInt = (s : Int) ∧ ¬ dI d 346 s = 0 ∧ u = 1 ∧ (∀ j, j < 9178 → dI d' 336 j = dI d 344 (9178 * s + j)) ∧ (∀ k, k < 24 → dF d' 338 k = dF d 345 (24 * s + k)) ∧ (∀ r j, ¬ r = 336 → dI d' r j = dI d r j) ∧ ∀ r j, ¬ r = 338 → dF d' r j = dF d r j) := by
  have e1 : (1 : Int32).toInt = 1 := by decide
  have e0 : (0 : Int32).toInt = 0 := by decide
  have e2 : (2 : Int32).toInt = 2 := by decide
  have e24 : (24 : Int32).toInt = 24 := by decide
  have e9 : (9178 : Int32).toInt = 9178 := by decide
  unfold fX12_restore fX12_restore_J18
  refine pc_cb inM_y (fun u3 d1 r => ?_)
  obtain ⟨e, hu⟩ := r
  subst e
  refine pc_if (fun q => pc_some (Or.inl ⟨rfl, rfl, fun s hs h => ?_⟩)) (fun q => pc_gd (fun _ => pc_ob (fun r e => ?_)))
  · rcases hu with ⟨_, hu⟩ | ⟨hu, _⟩
    · omega
    · rw [hu] at q
      exact absurd q (by decide)
  have := gq hS (e := 346) (by decide +kernel) e
  subst this
  have hx : 0 ≤ x1.toInt ∧ x1.toInt ≤ 2 := by
    rcases hu with ⟨hu, _⟩ | ⟨_, h1, h2⟩
    · exact absurd hu q
    · omega
  obtain ⟨s, hs⟩ : ∃ s : Nat, x1.toInt = (s : Int) := ⟨x1.toInt.toNat, by omega⟩
  have hs3 : s < 3 := by omega
  rw [tn hs]
  refine pc_gd (fun _ => pc_gd (fun _ => pc_if (fun q => pc_some (Or.inl ⟨rfl, rfl, fun t ht h => ?_⟩)) (fun q => ?_)))
  · rw [show t = s by omega]
    exact q
  unfold fX12_restore_L22
  refine pc_lp (fun (a : Int32 × Ds) => ∃ k : Nat, k ≤ 9178 ∧ a.1.toInt = (k : Int) ∧ (∀ j, j < k → dI a.2 336 j = dI d1 344 (9178 * s + j)) ∧ (∀ r j, ¬ r = 336 → dI a.2 r j = dI d1 r j) ∧ ∀ r j, dF a.2 r j = dF d1 r j) ?_ 10000 (0, d1) ⟨0, by decide, (by decide : (0 : Int32).toInt = ((0 : Nat) : Int)), fun j hj => absurd hj (Nat.not_lt_zero j), fun _ _ _ => rfl, fun _ _ => rfl⟩
  rintro K ⟨y1, dd⟩ ⟨k, hk, hy, hz, hf, hF⟩ hK
  dsimp only at hy hz hf hF hK ⊢
  unfold fX12_restore_B22
  refine pc_if (fun q3 => ?_) (fun q3 => ?_)
  · have q4 := Int32.le_iff_toInt_le.mp q3
    unfold fX12_restore_L55
    refine pc_lp (fun (a : Int32 × Ds) => ∃ k : Nat, k ≤ 24 ∧ a.1.toInt = (k : Int) ∧ (∀ r j, dI a.2 r j = dI dd r j) ∧ (∀ j, j < k → dF a.2 338 j = dF d1 345 (24 * s + j)) ∧ ∀ r j, ¬ r = 338 → dF a.2 r j = dF d1 r j) ?_ 10000 (0, dd) ⟨0, by decide, (by decide : (0 : Int32).toInt = ((0 : Nat) : Int)), fun _ _ => rfl, fun j hj => absurd hj (Nat.not_lt_zero j), fun r j _ => hF r j⟩
    rintro K2 ⟨y, de⟩ ⟨k2, hk2, hy2, hf2, hz2, hF2⟩ hK2
    dsimp only at hy2 hf2 hz2 hF2 hK2 ⊢
    unfold fX12_restore_B55
    refine pc_if (fun q5 => ?_) (fun q5 => ?_)
    · have q6 := Int32.le_iff_toInt_le.mp q5
      exact pc_some (Or.inr ⟨s, hs3, hs, q, rfl, fun j hj => by rw [hf2]; exact hz j (by omega), fun j hj => hz2 j (by omega), fun r j h => by rw [hf2]; exact hf r j h, hF2⟩)
    · have q6 := Int32.lt_iff_toInt_lt.mp (nle q5)
      refine pc_gd (fun _ => pc_ob (fun r e => ?_))
      have := gq hS (e := 338) (by decide +kernel) e
      subst this
      refine pc_ob (fun r e => ?_)
      have := gq hS (e := 345) (by decide +kernel) e
      subst this
      refine pc_gd (fun _ => pc_gd (fun _ => pc_gd (fun _ => pc_gd (fun _ => pc_bd (fun d19 e19 => pc_bd (fun u20 e20 => ?_))))))
      have m := z_add (z_mul e24 hs (by omega) (by omega)) hy2 (by omega) (by omega)
      rw [tn hy2, tn (p := 24 * s + k2) (by rw [m]; omega)] at e19
      refine hK2 _ ⟨k2 + 1, by omega, ?_, fun r j => ?_, fun j hj => ?_, fun r j h => ?_⟩
      · dsimp only
        rw [e20, z_add hy2 e1 (by omega) (by omega)]
        omega
      · dsimp only
        rw [rdqF e19]
        exact hf2 r j
      · dsimp only
        rw [e19, sF_rd]
        by_cases z : j = k2
        · rw [if_pos ⟨rfl, z⟩, z]
          exact hF2 345 _ (by decide)
        · rw [if_neg (fun y => z y.2)]
          exact hz2 j (by omega)
      · dsimp only
        rw [e19, sF_rd, if_neg (fun y => h y.1)]
        exact hF2 r j h
  · have q4 := Int32.lt_iff_toInt_lt.mp (nle q3)
    refine pc_gd (fun _ => pc_ob (fun r e => ?_))
    have := gq hS (e := 336) (by decide +kernel) e
    subst this
    refine pc_ob (fun r e => ?_)
    have := gq hS (e := 344) (by decide +kernel) e
    subst this
    refine pc_gd (fun _ => pc_gd (fun _ => pc_gd (fun _ => pc_gd (fun _ => pc_bd (fun d28 e28 => pc_bd (fun u29 e29 => ?_))))))
    have m := z_add (z_mul e9 hs (by omega) (by omega)) hy (by omega) (by omega)
    rw [tn hy, tn (p := 9178 * s + k) (by rw [m]; omega)] at e28
    refine hK _ ⟨k + 1, by omega, ?_, fun j hj => ?_, fun r j h => ?_, fun r j => ?_⟩
    · dsimp only
      rw [e29, z_add hy e1 (by omega) (by omega)]
      omega
    · dsimp only
      rw [e28, sI_rd]
      by_cases z : j = k
      · rw [if_pos ⟨rfl, z⟩, z]
        exact hf 344 _ (by decide)
      · rw [if_neg (fun y => z y.2)]
        exact hz j (by omega)
    · dsimp only
      rw [rdq e28 (Or.inl h)]
      exact hf r j h
    · dsimp only
      rw [e28]
      exact hF r j
theorem holdM_y {g : Gs} (hS : Shp g) : pc (fX12_hold 10000 g 328 x1 d) (fun u d' => (u = 0 ∧ d' = d ∧ ∀ s : Nat, s < 3 → ¬ x1.toInt = (s : Int)) ∨ ∃ s : Nat, s < 3 ∧ x1.toInt = (s : Int) ∧ u = 1 ∧ (∀ j, j < 9178 → dI d' 344 (9178 * s + j) = dI d 336 j) ∧ (∀ k, k < 24 → dF d' 345 (24 * s + k) = dF d 338 k) ∧ ¬ dI d' 346 s = 0 ∧ (∀ r j, ¬ (r = 344 ∧ 9178 * s ≤ j ∧ j < 9178 * s + 9178) → ¬ (r = 346 ∧ j = s) → dI d' r j = dI d r j) ∧ ∀ r j, ¬ (r = 345 ∧ 24 * s ≤ j ∧ j < 24 * s + 24) → dF d' r j = dF d r j) := by
  have e1 : (1 : Int32).toInt = 1 := by decide
  have e0 : (0 : Int32).toInt = 0 := by decide
  have e2 : (2 : Int32).toInt = 2 := by decide
  have e24 : (24 : Int32).toInt = 24 := by decide
  have e9 : (9178 : Int32).toInt = 9178 := by decide
  unfold fX12_hold
  refine pc_cb inM_y (fun u3 d1 r => ?_)
  obtain ⟨e, hu⟩ := r
  subst e
  refine pc_if (fun q => pc_some (Or.inl ⟨rfl, rfl, fun s hs h => ?_⟩)) (fun q => ?_)
  · rcases hu with ⟨_, hu⟩ | ⟨hu, _⟩
    · omega
    · rw [hu] at q
      exact absurd q (by decide)
  have hx : 0 ≤ x1.toInt ∧ x1.toInt ≤ 2 := by
    rcases hu with ⟨hu, _⟩ | ⟨_, h1, h2⟩
    · exact absurd hu q
    · omega
  obtain ⟨s, hs⟩ : ∃ s : Nat, x1.toInt = (s : Int) := ⟨x1.toInt.toNat, by omega⟩
  have hs3 : s < 3 := by omega
  unfold fX12_hold_L13
  refine pc_lp (fun (a : Int32 × Ds) => ∃ k : Nat, k ≤ 9178 ∧ a.1.toInt = (k : Int) ∧ (∀ j, j < k → dI a.2 344 (9178 * s + j) = dI d1 336 j) ∧ (∀ r j, ¬ (r = 344 ∧ 9178 * s ≤ j ∧ j < 9178 * s + 9178) → dI a.2 r j = dI d1 r j) ∧ ∀ r j, dF a.2 r j = dF d1 r j) ?_ 10000 (0, d1) ⟨0, by decide, (by decide : (0 : Int32).toInt = ((0 : Nat) : Int)), fun j hj => absurd hj (Nat.not_lt_zero j), fun _ _ _ => rfl, fun _ _ => rfl⟩
  rintro K ⟨y1, dd⟩ ⟨k, hk, hy, hz, hf, hF⟩ hK
  dsimp only at hy hz hf hF hK ⊢
  unfold fX12_hold_B13
  refine pc_if (fun q3 => ?_) (fun q3 => ?_)
  · have q4 := Int32.le_iff_toInt_le.mp q3
    unfold fX12_hold_L46
    refine pc_lp (fun (a : Int32 × Ds) => ∃ k : Nat, k ≤ 24 ∧ a.1.toInt = (k : Int) ∧ (∀ r j, dI a.2 r j = dI dd r j) ∧ (∀ j, j < k → dF a.2 345 (24 * s + j) = dF d1 338 j) ∧ ∀ r j, ¬ (r = 345 ∧ 24 * s ≤ j ∧ j < 24 * s + 24) → dF a.2 r j = dF d1 r j) ?_ 10000 (0, dd) ⟨0, by decide, (by decide : (0 : Int32).toInt = ((0 : Nat) : Int)), fun _ _ => rfl, fun j hj => absurd hj (Nat.not_lt_zero j), fun r j _ => hF r j⟩
    rintro K2 ⟨y, de⟩ ⟨k2, hk2, hy2, hf2, hz2, hF2⟩ hK2
    dsimp only at hy2 hf2 hz2 hF2 hK2 ⊢
    unfold fX12_hold_B46
    refine pc_if (fun q5 => pc_gd (fun _ => pc_ob (fun r e => ?_))) (fun q5 => ?_)
    · have q6 := Int32.le_iff_toInt_le.mp q5
      have := gq hS (e := 346) (by decide +kernel) e
      subst this
      refine pc_gd (fun _ => pc_gd (fun _ => pc_bd (fun d11 e11 => pc_some (Or.inr ⟨s, hs3, hs, rfl, fun j hj => ?_, fun j hj => ?_, ?_, fun r j h1 h2 => ?_, fun r j h => ?_⟩))))
      · rw [rdq e11 (Or.inl (by decide)), hf2]
        exact hz j (by omega)
      · rw [e11]
        exact hz2 j (by omega)
      · rw [e11, sI_rd, if_pos ⟨rfl, (tn hs).symm⟩]
        decide
      · rw [tn hs] at e11
        rw [e11, sI_rd, if_neg h2, hf2]
        exact hf r j h1
      · rw [e11]
        exact hF2 r j h
    · have q6 := Int32.lt_iff_toInt_lt.mp (nle q5)
      refine pc_gd (fun _ => pc_ob (fun r e => ?_))
      have := gq hS (e := 345) (by decide +kernel) e
      subst this
      refine pc_ob (fun r e => ?_)
      have := gq hS (e := 338) (by decide +kernel) e
      subst this
      refine pc_gd (fun _ => pc_gd (fun _ => pc_gd (fun _ => pc_gd (fun _ => pc_bd (fun d19 e19 => pc_bd (fun u20 e20 => ?_))))))
      have m := z_add (z_mul e24 hs (by omega) (by omega)) hy2 (by omega) (by omega)
      rw [tn hy2, tn (p := 24 * s + k2) (by rw [m]; omega)] at e19
      refine hK2 _ ⟨k2 + 1, by omega, ?_, fun r j => ?_, fun j hj => ?_, fun r j h => ?_⟩
      · dsimp only
        rw [e20, z_add hy2 e1 (by omega) (by omega)]
        omega
      · dsimp only
        rw [rdqF e19]
        exact hf2 r j
      · dsimp only
        rw [e19, sF_rd]
        by_cases z : j = k2
        · rw [if_pos ⟨rfl, by omega⟩, z]
          exact hF2 338 _ (by omega)
        · rw [if_neg (fun y => z (by omega))]
          exact hz2 j (by omega)
      · dsimp only
        rw [e19, sF_rd, if_neg (fun y => h ⟨y.1, by omega, by omega⟩)]
        exact hF2 r j h
  · have q4 := Int32.lt_iff_toInt_lt.mp (nle q3)
    refine pc_gd (fun _ => pc_ob (fun r e => ?_))
    have := gq hS (e := 344) (by decide +kernel) e
    subst this
    refine pc_ob (fun r e => ?_)
    have := gq hS (e := 336) (by decide +kernel) e
    subst this
    refine pc_gd (fun _ => pc_gd (fun _ => pc_gd (fun _ => pc_gd (fun _ => pc_bd (fun d28 e28 => pc_bd (fun u29 e29 => ?_))))))
    have m := z_add (z_mul e9 hs (by omega) (by omega)) hy (by omega) (by omega)
    rw [tn hy, tn (p := 9178 * s + k) (by rw [m]; omega)] at e28
    refine hK _ ⟨k + 1, by omega, ?_, fun j hj => ?_, fun r j h => ?_, fun r j => ?_⟩
    · dsimp only
      rw [e29, z_add hy e1 (by omega) (by omega)]
      omega
    · dsimp only
      rw [e28, sI_rd]
      by_cases z : j = k
      · rw [if_pos ⟨rfl, by omega⟩, z]
        exact hf 336 _ (by omega)
      · rw [if_neg (fun y => z (by omega))]
        exact hz j (by omega)
    · dsimp only
      rw [e28, sI_rd, if_neg (fun y => h ⟨y.1, by omega, by omega⟩)]
      exact hf r j h
    · dsimp only
      rw [e28]
      exact hF r j
/-- told ahead: the row comes back as it was -/
theorem aheadM_y {g : Gs} (hS : Shp g) : pc (fX12_ahead 10000 g 328 x1 x2 d) (fun _ d' => (∀ j, j < 9178 → dI d' 336 j = dI d 336 j) ∧ (∀ k, k < 24 → dF d' 338 k = dF d 338 k) ∧ (∀ r j, r = 344 ∨ r = 346 → dI d' r j = dI d r j) ∧ ∀ j, dF d' 345 j = dF d 345 j) := by
  have e1 : (1 : Int32).toInt = 1 := by decide
  have e24 : (24 : Int32).toInt = 24 := by decide
  have e9 : (9178 : Int32).toInt = 9178 := by decide
  have none' : ∀ {dd : Ds} {z : Int32}, dd = d → pc (some (z, dd)) (fun _ d' => (∀ j, j < 9178 → dI d' 336 j = dI d 336 j) ∧ (∀ k, k < 24 → dF d' 338 k = dF d 338 k) ∧ (∀ r j, r = 344 ∨ r = 346 → dI d' r j = dI d r j) ∧ ∀ j, dF d' 345 j = dF d 345 j) := by
    intro dd z e
    subst e
    exact pc_some ⟨fun _ _ => rfl, fun _ _ => rfl, fun _ _ _ => rfl, fun _ => rfl⟩
  unfold fX12_ahead fX12_ahead_J26
  refine pc_cb inM_y (fun u3 d1 r => ?_)
  obtain ⟨e, _⟩ := r
  subst e
  refine pc_if (fun _ => none' rfl) (fun _ => pc_cb inM_y (fun u7 d5 r => ?_))
  obtain ⟨e, _⟩ := r
  subst e
  refine pc_if (fun _ => none' rfl) (fun _ => pc_gd (fun _ => pc_cb (P := fun _ d' => d' = d5) (by
    unfold fX12_keysMany
    exact pc_gd (fun _ => pc_ob (fun r2 _ => pc_gd (fun _ => pc_gd (fun _ => pc_gd (fun _ => pc_some rfl)))))) (fun u12 d10 e => ?_)))
  subst e
  refine pc_if (fun _ => none' rfl) (fun _ => ?_)
  unfold fX12_ahead_L30
  refine pc_lp (fun (a : Int32 × Ds) => ∃ k : Nat, k ≤ 9178 ∧ a.1.toInt = (k : Int) ∧ (∀ j, j < k → dI a.2 342 j = dI d10 336 j) ∧ (∀ r j, ¬ r = 342 → dI a.2 r j = dI d10 r j) ∧ ∀ r j, dF a.2 r j = dF d10 r j) ?_ 10000 (0, d10) ⟨0, by decide, (by decide : (0 : Int32).toInt = ((0 : Nat) : Int)), fun j hj => absurd hj (Nat.not_lt_zero j), fun _ _ _ => rfl, fun _ _ => rfl⟩
  rintro K ⟨y1, dd⟩ ⟨k, hk, hy, hz, hf, hF⟩ hK
  dsimp only at hy hz hf hF hK ⊢
  unfold fX12_ahead_B30
  refine pc_if (fun q3 => ?_) (fun q3 => ?_)
  · have q4 := Int32.le_iff_toInt_le.mp q3
    unfold fX12_ahead_L57
    refine pc_lp (fun (a : Int32 × Ds) => ∃ k : Nat, k ≤ 24 ∧ a.1.toInt = (k : Int) ∧ (∀ r j, dI a.2 r j = dI dd r j) ∧ (∀ j, j < k → dF a.2 343 j = dF d10 338 j) ∧ ∀ r j, ¬ r = 343 → dF a.2 r j = dF d10 r j) ?_ 10000 (0, dd) ⟨0, by decide, (by decide : (0 : Int32).toInt = ((0 : Nat) : Int)), fun _ _ => rfl, fun j hj => absurd hj (Nat.not_lt_zero j), fun r j _ => hF r j⟩
    rintro K2 ⟨y, de⟩ ⟨k2, hk2, hy2, hf2, hz2, hF2⟩ hK2
    dsimp only at hy2 hf2 hz2 hF2 hK2 ⊢
    unfold fX12_ahead_B57
    refine pc_if (fun q5 => ?_) (fun q5 => ?_)
    · have q6 := Int32.le_iff_toInt_le.mp q5
      -- the ticks
      unfold fX12_ahead_L83
      refine pc_lp (fun (a : Int32 × Ds) => FQM de a.2) ?_ 10000 (0, de) FQM.rf
      rintro K3 ⟨y3, df⟩ hQ hK3
      dsimp only at hQ hK3 ⊢
      unfold fX12_ahead_B83
      have j170 : ∀ {z0 : Int32} {dg : Ds}, FQM de dg → pc (fX12_ahead_J170 10000 g 328 x1 x2 z0 dg) (fun _ d' => (∀ j, j < 9178 → dI d' 336 j = dI d10 336 j) ∧ (∀ k, k < 24 → dF d' 338 k = dF d10 338 k) ∧ (∀ r j, r = 344 ∨ r = 346 → dI d' r j = dI d10 r j) ∧ ∀ j, dF d' 345 j = dF d10 345 j) := by
        intro z0 dg hQg
        unfold fX12_ahead_J170 fX12_ahead_L174
        have a342 : ∀ j, j < 9178 → dI dg 342 j = dI d10 336 j := fun j hj => by rw [hQg.1 342 j (by decide), hf2]; exact hz j (by omega)
        have a343 : ∀ j, j < 24 → dF dg 343 j = dF d10 338 j := fun j hj => by rw [hQg.2 343 j (by decide)]; exact hz2 j (by omega)
        have a44 : ∀ r j, r = 344 ∨ r = 346 → dI dg r j = dI d10 r j := fun r j h => by
          rw [hQg.1 r j (by rcases h with h | h <;> rw [h] <;> decide), hf2]
          exact hf r j (by omega)
        have a45 : ∀ j, dF dg 345 j = dF d10 345 j := fun j => by
          rw [hQg.2 345 j (by decide)]
          exact hF2 345 j (by decide)
        refine pc_lp (fun (a : Int32 × Int32 × Ds) => ∃ k : Nat, k ≤ 9178 ∧ a.2.1.toInt = (k : Int) ∧ (∀ j, j < k → dI a.2.2 336 j = dI d10 336 j) ∧ (∀ r j, ¬ r = 336 → dI a.2.2 r j = dI dg r j) ∧ ∀ r j, dF a.2.2 r j = dF dg r j) ?_ 10000 (z0, 0, dg) ⟨0, by decide, (by decide : (0 : Int32).toInt = ((0 : Nat) : Int)), fun j hj => absurd hj (Nat.not_lt_zero j), fun _ _ _ => rfl, fun _ _ => rfl⟩
        rintro K4 ⟨y4, y5, dh⟩ ⟨k4, hk4, hy4, hz4, hf4, hF4⟩ hK4
        dsimp only at hy4 hz4 hf4 hF4 hK4 ⊢
        unfold fX12_ahead_B174
        refine pc_if (fun q7 => ?_) (fun q7 => ?_)
        · have q8 := Int32.le_iff_toInt_le.mp q7
          unfold fX12_ahead_L205
          refine pc_lp (fun (a : Int32 × Int32 × Ds) => ∃ k : Nat, k ≤ 24 ∧ a.2.1.toInt = (k : Int) ∧ (∀ r j, dI a.2.2 r j = dI dh r j) ∧ (∀ j, j < k → dF a.2.2 338 j = dF d10 338 j) ∧ ∀ r j, ¬ r = 338 → dF a.2.2 r j = dF dg r j) ?_ 10000 (y4, 0, dh) ⟨0, by decide, (by decide : (0 : Int32).toInt = ((0 : Nat) : Int)), fun _ _ => rfl, fun j hj => absurd hj (Nat.not_lt_zero j), fun r j _ => hF4 r j⟩
          rintro K6 ⟨y6, y7, di⟩ ⟨k6, hk6, hy6, hf6, hz6, hF6⟩ hK6
          dsimp only at hy6 hf6 hz6 hF6 hK6 ⊢
          unfold fX12_ahead_B205
          refine pc_if (fun q9 => ?_) (fun q9 => ?_)
          · have q10 := Int32.le_iff_toInt_le.mp q9
            refine pc_some ⟨fun j hj => by rw [hf6]; exact hz4 j (by omega), fun j hj => hz6 j (by omega), fun r j h => ?_, fun j => ?_⟩
            · rw [hf6, hf4 r j (by omega)]
              exact a44 r j h
            · rw [hF6 345 j (by decide)]
              exact a45 j
          · have q10 := Int32.lt_iff_toInt_lt.mp (nle q9)
            refine pc_gd (fun _ => pc_ob (fun r e => ?_))
            have := gq hS (e := 338) (by decide +kernel) e
            subst this
            refine pc_ob (fun r e => ?_)
            have := gq hS (e := 343) (by decide +kernel) e
            subst this
            refine pc_gd (fun _ => pc_gd (fun _ => pc_gd (fun _ => pc_gd (fun _ => pc_bd (fun d36 e36 => pc_bd (fun u37 e37 => ?_))))))
            rw [tn hy6] at e36
            refine hK6 _ ⟨k6 + 1, by omega, ?_, fun r j => ?_, fun j hj => ?_, fun r j h => ?_⟩
            · dsimp only
              rw [e37, z_add hy6 e1 (by omega) (by omega)]
              omega
            · dsimp only
              rw [rdqF e36]
              exact hf6 r j
            · dsimp only
              rw [e36, sF_rd]
              by_cases z : j = k6
              · rw [if_pos ⟨rfl, z⟩, hF6 343 _ (by decide), z]
                exact a343 k6 (by omega)
              · rw [if_neg (fun y => z y.2)]
                exact hz6 j (by omega)
            · dsimp only
              rw [e36, sF_rd, if_neg (fun y => h y.1)]
              exact hF6 r j h
        · have q8 := Int32.lt_iff_toInt_lt.mp (nle q7)
          refine pc_gd (fun _ => pc_ob (fun r e => ?_))
          have := gq hS (e := 336) (by decide +kernel) e
          subst this
          refine pc_ob (fun r e => ?_)
          have := gq hS (e := 342) (by decide +kernel) e
          subst this
          refine pc_gd (fun _ => pc_gd (fun _ => pc_gd (fun _ => pc_gd (fun _ => pc_bd (fun d45 e45 => pc_bd (fun u46 e46 => ?_))))))
          rw [tn hy4] at e45
          refine hK4 _ ⟨k4 + 1, by omega, ?_, fun j hj => ?_, fun r j h => ?_, fun r j => ?_⟩
          · dsimp only
            rw [e46, z_add hy4 e1 (by omega) (by omega)]
            omega
          · dsimp only
            rw [e45, sI_rd]
            by_cases z : j = k4
            · rw [if_pos ⟨rfl, z⟩, hf4 342 _ (by decide), z]
              exact a342 k4 (by omega)
            · rw [if_neg (fun y => z y.2)]
              exact hz4 j (by omega)
          · dsimp only
            rw [rdq e45 (Or.inl h)]
            exact hf4 r j h
          · dsimp only
            rw [e45]
            exact hF4 r j
      refine pc_if (fun _ => pc_gd (fun _ => pc_cv (wM_fX12_laysSent 10000 g df hS hQ) (fun d18 r18 => ?_))) (fun _ => pc_gd (fun _ => pc_cv (wM_fX12_ticks 10000 g df hS hQ) (fun d57 r57 => pc_bd (fun u59 _ => hK3 _ r57))))
      refine pc_if (fun _ => pc_ob (fun r50 _ => pc_gd (fun _ => pc_gd (fun _ => pc_ob (fun r53 _ => pc_gd (fun _ => pc_gd (fun _ => j170 r18))))))) (fun _ => pc_if (fun _ => j170 r18) (fun _ => pc_if (fun _ => j170 r18) (fun _ => pc_if (fun _ => pc_cb (wM_fX12_activeLayers 10000 g d18 hS r18) (fun u49 d47 r47 => j170 r47)) (fun _ => pc_ob (fun r24 _ => pc_gd (fun _ => pc_gd (fun _ => j170 r18)))))))
    · have q6 := Int32.lt_iff_toInt_lt.mp (nle q5)
      refine pc_gd (fun _ => pc_ob (fun r e => ?_))
      have := gq hS (e := 343) (by decide +kernel) e
      subst this
      refine pc_ob (fun r e => ?_)
      have := gq hS (e := 338) (by decide +kernel) e
      subst this
      refine pc_gd (fun _ => pc_gd (fun _ => pc_gd (fun _ => pc_gd (fun _ => pc_bd (fun d67 e67 => pc_bd (fun u68 e68 => ?_))))))
      rw [tn hy2] at e67
      refine hK2 _ ⟨k2 + 1, by omega, ?_, fun r j => ?_, fun j hj => ?_, fun r j h => ?_⟩
      · dsimp only
        rw [e68, z_add hy2 e1 (by omega) (by omega)]
        omega
      · dsimp only
        rw [rdqF e67]
        exact hf2 r j
      · dsimp only
        rw [e67, sF_rd]
        by_cases z : j = k2
        · rw [if_pos ⟨rfl, z⟩, z]
          exact hF2 338 _ (by decide)
        · rw [if_neg (fun y => z y.2)]
          exact hz2 j (by omega)
      · dsimp only
        rw [e67, sF_rd, if_neg (fun y => h y.1)]
        exact hF2 r j h
  · have q4 := Int32.lt_iff_toInt_lt.mp (nle q3)
    refine pc_gd (fun _ => pc_ob (fun r e => ?_))
    have := gq hS (e := 342) (by decide +kernel) e
    subst this
    refine pc_ob (fun r e => ?_)
    have := gq hS (e := 336) (by decide +kernel) e
    subst this
    refine pc_gd (fun _ => pc_gd (fun _ => pc_gd (fun _ => pc_gd (fun _ => pc_bd (fun d76 e76 => pc_bd (fun u77 e77 => ?_))))))
    rw [tn hy] at e76
    refine hK _ ⟨k + 1, by omega, ?_, fun j hj => ?_, fun r j h => ?_, fun r j => ?_⟩
    · dsimp only
      rw [e77, z_add hy e1 (by omega) (by omega)]
      omega
    · dsimp only
      rw [e76, sI_rd]
      by_cases z : j = k
      · rw [if_pos ⟨rfl, z⟩, z]
        exact hf 336 _ (by decide)
      · rw [if_neg (fun y => z y.2)]
        exact hz j (by omega)
    · dsimp only
      rw [rdq e76 (Or.inl h)]
      exact hf r j h
    · dsimp only
      rw [e76]
      exact hF r j
end RL0
