/-! the model's read, all that it leaves -/
theorem pc_and {α : Type} {x : Option (α × Ds)} {P Q : α → Ds → Prop} (h : pc x P) (k : pc x Q) : pc x (fun a d => P a d ∧ Q a d) := fun a d e => ⟨h a d e, k a d e⟩
/-- no token ahead of the one where it stands is the end -/
def GT (K : Nat → Int32) (x : Nat × Int32) : Prop := ∀ i, i < x.1 → ¬ K i = 0
section NZ
variable {K : Nat → Int32} {x : Nat × Int32}
theorem pS_nz (g : GT K x) (h : x.2 = 0 → ¬ K x.1 = 0) : GT K (pS x) := by
  unfold pS
  by_cases q : x.2 = 0
  · rw [if_pos q]
    by_cases q4 : x.1 = 400
    · rw [if_pos q4]
      exact fun i hi => g i hi
    · rw [if_neg q4]
      intro i hi
      dsimp only at hi
      by_cases y : i = x.1
      · rw [y]
        exact h q
      · exact g i (by omega)
  · rw [if_neg q]
    exact g
theorem mS_nz {k : Int32} (hk : ¬ k = 0) (g : GT K x) : GT K (mS K k x) := by
  unfold mS
  by_cases q : x.2 = 0
  · rw [if_pos q]
    by_cases y : K x.1 = k
    · rw [if_pos y]
      exact pS_nz g (fun _ => by rw [y]; exact hk)
    · rw [if_neg y]
      exact fun i hi => g i hi
  · rw [if_neg q]
    exact g
theorem lmS_nz (g : GT K x) : GT K (lmS K x) := by
  unfold lmS
  by_cases q : x.2 = 0
  · rw [if_pos q]
    by_cases y : K x.1 = 33 ∨ K x.1 = 32
    · rw [if_pos y]
      refine pS_nz g (fun _ => ?_)
      rcases y with y | y <;> rw [y] <;> decide
    · rw [if_neg y]
      exact fun i hi => g i hi
  · rw [if_neg q]
    exact g
theorem dS_nz (g : GT K x) : GT K (dS K x) := by
  have e0 : (0 : Int32).toInt = 0 := by decide
  unfold dS
  by_cases q : x.2 = 0
  · rw [if_pos q]
    by_cases y : (K x.1).toInt < 31 ∨ 39 < (K x.1).toInt
    · rw [if_pos y]
      exact fun i hi => g i hi
    · rw [if_neg y]
      have gp : GT K (pS x) := pS_nz g (fun _ z => by rw [z, e0] at y; omega)
      by_cases y1 : K x.1 = 35 ∨ K x.1 = 36
      · rw [if_pos y1]
        exact gp
      · rw [if_neg y1]
        have a2 := mS_nz (k := 2) (by decide) gp
        by_cases y2 : K x.1 = 37
        · rw [if_pos y2]
          exact mS_nz (by decide) (lmS_nz a2)
        · rw [if_neg y2]
          by_cases y3 : K x.1 = 38
          · rw [if_pos y3]
            exact mS_nz (by decide) a2
          · rw [if_neg y3]
            exact a2
  · rw [if_neg q]
    exact g
theorem iS_nz : ∀ k {x : Nat × Int32}, GT K x → GT K (iS K k x) := by
  intro k
  induction k with
  | zero =>
    intro x g
    unfold iS
    split
    · exact fun i hi => g i hi
    · exact g
  | succ k ih =>
    intro x g
    unfold iS
    split
    · rename_i h
      exact ih (pS_nz g (fun _ => by rw [h.2]; decide))
    · exact g
theorem lS_nz {c : Int32} (g : GT K x) : GT K (lS K c x) := by
  have m2 : ∀ {x : Nat × Int32}, GT K x → GT K (mS K 2 x) := fun g => mS_nz (by decide) g
  unfold lS
  split
  · exact g
  · split
    · exact dS_nz (m2 (m2 g))
    · split
      · exact m2 (m2 g)
      · split
        · exact iS_nz 7 (m2 g)
        · exact m2 g
theorem tS_nz {a b T : Nat} (g : GT K (T, 0)) : GT K (tS K a b T) := by
  have e0 : (0 : Int32).toInt = 0 := by decide
  unfold tS
  by_cases y : (K T).toInt ≤ 20 ∨ 30 < (K T).toInt
  · rw [if_pos y]
    exact fun i hi => g i hi
  · rw [if_neg y]
    split
    · exact fun i hi => g i hi
    · exact mS_nz (by decide) (lS_nz (pS_nz g (fun _ z => by dsimp only at z; rw [z, e0] at y; omega)))
theorem sx_nz : ∀ i, GT K (sx K i).1 := by
  intro i
  induction i with
  | zero =>
    show GT K (mS K 4 (mS K 2 (mS K 2 (mS K 20 (0, 0)))))
    exact mS_nz (by decide) (mS_nz (by decide) (mS_nz (by decide) (mS_nz (by decide) (fun i hi => absurd hi (Nat.not_lt_zero i)))))
  | succ i ih =>
    by_cases h : (sx K i).1.2 = 0 ∧ ¬ K (sx K i).1.1 = 0
    · have ex : sx K (i + 1) = (tS K (sx K i).2.1 (sx K i).2.2 (sx K i).1.1, (sx K i).2.1 + (if K (sx K i).1.1 = 29 then 1 else 0), (sx K i).2.2 + (if K (sx K i).1.1 = 30 then 1 else 0)) := if_pos h
      rw [ex]
      exact tS_nz (fun j hj => ih j hj)
    · have ex : sx K (i + 1) = sx K i := if_neg h
      rw [ex]
      exact ih
end NZ
/-- a fresh row behind what a text tells -/
def frv (j : Nat) : Int32 := if (379 ≤ j ∧ j < 451 ∧ (j - 379) % 3 < 2) ∨ (507 ≤ j ∧ j < 531) ∨ j = 454 ∨ j = 455 ∨ j = 456 ∨ j = 458 then -1 else 0
def FRV (d : Ds) : Prop := (∀ j, 352 ≤ j → j < 9178 → dI d 336 j = frv j) ∧ ∀ k, k < 24 → dF d 338 k = FP.fconst0
theorem startsAnew_y {g : Gs} (hS : Shp g) {d : Ds} : pc (fX12_startsAnew 10000 g 328 d) (fun _ d' => FRV d' ∧ ∀ r j, ¬ (r = 336 ∧ 352 ≤ j) → dI d' r j = dI d r j) := by
  have e1 : (1 : Int32).toInt = 1 := by decide
  have e3 : (3 : Int32).toInt = 3 := by decide
  have e379 : (379 : Int32).toInt = 379 := by decide
  have e507 : (507 : Int32).toInt = 507 := by decide
  have e24 : (24 : Int32).toInt = 24 := by decide
  have e9178 : (9178 : Int32).toInt = 9178 := by decide
  unfold fX12_startsAnew fX12_startsAnew_L4
  refine pc_lp (fun (a : Int32 × Ds) => ∃ k : Nat, 352 ≤ k ∧ k ≤ 9178 ∧ a.1.toInt = (k : Int) ∧ (∀ j, 352 ≤ j → j < k → dI a.2 336 j = 0) ∧ ∀ r j, ¬ (r = 336 ∧ 352 ≤ j) → dI a.2 r j = dI d r j) ?_ 10000 (352, d) ⟨352, by decide, by decide, (by decide : (352 : Int32).toInt = ((352 : Nat) : Int)), fun j h1 h2 => by omega, fun _ _ _ => rfl⟩
  rintro K ⟨y1, dd⟩ ⟨k, hk0, hk, hy, hz, hf⟩ hK
  dsimp only at hy hz hf hK ⊢
  unfold fX12_startsAnew_B4
  refine pc_if (fun q => ?_) (fun q => ?_)
  · have q2 := Int32.le_iff_toInt_le.mp q
    unfold fX12_startsAnew_L26
    refine pc_lp (fun (a : Int32 × Ds) => ∃ k : Nat, k ≤ 24 ∧ a.1.toInt = (k : Int) ∧ (∀ j, 352 ≤ j → j < 9178 → dI a.2 336 j = if (379 ≤ j ∧ j < 379 + 3 * k ∧ (j - 379) % 3 < 2) ∨ (507 ≤ j ∧ j < 507 + k) then -1 else 0) ∧ (∀ j, j < k → dF a.2 338 j = FP.fconst0) ∧ ∀ r j, ¬ (r = 336 ∧ 352 ≤ j) → dI a.2 r j = dI d r j) ?_ 10000 (0, dd) ⟨0, by decide, (by decide : (0 : Int32).toInt = ((0 : Nat) : Int)), fun j h1 h2 => ?_, fun j hj => absurd hj (Nat.not_lt_zero j), hf⟩
    · rintro K2 ⟨y, de⟩ ⟨k2, hk2, hy2, hv, hs, hf2⟩ hK2
      dsimp only at hy2 hv hs hf2 hK2 ⊢
      unfold fX12_startsAnew_B26
      refine pc_if (fun q3 => ?_) (fun q3 => ?_)
      · have q4 := Int32.le_iff_toInt_le.mp q3
        have k24 : k2 = 24 := by omega
        subst k24
        refine pc_gd (fun _ => pc_ob (fun r e => ?_))
        have := gq hS (e := 336) (by decide +kernel) e
        subst this
        refine pc_gd (fun _ => pc_gd (fun _ => pc_bd (fun d7 e7 => pc_gd (fun _ => pc_bd (fun d9 e9 => pc_gd (fun _ => pc_bd (fun d11 e11 => pc_gd (fun _ => pc_bd (fun d13 e13 => pc_some ⟨⟨fun j h1 h2 => ?_, fun j hj => ?_⟩, fun r j h => ?_⟩)))))))))
        · rw [tn (y := 454) (p := 454) (by decide)] at e7
          rw [tn (y := 455) (p := 455) (by decide)] at e9
          rw [tn (y := 456) (p := 456) (by decide)] at e11
          rw [tn (y := 458) (p := 458) (by decide)] at e13
          unfold frv
          by_cases z : j = 454 ∨ j = 455 ∨ j = 456 ∨ j = 458
          · rw [if_pos (Or.inr (Or.inr z))]
            rcases z with z | z | z | z <;> subst z
            · rw [rdq e13 (Or.inr (by decide)), rdq e11 (Or.inr (by decide)), rdq e9 (Or.inr (by decide)), e7, sI_rd, if_pos ⟨rfl, rfl⟩]
            · rw [rdq e13 (Or.inr (by decide)), rdq e11 (Or.inr (by decide)), e9, sI_rd, if_pos ⟨rfl, rfl⟩]
            · rw [rdq e13 (Or.inr (by decide)), e11, sI_rd, if_pos ⟨rfl, rfl⟩]
            · rw [e13, sI_rd, if_pos ⟨rfl, rfl⟩]
          · rw [rdq e13 (Or.inr (by omega)), rdq e11 (Or.inr (by omega)), rdq e9 (Or.inr (by omega)), rdq e7 (Or.inr (by omega)), hv j h1 h2]
            by_cases w : (379 ≤ j ∧ j < 379 + 3 * 24 ∧ (j - 379) % 3 < 2) ∨ (507 ≤ j ∧ j < 507 + 24)
            · rw [if_pos w, if_pos (by omega)]
            · rw [if_neg w, if_neg (by omega)]
        · subst e13
          subst e11
          subst e9
          subst e7
          exact hs j hj
        · have o : ∀ {x : Int32} {p : Nat}, x.toInt = (p : Int) → 352 ≤ p → r ≠ 336 ∨ j ≠ x.toNatClampNeg := fun hx hp => by rw [tn hx]; omega
          rw [rdq e13 (o (p := 458) (by decide) (by decide)), rdq e11 (o (p := 456) (by decide) (by decide)), rdq e9 (o (p := 455) (by decide) (by decide)), rdq e7 (o (p := 454) (by decide) (by decide))]
          exact hf2 r j h
      · have q4 := Int32.lt_iff_toInt_lt.mp (nle q3)
        have m3 := z_mul (x := 3) (y := y) e3 hy2 (by omega) (by omega)
        have a0 := z_add (x := 379) (y := 3 * y) e379 m3 (by omega) (by omega)
        have a1 := z_add a0 e1 (by omega) (by omega)
        have a5 := z_add (x := 507) (y := y) e507 hy2 (by omega) (by omega)
        refine pc_gd (fun _ => pc_ob (fun r e => ?_))
        have := gq hS (e := 338) (by decide +kernel) e
        subst this
        refine pc_gd (fun _ => pc_gd (fun _ => pc_bd (fun d18 e18 => pc_ob (fun r e => ?_))))
        have := gq hS (e := 336) (by decide +kernel) e
        subst this
        refine pc_gd (fun _ => pc_gd (fun _ => pc_bd (fun d22 e22 => pc_gd (fun _ => pc_bd (fun d24 e24' => pc_gd (fun _ => pc_bd (fun d26 e26 => pc_bd (fun u27 e27 => ?_))))))))
        rw [tn hy2] at e18
        rw [tn (p := 379 + 3 * k2) (by rw [a0]; omega)] at e22
        rw [tn (p := 379 + 3 * k2 + 1) (by rw [a1]; omega)] at e24'
        rw [tn (p := 507 + k2) (by rw [a5]; omega)] at e26
        refine hK2 _ ⟨k2 + 1, by omega, ?_, fun j h1 h2 => ?_, fun j hj => ?_, fun r j h => ?_⟩
        · dsimp only
          rw [e27, z_add hy2 e1 (by omega) (by omega)]
          omega
        · dsimp only
          by_cases z1 : j = 507 + k2
          · rw [e26, sI_rd, if_pos ⟨rfl, z1⟩, if_pos (by omega)]
          · rw [rdq e26 (Or.inr z1)]
            by_cases z2 : j = 379 + 3 * k2 + 1
            · rw [e24', sI_rd, if_pos ⟨rfl, z2⟩, if_pos (by omega)]
            · rw [rdq e24' (Or.inr z2)]
              by_cases z3 : j = 379 + 3 * k2
              · rw [e22, sI_rd, if_pos ⟨rfl, z3⟩, if_pos (by omega)]
              · rw [rdq e22 (Or.inr z3), rdqF e18, hv j h1 h2]
                by_cases w : (379 ≤ j ∧ j < 379 + 3 * k2 ∧ (j - 379) % 3 < 2) ∨ (507 ≤ j ∧ j < 507 + k2)
                · rw [if_pos w, if_pos (by omega)]
                · rw [if_neg w, if_neg (by omega)]
        · dsimp only
          subst e26
          subst e24'
          subst e22
          subst e18
          show dF (sF de 338 k2 FP.fconst0) 338 j = FP.fconst0
          rw [sF_rd]
          by_cases z : j = k2
          · rw [if_pos ⟨rfl, z⟩]
          · rw [if_neg (fun y => z y.2)]
            exact hs j (by omega)
        · dsimp only
          rw [rdq e26 (by omega), rdq e24' (by omega), rdq e22 (by omega), rdqF e18]
          exact hf2 r j h
    · dsimp only
      rw [if_neg (by omega)]
      exact hz j h1 (by omega)
  · have q2 := Int32.lt_iff_toInt_lt.mp (nle q)
    refine pc_gd (fun _ => pc_ob (fun r e => ?_))
    have := gq hS (e := 336) (by decide +kernel) e
    subst this
    refine pc_gd (fun _ => pc_gd (fun _ => pc_bd (fun d32 e32 => pc_bd (fun u33 e33 => ?_))))
    rw [tn hy] at e32
    refine hK _ ⟨k + 1, by omega, by omega, ?_, fun j h1 h2 => ?_, fun r j h => ?_⟩
    · dsimp only
      rw [e33, z_add hy e1 (by omega) (by omega)]
      omega
    · dsimp only
      rw [e32, sI_rd]
      by_cases z : j = k
      · rw [if_pos ⟨rfl, z⟩]
      · rw [if_neg (fun y => z y.2)]
        exact hz j h1 (by omega)
    · dsimp only
      rw [rdq e32 (by omega)]
      exact hf r j h
/-- the model's row as its draft has it, all else fresh, nothing held -/
def FW (d : Ds) : Prop := (∀ j, j < 352 → dI d 336 j = dI d 337 j) ∧ (∀ s, s < 3 → dI d 346 s = 0) ∧ FRV d
theorem read183_y {g : Gs} (hS : Shp g) {d : Ds} : pc (fX12_read_L183 10000 g 328 (0, d)) (fun u d' => u = 0 ∧ FW d' ∧ ∀ r j, ¬ r = 336 → ¬ r = 346 → dI d' r j = dI d r j) := by
  have e1 : (1 : Int32).toInt = 1 := by decide
  have e3 : (3 : Int32).toInt = 3 := by decide
  have e352 : (352 : Int32).toInt = 352 := by decide
  unfold fX12_read_L183
  refine pc_lp (fun (a : Int32 × Ds) => ∃ k : Nat, k ≤ 352 ∧ a.1.toInt = (k : Int) ∧ (∀ j, j < k → dI a.2 336 j = dI d 337 j) ∧ ∀ r j, ¬ r = 336 → dI a.2 r j = dI d r j) ?_ 10000 (0, d) ⟨0, by decide, (by decide : (0 : Int32).toInt = ((0 : Nat) : Int)), fun j hj => absurd hj (Nat.not_lt_zero j), fun _ _ _ => rfl⟩
  rintro K ⟨y1, dd⟩ ⟨k, hk, hy, hz, hf⟩ hK
  dsimp only at hy hz hf hK ⊢
  unfold fX12_read_B183
  refine pc_if (fun q => ?_) (fun q => ?_)
  · have q2 := Int32.le_iff_toInt_le.mp q
    refine pc_gd (fun _ => pc_cv (startsAnew_y hS) (fun d35 r => ?_))
    obtain ⟨hV, hf35⟩ := r
    unfold fX12_read_L214
    refine pc_lp (fun (a : Int32 × Ds) => ∃ k : Nat, k ≤ 3 ∧ a.1.toInt = (k : Int) ∧ (∀ s, s < k → dI a.2 346 s = 0) ∧ (∀ r j, ¬ r = 346 → dI a.2 r j = dI d35 r j) ∧ ∀ r j, dF a.2 r j = dF d35 r j) ?_ 10000 (0, d35) ⟨0, by decide, (by decide : (0 : Int32).toInt = ((0 : Nat) : Int)), fun j hj => absurd hj (Nat.not_lt_zero j), fun _ _ _ => rfl, fun _ _ => rfl⟩
    rintro K2 ⟨y, de⟩ ⟨k2, hk2, hy2, hs, hf2, hF2⟩ hK2
    dsimp only at hy2 hs hf2 hF2 hK2 ⊢
    unfold fX12_read_B214
    refine pc_if (fun q3 => ?_) (fun q3 => ?_)
    · have q4 := Int32.le_iff_toInt_le.mp q3
      refine pc_some ⟨rfl, ⟨fun j hj => ?_, fun s hs3 => hs s (by omega), fun j h1 h2 => ?_, fun j hj => ?_⟩, fun r j h1 h2 => ?_⟩
      · rw [hf2 336 j (by decide), hf2 337 j (by decide), hf35 336 j (by omega), hf35 337 j (by omega), hz j (by omega), hf 337 j (by decide)]
      · rw [hf2 336 j (by decide)]
        exact hV.1 j h1 h2
      · rw [hF2]
        exact hV.2 j hj
      · rw [hf2 r j h2, hf35 r j (fun z => h1 z.1)]
        exact hf r j h1
    · have q4 := Int32.lt_iff_toInt_lt.mp (nle q3)
      refine pc_gd (fun _ => pc_ob (fun r e => ?_))
      have := gq hS (e := 346) (by decide +kernel) e
      subst this
      refine pc_gd (fun _ => pc_gd (fun _ => pc_bd (fun d42 e42 => pc_bd (fun u43 e43 => ?_))))
      rw [tn hy2] at e42
      refine hK2 _ ⟨k2 + 1, by omega, ?_, fun s hs3 => ?_, fun r j h => ?_, fun r j => ?_⟩
      · dsimp only
        rw [e43, z_add hy2 e1 (by omega) (by omega)]
        omega
      · dsimp only
        rw [e42, sI_rd]
        by_cases z : s = k2
        · rw [if_pos ⟨rfl, z⟩]
          decide
        · rw [if_neg (fun y => z y.2)]
          exact hs s (by omega)
      · dsimp only
        rw [rdq e42 (Or.inl h)]
        exact hf2 r j h
      · dsimp only
        subst e42
        exact hF2 r j
  · have q2 := Int32.lt_iff_toInt_lt.mp (nle q)
    refine pc_gd (fun _ => pc_ob (fun r e => ?_))
    have := gq hS (e := 336) (by decide +kernel) e
    subst this
    refine pc_ob (fun r e => ?_)
    have := gq hS (e := 337) (by decide +kernel) e
    subst this
    refine pc_gd (fun _ => pc_gd (fun _ => pc_gd (fun _ => pc_gd (fun _ => pc_bd (fun d51 e51 => pc_bd (fun u52 e52 => ?_))))))
    rw [tn hy] at e51
    refine hK _ ⟨k + 1, by omega, ?_, fun j h1 => ?_, fun r j h => ?_⟩
    · dsimp only
      rw [e52, z_add hy e1 (by omega) (by omega)]
      omega
    · dsimp only
      rw [e51, sI_rd]
      by_cases z : j = k
      · rw [if_pos ⟨rfl, z⟩, z]
        exact hf 337 k (by decide)
      · rw [if_neg (fun y => z y.2)]
        exact hz j (by omega)
    · dsimp only
      rw [rdq e51 (Or.inl h)]
      exact hf r j h
theorem read91_y {g : Gs} (hS : Shp g) {dx d0 d : Ds} {Q : Int32 → Ds → Prop} (h : SMx d0 d 0) (hN : NF dx d) (hQ : ∀ i d', SMx d0 d' i → NF dx d' → stp2 (tk d0) (sx (tk d0) i) → pc (fX12_read_J113 10000 g 328 d') Q) : pc (fX12_read_L91 10000 g 328 d) Q := by
  unfold fX12_read_L91
  refine pc_lp (fun a => ∃ i, SMx d0 a i ∧ NF dx a) ?_ 10000 d ⟨0, h, hN⟩
  rintro K' dd ⟨i, hM, hN⟩ hK'
  have hM' := hM
  obtain ⟨hx, hf, fr, hc⟩ := hM'
  obtain ⟨x2, x1⟩ := XM_0 hx
  unfold fX12_read_B91
  refine pc_gd (fun _ => pc_if (fun c => ?_) (fun c => hQ i dd hM hN (fun z => c (x2.trans z.1))))
  have h2 : (sx (tk d0) i).1.2 = 0 := by rw [← x2]; exact c
  refine pc_cb (isM_x hS) (fun u d2 q => ?_)
  obtain ⟨e, hu⟩ := q
  subst e
  rw [fr.tk, x1] at hu
  rcases hu with ⟨hu, c0, c1⟩ | ⟨hu, cn⟩ <;> rw [hu]
  · exact pc_if (fun z => absurd z (by decide)) (fun _ => hQ i d2 hM hN (fun z => z.2 c1))
  · refine pc_if (fun _ => ?_) (fun z => absurd rfl z)
    have k0 : ¬ tk d0 (sx (tk d0) i).1.1 = 0 := fun z => cn ⟨c, z⟩
    obtain ⟨c4, c5⟩ := sx_c i h2
    obtain ⟨a20, a21⟩ := hc c
    refine pc_cv (pc_and (tell_x hS hf c a20 a21 c4 c5) (n_fX12_tell 10000 g d2 hS hN)) (fun d9 r => ?_)
    obtain ⟨⟨r1, r2, r3, r4⟩, rN⟩ := r
    rw [fr.tk, x1] at r1 r4
    have e : sx (tk d0) (i + 1) = (tS (tk d0) (sx (tk d0) i).2.1 (sx (tk d0) i).2.2 (sx (tk d0) i).1.1, (sx (tk d0) i).2.1 + (if tk d0 (sx (tk d0) i).1.1 = 29 then 1 else 0), (sx (tk d0) i).2.2 + (if tk d0 (sx (tk d0) i).1.1 = 30 then 1 else 0)) := if_pos ⟨h2, k0⟩
    refine hK' d9 ⟨i + 1, ⟨by rw [e]; exact r1, r2, fr.tr r3, fun z => ?_⟩, rN⟩
    obtain ⟨b1, b2⟩ := r4 z
    rw [e]
    dsimp only
    refine ⟨?_, ?_⟩
    · rw [b1]
      split <;> omega
    · rw [b2]
      split <;> omega
