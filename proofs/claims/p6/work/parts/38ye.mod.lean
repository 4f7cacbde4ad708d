section MNS
variable {t : Nat → Int32} {n s : Nat} {d : Ds}
theorem begins_x {g : Gs} : pc (fX12_begins 10000 g 337 d) (fun _ d' => (∀ r i, ¬ r = 337 → dI d' r i = dI d r i) ∧ (∀ j, j = 2 ∨ j = 10 ∨ j = 11 ∨ 300 ≤ j → j < 352 → dI d' 337 j = 0) ∧ dI d' 337 4 = 2) := by
  have e1 : (1 : Int32).toInt = 1 := by decide
  have e2 : (2 : Int32).toInt = 2 := by decide
  have e3 : (3 : Int32).toInt = 3 := by decide
  have e12 : (12 : Int32).toInt = 12 := by decide
  have e96 : (96 : Int32).toInt = 96 := by decide
  have e352 : (352 : Int32).toInt = 352 := by decide
  unfold fX12_begins fX12_begins_L2
  refine pc_lp (fun (a : Int32 × Ds) => ∃ k : Nat, k ≤ 352 ∧ a.1.toInt = (k : Int) ∧ (∀ r i, ¬ r = 337 → dI a.2 r i = dI d r i) ∧ ∀ j, j < k → dI a.2 337 j = 0) ?_ 10000 (0, d) ⟨0, by decide, (by decide : (0 : Int32).toInt = ((0 : Nat) : Int)), fun _ _ _ => rfl, fun j hj => absurd hj (Nat.not_lt_zero _)⟩
  rintro K ⟨y1, dd⟩ ⟨k, hk, hy, hf, hz⟩ hK
  dsimp only at hy hf hz hK ⊢
  unfold fX12_begins_B2
  refine pc_if (fun q => ?_) (fun q => ?_)
  · have q2 := Int32.le_iff_toInt_le.mp q
    refine pc_gd (fun _ => pc_gd (fun _ => pc_bd (fun d4 e4 => pc_gd (fun _ => pc_bd (fun d6 e6 => pc_gd (fun _ => pc_bd (fun d8 e8 => pc_gd (fun _ => pc_bd (fun d10 e10 => pc_gd (fun _ => pc_bd (fun d12 e12' => pc_gd (fun _ => pc_bd (fun d14 e14 => ?_)))))))))))))
    have f14 : ∀ r i, ¬ r = 337 → dI d14 r i = dI d r i := fun r i h => by rw [rdq e14 (Or.inl h), rdq e12' (Or.inl h), rdq e10 (Or.inl h), rdq e8 (Or.inl h), rdq e6 (Or.inl h), rdq e4 (Or.inl h)]; exact hf r i h
    have z14 : ∀ j, j = 2 ∨ j = 10 ∨ j = 11 ∨ 300 ≤ j → j < 352 → dI d14 337 j = 0 := fun j hj h3 => by
      have nn : ∀ {x : Int32} {p : Nat}, x.toInt = (p : Int) → 4 ≤ p ∧ p < 10 → ¬ j = x.toNatClampNeg := fun hx hp => by rw [tn hx]; omega
      rw [rdq e14 (Or.inr (nn (p := 9) (by decide) (by decide))), rdq e12' (Or.inr (nn (p := 8) (by decide) (by decide))), rdq e10 (Or.inr (nn (p := 7) (by decide) (by decide))), rdq e8 (Or.inr (nn (p := 6) (by decide) (by decide))), rdq e6 (Or.inr (nn (p := 5) (by decide) (by decide))), rdq e4 (Or.inr (nn (p := 4) (by decide) (by decide)))]
      exact hz j (by omega)
    have v14 : dI d14 337 4 = 2 := by rw [rdq e14 (Or.inr (by decide)), rdq e12' (Or.inr (by decide)), rdq e10 (Or.inr (by decide)), rdq e8 (Or.inr (by decide)), rdq e6 (Or.inr (by decide)), e4, sI_rd, if_pos ⟨rfl, by decide⟩]
    unfold fX12_begins_L52
    refine pc_lp (fun (a : Int32 × Ds) => ∃ k : Nat, k ≤ 96 ∧ a.1.toInt = (k : Int) ∧ (∀ r i, ¬ r = 337 → dI a.2 r i = dI d r i) ∧ (∀ j, j = 2 ∨ j = 10 ∨ j = 11 ∨ 300 ≤ j → j < 352 → dI a.2 337 j = 0) ∧ dI a.2 337 4 = 2) ?_ 10000 (0, d14) ⟨0, by decide, (by decide : (0 : Int32).toInt = ((0 : Nat) : Int)), f14, z14, v14⟩
    rintro K2 ⟨y, de⟩ ⟨k2, hk2, hy2, hf2, hz2, hv2⟩ hK2
    dsimp only at hy2 hf2 hz2 hv2 hK2 ⊢
    unfold fX12_begins_B52
    refine pc_if (fun _ => pc_some ⟨hf2, hz2, hv2⟩) (fun q3 => ?_)
    have q4 := Int32.lt_iff_toInt_lt.mp (nle q3)
    have m3 := z_mul (x := 3) (y := y) e3 hy2 (by omega) (by omega)
    have a12 := z_add (x := 12) (y := 3 * y) e12 m3 (by omega) (by omega)
    have i0 : ((12 : Int32) + ((3 : Int32) * y)).toNatClampNeg = 12 + 3 * k2 := tn (by rw [a12]; omega)
    have i1 : (((12 : Int32) + ((3 : Int32) * y)) + 1).toNatClampNeg = 12 + 3 * k2 + 1 := tn (by rw [z_add a12 e1 (by omega) (by omega)]; omega)
    have i2 : (((12 : Int32) + ((3 : Int32) * y)) + 2).toNatClampNeg = 12 + 3 * k2 + 2 := tn (by rw [z_add a12 e2 (by omega) (by omega)]; omega)
    have j76 : ∀ {v : Int32}, pc (fX12_begins_J76 10000 g 337 K2 y v ((12 : Int32) + ((3 : Int32) * y)) 337 de) (fun _ d' => (∀ r i, ¬ r = 337 → dI d' r i = dI d r i) ∧ (∀ j, j = 2 ∨ j = 10 ∨ j = 11 ∨ 300 ≤ j → j < 352 → dI d' 337 j = 0) ∧ dI d' 337 4 = 2) := by
      intro v
      unfold fX12_begins_J76
      refine pc_gd (fun _ => pc_gd (fun _ => pc_bd (fun d19 e19 => pc_gd (fun _ => pc_gd (fun _ => pc_bd (fun d22 e22 => pc_gd (fun _ => pc_bd (fun d24 e24 => pc_bd (fun u25 e25 => ?_)))))))))
      rw [i0] at e19
      rw [i1] at e22
      rw [i2] at e24
      refine hK2 _ ⟨k2 + 1, by omega, ?_, fun r i h => ?_, fun j hj h3 => ?_, ?_⟩
      · dsimp only
        rw [e25, z_add hy2 e1 (by omega) (by omega)]
        omega
      · dsimp only
        rw [rdq e24 (Or.inl h), rdq e22 (Or.inl h), rdq e19 (Or.inl h)]
        exact hf2 r i h
      · dsimp only
        rw [rdq e24 (Or.inr (by omega)), rdq e22 (Or.inr (by omega)), rdq e19 (Or.inr (by omega))]
        exact hz2 j hj h3
      · dsimp only
        rw [rdq e24 (Or.inr (by omega)), rdq e22 (Or.inr (by omega)), rdq e19 (Or.inr (by omega))]
        exact hv2
    exact pc_if (fun _ => j76) (fun _ => j76)
  · have q2 := Int32.lt_iff_toInt_lt.mp (nle q)
    refine pc_gd (fun _ => pc_gd (fun _ => pc_bd (fun d28 e28 => pc_bd (fun u29 e29 => hK _ ⟨k + 1, by omega, ?_, fun r i h => ?_, fun j hj => ?_⟩))))
    · dsimp only
      rw [e29, z_add hy e1 (by omega) (by omega)]
      omega
    · dsimp only
      rw [rdq e28 (Or.inl h)]
      exact hf r i h
    · dsimp only
      rw [tn hy] at e28
      rw [e28, sI_rd]
      by_cases z : j = k
      · rw [if_pos ⟨rfl, z⟩]
      · rw [if_neg (fun y => z y.2)]
        exact hz j (by omega)
theorem KS_nz {i : Nat} (h : ps t n i < n) : ¬ KS t n i = 0 := by
  have e0 : (0 : Int32).toInt = 0 := by decide
  intro z
  have := (kdc_c (t := t) (n := n) (p := ps t n i)).2.2.2
  unfold KS at z
  rw [if_pos h] at z
  rw [z, e0] at this
  omega
theorem sx_gs {K : Nat → Int32} (i : Nat) : GS K (sx K i).1 := (sx_cg (K := K) (K' := K) (fun _ _ _ => rfl) i).2
/-- what a good text means -/
theorem means_x {g : Gs} (hS : Shp g) {ie : Nat} (hM : MTk t n s d) (hse : ¬ ps t n s < n) (h12 : dI d 328 12 = 0) (h14 : dI d 328 14 = 0) (hst : stp2 (KS t n) (sx (KS t n) ie)) (hgd : (sx (KS t n) ie).1.2 = 0) : pc (fX12_means 10000 g 328 d) (fun _ d' => NM t n d' (sm (KS t n) (VS t n) ie).1 ∧ ((sm (KS t n) (VS t n) ie).1.1 = 0 ∨ 0 < (sm (KS t n) (VS t n) ie).1.1.toInt) ∧ ((sm (KS t n) (VS t n) ie).1.1 = 0 → BR (VS t n) ∧ CKM (VS t n) d' (sx (KS t n) ie).2.1 (sx (KS t n) ie).2.2 (sm (KS t n) (VS t n) ie).2)) := by
  have e1 : (1 : Int32).toInt = 1 := by decide
  have e2 : (2 : Int32).toInt = 2 := by decide
  have e4 : (4 : Int32).toInt = 4 := by decide
  have n0 : (0 : Int32).toNatClampNeg = 0 := by decide
  have n1 : (1 : Int32).toNatClampNeg = 1 := by decide
  have hs := hM.1
  have kS : KS t n s = 0 := by unfold KS; rw [if_neg hse]
  have good : ∀ i, (sx (KS t n) i).1.2 = 0 := by
    intro i
    by_cases z : (sx (KS t n) i).1.2 = 0
    · exact z
    · have := sx_un (K := KS t n) (i := i) (j := ie) (fun y => z y.1) hst
      rw [this]
      exact hgd
  have le_s : ∀ i, (sx (KS t n) i).1.1 ≤ s := by
    intro i
    rcases Nat.lt_or_ge s (sx (KS t n) i).1.1 with z | z
    · exact absurd kS ((sx_gs i (good i)).2 s z)
    · exact z
  -- the board
  have g0 := good 0
  have b0 : (sx (KS t n) 0).1 = (4, 0) ∧ KS t n 3 = 4 := by
    have h4 : (mS (KS t n) 4 (mS (KS t n) 2 (mS (KS t n) 2 (mS (KS t n) 20 (0, 0))))).2 = 0 := g0
    have h3 := mS_0 h4
    have h2 := mS_0 h3
    have h1 := mS_0 h2
    obtain ⟨a1, a2, _⟩ := mS_ok h1
    show mS (KS t n) 4 (mS (KS t n) 2 (mS (KS t n) 2 (mS (KS t n) 20 (0, 0)))) = (4, 0) ∧ _
    rw [a1] at h2 h3 h4 ⊢
    obtain ⟨b1, b2, _⟩ := mS_ok h2
    rw [b1] at h3 h4 ⊢
    obtain ⟨c1, c2, _⟩ := mS_ok h3
    rw [c1] at h4 ⊢
    obtain ⟨d1, d2, _⟩ := mS_ok h4
    exact ⟨d1, d2⟩
  have s4 : 4 ≤ s := by
    have := le_s 0
    rw [b0.1] at this
    exact this
  unfold fX12_means
  refine pc_gd (fun _ => pc_ob (fun r e => ?_))
  have := gq hS (e := 337) (by decide +kernel) e
  subst this
  refine pc_cv begins_x (fun d3 r => ?_)
  obtain ⟨f3, z3, v3⟩ := r
  have M3 : MTk t n s d3 := ⟨hM.1, hM.2.1, by rw [f3 328 10 (by decide)]; exact hM.2.2.1, fun j hj => by
    rw [f3 331 j (by decide), f3 332 j (by decide), f3 333 j (by decide)]
    exact hM.2.2.2 j hj⟩
  have N3 : NM t n d3 (0, 0) := ⟨by rw [f3 328 12 (by decide)]; exact h12, by rw [f3 328 14 (by decide)]; exact h14, fun z => absurd rfl z⟩
  refine pc_cb (within_x (T := 1) hS M3 N3 e1 (by omega) (Or.inl rfl)) (fun u7 d5 r => pc_gd (fun _ => pc_gd (fun _ => pc_bd (fun d10 e10 => ?_))))
  obtain ⟨v5, N5, f5⟩ := r
  rw [n0] at e10
  have N10 := N5.i e10 (by omega)
  have g10 : ∀ r i, ¬ r = 337 → dI d10 r i = dI d5 r i := fun r i h => rdq e10 (Or.inl h)
  have M5 := M3.wf f5
  have M10 : MTk t n s d10 := ⟨M5.1, M5.2.1, by rw [g10 328 10 (by decide)]; exact M5.2.2.1, fun j hj => by
    rw [g10 331 j (by decide), g10 332 j (by decide), g10 333 j (by decide)]
    exact M5.2.2.2 j hj⟩
  have L10 : LB (nNu (VS t n) 1 4 1 (0, 0)) 2 5 := (LB.nns (T := 1) (Or.inl rfl) (by decide)).lb
  refine pc_cb (within_x (T := 2) hS M10 N10 e2 (by omega) L10) (fun u13 d11 r => pc_gd (fun _ => pc_bd (fun d15 e15 => ?_)))
  obtain ⟨v11, N11, f11⟩ := r
  rw [n1] at e15
  have N15 := N11.i e15 (by omega)
  have g15 : ∀ r i, ¬ r = 337 → dI d15 r i = dI d11 r i := fun r i h => rdq e15 (Or.inl h)
  have M11 := M10.wf f11
  have M15 : MTk t n s d15 := ⟨M11.1, M11.2.1, by rw [g15 328 10 (by decide)]; exact M11.2.2.1, fun j hj => by
    rw [g15 331 j (by decide), g15 332 j (by decide), g15 333 j (by decide)]
    exact M11.2.2.2 j hj⟩
  have ew0 : (sm (KS t n) (VS t n) 0).1 = nNu (VS t n) 1 6 2 (nNu (VS t n) 1 4 1 (0, 0)) := rfl
  rw [← ew0] at N15
  have C15 : CKM (VS t n) d15 0 0 (sm (KS t n) (VS t n) 0).2 := by
    have fz : ∀ j, j = 2 ∨ j = 10 ∨ j = 11 ∨ 300 ≤ j → j < 352 → dI d15 337 j = 0 := fun j hj h3 => by
      rw [rdq e15 (Or.inr (by omega)), f11 337 j (by omega) (by decide), rdq e10 (Or.inr (by omega)), f5 337 j (by omega) (by decide)]
      exact z3 j hj h3
    refine ⟨?_, ?_, ?_, ?_, fun j hj => absurd hj (Nat.not_lt_zero _), fun i _ h4 => fz _ (by omega) (by omega), fz 2 (by omega) (by omega), ?_, fun i hi => absurd hi (Nat.not_lt_zero _)⟩
    · rw [rdq e15 (Or.inr (by decide)), f11 337 0 (by decide) (by decide), e10, sI_rd, if_pos ⟨rfl, rfl⟩]
      exact v5
    · rw [e15, sI_rd, if_pos ⟨rfl, rfl⟩]
      exact v11
    · rw [fz 10 (by omega) (by omega)]
      rfl
    · rw [fz 11 (by omega) (by omega)]
      rfl
    · rw [rdq e15 (Or.inr (by decide)), f11 337 4 (by decide) (by decide), rdq e10 (Or.inr (by decide)), f5 337 4 (by decide) (by decide)]
      exact v3
  have B15 : (sm (KS t n) (VS t n) 0).1.1 = 0 → BR (VS t n) := by
    intro z
    rw [ew0] at z
    obtain ⟨z1, z2⟩ := nNu_0 z
    obtain ⟨_, z4⟩ := nNu_0 z1
    have a1 : (1 : Int32).toInt = 1 := by decide
    have a6 : (6 : Int32).toInt = 6 := by decide
    rw [a1, a6] at z2
    rw [a1, e4] at z4
    exact ⟨⟨by omega, by omega⟩, by omega, by omega⟩
  have P15 : (sm (KS t n) (VS t n) 0).1.1 = 0 ∨ 0 < (sm (KS t n) (VS t n) 0).1.1.toInt := (NX.n.tr NX.n).2 (Or.inl rfl)
  have S15 : SB (sm (KS t n) (VS t n) 0).1 4 := by
    rw [ew0]
    exact (LB.nns (T := 2) L10 (by decide)).up (by decide : 3 ≤ 4)
  -- the lines
  have j47 : ∀ {z0 : Int32}, (z0 = 0 → ¬ (sm (KS t n) (VS t n) 0).1.1 = 0) → pc (fX12_means_J47 10000 g 328 z0 328 d15) (fun _ d' => NM t n d' (sm (KS t n) (VS t n) ie).1 ∧ ((sm (KS t n) (VS t n) ie).1.1 = 0 ∨ 0 < (sm (KS t n) (VS t n) ie).1.1.toInt) ∧ ((sm (KS t n) (VS t n) ie).1.1 = 0 → BR (VS t n) ∧ CKM (VS t n) d' (sx (KS t n) ie).2.1 (sx (KS t n) ie).2.2 (sm (KS t n) (VS t n) ie).2)) := by
    intro z0 hz0
    unfold fX12_means_J47
    refine pc_gd (fun _ => pc_gd (fun _ => pc_bd (fun d19 e19 => ?_)))
    have g19 : ∀ r i, ¬ (r = 328 ∧ i = 22) → dI d19 r i = dI d15 r i := fun r i h => by rw [e19, sI_rd, if_neg h]
    have R19 : RM t n s d19 (sm (KS t n) (VS t n) 0).1 0 0 (sm (KS t n) (VS t n) 0).2 := by
      refine ⟨⟨M15.1, M15.2.1, by rw [g19 328 10 (by decide)]; exact M15.2.2.1, fun j hj => ?_⟩, N15.i e19 (by decide), fun z => hz0 ?_, P15, fun z => ⟨B15 z, C15.wf (fun j _ => g19 337 j (by omega))⟩⟩
      · rw [g19 331 j (by omega), g19 332 j (by omega), g19 333 j (by omega)]
        exact M15.2.2.2 j hj
      · rw [e19, sI_rd, if_pos ⟨rfl, rfl⟩] at z
        exact z
    unfold fX12_means_L52
    refine pc_lp (fun (a : Int32 × Ds) => ∃ k i : Nat, 4 ≤ k ∧ a.1.toInt = (k : Int) ∧ RM t n s a.2 (sm (KS t n) (VS t n) i).1 (sx (KS t n) i).2.1 (sx (KS t n) i).2.2 (sm (KS t n) (VS t n) i).2 ∧ (k = s + 1 ∧ stp2 (KS t n) (sx (KS t n) i) ∨ k ≤ (sx (KS t n) i).1.1 ∧ (∀ j, k ≤ j → j < (sx (KS t n) i).1.1 → ¬ KS t n (j - 1) = 4) ∧ KS t n ((sx (KS t n) i).1.1 - 1) = 4 ∧ SB (sm (KS t n) (VS t n) i).1 (sx (KS t n) i).1.1)) ?_ 10000 (4, d19) ⟨4, 0, by decide, e4, R19, Or.inr ⟨by rw [b0.1]; exact Nat.le_refl 4, fun j j1 j2 => by rw [b0.1] at j2; dsimp only at j2; omega, by rw [b0.1]; exact b0.2, by rw [b0.1]; exact S15⟩⟩
    rintro K ⟨y1, dd⟩ ⟨k, i, hk4, hy, hR, hh⟩ hK
    dsimp only at hy hR hK ⊢
    have h10 := hR.1.2.2.1
    unfold fX12_means_B52
    refine pc_gd (fun _ => pc_if (fun q => ?_) (fun q => pc_ob (fun r e => ?_)))
    · have q2 := Int32.le_iff_toInt_le.mp q
      rcases hh with ⟨hh, hstp⟩ | ⟨hh, _⟩
      · have e := sx_un (K := KS t n) hstp hst
        have es : sm (KS t n) (VS t n) i = sm (KS t n) (VS t n) ie := by
          rcases Nat.le_total i ie with z | z
          · have a := sm_st (V := VS t n) hstp (ie - i)
            rw [show i + (ie - i) = ie by omega] at a
            exact a.symm
          · have a := sm_st (V := VS t n) hst (i - ie)
            rw [show ie + (i - ie) = i by omega] at a
            exact a
        rw [es, e] at hR
        exact pc_some ⟨hR.2.1, hR.2.2.2.1, hR.2.2.2.2⟩
      · have := le_s i
        omega
    · have q2 := Int32.lt_iff_toInt_lt.mp (nle q)
      have := gq hS (e := 331) (by decide +kernel) e
      subst this
      have ym : (y1 - 1).toInt = ((k - 1 : Nat) : Int) := by rw [z_sub hy e1 (by omega) (by omega)]; omega
      have kk1 : dI dd 331 (y1 - 1).toNatClampNeg = KS t n (k - 1) := by
        rw [tn ym]
        exact (hR.1.2.2.2 (k - 1) (by omega)).1
      rw [kk1]
      have nx : ∀ {de : Ds} {i' : Nat}, RM t n s de (sm (KS t n) (VS t n) i').1 (sx (KS t n) i').2.1 (sx (KS t n) i').2.2 (sm (KS t n) (VS t n) i').2 → (k + 1 = s + 1 ∧ stp2 (KS t n) (sx (KS t n) i') ∨ k + 1 ≤ (sx (KS t n) i').1.1 ∧ (∀ j, k + 1 ≤ j → j < (sx (KS t n) i').1.1 → ¬ KS t n (j - 1) = 4) ∧ KS t n ((sx (KS t n) i').1.1 - 1) = 4 ∧ SB (sm (KS t n) (VS t n) i').1 (sx (KS t n) i').1.1) → pc (fX12_means_J77 10000 g 328 K y1 de) (fun _ d' => NM t n d' (sm (KS t n) (VS t n) ie).1 ∧ ((sm (KS t n) (VS t n) ie).1.1 = 0 ∨ 0 < (sm (KS t n) (VS t n) ie).1.1.toInt) ∧ ((sm (KS t n) (VS t n) ie).1.1 = 0 → BR (VS t n) ∧ CKM (VS t n) d' (sx (KS t n) ie).2.1 (sx (KS t n) ie).2.2 (sm (KS t n) (VS t n) ie).2)) := by
        intro de i' R h
        unfold fX12_means_J77
        refine pc_bd (fun u e => hK _ ⟨k + 1, i', by omega, ?_, R, h⟩)
        dsimp only
        rw [e, z_add hy e1 (by omega) (by omega)]
        omega
      refine pc_gd (fun _ => pc_gd (fun _ => pc_if (fun q4 => ?_) (fun q4 => ?_)))
      · have hkp : k = (sx (KS t n) i).1.1 ∧ SB (sm (KS t n) (VS t n) i).1 (sx (KS t n) i).1.1 := by
          rcases hh with ⟨hh, _⟩ | ⟨h1, h2, h3, h4⟩
          · omega
          · refine ⟨?_, h4⟩
            rcases Nat.lt_or_ge k (sx (KS t n) i).1.1 with z | z
            · exact absurd q4 (h2 k (Nat.le_refl k) z)
            · omega
        obtain ⟨hkp, hSB⟩ := hkp
        by_cases kz : KS t n k = 0
        · have hks : k = s := by
            have h1 := le_s i
            rcases Nat.lt_or_ge k s with z | z
            · exact absurd kz (KS_nz (hM.2.1 k z))
            · omega
          have line0 : pc (fX12_meansLine 10000 g 328 y1 dd) (fun _ d' => d' = dd) := by
            unfold fX12_meansLine
            refine pc_gd (fun _ => pc_ob (fun r e => ?_))
            have := gq hS (e := 331) (by decide +kernel) e
            subst this
            have kk0 : dI dd 331 y1.toNatClampNeg = 0 := by
              rw [tn hy, (hR.1.2.2.2 k (by omega)).1]
              exact kz
            rw [kk0]
            refine pc_gd (fun _ => pc_gd (fun _ => pc_if (fun _ => ?_) (fun z => absurd (Or.inl (by decide)) z)))
            unfold fX12_meansLine_J219
            exact pc_some rfl
          refine pc_cv line0 (fun d27 r => ?_)
          subst r
          exact nx hR (Or.inl ⟨by omega, fun z => z.2 (by rw [← hkp]; exact kz)⟩)
        · have ex : sx (KS t n) (i + 1) = (tS (KS t n) (sx (KS t n) i).2.1 (sx (KS t n) i).2.2 (sx (KS t n) i).1.1, (sx (KS t n) i).2.1 + (if KS t n (sx (KS t n) i).1.1 = 29 then 1 else 0), (sx (KS t n) i).2.2 + (if KS t n (sx (KS t n) i).1.1 = 30 then 1 else 0)) := if_pos ⟨good i, by rw [← hkp]; exact kz⟩
          have em : sm (KS t n) (VS t n) (i + 1) = (lNt (KS t n) (VS t n) (sx (KS t n) i).2.1 (sm (KS t n) (VS t n) i).2 (sx (KS t n) i).1.1 (sm (KS t n) (VS t n) i).1, ckN (KS t n) (VS t n) (sx (KS t n) i).1.1 (sx (KS t n) i).2.1 (sx (KS t n) i).2.2 (sm (KS t n) (VS t n) i).2) := if_pos ⟨good i, by rw [← hkp]; exact kz⟩
          have gT : (tS (KS t n) (sx (KS t n) i).2.1 (sx (KS t n) i).2.2 (sx (KS t n) i).1.1).2 = 0 := by
            have := good (i + 1)
            rw [ex] at this
            exact this
          obtain ⟨E, hE, hl⟩ := tS_ok (K := KS t n) (T' := (tS (KS t n) (sx (KS t n) i).2.1 (sx (KS t n) i).2.2 (sx (KS t n) i).1.1).1) (Prod.ext rfl gT)
          have nfull := (tS_gt gT).2.2.1
          obtain ⟨c4, m4⟩ := sx_c i (good i)
          have pE : (sx (KS t n) (i + 1)).1.1 = E + 1 := by rw [ex]; exact hE
          have Es := le_s (i + 1)
          rw [pE] at Es
          rw [hkp] at hy
          refine pc_cv (meansLine_x hS c4 m4 (fun z => ?_) (fun z => ?_) hR hy hl (by omega) hSB) (fun d27 r => nx (i' := i + 1) ?_ (Or.inr ⟨?_, fun j j1 j2 => ?_, ?_, ?_⟩))
          · have : ¬ (sx (KS t n) i).2.1 = 4 := fun y => nfull (Or.inl ⟨z, y⟩)
            omega
          · have : ¬ (sx (KS t n) i).2.2 = 4 := fun y => nfull (Or.inr ⟨z, y⟩)
            omega
          · rw [ex, em]
            exact r.1
          · rw [pE]
            have := hl.1
            omega
          · rw [pE] at j2
            exact (hl.2.2.2.2.1 (j - 1) (by omega) (by omega)).1
          · rw [pE]
            exact hl.2.1
          · rw [pE, em]
            exact r.2.up (by omega)
      · rcases hh with ⟨hh, _⟩ | ⟨h1, h2, h3, h4⟩
        · omega
        · have hlt : k < (sx (KS t n) i).1.1 := by
            rcases Nat.lt_or_ge k (sx (KS t n) i).1.1 with z | z
            · exact z
            · exfalso
              have : k = (sx (KS t n) i).1.1 := by omega
              rw [this] at q4
              exact q4 h3
          exact nx hR (Or.inr ⟨hlt, fun j j1 j2 => h2 j (by omega) j2, h3, h4⟩)
  refine pc_if (fun q => j47 (fun z => absurd z (by decide))) (fun q => j47 (fun _ => ?_))
  rw [← N15.2.1]
  exact q
end MNS
