/-! the class's read, all that it leaves -/
def bo (r : Nat) : Bool := r == 0 || r == 9 || r == 15 || r == 16 || r == 117 || (decide (225 ≤ r) && decide (r < 347))
theorem bo_2 {g : Gs} (hS : Shp g) {x r : Nat} (h : chk g x 2) (hb : bo r = true) : r ≠ x := by
  intro e
  subst e
  have hr : r < 347 := by rw [← hS.1]; exact h.1
  have hk : tkd r = 2 := by rw [← (hS.2.1 r hr).1]; exact h.2
  have := List.all_eq_true.mp (show (List.range 347).all (fun r => tkd r != 2 || !bo r) = true by decide +kernel) r (List.mem_range.mpr hr)
  rw [hk, hb] at this
  exact absurd this (by decide)
section RDC
variable {t : Nat → Int32} {n : Nat} {d : Ds}
theorem dcp_y {g : Gs} (hS : Shp g) {N x y : Nat} : pc (fX2_copyFrom N g x y d) (fun _ d' => (∀ r j, bo r = true → dI d' r j = dI d r j) ∧ d'.2.1 = d.2.1) := by
  unfold fX2_copyFrom fX2_tell
  refine pc_gd (fun _ => pc_gd (fun hc => pc_cv (P := fun _ d' => (∀ r j, bo r = true → dI d' r j = dI d r j) ∧ d'.2.1 = d.2.1) (pc_gd (fun _ => pc_bd (fun d2 e2 => pc_bd (fun d3 e3 => pc_bd (fun d4 e4 => pc_some ⟨fun r j hb => ?_, by rw [e4, e3, e2]; rfl⟩))))) (fun d3 r => pc_some r)))
  have hn := bo_2 hS hc hb
  rw [rdq e4 (Or.inl hn), rdq e3 (Or.inl hn), rdq e2 (Or.inl hn)]
theorem copyB_y {g : Gs} (hS : Shp g) : pc (fX0_copyFrom 10000 g 117 9 d) (fun _ d' => (∀ j, j = 0 ∨ j = 1 ∨ j = 2 ∨ j = 4 ∨ j = 16 → dI d' 117 j = dI d 9 j) ∧ (∀ j, j < 4 → dI d' 123 j = dI d 15 j) ∧ (∀ j, j < 32 → dI d' 124 j = dI d 16 j) ∧ (∀ r j, r = 0 ∨ 225 ≤ r ∧ r < 347 → dI d' r j = dI d r j) ∧ d'.2.1 = d.2.1) := by
  have n0 : (0 : Int32).toNatClampNeg = 0 := by decide
  have n4 : (4 : Int32).toNatClampNeg = 4 := by decide
  have n32 : (32 : Int32).toNatClampNeg = 32 := by decide
  unfold fX0_copyFrom
  refine pc_gd (fun _ => pc_gd (fun _ => pc_bd (fun d3 e3 => pc_bd (fun d4 e4 => pc_gd (fun _ => pc_bd (fun d6 e6 => pc_gd (fun _ => pc_bd (fun d8 e8 => pc_bd (fun d9 e9 => pc_bd (fun d10 e10 => pc_bd (fun d11 e11 => pc_bd (fun d12 e12 => pc_bd (fun d13 e13 => pc_bd (fun d14 e14 => ?_))))))))))))))
  have o14 : ∀ r j, ¬ r = 117 → dI d14 r j = dI d r j := fun r j h => by
    rw [rdq e14 (Or.inl h), rdq e13 (Or.inl h), rdq e12 (Or.inl h), rdq e11 (Or.inl h), rdq e10 (Or.inl h), rdq e9 (Or.inl h), rdq e8 (Or.inl h), rdq e6 (Or.inl h), rdq e4 (Or.inl h), rdq e3 (Or.inl h)]
  have F14 : d14.2.1 = d.2.1 := by rw [e14, e13, e12, e11, e10, e9, e8, e6, e4, e3]; rfl
  have v0 : dI d14 117 0 = dI d 9 0 := by
    rw [rdq e14 (Or.inr (by decide)), rdq e13 (Or.inr (by decide)), rdq e12 (Or.inr (by decide)), rdq e11 (Or.inr (by decide)), rdq e10 (Or.inr (by decide)), rdq e9 (Or.inr (by decide)), rdq e8 (Or.inr (by decide)), rdq e6 (Or.inr (by decide)), rdq e4 (Or.inr (by decide)), e3, sI_rd, if_pos ⟨rfl, rfl⟩]
  have v1 : dI d14 117 1 = dI d 9 1 := by
    rw [rdq e14 (Or.inr (by decide)), rdq e13 (Or.inr (by decide)), rdq e12 (Or.inr (by decide)), rdq e11 (Or.inr (by decide)), rdq e10 (Or.inr (by decide)), rdq e9 (Or.inr (by decide)), rdq e8 (Or.inr (by decide)), rdq e6 (Or.inr (by decide)), e4, sI_rd, if_pos ⟨rfl, rfl⟩]
    exact rdq e3 (Or.inl (by decide))
  have v2 : dI d14 117 2 = dI d 9 2 := by
    rw [rdq e14 (Or.inr (by decide)), rdq e13 (Or.inr (by decide)), rdq e12 (Or.inr (by decide)), rdq e11 (Or.inr (by decide)), rdq e10 (Or.inr (by decide)), rdq e9 (Or.inr (by decide)), rdq e8 (Or.inr (by decide)), e6, sI_rd, if_pos ⟨rfl, rfl⟩, rdq e4 (Or.inl (by decide))]
    exact rdq e3 (Or.inl (by decide))
  have v4 : dI d14 117 4 = dI d 9 4 := by
    rw [rdq e14 (Or.inr (by decide)), rdq e13 (Or.inr (by decide)), rdq e12 (Or.inr (by decide)), rdq e11 (Or.inr (by decide)), rdq e10 (Or.inr (by decide)), e9, sI_rd, if_pos ⟨rfl, rfl⟩, rdq e8 (Or.inl (by decide)), rdq e6 (Or.inl (by decide)), rdq e4 (Or.inl (by decide))]
    exact rdq e3 (Or.inl (by decide))
  unfold fX0_copyFrom_L82
  refine pc_lp (fun (a : Int32 × Ds) => (∀ r j, bo r = true → dI a.2 r j = dI d14 r j) ∧ a.2.2.1 = d.2.1) ?_ 10000 (0, d14) ⟨fun _ _ _ => rfl, F14⟩
  rintro K ⟨y1, dd⟩ ⟨hf, hF⟩ hK
  dsimp only at hf hF hK ⊢
  unfold fX0_copyFrom_B82
  refine pc_gd (fun _ => pc_ob (fun r16 _ => pc_gd (fun _ => pc_if (fun _ => ?_) (fun _ => pc_gd (fun _ => pc_ob (fun r71 _ => pc_gd (fun _ => pc_ob (fun r73 _ => pc_gd (fun _ => pc_gd (fun _ => pc_ob (fun r76 _ => pc_gd (fun _ => pc_cv (dcp_y hS) (fun d78 r => pc_bd (fun u80 _ => hK _ ⟨fun r' j hb => (r.1 r' j hb).trans (hf r' j hb), r.2.trans hF⟩))))))))))))))
  refine pc_gd (fun _ => pc_bd (fun d20 e20 => ?_))
  unfold fX0_copyFrom_L122
  refine pc_lp (fun (a : Int32 × Ds) => (∀ r j, bo r = true → ¬ (r = 117 ∧ j = 12) → dI a.2 r j = dI d14 r j) ∧ a.2.2.1 = d.2.1) ?_ 10000 (0, d20) ⟨fun r j hb hn => ?_, by rw [e20]; exact hF⟩
  · rintro K2 ⟨y2, de⟩ ⟨hf2, hF2⟩ hK2
    dsimp only at hf2 hF2 hK2 ⊢
    unfold fX0_copyFrom_B122
    refine pc_if (fun _ => ?_) (fun _ => ?_)
    · refine pc_gd (fun _ => pc_gd (fun _ => pc_bd (fun d24 e24 => pc_ob (fun r e => ?_))))
      have := gq hS (e := 15) (by decide +kernel) e
      subst this
      refine pc_ob (fun r e => ?_)
      have := gq hS (e := 123) (by decide +kernel) e
      subst this
      refine pc_gd (fun _ => pc_gd (fun _ => pc_gd (fun _ => pc_gd (fun _ => pc_gd (fun _ => pc_gd (fun _ => pc_bd (fun d33 e33 => pc_ob (fun r e => ?_))))))))
      have := gq hS (e := 16) (by decide +kernel) e
      subst this
      refine pc_ob (fun r e => ?_)
      have := gq hS (e := 124) (by decide +kernel) e
      subst this
      refine pc_gd (fun _ => pc_gd (fun _ => pc_gd (fun _ => pc_gd (fun _ => pc_gd (fun _ => pc_bd (fun d41 e41 => pc_some ?_))))))
      rw [n0, n4] at e33
      rw [n0, n32] at e41
      have rd41 : ∀ r j, ¬ r = 123 → ¬ r = 124 → dI d41 r j = dI d24 r j := fun r j h1 h2 => by
        rw [e41, cI_rd, if_neg (fun z => h2 z.1), e33, cI_rd, if_neg (fun z => h1 z.1)]
      refine ⟨fun j hj => ?_, fun j hj => ?_, fun j hj => ?_, fun r j hr => ?_, ?_⟩
      · rw [rd41 117 j (by decide) (by decide)]
        by_cases z : j = 16
        · rw [z, e24, sI_rd, if_pos ⟨rfl, rfl⟩, hf2 9 16 (by decide) (by decide)]
          exact o14 9 16 (by decide)
        · rw [rdq e24 (Or.inr z), hf2 117 j (by decide) (by omega)]
          rcases hj with hj | hj | hj | hj | hj <;> subst hj
          · exact v0
          · exact v1
          · exact v2
          · exact v4
          · exact absurd rfl z
      · rw [e41, cI_rd, if_neg (fun z => absurd z.1 (by decide)), e33, cI_rd, if_pos ⟨rfl, by omega, by omega⟩, rdq e24 (Or.inl (by decide)), hf2 15 _ (by decide) (by omega), o14 15 _ (by decide)]
        congr 1
        omega
      · rw [e41, cI_rd, if_pos ⟨rfl, by omega, by omega⟩, e33, cI_rd, if_neg (fun z => absurd z.1 (by decide)), rdq e24 (Or.inl (by decide)), hf2 16 _ (by decide) (by omega), o14 16 _ (by decide)]
        congr 1
        omega
      · rw [rd41 r j (by omega) (by omega), rdq e24 (Or.inl (by omega)), hf2 r j (by unfold bo; simp only [Bool.or_eq_true, Bool.and_eq_true, beq_iff_eq, decide_eq_true_eq]; omega) (by omega)]
        exact o14 r j (by omega)
      · rw [e41, e33, e24]
        exact hF2
    · refine pc_gd (fun _ => pc_ob (fun r e => ?_))
      have := gq hS (e := 120) (by decide +kernel) e
      subst this
      refine pc_gd (fun _ => pc_ob (fun r45 _ => pc_gd (fun _ => pc_gd (fun _ => pc_gd (fun _ => pc_gd (fun _ => pc_bd (fun d50 e50 => pc_ob (fun r e => ?_))))))))
      have := gq hS (e := 121) (by decide +kernel) e
      subst this
      refine pc_ob (fun r52 _ => pc_gd (fun _ => pc_gd (fun _ => pc_gd (fun _ => pc_gd (fun _ => pc_bd (fun d57 e57 => pc_ob (fun r58 _ => pc_gd (fun _ => pc_gd (fun _ => pc_ob (fun r61 _ => pc_ob (fun r62 _ => pc_gd (fun _ => pc_gd (fun _ => pc_ob (fun r65 _ => pc_gd (fun _ => pc_cv (dcp_y hS) (fun d67 r => pc_bd (fun u69 _ => hK2 _ ⟨fun r' j hb hn => ?_, ?_⟩)))))))))))))))))
      · dsimp only
        have h120 : ¬ r' = 120 := fun z => by rw [z] at hb; exact absurd hb (by decide)
        have h121 : ¬ r' = 121 := fun z => by rw [z] at hb; exact absurd hb (by decide)
        rw [r.1 r' j hb, rdq e57 (Or.inl h121), rdq e50 (Or.inl h120)]
        exact hf2 r' j hb hn
      · dsimp only
        rw [r.2, e57, e50]
        exact hF2
  · dsimp only
    rw [e20, sI_rd, if_neg hn]
    exact hf r j hb
/-- the scan of the course, fresh -/
def SCF (d : Ds) : Prop := dI d 227 5 = 0 ∧ (∀ j, j < 4 → dI d 228 j = 0) ∧ ∀ k, k < 24 → dI d 229 k = 0 ∧ dF d 230 k = FP.fconst0 ∧ dI d 231 k = 0 ∧ dI d 232 k = 0 ∧ dI d 233 k = -1
theorem scl_y {g : Gs} (hS : Shp g) : pc (fX6_clear 10000 g 228 d) (fun _ d' => ((∀ j, j < 4 → dI d' 228 j = 0) ∧ ∀ k, k < 24 → dI d' 229 k = 0 ∧ dF d' 230 k = FP.fconst0 ∧ dI d' 231 k = 0 ∧ dI d' 232 k = 0 ∧ dI d' 233 k = -1) ∧ ∀ r j, ¬ (228 ≤ r ∧ r ≤ 233) → dI d' r j = dI d r j) := by
  have e1 : (1 : Int32).toInt = 1 := by decide
  have e24 : (24 : Int32).toInt = 24 := by decide
  unfold fX6_clear
  refine pc_gd (fun _ => pc_bd (fun d2 e2 => pc_bd (fun d3 e3 => pc_bd (fun d4 e4 => pc_bd (fun d5 e5 => ?_)))))
  have z5 : ∀ j, j < 4 → dI d5 228 j = 0 := fun j hj => by
    rcases (show j = 0 ∨ j = 1 ∨ j = 2 ∨ j = 3 by omega) with z | z | z | z <;> subst z
    · rw [rdq e5 (Or.inr (by decide)), rdq e4 (Or.inr (by decide)), rdq e3 (Or.inr (by decide)), e2, sI_rd, if_pos ⟨rfl, rfl⟩]
    · rw [rdq e5 (Or.inr (by decide)), rdq e4 (Or.inr (by decide)), e3, sI_rd, if_pos ⟨rfl, rfl⟩]
    · rw [rdq e5 (Or.inr (by decide)), e4, sI_rd, if_pos ⟨rfl, rfl⟩]
    · rw [e5, sI_rd, if_pos ⟨rfl, rfl⟩]
  unfold fX6_clear_L22
  refine pc_lp (fun (a : Int32 × Ds) => ∃ k : Nat, k ≤ 24 ∧ a.1.toInt = (k : Int) ∧ (∀ j, j < 4 → dI a.2 228 j = 0) ∧ (∀ j, j < k → dI a.2 229 j = 0 ∧ dF a.2 230 j = FP.fconst0 ∧ dI a.2 231 j = 0 ∧ dI a.2 232 j = 0 ∧ dI a.2 233 j = -1) ∧ ∀ r j, ¬ (228 ≤ r ∧ r ≤ 233) → dI a.2 r j = dI d r j) ?_ 10000 (0, d5) ⟨0, by decide, (by decide : (0 : Int32).toInt = ((0 : Nat) : Int)), z5, fun j hj => absurd hj (Nat.not_lt_zero j), fun r j h => by
    dsimp only
    rw [rdq e5 (Or.inl (by omega)), rdq e4 (Or.inl (by omega)), rdq e3 (Or.inl (by omega)), rdq e2 (Or.inl (by omega))]⟩
  rintro K ⟨y1, dd⟩ ⟨k, hk, hy, hz, hv, hf⟩ hK
  dsimp only at hy hz hv hf hK ⊢
  unfold fX6_clear_B22
  refine pc_if (fun q => ?_) (fun q => ?_)
  · have q2 := Int32.le_iff_toInt_le.mp q
    exact pc_some ⟨⟨hz, fun j hj => hv j (by omega)⟩, hf⟩
  · have q2 := Int32.lt_iff_toInt_lt.mp (nle q)
    refine pc_gd (fun _ => pc_ob (fun r e => ?_))
    have := gq hS (e := 229) (by decide +kernel) e
    subst this
    refine pc_gd (fun _ => pc_gd (fun _ => pc_bd (fun d11 e11 => pc_ob (fun r e => ?_))))
    have := gq hS (e := 230) (by decide +kernel) e
    subst this
    refine pc_gd (fun _ => pc_gd (fun _ => pc_bd (fun d15 e15 => pc_ob (fun r e => ?_))))
    have := gq hS (e := 231) (by decide +kernel) e
    subst this
    refine pc_gd (fun _ => pc_gd (fun _ => pc_bd (fun d19 e19 => pc_ob (fun r e => ?_))))
    have := gq hS (e := 232) (by decide +kernel) e
    subst this
    refine pc_gd (fun _ => pc_gd (fun _ => pc_bd (fun d23 e23 => pc_ob (fun r e => ?_))))
    have := gq hS (e := 233) (by decide +kernel) e
    subst this
    refine pc_gd (fun _ => pc_gd (fun _ => pc_bd (fun d27 e27 => pc_bd (fun u28 e28 => ?_))))
    rw [tn hy] at e11 e15 e19 e23 e27
    have o : ∀ r j, ¬ (r = 229 ∨ r = 231 ∨ r = 232 ∨ r = 233) → dI d27 r j = dI dd r j := fun r j h => by
      rw [rdq e27 (Or.inl (by omega)), rdq e23 (Or.inl (by omega)), rdq e19 (Or.inl (by omega)), rdqF e15, rdq e11 (Or.inl (by omega))]
    have p : ∀ r j, ¬ j = k → dI d27 r j = dI dd r j := fun r j h => by
      rw [rdq e27 (Or.inr h), rdq e23 (Or.inr h), rdq e19 (Or.inr h), rdqF e15, rdq e11 (Or.inr h)]
    have F : ∀ r j, dF d27 r j = if r = 230 ∧ j = k then FP.fconst0 else dF dd r j := fun r j => by
      subst e27
      subst e23
      subst e19
      subst e15
      subst e11
      exact sF_rd
    refine hK _ ⟨k + 1, by omega, ?_, fun j hj => ?_, fun j hj => ?_, fun r j h => ?_⟩
    · dsimp only
      rw [e28, z_add hy e1 (by omega) (by omega)]
      omega
    · dsimp only
      rw [o 228 j (by decide)]
      exact hz j hj
    · dsimp only
      by_cases z : j = k
      · subst z
        refine ⟨?_, ?_, ?_, ?_, ?_⟩
        · rw [rdq e27 (Or.inl (by decide)), rdq e23 (Or.inl (by decide)), rdq e19 (Or.inl (by decide)), rdqF e15, e11, sI_rd, if_pos ⟨rfl, rfl⟩]
        · rw [F, if_pos ⟨rfl, rfl⟩]
        · rw [rdq e27 (Or.inl (by decide)), rdq e23 (Or.inl (by decide)), e19, sI_rd, if_pos ⟨rfl, rfl⟩]
        · rw [rdq e27 (Or.inl (by decide)), e23, sI_rd, if_pos ⟨rfl, rfl⟩]
        · rw [e27, sI_rd, if_pos ⟨rfl, rfl⟩]
      · obtain ⟨a, b, c, e, f⟩ := hv j (by omega)
        exact ⟨by rw [p _ _ z]; exact a, by rw [F, if_neg (fun y => z y.2)]; exact b, by rw [p _ _ z]; exact c, by rw [p _ _ z]; exact e, by rw [p _ _ z]; exact f⟩
    · dsimp only
      rw [o r j (by omega)]
      exact hf r j h
theorem clr_y {g : Gs} (hS : Shp g) : pc (fX1_clear 10000 g 227 d) (fun _ d' => SCF d' ∧ ∀ r j, ¬ (227 ≤ r ∧ r ≤ 246) → dI d' r j = dI d r j) := by
  unfold fX1_clear
  refine pc_gd (fun _ => pc_bd (fun d2 e2 => pc_ob (fun r e => ?_)))
  have := gq hS (e := 228) (by decide +kernel) e
  subst this
  refine pc_gd (fun _ => pc_cv (scl_y hS) (fun d5 r5 => pc_ob (fun r e => ?_)))
  have := gq hS (e := 234) (by decide +kernel) e
  subst this
  obtain ⟨⟨s1, s2⟩, f5⟩ := r5
  refine pc_gd (fun _ => pc_cv (P := fun _ d' => (∀ r j, ¬ r = 234 → dI d' r j = dI d5 r j) ∧ ∀ r j, dF d' r j = dF d5 r j) (by
    unfold fX4_clear
    refine pc_gd (fun _ => pc_bd (fun d2 e2 => pc_bd (fun d3 e3 => pc_some ⟨fun r j h => ?_, fun r j => ?_⟩)))
    · rw [rdq e3 (Or.inl h), rdq e2 (Or.inl h)]
    · subst e3
      subst e2
      rfl) (fun d9 r9 => pc_ob (fun r e => ?_)))
  have := gq hS (e := 236) (by decide +kernel) e
  subst this
  obtain ⟨f9, F9⟩ := r9
  refine pc_gd (fun _ => pc_cv (P := fun _ d' => (∀ r j, ¬ (236 ≤ r ∧ r ≤ 239) → dI d' r j = dI d9 r j) ∧ ∀ r j, dF d' r j = dF d9 r j) (by
    unfold fX3_clear fX3_clear_L2
    refine pc_lp (fun (a : Int32 × Ds) => (∀ r j, ¬ (236 ≤ r ∧ r ≤ 239) → dI a.2 r j = dI d9 r j) ∧ ∀ r j, dF a.2 r j = dF d9 r j) ?_ 10000 (0, d9) ⟨fun _ _ _ => rfl, fun _ _ => rfl⟩
    rintro K ⟨y1, dd⟩ ⟨hf, hF⟩ hK
    dsimp only at hf hF hK ⊢
    unfold fX3_clear_B2
    refine pc_if (fun _ => pc_gd (fun _ => pc_bd (fun d3 e3 => pc_bd (fun d4 e4 => pc_some ⟨fun r j h => ?_, fun r j => ?_⟩)))) (fun _ => pc_gd (fun _ => pc_ob (fun r e => ?_)))
    · rw [rdq e4 (Or.inl (by omega)), rdq e3 (Or.inl (by omega))]
      exact hf r j h
    · subst e4
      subst e3
      exact hF r j
    · have := gq hS (e := 237) (by decide +kernel) e
      subst this
      refine pc_gd (fun _ => pc_gd (fun _ => pc_bd (fun d9' e9 => pc_ob (fun r e => ?_))))
      have := gq hS (e := 238) (by decide +kernel) e
      subst this
      refine pc_gd (fun _ => pc_gd (fun _ => pc_bd (fun d13 e13 => pc_ob (fun r e => ?_))))
      have := gq hS (e := 239) (by decide +kernel) e
      subst this
      refine pc_gd (fun _ => pc_gd (fun _ => pc_bd (fun d17 e17 => pc_bd (fun u18 e18 => hK _ ⟨fun r j h => ?_, fun r j => ?_⟩))))
      · dsimp only
        rw [rdq e17 (Or.inl (by omega)), rdq e13 (Or.inl (by omega)), rdq e9 (Or.inl (by omega))]
        exact hf r j h
      · dsimp only
        subst e17
        subst e13
        subst e9
        exact hF r j) (fun d13 r13 => pc_ob (fun r e => ?_)))
  have := gq hS (e := 242) (by decide +kernel) e
  subst this
  obtain ⟨f13, F13⟩ := r13
  refine pc_gd (fun _ => pc_cv (P := fun _ d' => (∀ r j, ¬ r = 242 → dI d' r j = dI d13 r j) ∧ ∀ r j, dF d' r j = dF d13 r j) (by
    unfold fX5_clear
    refine pc_gd (fun _ => pc_bd (fun d2 e2 => pc_bd (fun d3 e3 => pc_cv (P := fun _ d' => (∀ r j, ¬ r = 242 → dI d' r j = dI d3 r j) ∧ ∀ r j, dF d' r j = dF d3 r j) (by
      unfold fX5_makeLatest fX5_makeLatest_J21
      refine pc_gd (fun _ => pc_bd (fun d4 e4 => pc_bd (fun d5 e5 => pc_if (fun _ => pc_gd (fun _ => pc_bd (fun d6 e6 => pc_some ⟨fun r j h => ?_, fun r j => ?_⟩))) (fun _ => pc_gd (fun _ => pc_bd (fun d6 e6 => pc_some ⟨fun r j h => ?_, fun r j => ?_⟩))))))
      all_goals first
        | (rw [rdq e6 (Or.inl h), rdq e5 (Or.inl h), rdq e4 (Or.inl h)])
        | (subst e6
           subst e5
           subst e4
           rfl)) (fun d4 r => pc_some ⟨fun r' j h => ?_, fun r' j => ?_⟩))))
    · rw [r.1 r' j h, rdq e3 (Or.inl h), rdq e2 (Or.inl h)]
    · rw [r.2 r' j]
      subst e3
      subst e2
      rfl) (fun d17 r17 => pc_some ⟨⟨?_, fun j hj => ?_, fun k hk => ?_⟩, fun r j h => ?_⟩))
  · rw [r17.1 227 5 (by decide), f13 227 5 (by decide), f9 227 5 (by decide), f5 227 5 (by decide), e2, sI_rd, if_pos ⟨rfl, rfl⟩]
  · rw [r17.1 228 j (by decide), f13 228 j (by decide), f9 228 j (by decide)]
    exact s1 j hj
  · obtain ⟨a, b, c, e, f⟩ := s2 k hk
    refine ⟨?_, ?_, ?_, ?_, ?_⟩
    · rw [r17.1 229 k (by decide), f13 229 k (by decide), f9 229 k (by decide)]
      exact a
    · rw [r17.2, F13, F9]
      exact b
    · rw [r17.1 231 k (by decide), f13 231 k (by decide), f9 231 k (by decide)]
      exact c
    · rw [r17.1 232 k (by decide), f13 232 k (by decide), f9 232 k (by decide)]
      exact e
    · rw [r17.1 233 k (by decide), f13 233 k (by decide), f9 233 k (by decide)]
      exact f
  · rw [r17.1 r j (by omega), f13 r j (by omega), f9 r j (by omega), f5 r j (by omega), rdq e2 (Or.inl (by omega))]
/-- the board, as told -/
def BDC (V : Nat → Int32) (d : Ds) (m : Nat) (ck : Nat → Int32) : Prop := dI d 117 0 = V 1 ∧ dI d 117 1 = V 2 ∧ dI d 117 2 = ck 100 ∧ dI d 117 4 = ck 101 ∧ (dI d 117 16).toInt = (m : Int) ∧ m ≤ 4 ∧ ∀ i, i < m → dI d 123 i = ck (200 + 9 * i) ∧ (ck (200 + 9 * i)).toInt ≤ 8 ∧ ∀ j : Nat, (j : Int) < (ck (200 + 9 * i)).toInt → dI d 124 (8 * i + j) = ck (200 + 9 * i + 1 + j)
def RDC (t : Nat → Int32) (n : Nat) (d : Ds) (u : Int32) (d' : Ds) : Prop := ∃ i, stp2 (KS t n) (sx (KS t n) i) ∧ u = (vd (KS t n) (VS t n) i).1 ∧ (u = 0 → dI d' 0 2 = -1) ∧ (¬ u = 0 → (dI d' 0 2).toInt = ((ps t n (vd (KS t n) (VS t n) i).2 : Nat) : Int) ∧ (∀ r j, npb r = false → ¬ (r = 0 ∧ (j = 1 ∨ j = 2)) → dI d' r j = dI d r j) ∧ d'.2.1 = d.2.1) ∧ (u = 0 → dI d' 0 9 = 0 ∧ SCF d' ∧ BDC (VS t n) d' (sx (KS t n) i).2.2 (sm (KS t n) (VS t n) i).2)
theorem readC_y {g : Gs} (hS : Shp g) (ht : t = fun j => dI d 1 j) (hn : (dI d 0 1).toInt = (n : Int)) (h2 : n ≤ 2000) : pc (fX11_read 10000 g 0 d) (fun u d' => RDC t n d u d') := by
  unfold fX11_read
  refine pc_gd (fun _ => pc_ob (fun r e => ?_))
  have := gq hS (e := 2) (by decide +kernel) e
  subst this
  refine pc_ob (fun r e => ?_)
  have := gq hS (e := 1) (by decide +kernel) e
  subst this
  refine pc_gd (fun _ => pc_cb (pc_and (readTape_e hS ht hn h2) (n_fX7_readTape 10000 g 1 (dI d 0 1) d hS NF.rf)) (fun u7 d5 r => ?_))
  obtain ⟨⟨i, h1, h3, h5, hp0, hp1, hD⟩, N5⟩ := r
  refine pc_bd (fun d8 e8 => pc_bd (fun d9 e9 => ?_))
  have v2 : dI d9 0 2 = dI d5 2 7 := by rw [e9, sI_rd, if_pos ⟨rfl, rfl⟩, rdq e8 (Or.inl (by decide))]
  have o9 : ∀ r j, ¬ (r = 0 ∧ (j = 1 ∨ j = 2)) → dI d9 r j = dI d5 r j := fun r j h => by
    rw [rdq e9 (by omega), rdq e8 (by omega)]
  refine pc_if (fun q => ?_) (fun q => ?_)
  · refine pc_ob (fun r e => ?_)
    have := gq hS (e := 117) (by decide +kernel) e
    subst this
    refine pc_ob (fun r e => ?_)
    have := gq hS (e := 9) (by decide +kernel) e
    subst this
    refine pc_gd (fun _ => pc_cv (copyB_y hS) (fun d14 r14 => pc_ob (fun r e => ?_)))
    have := gq hS (e := 227) (by decide +kernel) e
    subst this
    obtain ⟨c1, c2, c3, c4, c5⟩ := r14
    refine pc_gd (fun _ => pc_cv (clr_y hS) (fun d18 r18 => pc_bd (fun d20 e20 => ?_)))
    obtain ⟨k1, k2⟩ := r18
    unfold fX11_read_J62
    have y0 : (sx (KS t n) i).1.2 = 0 := by
      by_cases z : (sx (KS t n) i).1.2 = 0
      · exact z
      · rw [h3] at q
        unfold vd at q
        rw [if_neg z] at q
        exact q
    obtain ⟨D0, D1, _, D16, _, DX2, DX4, DXm⟩ := hD q
    have o20 : ∀ r j, ¬ r = 0 → dI d20 r j = dI d18 r j := fun r j h => rdq e20 (Or.inl h)
    have b117 : ∀ j, j = 0 ∨ j = 1 ∨ j = 2 ∨ j = 4 ∨ j = 16 → dI d20 117 j = dI d5 9 j := fun j hj => by
      rw [o20 117 j (by decide), k2 117 j (by decide), c1 j hj, o9 9 j (by omega)]
    refine pc_some ⟨i, h1, h3, fun _ => ?_, fun z => absurd q z, fun _ => ⟨?_, ⟨?_, fun j hj => ?_, fun k hk => ?_⟩, ?_, ?_, ?_, ?_, ?_, (sx_c i y0).2, fun m hm => ?_⟩⟩
    · rw [rdq e20 (Or.inr (by decide)), k2 0 2 (by decide), c4 0 2 (Or.inl rfl), v2]
      exact hp0 q
    · rw [e20, sI_rd, if_pos ⟨rfl, rfl⟩]
    · rw [o20 227 5 (by decide)]
      exact k1.1
    · rw [o20 228 j (by decide)]
      exact k1.2.1 j hj
    · rw [o20 229 k (by decide), o20 231 k (by decide), o20 232 k (by decide), o20 233 k (by decide)]
      have F : dF d20 230 k = dF d18 230 k := by
        subst e20
        rfl
      rw [F]
      exact k1.2.2 k hk
    · rw [b117 0 (by omega)]
      exact D0
    · rw [b117 1 (by omega)]
      exact D1
    · rw [b117 2 (by omega)]
      exact DX2
    · rw [b117 4 (by omega)]
      exact DX4
    · rw [b117 16 (by omega)]
      exact D16
    · obtain ⟨y1, y2, y3⟩ := DXm m hm
      have hm4 := (sx_c i y0).2
      refine ⟨?_, y2, fun j hj => ?_⟩
      · rw [o20 123 m (by decide), k2 123 m (by decide), c2 m (by omega), o9 15 m (by omega)]
        exact y1
      · rw [o20 124 _ (by decide), k2 124 _ (by decide), c3 _ (by omega), o9 16 _ (by omega)]
        exact y3 j hj
  · unfold fX11_read_J62
    refine pc_some ⟨i, h1, h3, fun z => absurd z q, fun z => ⟨by rw [v2]; exact hp1 z, fun r j hr hj => ?_, ?_⟩, fun z => absurd z q⟩
    · rw [o9 r j hj]
      exact N5.1 r hr j
    · rw [e9, e8]
      exact N5.2
end RDC
