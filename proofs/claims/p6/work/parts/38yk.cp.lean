/-! course 268 from 227 -/
theorem scp_268_227 {g : Gs} (hS : Shp g) {d : Ds} : pc (fX6_copyFrom 10000 g 269 228 d) (fun _ d' => (∀ j, j < 4 → dI d' 269 j = dI d 228 j) ∧ (∀ k, k < 24 → dI d' 270 k = dI d 229 k ∧ dF d' 271 k = dF d 230 k ∧ dI d' 272 k = dI d 231 k ∧ dI d' 273 k = dI d 232 k ∧ dI d' 274 k = dI d 233 k) ∧ (∀ r j, ¬ (269 ≤ r ∧ r ≤ 274) → dI d' r j = dI d r j) ∧ ∀ r j, ¬ r = 271 → dF d' r j = dF d r j) := by
  have n0 : (0 : Int32).toNatClampNeg = 0 := by decide
  have n24 : (24 : Int32).toNatClampNeg = 24 := by decide
  unfold fX6_copyFrom
  refine pc_gd (fun _ => pc_gd (fun _ => pc_bd (fun d3 e3 => pc_bd (fun d4 e4 => pc_bd (fun d5 e5 => pc_bd (fun d6 e6 => pc_ob (fun r e => ?_)))))))
  have := gq hS (e := 229) (by decide +kernel) e
  subst this
  refine pc_ob (fun r e => ?_)
  have := gq hS (e := 270) (by decide +kernel) e
  subst this
  refine pc_gd (fun _ => pc_gd (fun _ => pc_gd (fun _ => pc_gd (fun _ => pc_gd (fun _ => pc_gd (fun _ => pc_bd (fun d15 e15 => pc_ob (fun r e => ?_))))))))
  have := gq hS (e := 230) (by decide +kernel) e
  subst this
  refine pc_ob (fun r e => ?_)
  have := gq hS (e := 271) (by decide +kernel) e
  subst this
  refine pc_gd (fun _ => pc_gd (fun _ => pc_gd (fun _ => pc_gd (fun _ => pc_bd (fun d22 e22 => pc_ob (fun r e => ?_))))))
  have := gq hS (e := 231) (by decide +kernel) e
  subst this
  refine pc_ob (fun r e => ?_)
  have := gq hS (e := 272) (by decide +kernel) e
  subst this
  refine pc_gd (fun _ => pc_gd (fun _ => pc_gd (fun _ => pc_gd (fun _ => pc_bd (fun d29 e29 => pc_ob (fun r e => ?_))))))
  have := gq hS (e := 232) (by decide +kernel) e
  subst this
  refine pc_ob (fun r e => ?_)
  have := gq hS (e := 273) (by decide +kernel) e
  subst this
  refine pc_gd (fun _ => pc_gd (fun _ => pc_gd (fun _ => pc_gd (fun _ => pc_bd (fun d36 e36 => pc_ob (fun r e => ?_))))))
  have := gq hS (e := 233) (by decide +kernel) e
  subst this
  refine pc_ob (fun r e => ?_)
  have := gq hS (e := 274) (by decide +kernel) e
  subst this
  refine pc_gd (fun _ => pc_gd (fun _ => pc_gd (fun _ => pc_gd (fun _ => pc_bd (fun d43 e43 => pc_some ?_)))))
  rw [n0, n24] at e15 e22 e29 e36 e43
  have o6 : ∀ r j, ¬ r = 269 → dI d6 r j = dI d r j := fun r j h => by
    rw [rdq e6 (Or.inl h), rdq e5 (Or.inl h), rdq e4 (Or.inl h), rdq e3 (Or.inl h)]
  have F6 : d6.2.1 = d.2.1 := by rw [e6, e5, e4, e3]; rfl
  have I43 : ∀ r j, dI d43 r j = if r = 274 ∧ j < 24 then dI d6 233 j else if r = 273 ∧ j < 24 then dI d6 232 j else if r = 272 ∧ j < 24 then dI d6 231 j else if r = 270 ∧ j < 24 then dI d6 229 j else dI d6 r j := by
    intro r j
    have s15 : ∀ r, ¬ r = 270 → dI d15 r = dI d6 r := fun r h => funext (fun j => by rw [e15, cI_rd, if_neg (fun z => h z.1)])
    have s22 : ∀ r, dI d22 r = dI d15 r := fun r => by rw [e22]; rfl
    have s29 : ∀ r, ¬ r = 272 → dI d29 r = dI d22 r := fun r h => funext (fun j => by rw [e29, cI_rd, if_neg (fun z => h z.1)])
    have s36 : ∀ r, ¬ r = 273 → dI d36 r = dI d29 r := fun r h => funext (fun j => by rw [e36, cI_rd, if_neg (fun z => h z.1)])
    by_cases a6 : r = 274 ∧ j < 24
    · rw [if_pos a6, e43, cI_rd, if_pos ⟨a6.1, by omega, by omega⟩, s36 233 (by decide), s29 233 (by decide), s22, s15 233 (by decide)]
      congr 1
      omega
    · rw [if_neg a6, e43, cI_rd, if_neg (fun z => a6 ⟨z.1, by omega⟩)]
      by_cases a5 : r = 273 ∧ j < 24
      · rw [if_pos a5, e36, cI_rd, if_pos ⟨a5.1, by omega, by omega⟩, s29 232 (by decide), s22, s15 232 (by decide)]
        congr 1
        omega
      · rw [if_neg a5, e36, cI_rd, if_neg (fun z => a5 ⟨z.1, by omega⟩)]
        by_cases a4 : r = 272 ∧ j < 24
        · rw [if_pos a4, e29, cI_rd, if_pos ⟨a4.1, by omega, by omega⟩, s22, s15 231 (by decide)]
          congr 1
          omega
        · rw [if_neg a4, e29, cI_rd, if_neg (fun z => a4 ⟨z.1, by omega⟩), s22]
          by_cases a2 : r = 270 ∧ j < 24
          · rw [if_pos a2, e15, cI_rd, if_pos ⟨a2.1, by omega, by omega⟩]
            congr 1
            omega
          · rw [if_neg a2, e15, cI_rd, if_neg (fun z => a2 ⟨z.1, by omega⟩)]
  have F43 : ∀ r j, dF d43 r j = if r = 271 ∧ j < 24 then dF d 230 j else dF d r j := by
    intro r j
    have f43 : dF d43 = dF d22 := by rw [e43, e36, e29]; rfl
    have f15 : dF d15 = dF d := by
      rw [e15]
      exact F6
    rw [f43, e22, cF_rd, f15]
    by_cases a : r = 271 ∧ j < 24
    · rw [if_pos a, if_pos ⟨a.1, by omega, by omega⟩]
      congr 1
      omega
    · rw [if_neg a, if_neg (fun z => a ⟨z.1, by omega⟩)]
  refine ⟨fun j hj => ?_, fun k hk => ⟨?_, ?_, ?_, ?_, ?_⟩, fun r j h => ?_, fun r j h => ?_⟩
  · rw [I43, if_neg (by omega), if_neg (by omega), if_neg (by omega), if_neg (by omega)]
    rcases (show j = 0 ∨ j = 1 ∨ j = 2 ∨ j = 3 by omega) with z | z | z | z <;> subst z
    · rw [rdq e6 (Or.inr (by decide)), rdq e5 (Or.inr (by decide)), rdq e4 (Or.inr (by decide)), e3, sI_rd, if_pos ⟨rfl, rfl⟩]
    · rw [rdq e6 (Or.inr (by decide)), rdq e5 (Or.inr (by decide)), e4, sI_rd, if_pos ⟨rfl, rfl⟩]
      exact rdq e3 (Or.inl (by decide))
    · rw [rdq e6 (Or.inr (by decide)), e5, sI_rd, if_pos ⟨rfl, rfl⟩, rdq e4 (Or.inl (by decide))]
      exact rdq e3 (Or.inl (by decide))
    · rw [e6, sI_rd, if_pos ⟨rfl, rfl⟩, rdq e5 (Or.inl (by decide)), rdq e4 (Or.inl (by decide))]
      exact rdq e3 (Or.inl (by decide))
  · rw [I43, if_neg (by omega), if_neg (by omega), if_neg (by omega), if_pos ⟨rfl, hk⟩]
    exact o6 229 k (by decide)
  · rw [F43, if_pos ⟨rfl, hk⟩]
  · rw [I43, if_neg (by omega), if_neg (by omega), if_pos ⟨rfl, hk⟩]
    exact o6 231 k (by decide)
  · rw [I43, if_neg (by omega), if_pos ⟨rfl, hk⟩]
    exact o6 232 k (by decide)
  · rw [I43, if_pos ⟨rfl, hk⟩]
    exact o6 233 k (by decide)
  · rw [I43, if_neg (by omega), if_neg (by omega), if_neg (by omega), if_neg (by omega)]
    exact o6 r j (by omega)
  · rw [F43, if_neg (fun z => h z.1)]
theorem cp_268_227 {g : Gs} (hS : Shp g) {d : Ds} : pc (fX1_copyFrom 10000 g 268 227 d) (fun _ d' => dI d' 268 5 = dI d 227 5 ∧ (∀ j, j < 4 → dI d' 269 j = dI d 228 j) ∧ (∀ k, k < 24 → dI d' 270 k = dI d 229 k ∧ dF d' 271 k = dF d 230 k ∧ dI d' 272 k = dI d 231 k ∧ dI d' 273 k = dI d 232 k ∧ dI d' 274 k = dI d 233 k) ∧ (∀ r j, ¬ (268 ≤ r ∧ r ≤ 287) → dI d' r j = dI d r j) ∧ ∀ r j, ¬ r = 271 → dF d' r j = dF d r j) := by
  unfold fX1_copyFrom
  refine pc_gd (fun _ => pc_gd (fun _ => pc_bd (fun d3 e3 => pc_ob (fun r e => ?_))))
  have := gq hS (e := 269) (by decide +kernel) e
  subst this
  refine pc_ob (fun r e => ?_)
  have := gq hS (e := 228) (by decide +kernel) e
  subst this
  refine pc_gd (fun _ => pc_cv (scp_268_227 hS) (fun d7 r7 => pc_ob (fun r e => ?_)))
  have := gq hS (e := 275) (by decide +kernel) e
  subst this
  obtain ⟨s1, s2, s3, s4⟩ := r7
  refine pc_ob (fun r e => ?_)
  have := gq hS (e := 234) (by decide +kernel) e
  subst this
  refine pc_gd (fun _ => pc_cv (P := fun _ d' => (∀ r j, ¬ (275 ≤ r ∧ r ≤ 276) → dI d' r j = dI d7 r j) ∧ dF d' = dF d7) (by
    unfold fX4_copyFrom
    refine pc_gd (fun _ => pc_gd (fun _ => pc_bd (fun d3 e3 => pc_bd (fun d4 e4 => pc_ob (fun r e => ?_)))))
    have := gq hS (e := 235) (by decide +kernel) e
    subst this
    refine pc_ob (fun r e => ?_)
    have := gq hS (e := 276) (by decide +kernel) e
    subst this
    refine pc_gd (fun _ => pc_gd (fun _ => pc_gd (fun _ => pc_gd (fun _ => pc_gd (fun _ => pc_gd (fun _ => pc_bd (fun d13 e13 => pc_some ⟨fun r j h => ?_, ?_⟩)))))))
    · rw [e13, cI_rd, if_neg (fun z => h (by omega)), rdq e4 (Or.inl (by omega)), rdq e3 (Or.inl (by omega))]
    · rw [e13, e4, e3]
      rfl) (fun d12 r12 => pc_ob (fun r e => ?_)))
  have := gq hS (e := 277) (by decide +kernel) e
  subst this
  refine pc_ob (fun r e => ?_)
  have := gq hS (e := 236) (by decide +kernel) e
  subst this
  refine pc_gd (fun _ => pc_cv (P := fun _ d' => (∀ r j, ¬ (277 ≤ r ∧ r ≤ 281) → dI d' r j = dI d12 r j) ∧ dF d' = dF d12) (by
    unfold fX3_copyFrom
    refine pc_gd (fun _ => pc_ob (fun r2 _ => pc_gd (fun _ => pc_ob (fun r e => ?_))))
    have := gq hS (e := 278) (by decide +kernel) e
    subst this
    refine pc_gd (fun _ => pc_gd (fun _ => pc_gd (fun _ => pc_gd (fun _ => pc_gd (fun _ => pc_gd (fun _ => pc_bd (fun d11 e11 => pc_ob (fun r12 _ => pc_ob (fun r e => ?_)))))))))
    have := gq hS (e := 279) (by decide +kernel) e
    subst this
    refine pc_gd (fun _ => pc_gd (fun _ => pc_gd (fun _ => pc_gd (fun _ => pc_bd (fun d18 e18 => pc_ob (fun r19 _ => pc_ob (fun r e => ?_)))))))
    have := gq hS (e := 280) (by decide +kernel) e
    subst this
    refine pc_gd (fun _ => pc_gd (fun _ => pc_gd (fun _ => pc_gd (fun _ => pc_bd (fun d25 e25 => pc_ob (fun r26 _ => pc_ob (fun r e => ?_)))))))
    have := gq hS (e := 281) (by decide +kernel) e
    subst this
    refine pc_gd (fun _ => pc_gd (fun _ => pc_gd (fun _ => pc_gd (fun _ => pc_bd (fun d32 e32 => pc_bd (fun d33 e33 => pc_bd (fun d34 e34 => pc_some ⟨fun r j h => ?_, ?_⟩)))))))
    · rw [rdq e34 (Or.inl (by omega)), rdq e33 (Or.inl (by omega)), e32, cI_rd, if_neg (fun z => h (by omega)), e25, cI_rd, if_neg (fun z => h (by omega)), e18, cI_rd, if_neg (fun z => h (by omega)), e11, cI_rd, if_neg (fun z => h (by omega))]
    · rw [e34, e33, e32, e25, e18, e11]
      rfl) (fun d17 r17 => pc_ob (fun r e => ?_)))
  have := gq hS (e := 283) (by decide +kernel) e
  subst this
  refine pc_ob (fun r e => ?_)
  have := gq hS (e := 242) (by decide +kernel) e
  subst this
  refine pc_gd (fun _ => pc_cv (P := fun _ d' => (∀ r j, ¬ (283 ≤ r ∧ r ≤ 287) → dI d' r j = dI d17 r j) ∧ dF d' = dF d17) (by
    unfold fX5_copyFrom
    refine pc_gd (fun _ => pc_ob (fun r2 _ => pc_gd (fun _ => pc_ob (fun r e => ?_))))
    have := gq hS (e := 284) (by decide +kernel) e
    subst this
    refine pc_gd (fun _ => pc_gd (fun _ => pc_gd (fun _ => pc_gd (fun _ => pc_gd (fun _ => pc_gd (fun _ => pc_bd (fun d11 e11 => pc_ob (fun r12 _ => pc_ob (fun r e => ?_)))))))))
    have := gq hS (e := 285) (by decide +kernel) e
    subst this
    refine pc_gd (fun _ => pc_gd (fun _ => pc_gd (fun _ => pc_gd (fun _ => pc_bd (fun d18 e18 => pc_ob (fun r19 _ => pc_ob (fun r e => ?_)))))))
    have := gq hS (e := 286) (by decide +kernel) e
    subst this
    refine pc_gd (fun _ => pc_gd (fun _ => pc_gd (fun _ => pc_gd (fun _ => pc_bd (fun d25 e25 => pc_ob (fun r26 _ => pc_ob (fun r e => ?_)))))))
    have := gq hS (e := 287) (by decide +kernel) e
    subst this
    refine pc_gd (fun _ => pc_gd (fun _ => pc_gd (fun _ => pc_gd (fun _ => pc_gd (fun _ => pc_bd (fun d33 e33 => pc_bd (fun d34 e34 => pc_bd (fun d35 e35 => pc_bd (fun d36 e36 => pc_bd (fun d37 e37 => pc_bd (fun d38 e38 => pc_some ⟨fun r j h => ?_, ?_⟩)))))))))))
    · rw [rdq e38 (Or.inl (by omega)), rdq e37 (Or.inl (by omega)), rdq e36 (Or.inl (by omega)), rdq e35 (Or.inl (by omega)), rdq e34 (Or.inl (by omega)), e33, cI_rd, if_neg (fun z => h (by omega)), e25, cI_rd, if_neg (fun z => h (by omega)), e18, cI_rd, if_neg (fun z => h (by omega)), e11, cI_rd, if_neg (fun z => h (by omega))]
    · rw [e38, e37, e36, e35, e34, e33, e25, e18, e11]
      rfl) (fun d22 r22 => pc_some ?_))
  have o : ∀ r j, r ≤ 274 ∨ 287 < r → dI d22 r j = dI d7 r j := fun r j h => by
    rw [r22.1 r j (by omega), r17.1 r j (by omega), r12.1 r j (by omega)]
  have F : dF d22 = dF d7 := r22.2.trans (r17.2.trans r12.2)
  have o3 : ∀ r j, ¬ r = 268 → dI d3 r j = dI d r j := fun r j h => rdq e3 (Or.inl h)
  have F3 : dF d3 = dF d := by rw [e3]; rfl
  refine ⟨?_, fun j hj => ?_, fun k hk => ?_, fun r j h => ?_, fun r j h => ?_⟩
  · rw [o 268 5 (by omega), s3 268 5 (by omega), e3, sI_rd, if_pos ⟨rfl, rfl⟩]
  · rw [o 269 j (by omega), s1 j hj]
    exact o3 228 j (by decide)
  · rw [o 270 k (by omega), o 272 k (by omega), o 273 k (by omega), o 274 k (by omega), F]
    obtain ⟨a, b, c, e, f⟩ := s2 k hk
    rw [a, b, c, e, f, o3 229 k (by decide), o3 231 k (by decide), o3 232 k (by decide), o3 233 k (by decide), F3]
    exact ⟨rfl, rfl, rfl, rfl, rfl⟩
  · rw [r22.1 r j (by omega), r17.1 r j (by omega), r12.1 r j (by omega), s3 r j (by omega)]
    exact o3 r j (by omega)
  · rw [F, s4 r j h, F3]
/-! course 288 from 227 -/
theorem scp_288_227 {g : Gs} (hS : Shp g) {d : Ds} : pc (fX6_copyFrom 10000 g 289 228 d) (fun _ d' => (∀ j, j < 4 → dI d' 289 j = dI d 228 j) ∧ (∀ k, k < 24 → dI d' 290 k = dI d 229 k ∧ dF d' 291 k = dF d 230 k ∧ dI d' 292 k = dI d 231 k ∧ dI d' 293 k = dI d 232 k ∧ dI d' 294 k = dI d 233 k) ∧ (∀ r j, ¬ (289 ≤ r ∧ r ≤ 294) → dI d' r j = dI d r j) ∧ ∀ r j, ¬ r = 291 → dF d' r j = dF d r j) := by
  have n0 : (0 : Int32).toNatClampNeg = 0 := by decide
  have n24 : (24 : Int32).toNatClampNeg = 24 := by decide
  unfold fX6_copyFrom
  refine pc_gd (fun _ => pc_gd (fun _ => pc_bd (fun d3 e3 => pc_bd (fun d4 e4 => pc_bd (fun d5 e5 => pc_bd (fun d6 e6 => pc_ob (fun r e => ?_)))))))
  have := gq hS (e := 229) (by decide +kernel) e
  subst this
  refine pc_ob (fun r e => ?_)
  have := gq hS (e := 290) (by decide +kernel) e
  subst this
  refine pc_gd (fun _ => pc_gd (fun _ => pc_gd (fun _ => pc_gd (fun _ => pc_gd (fun _ => pc_gd (fun _ => pc_bd (fun d15 e15 => pc_ob (fun r e => ?_))))))))
  have := gq hS (e := 230) (by decide +kernel) e
  subst this
  refine pc_ob (fun r e => ?_)
  have := gq hS (e := 291) (by decide +kernel) e
  subst this
  refine pc_gd (fun _ => pc_gd (fun _ => pc_gd (fun _ => pc_gd (fun _ => pc_bd (fun d22 e22 => pc_ob (fun r e => ?_))))))
  have := gq hS (e := 231) (by decide +kernel) e
  subst this
  refine pc_ob (fun r e => ?_)
  have := gq hS (e := 292) (by decide +kernel) e
  subst this
  refine pc_gd (fun _ => pc_gd (fun _ => pc_gd (fun _ => pc_gd (fun _ => pc_bd (fun d29 e29 => pc_ob (fun r e => ?_))))))
  have := gq hS (e := 232) (by decide +kernel) e
  subst this
  refine pc_ob (fun r e => ?_)
  have := gq hS (e := 293) (by decide +kernel) e
  subst this
  refine pc_gd (fun _ => pc_gd (fun _ => pc_gd (fun _ => pc_gd (fun _ => pc_bd (fun d36 e36 => pc_ob (fun r e => ?_))))))
  have := gq hS (e := 233) (by decide +kernel) e
  subst this
  refine pc_ob (fun r e => ?_)
  have := gq hS (e := 294) (by decide +kernel) e
  subst this
  refine pc_gd (fun _ => pc_gd (fun _ => pc_gd (fun _ => pc_gd (fun _ => pc_bd (fun d43 e43 => pc_some ?_)))))
  rw [n0, n24] at e15 e22 e29 e36 e43
  have o6 : ∀ r j, ¬ r = 289 → dI d6 r j = dI d r j := fun r j h => by
    rw [rdq e6 (Or.inl h), rdq e5 (Or.inl h), rdq e4 (Or.inl h), rdq e3 (Or.inl h)]
  have F6 : d6.2.1 = d.2.1 := by rw [e6, e5, e4, e3]; rfl
  have I43 : ∀ r j, dI d43 r j = if r = 294 ∧ j < 24 then dI d6 233 j else if r = 293 ∧ j < 24 then dI d6 232 j else if r = 292 ∧ j < 24 then dI d6 231 j else if r = 290 ∧ j < 24 then dI d6 229 j else dI d6 r j := by
    intro r j
    have s15 : ∀ r, ¬ r = 290 → dI d15 r = dI d6 r := fun r h => funext (fun j => by rw [e15, cI_rd, if_neg (fun z => h z.1)])
    have s22 : ∀ r, dI d22 r = dI d15 r := fun r => by rw [e22]; rfl
    have s29 : ∀ r, ¬ r = 292 → dI d29 r = dI d22 r := fun r h => funext (fun j => by rw [e29, cI_rd, if_neg (fun z => h z.1)])
    have s36 : ∀ r, ¬ r = 293 → dI d36 r = dI d29 r := fun r h => funext (fun j => by rw [e36, cI_rd, if_neg (fun z => h z.1)])
    by_cases a6 : r = 294 ∧ j < 24
    · rw [if_pos a6, e43, cI_rd, if_pos ⟨a6.1, by omega, by omega⟩, s36 233 (by decide), s29 233 (by decide), s22, s15 233 (by decide)]
      congr 1
      omega
    · rw [if_neg a6, e43, cI_rd, if_neg (fun z => a6 ⟨z.1, by omega⟩)]
      by_cases a5 : r = 293 ∧ j < 24
      · rw [if_pos a5, e36, cI_rd, if_pos ⟨a5.1, by omega, by omega⟩, s29 232 (by decide), s22, s15 232 (by decide)]
        congr 1
        omega
      · rw [if_neg a5, e36, cI_rd, if_neg (fun z => a5 ⟨z.1, by omega⟩)]
        by_cases a4 : r = 292 ∧ j < 24
        · rw [if_pos a4, e29, cI_rd, if_pos ⟨a4.1, by omega, by omega⟩, s22, s15 231 (by decide)]
          congr 1
          omega
        · rw [if_neg a4, e29, cI_rd, if_neg (fun z => a4 ⟨z.1, by omega⟩), s22]
          by_cases a2 : r = 290 ∧ j < 24
          · rw [if_pos a2, e15, cI_rd, if_pos ⟨a2.1, by omega, by omega⟩]
            congr 1
            omega
          · rw [if_neg a2, e15, cI_rd, if_neg (fun z => a2 ⟨z.1, by omega⟩)]
  have F43 : ∀ r j, dF d43 r j = if r = 291 ∧ j < 24 then dF d 230 j else dF d r j := by
    intro r j
    have f43 : dF d43 = dF d22 := by rw [e43, e36, e29]; rfl
    have f15 : dF d15 = dF d := by
      rw [e15]
      exact F6
    rw [f43, e22, cF_rd, f15]
    by_cases a : r = 291 ∧ j < 24
    · rw [if_pos a, if_pos ⟨a.1, by omega, by omega⟩]
      congr 1
      omega
    · rw [if_neg a, if_neg (fun z => a ⟨z.1, by omega⟩)]
  refine ⟨fun j hj => ?_, fun k hk => ⟨?_, ?_, ?_, ?_, ?_⟩, fun r j h => ?_, fun r j h => ?_⟩
  · rw [I43, if_neg (by omega), if_neg (by omega), if_neg (by omega), if_neg (by omega)]
    rcases (show j = 0 ∨ j = 1 ∨ j = 2 ∨ j = 3 by omega) with z | z | z | z <;> subst z
    · rw [rdq e6 (Or.inr (by decide)), rdq e5 (Or.inr (by decide)), rdq e4 (Or.inr (by decide)), e3, sI_rd, if_pos ⟨rfl, rfl⟩]
    · rw [rdq e6 (Or.inr (by decide)), rdq e5 (Or.inr (by decide)), e4, sI_rd, if_pos ⟨rfl, rfl⟩]
      exact rdq e3 (Or.inl (by decide))
    · rw [rdq e6 (Or.inr (by decide)), e5, sI_rd, if_pos ⟨rfl, rfl⟩, rdq e4 (Or.inl (by decide))]
      exact rdq e3 (Or.inl (by decide))
    · rw [e6, sI_rd, if_pos ⟨rfl, rfl⟩, rdq e5 (Or.inl (by decide)), rdq e4 (Or.inl (by decide))]
      exact rdq e3 (Or.inl (by decide))
  · rw [I43, if_neg (by omega), if_neg (by omega), if_neg (by omega), if_pos ⟨rfl, hk⟩]
    exact o6 229 k (by decide)
  · rw [F43, if_pos ⟨rfl, hk⟩]
  · rw [I43, if_neg (by omega), if_neg (by omega), if_pos ⟨rfl, hk⟩]
    exact o6 231 k (by decide)
  · rw [I43, if_neg (by omega), if_pos ⟨rfl, hk⟩]
    exact o6 232 k (by decide)
  · rw [I43, if_pos ⟨rfl, hk⟩]
    exact o6 233 k (by decide)
  · rw [I43, if_neg (by omega), if_neg (by omega), if_neg (by omega), if_neg (by omega)]
    exact o6 r j (by omega)
  · rw [F43, if_neg (fun z => h z.1)]
theorem cp_288_227 {g : Gs} (hS : Shp g) {d : Ds} : pc (fX1_copyFrom 10000 g 288 227 d) (fun _ d' => dI d' 288 5 = dI d 227 5 ∧ (∀ j, j < 4 → dI d' 289 j = dI d 228 j) ∧ (∀ k, k < 24 → dI d' 290 k = dI d 229 k ∧ dF d' 291 k = dF d 230 k ∧ dI d' 292 k = dI d 231 k ∧ dI d' 293 k = dI d 232 k ∧ dI d' 294 k = dI d 233 k) ∧ (∀ r j, ¬ (288 ≤ r ∧ r ≤ 307) → dI d' r j = dI d r j) ∧ ∀ r j, ¬ r = 291 → dF d' r j = dF d r j) := by
  unfold fX1_copyFrom
  refine pc_gd (fun _ => pc_gd (fun _ => pc_bd (fun d3 e3 => pc_ob (fun r e => ?_))))
  have := gq hS (e := 289) (by decide +kernel) e
  subst this
  refine pc_ob (fun r e => ?_)
  have := gq hS (e := 228) (by decide +kernel) e
  subst this
  refine pc_gd (fun _ => pc_cv (scp_288_227 hS) (fun d7 r7 => pc_ob (fun r e => ?_)))
  have := gq hS (e := 295) (by decide +kernel) e
  subst this
  obtain ⟨s1, s2, s3, s4⟩ := r7
  refine pc_ob (fun r e => ?_)
  have := gq hS (e := 234) (by decide +kernel) e
  subst this
  refine pc_gd (fun _ => pc_cv (P := fun _ d' => (∀ r j, ¬ (295 ≤ r ∧ r ≤ 296) → dI d' r j = dI d7 r j) ∧ dF d' = dF d7) (by
    unfold fX4_copyFrom
    refine pc_gd (fun _ => pc_gd (fun _ => pc_bd (fun d3 e3 => pc_bd (fun d4 e4 => pc_ob (fun r e => ?_)))))
    have := gq hS (e := 235) (by decide +kernel) e
    subst this
    refine pc_ob (fun r e => ?_)
    have := gq hS (e := 296) (by decide +kernel) e
    subst this
    refine pc_gd (fun _ => pc_gd (fun _ => pc_gd (fun _ => pc_gd (fun _ => pc_gd (fun _ => pc_gd (fun _ => pc_bd (fun d13 e13 => pc_some ⟨fun r j h => ?_, ?_⟩)))))))
    · rw [e13, cI_rd, if_neg (fun z => h (by omega)), rdq e4 (Or.inl (by omega)), rdq e3 (Or.inl (by omega))]
    · rw [e13, e4, e3]
      rfl) (fun d12 r12 => pc_ob (fun r e => ?_)))
  have := gq hS (e := 297) (by decide +kernel) e
  subst this
  refine pc_ob (fun r e => ?_)
  have := gq hS (e := 236) (by decide +kernel) e
  subst this
  refine pc_gd (fun _ => pc_cv (P := fun _ d' => (∀ r j, ¬ (297 ≤ r ∧ r ≤ 301) → dI d' r j = dI d12 r j) ∧ dF d' = dF d12) (by
    unfold fX3_copyFrom
    refine pc_gd (fun _ => pc_ob (fun r2 _ => pc_gd (fun _ => pc_ob (fun r e => ?_))))
    have := gq hS (e := 298) (by decide +kernel) e
    subst this
    refine pc_gd (fun _ => pc_gd (fun _ => pc_gd (fun _ => pc_gd (fun _ => pc_gd (fun _ => pc_gd (fun _ => pc_bd (fun d11 e11 => pc_ob (fun r12 _ => pc_ob (fun r e => ?_)))))))))
    have := gq hS (e := 299) (by decide +kernel) e
    subst this
    refine pc_gd (fun _ => pc_gd (fun _ => pc_gd (fun _ => pc_gd (fun _ => pc_bd (fun d18 e18 => pc_ob (fun r19 _ => pc_ob (fun r e => ?_)))))))
    have := gq hS (e := 300) (by decide +kernel) e
    subst this
    refine pc_gd (fun _ => pc_gd (fun _ => pc_gd (fun _ => pc_gd (fun _ => pc_bd (fun d25 e25 => pc_ob (fun r26 _ => pc_ob (fun r e => ?_)))))))
    have := gq hS (e := 301) (by decide +kernel) e
    subst this
    refine pc_gd (fun _ => pc_gd (fun _ => pc_gd (fun _ => pc_gd (fun _ => pc_bd (fun d32 e32 => pc_bd (fun d33 e33 => pc_bd (fun d34 e34 => pc_some ⟨fun r j h => ?_, ?_⟩)))))))
    · rw [rdq e34 (Or.inl (by omega)), rdq e33 (Or.inl (by omega)), e32, cI_rd, if_neg (fun z => h (by omega)), e25, cI_rd, if_neg (fun z => h (by omega)), e18, cI_rd, if_neg (fun z => h (by omega)), e11, cI_rd, if_neg (fun z => h (by omega))]
    · rw [e34, e33, e32, e25, e18, e11]
      rfl) (fun d17 r17 => pc_ob (fun r e => ?_)))
  have := gq hS (e := 303) (by decide +kernel) e
  subst this
  refine pc_ob (fun r e => ?_)
  have := gq hS (e := 242) (by decide +kernel) e
  subst this
  refine pc_gd (fun _ => pc_cv (P := fun _ d' => (∀ r j, ¬ (303 ≤ r ∧ r ≤ 307) → dI d' r j = dI d17 r j) ∧ dF d' = dF d17) (by
    unfold fX5_copyFrom
    refine pc_gd (fun _ => pc_ob (fun r2 _ => pc_gd (fun _ => pc_ob (fun r e => ?_))))
    have := gq hS (e := 304) (by decide +kernel) e
    subst this
    refine pc_gd (fun _ => pc_gd (fun _ => pc_gd (fun _ => pc_gd (fun _ => pc_gd (fun _ => pc_gd (fun _ => pc_bd (fun d11 e11 => pc_ob (fun r12 _ => pc_ob (fun r e => ?_)))))))))
    have := gq hS (e := 305) (by decide +kernel) e
    subst this
    refine pc_gd (fun _ => pc_gd (fun _ => pc_gd (fun _ => pc_gd (fun _ => pc_bd (fun d18 e18 => pc_ob (fun r19 _ => pc_ob (fun r e => ?_)))))))
    have := gq hS (e := 306) (by decide +kernel) e
    subst this
    refine pc_gd (fun _ => pc_gd (fun _ => pc_gd (fun _ => pc_gd (fun _ => pc_bd (fun d25 e25 => pc_ob (fun r26 _ => pc_ob (fun r e => ?_)))))))
    have := gq hS (e := 307) (by decide +kernel) e
    subst this
    refine pc_gd (fun _ => pc_gd (fun _ => pc_gd (fun _ => pc_gd (fun _ => pc_gd (fun _ => pc_bd (fun d33 e33 => pc_bd (fun d34 e34 => pc_bd (fun d35 e35 => pc_bd (fun d36 e36 => pc_bd (fun d37 e37 => pc_bd (fun d38 e38 => pc_some ⟨fun r j h => ?_, ?_⟩)))))))))))
    · rw [rdq e38 (Or.inl (by omega)), rdq e37 (Or.inl (by omega)), rdq e36 (Or.inl (by omega)), rdq e35 (Or.inl (by omega)), rdq e34 (Or.inl (by omega)), e33, cI_rd, if_neg (fun z => h (by omega)), e25, cI_rd, if_neg (fun z => h (by omega)), e18, cI_rd, if_neg (fun z => h (by omega)), e11, cI_rd, if_neg (fun z => h (by omega))]
    · rw [e38, e37, e36, e35, e34, e33, e25, e18, e11]
      rfl) (fun d22 r22 => pc_some ?_))
  have o : ∀ r j, r ≤ 294 ∨ 307 < r → dI d22 r j = dI d7 r j := fun r j h => by
    rw [r22.1 r j (by omega), r17.1 r j (by omega), r12.1 r j (by omega)]
  have F : dF d22 = dF d7 := r22.2.trans (r17.2.trans r12.2)
  have o3 : ∀ r j, ¬ r = 288 → dI d3 r j = dI d r j := fun r j h => rdq e3 (Or.inl h)
  have F3 : dF d3 = dF d := by rw [e3]; rfl
  refine ⟨?_, fun j hj => ?_, fun k hk => ?_, fun r j h => ?_, fun r j h => ?_⟩
  · rw [o 288 5 (by omega), s3 288 5 (by omega), e3, sI_rd, if_pos ⟨rfl, rfl⟩]
  · rw [o 289 j (by omega), s1 j hj]
    exact o3 228 j (by decide)
  · rw [o 290 k (by omega), o 292 k (by omega), o 293 k (by omega), o 294 k (by omega), F]
    obtain ⟨a, b, c, e, f⟩ := s2 k hk
    rw [a, b, c, e, f, o3 229 k (by decide), o3 231 k (by decide), o3 232 k (by decide), o3 233 k (by decide), F3]
    exact ⟨rfl, rfl, rfl, rfl, rfl⟩
  · rw [r22.1 r j (by omega), r17.1 r j (by omega), r12.1 r j (by omega), s3 r j (by omega)]
    exact o3 r j (by omega)
  · rw [F, s4 r j h, F3]
/-! course 308 from 227 -/
theorem scp_308_227 {g : Gs} (hS : Shp g) {d : Ds} : pc (fX6_copyFrom 10000 g 309 228 d) (fun _ d' => (∀ j, j < 4 → dI d' 309 j = dI d 228 j) ∧ (∀ k, k < 24 → dI d' 310 k = dI d 229 k ∧ dF d' 311 k = dF d 230 k ∧ dI d' 312 k = dI d 231 k ∧ dI d' 313 k = dI d 232 k ∧ dI d' 314 k = dI d 233 k) ∧ (∀ r j, ¬ (309 ≤ r ∧ r ≤ 314) → dI d' r j = dI d r j) ∧ ∀ r j, ¬ r = 311 → dF d' r j = dF d r j) := by
  have n0 : (0 : Int32).toNatClampNeg = 0 := by decide
  have n24 : (24 : Int32).toNatClampNeg = 24 := by decide
  unfold fX6_copyFrom
  refine pc_gd (fun _ => pc_gd (fun _ => pc_bd (fun d3 e3 => pc_bd (fun d4 e4 => pc_bd (fun d5 e5 => pc_bd (fun d6 e6 => pc_ob (fun r e => ?_)))))))
  have := gq hS (e := 229) (by decide +kernel) e
  subst this
  refine pc_ob (fun r e => ?_)
  have := gq hS (e := 310) (by decide +kernel) e
  subst this
  refine pc_gd (fun _ => pc_gd (fun _ => pc_gd (fun _ => pc_gd (fun _ => pc_gd (fun _ => pc_gd (fun _ => pc_bd (fun d15 e15 => pc_ob (fun r e => ?_))))))))
  have := gq hS (e := 230) (by decide +kernel) e
  subst this
  refine pc_ob (fun r e => ?_)
  have := gq hS (e := 311) (by decide +kernel) e
  subst this
  refine pc_gd (fun _ => pc_gd (fun _ => pc_gd (fun _ => pc_gd (fun _ => pc_bd (fun d22 e22 => pc_ob (fun r e => ?_))))))
  have := gq hS (e := 231) (by decide +kernel) e
  subst this
  refine pc_ob (fun r e => ?_)
  have := gq hS (e := 312) (by decide +kernel) e
  subst this
  refine pc_gd (fun _ => pc_gd (fun _ => pc_gd (fun _ => pc_gd (fun _ => pc_bd (fun d29 e29 => pc_ob (fun r e => ?_))))))
  have := gq hS (e := 232) (by decide +kernel) e
  subst this
  refine pc_ob (fun r e => ?_)
  have := gq hS (e := 313) (by decide +kernel) e
  subst this
  refine pc_gd (fun _ => pc_gd (fun _ => pc_gd (fun _ => pc_gd (fun _ => pc_bd (fun d36 e36 => pc_ob (fun r e => ?_))))))
  have := gq hS (e := 233) (by decide +kernel) e
  subst this
  refine pc_ob (fun r e => ?_)
  have := gq hS (e := 314) (by decide +kernel) e
  subst this
  refine pc_gd (fun _ => pc_gd (fun _ => pc_gd (fun _ => pc_gd (fun _ => pc_bd (fun d43 e43 => pc_some ?_)))))
  rw [n0, n24] at e15 e22 e29 e36 e43
  have o6 : ∀ r j, ¬ r = 309 → dI d6 r j = dI d r j := fun r j h => by
    rw [rdq e6 (Or.inl h), rdq e5 (Or.inl h), rdq e4 (Or.inl h), rdq e3 (Or.inl h)]
  have F6 : d6.2.1 = d.2.1 := by rw [e6, e5, e4, e3]; rfl
  have I43 : ∀ r j, dI d43 r j = if r = 314 ∧ j < 24 then dI d6 233 j else if r = 313 ∧ j < 24 then dI d6 232 j else if r = 312 ∧ j < 24 then dI d6 231 j else if r = 310 ∧ j < 24 then dI d6 229 j else dI d6 r j := by
    intro r j
    have s15 : ∀ r, ¬ r = 310 → dI d15 r = dI d6 r := fun r h => funext (fun j => by rw [e15, cI_rd, if_neg (fun z => h z.1)])
    have s22 : ∀ r, dI d22 r = dI d15 r := fun r => by rw [e22]; rfl
    have s29 : ∀ r, ¬ r = 312 → dI d29 r = dI d22 r := fun r h => funext (fun j => by rw [e29, cI_rd, if_neg (fun z => h z.1)])
    have s36 : ∀ r, ¬ r = 313 → dI d36 r = dI d29 r := fun r h => funext (fun j => by rw [e36, cI_rd, if_neg (fun z => h z.1)])
    by_cases a6 : r = 314 ∧ j < 24
    · rw [if_pos a6, e43, cI_rd, if_pos ⟨a6.1, by omega, by omega⟩, s36 233 (by decide), s29 233 (by decide), s22, s15 233 (by decide)]
      congr 1
      omega
    · rw [if_neg a6, e43, cI_rd, if_neg (fun z => a6 ⟨z.1, by omega⟩)]
      by_cases a5 : r = 313 ∧ j < 24
      · rw [if_pos a5, e36, cI_rd, if_pos ⟨a5.1, by omega, by omega⟩, s29 232 (by decide), s22, s15 232 (by decide)]
        congr 1
        omega
      · rw [if_neg a5, e36, cI_rd, if_neg (fun z => a5 ⟨z.1, by omega⟩)]
        by_cases a4 : r = 312 ∧ j < 24
        · rw [if_pos a4, e29, cI_rd, if_pos ⟨a4.1, by omega, by omega⟩, s22, s15 231 (by decide)]
          congr 1
          omega
        · rw [if_neg a4, e29, cI_rd, if_neg (fun z => a4 ⟨z.1, by omega⟩), s22]
          by_cases a2 : r = 310 ∧ j < 24
          · rw [if_pos a2, e15, cI_rd, if_pos ⟨a2.1, by omega, by omega⟩]
            congr 1
            omega
          · rw [if_neg a2, e15, cI_rd, if_neg (fun z => a2 ⟨z.1, by omega⟩)]
  have F43 : ∀ r j, dF d43 r j = if r = 311 ∧ j < 24 then dF d 230 j else dF d r j := by
    intro r j
    have f43 : dF d43 = dF d22 := by rw [e43, e36, e29]; rfl
    have f15 : dF d15 = dF d := by
      rw [e15]
      exact F6
    rw [f43, e22, cF_rd, f15]
    by_cases a : r = 311 ∧ j < 24
    · rw [if_pos a, if_pos ⟨a.1, by omega, by omega⟩]
      congr 1
      omega
    · rw [if_neg a, if_neg (fun z => a ⟨z.1, by omega⟩)]
  refine ⟨fun j hj => ?_, fun k hk => ⟨?_, ?_, ?_, ?_, ?_⟩, fun r j h => ?_, fun r j h => ?_⟩
  · rw [I43, if_neg (by omega), if_neg (by omega), if_neg (by omega), if_neg (by omega)]
    rcases (show j = 0 ∨ j = 1 ∨ j = 2 ∨ j = 3 by omega) with z | z | z | z <;> subst z
    · rw [rdq e6 (Or.inr (by decide)), rdq e5 (Or.inr (by decide)), rdq e4 (Or.inr (by decide)), e3, sI_rd, if_pos ⟨rfl, rfl⟩]
    · rw [rdq e6 (Or.inr (by decide)), rdq e5 (Or.inr (by decide)), e4, sI_rd, if_pos ⟨rfl, rfl⟩]
      exact rdq e3 (Or.inl (by decide))
    · rw [rdq e6 (Or.inr (by decide)), e5, sI_rd, if_pos ⟨rfl, rfl⟩, rdq e4 (Or.inl (by decide))]
      exact rdq e3 (Or.inl (by decide))
    · rw [e6, sI_rd, if_pos ⟨rfl, rfl⟩, rdq e5 (Or.inl (by decide)), rdq e4 (Or.inl (by decide))]
      exact rdq e3 (Or.inl (by decide))
  · rw [I43, if_neg (by omega), if_neg (by omega), if_neg (by omega), if_pos ⟨rfl, hk⟩]
    exact o6 229 k (by decide)
  · rw [F43, if_pos ⟨rfl, hk⟩]
  · rw [I43, if_neg (by omega), if_neg (by omega), if_pos ⟨rfl, hk⟩]
    exact o6 231 k (by decide)
  · rw [I43, if_neg (by omega), if_pos ⟨rfl, hk⟩]
    exact o6 232 k (by decide)
  · rw [I43, if_pos ⟨rfl, hk⟩]
    exact o6 233 k (by decide)
  · rw [I43, if_neg (by omega), if_neg (by omega), if_neg (by omega), if_neg (by omega)]
    exact o6 r j (by omega)
  · rw [F43, if_neg (fun z => h z.1)]
theorem cp_308_227 {g : Gs} (hS : Shp g) {d : Ds} : pc (fX1_copyFrom 10000 g 308 227 d) (fun _ d' => dI d' 308 5 = dI d 227 5 ∧ (∀ j, j < 4 → dI d' 309 j = dI d 228 j) ∧ (∀ k, k < 24 → dI d' 310 k = dI d 229 k ∧ dF d' 311 k = dF d 230 k ∧ dI d' 312 k = dI d 231 k ∧ dI d' 313 k = dI d 232 k ∧ dI d' 314 k = dI d 233 k) ∧ (∀ r j, ¬ (308 ≤ r ∧ r ≤ 327) → dI d' r j = dI d r j) ∧ ∀ r j, ¬ r = 311 → dF d' r j = dF d r j) := by
  unfold fX1_copyFrom
  refine pc_gd (fun _ => pc_gd (fun _ => pc_bd (fun d3 e3 => pc_ob (fun r e => ?_))))
  have := gq hS (e := 309) (by decide +kernel) e
  subst this
  refine pc_ob (fun r e => ?_)
  have := gq hS (e := 228) (by decide +kernel) e
  subst this
  refine pc_gd (fun _ => pc_cv (scp_308_227 hS) (fun d7 r7 => pc_ob (fun r e => ?_)))
  have := gq hS (e := 315) (by decide +kernel) e
  subst this
  obtain ⟨s1, s2, s3, s4⟩ := r7
  refine pc_ob (fun r e => ?_)
  have := gq hS (e := 234) (by decide +kernel) e
  subst this
  refine pc_gd (fun _ => pc_cv (P := fun _ d' => (∀ r j, ¬ (315 ≤ r ∧ r ≤ 316) → dI d' r j = dI d7 r j) ∧ dF d' = dF d7) (by
    unfold fX4_copyFrom
    refine pc_gd (fun _ => pc_gd (fun _ => pc_bd (fun d3 e3 => pc_bd (fun d4 e4 => pc_ob (fun r e => ?_)))))
    have := gq hS (e := 235) (by decide +kernel) e
    subst this
    refine pc_ob (fun r e => ?_)
    have := gq hS (e := 316) (by decide +kernel) e
    subst this
    refine pc_gd (fun _ => pc_gd (fun _ => pc_gd (fun _ => pc_gd (fun _ => pc_gd (fun _ => pc_gd (fun _ => pc_bd (fun d13 e13 => pc_some ⟨fun r j h => ?_, ?_⟩)))))))
    · rw [e13, cI_rd, if_neg (fun z => h (by omega)), rdq e4 (Or.inl (by omega)), rdq e3 (Or.inl (by omega))]
    · rw [e13, e4, e3]
      rfl) (fun d12 r12 => pc_ob (fun r e => ?_)))
  have := gq hS (e := 317) (by decide +kernel) e
  subst this
  refine pc_ob (fun r e => ?_)
  have := gq hS (e := 236) (by decide +kernel) e
  subst this
  refine pc_gd (fun _ => pc_cv (P := fun _ d' => (∀ r j, ¬ (317 ≤ r ∧ r ≤ 321) → dI d' r j = dI d12 r j) ∧ dF d' = dF d12) (by
    unfold fX3_copyFrom
    refine pc_gd (fun _ => pc_ob (fun r2 _ => pc_gd (fun _ => pc_ob (fun r e => ?_))))
    have := gq hS (e := 318) (by decide +kernel) e
    subst this
    refine pc_gd (fun _ => pc_gd (fun _ => pc_gd (fun _ => pc_gd (fun _ => pc_gd (fun _ => pc_gd (fun _ => pc_bd (fun d11 e11 => pc_ob (fun r12 _ => pc_ob (fun r e => ?_)))))))))
    have := gq hS (e := 319) (by decide +kernel) e
    subst this
    refine pc_gd (fun _ => pc_gd (fun _ => pc_gd (fun _ => pc_gd (fun _ => pc_bd (fun d18 e18 => pc_ob (fun r19 _ => pc_ob (fun r e => ?_)))))))
    have := gq hS (e := 320) (by decide +kernel) e
    subst this
    refine pc_gd (fun _ => pc_gd (fun _ => pc_gd (fun _ => pc_gd (fun _ => pc_bd (fun d25 e25 => pc_ob (fun r26 _ => pc_ob (fun r e => ?_)))))))
    have := gq hS (e := 321) (by decide +kernel) e
    subst this
    refine pc_gd (fun _ => pc_gd (fun _ => pc_gd (fun _ => pc_gd (fun _ => pc_bd (fun d32 e32 => pc_bd (fun d33 e33 => pc_bd (fun d34 e34 => pc_some ⟨fun r j h => ?_, ?_⟩)))))))
    · rw [rdq e34 (Or.inl (by omega)), rdq e33 (Or.inl (by omega)), e32, cI_rd, if_neg (fun z => h (by omega)), e25, cI_rd, if_neg (fun z => h (by omega)), e18, cI_rd, if_neg (fun z => h (by omega)), e11, cI_rd, if_neg (fun z => h (by omega))]
    · rw [e34, e33, e32, e25, e18, e11]
      rfl) (fun d17 r17 => pc_ob (fun r e => ?_)))
  have := gq hS (e := 323) (by decide +kernel) e
  subst this
  refine pc_ob (fun r e => ?_)
  have := gq hS (e := 242) (by decide +kernel) e
  subst this
  refine pc_gd (fun _ => pc_cv (P := fun _ d' => (∀ r j, ¬ (323 ≤ r ∧ r ≤ 327) → dI d' r j = dI d17 r j) ∧ dF d' = dF d17) (by
    unfold fX5_copyFrom
    refine pc_gd (fun _ => pc_ob (fun r2 _ => pc_gd (fun _ => pc_ob (fun r e => ?_))))
    have := gq hS (e := 324) (by decide +kernel) e
    subst this
    refine pc_gd (fun _ => pc_gd (fun _ => pc_gd (fun _ => pc_gd (fun _ => pc_gd (fun _ => pc_gd (fun _ => pc_bd (fun d11 e11 => pc_ob (fun r12 _ => pc_ob (fun r e => ?_)))))))))
    have := gq hS (e := 325) (by decide +kernel) e
    subst this
    refine pc_gd (fun _ => pc_gd (fun _ => pc_gd (fun _ => pc_gd (fun _ => pc_bd (fun d18 e18 => pc_ob (fun r19 _ => pc_ob (fun r e => ?_)))))))
    have := gq hS (e := 326) (by decide +kernel) e
    subst this
    refine pc_gd (fun _ => pc_gd (fun _ => pc_gd (fun _ => pc_gd (fun _ => pc_bd (fun d25 e25 => pc_ob (fun r26 _ => pc_ob (fun r e => ?_)))))))
    have := gq hS (e := 327) (by decide +kernel) e
    subst this
    refine pc_gd (fun _ => pc_gd (fun _ => pc_gd (fun _ => pc_gd (fun _ => pc_gd (fun _ => pc_bd (fun d33 e33 => pc_bd (fun d34 e34 => pc_bd (fun d35 e35 => pc_bd (fun d36 e36 => pc_bd (fun d37 e37 => pc_bd (fun d38 e38 => pc_some ⟨fun r j h => ?_, ?_⟩)))))))))))
    · rw [rdq e38 (Or.inl (by omega)), rdq e37 (Or.inl (by omega)), rdq e36 (Or.inl (by omega)), rdq e35 (Or.inl (by omega)), rdq e34 (Or.inl (by omega)), e33, cI_rd, if_neg (fun z => h (by omega)), e25, cI_rd, if_neg (fun z => h (by omega)), e18, cI_rd, if_neg (fun z => h (by omega)), e11, cI_rd, if_neg (fun z => h (by omega))]
    · rw [e38, e37, e36, e35, e34, e33, e25, e18, e11]
      rfl) (fun d22 r22 => pc_some ?_))
  have o : ∀ r j, r ≤ 314 ∨ 327 < r → dI d22 r j = dI d7 r j := fun r j h => by
    rw [r22.1 r j (by omega), r17.1 r j (by omega), r12.1 r j (by omega)]
  have F : dF d22 = dF d7 := r22.2.trans (r17.2.trans r12.2)
  have o3 : ∀ r j, ¬ r = 308 → dI d3 r j = dI d r j := fun r j h => rdq e3 (Or.inl h)
  have F3 : dF d3 = dF d := by rw [e3]; rfl
  refine ⟨?_, fun j hj => ?_, fun k hk => ?_, fun r j h => ?_, fun r j h => ?_⟩
  · rw [o 308 5 (by omega), s3 308 5 (by omega), e3, sI_rd, if_pos ⟨rfl, rfl⟩]
  · rw [o 309 j (by omega), s1 j hj]
    exact o3 228 j (by decide)
  · rw [o 310 k (by omega), o 312 k (by omega), o 313 k (by omega), o 314 k (by omega), F]
    obtain ⟨a, b, c, e, f⟩ := s2 k hk
    rw [a, b, c, e, f, o3 229 k (by decide), o3 231 k (by decide), o3 232 k (by decide), o3 233 k (by decide), F3]
    exact ⟨rfl, rfl, rfl, rfl, rfl⟩
  · rw [r22.1 r j (by omega), r17.1 r j (by omega), r12.1 r j (by omega), s3 r j (by omega)]
    exact o3 r j (by omega)
  · rw [F, s4 r j h, F3]
/-! course 227 from 268 -/
theorem scp_227_268 {g : Gs} (hS : Shp g) {d : Ds} : pc (fX6_copyFrom 10000 g 228 269 d) (fun _ d' => (∀ j, j < 4 → dI d' 228 j = dI d 269 j) ∧ (∀ k, k < 24 → dI d' 229 k = dI d 270 k ∧ dF d' 230 k = dF d 271 k ∧ dI d' 231 k = dI d 272 k ∧ dI d' 232 k = dI d 273 k ∧ dI d' 233 k = dI d 274 k) ∧ (∀ r j, ¬ (228 ≤ r ∧ r ≤ 233) → dI d' r j = dI d r j) ∧ ∀ r j, ¬ r = 230 → dF d' r j = dF d r j) := by
  have n0 : (0 : Int32).toNatClampNeg = 0 := by decide
  have n24 : (24 : Int32).toNatClampNeg = 24 := by decide
  unfold fX6_copyFrom
  refine pc_gd (fun _ => pc_gd (fun _ => pc_bd (fun d3 e3 => pc_bd (fun d4 e4 => pc_bd (fun d5 e5 => pc_bd (fun d6 e6 => pc_ob (fun r e => ?_)))))))
  have := gq hS (e := 270) (by decide +kernel) e
  subst this
  refine pc_ob (fun r e => ?_)
  have := gq hS (e := 229) (by decide +kernel) e
  subst this
  refine pc_gd (fun _ => pc_gd (fun _ => pc_gd (fun _ => pc_gd (fun _ => pc_gd (fun _ => pc_gd (fun _ => pc_bd (fun d15 e15 => pc_ob (fun r e => ?_))))))))
  have := gq hS (e := 271) (by decide +kernel) e
  subst this
  refine pc_ob (fun r e => ?_)
  have := gq hS (e := 230) (by decide +kernel) e
  subst this
  refine pc_gd (fun _ => pc_gd (fun _ => pc_gd (fun _ => pc_gd (fun _ => pc_bd (fun d22 e22 => pc_ob (fun r e => ?_))))))
  have := gq hS (e := 272) (by decide +kernel) e
  subst this
  refine pc_ob (fun r e => ?_)
  have := gq hS (e := 231) (by decide +kernel) e
  subst this
  refine pc_gd (fun _ => pc_gd (fun _ => pc_gd (fun _ => pc_gd (fun _ => pc_bd (fun d29 e29 => pc_ob (fun r e => ?_))))))
  have := gq hS (e := 273) (by decide +kernel) e
  subst this
  refine pc_ob (fun r e => ?_)
  have := gq hS (e := 232) (by decide +kernel) e
  subst this
  refine pc_gd (fun _ => pc_gd (fun _ => pc_gd (fun _ => pc_gd (fun _ => pc_bd (fun d36 e36 => pc_ob (fun r e => ?_))))))
  have := gq hS (e := 274) (by decide +kernel) e
  subst this
  refine pc_ob (fun r e => ?_)
  have := gq hS (e := 233) (by decide +kernel) e
  subst this
  refine pc_gd (fun _ => pc_gd (fun _ => pc_gd (fun _ => pc_gd (fun _ => pc_bd (fun d43 e43 => pc_some ?_)))))
  rw [n0, n24] at e15 e22 e29 e36 e43
  have o6 : ∀ r j, ¬ r = 228 → dI d6 r j = dI d r j := fun r j h => by
    rw [rdq e6 (Or.inl h), rdq e5 (Or.inl h), rdq e4 (Or.inl h), rdq e3 (Or.inl h)]
  have F6 : d6.2.1 = d.2.1 := by rw [e6, e5, e4, e3]; rfl
  have I43 : ∀ r j, dI d43 r j = if r = 233 ∧ j < 24 then dI d6 274 j else if r = 232 ∧ j < 24 then dI d6 273 j else if r = 231 ∧ j < 24 then dI d6 272 j else if r = 229 ∧ j < 24 then dI d6 270 j else dI d6 r j := by
    intro r j
    have s15 : ∀ r, ¬ r = 229 → dI d15 r = dI d6 r := fun r h => funext (fun j => by rw [e15, cI_rd, if_neg (fun z => h z.1)])
    have s22 : ∀ r, dI d22 r = dI d15 r := fun r => by rw [e22]; rfl
    have s29 : ∀ r, ¬ r = 231 → dI d29 r = dI d22 r := fun r h => funext (fun j => by rw [e29, cI_rd, if_neg (fun z => h z.1)])
    have s36 : ∀ r, ¬ r = 232 → dI d36 r = dI d29 r := fun r h => funext (fun j => by rw [e36, cI_rd, if_neg (fun z => h z.1)])
    by_cases a6 : r = 233 ∧ j < 24
    · rw [if_pos a6, e43, cI_rd, if_pos ⟨a6.1, by omega, by omega⟩, s36 274 (by decide), s29 274 (by decide), s22, s15 274 (by decide)]
      congr 1
      omega
    · rw [if_neg a6, e43, cI_rd, if_neg (fun z => a6 ⟨z.1, by omega⟩)]
      by_cases a5 : r = 232 ∧ j < 24
      · rw [if_pos a5, e36, cI_rd, if_pos ⟨a5.1, by omega, by omega⟩, s29 273 (by decide), s22, s15 273 (by decide)]
        congr 1
        omega
      · rw [if_neg a5, e36, cI_rd, if_neg (fun z => a5 ⟨z.1, by omega⟩)]
        by_cases a4 : r = 231 ∧ j < 24
        · rw [if_pos a4, e29, cI_rd, if_pos ⟨a4.1, by omega, by omega⟩, s22, s15 272 (by decide)]
          congr 1
          omega
        · rw [if_neg a4, e29, cI_rd, if_neg (fun z => a4 ⟨z.1, by omega⟩), s22]
          by_cases a2 : r = 229 ∧ j < 24
          · rw [if_pos a2, e15, cI_rd, if_pos ⟨a2.1, by omega, by omega⟩]
            congr 1
            omega
          · rw [if_neg a2, e15, cI_rd, if_neg (fun z => a2 ⟨z.1, by omega⟩)]
  have F43 : ∀ r j, dF d43 r j = if r = 230 ∧ j < 24 then dF d 271 j else dF d r j := by
    intro r j
    have f43 : dF d43 = dF d22 := by rw [e43, e36, e29]; rfl
    have f15 : dF d15 = dF d := by
      rw [e15]
      exact F6
    rw [f43, e22, cF_rd, f15]
    by_cases a : r = 230 ∧ j < 24
    · rw [if_pos a, if_pos ⟨a.1, by omega, by omega⟩]
      congr 1
      omega
    · rw [if_neg a, if_neg (fun z => a ⟨z.1, by omega⟩)]
  refine ⟨fun j hj => ?_, fun k hk => ⟨?_, ?_, ?_, ?_, ?_⟩, fun r j h => ?_, fun r j h => ?_⟩
  · rw [I43, if_neg (by omega), if_neg (by omega), if_neg (by omega), if_neg (by omega)]
    rcases (show j = 0 ∨ j = 1 ∨ j = 2 ∨ j = 3 by omega) with z | z | z | z <;> subst z
    · rw [rdq e6 (Or.inr (by decide)), rdq e5 (Or.inr (by decide)), rdq e4 (Or.inr (by decide)), e3, sI_rd, if_pos ⟨rfl, rfl⟩]
    · rw [rdq e6 (Or.inr (by decide)), rdq e5 (Or.inr (by decide)), e4, sI_rd, if_pos ⟨rfl, rfl⟩]
      exact rdq e3 (Or.inl (by decide))
    · rw [rdq e6 (Or.inr (by decide)), e5, sI_rd, if_pos ⟨rfl, rfl⟩, rdq e4 (Or.inl (by decide))]
      exact rdq e3 (Or.inl (by decide))
    · rw [e6, sI_rd, if_pos ⟨rfl, rfl⟩, rdq e5 (Or.inl (by decide)), rdq e4 (Or.inl (by decide))]
      exact rdq e3 (Or.inl (by decide))
  · rw [I43, if_neg (by omega), if_neg (by omega), if_neg (by omega), if_pos ⟨rfl, hk⟩]
    exact o6 270 k (by decide)
  · rw [F43, if_pos ⟨rfl, hk⟩]
  · rw [I43, if_neg (by omega), if_neg (by omega), if_pos ⟨rfl, hk⟩]
    exact o6 272 k (by decide)
  · rw [I43, if_neg (by omega), if_pos ⟨rfl, hk⟩]
    exact o6 273 k (by decide)
  · rw [I43, if_pos ⟨rfl, hk⟩]
    exact o6 274 k (by decide)
  · rw [I43, if_neg (by omega), if_neg (by omega), if_neg (by omega), if_neg (by omega)]
    exact o6 r j (by omega)
  · rw [F43, if_neg (fun z => h z.1)]
theorem cp_227_268 {g : Gs} (hS : Shp g) {d : Ds} : pc (fX1_copyFrom 10000 g 227 268 d) (fun _ d' => dI d' 227 5 = dI d 268 5 ∧ (∀ j, j < 4 → dI d' 228 j = dI d 269 j) ∧ (∀ k, k < 24 → dI d' 229 k = dI d 270 k ∧ dF d' 230 k = dF d 271 k ∧ dI d' 231 k = dI d 272 k ∧ dI d' 232 k = dI d 273 k ∧ dI d' 233 k = dI d 274 k) ∧ (∀ r j, ¬ (227 ≤ r ∧ r ≤ 246) → dI d' r j = dI d r j) ∧ ∀ r j, ¬ r = 230 → dF d' r j = dF d r j) := by
  unfold fX1_copyFrom
  refine pc_gd (fun _ => pc_gd (fun _ => pc_bd (fun d3 e3 => pc_ob (fun r e => ?_))))
  have := gq hS (e := 228) (by decide +kernel) e
  subst this
  refine pc_ob (fun r e => ?_)
  have := gq hS (e := 269) (by decide +kernel) e
  subst this
  refine pc_gd (fun _ => pc_cv (scp_227_268 hS) (fun d7 r7 => pc_ob (fun r e => ?_)))
  have := gq hS (e := 234) (by decide +kernel) e
  subst this
  obtain ⟨s1, s2, s3, s4⟩ := r7
  refine pc_ob (fun r e => ?_)
  have := gq hS (e := 275) (by decide +kernel) e
  subst this
  refine pc_gd (fun _ => pc_cv (P := fun _ d' => (∀ r j, ¬ (234 ≤ r ∧ r ≤ 235) → dI d' r j = dI d7 r j) ∧ dF d' = dF d7) (by
    unfold fX4_copyFrom
    refine pc_gd (fun _ => pc_gd (fun _ => pc_bd (fun d3 e3 => pc_bd (fun d4 e4 => pc_ob (fun r e => ?_)))))
    have := gq hS (e := 276) (by decide +kernel) e
    subst this
    refine pc_ob (fun r e => ?_)
    have := gq hS (e := 235) (by decide +kernel) e
    subst this
    refine pc_gd (fun _ => pc_gd (fun _ => pc_gd (fun _ => pc_gd (fun _ => pc_gd (fun _ => pc_gd (fun _ => pc_bd (fun d13 e13 => pc_some ⟨fun r j h => ?_, ?_⟩)))))))
    · rw [e13, cI_rd, if_neg (fun z => h (by omega)), rdq e4 (Or.inl (by omega)), rdq e3 (Or.inl (by omega))]
    · rw [e13, e4, e3]
      rfl) (fun d12 r12 => pc_ob (fun r e => ?_)))
  have := gq hS (e := 236) (by decide +kernel) e
  subst this
  refine pc_ob (fun r e => ?_)
  have := gq hS (e := 277) (by decide +kernel) e
  subst this
  refine pc_gd (fun _ => pc_cv (P := fun _ d' => (∀ r j, ¬ (236 ≤ r ∧ r ≤ 240) → dI d' r j = dI d12 r j) ∧ dF d' = dF d12) (by
    unfold fX3_copyFrom
    refine pc_gd (fun _ => pc_ob (fun r2 _ => pc_gd (fun _ => pc_ob (fun r e => ?_))))
    have := gq hS (e := 237) (by decide +kernel) e
    subst this
    refine pc_gd (fun _ => pc_gd (fun _ => pc_gd (fun _ => pc_gd (fun _ => pc_gd (fun _ => pc_gd (fun _ => pc_bd (fun d11 e11 => pc_ob (fun r12 _ => pc_ob (fun r e => ?_)))))))))
    have := gq hS (e := 238) (by decide +kernel) e
    subst this
    refine pc_gd (fun _ => pc_gd (fun _ => pc_gd (fun _ => pc_gd (fun _ => pc_bd (fun d18 e18 => pc_ob (fun r19 _ => pc_ob (fun r e => ?_)))))))
    have := gq hS (e := 239) (by decide +kernel) e
    subst this
    refine pc_gd (fun _ => pc_gd (fun _ => pc_gd (fun _ => pc_gd (fun _ => pc_bd (fun d25 e25 => pc_ob (fun r26 _ => pc_ob (fun r e => ?_)))))))
    have := gq hS (e := 240) (by decide +kernel) e
    subst this
    refine pc_gd (fun _ => pc_gd (fun _ => pc_gd (fun _ => pc_gd (fun _ => pc_bd (fun d32 e32 => pc_bd (fun d33 e33 => pc_bd (fun d34 e34 => pc_some ⟨fun r j h => ?_, ?_⟩)))))))
    · rw [rdq e34 (Or.inl (by omega)), rdq e33 (Or.inl (by omega)), e32, cI_rd, if_neg (fun z => h (by omega)), e25, cI_rd, if_neg (fun z => h (by omega)), e18, cI_rd, if_neg (fun z => h (by omega)), e11, cI_rd, if_neg (fun z => h (by omega))]
    · rw [e34, e33, e32, e25, e18, e11]
      rfl) (fun d17 r17 => pc_ob (fun r e => ?_)))
  have := gq hS (e := 242) (by decide +kernel) e
  subst this
  refine pc_ob (fun r e => ?_)
  have := gq hS (e := 283) (by decide +kernel) e
  subst this
  refine pc_gd (fun _ => pc_cv (P := fun _ d' => (∀ r j, ¬ (242 ≤ r ∧ r ≤ 246) → dI d' r j = dI d17 r j) ∧ dF d' = dF d17) (by
    unfold fX5_copyFrom
    refine pc_gd (fun _ => pc_ob (fun r2 _ => pc_gd (fun _ => pc_ob (fun r e => ?_))))
    have := gq hS (e := 243) (by decide +kernel) e
    subst this
    refine pc_gd (fun _ => pc_gd (fun _ => pc_gd (fun _ => pc_gd (fun _ => pc_gd (fun _ => pc_gd (fun _ => pc_bd (fun d11 e11 => pc_ob (fun r12 _ => pc_ob (fun r e => ?_)))))))))
    have := gq hS (e := 244) (by decide +kernel) e
    subst this
    refine pc_gd (fun _ => pc_gd (fun _ => pc_gd (fun _ => pc_gd (fun _ => pc_bd (fun d18 e18 => pc_ob (fun r19 _ => pc_ob (fun r e => ?_)))))))
    have := gq hS (e := 245) (by decide +kernel) e
    subst this
    refine pc_gd (fun _ => pc_gd (fun _ => pc_gd (fun _ => pc_gd (fun _ => pc_bd (fun d25 e25 => pc_ob (fun r26 _ => pc_ob (fun r e => ?_)))))))
    have := gq hS (e := 246) (by decide +kernel) e
    subst this
    refine pc_gd (fun _ => pc_gd (fun _ => pc_gd (fun _ => pc_gd (fun _ => pc_gd (fun _ => pc_bd (fun d33 e33 => pc_bd (fun d34 e34 => pc_bd (fun d35 e35 => pc_bd (fun d36 e36 => pc_bd (fun d37 e37 => pc_bd (fun d38 e38 => pc_some ⟨fun r j h => ?_, ?_⟩)))))))))))
    · rw [rdq e38 (Or.inl (by omega)), rdq e37 (Or.inl (by omega)), rdq e36 (Or.inl (by omega)), rdq e35 (Or.inl (by omega)), rdq e34 (Or.inl (by omega)), e33, cI_rd, if_neg (fun z => h (by omega)), e25, cI_rd, if_neg (fun z => h (by omega)), e18, cI_rd, if_neg (fun z => h (by omega)), e11, cI_rd, if_neg (fun z => h (by omega))]
    · rw [e38, e37, e36, e35, e34, e33, e25, e18, e11]
      rfl) (fun d22 r22 => pc_some ?_))
  have o : ∀ r j, r ≤ 233 ∨ 246 < r → dI d22 r j = dI d7 r j := fun r j h => by
    rw [r22.1 r j (by omega), r17.1 r j (by omega), r12.1 r j (by omega)]
  have F : dF d22 = dF d7 := r22.2.trans (r17.2.trans r12.2)
  have o3 : ∀ r j, ¬ r = 227 → dI d3 r j = dI d r j := fun r j h => rdq e3 (Or.inl h)
  have F3 : dF d3 = dF d := by rw [e3]; rfl
  refine ⟨?_, fun j hj => ?_, fun k hk => ?_, fun r j h => ?_, fun r j h => ?_⟩
  · rw [o 227 5 (by omega), s3 227 5 (by omega), e3, sI_rd, if_pos ⟨rfl, rfl⟩]
  · rw [o 228 j (by omega), s1 j hj]
    exact o3 269 j (by decide)
  · rw [o 229 k (by omega), o 231 k (by omega), o 232 k (by omega), o 233 k (by omega), F]
    obtain ⟨a, b, c, e, f⟩ := s2 k hk
    rw [a, b, c, e, f, o3 270 k (by decide), o3 272 k (by decide), o3 273 k (by decide), o3 274 k (by decide), F3]
    exact ⟨rfl, rfl, rfl, rfl, rfl⟩
  · rw [r22.1 r j (by omega), r17.1 r j (by omega), r12.1 r j (by omega), s3 r j (by omega)]
    exact o3 r j (by omega)
  · rw [F, s4 r j h, F3]
/-! course 227 from 288 -/
theorem scp_227_288 {g : Gs} (hS : Shp g) {d : Ds} : pc (fX6_copyFrom 10000 g 228 289 d) (fun _ d' => (∀ j, j < 4 → dI d' 228 j = dI d 289 j) ∧ (∀ k, k < 24 → dI d' 229 k = dI d 290 k ∧ dF d' 230 k = dF d 291 k ∧ dI d' 231 k = dI d 292 k ∧ dI d' 232 k = dI d 293 k ∧ dI d' 233 k = dI d 294 k) ∧ (∀ r j, ¬ (228 ≤ r ∧ r ≤ 233) → dI d' r j = dI d r j) ∧ ∀ r j, ¬ r = 230 → dF d' r j = dF d r j) := by
  have n0 : (0 : Int32).toNatClampNeg = 0 := by decide
  have n24 : (24 : Int32).toNatClampNeg = 24 := by decide
  unfold fX6_copyFrom
  refine pc_gd (fun _ => pc_gd (fun _ => pc_bd (fun d3 e3 => pc_bd (fun d4 e4 => pc_bd (fun d5 e5 => pc_bd (fun d6 e6 => pc_ob (fun r e => ?_)))))))
  have := gq hS (e := 290) (by decide +kernel) e
  subst this
  refine pc_ob (fun r e => ?_)
  have := gq hS (e := 229) (by decide +kernel) e
  subst this
  refine pc_gd (fun _ => pc_gd (fun _ => pc_gd (fun _ => pc_gd (fun _ => pc_gd (fun _ => pc_gd (fun _ => pc_bd (fun d15 e15 => pc_ob (fun r e => ?_))))))))
  have := gq hS (e := 291) (by decide +kernel) e
  subst this
  refine pc_ob (fun r e => ?_)
  have := gq hS (e := 230) (by decide +kernel) e
  subst this
  refine pc_gd (fun _ => pc_gd (fun _ => pc_gd (fun _ => pc_gd (fun _ => pc_bd (fun d22 e22 => pc_ob (fun r e => ?_))))))
  have := gq hS (e := 292) (by decide +kernel) e
  subst this
  refine pc_ob (fun r e => ?_)
  have := gq hS (e := 231) (by decide +kernel) e
  subst this
  refine pc_gd (fun _ => pc_gd (fun _ => pc_gd (fun _ => pc_gd (fun _ => pc_bd (fun d29 e29 => pc_ob (fun r e => ?_))))))
  have := gq hS (e := 293) (by decide +kernel) e
  subst this
  refine pc_ob (fun r e => ?_)
  have := gq hS (e := 232) (by decide +kernel) e
  subst this
  refine pc_gd (fun _ => pc_gd (fun _ => pc_gd (fun _ => pc_gd (fun _ => pc_bd (fun d36 e36 => pc_ob (fun r e => ?_))))))
  have := gq hS (e := 294) (by decide +kernel) e
  subst this
  refine pc_ob (fun r e => ?_)
  have := gq hS (e := 233) (by decide +kernel) e
  subst this
  refine pc_gd (fun _ => pc_gd (fun _ => pc_gd (fun _ => pc_gd (fun _ => pc_bd (fun d43 e43 => pc_some ?_)))))
  rw [n0, n24] at e15 e22 e29 e36 e43
  have o6 : ∀ r j, ¬ r = 228 → dI d6 r j = dI d r j := fun r j h => by
    rw [rdq e6 (Or.inl h), rdq e5 (Or.inl h), rdq e4 (Or.inl h), rdq e3 (Or.inl h)]
  have F6 : d6.2.1 = d.2.1 := by rw [e6, e5, e4, e3]; rfl
  have I43 : ∀ r j, dI d43 r j = if r = 233 ∧ j < 24 then dI d6 294 j else if r = 232 ∧ j < 24 then dI d6 293 j else if r = 231 ∧ j < 24 then dI d6 292 j else if r = 229 ∧ j < 24 then dI d6 290 j else dI d6 r j := by
    intro r j
    have s15 : ∀ r, ¬ r = 229 → dI d15 r = dI d6 r := fun r h => funext (fun j => by rw [e15, cI_rd, if_neg (fun z => h z.1)])
    have s22 : ∀ r, dI d22 r = dI d15 r := fun r => by rw [e22]; rfl
    have s29 : ∀ r, ¬ r = 231 → dI d29 r = dI d22 r := fun r h => funext (fun j => by rw [e29, cI_rd, if_neg (fun z => h z.1)])
    have s36 : ∀ r, ¬ r = 232 → dI d36 r = dI d29 r := fun r h => funext (fun j => by rw [e36, cI_rd, if_neg (fun z => h z.1)])
    by_cases a6 : r = 233 ∧ j < 24
    · rw [if_pos a6, e43, cI_rd, if_pos ⟨a6.1, by omega, by omega⟩, s36 294 (by decide), s29 294 (by decide), s22, s15 294 (by decide)]
      congr 1
      omega
    · rw [if_neg a6, e43, cI_rd, if_neg (fun z => a6 ⟨z.1, by omega⟩)]
      by_cases a5 : r = 232 ∧ j < 24
      · rw [if_pos a5, e36, cI_rd, if_pos ⟨a5.1, by omega, by omega⟩, s29 293 (by decide), s22, s15 293 (by decide)]
        congr 1
        omega
      · rw [if_neg a5, e36, cI_rd, if_neg (fun z => a5 ⟨z.1, by omega⟩)]
        by_cases a4 : r = 231 ∧ j < 24
        · rw [if_pos a4, e29, cI_rd, if_pos ⟨a4.1, by omega, by omega⟩, s22, s15 292 (by decide)]
          congr 1
          omega
        · rw [if_neg a4, e29, cI_rd, if_neg (fun z => a4 ⟨z.1, by omega⟩), s22]
          by_cases a2 : r = 229 ∧ j < 24
          · rw [if_pos a2, e15, cI_rd, if_pos ⟨a2.1, by omega, by omega⟩]
            congr 1
            omega
          · rw [if_neg a2, e15, cI_rd, if_neg (fun z => a2 ⟨z.1, by omega⟩)]
  have F43 : ∀ r j, dF d43 r j = if r = 230 ∧ j < 24 then dF d 291 j else dF d r j := by
    intro r j
    have f43 : dF d43 = dF d22 := by rw [e43, e36, e29]; rfl
    have f15 : dF d15 = dF d := by
      rw [e15]
      exact F6
    rw [f43, e22, cF_rd, f15]
    by_cases a : r = 230 ∧ j < 24
    · rw [if_pos a, if_pos ⟨a.1, by omega, by omega⟩]
      congr 1
      omega
    · rw [if_neg a, if_neg (fun z => a ⟨z.1, by omega⟩)]
  refine ⟨fun j hj => ?_, fun k hk => ⟨?_, ?_, ?_, ?_, ?_⟩, fun r j h => ?_, fun r j h => ?_⟩
  · rw [I43, if_neg (by omega), if_neg (by omega), if_neg (by omega), if_neg (by omega)]
    rcases (show j = 0 ∨ j = 1 ∨ j = 2 ∨ j = 3 by omega) with z | z | z | z <;> subst z
    · rw [rdq e6 (Or.inr (by decide)), rdq e5 (Or.inr (by decide)), rdq e4 (Or.inr (by decide)), e3, sI_rd, if_pos ⟨rfl, rfl⟩]
    · rw [rdq e6 (Or.inr (by decide)), rdq e5 (Or.inr (by decide)), e4, sI_rd, if_pos ⟨rfl, rfl⟩]
      exact rdq e3 (Or.inl (by decide))
    · rw [rdq e6 (Or.inr (by decide)), e5, sI_rd, if_pos ⟨rfl, rfl⟩, rdq e4 (Or.inl (by decide))]
      exact rdq e3 (Or.inl (by decide))
    · rw [e6, sI_rd, if_pos ⟨rfl, rfl⟩, rdq e5 (Or.inl (by decide)), rdq e4 (Or.inl (by decide))]
      exact rdq e3 (Or.inl (by decide))
  · rw [I43, if_neg (by omega), if_neg (by omega), if_neg (by omega), if_pos ⟨rfl, hk⟩]
    exact o6 290 k (by decide)
  · rw [F43, if_pos ⟨rfl, hk⟩]
  · rw [I43, if_neg (by omega), if_neg (by omega), if_pos ⟨rfl, hk⟩]
    exact o6 292 k (by decide)
  · rw [I43, if_neg (by omega), if_pos ⟨rfl, hk⟩]
    exact o6 293 k (by decide)
  · rw [I43, if_pos ⟨rfl, hk⟩]
    exact o6 294 k (by decide)
  · rw [I43, if_neg (by omega), if_neg (by omega), if_neg (by omega), if_neg (by omega)]
    exact o6 r j (by omega)
  · rw [F43, if_neg (fun z => h z.1)]
theorem cp_227_288 {g : Gs} (hS : Shp g) {d : Ds} : pc (fX1_copyFrom 10000 g 227 288 d) (fun _ d' => dI d' 227 5 = dI d 288 5 ∧ (∀ j, j < 4 → dI d' 228 j = dI d 289 j) ∧ (∀ k, k < 24 → dI d' 229 k = dI d 290 k ∧ dF d' 230 k = dF d 291 k ∧ dI d' 231 k = dI d 292 k ∧ dI d' 232 k = dI d 293 k ∧ dI d' 233 k = dI d 294 k) ∧ (∀ r j, ¬ (227 ≤ r ∧ r ≤ 246) → dI d' r j = dI d r j) ∧ ∀ r j, ¬ r = 230 → dF d' r j = dF d r j) := by
  unfold fX1_copyFrom
  refine pc_gd (fun _ => pc_gd (fun _ => pc_bd (fun d3 e3 => pc_ob (fun r e => ?_))))
  have := gq hS (e := 228) (by decide +kernel) e
  subst this
  refine pc_ob (fun r e => ?_)
  have := gq hS (e := 289) (by decide +kernel) e
  subst this
  refine pc_gd (fun _ => pc_cv (scp_227_288 hS) (fun d7 r7 => pc_ob (fun r e => ?_)))
  have := gq hS (e := 234) (by decide +kernel) e
  subst this
  obtain ⟨s1, s2, s3, s4⟩ := r7
  refine pc_ob (fun r e => ?_)
  have := gq hS (e := 295) (by decide +kernel) e
  subst this
  refine pc_gd (fun _ => pc_cv (P := fun _ d' => (∀ r j, ¬ (234 ≤ r ∧ r ≤ 235) → dI d' r j = dI d7 r j) ∧ dF d' = dF d7) (by
    unfold fX4_copyFrom
    refine pc_gd (fun _ => pc_gd (fun _ => pc_bd (fun d3 e3 => pc_bd (fun d4 e4 => pc_ob (fun r e => ?_)))))
    have := gq hS (e := 296) (by decide +kernel) e
    subst this
    refine pc_ob (fun r e => ?_)
    have := gq hS (e := 235) (by decide +kernel) e
    subst this
    refine pc_gd (fun _ => pc_gd (fun _ => pc_gd (fun _ => pc_gd (fun _ => pc_gd (fun _ => pc_gd (fun _ => pc_bd (fun d13 e13 => pc_some ⟨fun r j h => ?_, ?_⟩)))))))
    · rw [e13, cI_rd, if_neg (fun z => h (by omega)), rdq e4 (Or.inl (by omega)), rdq e3 (Or.inl (by omega))]
    · rw [e13, e4, e3]
      rfl) (fun d12 r12 => pc_ob (fun r e => ?_)))
  have := gq hS (e := 236) (by decide +kernel) e
  subst this
  refine pc_ob (fun r e => ?_)
  have := gq hS (e := 297) (by decide +kernel) e
  subst this
  refine pc_gd (fun _ => pc_cv (P := fun _ d' => (∀ r j, ¬ (236 ≤ r ∧ r ≤ 240) → dI d' r j = dI d12 r j) ∧ dF d' = dF d12) (by
    unfold fX3_copyFrom
    refine pc_gd (fun _ => pc_ob (fun r2 _ => pc_gd (fun _ => pc_ob (fun r e => ?_))))
    have := gq hS (e := 237) (by decide +kernel) e
    subst this
    refine pc_gd (fun _ => pc_gd (fun _ => pc_gd (fun _ => pc_gd (fun _ => pc_gd (fun _ => pc_gd (fun _ => pc_bd (fun d11 e11 => pc_ob (fun r12 _ => pc_ob (fun r e => ?_)))))))))
    have := gq hS (e := 238) (by decide +kernel) e
    subst this
    refine pc_gd (fun _ => pc_gd (fun _ => pc_gd (fun _ => pc_gd (fun _ => pc_bd (fun d18 e18 => pc_ob (fun r19 _ => pc_ob (fun r e => ?_)))))))
    have := gq hS (e := 239) (by decide +kernel) e
    subst this
    refine pc_gd (fun _ => pc_gd (fun _ => pc_gd (fun _ => pc_gd (fun _ => pc_bd (fun d25 e25 => pc_ob (fun r26 _ => pc_ob (fun r e => ?_)))))))
    have := gq hS (e := 240) (by decide +kernel) e
    subst this
    refine pc_gd (fun _ => pc_gd (fun _ => pc_gd (fun _ => pc_gd (fun _ => pc_bd (fun d32 e32 => pc_bd (fun d33 e33 => pc_bd (fun d34 e34 => pc_some ⟨fun r j h => ?_, ?_⟩)))))))
    · rw [rdq e34 (Or.inl (by omega)), rdq e33 (Or.inl (by omega)), e32, cI_rd, if_neg (fun z => h (by omega)), e25, cI_rd, if_neg (fun z => h (by omega)), e18, cI_rd, if_neg (fun z => h (by omega)), e11, cI_rd, if_neg (fun z => h (by omega))]
    · rw [e34, e33, e32, e25, e18, e11]
      rfl) (fun d17 r17 => pc_ob (fun r e => ?_)))
  have := gq hS (e := 242) (by decide +kernel) e
  subst this
  refine pc_ob (fun r e => ?_)
  have := gq hS (e := 303) (by decide +kernel) e
  subst this
  refine pc_gd (fun _ => pc_cv (P := fun _ d' => (∀ r j, ¬ (242 ≤ r ∧ r ≤ 246) → dI d' r j = dI d17 r j) ∧ dF d' = dF d17) (by
    unfold fX5_copyFrom
    refine pc_gd (fun _ => pc_ob (fun r2 _ => pc_gd (fun _ => pc_ob (fun r e => ?_))))
    have := gq hS (e := 243) (by decide +kernel) e
    subst this
    refine pc_gd (fun _ => pc_gd (fun _ => pc_gd (fun _ => pc_gd (fun _ => pc_gd (fun _ => pc_gd (fun _ => pc_bd (fun d11 e11 => pc_ob (fun r12 _ => pc_ob (fun r e => ?_)))))))))
    have := gq hS (e := 244) (by decide +kernel) e
    subst this
    refine pc_gd (fun _ => pc_gd (fun _ => pc_gd (fun _ => pc_gd (fun _ => pc_bd (fun d18 e18 => pc_ob (fun r19 _ => pc_ob (fun r e => ?_)))))))
    have := gq hS (e := 245) (by decide +kernel) e
    subst this
    refine pc_gd (fun _ => pc_gd (fun _ => pc_gd (fun _ => pc_gd (fun _ => pc_bd (fun d25 e25 => pc_ob (fun r26 _ => pc_ob (fun r e => ?_)))))))
    have := gq hS (e := 246) (by decide +kernel) e
    subst this
    refine pc_gd (fun _ => pc_gd (fun _ => pc_gd (fun _ => pc_gd (fun _ => pc_gd (fun _ => pc_bd (fun d33 e33 => pc_bd (fun d34 e34 => pc_bd (fun d35 e35 => pc_bd (fun d36 e36 => pc_bd (fun d37 e37 => pc_bd (fun d38 e38 => pc_some ⟨fun r j h => ?_, ?_⟩)))))))))))
    · rw [rdq e38 (Or.inl (by omega)), rdq e37 (Or.inl (by omega)), rdq e36 (Or.inl (by omega)), rdq e35 (Or.inl (by omega)), rdq e34 (Or.inl (by omega)), e33, cI_rd, if_neg (fun z => h (by omega)), e25, cI_rd, if_neg (fun z => h (by omega)), e18, cI_rd, if_neg (fun z => h (by omega)), e11, cI_rd, if_neg (fun z => h (by omega))]
    · rw [e38, e37, e36, e35, e34, e33, e25, e18, e11]
      rfl) (fun d22 r22 => pc_some ?_))
  have o : ∀ r j, r ≤ 233 ∨ 246 < r → dI d22 r j = dI d7 r j := fun r j h => by
    rw [r22.1 r j (by omega), r17.1 r j (by omega), r12.1 r j (by omega)]
  have F : dF d22 = dF d7 := r22.2.trans (r17.2.trans r12.2)
  have o3 : ∀ r j, ¬ r = 227 → dI d3 r j = dI d r j := fun r j h => rdq e3 (Or.inl h)
  have F3 : dF d3 = dF d := by rw [e3]; rfl
  refine ⟨?_, fun j hj => ?_, fun k hk => ?_, fun r j h => ?_, fun r j h => ?_⟩
  · rw [o 227 5 (by omega), s3 227 5 (by omega), e3, sI_rd, if_pos ⟨rfl, rfl⟩]
  · rw [o 228 j (by omega), s1 j hj]
    exact o3 289 j (by decide)
  · rw [o 229 k (by omega), o 231 k (by omega), o 232 k (by omega), o 233 k (by omega), F]
    obtain ⟨a, b, c, e, f⟩ := s2 k hk
    rw [a, b, c, e, f, o3 290 k (by decide), o3 292 k (by decide), o3 293 k (by decide), o3 294 k (by decide), F3]
    exact ⟨rfl, rfl, rfl, rfl, rfl⟩
  · rw [r22.1 r j (by omega), r17.1 r j (by omega), r12.1 r j (by omega), s3 r j (by omega)]
    exact o3 r j (by omega)
  · rw [F, s4 r j h, F3]
/-! course 227 from 308 -/
theorem scp_227_308 {g : Gs} (hS : Shp g) {d : Ds} : pc (fX6_copyFrom 10000 g 228 309 d) (fun _ d' => (∀ j, j < 4 → dI d' 228 j = dI d 309 j) ∧ (∀ k, k < 24 → dI d' 229 k = dI d 310 k ∧ dF d' 230 k = dF d 311 k ∧ dI d' 231 k = dI d 312 k ∧ dI d' 232 k = dI d 313 k ∧ dI d' 233 k = dI d 314 k) ∧ (∀ r j, ¬ (228 ≤ r ∧ r ≤ 233) → dI d' r j = dI d r j) ∧ ∀ r j, ¬ r = 230 → dF d' r j = dF d r j) := by
  have n0 : (0 : Int32).toNatClampNeg = 0 := by decide
  have n24 : (24 : Int32).toNatClampNeg = 24 := by decide
  unfold fX6_copyFrom
  refine pc_gd (fun _ => pc_gd (fun _ => pc_bd (fun d3 e3 => pc_bd (fun d4 e4 => pc_bd (fun d5 e5 => pc_bd (fun d6 e6 => pc_ob (fun r e => ?_)))))))
  have := gq hS (e := 310) (by decide +kernel) e
  subst this
  refine pc_ob (fun r e => ?_)
  have := gq hS (e := 229) (by decide +kernel) e
  subst this
  refine pc_gd (fun _ => pc_gd (fun _ => pc_gd (fun _ => pc_gd (fun _ => pc_gd (fun _ => pc_gd (fun _ => pc_bd (fun d15 e15 => pc_ob (fun r e => ?_))))))))
  have := gq hS (e := 311) (by decide +kernel) e
  subst this
  refine pc_ob (fun r e => ?_)
  have := gq hS (e := 230) (by decide +kernel) e
  subst this
  refine pc_gd (fun _ => pc_gd (fun _ => pc_gd (fun _ => pc_gd (fun _ => pc_bd (fun d22 e22 => pc_ob (fun r e => ?_))))))
  have := gq hS (e := 312) (by decide +kernel) e
  subst this
  refine pc_ob (fun r e => ?_)
  have := gq hS (e := 231) (by decide +kernel) e
  subst this
  refine pc_gd (fun _ => pc_gd (fun _ => pc_gd (fun _ => pc_gd (fun _ => pc_bd (fun d29 e29 => pc_ob (fun r e => ?_))))))
  have := gq hS (e := 313) (by decide +kernel) e
  subst this
  refine pc_ob (fun r e => ?_)
  have := gq hS (e := 232) (by decide +kernel) e
  subst this
  refine pc_gd (fun _ => pc_gd (fun _ => pc_gd (fun _ => pc_gd (fun _ => pc_bd (fun d36 e36 => pc_ob (fun r e => ?_))))))
  have := gq hS (e := 314) (by decide +kernel) e
  subst this
  refine pc_ob (fun r e => ?_)
  have := gq hS (e := 233) (by decide +kernel) e
  subst this
  refine pc_gd (fun _ => pc_gd (fun _ => pc_gd (fun _ => pc_gd (fun _ => pc_bd (fun d43 e43 => pc_some ?_)))))
  rw [n0, n24] at e15 e22 e29 e36 e43
  have o6 : ∀ r j, ¬ r = 228 → dI d6 r j = dI d r j := fun r j h => by
    rw [rdq e6 (Or.inl h), rdq e5 (Or.inl h), rdq e4 (Or.inl h), rdq e3 (Or.inl h)]
  have F6 : d6.2.1 = d.2.1 := by rw [e6, e5, e4, e3]; rfl
  have I43 : ∀ r j, dI d43 r j = if r = 233 ∧ j < 24 then dI d6 314 j else if r = 232 ∧ j < 24 then dI d6 313 j else if r = 231 ∧ j < 24 then dI d6 312 j else if r = 229 ∧ j < 24 then dI d6 310 j else dI d6 r j := by
    intro r j
    have s15 : ∀ r, ¬ r = 229 → dI d15 r = dI d6 r := fun r h => funext (fun j => by rw [e15, cI_rd, if_neg (fun z => h z.1)])
    have s22 : ∀ r, dI d22 r = dI d15 r := fun r => by rw [e22]; rfl
    have s29 : ∀ r, ¬ r = 231 → dI d29 r = dI d22 r := fun r h => funext (fun j => by rw [e29, cI_rd, if_neg (fun z => h z.1)])
    have s36 : ∀ r, ¬ r = 232 → dI d36 r = dI d29 r := fun r h => funext (fun j => by rw [e36, cI_rd, if_neg (fun z => h z.1)])
    by_cases a6 : r = 233 ∧ j < 24
    · rw [if_pos a6, e43, cI_rd, if_pos ⟨a6.1, by omega, by omega⟩, s36 314 (by decide), s29 314 (by decide), s22, s15 314 (by decide)]
      congr 1
      omega
    · rw [if_neg a6, e43, cI_rd, if_neg (fun z => a6 ⟨z.1, by omega⟩)]
      by_cases a5 : r = 232 ∧ j < 24
      · rw [if_pos a5, e36, cI_rd, if_pos ⟨a5.1, by omega, by omega⟩, s29 313 (by decide), s22, s15 313 (by decide)]
        congr 1
        omega
      · rw [if_neg a5, e36, cI_rd, if_neg (fun z => a5 ⟨z.1, by omega⟩)]
        by_cases a4 : r = 231 ∧ j < 24
        · rw [if_pos a4, e29, cI_rd, if_pos ⟨a4.1, by omega, by omega⟩, s22, s15 312 (by decide)]
          congr 1
          omega
        · rw [if_neg a4, e29, cI_rd, if_neg (fun z => a4 ⟨z.1, by omega⟩), s22]
          by_cases a2 : r = 229 ∧ j < 24
          · rw [if_pos a2, e15, cI_rd, if_pos ⟨a2.1, by omega, by omega⟩]
            congr 1
            omega
          · rw [if_neg a2, e15, cI_rd, if_neg (fun z => a2 ⟨z.1, by omega⟩)]
  have F43 : ∀ r j, dF d43 r j = if r = 230 ∧ j < 24 then dF d 311 j else dF d r j := by
    intro r j
    have f43 : dF d43 = dF d22 := by rw [e43, e36, e29]; rfl
    have f15 : dF d15 = dF d := by
      rw [e15]
      exact F6
    rw [f43, e22, cF_rd, f15]
    by_cases a : r = 230 ∧ j < 24
    · rw [if_pos a, if_pos ⟨a.1, by omega, by omega⟩]
      congr 1
      omega
    · rw [if_neg a, if_neg (fun z => a ⟨z.1, by omega⟩)]
  refine ⟨fun j hj => ?_, fun k hk => ⟨?_, ?_, ?_, ?_, ?_⟩, fun r j h => ?_, fun r j h => ?_⟩
  · rw [I43, if_neg (by omega), if_neg (by omega), if_neg (by omega), if_neg (by omega)]
    rcases (show j = 0 ∨ j = 1 ∨ j = 2 ∨ j = 3 by omega) with z | z | z | z <;> subst z
    · rw [rdq e6 (Or.inr (by decide)), rdq e5 (Or.inr (by decide)), rdq e4 (Or.inr (by decide)), e3, sI_rd, if_pos ⟨rfl, rfl⟩]
    · rw [rdq e6 (Or.inr (by decide)), rdq e5 (Or.inr (by decide)), e4, sI_rd, if_pos ⟨rfl, rfl⟩]
      exact rdq e3 (Or.inl (by decide))
    · rw [rdq e6 (Or.inr (by decide)), e5, sI_rd, if_pos ⟨rfl, rfl⟩, rdq e4 (Or.inl (by decide))]
      exact rdq e3 (Or.inl (by decide))
    · rw [e6, sI_rd, if_pos ⟨rfl, rfl⟩, rdq e5 (Or.inl (by decide)), rdq e4 (Or.inl (by decide))]
      exact rdq e3 (Or.inl (by decide))
  · rw [I43, if_neg (by omega), if_neg (by omega), if_neg (by omega), if_pos ⟨rfl, hk⟩]
    exact o6 310 k (by decide)
  · rw [F43, if_pos ⟨rfl, hk⟩]
  · rw [I43, if_neg (by omega), if_neg (by omega), if_pos ⟨rfl, hk⟩]
    exact o6 312 k (by decide)
  · rw [I43, if_neg (by omega), if_pos ⟨rfl, hk⟩]
    exact o6 313 k (by decide)
  · rw [I43, if_pos ⟨rfl, hk⟩]
    exact o6 314 k (by decide)
  · rw [I43, if_neg (by omega), if_neg (by omega), if_neg (by omega), if_neg (by omega)]
    exact o6 r j (by omega)
  · rw [F43, if_neg (fun z => h z.1)]
theorem cp_227_308 {g : Gs} (hS : Shp g) {d : Ds} : pc (fX1_copyFrom 10000 g 227 308 d) (fun _ d' => dI d' 227 5 = dI d 308 5 ∧ (∀ j, j < 4 → dI d' 228 j = dI d 309 j) ∧ (∀ k, k < 24 → dI d' 229 k = dI d 310 k ∧ dF d' 230 k = dF d 311 k ∧ dI d' 231 k = dI d 312 k ∧ dI d' 232 k = dI d 313 k ∧ dI d' 233 k = dI d 314 k) ∧ (∀ r j, ¬ (227 ≤ r ∧ r ≤ 246) → dI d' r j = dI d r j) ∧ ∀ r j, ¬ r = 230 → dF d' r j = dF d r j) := by
  unfold fX1_copyFrom
  refine pc_gd (fun _ => pc_gd (fun _ => pc_bd (fun d3 e3 => pc_ob (fun r e => ?_))))
  have := gq hS (e := 228) (by decide +kernel) e
  subst this
  refine pc_ob (fun r e => ?_)
  have := gq hS (e := 309) (by decide +kernel) e
  subst this
  refine pc_gd (fun _ => pc_cv (scp_227_308 hS) (fun d7 r7 => pc_ob (fun r e => ?_)))
  have := gq hS (e := 234) (by decide +kernel) e
  subst this
  obtain ⟨s1, s2, s3, s4⟩ := r7
  refine pc_ob (fun r e => ?_)
  have := gq hS (e := 315) (by decide +kernel) e
  subst this
  refine pc_gd (fun _ => pc_cv (P := fun _ d' => (∀ r j, ¬ (234 ≤ r ∧ r ≤ 235) → dI d' r j = dI d7 r j) ∧ dF d' = dF d7) (by
    unfold fX4_copyFrom
    refine pc_gd (fun _ => pc_gd (fun _ => pc_bd (fun d3 e3 => pc_bd (fun d4 e4 => pc_ob (fun r e => ?_)))))
    have := gq hS (e := 316) (by decide +kernel) e
    subst this
    refine pc_ob (fun r e => ?_)
    have := gq hS (e := 235) (by decide +kernel) e
    subst this
    refine pc_gd (fun _ => pc_gd (fun _ => pc_gd (fun _ => pc_gd (fun _ => pc_gd (fun _ => pc_gd (fun _ => pc_bd (fun d13 e13 => pc_some ⟨fun r j h => ?_, ?_⟩)))))))
    · rw [e13, cI_rd, if_neg (fun z => h (by omega)), rdq e4 (Or.inl (by omega)), rdq e3 (Or.inl (by omega))]
    · rw [e13, e4, e3]
      rfl) (fun d12 r12 => pc_ob (fun r e => ?_)))
  have := gq hS (e := 236) (by decide +kernel) e
  subst this
  refine pc_ob (fun r e => ?_)
  have := gq hS (e := 317) (by decide +kernel) e
  subst this
  refine pc_gd (fun _ => pc_cv (P := fun _ d' => (∀ r j, ¬ (236 ≤ r ∧ r ≤ 240) → dI d' r j = dI d12 r j) ∧ dF d' = dF d12) (by
    unfold fX3_copyFrom
    refine pc_gd (fun _ => pc_ob (fun r2 _ => pc_gd (fun _ => pc_ob (fun r e => ?_))))
    have := gq hS (e := 237) (by decide +kernel) e
    subst this
    refine pc_gd (fun _ => pc_gd (fun _ => pc_gd (fun _ => pc_gd (fun _ => pc_gd (fun _ => pc_gd (fun _ => pc_bd (fun d11 e11 => pc_ob (fun r12 _ => pc_ob (fun r e => ?_)))))))))
    have := gq hS (e := 238) (by decide +kernel) e
    subst this
    refine pc_gd (fun _ => pc_gd (fun _ => pc_gd (fun _ => pc_gd (fun _ => pc_bd (fun d18 e18 => pc_ob (fun r19 _ => pc_ob (fun r e => ?_)))))))
    have := gq hS (e := 239) (by decide +kernel) e
    subst this
    refine pc_gd (fun _ => pc_gd (fun _ => pc_gd (fun _ => pc_gd (fun _ => pc_bd (fun d25 e25 => pc_ob (fun r26 _ => pc_ob (fun r e => ?_)))))))
    have := gq hS (e := 240) (by decide +kernel) e
    subst this
    refine pc_gd (fun _ => pc_gd (fun _ => pc_gd (fun _ => pc_gd (fun _ => pc_bd (fun d32 e32 => pc_bd (fun d33 e33 => pc_bd (fun d34 e34 => pc_some ⟨fun r j h => ?_, ?_⟩)))))))
    · rw [rdq e34 (Or.inl (by omega)), rdq e33 (Or.inl (by omega)), e32, cI_rd, if_neg (fun z => h (by omega)), e25, cI_rd, if_neg (fun z => h (by omega)), e18, cI_rd, if_neg (fun z => h (by omega)), e11, cI_rd, if_neg (fun z => h (by omega))]
    · rw [e34, e33, e32, e25, e18, e11]
      rfl) (fun d17 r17 => pc_ob (fun r e => ?_)))
  have := gq hS (e := 242) (by decide +kernel) e
  subst this
  refine pc_ob (fun r e => ?_)
  have := gq hS (e := 323) (by decide +kernel) e
  subst this
  refine pc_gd (fun _ => pc_cv (P := fun _ d' => (∀ r j, ¬ (242 ≤ r ∧ r ≤ 246) → dI d' r j = dI d17 r j) ∧ dF d' = dF d17) (by
    unfold fX5_copyFrom
    refine pc_gd (fun _ => pc_ob (fun r2 _ => pc_gd (fun _ => pc_ob (fun r e => ?_))))
    have := gq hS (e := 243) (by decide +kernel) e
    subst this
    refine pc_gd (fun _ => pc_gd (fun _ => pc_gd (fun _ => pc_gd (fun _ => pc_gd (fun _ => pc_gd (fun _ => pc_bd (fun d11 e11 => pc_ob (fun r12 _ => pc_ob (fun r e => ?_)))))))))
    have := gq hS (e := 244) (by decide +kernel) e
    subst this
    refine pc_gd (fun _ => pc_gd (fun _ => pc_gd (fun _ => pc_gd (fun _ => pc_bd (fun d18 e18 => pc_ob (fun r19 _ => pc_ob (fun r e => ?_)))))))
    have := gq hS (e := 245) (by decide +kernel) e
    subst this
    refine pc_gd (fun _ => pc_gd (fun _ => pc_gd (fun _ => pc_gd (fun _ => pc_bd (fun d25 e25 => pc_ob (fun r26 _ => pc_ob (fun r e => ?_)))))))
    have := gq hS (e := 246) (by decide +kernel) e
    subst this
    refine pc_gd (fun _ => pc_gd (fun _ => pc_gd (fun _ => pc_gd (fun _ => pc_gd (fun _ => pc_bd (fun d33 e33 => pc_bd (fun d34 e34 => pc_bd (fun d35 e35 => pc_bd (fun d36 e36 => pc_bd (fun d37 e37 => pc_bd (fun d38 e38 => pc_some ⟨fun r j h => ?_, ?_⟩)))))))))))
    · rw [rdq e38 (Or.inl (by omega)), rdq e37 (Or.inl (by omega)), rdq e36 (Or.inl (by omega)), rdq e35 (Or.inl (by omega)), rdq e34 (Or.inl (by omega)), e33, cI_rd, if_neg (fun z => h (by omega)), e25, cI_rd, if_neg (fun z => h (by omega)), e18, cI_rd, if_neg (fun z => h (by omega)), e11, cI_rd, if_neg (fun z => h (by omega))]
    · rw [e38, e37, e36, e35, e34, e33, e25, e18, e11]
      rfl) (fun d22 r22 => pc_some ?_))
  have o : ∀ r j, r ≤ 233 ∨ 246 < r → dI d22 r j = dI d7 r j := fun r j h => by
    rw [r22.1 r j (by omega), r17.1 r j (by omega), r12.1 r j (by omega)]
  have F : dF d22 = dF d7 := r22.2.trans (r17.2.trans r12.2)
  have o3 : ∀ r j, ¬ r = 227 → dI d3 r j = dI d r j := fun r j h => rdq e3 (Or.inl h)
  have F3 : dF d3 = dF d := by rw [e3]; rfl
  refine ⟨?_, fun j hj => ?_, fun k hk => ?_, fun r j h => ?_, fun r j h => ?_⟩
  · rw [o 227 5 (by omega), s3 227 5 (by omega), e3, sI_rd, if_pos ⟨rfl, rfl⟩]
  · rw [o 228 j (by omega), s1 j hj]
    exact o3 309 j (by decide)
  · rw [o 229 k (by omega), o 231 k (by omega), o 232 k (by omega), o 233 k (by omega), F]
    obtain ⟨a, b, c, e, f⟩ := s2 k hk
    rw [a, b, c, e, f, o3 310 k (by decide), o3 312 k (by decide), o3 313 k (by decide), o3 314 k (by decide), F3]
    exact ⟨rfl, rfl, rfl, rfl, rfl⟩
  · rw [r22.1 r j (by omega), r17.1 r j (by omega), r12.1 r j (by omega), s3 r j (by omega)]
    exact o3 r j (by omega)
  · rw [F, s4 r j h, F3]
