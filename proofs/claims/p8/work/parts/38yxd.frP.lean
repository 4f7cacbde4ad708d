/-! what the calls of family P leave alone -/
def fp_P (r : Nat) : Bool := !((decide (227 ≤ r) && decide (r ≤ 233)) || (decide (267 ≤ r) && decide (r ≤ 327)) || r == 117 || r == 336 || r == 338 || r == 344 || r == 345 || r == 346)
def FQP (d d' : Ds) : Prop := (∀ r j, fp_P r = false → dI d' r j = dI d r j) ∧ ∀ r j, fp_P r = false → dF d' r j = dF d r j
theorem FQP.rf {d : Ds} : FQP d d := ⟨fun _ _ _ => rfl, fun _ _ _ => rfl⟩
theorem FQP.i {d0 d d1 : Ds} {r j : Nat} {v : Int32} (h : FQP d0 d) (hr : fp_P r = true) (e : d1 = sI d r j v) : FQP d0 d1 := by
  subst e
  refine ⟨fun r' i q => ?_, h.2⟩
  rw [sI_rd, if_neg (fun z => by rw [z.1, hr] at q; exact absurd q (by decide))]
  exact h.1 r' i q
theorem FQP.f {d0 d d1 : Ds} {r j : Nat} {v : UInt32} (h : FQP d0 d) (hr : fp_P r = true) (e : d1 = sF d r j v) : FQP d0 d1 := by
  subst e
  refine ⟨h.1, fun r' i q => ?_⟩
  rw [sF_rd, if_neg (fun z => by rw [z.1, hr] at q; exact absurd q (by decide))]
  exact h.2 r' i q
theorem FQP.ci {d0 d d1 : Ds} {a r sp dp n : Nat} (h : FQP d0 d) (hr : fp_P r = true) (e : d1 = cI d a r sp dp n) : FQP d0 d1 := by
  subst e
  refine ⟨fun r' i q => ?_, h.2⟩
  rw [cI_rd, if_neg (fun z => by rw [z.1, hr] at q; exact absurd q (by decide))]
  exact h.1 r' i q
theorem FQP.cf {d0 d d1 : Ds} {a r sp dp n : Nat} (h : FQP d0 d) (hr : fp_P r = true) (e : d1 = cF d a r sp dp n) : FQP d0 d1 := by
  subst e
  refine ⟨h.1, fun r' i q => ?_⟩
  rw [cF_rd, if_neg (fun z => by rw [z.1, hr] at q; exact absurd q (by decide))]
  exact h.2 r' i q
theorem FQP.l {d0 d d1 : Ds} {r j : Nat} {v : Int64} (h : FQP d0 d) (e : d1 = sL d r j v) : FQP d0 d1 := by
  subst e
  exact h
theorem FQP.w {d0 d d1 : Ds} {r j : Nat} {v : Option Nat} (h : FQP d0 d) (e : d1 = sW d r j v) : FQP d0 d1 := by
  subst e
  exact h
theorem wP_fX3_gather_J92 {d0 : Ds} (N : Nat) (g : Gs) (x1 : Int32) (d : Ds) (hS : Shp g) (hZ : FQP d0 d) : pc (fX3_gather_J92 N g 236 x1 d) (fun _ d1 => FQP d0 d1) := by
  unfold fX3_gather_J92
  exact pc_some hZ
theorem wP_fX3_addCode_J56 {d0 : Ds} (N : Nat) (g : Gs) (x1 : Int32) (d : Ds) (hS : Shp g) (hZ : FQP d0 d) : pc (fX3_addCode_J56 N g 236 x1 d) (fun _ d1 => FQP d0 d1) := by
  unfold fX3_addCode_J56
  exact pc_some hZ
theorem wP_fX3_addCode_B2 {d0 : Ds} (N : Nat) (g : Gs) (x1 : Int32) (K2 : Int32 × Ds → Option (Unit × Ds)) (y2 : Int32) (d : Ds) (hS : Shp g) (hZ : FQP d0 d) (hK2 : ∀ a, FQP d0 a.2 → pc (K2 a) (fun _ d1 => FQP d0 d1)) : pc (fX3_addCode_B2 N g 236 x1 K2 y2 d) (fun _ d1 => FQP d0 d1) := by
  unfold fX3_addCode_B2
  refine pc_gd (fun c_1 => ?_)
  refine pc_if (fun _ => ?_) (fun _ => ?_)
  · refine pc_if (fun _ => ?_) (fun _ => ?_)
    · exact wP_fX3_addCode_J56 N g x1 d hS hZ
    · refine pc_ob (fun r4 e_2 => ?_)
      have t_3 := gq hS (e := 241) (by decide +kernel) e_2
      subst t_3
      refine pc_gd (fun c_4 => ?_)
      refine pc_gd (fun c_5 => ?_)
      refine pc_bd (fun d7 e_6 => ?_)
      have z_7 := FQP.i hZ rfl e_6
      refine pc_bd (fun d8 e_8 => ?_)
      have z_9 := FQP.i z_7 rfl e_8
      exact wP_fX3_addCode_J56 N g x1 d8 hS z_9
  · refine pc_ob (fun r9 e_10 => ?_)
    have t_11 := gq hS (e := 241) (by decide +kernel) e_10
    subst t_11
    refine pc_gd (fun c_12 => ?_)
    refine pc_gd (fun c_13 => ?_)
    refine pc_if (fun _ => ?_) (fun _ => ?_)
    · exact pc_some hZ
    · refine pc_bd (fun u13 e_14 => ?_)
      exact hK2 _ hZ
theorem wP_fX3_addCode_L2 {d0 : Ds} (N : Nat) (g : Gs) (x1 : Int32) (hS : Shp g) (a0 : Int32) (a1 : Ds) (hZ : FQP d0 a1) : pc (fX3_addCode_L2 N g 236 x1 (a0, a1)) (fun _ d1 => FQP d0 d1) := by
  unfold fX3_addCode_L2
  refine pc_lp (fun a => FQP d0 a.2) ?_ N (a0, a1) hZ
  rintro K ⟨a0, a1⟩ hZ hK
  exact wP_fX3_addCode_B2 N g x1 K a0 a1 hS hZ hK
theorem wP_fX3_addCode {d0 : Ds} (N : Nat) (g : Gs) (x1 : Int32) (d : Ds) (hS : Shp g) (hZ : FQP d0 d) : pc (fX3_addCode N g 236 x1 d) (fun _ d1 => FQP d0 d1) := by
  unfold fX3_addCode
  exact wP_fX3_addCode_L2 N g x1 hS 0 d hZ
theorem wP_fX3_gather_J76 {d0 : Ds} (N : Nat) (g : Gs) (x1 : Int32) (K12 : Int32 × Ds → Option (Unit × Ds)) (y2 : Int32) (d : Ds) (hS : Shp g) (hZ : FQP d0 d) (hK12 : ∀ a, FQP d0 a.2 → pc (K12 a) (fun _ d1 => FQP d0 d1)) : pc (fX3_gather_J76 N g 236 x1 K12 y2 d) (fun _ d1 => FQP d0 d1) := by
  unfold fX3_gather_J76
  refine pc_bd (fun u18 e_1 => ?_)
  exact hK12 _ hZ
theorem wP_fX3_gather_B12 {d0 : Ds} (N : Nat) (g : Gs) (x1 : Int32) (K12 : Int32 × Ds → Option (Unit × Ds)) (y2 : Int32) (d : Ds) (hS : Shp g) (hZ : FQP d0 d) (hK12 : ∀ a, FQP d0 a.2 → pc (K12 a) (fun _ d1 => FQP d0 d1)) : pc (fX3_gather_B12 N g 236 x1 K12 y2 d) (fun _ d1 => FQP d0 d1) := by
  unfold fX3_gather_B12
  refine pc_gd (fun c_1 => ?_)
  refine pc_if (fun _ => ?_) (fun _ => ?_)
  · refine pc_if (fun _ => ?_) (fun _ => ?_)
    · exact wP_fX3_gather_J92 N g x1 d hS hZ
    · refine pc_cv (wP_fX3_addCode N g x1 d hS hZ) (fun d7 z_2 => ?_)
      exact wP_fX3_gather_J92 N g x1 d7 hS z_2
  · refine pc_ob (fun r9 e_3 => ?_)
    have t_4 := gq hS (e := 240) (by decide +kernel) e_3
    subst t_4
    refine pc_gd (fun c_5 => ?_)
    refine pc_gd (fun c_6 => ?_)
    refine pc_bd (fun u12 e_7 => ?_)
    refine pc_ob (fun r13 e_8 => ?_)
    have t_9 := gq hS (e := 237) (by decide +kernel) e_8
    subst t_9
    refine pc_gd (fun c_10 => ?_)
    refine pc_gd (fun c_11 => ?_)
    refine pc_if (fun _ => ?_) (fun _ => ?_)
    · refine pc_ob (fun r24 e_12 => ?_)
      have t_13 := gq hS (e := 238) (by decide +kernel) e_12
      subst t_13
      refine pc_gd (fun c_14 => ?_)
      refine pc_gd (fun c_15 => ?_)
      refine pc_bd (fun d27 e_16 => ?_)
      have z_17 := FQP.i hZ rfl e_16
      exact wP_fX3_gather_J76 N g x1 K12 y2 d27 hS z_17 hK12
    · refine pc_if (fun _ => ?_) (fun _ => ?_)
      · refine pc_ob (fun r19 e_18 => ?_)
        have t_19 := gq hS (e := 238) (by decide +kernel) e_18
        subst t_19
        refine pc_gd (fun c_20 => ?_)
        refine pc_gd (fun c_21 => ?_)
        refine pc_cv (wP_fX3_addCode N g (dI d 238 u12.toNatClampNeg) d hS hZ) (fun d22 z_22 => ?_)
        exact wP_fX3_gather_J76 N g x1 K12 y2 d22 hS z_22 hK12
      · exact wP_fX3_gather_J76 N g x1 K12 y2 d hS hZ hK12
theorem wP_fX3_gather_L12 {d0 : Ds} (N : Nat) (g : Gs) (x1 : Int32) (hS : Shp g) (a0 : Int32) (a1 : Ds) (hZ : FQP d0 a1) : pc (fX3_gather_L12 N g 236 x1 (a0, a1)) (fun _ d1 => FQP d0 d1) := by
  unfold fX3_gather_L12
  refine pc_lp (fun a => FQP d0 a.2) ?_ N (a0, a1) hZ
  rintro K ⟨a0, a1⟩ hZ hK
  exact wP_fX3_gather_B12 N g x1 K a0 a1 hS hZ hK
theorem wP_fX3_gather {d0 : Ds} (N : Nat) (g : Gs) (x1 : Int32) (d : Ds) (hS : Shp g) (hZ : FQP d0 d) : pc (fX3_gather N g 236 x1 d) (fun _ d1 => FQP d0 d1) := by
  unfold fX3_gather
  refine pc_gd (fun c_1 => ?_)
  refine pc_bd (fun d2 e_2 => ?_)
  have z_3 := FQP.i hZ rfl e_2
  refine pc_bd (fun d3 e_4 => ?_)
  have z_5 := FQP.i z_3 rfl e_4
  exact wP_fX3_gather_L12 N g x1 hS 0 d3 z_5
theorem wP_fX11_sent_J77 {d0 : Ds} (N : Nat) (g : Gs) (x1 : Int32) (z0 : Int32) (d : Ds) (hS : Shp g) (hZ : FQP d0 d) : pc (fX11_sent_J77 N g 0 x1 z0 d) (fun _ d1 => FQP d0 d1) := by
  unfold fX11_sent_J77
  exact pc_some hZ
theorem wP_fX11_sent_J65 {d0 : Ds} (N : Nat) (g : Gs) (x1 : Int32) (d : Ds) (hS : Shp g) (hZ : FQP d0 d) : pc (fX11_sent_J65 N g 0 x1 d) (fun _ d1 => FQP d0 d1) := by
  unfold fX11_sent_J65
  exact wP_fX11_sent_J77 N g x1 (-1) d hS hZ
theorem wP_fX11_sent {d0 : Ds} (N : Nat) (g : Gs) (x1 : Int32) (d : Ds) (hS : Shp g) (hZ : FQP d0 d) : pc (fX11_sent N g 0 x1 d) (fun _ d1 => FQP d0 d1) := by
  unfold fX11_sent
  refine pc_gd (fun c_1 => ?_)
  refine pc_ob (fun r2 e_2 => ?_)
  have t_3 := gq hS (e := 227) (by decide +kernel) e_2
  subst t_3
  refine pc_gd (fun c_4 => ?_)
  refine pc_ob (fun r4 e_5 => ?_)
  have t_6 := gq hS (e := 236) (by decide +kernel) e_5
  subst t_6
  refine pc_gd (fun c_7 => ?_)
  refine pc_cv (wP_fX3_gather N g (-1) d hS hZ) (fun d6 z_8 => ?_)
  refine pc_if (fun _ => ?_) (fun _ => ?_)
  · exact pc_some z_8
  · refine pc_if (fun _ => ?_) (fun _ => ?_)
    · exact pc_some z_8
    · refine pc_if (fun _ => ?_) (fun _ => ?_)
      · exact wP_fX11_sent_J65 N g x1 d6 hS z_8
      · refine pc_if (fun _ => ?_) (fun _ => ?_)
        · refine pc_ob (fun r12 e_9 => ?_)
          have t_10 := gq hS (e := 241) (by decide +kernel) e_9
          subst t_10
          refine pc_gd (fun c_11 => ?_)
          refine pc_gd (fun c_12 => ?_)
          exact wP_fX11_sent_J77 N g x1 (dI d6 241 (x1 - 2).toNatClampNeg) d6 hS z_8
        · exact wP_fX11_sent_J65 N g x1 d6 hS z_8
theorem wP_fX0_keys {d0 : Ds} (N : Nat) (g : Gs) (d : Ds) (hS : Shp g) (hZ : FQP d0 d) : pc (fX0_keys N g 117 d) (fun _ d1 => FQP d0 d1) := by
  unfold fX0_keys
  refine pc_gd (fun c_1 => ?_)
  exact pc_some hZ
theorem wP_fX0_hasKey_J17 {d0 : Ds} (N : Nat) (g : Gs) (x1 : Int32) (z0 : Int32) (d : Ds) (hS : Shp g) (hZ : FQP d0 d) : pc (fX0_hasKey_J17 N g 117 x1 z0 d) (fun _ d1 => FQP d0 d1) := by
  unfold fX0_hasKey_J17
  refine pc_gd (fun c_1 => ?_)
  exact pc_some hZ
theorem wP_fX0_hasKey_J16 {d0 : Ds} (N : Nat) (g : Gs) (x1 : Int32) (d : Ds) (hS : Shp g) (hZ : FQP d0 d) : pc (fX0_hasKey_J16 N g 117 x1 d) (fun _ d1 => FQP d0 d1) := by
  unfold fX0_hasKey_J16
  exact wP_fX0_hasKey_J17 N g x1 0 d hS hZ
theorem wP_fX0_hasKey {d0 : Ds} (N : Nat) (g : Gs) (x1 : Int32) (d : Ds) (hS : Shp g) (hZ : FQP d0 d) : pc (fX0_hasKey N g 117 x1 d) (fun _ d1 => FQP d0 d1) := by
  unfold fX0_hasKey
  refine pc_if (fun _ => ?_) (fun _ => ?_)
  · exact wP_fX0_hasKey_J16 N g x1 d hS hZ
  · refine pc_gd (fun c_1 => ?_)
    refine pc_cb (wP_fX0_keys N g d hS hZ) (fun u6 d4 z_2 => ?_)
    refine pc_if (fun _ => ?_) (fun _ => ?_)
    · exact wP_fX0_hasKey_J16 N g x1 d4 hS z_2
    · exact wP_fX0_hasKey_J17 N g x1 1 d4 hS z_2
theorem wP_fX9_join_J152 {d0 : Ds} (N : Nat) (g : Gs) (x2 : Int32) (d : Ds) (hS : Shp g) (hZ : FQP d0 d) : pc (fX9_join_J152 N g 225 117 x2 d) (fun _ d1 => FQP d0 d1) := by
  unfold fX9_join_J152
  exact pc_some hZ
theorem wP_fX11_isIn_J13 {d0 : Ds} (N : Nat) (g : Gs) (x0 : Int32) (x1 : Int32) (z0 : Int32) (d : Ds) (hS : Shp g) (hZ : FQP d0 d) : pc (fX11_isIn_J13 N g x0 x1 z0 d) (fun _ d1 => FQP d0 d1) := by
  unfold fX11_isIn_J13
  refine pc_gd (fun c_1 => ?_)
  exact pc_some hZ
theorem wP_fX11_isIn {d0 : Ds} (N : Nat) (g : Gs) (x0 : Int32) (x1 : Int32) (d : Ds) (hS : Shp g) (hZ : FQP d0 d) : pc (fX11_isIn N g x0 x1 d) (fun _ d1 => FQP d0 d1) := by
  unfold fX11_isIn
  refine pc_if (fun _ => ?_) (fun _ => ?_)
  · exact wP_fX11_isIn_J13 N g x0 x1 0 d hS hZ
  · exact wP_fX11_isIn_J13 N g x0 x1 1 d hS hZ
theorem wP_fX9_join_J146 {d0 : Ds} (N : Nat) (g : Gs) (x2 : Int32) (K39 : Int32 × Ds → Option (Unit × Ds)) (y3 : Int32) (d : Ds) (hS : Shp g) (hZ : FQP d0 d) (hK39 : ∀ a, FQP d0 a.2 → pc (K39 a) (fun _ d1 => FQP d0 d1)) : pc (fX9_join_J146 N g 225 117 x2 K39 y3 d) (fun _ d1 => FQP d0 d1) := by
  unfold fX9_join_J146
  refine pc_bd (fun u25 e_1 => ?_)
  exact hK39 _ hZ
theorem wP_fX9_join_J140 {d0 : Ds} (N : Nat) (g : Gs) (x2 : Int32) (K39 : Int32 × Ds → Option (Unit × Ds)) (K109 : Int32 × Int32 × Int32 × Int32 × Ds → Option (Unit × Ds)) (y3 : Int32) (y4 : Int32) (y5 : Int32) (y6 : Int32) (d : Ds) (hS : Shp g) (hZ : FQP d0 d) (hK39 : ∀ a, FQP d0 a.2 → pc (K39 a) (fun _ d1 => FQP d0 d1)) (hK109 : ∀ a, FQP d0 a.2.2.2.2 → pc (K109 a) (fun _ d1 => FQP d0 d1)) : pc (fX9_join_J140 N g 225 117 x2 K39 K109 y3 y4 y5 y6 d) (fun _ d1 => FQP d0 d1) := by
  unfold fX9_join_J140
  refine pc_bd (fun u34 e_1 => ?_)
  exact hK109 _ hZ
theorem wP_fX9_join_B109 {d0 : Ds} (N : Nat) (g : Gs) (x2 : Int32) (K39 : Int32 × Ds → Option (Unit × Ds)) (K109 : Int32 × Int32 × Int32 × Int32 × Ds → Option (Unit × Ds)) (y3 : Int32) (y4 : Int32) (y5 : Int32) (y6 : Int32) (d : Ds) (hS : Shp g) (hZ : FQP d0 d) (hK39 : ∀ a, FQP d0 a.2 → pc (K39 a) (fun _ d1 => FQP d0 d1)) (hK109 : ∀ a, FQP d0 a.2.2.2.2 → pc (K109 a) (fun _ d1 => FQP d0 d1)) : pc (fX9_join_B109 N g 225 117 x2 K39 K109 y3 y4 y5 y6 d) (fun _ d1 => FQP d0 d1) := by
  unfold fX9_join_B109
  refine pc_gd (fun c_1 => ?_)
  refine pc_ob (fun r29 e_2 => ?_)
  have t_3 := gq hS (e := 226) (by decide +kernel) e_2
  subst t_3
  refine pc_gd (fun c_4 => ?_)
  refine pc_if (fun _ => ?_) (fun _ => ?_)
  · exact wP_fX9_join_J146 N g x2 K39 y3 d hS hZ hK39
  · refine pc_gd (fun c_5 => ?_)
    refine pc_if (fun _ => ?_) (fun _ => ?_)
    · refine pc_bd (fun d35 e_6 => ?_)
      have z_7 := FQP.i hZ rfl e_6
      exact wP_fX9_join_J140 N g x2 K39 K109 y3 y4 y5 y6 d35 hS z_7 hK39 hK109
    · exact wP_fX9_join_J140 N g x2 K39 K109 y3 y4 y5 y6 d hS hZ hK39 hK109
theorem wP_fX9_join_L109 {d0 : Ds} (N : Nat) (g : Gs) (x2 : Int32) (K39 : Int32 × Ds → Option (Unit × Ds)) (hS : Shp g) (a0 : Int32) (a1 : Int32) (a2 : Int32) (a3 : Int32) (a4 : Ds) (hZ : FQP d0 a4) (hK39 : ∀ a, FQP d0 a.2 → pc (K39 a) (fun _ d1 => FQP d0 d1)) : pc (fX9_join_L109 N g 225 117 x2 K39 (a0, a1, a2, a3, a4)) (fun _ d1 => FQP d0 d1) := by
  unfold fX9_join_L109
  refine pc_lp (fun a => FQP d0 a.2.2.2.2) ?_ N (a0, a1, a2, a3, a4) hZ
  rintro K ⟨a0, a1, a2, a3, a4⟩ hZ hK
  exact wP_fX9_join_B109 N g x2 K39 K a0 a1 a2 a3 a4 hS hZ hK39 hK
theorem wP_fX9_join_B39 {d0 : Ds} (N : Nat) (g : Gs) (x2 : Int32) (K39 : Int32 × Ds → Option (Unit × Ds)) (y3 : Int32) (d : Ds) (hS : Shp g) (hZ : FQP d0 d) (hK39 : ∀ a, FQP d0 a.2 → pc (K39 a) (fun _ d1 => FQP d0 d1)) : pc (fX9_join_B39 N g 225 117 x2 K39 y3 d) (fun _ d1 => FQP d0 d1) := by
  unfold fX9_join_B39
  refine pc_gd (fun c_1 => ?_)
  refine pc_cb (wP_fX0_hasKey N g y3 d hS hZ) (fun u10 d8 z_2 => ?_)
  refine pc_if (fun _ => ?_) (fun _ => ?_)
  · exact wP_fX9_join_J152 N g x2 d8 hS z_2
  · refine pc_if (fun _ => ?_) (fun _ => ?_)
    · exact wP_fX9_join_J152 N g x2 d8 hS z_2
    · refine pc_gd (fun c_3 => ?_)
      refine pc_ob (fun r14 e_4 => ?_)
      have t_5 := gq hS (e := 226) (by decide +kernel) e_4
      subst t_5
      refine pc_gd (fun c_6 => ?_)
      refine pc_gd (fun c_7 => ?_)
      refine pc_gd (fun c_8 => ?_)
      refine pc_bd (fun u18 e_9 => ?_)
      refine pc_gd (fun c_10 => ?_)
      refine pc_bd (fun u20 e_11 => ?_)
      refine pc_cb (wP_fX11_isIn N g x2 y3 d8 hS z_2) (fun u23 d21 z_12 => ?_)
      refine pc_if (fun _ => ?_) (fun _ => ?_)
      · exact wP_fX9_join_J146 N g x2 K39 y3 d21 hS z_12 hK39
      · refine pc_if (fun _ => ?_) (fun _ => ?_)
        · exact wP_fX9_join_J146 N g x2 K39 y3 d21 hS z_12 hK39
        · refine pc_bd (fun d27 e_13 => ?_)
          have z_14 := FQP.i z_12 rfl e_13
          exact wP_fX9_join_L109 N g x2 K39 hS y3 u18 u20 0 d27 z_14 hK39
theorem wP_fX9_join_L39 {d0 : Ds} (N : Nat) (g : Gs) (x2 : Int32) (hS : Shp g) (a0 : Int32) (a1 : Ds) (hZ : FQP d0 a1) : pc (fX9_join_L39 N g 225 117 x2 (a0, a1)) (fun _ d1 => FQP d0 d1) := by
  unfold fX9_join_L39
  refine pc_lp (fun a => FQP d0 a.2) ?_ N (a0, a1) hZ
  rintro K ⟨a0, a1⟩ hZ hK
  exact wP_fX9_join_B39 N g x2 K a0 a1 hS hZ hK
theorem wP_fX9_join_B2 {d0 : Ds} (N : Nat) (g : Gs) (x2 : Int32) (K2 : Int32 × Ds → Option (Unit × Ds)) (y3 : Int32) (d : Ds) (hS : Shp g) (hZ : FQP d0 d) (hK2 : ∀ a, FQP d0 a.2 → pc (K2 a) (fun _ d1 => FQP d0 d1)) : pc (fX9_join_B2 N g 225 117 x2 K2 y3 d) (fun _ d1 => FQP d0 d1) := by
  unfold fX9_join_B2
  refine pc_gd (fun c_1 => ?_)
  refine pc_ob (fun r2 e_2 => ?_)
  have t_3 := gq hS (e := 226) (by decide +kernel) e_2
  subst t_3
  refine pc_gd (fun c_4 => ?_)
  refine pc_if (fun _ => ?_) (fun _ => ?_)
  · refine pc_gd (fun c_5 => ?_)
    refine pc_bd (fun d6 e_6 => ?_)
    have z_7 := FQP.i hZ rfl e_6
    exact wP_fX9_join_L39 N g x2 hS 0 d6 z_7
  · refine pc_gd (fun c_8 => ?_)
    refine pc_bd (fun d37 e_9 => ?_)
    have z_10 := FQP.i hZ rfl e_9
    refine pc_bd (fun u38 e_11 => ?_)
    exact hK2 _ z_10
theorem wP_fX9_join_L2 {d0 : Ds} (N : Nat) (g : Gs) (x2 : Int32) (hS : Shp g) (a0 : Int32) (a1 : Ds) (hZ : FQP d0 a1) : pc (fX9_join_L2 N g 225 117 x2 (a0, a1)) (fun _ d1 => FQP d0 d1) := by
  unfold fX9_join_L2
  refine pc_lp (fun a => FQP d0 a.2) ?_ N (a0, a1) hZ
  rintro K ⟨a0, a1⟩ hZ hK
  exact wP_fX9_join_B2 N g x2 K a0 a1 hS hZ hK
theorem wP_fX9_join {d0 : Ds} (N : Nat) (g : Gs) (x2 : Int32) (d : Ds) (hS : Shp g) (hZ : FQP d0 d) : pc (fX9_join N g 225 117 x2 d) (fun _ d1 => FQP d0 d1) := by
  unfold fX9_join
  exact wP_fX9_join_L2 N g x2 hS 0 d hZ
theorem wP_fX9_bar_J86 {d0 : Ds} (N : Nat) (g : Gs) (x2 : Int32) (K27 : Int32 × Int32 × Ds → Option (Unit × Ds)) (y4 : Int32) (y5 : Int32) (d : Ds) (hS : Shp g) (hZ : FQP d0 d) (hK27 : ∀ a, FQP d0 a.2.2 → pc (K27 a) (fun _ d1 => FQP d0 d1)) : pc (fX9_bar_J86 N g 225 117 x2 K27 y4 y5 d) (fun _ d1 => FQP d0 d1) := by
  unfold fX9_bar_J86
  refine pc_bd (fun u10 e_1 => ?_)
  exact hK27 _ hZ
theorem wP_fJ6_bitCount_0f7a4 {d0 : Ds} (N : Nat) (g : Gs) (x0 : Int32) (d : Ds) (hS : Shp g) (hZ : FQP d0 d) : pc (fJ6_bitCount_0f7a4 N g x0 d) (fun _ d1 => FQP d0 d1) := by
  unfold fJ6_bitCount_0f7a4
  refine pc_bd (fun u1 e_1 => ?_)
  refine pc_bd (fun u2 e_2 => ?_)
  refine pc_bd (fun u3 e_3 => ?_)
  refine pc_bd (fun u4 e_4 => ?_)
  refine pc_bd (fun u5 e_5 => ?_)
  exact pc_some hZ
theorem wP_fX9_bar_B27 {d0 : Ds} (N : Nat) (g : Gs) (x2 : Int32) (K27 : Int32 × Int32 × Ds → Option (Unit × Ds)) (y4 : Int32) (y5 : Int32) (d : Ds) (hS : Shp g) (hZ : FQP d0 d) (hK27 : ∀ a, FQP d0 a.2.2 → pc (K27 a) (fun _ d1 => FQP d0 d1)) : pc (fX9_bar_B27 N g 225 117 x2 K27 y4 y5 d) (fun _ d1 => FQP d0 d1) := by
  unfold fX9_bar_B27
  refine pc_gd (fun c_1 => ?_)
  refine pc_if (fun _ => ?_) (fun _ => ?_)
  · exact pc_some hZ
  · refine pc_gd (fun c_2 => ?_)
    refine pc_bd (fun u8 e_3 => ?_)
    refine pc_if (fun _ => ?_) (fun _ => ?_)
    · exact wP_fX9_bar_J86 N g x2 K27 y4 y5 d hS hZ hK27
    · refine pc_cb (wP_fJ6_bitCount_0f7a4 N g u8 d hS hZ) (fun u13 d11 z_4 => ?_)
      refine pc_if (fun _ => ?_) (fun _ => ?_)
      · exact wP_fX9_bar_J86 N g x2 K27 y4 y5 d11 hS z_4 hK27
      · refine pc_bd (fun d15 e_5 => ?_)
        have z_6 := FQP.i z_4 rfl e_5
        exact wP_fX9_bar_J86 N g x2 K27 y4 y5 d15 hS z_6 hK27
theorem wP_fX9_bar_L27 {d0 : Ds} (N : Nat) (g : Gs) (x2 : Int32) (hS : Shp g) (a0 : Int32) (a1 : Int32) (a2 : Ds) (hZ : FQP d0 a2) : pc (fX9_bar_L27 N g 225 117 x2 (a0, a1, a2)) (fun _ d1 => FQP d0 d1) := by
  unfold fX9_bar_L27
  refine pc_lp (fun a => FQP d0 a.2.2) ?_ N (a0, a1, a2) hZ
  rintro K ⟨a0, a1, a2⟩ hZ hK
  exact wP_fX9_bar_B27 N g x2 K a0 a1 a2 hS hZ hK
theorem wP_fX9_bar {d0 : Ds} (N : Nat) (g : Gs) (x2 : Int32) (d : Ds) (hS : Shp g) (hZ : FQP d0 d) : pc (fX9_bar N g 225 117 x2 d) (fun _ d1 => FQP d0 d1) := by
  unfold fX9_bar
  refine pc_gd (fun c_1 => ?_)
  refine pc_bd (fun u2 e_2 => ?_)
  refine pc_gd (fun c_3 => ?_)
  refine pc_bd (fun u4 e_4 => ?_)
  exact wP_fX9_bar_L27 N g x2 hS u4 0 d hZ
theorem wP_fX9_follow_B97 {d0 : Ds} (N : Nat) (g : Gs) (x2 : Int32) (K97 : Int32 × Ds → Option (Unit × Ds)) (y3 : Int32) (d : Ds) (hS : Shp g) (hZ : FQP d0 d) (hK97 : ∀ a, FQP d0 a.2 → pc (K97 a) (fun _ d1 => FQP d0 d1)) : pc (fX9_follow_B97 N g 225 117 x2 K97 y3 d) (fun _ d1 => FQP d0 d1) := by
  unfold fX9_follow_B97
  refine pc_gd (fun c_1 => ?_)
  refine pc_if (fun _ => ?_) (fun _ => ?_)
  · exact pc_some hZ
  · refine pc_gd (fun c_2 => ?_)
    refine pc_cv (wP_fX9_bar N g y3 d hS hZ) (fun d17 z_3 => ?_)
    refine pc_bd (fun u19 e_4 => ?_)
    exact hK97 _ z_3
theorem wP_fX9_follow_L97 {d0 : Ds} (N : Nat) (g : Gs) (x2 : Int32) (hS : Shp g) (a0 : Int32) (a1 : Ds) (hZ : FQP d0 a1) : pc (fX9_follow_L97 N g 225 117 x2 (a0, a1)) (fun _ d1 => FQP d0 d1) := by
  unfold fX9_follow_L97
  refine pc_lp (fun a => FQP d0 a.2) ?_ N (a0, a1) hZ
  rintro K ⟨a0, a1⟩ hZ hK
  exact wP_fX9_follow_B97 N g x2 K a0 a1 hS hZ hK
theorem wP_fX9_follow_J90 {d0 : Ds} (N : Nat) (g : Gs) (x2 : Int32) (d : Ds) (hS : Shp g) (hZ : FQP d0 d) : pc (fX9_follow_J90 N g 225 117 x2 d) (fun _ d1 => FQP d0 d1) := by
  unfold fX9_follow_J90
  refine pc_gd (fun c_1 => ?_)
  refine pc_bd (fun d13 e_2 => ?_)
  have z_3 := FQP.i hZ rfl e_2
  exact wP_fX9_follow_L97 N g x2 hS 0 d13 z_3
theorem wP_fX9_follow_J84 {d0 : Ds} (N : Nat) (g : Gs) (x2 : Int32) (K31 : Int32 × Ds → Option (Unit × Ds)) (y3 : Int32) (d : Ds) (hS : Shp g) (hZ : FQP d0 d) (hK31 : ∀ a, FQP d0 a.2 → pc (K31 a) (fun _ d1 => FQP d0 d1)) : pc (fX9_follow_J84 N g 225 117 x2 K31 y3 d) (fun _ d1 => FQP d0 d1) := by
  unfold fX9_follow_J84
  refine pc_bd (fun u28 e_1 => ?_)
  exact hK31 _ hZ
theorem wP_fX9_follow_B31 {d0 : Ds} (N : Nat) (g : Gs) (x2 : Int32) (K31 : Int32 × Ds → Option (Unit × Ds)) (y3 : Int32) (d : Ds) (hS : Shp g) (hZ : FQP d0 d) (hK31 : ∀ a, FQP d0 a.2 → pc (K31 a) (fun _ d1 => FQP d0 d1)) : pc (fX9_follow_B31 N g 225 117 x2 K31 y3 d) (fun _ d1 => FQP d0 d1) := by
  unfold fX9_follow_B31
  refine pc_gd (fun c_1 => ?_)
  refine pc_cb (wP_fX0_hasKey N g y3 d hS hZ) (fun u10 d8 z_2 => ?_)
  refine pc_if (fun _ => ?_) (fun _ => ?_)
  · exact wP_fX9_follow_J90 N g x2 d8 hS z_2
  · refine pc_if (fun _ => ?_) (fun _ => ?_)
    · exact wP_fX9_follow_J90 N g x2 d8 hS z_2
    · refine pc_gd (fun c_3 => ?_)
      refine pc_ob (fun r22 e_4 => ?_)
      have t_5 := gq hS (e := 226) (by decide +kernel) e_4
      subst t_5
      refine pc_gd (fun c_6 => ?_)
      refine pc_gd (fun c_7 => ?_)
      refine pc_gd (fun c_8 => ?_)
      refine pc_gd (fun c_9 => ?_)
      refine pc_if (fun _ => ?_) (fun _ => ?_)
      · refine pc_bd (fun d29 e_10 => ?_)
        have z_11 := FQP.i z_2 rfl e_10
        exact wP_fX9_follow_J84 N g x2 K31 y3 d29 hS z_11 hK31
      · exact wP_fX9_follow_J84 N g x2 K31 y3 d8 hS z_2 hK31
theorem wP_fX9_follow_L31 {d0 : Ds} (N : Nat) (g : Gs) (x2 : Int32) (hS : Shp g) (a0 : Int32) (a1 : Ds) (hZ : FQP d0 a1) : pc (fX9_follow_L31 N g 225 117 x2 (a0, a1)) (fun _ d1 => FQP d0 d1) := by
  unfold fX9_follow_L31
  refine pc_lp (fun a => FQP d0 a.2) ?_ N (a0, a1) hZ
  rintro K ⟨a0, a1⟩ hZ hK
  exact wP_fX9_follow_B31 N g x2 K a0 a1 hS hZ hK
theorem wP_fX9_follow {d0 : Ds} (N : Nat) (g : Gs) (x2 : Int32) (d : Ds) (hS : Shp g) (hZ : FQP d0 d) : pc (fX9_follow N g 225 117 x2 d) (fun _ d1 => FQP d0 d1) := by
  unfold fX9_follow
  refine pc_gd (fun c_1 => ?_)
  refine pc_cv (wP_fX9_join N g x2 d hS hZ) (fun d2 z_2 => ?_)
  refine pc_gd (fun c_3 => ?_)
  refine pc_if (fun _ => ?_) (fun _ => ?_)
  · refine pc_bd (fun d6 e_4 => ?_)
    have z_5 := FQP.i z_2 rfl e_4
    exact wP_fX9_follow_L31 N g x2 hS 0 d6 z_5
  · refine pc_bd (fun d30 e_6 => ?_)
    have z_7 := FQP.i z_2 rfl e_6
    refine pc_bd (fun d31 e_8 => ?_)
    have z_9 := FQP.i z_7 rfl e_8
    exact pc_some z_9
theorem wP_fX11_ghosts {d0 : Ds} (N : Nat) (g : Gs) (x1 : Int32) (x2 : Int32) (d : Ds) (hS : Shp g) (hZ : FQP d0 d) : pc (fX11_ghosts N g 0 x1 x2 d) (fun _ d1 => FQP d0 d1) := by
  unfold fX11_ghosts
  refine pc_gd (fun c_1 => ?_)
  refine pc_ob (fun r2 e_2 => ?_)
  have t_3 := gq hS (e := 117) (by decide +kernel) e_2
  subst t_3
  refine pc_gd (fun c_4 => ?_)
  refine pc_cb (wP_fX0_keys N g d hS hZ) (fun u6 d4 z_5 => ?_)
  refine pc_if (fun _ => ?_) (fun _ => ?_)
  · refine pc_ob (fun r8 e_6 => ?_)
    have t_7 := gq hS (e := 225) (by decide +kernel) e_6
    subst t_7
    refine pc_gd (fun c_8 => ?_)
    refine pc_cv (wP_fX9_follow N g x1 d4 hS z_5) (fun d10 z_9 => ?_)
    refine pc_if (fun _ => ?_) (fun _ => ?_)
    · exact pc_some z_9
    · refine pc_if (fun _ => ?_) (fun _ => ?_)
      · refine pc_cb (wP_fJ6_bitCount_0f7a4 N g ((dI d10 225 2) &&& (x1 ^^^ (-1))) d10 hS z_9) (fun u16 d14 z_10 => ?_)
        exact pc_some z_10
      · refine pc_if (fun _ => ?_) (fun _ => ?_)
        · refine pc_cb (wP_fJ6_bitCount_0f7a4 N g (dI d10 225 3) d10 hS z_9) (fun u20 d18 z_11 => ?_)
          exact pc_some z_11
        · refine pc_if (fun _ => ?_) (fun _ => ?_)
          · exact pc_some z_9
          · exact pc_none
  · exact pc_some z_5
theorem wP_fX11_appendFour_J46 {d0 : Ds} (N : Nat) (g : Gs) (x1 : Int32) (d : Ds) (hS : Shp g) (hZ : FQP d0 d) : pc (fX11_appendFour_J46 N g 0 x1 d) (fun _ d1 => FQP d0 d1) := by
  unfold fX11_appendFour_J46
  exact pc_some hZ
theorem wP_fX11_appendFour_B3 {d0 : Ds} (N : Nat) (g : Gs) (x1 : Int32) (K3 : Int32 × Ds → Option (Unit × Ds)) (y2 : Int32) (d : Ds) (hS : Shp g) (hZ : FQP d0 d) (hK3 : ∀ a, FQP d0 a.2 → pc (K3 a) (fun _ d1 => FQP d0 d1)) : pc (fX11_appendFour_B3 N g 0 x1 K3 y2 d) (fun _ d1 => FQP d0 d1) := by
  unfold fX11_appendFour_B3
  refine pc_if (fun _ => ?_) (fun _ => ?_)
  · exact wP_fX11_appendFour_J46 N g x1 d hS hZ
  · refine pc_gd (fun c_1 => ?_)
    refine pc_if (fun _ => ?_) (fun _ => ?_)
    · exact wP_fX11_appendFour_J46 N g x1 d hS hZ
    · refine pc_ob (fun r4 e_2 => ?_)
      have t_3 := gq hS (e := 1) (by decide +kernel) e_2
      subst t_3
      refine pc_gd (fun c_4 => ?_)
      refine pc_gd (fun c_5 => ?_)
      refine pc_bd (fun d7 e_6 => ?_)
      have z_7 := FQP.i hZ rfl e_6
      refine pc_bd (fun d8 e_8 => ?_)
      have z_9 := FQP.i z_7 rfl e_8
      refine pc_bd (fun u9 e_10 => ?_)
      exact hK3 _ z_9
theorem wP_fX11_appendFour_L3 {d0 : Ds} (N : Nat) (g : Gs) (x1 : Int32) (hS : Shp g) (a0 : Int32) (a1 : Ds) (hZ : FQP d0 a1) : pc (fX11_appendFour_L3 N g 0 x1 (a0, a1)) (fun _ d1 => FQP d0 d1) := by
  unfold fX11_appendFour_L3
  refine pc_lp (fun a => FQP d0 a.2) ?_ N (a0, a1) hZ
  rintro K ⟨a0, a1⟩ hZ hK
  exact wP_fX11_appendFour_B3 N g x1 K a0 a1 hS hZ hK
theorem wP_fX11_appendFour {d0 : Ds} (N : Nat) (g : Gs) (x1 : Int32) (d : Ds) (hS : Shp g) (hZ : FQP d0 d) : pc (fX11_appendFour N g 0 x1 d) (fun _ d1 => FQP d0 d1) := by
  unfold fX11_appendFour
  exact wP_fX11_appendFour_L3 N g x1 hS 24 d hZ
theorem wP_fX11_feed {d0 : Ds} (N : Nat) (g : Gs) (x1 : Int32) (x2 : Int32) (x3 : Int32) (x4 : Int32) (x5 : Int32) (d : Ds) (hS : Shp g) (hZ : FQP d0 d) : pc (fX11_feed N g 0 x1 x2 x3 x4 x5 d) (fun _ d1 => FQP d0 d1) := by
  unfold fX11_feed
  refine pc_gd (fun c_1 => ?_)
  refine pc_if (fun _ => ?_) (fun _ => ?_)
  · refine pc_cv (wP_fX11_appendFour N g x1 d hS hZ) (fun d3 z_2 => ?_)
    refine pc_cv (wP_fX11_appendFour N g x2 d3 hS z_2) (fun d5 z_3 => ?_)
    refine pc_cv (wP_fX11_appendFour N g x3 d5 hS z_3) (fun d7 z_4 => ?_)
    refine pc_cv (wP_fX11_appendFour N g x4 d7 hS z_4) (fun d9 z_5 => ?_)
    refine pc_cv (wP_fX11_appendFour N g x5 d9 hS z_5) (fun d11 z_6 => ?_)
    exact pc_some z_6
  · exact pc_some hZ
theorem wP_fX11_back_J12 {d0 : Ds} (N : Nat) (g : Gs) (x1 : Int32) (d : Ds) (hS : Shp g) (hZ : FQP d0 d) : pc (fX11_back_J12 N g 0 x1 d) (fun _ d1 => FQP d0 d1) := by
  unfold fX11_back_J12
  exact pc_some hZ
theorem wP_fX11_back {d0 : Ds} (N : Nat) (g : Gs) (x1 : Int32) (d : Ds) (hS : Shp g) (hZ : FQP d0 d) : pc (fX11_back N g 0 x1 d) (fun _ d1 => FQP d0 d1) := by
  unfold fX11_back
  refine pc_if (fun _ => ?_) (fun _ => ?_)
  · exact wP_fX11_back_J12 N g x1 d hS hZ
  · refine pc_gd (fun c_1 => ?_)
    refine pc_if (fun _ => ?_) (fun _ => ?_)
    · refine pc_bd (fun d4 e_2 => ?_)
      have z_3 := FQP.i hZ rfl e_2
      exact pc_some z_3
    · exact wP_fX11_back_J12 N g x1 d hS hZ
theorem wP_fX12_nextBegun_J83 {d0 : Ds} (N : Nat) (g : Gs) (x1 : Int32) (K4 : Int32 × Int32 × Ds → Option (Int32 × Ds)) (y2 : Int32) (y3 : Int32) (d : Ds) (hS : Shp g) (hZ : FQP d0 d) (hK4 : ∀ a, FQP d0 a.2.2 → pc (K4 a) (fun _ d1 => FQP d0 d1)) : pc (fX12_nextBegun_J83 N g 328 x1 K4 y2 y3 d) (fun _ d1 => FQP d0 d1) := by
  unfold fX12_nextBegun_J83
  refine pc_bd (fun u7 e_1 => ?_)
  exact hK4 _ hZ
theorem wP_fX12_nextBegun_J81 {d0 : Ds} (N : Nat) (g : Gs) (x1 : Int32) (K4 : Int32 × Int32 × Ds → Option (Int32 × Ds)) (y3 : Int32) (d : Ds) (hS : Shp g) (hZ : FQP d0 d) (hK4 : ∀ a, FQP d0 a.2.2 → pc (K4 a) (fun _ d1 => FQP d0 d1)) : pc (fX12_nextBegun_J81 N g 328 x1 K4 y3 d) (fun _ d1 => FQP d0 d1) := by
  unfold fX12_nextBegun_J81
  exact wP_fX12_nextBegun_J83 N g x1 K4 y3 y3 d hS hZ hK4
theorem wP_fX12_nextBegun_B4 {d0 : Ds} (N : Nat) (g : Gs) (x1 : Int32) (K4 : Int32 × Int32 × Ds → Option (Int32 × Ds)) (y2 : Int32) (y3 : Int32) (d : Ds) (hS : Shp g) (hZ : FQP d0 d) (hK4 : ∀ a, FQP d0 a.2.2 → pc (K4 a) (fun _ d1 => FQP d0 d1)) : pc (fX12_nextBegun_B4 N g 328 x1 K4 y2 y3 d) (fun _ d1 => FQP d0 d1) := by
  unfold fX12_nextBegun_B4
  refine pc_if (fun _ => ?_) (fun _ => ?_)
  · exact pc_some hZ
  · refine pc_gd (fun c_1 => ?_)
    refine pc_ob (fun r3 e_2 => ?_)
    have t_3 := gq hS (e := 336) (by decide +kernel) e_2
    subst t_3
    refine pc_gd (fun c_4 => ?_)
    refine pc_gd (fun c_5 => ?_)
    refine pc_if (fun _ => ?_) (fun _ => ?_)
    · exact wP_fX12_nextBegun_J83 N g x1 K4 y2 y3 d hS hZ hK4
    · refine pc_gd (fun c_6 => ?_)
      refine pc_if (fun _ => ?_) (fun _ => ?_)
      · refine pc_if (fun _ => ?_) (fun _ => ?_)
        · exact wP_fX12_nextBegun_J81 N g x1 K4 y3 d hS hZ hK4
        · refine pc_gd (fun c_7 => ?_)
          refine pc_if (fun _ => ?_) (fun _ => ?_)
          · exact wP_fX12_nextBegun_J83 N g x1 K4 y2 y3 d hS hZ hK4
          · exact wP_fX12_nextBegun_J81 N g x1 K4 y3 d hS hZ hK4
      · exact wP_fX12_nextBegun_J83 N g x1 K4 y2 y3 d hS hZ hK4
theorem wP_fX12_nextBegun_L4 {d0 : Ds} (N : Nat) (g : Gs) (x1 : Int32) (hS : Shp g) (a0 : Int32) (a1 : Int32) (a2 : Ds) (hZ : FQP d0 a2) : pc (fX12_nextBegun_L4 N g 328 x1 (a0, a1, a2)) (fun _ d1 => FQP d0 d1) := by
  unfold fX12_nextBegun_L4
  refine pc_lp (fun a => FQP d0 a.2.2) ?_ N (a0, a1, a2) hZ
  rintro K ⟨a0, a1, a2⟩ hZ hK
  exact wP_fX12_nextBegun_B4 N g x1 K a0 a1 a2 hS hZ hK
theorem wP_fX12_nextBegun {d0 : Ds} (N : Nat) (g : Gs) (x1 : Int32) (d : Ds) (hS : Shp g) (hZ : FQP d0 d) : pc (fX12_nextBegun N g 328 x1 d) (fun _ d1 => FQP d0 d1) := by
  unfold fX12_nextBegun
  exact wP_fX12_nextBegun_L4 N g x1 hS (-1) 0 d hZ
theorem wP_fX12_laysSent_J121 {d0 : Ds} (N : Nat) (g : Gs) (d : Ds) (hS : Shp g) (hZ : FQP d0 d) : pc (fX12_laysSent_J121 N g 328 d) (fun _ d1 => FQP d0 d1) := by
  unfold fX12_laysSent_J121
  exact pc_some hZ
theorem wP_fX12_adds_B2 {d0 : Ds} (N : Nat) (g : Gs) (x1 : Int32) (K2 : Int32 × Ds → Option (Unit × Ds)) (y2 : Int32) (d : Ds) (hS : Shp g) (hZ : FQP d0 d) (hK2 : ∀ a, FQP d0 a.2 → pc (K2 a) (fun _ d1 => FQP d0 d1)) : pc (fX12_adds_B2 N g 328 x1 K2 y2 d) (fun _ d1 => FQP d0 d1) := by
  unfold fX12_adds_B2
  refine pc_gd (fun c_1 => ?_)
  refine pc_if (fun _ => ?_) (fun _ => ?_)
  · refine pc_ob (fun r3 e_2 => ?_)
    have t_3 := gq hS (e := 341) (by decide +kernel) e_2
    subst t_3
    refine pc_gd (fun c_4 => ?_)
    refine pc_gd (fun c_5 => ?_)
    refine pc_bd (fun d6 e_6 => ?_)
    have z_7 := FQP.i hZ rfl e_6
    refine pc_bd (fun d7 e_8 => ?_)
    have z_9 := FQP.i z_7 rfl e_8
    exact pc_some z_9
  · refine pc_ob (fun r8 e_10 => ?_)
    have t_11 := gq hS (e := 341) (by decide +kernel) e_10
    subst t_11
    refine pc_gd (fun c_12 => ?_)
    refine pc_gd (fun c_13 => ?_)
    refine pc_if (fun _ => ?_) (fun _ => ?_)
    · exact pc_some hZ
    · refine pc_bd (fun u12 e_14 => ?_)
      exact hK2 _ hZ
theorem wP_fX12_adds_L2 {d0 : Ds} (N : Nat) (g : Gs) (x1 : Int32) (hS : Shp g) (a0 : Int32) (a1 : Ds) (hZ : FQP d0 a1) : pc (fX12_adds_L2 N g 328 x1 (a0, a1)) (fun _ d1 => FQP d0 d1) := by
  unfold fX12_adds_L2
  refine pc_lp (fun a => FQP d0 a.2) ?_ N (a0, a1) hZ
  rintro K ⟨a0, a1⟩ hZ hK
  exact wP_fX12_adds_B2 N g x1 K a0 a1 hS hZ hK
theorem wP_fX12_adds {d0 : Ds} (N : Nat) (g : Gs) (x1 : Int32) (d : Ds) (hS : Shp g) (hZ : FQP d0 d) : pc (fX12_adds N g 328 x1 d) (fun _ d1 => FQP d0 d1) := by
  unfold fX12_adds
  exact wP_fX12_adds_L2 N g x1 hS 0 d hZ
theorem wP_fX12_laysSent_J80 {d0 : Ds} (N : Nat) (g : Gs) (K18 : Int32 × Ds → Option (Unit × Ds)) (y3 : Int32) (d : Ds) (hS : Shp g) (hZ : FQP d0 d) (hK18 : ∀ a, FQP d0 a.2 → pc (K18 a) (fun _ d1 => FQP d0 d1)) : pc (fX12_laysSent_J80 N g 328 K18 y3 d) (fun _ d1 => FQP d0 d1) := by
  unfold fX12_laysSent_J80
  refine pc_gd (fun c_1 => ?_)
  refine pc_ob (fun r27 e_2 => ?_)
  have t_3 := gq hS (e := 336) (by decide +kernel) e_2
  subst t_3
  refine pc_gd (fun c_4 => ?_)
  refine pc_gd (fun c_5 => ?_)
  refine pc_bd (fun u30 e_6 => ?_)
  refine pc_cb (wP_fX12_nextBegun N g u30 d hS hZ) (fun u33 d31 z_7 => ?_)
  exact hK18 _ z_7
theorem wP_fX12_laysSent_J59 {d0 : Ds} (N : Nat) (g : Gs) (K18 : Int32 × Ds → Option (Unit × Ds)) (y3 : Int32) (d : Ds) (hS : Shp g) (hZ : FQP d0 d) (hK18 : ∀ a, FQP d0 a.2 → pc (K18 a) (fun _ d1 => FQP d0 d1)) : pc (fX12_laysSent_J59 N g 328 K18 y3 d) (fun _ d1 => FQP d0 d1) := by
  unfold fX12_laysSent_J59
  refine pc_gd (fun c_1 => ?_)
  refine pc_ob (fun r22 e_2 => ?_)
  have t_3 := gq hS (e := 336) (by decide +kernel) e_2
  subst t_3
  refine pc_gd (fun c_4 => ?_)
  refine pc_gd (fun c_5 => ?_)
  refine pc_if (fun _ => ?_) (fun _ => ?_)
  · refine pc_gd (fun c_6 => ?_)
    refine pc_cv (wP_fX12_adds N g (dI d 336 (y3 + 1).toNatClampNeg) d hS hZ) (fun d35 z_7 => ?_)
    exact wP_fX12_laysSent_J80 N g K18 y3 d35 hS z_7 hK18
  · exact wP_fX12_laysSent_J80 N g K18 y3 d hS hZ hK18
theorem wP_fX12_laysSent_B18 {d0 : Ds} (N : Nat) (g : Gs) (K18 : Int32 × Ds → Option (Unit × Ds)) (y2 : Int32) (d : Ds) (hS : Shp g) (hZ : FQP d0 d) (hK18 : ∀ a, FQP d0 a.2 → pc (K18 a) (fun _ d1 => FQP d0 d1)) : pc (fX12_laysSent_B18 N g 328 K18 y2 d) (fun _ d1 => FQP d0 d1) := by
  unfold fX12_laysSent_B18
  refine pc_if (fun _ => ?_) (fun _ => ?_)
  · refine pc_gd (fun c_1 => ?_)
    refine pc_ob (fun r9 e_2 => ?_)
    have t_3 := gq hS (e := 336) (by decide +kernel) e_2
    subst t_3
    refine pc_gd (fun c_4 => ?_)
    refine pc_gd (fun c_5 => ?_)
    refine pc_if (fun _ => ?_) (fun _ => ?_)
    · exact wP_fX12_laysSent_J121 N g d hS hZ
    · refine pc_cv (wP_fX12_adds N g (dI d 336 (454 : Int32).toNatClampNeg) d hS hZ) (fun d13 z_6 => ?_)
      exact wP_fX12_laysSent_J121 N g d13 hS z_6
  · refine pc_bd (fun u15 e_7 => ?_)
    refine pc_gd (fun c_8 => ?_)
    refine pc_ob (fun r17 e_9 => ?_)
    have t_10 := gq hS (e := 336) (by decide +kernel) e_9
    subst t_10
    refine pc_gd (fun c_11 => ?_)
    refine pc_gd (fun c_12 => ?_)
    refine pc_if (fun _ => ?_) (fun _ => ?_)
    · refine pc_gd (fun c_13 => ?_)
      refine pc_bd (fun d38 e_14 => ?_)
      have z_15 := FQP.i hZ rfl e_14
      exact wP_fX12_laysSent_J59 N g K18 u15 d38 hS z_15 hK18
    · exact wP_fX12_laysSent_J59 N g K18 u15 d hS hZ hK18
theorem wP_fX12_laysSent_L18 {d0 : Ds} (N : Nat) (g : Gs) (hS : Shp g) (a0 : Int32) (a1 : Ds) (hZ : FQP d0 a1) : pc (fX12_laysSent_L18 N g 328 (a0, a1)) (fun _ d1 => FQP d0 d1) := by
  unfold fX12_laysSent_L18
  refine pc_lp (fun a => FQP d0 a.2) ?_ N (a0, a1) hZ
  rintro K ⟨a0, a1⟩ hZ hK
  exact wP_fX12_laysSent_B18 N g K a0 a1 hS hZ hK
theorem wP_fX12_laysSent {d0 : Ds} (N : Nat) (g : Gs) (d : Ds) (hS : Shp g) (hZ : FQP d0 d) : pc (fX12_laysSent N g 328 d) (fun _ d1 => FQP d0 d1) := by
  unfold fX12_laysSent
  refine pc_gd (fun c_1 => ?_)
  refine pc_bd (fun d2 e_2 => ?_)
  have z_3 := FQP.i hZ rfl e_2
  refine pc_bd (fun d3 e_4 => ?_)
  have z_5 := FQP.i z_3 rfl e_4
  refine pc_cb (wP_fX12_nextBegun N g (-1) d3 hS z_5) (fun u6 d4 z_6 => ?_)
  exact wP_fX12_laysSent_L18 N g hS u6 d4 z_6
theorem wP_fX12_sent_J59 {d0 : Ds} (N : Nat) (g : Gs) (x1 : Int32) (z0 : Int32) (d : Ds) (hS : Shp g) (hZ : FQP d0 d) : pc (fX12_sent_J59 N g 328 x1 z0 d) (fun _ d1 => FQP d0 d1) := by
  unfold fX12_sent_J59
  exact pc_some hZ
theorem wP_fX12_in_J15 {d0 : Ds} (N : Nat) (g : Gs) (x0 : Int32) (x1 : Int32) (x2 : Int32) (z0 : Int32) (d : Ds) (hS : Shp g) (hZ : FQP d0 d) : pc (fX12_in_J15 N g x0 x1 x2 z0 d) (fun _ d1 => FQP d0 d1) := by
  unfold fX12_in_J15
  refine pc_gd (fun c_1 => ?_)
  exact pc_some hZ
theorem wP_fX12_in_J14 {d0 : Ds} (N : Nat) (g : Gs) (x0 : Int32) (x1 : Int32) (x2 : Int32) (d : Ds) (hS : Shp g) (hZ : FQP d0 d) : pc (fX12_in_J14 N g x0 x1 x2 d) (fun _ d1 => FQP d0 d1) := by
  unfold fX12_in_J14
  exact wP_fX12_in_J15 N g x0 x1 x2 0 d hS hZ
theorem wP_fX12_in {d0 : Ds} (N : Nat) (g : Gs) (x0 : Int32) (x1 : Int32) (x2 : Int32) (d : Ds) (hS : Shp g) (hZ : FQP d0 d) : pc (fX12_in N g x0 x1 x2 d) (fun _ d1 => FQP d0 d1) := by
  unfold fX12_in
  refine pc_if (fun _ => ?_) (fun _ => ?_)
  · exact wP_fX12_in_J14 N g x0 x1 x2 d hS hZ
  · refine pc_if (fun _ => ?_) (fun _ => ?_)
    · exact wP_fX12_in_J14 N g x0 x1 x2 d hS hZ
    · exact wP_fX12_in_J15 N g x0 x1 x2 1 d hS hZ
theorem wP_fX12_sent_J58 {d0 : Ds} (N : Nat) (g : Gs) (x1 : Int32) (d : Ds) (hS : Shp g) (hZ : FQP d0 d) : pc (fX12_sent_J58 N g 328 x1 d) (fun _ d1 => FQP d0 d1) := by
  unfold fX12_sent_J58
  exact wP_fX12_sent_J59 N g x1 (-1) d hS hZ
theorem wP_fX12_sent {d0 : Ds} (N : Nat) (g : Gs) (x1 : Int32) (d : Ds) (hS : Shp g) (hZ : FQP d0 d) : pc (fX12_sent N g 328 x1 d) (fun _ d1 => FQP d0 d1) := by
  unfold fX12_sent
  refine pc_gd (fun c_1 => ?_)
  refine pc_cv (wP_fX12_laysSent N g d hS hZ) (fun d2 z_2 => ?_)
  refine pc_if (fun _ => ?_) (fun _ => ?_)
  · exact wP_fX12_sent_J59 N g x1 (dI d2 328 25) d2 hS z_2
  · refine pc_if (fun _ => ?_) (fun _ => ?_)
    · exact wP_fX12_sent_J59 N g x1 (dI d2 328 26) d2 hS z_2
    · refine pc_cb (wP_fX12_in N g (x1 - 2) 0 ((dI d2 328 26) - 1) d2 hS z_2) (fun u8 d6 z_3 => ?_)
      refine pc_if (fun _ => ?_) (fun _ => ?_)
      · exact wP_fX12_sent_J58 N g x1 d6 hS z_3
      · refine pc_if (fun _ => ?_) (fun _ => ?_)
        · exact wP_fX12_sent_J58 N g x1 d6 hS z_3
        · refine pc_ob (fun r11 e_4 => ?_)
          have t_5 := gq hS (e := 341) (by decide +kernel) e_4
          subst t_5
          refine pc_gd (fun c_6 => ?_)
          refine pc_gd (fun c_7 => ?_)
          exact wP_fX12_sent_J59 N g x1 (dI d6 341 (x1 - 2).toNatClampNeg) d6 hS z_3
theorem wP_fX12_activeLayers_J54 {d0 : Ds} (N : Nat) (g : Gs) (K13 : Int32 × Int32 × Ds → Option (Int32 × Ds)) (y1 : Int32) (y2 : Int32) (d : Ds) (hS : Shp g) (hZ : FQP d0 d) (hK13 : ∀ a, FQP d0 a.2.2 → pc (K13 a) (fun _ d1 => FQP d0 d1)) : pc (fX12_activeLayers_J54 N g 328 K13 y1 y2 d) (fun _ d1 => FQP d0 d1) := by
  unfold fX12_activeLayers_J54
  refine pc_bd (fun u12 e_1 => ?_)
  exact hK13 _ hZ
theorem wP_fX12_activeLayers_B13 {d0 : Ds} (N : Nat) (g : Gs) (K13 : Int32 × Int32 × Ds → Option (Int32 × Ds)) (y1 : Int32) (y2 : Int32) (d : Ds) (hS : Shp g) (hZ : FQP d0 d) (hK13 : ∀ a, FQP d0 a.2.2 → pc (K13 a) (fun _ d1 => FQP d0 d1)) : pc (fX12_activeLayers_B13 N g 328 K13 y1 y2 d) (fun _ d1 => FQP d0 d1) := by
  unfold fX12_activeLayers_B13
  refine pc_if (fun _ => ?_) (fun _ => ?_)
  · exact pc_some hZ
  · refine pc_gd (fun c_1 => ?_)
    refine pc_ob (fun r8 e_2 => ?_)
    have t_3 := gq hS (e := 336) (by decide +kernel) e_2
    subst t_3
    refine pc_gd (fun c_4 => ?_)
    refine pc_gd (fun c_5 => ?_)
    refine pc_if (fun _ => ?_) (fun _ => ?_)
    · refine pc_gd (fun c_6 => ?_)
      refine pc_bd (fun u14 e_7 => ?_)
      refine pc_bd (fun u15 e_8 => ?_)
      exact wP_fX12_activeLayers_J54 N g K13 u15 y2 d hS hZ hK13
    · exact wP_fX12_activeLayers_J54 N g K13 y1 y2 d hS hZ hK13
theorem wP_fX12_activeLayers_L13 {d0 : Ds} (N : Nat) (g : Gs) (hS : Shp g) (a0 : Int32) (a1 : Int32) (a2 : Ds) (hZ : FQP d0 a2) : pc (fX12_activeLayers_L13 N g 328 (a0, a1, a2)) (fun _ d1 => FQP d0 d1) := by
  unfold fX12_activeLayers_L13
  refine pc_lp (fun a => FQP d0 a.2.2) ?_ N (a0, a1, a2) hZ
  rintro K ⟨a0, a1, a2⟩ hZ hK
  exact wP_fX12_activeLayers_B13 N g K a0 a1 a2 hS hZ hK
theorem wP_fX12_activeLayers {d0 : Ds} (N : Nat) (g : Gs) (d : Ds) (hS : Shp g) (hZ : FQP d0 d) : pc (fX12_activeLayers N g 328 d) (fun _ d1 => FQP d0 d1) := by
  unfold fX12_activeLayers
  refine pc_gd (fun c_1 => ?_)
  refine pc_ob (fun r2 e_2 => ?_)
  have t_3 := gq hS (e := 336) (by decide +kernel) e_2
  subst t_3
  refine pc_gd (fun c_4 => ?_)
  refine pc_gd (fun c_5 => ?_)
  refine pc_bd (fun u5 e_6 => ?_)
  exact wP_fX12_activeLayers_L13 N g hS u5 0 d hZ
theorem wP_fX12_keysMany {d0 : Ds} (N : Nat) (g : Gs) (d : Ds) (hS : Shp g) (hZ : FQP d0 d) : pc (fX12_keysMany N g 328 d) (fun _ d1 => FQP d0 d1) := by
  unfold fX12_keysMany
  refine pc_gd (fun c_1 => ?_)
  refine pc_ob (fun r2 e_2 => ?_)
  have t_3 := gq hS (e := 336) (by decide +kernel) e_2
  subst t_3
  refine pc_gd (fun c_4 => ?_)
  refine pc_gd (fun c_5 => ?_)
  refine pc_gd (fun c_6 => ?_)
  exact pc_some hZ
theorem wP_fX12_has_J14 {d0 : Ds} (N : Nat) (g : Gs) (x0 : Int32) (x1 : Int32) (z0 : Int32) (d : Ds) (hS : Shp g) (hZ : FQP d0 d) : pc (fX12_has_J14 N g x0 x1 z0 d) (fun _ d1 => FQP d0 d1) := by
  unfold fX12_has_J14
  refine pc_gd (fun c_1 => ?_)
  exact pc_some hZ
theorem wP_fX12_has {d0 : Ds} (N : Nat) (g : Gs) (x0 : Int32) (x1 : Int32) (d : Ds) (hS : Shp g) (hZ : FQP d0 d) : pc (fX12_has N g x0 x1 d) (fun _ d1 => FQP d0 d1) := by
  unfold fX12_has
  refine pc_if (fun _ => ?_) (fun _ => ?_)
  · exact wP_fX12_has_J14 N g x0 x1 1 d hS hZ
  · exact wP_fX12_has_J14 N g x0 x1 0 d hS hZ
theorem wP_fX12_laysParts_J148 {d0 : Ds} (N : Nat) (g : Gs) (x1 : Int32) (K39 : Int32 × Int32 × Int32 × Ds → Option (Int32 × Ds)) (y2 : Int32) (y3 : Int32) (y4 : Int32) (d : Ds) (hS : Shp g) (hZ : FQP d0 d) (hK39 : ∀ a, FQP d0 a.2.2.2 → pc (K39 a) (fun _ d1 => FQP d0 d1)) : pc (fX12_laysParts_J148 N g 328 x1 K39 y2 y3 y4 d) (fun _ d1 => FQP d0 d1) := by
  unfold fX12_laysParts_J148
  refine pc_bd (fun u32 e_1 => ?_)
  exact hK39 _ hZ
theorem wP_fX12_laysParts_J142 {d0 : Ds} (N : Nat) (g : Gs) (x1 : Int32) (K39 : Int32 × Int32 × Int32 × Ds → Option (Int32 × Ds)) (K115 : Int32 × Int32 × Int32 × Int32 × Int32 × Int32 × Ds → Option (Int32 × Ds)) (y2 : Int32) (y3 : Int32) (y4 : Int32) (y5 : Int32) (y6 : Int32) (y7 : Int32) (d : Ds) (hS : Shp g) (hZ : FQP d0 d) (hK39 : ∀ a, FQP d0 a.2.2.2 → pc (K39 a) (fun _ d1 => FQP d0 d1)) (hK115 : ∀ a, FQP d0 a.2.2.2.2.2.2 → pc (K115 a) (fun _ d1 => FQP d0 d1)) : pc (fX12_laysParts_J142 N g 328 x1 K39 K115 y2 y3 y4 y5 y6 y7 d) (fun _ d1 => FQP d0 d1) := by
  unfold fX12_laysParts_J142
  refine pc_bd (fun u38 e_1 => ?_)
  exact hK115 _ hZ
theorem wP_fX12_laysParts_B115 {d0 : Ds} (N : Nat) (g : Gs) (x1 : Int32) (K39 : Int32 × Int32 × Int32 × Ds → Option (Int32 × Ds)) (K115 : Int32 × Int32 × Int32 × Int32 × Int32 × Int32 × Ds → Option (Int32 × Ds)) (y2 : Int32) (y3 : Int32) (y4 : Int32) (y5 : Int32) (y6 : Int32) (y7 : Int32) (d : Ds) (hS : Shp g) (hZ : FQP d0 d) (hK39 : ∀ a, FQP d0 a.2.2.2 → pc (K39 a) (fun _ d1 => FQP d0 d1)) (hK115 : ∀ a, FQP d0 a.2.2.2.2.2.2 → pc (K115 a) (fun _ d1 => FQP d0 d1)) : pc (fX12_laysParts_B115 N g 328 x1 K39 K115 y2 y3 y4 y5 y6 y7 d) (fun _ d1 => FQP d0 d1) := by
  unfold fX12_laysParts_B115
  refine pc_if (fun _ => ?_) (fun _ => ?_)
  · exact wP_fX12_laysParts_J148 N g x1 K39 y2 y3 y4 d hS hZ hK39
  · refine pc_gd (fun c_1 => ?_)
    refine pc_ob (fun r34 e_2 => ?_)
    have t_3 := gq hS (e := 340) (by decide +kernel) e_2
    subst t_3
    refine pc_gd (fun c_4 => ?_)
    refine pc_gd (fun c_5 => ?_)
    refine pc_if (fun _ => ?_) (fun _ => ?_)
    · refine pc_bd (fun d39 e_6 => ?_)
      have z_7 := FQP.i hZ rfl e_6
      exact wP_fX12_laysParts_J142 N g x1 K39 K115 y2 y3 y4 y5 y6 y7 d39 hS z_7 hK39 hK115
    · exact wP_fX12_laysParts_J142 N g x1 K39 K115 y2 y3 y4 y5 y6 y7 d hS hZ hK39 hK115
theorem wP_fX12_laysParts_L115 {d0 : Ds} (N : Nat) (g : Gs) (x1 : Int32) (K39 : Int32 × Int32 × Int32 × Ds → Option (Int32 × Ds)) (hS : Shp g) (a0 : Int32) (a1 : Int32) (a2 : Int32) (a3 : Int32) (a4 : Int32) (a5 : Int32) (a6 : Ds) (hZ : FQP d0 a6) (hK39 : ∀ a, FQP d0 a.2.2.2 → pc (K39 a) (fun _ d1 => FQP d0 d1)) : pc (fX12_laysParts_L115 N g 328 x1 K39 (a0, a1, a2, a3, a4, a5, a6)) (fun _ d1 => FQP d0 d1) := by
  unfold fX12_laysParts_L115
  refine pc_lp (fun a => FQP d0 a.2.2.2.2.2.2) ?_ N (a0, a1, a2, a3, a4, a5, a6) hZ
  rintro K ⟨a0, a1, a2, a3, a4, a5, a6⟩ hZ hK
  exact wP_fX12_laysParts_B115 N g x1 K39 K a0 a1 a2 a3 a4 a5 a6 hS hZ hK39 hK
theorem wP_fX12_laysParts_B39 {d0 : Ds} (N : Nat) (g : Gs) (x1 : Int32) (K39 : Int32 × Int32 × Int32 × Ds → Option (Int32 × Ds)) (y2 : Int32) (y3 : Int32) (y4 : Int32) (d : Ds) (hS : Shp g) (hZ : FQP d0 d) (hK39 : ∀ a, FQP d0 a.2.2.2 → pc (K39 a) (fun _ d1 => FQP d0 d1)) : pc (fX12_laysParts_B39 N g 328 x1 K39 y2 y3 y4 d) (fun _ d1 => FQP d0 d1) := by
  unfold fX12_laysParts_B39
  refine pc_gd (fun c_1 => ?_)
  refine pc_cb (wP_fX12_keysMany N g d hS hZ) (fun u11 d9 z_2 => ?_)
  refine pc_if (fun _ => ?_) (fun _ => ?_)
  · exact pc_some z_2
  · refine pc_cb (wP_fX12_has N g x1 y4 d9 hS z_2) (fun u15 d13 z_3 => ?_)
    refine pc_if (fun _ => ?_) (fun _ => ?_)
    · exact wP_fX12_laysParts_J148 N g x1 K39 y2 y3 y4 d13 hS z_3 hK39
    · refine pc_ob (fun r17 e_4 => ?_)
      have t_5 := gq hS (e := 340) (by decide +kernel) e_4
      subst t_5
      refine pc_ob (fun r18 e_6 => ?_)
      have t_7 := gq hS (e := 336) (by decide +kernel) e_6
      subst t_7
      refine pc_gd (fun c_8 => ?_)
      refine pc_gd (fun c_9 => ?_)
      refine pc_gd (fun c_10 => ?_)
      refine pc_gd (fun c_11 => ?_)
      refine pc_gd (fun c_12 => ?_)
      refine pc_bd (fun u24 e_13 => ?_)
      refine pc_gd (fun c_14 => ?_)
      refine pc_bd (fun u26 e_15 => ?_)
      refine pc_gd (fun c_16 => ?_)
      refine pc_bd (fun u28 e_17 => ?_)
      refine pc_if (fun _ => ?_) (fun _ => ?_)
      · exact wP_fX12_laysParts_J148 N g x1 K39 y2 y3 y4 d13 hS z_3 hK39
      · refine pc_bd (fun u30 e_18 => ?_)
        exact wP_fX12_laysParts_L115 N g x1 K39 hS y2 u30 y4 u24 u28 0 d13 z_3 hK39
theorem wP_fX12_laysParts_L39 {d0 : Ds} (N : Nat) (g : Gs) (x1 : Int32) (hS : Shp g) (a0 : Int32) (a1 : Int32) (a2 : Int32) (a3 : Ds) (hZ : FQP d0 a3) : pc (fX12_laysParts_L39 N g 328 x1 (a0, a1, a2, a3)) (fun _ d1 => FQP d0 d1) := by
  unfold fX12_laysParts_L39
  refine pc_lp (fun a => FQP d0 a.2.2.2) ?_ N (a0, a1, a2, a3) hZ
  rintro K ⟨a0, a1, a2, a3⟩ hZ hK
  exact wP_fX12_laysParts_B39 N g x1 K a0 a1 a2 a3 hS hZ hK
theorem wP_fX12_laysParts_B16 {d0 : Ds} (N : Nat) (g : Gs) (x1 : Int32) (K16 : Int32 × Int32 × Ds → Option (Int32 × Ds)) (y2 : Int32) (y3 : Int32) (d : Ds) (hS : Shp g) (hZ : FQP d0 d) (hK16 : ∀ a, FQP d0 a.2.2 → pc (K16 a) (fun _ d1 => FQP d0 d1)) : pc (fX12_laysParts_B16 N g 328 x1 K16 y2 y3 d) (fun _ d1 => FQP d0 d1) := by
  unfold fX12_laysParts_B16
  refine pc_if (fun _ => ?_) (fun _ => ?_)
  · exact wP_fX12_laysParts_L39 N g x1 hS y2 y2 0 d hZ
  · refine pc_gd (fun c_1 => ?_)
    refine pc_ob (fun r41 e_2 => ?_)
    have t_3 := gq hS (e := 340) (by decide +kernel) e_2
    subst t_3
    refine pc_gd (fun c_4 => ?_)
    refine pc_gd (fun c_5 => ?_)
    refine pc_bd (fun d44 e_6 => ?_)
    have z_7 := FQP.i hZ rfl e_6
    refine pc_bd (fun u45 e_8 => ?_)
    exact hK16 _ z_7
theorem wP_fX12_laysParts_L16 {d0 : Ds} (N : Nat) (g : Gs) (x1 : Int32) (hS : Shp g) (a0 : Int32) (a1 : Int32) (a2 : Ds) (hZ : FQP d0 a2) : pc (fX12_laysParts_L16 N g 328 x1 (a0, a1, a2)) (fun _ d1 => FQP d0 d1) := by
  unfold fX12_laysParts_L16
  refine pc_lp (fun a => FQP d0 a.2.2) ?_ N (a0, a1, a2) hZ
  rintro K ⟨a0, a1, a2⟩ hZ hK
  exact wP_fX12_laysParts_B16 N g x1 K a0 a1 a2 hS hZ hK
theorem wP_fX12_laysParts {d0 : Ds} (N : Nat) (g : Gs) (x1 : Int32) (d : Ds) (hS : Shp g) (hZ : FQP d0 d) : pc (fX12_laysParts N g 328 x1 d) (fun _ d1 => FQP d0 d1) := by
  unfold fX12_laysParts
  refine pc_gd (fun c_1 => ?_)
  refine pc_ob (fun r2 e_2 => ?_)
  have t_3 := gq hS (e := 336) (by decide +kernel) e_2
  subst t_3
  refine pc_gd (fun c_4 => ?_)
  refine pc_gd (fun c_5 => ?_)
  refine pc_gd (fun c_6 => ?_)
  refine pc_bd (fun u6 e_7 => ?_)
  exact wP_fX12_laysParts_L16 N g x1 hS u6 0 d hZ
theorem wP_fX12_seenBy_J77 {d0 : Ds} (N : Nat) (g : Gs) (x1 : Int32) (K23 : Int32 × Int32 × Ds → Option (Int32 × Ds)) (y3 : Int32) (y4 : Int32) (d : Ds) (hS : Shp g) (hZ : FQP d0 d) (hK23 : ∀ a, FQP d0 a.2.2 → pc (K23 a) (fun _ d1 => FQP d0 d1)) : pc (fX12_seenBy_J77 N g 328 x1 K23 y3 y4 d) (fun _ d1 => FQP d0 d1) := by
  unfold fX12_seenBy_J77
  refine pc_bd (fun u25 e_1 => ?_)
  exact hK23 _ hZ
theorem wP_fX12_seenBy_B23 {d0 : Ds} (N : Nat) (g : Gs) (x1 : Int32) (K23 : Int32 × Int32 × Ds → Option (Int32 × Ds)) (y3 : Int32) (y4 : Int32) (d : Ds) (hS : Shp g) (hZ : FQP d0 d) (hK23 : ∀ a, FQP d0 a.2.2 → pc (K23 a) (fun _ d1 => FQP d0 d1)) : pc (fX12_seenBy_B23 N g 328 x1 K23 y3 y4 d) (fun _ d1 => FQP d0 d1) := by
  unfold fX12_seenBy_B23
  refine pc_gd (fun c_1 => ?_)
  refine pc_cb (wP_fX12_keysMany N g d hS hZ) (fun u12 d10 z_2 => ?_)
  refine pc_if (fun _ => ?_) (fun _ => ?_)
  · exact pc_some z_2
  · refine pc_ob (fun r14 e_3 => ?_)
    have t_4 := gq hS (e := 340) (by decide +kernel) e_3
    subst t_4
    refine pc_ob (fun r15 e_5 => ?_)
    have t_6 := gq hS (e := 336) (by decide +kernel) e_5
    subst t_6
    refine pc_gd (fun c_7 => ?_)
    refine pc_gd (fun c_8 => ?_)
    refine pc_gd (fun c_9 => ?_)
    refine pc_gd (fun c_10 => ?_)
    refine pc_gd (fun c_11 => ?_)
    refine pc_gd (fun c_12 => ?_)
    refine pc_bd (fun u22 e_13 => ?_)
    refine pc_gd (fun c_14 => ?_)
    refine pc_if (fun _ => ?_) (fun _ => ?_)
    · refine pc_bd (fun u26 e_15 => ?_)
      exact wP_fX12_seenBy_J77 N g x1 K23 u26 y4 d10 hS z_2 hK23
    · exact wP_fX12_seenBy_J77 N g x1 K23 y3 y4 d10 hS z_2 hK23
theorem wP_fX12_seenBy_L23 {d0 : Ds} (N : Nat) (g : Gs) (x1 : Int32) (hS : Shp g) (a0 : Int32) (a1 : Int32) (a2 : Ds) (hZ : FQP d0 a2) : pc (fX12_seenBy_L23 N g 328 x1 (a0, a1, a2)) (fun _ d1 => FQP d0 d1) := by
  unfold fX12_seenBy_L23
  refine pc_lp (fun a => FQP d0 a.2.2) ?_ N (a0, a1, a2) hZ
  rintro K ⟨a0, a1, a2⟩ hZ hK
  exact wP_fX12_seenBy_B23 N g x1 K a0 a1 a2 hS hZ hK
theorem wP_fX12_seenBy {d0 : Ds} (N : Nat) (g : Gs) (x1 : Int32) (d : Ds) (hS : Shp g) (hZ : FQP d0 d) : pc (fX12_seenBy N g 328 x1 d) (fun _ d1 => FQP d0 d1) := by
  unfold fX12_seenBy
  refine pc_gd (fun c_1 => ?_)
  refine pc_ob (fun r2 e_2 => ?_)
  have t_3 := gq hS (e := 336) (by decide +kernel) e_2
  subst t_3
  refine pc_gd (fun c_4 => ?_)
  refine pc_gd (fun c_5 => ?_)
  refine pc_if (fun _ => ?_) (fun _ => ?_)
  · exact pc_some hZ
  · refine pc_cb (wP_fX12_laysParts N g x1 d hS hZ) (fun u8 d6 z_6 => ?_)
    exact wP_fX12_seenBy_L23 N g x1 hS 0 0 d6 z_6
theorem wP_fX12_isCornered_J105 {d0 : Ds} (N : Nat) (g : Gs) (x1 : Int32) (x2 : Int32) (x3 : Int32) (K11 : Int32 × Int32 × Ds → Option (Int32 × Ds)) (K25 : Int32 × Int32 × Int32 × Ds → Option (Int32 × Ds)) (y4 : Int32) (y5 : Int32) (y6 : Int32) (d : Ds) (hS : Shp g) (hZ : FQP d0 d) (hK11 : ∀ a, FQP d0 a.2.2 → pc (K11 a) (fun _ d1 => FQP d0 d1)) (hK25 : ∀ a, FQP d0 a.2.2.2 → pc (K25 a) (fun _ d1 => FQP d0 d1)) : pc (fX12_isCornered_J105 N g 328 x1 x2 x3 K11 K25 y4 y5 y6 d) (fun _ d1 => FQP d0 d1) := by
  unfold fX12_isCornered_J105
  refine pc_bd (fun u14 e_1 => ?_)
  exact hK25 _ hZ
theorem wP_fX12_isCornered_B25 {d0 : Ds} (N : Nat) (g : Gs) (x1 : Int32) (x2 : Int32) (x3 : Int32) (K11 : Int32 × Int32 × Ds → Option (Int32 × Ds)) (K25 : Int32 × Int32 × Int32 × Ds → Option (Int32 × Ds)) (y4 : Int32) (y5 : Int32) (y6 : Int32) (d : Ds) (hS : Shp g) (hZ : FQP d0 d) (hK11 : ∀ a, FQP d0 a.2.2 → pc (K11 a) (fun _ d1 => FQP d0 d1)) (hK25 : ∀ a, FQP d0 a.2.2.2 → pc (K25 a) (fun _ d1 => FQP d0 d1)) : pc (fX12_isCornered_B25 N g 328 x1 x2 x3 K11 K25 y4 y5 y6 d) (fun _ d1 => FQP d0 d1) := by
  unfold fX12_isCornered_B25
  refine pc_if (fun _ => ?_) (fun _ => ?_)
  · refine pc_bd (fun u12 e_1 => ?_)
    exact hK11 _ hZ
  · refine pc_if (fun _ => ?_) (fun _ => ?_)
    · exact wP_fX12_isCornered_J105 N g x1 x2 x3 K11 K25 y4 y5 y6 d hS hZ hK11 hK25
    · refine pc_if (fun _ => ?_) (fun _ => ?_)
      · exact wP_fX12_isCornered_J105 N g x1 x2 x3 K11 K25 y4 y5 y6 d hS hZ hK11 hK25
      · refine pc_cb (wP_fX12_has N g x1 ((y4 * x2) + x3) d hS hZ) (fun u18 d16 z_2 => ?_)
        refine pc_if (fun _ => ?_) (fun _ => ?_)
        · exact wP_fX12_isCornered_J105 N g x1 x2 x3 K11 K25 y4 y5 y6 d16 hS z_2 hK11 hK25
        · refine pc_cb (wP_fX12_has N g x1 ((y4 * x2) + y6) d16 hS z_2) (fun u22 d20 z_3 => ?_)
          refine pc_if (fun _ => ?_) (fun _ => ?_)
          · exact wP_fX12_isCornered_J105 N g x1 x2 x3 K11 K25 y4 y5 y6 d20 hS z_3 hK11 hK25
          · refine pc_cb (wP_fX12_has N g x1 ((y4 * y5) + x3) d20 hS z_3) (fun u26 d24 z_4 => ?_)
            refine pc_if (fun _ => ?_) (fun _ => ?_)
            · exact wP_fX12_isCornered_J105 N g x1 x2 x3 K11 K25 y4 y5 y6 d24 hS z_4 hK11 hK25
            · refine pc_cb (wP_fX12_has N g x1 ((y4 * y5) + y6) d24 hS z_4) (fun u30 d28 z_5 => ?_)
              refine pc_if (fun _ => ?_) (fun _ => ?_)
              · exact wP_fX12_isCornered_J105 N g x1 x2 x3 K11 K25 y4 y5 y6 d28 hS z_5 hK11 hK25
              · exact pc_some z_5
theorem wP_fX12_isCornered_L25 {d0 : Ds} (N : Nat) (g : Gs) (x1 : Int32) (x2 : Int32) (x3 : Int32) (K11 : Int32 × Int32 × Ds → Option (Int32 × Ds)) (hS : Shp g) (a0 : Int32) (a1 : Int32) (a2 : Int32) (a3 : Ds) (hZ : FQP d0 a3) (hK11 : ∀ a, FQP d0 a.2.2 → pc (K11 a) (fun _ d1 => FQP d0 d1)) : pc (fX12_isCornered_L25 N g 328 x1 x2 x3 K11 (a0, a1, a2, a3)) (fun _ d1 => FQP d0 d1) := by
  unfold fX12_isCornered_L25
  refine pc_lp (fun a => FQP d0 a.2.2.2) ?_ N (a0, a1, a2, a3) hZ
  rintro K ⟨a0, a1, a2, a3⟩ hZ hK
  exact wP_fX12_isCornered_B25 N g x1 x2 x3 K11 K a0 a1 a2 a3 hS hZ hK11 hK
theorem wP_fX12_isCornered_B11 {d0 : Ds} (N : Nat) (g : Gs) (x1 : Int32) (x2 : Int32) (x3 : Int32) (K11 : Int32 × Int32 × Ds → Option (Int32 × Ds)) (y4 : Int32) (y5 : Int32) (d : Ds) (hS : Shp g) (hZ : FQP d0 d) (hK11 : ∀ a, FQP d0 a.2.2 → pc (K11 a) (fun _ d1 => FQP d0 d1)) : pc (fX12_isCornered_B11 N g 328 x1 x2 x3 K11 y4 y5 d) (fun _ d1 => FQP d0 d1) := by
  unfold fX12_isCornered_B11
  refine pc_gd (fun c_1 => ?_)
  refine pc_ob (fun r7 e_2 => ?_)
  have t_3 := gq hS (e := 336) (by decide +kernel) e_2
  subst t_3
  refine pc_gd (fun c_4 => ?_)
  refine pc_gd (fun c_5 => ?_)
  refine pc_if (fun _ => ?_) (fun _ => ?_)
  · exact pc_some hZ
  · exact wP_fX12_isCornered_L25 N g x1 x2 x3 K11 hS y4 y5 0 d hZ hK11
theorem wP_fX12_isCornered_L11 {d0 : Ds} (N : Nat) (g : Gs) (x1 : Int32) (x2 : Int32) (x3 : Int32) (hS : Shp g) (a0 : Int32) (a1 : Int32) (a2 : Ds) (hZ : FQP d0 a2) : pc (fX12_isCornered_L11 N g 328 x1 x2 x3 (a0, a1, a2)) (fun _ d1 => FQP d0 d1) := by
  unfold fX12_isCornered_L11
  refine pc_lp (fun a => FQP d0 a.2.2) ?_ N (a0, a1, a2) hZ
  rintro K ⟨a0, a1, a2⟩ hZ hK
  exact wP_fX12_isCornered_B11 N g x1 x2 x3 K a0 a1 a2 hS hZ hK
theorem wP_fX12_isCornered {d0 : Ds} (N : Nat) (g : Gs) (x1 : Int32) (x2 : Int32) (x3 : Int32) (d : Ds) (hS : Shp g) (hZ : FQP d0 d) : pc (fX12_isCornered N g 328 x1 x2 x3 d) (fun _ d1 => FQP d0 d1) := by
  unfold fX12_isCornered
  refine pc_gd (fun c_1 => ?_)
  refine pc_ob (fun r2 e_2 => ?_)
  have t_3 := gq hS (e := 336) (by decide +kernel) e_2
  subst t_3
  refine pc_gd (fun c_4 => ?_)
  refine pc_gd (fun c_5 => ?_)
  refine pc_bd (fun u5 e_6 => ?_)
  exact wP_fX12_isCornered_L11 N g x1 x2 x3 hS u5 0 d hZ
theorem wP_fX12_barredBy_J54 {d0 : Ds} (N : Nat) (g : Gs) (x1 : Int32) (K16 : Int32 × Int32 × Ds → Option (Int32 × Ds)) (y2 : Int32) (y3 : Int32) (d : Ds) (hS : Shp g) (hZ : FQP d0 d) (hK16 : ∀ a, FQP d0 a.2.2 → pc (K16 a) (fun _ d1 => FQP d0 d1)) : pc (fX12_barredBy_J54 N g 328 x1 K16 y2 y3 d) (fun _ d1 => FQP d0 d1) := by
  unfold fX12_barredBy_J54
  refine pc_bd (fun u19 e_1 => ?_)
  exact hK16 _ hZ
theorem wP_fX12_barredBy_B16 {d0 : Ds} (N : Nat) (g : Gs) (x1 : Int32) (K16 : Int32 × Int32 × Ds → Option (Int32 × Ds)) (y2 : Int32) (y3 : Int32) (d : Ds) (hS : Shp g) (hZ : FQP d0 d) (hK16 : ∀ a, FQP d0 a.2.2 → pc (K16 a) (fun _ d1 => FQP d0 d1)) : pc (fX12_barredBy_B16 N g 328 x1 K16 y2 y3 d) (fun _ d1 => FQP d0 d1) := by
  unfold fX12_barredBy_B16
  refine pc_gd (fun c_1 => ?_)
  refine pc_cb (wP_fX12_keysMany N g d hS hZ) (fun u9 d7 z_2 => ?_)
  refine pc_if (fun _ => ?_) (fun _ => ?_)
  · exact pc_some z_2
  · refine pc_ob (fun r11 e_3 => ?_)
    have t_4 := gq hS (e := 336) (by decide +kernel) e_3
    subst t_4
    refine pc_gd (fun c_5 => ?_)
    refine pc_gd (fun c_6 => ?_)
    refine pc_gd (fun c_7 => ?_)
    refine pc_cb (wP_fX12_isCornered N g x1 (y3 / (dI d7 336 (1 : Int32).toNatClampNeg)) (y3 - ((y3 / (dI d7 336 (1 : Int32).toNatClampNeg)) * (dI d7 336 (1 : Int32).toNatClampNeg))) d7 hS z_2) (fun u17 d15 z_8 => ?_)
    refine pc_if (fun _ => ?_) (fun _ => ?_)
    · exact wP_fX12_barredBy_J54 N g x1 K16 y2 y3 d15 hS z_8 hK16
    · refine pc_bd (fun u20 e_9 => ?_)
      exact wP_fX12_barredBy_J54 N g x1 K16 u20 y3 d15 hS z_8 hK16
theorem wP_fX12_barredBy_L16 {d0 : Ds} (N : Nat) (g : Gs) (x1 : Int32) (hS : Shp g) (a0 : Int32) (a1 : Int32) (a2 : Ds) (hZ : FQP d0 a2) : pc (fX12_barredBy_L16 N g 328 x1 (a0, a1, a2)) (fun _ d1 => FQP d0 d1) := by
  unfold fX12_barredBy_L16
  refine pc_lp (fun a => FQP d0 a.2.2) ?_ N (a0, a1, a2) hZ
  rintro K ⟨a0, a1, a2⟩ hZ hK
  exact wP_fX12_barredBy_B16 N g x1 K a0 a1 a2 hS hZ hK
theorem wP_fX12_barredBy {d0 : Ds} (N : Nat) (g : Gs) (x1 : Int32) (d : Ds) (hS : Shp g) (hZ : FQP d0 d) : pc (fX12_barredBy N g 328 x1 d) (fun _ d1 => FQP d0 d1) := by
  unfold fX12_barredBy
  refine pc_gd (fun c_1 => ?_)
  refine pc_ob (fun r2 e_2 => ?_)
  have t_3 := gq hS (e := 336) (by decide +kernel) e_2
  subst t_3
  refine pc_gd (fun c_4 => ?_)
  refine pc_gd (fun c_5 => ?_)
  refine pc_if (fun _ => ?_) (fun _ => ?_)
  · exact pc_some hZ
  · exact wP_fX12_barredBy_L16 N g x1 hS 0 0 d hZ
theorem wP_fX12_count_J255 {d0 : Ds} (N : Nat) (g : Gs) (x1 : Int32) (z0 : Int32) (z1 : Int32) (d : Ds) (hS : Shp g) (hZ : FQP d0 d) : pc (fX12_count_J255 N g 328 x1 z0 z1 d) (fun _ d1 => FQP d0 d1) := by
  unfold fX12_count_J255
  exact pc_some hZ
theorem wP_fX12_count_J240 {d0 : Ds} (N : Nat) (g : Gs) (x1 : Int32) (z0 : Int32) (z1 : Int32) (d : Ds) (hS : Shp g) (hZ : FQP d0 d) : pc (fX12_count_J240 N g 328 x1 z0 z1 d) (fun _ d1 => FQP d0 d1) := by
  unfold fX12_count_J240
  refine pc_gd (fun c_1 => ?_)
  refine pc_ob (fun r80 e_2 => ?_)
  have t_3 := gq hS (e := 346) (by decide +kernel) e_2
  subst t_3
  refine pc_gd (fun c_4 => ?_)
  refine pc_gd (fun c_5 => ?_)
  refine pc_if (fun _ => ?_) (fun _ => ?_)
  · exact wP_fX12_count_J255 N g x1 0 (z1 + z0) d hS hZ
  · exact wP_fX12_count_J255 N g x1 1 (z1 + z0) d hS hZ
theorem wP_fX12_count_J226 {d0 : Ds} (N : Nat) (g : Gs) (x1 : Int32) (z0 : Int32) (d : Ds) (hS : Shp g) (hZ : FQP d0 d) : pc (fX12_count_J226 N g 328 x1 z0 d) (fun _ d1 => FQP d0 d1) := by
  unfold fX12_count_J226
  refine pc_gd (fun c_1 => ?_)
  refine pc_ob (fun r75 e_2 => ?_)
  have t_3 := gq hS (e := 346) (by decide +kernel) e_2
  subst t_3
  refine pc_gd (fun c_4 => ?_)
  refine pc_gd (fun c_5 => ?_)
  refine pc_if (fun _ => ?_) (fun _ => ?_)
  · exact wP_fX12_count_J240 N g x1 0 z0 d hS hZ
  · exact wP_fX12_count_J240 N g x1 1 z0 d hS hZ
theorem wP_fX12_count_J225 {d0 : Ds} (N : Nat) (g : Gs) (x1 : Int32) (d : Ds) (hS : Shp g) (hZ : FQP d0 d) : pc (fX12_count_J225 N g 328 x1 d) (fun _ d1 => FQP d0 d1) := by
  unfold fX12_count_J225
  exact wP_fX12_count_J226 N g x1 0 d hS hZ
theorem wP_fX12_count {d0 : Ds} (N : Nat) (g : Gs) (x1 : Int32) (d : Ds) (hS : Shp g) (hZ : FQP d0 d) : pc (fX12_count N g 328 x1 d) (fun _ d1 => FQP d0 d1) := by
  unfold fX12_count
  refine pc_if (fun _ => ?_) (fun _ => ?_)
  · exact pc_some hZ
  · refine pc_if (fun _ => ?_) (fun _ => ?_)
    · refine pc_gd (fun c_1 => ?_)
      refine pc_ob (fun r4 e_2 => ?_)
      have t_3 := gq hS (e := 336) (by decide +kernel) e_2
      subst t_3
      refine pc_gd (fun c_4 => ?_)
      refine pc_gd (fun c_5 => ?_)
      exact pc_some hZ
    · refine pc_if (fun _ => ?_) (fun _ => ?_)
      · refine pc_gd (fun c_6 => ?_)
        refine pc_ob (fun r9 e_7 => ?_)
        have t_8 := gq hS (e := 336) (by decide +kernel) e_7
        subst t_8
        refine pc_gd (fun c_9 => ?_)
        refine pc_gd (fun c_10 => ?_)
        exact pc_some hZ
      · refine pc_if (fun _ => ?_) (fun _ => ?_)
        · refine pc_gd (fun c_11 => ?_)
          refine pc_ob (fun r14 e_12 => ?_)
          have t_13 := gq hS (e := 336) (by decide +kernel) e_12
          subst t_13
          refine pc_gd (fun c_14 => ?_)
          refine pc_gd (fun c_15 => ?_)
          exact pc_some hZ
        · refine pc_if (fun _ => ?_) (fun _ => ?_)
          · refine pc_gd (fun c_16 => ?_)
            refine pc_ob (fun r19 e_17 => ?_)
            have t_18 := gq hS (e := 336) (by decide +kernel) e_17
            subst t_18
            refine pc_gd (fun c_19 => ?_)
            refine pc_gd (fun c_20 => ?_)
            exact pc_some hZ
          · refine pc_if (fun _ => ?_) (fun _ => ?_)
            · refine pc_gd (fun c_21 => ?_)
              refine pc_cb (wP_fX12_activeLayers N g d hS hZ) (fun u26 d24 z_22 => ?_)
              exact pc_some z_22
            · refine pc_if (fun _ => ?_) (fun _ => ?_)
              · refine pc_gd (fun c_23 => ?_)
                refine pc_ob (fun r29 e_24 => ?_)
                have t_25 := gq hS (e := 336) (by decide +kernel) e_24
                subst t_25
                refine pc_gd (fun c_26 => ?_)
                refine pc_gd (fun c_27 => ?_)
                exact pc_some hZ
              · refine pc_if (fun _ => ?_) (fun _ => ?_)
                · refine pc_gd (fun c_28 => ?_)
                  refine pc_ob (fun r34 e_29 => ?_)
                  have t_30 := gq hS (e := 336) (by decide +kernel) e_29
                  subst t_30
                  refine pc_gd (fun c_31 => ?_)
                  refine pc_gd (fun c_32 => ?_)
                  exact pc_some hZ
                · refine pc_if (fun _ => ?_) (fun _ => ?_)
                  · refine pc_gd (fun c_33 => ?_)
                    refine pc_ob (fun r39 e_34 => ?_)
                    have t_35 := gq hS (e := 336) (by decide +kernel) e_34
                    subst t_35
                    refine pc_gd (fun c_36 => ?_)
                    refine pc_gd (fun c_37 => ?_)
                    exact pc_some hZ
                  · refine pc_if (fun _ => ?_) (fun _ => ?_)
                    · refine pc_gd (fun c_38 => ?_)
                      refine pc_ob (fun r44 e_39 => ?_)
                      have t_40 := gq hS (e := 336) (by decide +kernel) e_39
                      subst t_40
                      refine pc_gd (fun c_41 => ?_)
                      refine pc_gd (fun c_42 => ?_)
                      refine pc_cb (wP_fX12_seenBy N g (dI d 336 (352 : Int32).toNatClampNeg) d hS hZ) (fun u49 d47 z_43 => ?_)
                      exact pc_some z_43
                    · refine pc_if (fun _ => ?_) (fun _ => ?_)
                      · refine pc_gd (fun c_44 => ?_)
                        refine pc_ob (fun r52 e_45 => ?_)
                        have t_46 := gq hS (e := 336) (by decide +kernel) e_45
                        subst t_46
                        refine pc_gd (fun c_47 => ?_)
                        refine pc_gd (fun c_48 => ?_)
                        refine pc_cb (wP_fX12_seenBy N g (dI d 336 (352 : Int32).toNatClampNeg) d hS hZ) (fun u57 d55 z_49 => ?_)
                        refine pc_cb (wP_fX12_barredBy N g u57 d55 hS z_49) (fun u60 d58 z_50 => ?_)
                        exact pc_some z_50
                      · refine pc_if (fun _ => ?_) (fun _ => ?_)
                        · refine pc_gd (fun c_51 => ?_)
                          refine pc_ob (fun r63 e_52 => ?_)
                          have t_53 := gq hS (e := 336) (by decide +kernel) e_52
                          subst t_53
                          refine pc_gd (fun c_54 => ?_)
                          refine pc_gd (fun c_55 => ?_)
                          exact pc_some hZ
                        · refine pc_if (fun _ => ?_) (fun _ => ?_)
                          · refine pc_gd (fun c_56 => ?_)
                            exact pc_some hZ
                          · refine pc_if (fun _ => ?_) (fun _ => ?_)
                            · refine pc_gd (fun c_57 => ?_)
                              refine pc_ob (fun r70 e_58 => ?_)
                              have t_59 := gq hS (e := 346) (by decide +kernel) e_58
                              subst t_59
                              refine pc_gd (fun c_60 => ?_)
                              refine pc_gd (fun c_61 => ?_)
                              refine pc_if (fun _ => ?_) (fun _ => ?_)
                              · exact wP_fX12_count_J225 N g x1 d hS hZ
                              · exact wP_fX12_count_J226 N g x1 1 d hS hZ
                            · refine pc_if (fun _ => ?_) (fun _ => ?_)
                              · refine pc_gd (fun c_62 => ?_)
                                refine pc_ob (fun r86 e_63 => ?_)
                                have t_64 := gq hS (e := 336) (by decide +kernel) e_63
                                subst t_64
                                refine pc_gd (fun c_65 => ?_)
                                refine pc_gd (fun c_66 => ?_)
                                exact pc_some hZ
                              · refine pc_if (fun _ => ?_) (fun _ => ?_)
                                · refine pc_gd (fun c_67 => ?_)
                                  refine pc_ob (fun r91 e_68 => ?_)
                                  have t_69 := gq hS (e := 336) (by decide +kernel) e_68
                                  subst t_69
                                  refine pc_gd (fun c_70 => ?_)
                                  refine pc_gd (fun c_71 => ?_)
                                  exact pc_some hZ
                                · refine pc_if (fun _ => ?_) (fun _ => ?_)
                                  · refine pc_gd (fun c_72 => ?_)
                                    refine pc_ob (fun r96 e_73 => ?_)
                                    have t_74 := gq hS (e := 336) (by decide +kernel) e_73
                                    subst t_74
                                    refine pc_gd (fun c_75 => ?_)
                                    refine pc_gd (fun c_76 => ?_)
                                    exact pc_some hZ
                                  · refine pc_if (fun _ => ?_) (fun _ => ?_)
                                    · refine pc_gd (fun c_77 => ?_)
                                      refine pc_ob (fun r101 e_78 => ?_)
                                      have t_79 := gq hS (e := 336) (by decide +kernel) e_78
                                      subst t_79
                                      refine pc_gd (fun c_80 => ?_)
                                      refine pc_gd (fun c_81 => ?_)
                                      exact pc_some hZ
                                    · refine pc_if (fun _ => ?_) (fun _ => ?_)
                                      · refine pc_gd (fun c_82 => ?_)
                                        refine pc_ob (fun r106 e_83 => ?_)
                                        have t_84 := gq hS (e := 336) (by decide +kernel) e_83
                                        subst t_84
                                        refine pc_gd (fun c_85 => ?_)
                                        refine pc_gd (fun c_86 => ?_)
                                        exact pc_some hZ
                                      · refine pc_if (fun _ => ?_) (fun _ => ?_)
                                        · refine pc_gd (fun c_87 => ?_)
                                          refine pc_ob (fun r111 e_88 => ?_)
                                          have t_89 := gq hS (e := 336) (by decide +kernel) e_88
                                          subst t_89
                                          refine pc_gd (fun c_90 => ?_)
                                          refine pc_gd (fun c_91 => ?_)
                                          exact pc_some hZ
                                        · refine pc_if (fun _ => ?_) (fun _ => ?_)
                                          · refine pc_gd (fun c_92 => ?_)
                                            refine pc_ob (fun r116 e_93 => ?_)
                                            have t_94 := gq hS (e := 336) (by decide +kernel) e_93
                                            subst t_94
                                            refine pc_gd (fun c_95 => ?_)
                                            refine pc_gd (fun c_96 => ?_)
                                            exact pc_some hZ
                                          · refine pc_if (fun _ => ?_) (fun _ => ?_)
                                            · refine pc_gd (fun c_97 => ?_)
                                              refine pc_ob (fun r121 e_98 => ?_)
                                              have t_99 := gq hS (e := 336) (by decide +kernel) e_98
                                              subst t_99
                                              refine pc_gd (fun c_100 => ?_)
                                              refine pc_gd (fun c_101 => ?_)
                                              exact pc_some hZ
                                            · refine pc_if (fun _ => ?_) (fun _ => ?_)
                                              · refine pc_gd (fun c_102 => ?_)
                                                refine pc_ob (fun r126 e_103 => ?_)
                                                have t_104 := gq hS (e := 336) (by decide +kernel) e_103
                                                subst t_104
                                                refine pc_gd (fun c_105 => ?_)
                                                refine pc_gd (fun c_106 => ?_)
                                                exact pc_some hZ
                                              · exact pc_none
theorem wP_fX12_isKey {d0 : Ds} (N : Nat) (g : Gs) (x1 : Int32) (d : Ds) (hS : Shp g) (hZ : FQP d0 d) : pc (fX12_isKey N g 328 x1 d) (fun _ d1 => FQP d0 d1) := by
  unfold fX12_isKey
  refine pc_gd (fun c_1 => ?_)
  refine pc_cb (wP_fX12_keysMany N g d hS hZ) (fun u4 d2 z_2 => ?_)
  refine pc_cb (wP_fX12_in N g x1 0 (u4 - 1) d2 hS z_2) (fun u7 d5 z_3 => ?_)
  refine pc_gd (fun c_4 => ?_)
  exact pc_some z_3
theorem wP_fX12_bitsOfNumber_J87 {d0 : Ds} (N : Nat) (g : Gs) (x0 : UInt32) (z0 : Int32) (d : Ds) (hS : Shp g) (hZ : FQP d0 d) : pc (fX12_bitsOfNumber_J87 N g x0 z0 d) (fun _ d1 => FQP d0 d1) := by
  unfold fX12_bitsOfNumber_J87
  exact pc_some hZ
theorem wP_fX12_bitsOfNumber_B40 {d0 : Ds} (N : Nat) (g : Gs) (x0 : UInt32) (K40 : UInt64 × Int32 × Int32 × Ds → Option (Int32 × Ds)) (y1 : UInt64) (y3 : Int32) (y4 : Int32) (d : Ds) (hS : Shp g) (hZ : FQP d0 d) (hK40 : ∀ a, FQP d0 a.2.2.2 → pc (K40 a) (fun _ d1 => FQP d0 d1)) : pc (fX12_bitsOfNumber_B40 N g x0 K40 y1 y3 y4 d) (fun _ d1 => FQP d0 d1) := by
  unfold fX12_bitsOfNumber_B40
  refine pc_if (fun _ => ?_) (fun _ => ?_)
  · refine pc_bd (fun u6 e_1 => ?_)
    refine pc_if (fun _ => ?_) (fun _ => ?_)
    · exact wP_fX12_bitsOfNumber_J87 N g x0 ((y3 <<< (23 &&& 31)) ||| (u6 - 8388608)) d hS hZ
    · exact wP_fX12_bitsOfNumber_J87 N g x0 u6 d hS hZ
  · refine pc_gd (fun c_2 => ?_)
    refine pc_bd (fun u9 e_3 => ?_)
    refine pc_bd (fun u10 e_4 => ?_)
    exact hK40 _ hZ
theorem wP_fX12_bitsOfNumber_L40 {d0 : Ds} (N : Nat) (g : Gs) (x0 : UInt32) (hS : Shp g) (a0 : UInt64) (a1 : Int32) (a2 : Int32) (a3 : Ds) (hZ : FQP d0 a3) : pc (fX12_bitsOfNumber_L40 N g x0 (a0, a1, a2, a3)) (fun _ d1 => FQP d0 d1) := by
  unfold fX12_bitsOfNumber_L40
  refine pc_lp (fun a => FQP d0 a.2.2.2) ?_ N (a0, a1, a2, a3) hZ
  rintro K ⟨a0, a1, a2, a3⟩ hZ hK
  exact wP_fX12_bitsOfNumber_B40 N g x0 K a0 a1 a2 a3 hS hZ hK
theorem wP_fX12_bitsOfNumber_J37 {d0 : Ds} (N : Nat) (g : Gs) (x0 : UInt32) (y1 : UInt64) (y3 : Int32) (d : Ds) (hS : Shp g) (hZ : FQP d0 d) : pc (fX12_bitsOfNumber_J37 N g x0 y1 y3 d) (fun _ d1 => FQP d0 d1) := by
  unfold fX12_bitsOfNumber_J37
  exact wP_fX12_bitsOfNumber_L40 N g x0 hS y1 y3 0 d hZ
theorem wP_fX12_bitsOfNumber_B14 {d0 : Ds} (N : Nat) (g : Gs) (x0 : UInt32) (K14 : UInt64 × Int32 × Ds → Option (Int32 × Ds)) (y1 : UInt64) (y3 : Int32) (d : Ds) (hS : Shp g) (hZ : FQP d0 d) (hK14 : ∀ a, FQP d0 a.2.2 → pc (K14 a) (fun _ d1 => FQP d0 d1)) : pc (fX12_bitsOfNumber_B14 N g x0 K14 y1 y3 d) (fun _ d1 => FQP d0 d1) := by
  unfold fX12_bitsOfNumber_B14
  refine pc_if (fun _ => ?_) (fun _ => ?_)
  · exact wP_fX12_bitsOfNumber_J37 N g x0 y1 y3 d hS hZ
  · refine pc_if (fun _ => ?_) (fun _ => ?_)
    · exact wP_fX12_bitsOfNumber_J37 N g x0 y1 y3 d hS hZ
    · refine pc_gd (fun c_1 => ?_)
      refine pc_bd (fun u13 e_2 => ?_)
      refine pc_bd (fun u14 e_3 => ?_)
      exact hK14 _ hZ
theorem wP_fX12_bitsOfNumber_L14 {d0 : Ds} (N : Nat) (g : Gs) (x0 : UInt32) (hS : Shp g) (a0 : UInt64) (a1 : Int32) (a2 : Ds) (hZ : FQP d0 a2) : pc (fX12_bitsOfNumber_L14 N g x0 (a0, a1, a2)) (fun _ d1 => FQP d0 d1) := by
  unfold fX12_bitsOfNumber_L14
  refine pc_lp (fun a => FQP d0 a.2.2) ?_ N (a0, a1, a2) hZ
  rintro K ⟨a0, a1, a2⟩ hZ hK
  exact wP_fX12_bitsOfNumber_B14 N g x0 K a0 a1 a2 hS hZ hK
theorem wP_fX12_bitsOfNumber {d0 : Ds} (N : Nat) (g : Gs) (x0 : UInt32) (d : Ds) (hS : Shp g) (hZ : FQP d0 d) : pc (fX12_bitsOfNumber N g x0 d) (fun _ d1 => FQP d0 d1) := by
  unfold fX12_bitsOfNumber
  refine pc_gd (fun c_1 => ?_)
  refine pc_bd (fun u2 e_2 => ?_)
  refine pc_if (fun _ => ?_) (fun _ => ?_)
  · exact pc_some hZ
  · exact wP_fX12_bitsOfNumber_L14 N g x0 hS u2 127 d hZ
theorem wP_fX12_key {d0 : Ds} (N : Nat) (g : Gs) (x1 : Int32) (x2 : Int32) (d : Ds) (hS : Shp g) (hZ : FQP d0 d) : pc (fX12_key N g 328 x1 x2 d) (fun _ d1 => FQP d0 d1) := by
  unfold fX12_key
  refine pc_gd (fun c_1 => ?_)
  refine pc_cb (wP_fX12_isKey N g x1 d hS hZ) (fun u4 d2 z_2 => ?_)
  refine pc_if (fun _ => ?_) (fun _ => ?_)
  · exact pc_some z_2
  · refine pc_ob (fun r6 e_3 => ?_)
    have t_4 := gq hS (e := 336) (by decide +kernel) e_3
    subst t_4
    refine pc_gd (fun c_5 => ?_)
    refine pc_gd (fun c_6 => ?_)
    refine pc_cb (wP_fX12_seenBy N g (dI d2 336 (352 : Int32).toNatClampNeg) d2 hS z_2) (fun u11 d9 z_7 => ?_)
    refine pc_if (fun _ => ?_) (fun _ => ?_)
    · exact pc_some z_7
    · refine pc_if (fun _ => ?_) (fun _ => ?_)
      · exact pc_some z_7
      · refine pc_if (fun _ => ?_) (fun _ => ?_)
        · exact pc_some z_7
        · refine pc_if (fun _ => ?_) (fun _ => ?_)
          · refine pc_cb (wP_fX12_barredBy N g u11 d9 hS z_7) (fun u18 d16 z_8 => ?_)
            exact pc_some z_8
          · refine pc_if (fun _ => ?_) (fun _ => ?_)
            · refine pc_gd (fun c_9 => ?_)
              exact pc_some z_7
            · refine pc_if (fun _ => ?_) (fun _ => ?_)
              · refine pc_gd (fun c_10 => ?_)
                exact pc_some z_7
              · refine pc_if (fun _ => ?_) (fun _ => ?_)
                · refine pc_ob (fun r24 e_11 => ?_)
                  have t_12 := gq hS (e := 338) (by decide +kernel) e_11
                  subst t_12
                  refine pc_gd (fun c_13 => ?_)
                  refine pc_gd (fun c_14 => ?_)
                  refine pc_cb (wP_fX12_bitsOfNumber N g (dF d9 338 x1.toNatClampNeg) d9 hS z_7) (fun u29 d27 z_15 => ?_)
                  exact pc_some z_15
                · exact pc_none
theorem wP_fX12_ghosts_J25 {d0 : Ds} (N : Nat) (g : Gs) (x1 : Int32) (x2 : Int32) (d : Ds) (hS : Shp g) (hZ : FQP d0 d) : pc (fX12_ghosts_J25 N g 328 x1 x2 d) (fun _ d1 => FQP d0 d1) := by
  unfold fX12_ghosts_J25
  exact pc_some hZ
theorem wP_fX12_bitsOf_B4 {d0 : Ds} (N : Nat) (g : Gs) (x0 : Int32) (K4 : Int32 × Int32 × Ds → Option (Int32 × Ds)) (y1 : Int32) (y2 : Int32) (d : Ds) (hS : Shp g) (hZ : FQP d0 d) (hK4 : ∀ a, FQP d0 a.2.2 → pc (K4 a) (fun _ d1 => FQP d0 d1)) : pc (fX12_bitsOf_B4 N g x0 K4 y1 y2 d) (fun _ d1 => FQP d0 d1) := by
  unfold fX12_bitsOf_B4
  refine pc_if (fun _ => ?_) (fun _ => ?_)
  · exact pc_some hZ
  · refine pc_bd (fun u2 e_1 => ?_)
    refine pc_bd (fun u3 e_2 => ?_)
    exact hK4 _ hZ
theorem wP_fX12_bitsOf_L4 {d0 : Ds} (N : Nat) (g : Gs) (x0 : Int32) (hS : Shp g) (a0 : Int32) (a1 : Int32) (a2 : Ds) (hZ : FQP d0 a2) : pc (fX12_bitsOf_L4 N g x0 (a0, a1, a2)) (fun _ d1 => FQP d0 d1) := by
  unfold fX12_bitsOf_L4
  refine pc_lp (fun a => FQP d0 a.2.2) ?_ N (a0, a1, a2) hZ
  rintro K ⟨a0, a1, a2⟩ hZ hK
  exact wP_fX12_bitsOf_B4 N g x0 K a0 a1 a2 hS hZ hK
theorem wP_fX12_bitsOf {d0 : Ds} (N : Nat) (g : Gs) (x0 : Int32) (d : Ds) (hS : Shp g) (hZ : FQP d0 d) : pc (fX12_bitsOf N g x0 d) (fun _ d1 => FQP d0 d1) := by
  unfold fX12_bitsOf
  exact wP_fX12_bitsOf_L4 N g x0 hS 0 x0 d hZ
theorem wP_fX12_ghosts_J69 {d0 : Ds} (N : Nat) (g : Gs) (x1 : Int32) (x2 : Int32) (z0 : Int32) (d : Ds) (hS : Shp g) (hZ : FQP d0 d) : pc (fX12_ghosts_J69 N g 328 x1 x2 z0 d) (fun _ d1 => FQP d0 d1) := by
  unfold fX12_ghosts_J69
  exact pc_some hZ
theorem wP_fX12_ghosts {d0 : Ds} (N : Nat) (g : Gs) (x1 : Int32) (x2 : Int32) (d : Ds) (hS : Shp g) (hZ : FQP d0 d) : pc (fX12_ghosts N g 328 x1 x2 d) (fun _ d1 => FQP d0 d1) := by
  unfold fX12_ghosts
  refine pc_gd (fun c_1 => ?_)
  refine pc_cb (wP_fX12_keysMany N g d hS hZ) (fun u4 d2 z_2 => ?_)
  refine pc_cb (wP_fX12_in N g x1 0 (((1 : Int32) <<< (u4 &&& 31)) - 1) d2 hS z_2) (fun u7 d5 z_3 => ?_)
  refine pc_if (fun _ => ?_) (fun _ => ?_)
  · exact wP_fX12_ghosts_J25 N g x1 x2 d5 hS z_3
  · refine pc_cb (wP_fX12_in N g x2 0 2 d5 hS z_3) (fun u11 d9 z_4 => ?_)
    refine pc_if (fun _ => ?_) (fun _ => ?_)
    · exact wP_fX12_ghosts_J25 N g x1 x2 d9 hS z_4
    · refine pc_cb (wP_fX12_seenBy N g x1 d9 hS z_4) (fun u15 d13 z_5 => ?_)
      refine pc_if (fun _ => ?_) (fun _ => ?_)
      · refine pc_cb (wP_fX12_bitsOf N g (u15 &&& (x1 ^^^ (-1))) d13 hS z_5) (fun u29 d27 z_6 => ?_)
        exact wP_fX12_ghosts_J69 N g x1 x2 u29 d27 hS z_6
      · refine pc_if (fun _ => ?_) (fun _ => ?_)
        · refine pc_cb (wP_fX12_barredBy N g u15 d13 hS z_5) (fun u23 d21 z_7 => ?_)
          refine pc_cb (wP_fX12_bitsOf N g u23 d21 hS z_7) (fun u26 d24 z_8 => ?_)
          exact wP_fX12_ghosts_J69 N g x1 x2 u26 d24 hS z_8
        · refine pc_cb (wP_fX12_laysParts N g x1 d13 hS z_5) (fun u20 d18 z_9 => ?_)
          exact wP_fX12_ghosts_J69 N g x1 x2 u20 d18 hS z_9
theorem wP_fX12_lays_B3 {d0 : Ds} (N : Nat) (g : Gs) (x1 : Int32) (K3 : Int32 × Ds → Option (Unit × Ds)) (y2 : Int32) (d : Ds) (hS : Shp g) (hZ : FQP d0 d) (hK3 : ∀ a, FQP d0 a.2 → pc (K3 a) (fun _ d1 => FQP d0 d1)) : pc (fX12_lays_B3 N g 328 x1 K3 y2 d) (fun _ d1 => FQP d0 d1) := by
  unfold fX12_lays_B3
  refine pc_if (fun _ => ?_) (fun _ => ?_)
  · exact pc_some hZ
  · refine pc_gd (fun c_1 => ?_)
    refine pc_ob (fun r3 e_2 => ?_)
    have t_3 := gq hS (e := 329) (by decide +kernel) e_2
    subst t_3
    refine pc_gd (fun c_4 => ?_)
    refine pc_gd (fun c_5 => ?_)
    refine pc_bd (fun d6 e_6 => ?_)
    have z_7 := FQP.i hZ rfl e_6
    refine pc_bd (fun d7 e_8 => ?_)
    have z_9 := FQP.i z_7 rfl e_8
    refine pc_bd (fun u8 e_10 => ?_)
    exact hK3 _ z_9
theorem wP_fX12_lays_L3 {d0 : Ds} (N : Nat) (g : Gs) (x1 : Int32) (hS : Shp g) (a0 : Int32) (a1 : Ds) (hZ : FQP d0 a1) : pc (fX12_lays_L3 N g 328 x1 (a0, a1)) (fun _ d1 => FQP d0 d1) := by
  unfold fX12_lays_L3
  refine pc_lp (fun a => FQP d0 a.2) ?_ N (a0, a1) hZ
  rintro K ⟨a0, a1⟩ hZ hK
  exact wP_fX12_lays_B3 N g x1 K a0 a1 hS hZ hK
theorem wP_fX12_lays {d0 : Ds} (N : Nat) (g : Gs) (x1 : Int32) (d : Ds) (hS : Shp g) (hZ : FQP d0 d) : pc (fX12_lays N g 328 x1 d) (fun _ d1 => FQP d0 d1) := by
  unfold fX12_lays
  exact wP_fX12_lays_L3 N g x1 hS 24 d hZ
theorem wP_fX12_feed {d0 : Ds} (N : Nat) (g : Gs) (x1 : Int32) (x2 : Int32) (x3 : Int32) (x4 : Int32) (x5 : Int32) (d : Ds) (hS : Shp g) (hZ : FQP d0 d) : pc (fX12_feed N g 328 x1 x2 x3 x4 x5 d) (fun _ d1 => FQP d0 d1) := by
  unfold fX12_feed
  refine pc_gd (fun c_1 => ?_)
  refine pc_if (fun _ => ?_) (fun _ => ?_)
  · refine pc_cv (wP_fX12_lays N g x1 d hS hZ) (fun d3 z_2 => ?_)
    refine pc_cv (wP_fX12_lays N g x2 d3 hS z_2) (fun d5 z_3 => ?_)
    refine pc_cv (wP_fX12_lays N g x3 d5 hS z_3) (fun d7 z_4 => ?_)
    refine pc_cv (wP_fX12_lays N g x4 d7 hS z_4) (fun d9 z_5 => ?_)
    refine pc_cv (wP_fX12_lays N g x5 d9 hS z_5) (fun d11 z_6 => ?_)
    exact pc_some z_6
  · exact pc_some hZ
theorem wP_fX12_back_J12 {d0 : Ds} (N : Nat) (g : Gs) (x1 : Int32) (d : Ds) (hS : Shp g) (hZ : FQP d0 d) : pc (fX12_back_J12 N g 328 x1 d) (fun _ d1 => FQP d0 d1) := by
  unfold fX12_back_J12
  exact pc_some hZ
theorem wP_fX12_back {d0 : Ds} (N : Nat) (g : Gs) (x1 : Int32) (d : Ds) (hS : Shp g) (hZ : FQP d0 d) : pc (fX12_back N g 328 x1 d) (fun _ d1 => FQP d0 d1) := by
  unfold fX12_back
  refine pc_if (fun _ => ?_) (fun _ => ?_)
  · exact wP_fX12_back_J12 N g x1 d hS hZ
  · refine pc_gd (fun c_1 => ?_)
    refine pc_if (fun _ => ?_) (fun _ => ?_)
    · refine pc_bd (fun d4 e_2 => ?_)
      have z_3 := FQP.i hZ rfl e_2
      exact pc_some z_3
    · exact wP_fX12_back_J12 N g x1 d hS hZ
