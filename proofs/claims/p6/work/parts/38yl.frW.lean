/-! what the calls of family W leave alone -/
def fp_W (r : Nat) : Bool := decide (225 ≤ r) && decide (r ≤ 226)
def FQW (d d' : Ds) : Prop := (∀ r j, fp_W r = false → dI d' r j = dI d r j) ∧ ∀ r j, fp_W r = false → dF d' r j = dF d r j
theorem FQW.rf {d : Ds} : FQW d d := ⟨fun _ _ _ => rfl, fun _ _ _ => rfl⟩
theorem FQW.i {d0 d d1 : Ds} {r j : Nat} {v : Int32} (h : FQW d0 d) (hr : fp_W r = true) (e : d1 = sI d r j v) : FQW d0 d1 := by
  subst e
  refine ⟨fun r' i q => ?_, h.2⟩
  rw [sI_rd, if_neg (fun z => by rw [z.1, hr] at q; exact absurd q (by decide))]
  exact h.1 r' i q
theorem FQW.f {d0 d d1 : Ds} {r j : Nat} {v : UInt32} (h : FQW d0 d) (hr : fp_W r = true) (e : d1 = sF d r j v) : FQW d0 d1 := by
  subst e
  refine ⟨h.1, fun r' i q => ?_⟩
  rw [sF_rd, if_neg (fun z => by rw [z.1, hr] at q; exact absurd q (by decide))]
  exact h.2 r' i q
theorem FQW.ci {d0 d d1 : Ds} {a r sp dp n : Nat} (h : FQW d0 d) (hr : fp_W r = true) (e : d1 = cI d a r sp dp n) : FQW d0 d1 := by
  subst e
  refine ⟨fun r' i q => ?_, h.2⟩
  rw [cI_rd, if_neg (fun z => by rw [z.1, hr] at q; exact absurd q (by decide))]
  exact h.1 r' i q
theorem FQW.cf {d0 d d1 : Ds} {a r sp dp n : Nat} (h : FQW d0 d) (hr : fp_W r = true) (e : d1 = cF d a r sp dp n) : FQW d0 d1 := by
  subst e
  refine ⟨h.1, fun r' i q => ?_⟩
  rw [cF_rd, if_neg (fun z => by rw [z.1, hr] at q; exact absurd q (by decide))]
  exact h.2 r' i q
theorem FQW.l {d0 d d1 : Ds} {r j : Nat} {v : Int64} (h : FQW d0 d) (e : d1 = sL d r j v) : FQW d0 d1 := by
  subst e
  exact h
theorem FQW.w {d0 d d1 : Ds} {r j : Nat} {v : Option Nat} (h : FQW d0 d) (e : d1 = sW d r j v) : FQW d0 d1 := by
  subst e
  exact h
theorem wW_fX0_keys {d0 : Ds} (N : Nat) (g : Gs) (d : Ds) (hS : Shp g) (hZ : FQW d0 d) : pc (fX0_keys N g 117 d) (fun _ d1 => FQW d0 d1) := by
  unfold fX0_keys
  refine pc_gd (fun c_1 => ?_)
  exact pc_some hZ
theorem wW_fX0_hasKey_J17 {d0 : Ds} (N : Nat) (g : Gs) (x1 : Int32) (z0 : Int32) (d : Ds) (hS : Shp g) (hZ : FQW d0 d) : pc (fX0_hasKey_J17 N g 117 x1 z0 d) (fun _ d1 => FQW d0 d1) := by
  unfold fX0_hasKey_J17
  refine pc_gd (fun c_1 => ?_)
  exact pc_some hZ
theorem wW_fX0_hasKey_J16 {d0 : Ds} (N : Nat) (g : Gs) (x1 : Int32) (d : Ds) (hS : Shp g) (hZ : FQW d0 d) : pc (fX0_hasKey_J16 N g 117 x1 d) (fun _ d1 => FQW d0 d1) := by
  unfold fX0_hasKey_J16
  exact wW_fX0_hasKey_J17 N g x1 0 d hS hZ
theorem wW_fX0_hasKey {d0 : Ds} (N : Nat) (g : Gs) (x1 : Int32) (d : Ds) (hS : Shp g) (hZ : FQW d0 d) : pc (fX0_hasKey N g 117 x1 d) (fun _ d1 => FQW d0 d1) := by
  unfold fX0_hasKey
  refine pc_if (fun _ => ?_) (fun _ => ?_)
  · exact wW_fX0_hasKey_J16 N g x1 d hS hZ
  · refine pc_gd (fun c_1 => ?_)
    refine pc_cb (wW_fX0_keys N g d hS hZ) (fun u6 d4 z_2 => ?_)
    refine pc_if (fun _ => ?_) (fun _ => ?_)
    · exact wW_fX0_hasKey_J16 N g x1 d4 hS z_2
    · exact wW_fX0_hasKey_J17 N g x1 1 d4 hS z_2
theorem wW_fX9_join_J152 {d0 : Ds} (N : Nat) (g : Gs) (x2 : Int32) (d : Ds) (hS : Shp g) (hZ : FQW d0 d) : pc (fX9_join_J152 N g 225 117 x2 d) (fun _ d1 => FQW d0 d1) := by
  unfold fX9_join_J152
  exact pc_some hZ
theorem wW_fX11_isIn_J13 {d0 : Ds} (N : Nat) (g : Gs) (x0 : Int32) (x1 : Int32) (z0 : Int32) (d : Ds) (hS : Shp g) (hZ : FQW d0 d) : pc (fX11_isIn_J13 N g x0 x1 z0 d) (fun _ d1 => FQW d0 d1) := by
  unfold fX11_isIn_J13
  refine pc_gd (fun c_1 => ?_)
  exact pc_some hZ
theorem wW_fX11_isIn {d0 : Ds} (N : Nat) (g : Gs) (x0 : Int32) (x1 : Int32) (d : Ds) (hS : Shp g) (hZ : FQW d0 d) : pc (fX11_isIn N g x0 x1 d) (fun _ d1 => FQW d0 d1) := by
  unfold fX11_isIn
  refine pc_if (fun _ => ?_) (fun _ => ?_)
  · exact wW_fX11_isIn_J13 N g x0 x1 0 d hS hZ
  · exact wW_fX11_isIn_J13 N g x0 x1 1 d hS hZ
theorem wW_fX9_join_J146 {d0 : Ds} (N : Nat) (g : Gs) (x2 : Int32) (K39 : Int32 × Ds → Option (Unit × Ds)) (y3 : Int32) (d : Ds) (hS : Shp g) (hZ : FQW d0 d) (hK39 : ∀ a, FQW d0 a.2 → pc (K39 a) (fun _ d1 => FQW d0 d1)) : pc (fX9_join_J146 N g 225 117 x2 K39 y3 d) (fun _ d1 => FQW d0 d1) := by
  unfold fX9_join_J146
  refine pc_bd (fun u25 e_1 => ?_)
  exact hK39 _ hZ
theorem wW_fX9_join_J140 {d0 : Ds} (N : Nat) (g : Gs) (x2 : Int32) (K39 : Int32 × Ds → Option (Unit × Ds)) (K109 : Int32 × Int32 × Int32 × Int32 × Ds → Option (Unit × Ds)) (y3 : Int32) (y4 : Int32) (y5 : Int32) (y6 : Int32) (d : Ds) (hS : Shp g) (hZ : FQW d0 d) (hK39 : ∀ a, FQW d0 a.2 → pc (K39 a) (fun _ d1 => FQW d0 d1)) (hK109 : ∀ a, FQW d0 a.2.2.2.2 → pc (K109 a) (fun _ d1 => FQW d0 d1)) : pc (fX9_join_J140 N g 225 117 x2 K39 K109 y3 y4 y5 y6 d) (fun _ d1 => FQW d0 d1) := by
  unfold fX9_join_J140
  refine pc_bd (fun u34 e_1 => ?_)
  exact hK109 _ hZ
theorem wW_fX9_join_B109 {d0 : Ds} (N : Nat) (g : Gs) (x2 : Int32) (K39 : Int32 × Ds → Option (Unit × Ds)) (K109 : Int32 × Int32 × Int32 × Int32 × Ds → Option (Unit × Ds)) (y3 : Int32) (y4 : Int32) (y5 : Int32) (y6 : Int32) (d : Ds) (hS : Shp g) (hZ : FQW d0 d) (hK39 : ∀ a, FQW d0 a.2 → pc (K39 a) (fun _ d1 => FQW d0 d1)) (hK109 : ∀ a, FQW d0 a.2.2.2.2 → pc (K109 a) (fun _ d1 => FQW d0 d1)) : pc (fX9_join_B109 N g 225 117 x2 K39 K109 y3 y4 y5 y6 d) (fun _ d1 => FQW d0 d1) := by
  unfold fX9_join_B109
  refine pc_gd (fun c_1 => ?_)
  refine pc_ob (fun r29 e_2 => ?_)
  have t_3 := gq hS (e := 226) (by decide +kernel) e_2
  subst t_3
  refine pc_gd (fun c_4 => ?_)
  refine pc_if (fun _ => ?_) (fun _ => ?_)
  · exact wW_fX9_join_J146 N g x2 K39 y3 d hS hZ hK39
  · refine pc_gd (fun c_5 => ?_)
    refine pc_if (fun _ => ?_) (fun _ => ?_)
    · refine pc_bd (fun d35 e_6 => ?_)
      have z_7 := FQW.i hZ rfl e_6
      exact wW_fX9_join_J140 N g x2 K39 K109 y3 y4 y5 y6 d35 hS z_7 hK39 hK109
    · exact wW_fX9_join_J140 N g x2 K39 K109 y3 y4 y5 y6 d hS hZ hK39 hK109
theorem wW_fX9_join_L109 {d0 : Ds} (N : Nat) (g : Gs) (x2 : Int32) (K39 : Int32 × Ds → Option (Unit × Ds)) (hS : Shp g) (a0 : Int32) (a1 : Int32) (a2 : Int32) (a3 : Int32) (a4 : Ds) (hZ : FQW d0 a4) (hK39 : ∀ a, FQW d0 a.2 → pc (K39 a) (fun _ d1 => FQW d0 d1)) : pc (fX9_join_L109 N g 225 117 x2 K39 (a0, a1, a2, a3, a4)) (fun _ d1 => FQW d0 d1) := by
  unfold fX9_join_L109
  refine pc_lp (fun a => FQW d0 a.2.2.2.2) ?_ N (a0, a1, a2, a3, a4) hZ
  rintro K ⟨a0, a1, a2, a3, a4⟩ hZ hK
  exact wW_fX9_join_B109 N g x2 K39 K a0 a1 a2 a3 a4 hS hZ hK39 hK
theorem wW_fX9_join_B39 {d0 : Ds} (N : Nat) (g : Gs) (x2 : Int32) (K39 : Int32 × Ds → Option (Unit × Ds)) (y3 : Int32) (d : Ds) (hS : Shp g) (hZ : FQW d0 d) (hK39 : ∀ a, FQW d0 a.2 → pc (K39 a) (fun _ d1 => FQW d0 d1)) : pc (fX9_join_B39 N g 225 117 x2 K39 y3 d) (fun _ d1 => FQW d0 d1) := by
  unfold fX9_join_B39
  refine pc_gd (fun c_1 => ?_)
  refine pc_cb (wW_fX0_hasKey N g y3 d hS hZ) (fun u10 d8 z_2 => ?_)
  refine pc_if (fun _ => ?_) (fun _ => ?_)
  · exact wW_fX9_join_J152 N g x2 d8 hS z_2
  · refine pc_if (fun _ => ?_) (fun _ => ?_)
    · exact wW_fX9_join_J152 N g x2 d8 hS z_2
    · refine pc_gd (fun c_3 => ?_)
      refine pc_ob (fun r14 e_4 => ?_)
      have t_5 := gq hS (e := 226) (by decide +kernel) e_4
      subst t_5
      refine pc_gd (fun c_6 => ?_)
      refine pc_gd (fun c_7 => ?_)
      refine pc_gd (fun c_8 => ?_)
      refine pc_bd (fun u18 e_9 => ?_)
      refine pc_gd (fun c_10 => ?_)
      refine pc_bd (fun u20 e_11 => ?_)
      refine pc_cb (wW_fX11_isIn N g x2 y3 d8 hS z_2) (fun u23 d21 z_12 => ?_)
      refine pc_if (fun _ => ?_) (fun _ => ?_)
      · exact wW_fX9_join_J146 N g x2 K39 y3 d21 hS z_12 hK39
      · refine pc_if (fun _ => ?_) (fun _ => ?_)
        · exact wW_fX9_join_J146 N g x2 K39 y3 d21 hS z_12 hK39
        · refine pc_bd (fun d27 e_13 => ?_)
          have z_14 := FQW.i z_12 rfl e_13
          exact wW_fX9_join_L109 N g x2 K39 hS y3 u18 u20 0 d27 z_14 hK39
theorem wW_fX9_join_L39 {d0 : Ds} (N : Nat) (g : Gs) (x2 : Int32) (hS : Shp g) (a0 : Int32) (a1 : Ds) (hZ : FQW d0 a1) : pc (fX9_join_L39 N g 225 117 x2 (a0, a1)) (fun _ d1 => FQW d0 d1) := by
  unfold fX9_join_L39
  refine pc_lp (fun a => FQW d0 a.2) ?_ N (a0, a1) hZ
  rintro K ⟨a0, a1⟩ hZ hK
  exact wW_fX9_join_B39 N g x2 K a0 a1 hS hZ hK
theorem wW_fX9_join_B2 {d0 : Ds} (N : Nat) (g : Gs) (x2 : Int32) (K2 : Int32 × Ds → Option (Unit × Ds)) (y3 : Int32) (d : Ds) (hS : Shp g) (hZ : FQW d0 d) (hK2 : ∀ a, FQW d0 a.2 → pc (K2 a) (fun _ d1 => FQW d0 d1)) : pc (fX9_join_B2 N g 225 117 x2 K2 y3 d) (fun _ d1 => FQW d0 d1) := by
  unfold fX9_join_B2
  refine pc_gd (fun c_1 => ?_)
  refine pc_ob (fun r2 e_2 => ?_)
  have t_3 := gq hS (e := 226) (by decide +kernel) e_2
  subst t_3
  refine pc_gd (fun c_4 => ?_)
  refine pc_if (fun _ => ?_) (fun _ => ?_)
  · refine pc_gd (fun c_5 => ?_)
    refine pc_bd (fun d6 e_6 => ?_)
    have z_7 := FQW.i hZ rfl e_6
    exact wW_fX9_join_L39 N g x2 hS 0 d6 z_7
  · refine pc_gd (fun c_8 => ?_)
    refine pc_bd (fun d37 e_9 => ?_)
    have z_10 := FQW.i hZ rfl e_9
    refine pc_bd (fun u38 e_11 => ?_)
    exact hK2 _ z_10
theorem wW_fX9_join_L2 {d0 : Ds} (N : Nat) (g : Gs) (x2 : Int32) (hS : Shp g) (a0 : Int32) (a1 : Ds) (hZ : FQW d0 a1) : pc (fX9_join_L2 N g 225 117 x2 (a0, a1)) (fun _ d1 => FQW d0 d1) := by
  unfold fX9_join_L2
  refine pc_lp (fun a => FQW d0 a.2) ?_ N (a0, a1) hZ
  rintro K ⟨a0, a1⟩ hZ hK
  exact wW_fX9_join_B2 N g x2 K a0 a1 hS hZ hK
theorem wW_fX9_join {d0 : Ds} (N : Nat) (g : Gs) (x2 : Int32) (d : Ds) (hS : Shp g) (hZ : FQW d0 d) : pc (fX9_join N g 225 117 x2 d) (fun _ d1 => FQW d0 d1) := by
  unfold fX9_join
  exact wW_fX9_join_L2 N g x2 hS 0 d hZ
theorem wW_fX9_bar_J86 {d0 : Ds} (N : Nat) (g : Gs) (x2 : Int32) (K27 : Int32 × Int32 × Ds → Option (Unit × Ds)) (y4 : Int32) (y5 : Int32) (d : Ds) (hS : Shp g) (hZ : FQW d0 d) (hK27 : ∀ a, FQW d0 a.2.2 → pc (K27 a) (fun _ d1 => FQW d0 d1)) : pc (fX9_bar_J86 N g 225 117 x2 K27 y4 y5 d) (fun _ d1 => FQW d0 d1) := by
  unfold fX9_bar_J86
  refine pc_bd (fun u10 e_1 => ?_)
  exact hK27 _ hZ
theorem wW_fJ6_bitCount_0f7a4 {d0 : Ds} (N : Nat) (g : Gs) (x0 : Int32) (d : Ds) (hS : Shp g) (hZ : FQW d0 d) : pc (fJ6_bitCount_0f7a4 N g x0 d) (fun _ d1 => FQW d0 d1) := by
  unfold fJ6_bitCount_0f7a4
  refine pc_bd (fun u1 e_1 => ?_)
  refine pc_bd (fun u2 e_2 => ?_)
  refine pc_bd (fun u3 e_3 => ?_)
  refine pc_bd (fun u4 e_4 => ?_)
  refine pc_bd (fun u5 e_5 => ?_)
  exact pc_some hZ
theorem wW_fX9_bar_B27 {d0 : Ds} (N : Nat) (g : Gs) (x2 : Int32) (K27 : Int32 × Int32 × Ds → Option (Unit × Ds)) (y4 : Int32) (y5 : Int32) (d : Ds) (hS : Shp g) (hZ : FQW d0 d) (hK27 : ∀ a, FQW d0 a.2.2 → pc (K27 a) (fun _ d1 => FQW d0 d1)) : pc (fX9_bar_B27 N g 225 117 x2 K27 y4 y5 d) (fun _ d1 => FQW d0 d1) := by
  unfold fX9_bar_B27
  refine pc_gd (fun c_1 => ?_)
  refine pc_if (fun _ => ?_) (fun _ => ?_)
  · exact pc_some hZ
  · refine pc_gd (fun c_2 => ?_)
    refine pc_bd (fun u8 e_3 => ?_)
    refine pc_if (fun _ => ?_) (fun _ => ?_)
    · exact wW_fX9_bar_J86 N g x2 K27 y4 y5 d hS hZ hK27
    · refine pc_cb (wW_fJ6_bitCount_0f7a4 N g u8 d hS hZ) (fun u13 d11 z_4 => ?_)
      refine pc_if (fun _ => ?_) (fun _ => ?_)
      · exact wW_fX9_bar_J86 N g x2 K27 y4 y5 d11 hS z_4 hK27
      · refine pc_bd (fun d15 e_5 => ?_)
        have z_6 := FQW.i z_4 rfl e_5
        exact wW_fX9_bar_J86 N g x2 K27 y4 y5 d15 hS z_6 hK27
theorem wW_fX9_bar_L27 {d0 : Ds} (N : Nat) (g : Gs) (x2 : Int32) (hS : Shp g) (a0 : Int32) (a1 : Int32) (a2 : Ds) (hZ : FQW d0 a2) : pc (fX9_bar_L27 N g 225 117 x2 (a0, a1, a2)) (fun _ d1 => FQW d0 d1) := by
  unfold fX9_bar_L27
  refine pc_lp (fun a => FQW d0 a.2.2) ?_ N (a0, a1, a2) hZ
  rintro K ⟨a0, a1, a2⟩ hZ hK
  exact wW_fX9_bar_B27 N g x2 K a0 a1 a2 hS hZ hK
theorem wW_fX9_bar {d0 : Ds} (N : Nat) (g : Gs) (x2 : Int32) (d : Ds) (hS : Shp g) (hZ : FQW d0 d) : pc (fX9_bar N g 225 117 x2 d) (fun _ d1 => FQW d0 d1) := by
  unfold fX9_bar
  refine pc_gd (fun c_1 => ?_)
  refine pc_bd (fun u2 e_2 => ?_)
  refine pc_gd (fun c_3 => ?_)
  refine pc_bd (fun u4 e_4 => ?_)
  exact wW_fX9_bar_L27 N g x2 hS u4 0 d hZ
theorem wW_fX9_follow_B97 {d0 : Ds} (N : Nat) (g : Gs) (x2 : Int32) (K97 : Int32 × Ds → Option (Unit × Ds)) (y3 : Int32) (d : Ds) (hS : Shp g) (hZ : FQW d0 d) (hK97 : ∀ a, FQW d0 a.2 → pc (K97 a) (fun _ d1 => FQW d0 d1)) : pc (fX9_follow_B97 N g 225 117 x2 K97 y3 d) (fun _ d1 => FQW d0 d1) := by
  unfold fX9_follow_B97
  refine pc_gd (fun c_1 => ?_)
  refine pc_if (fun _ => ?_) (fun _ => ?_)
  · exact pc_some hZ
  · refine pc_gd (fun c_2 => ?_)
    refine pc_cv (wW_fX9_bar N g y3 d hS hZ) (fun d17 z_3 => ?_)
    refine pc_bd (fun u19 e_4 => ?_)
    exact hK97 _ z_3
theorem wW_fX9_follow_L97 {d0 : Ds} (N : Nat) (g : Gs) (x2 : Int32) (hS : Shp g) (a0 : Int32) (a1 : Ds) (hZ : FQW d0 a1) : pc (fX9_follow_L97 N g 225 117 x2 (a0, a1)) (fun _ d1 => FQW d0 d1) := by
  unfold fX9_follow_L97
  refine pc_lp (fun a => FQW d0 a.2) ?_ N (a0, a1) hZ
  rintro K ⟨a0, a1⟩ hZ hK
  exact wW_fX9_follow_B97 N g x2 K a0 a1 hS hZ hK
theorem wW_fX9_follow_J90 {d0 : Ds} (N : Nat) (g : Gs) (x2 : Int32) (d : Ds) (hS : Shp g) (hZ : FQW d0 d) : pc (fX9_follow_J90 N g 225 117 x2 d) (fun _ d1 => FQW d0 d1) := by
  unfold fX9_follow_J90
  refine pc_gd (fun c_1 => ?_)
  refine pc_bd (fun d13 e_2 => ?_)
  have z_3 := FQW.i hZ rfl e_2
  exact wW_fX9_follow_L97 N g x2 hS 0 d13 z_3
theorem wW_fX9_follow_J84 {d0 : Ds} (N : Nat) (g : Gs) (x2 : Int32) (K31 : Int32 × Ds → Option (Unit × Ds)) (y3 : Int32) (d : Ds) (hS : Shp g) (hZ : FQW d0 d) (hK31 : ∀ a, FQW d0 a.2 → pc (K31 a) (fun _ d1 => FQW d0 d1)) : pc (fX9_follow_J84 N g 225 117 x2 K31 y3 d) (fun _ d1 => FQW d0 d1) := by
  unfold fX9_follow_J84
  refine pc_bd (fun u28 e_1 => ?_)
  exact hK31 _ hZ
theorem wW_fX9_follow_B31 {d0 : Ds} (N : Nat) (g : Gs) (x2 : Int32) (K31 : Int32 × Ds → Option (Unit × Ds)) (y3 : Int32) (d : Ds) (hS : Shp g) (hZ : FQW d0 d) (hK31 : ∀ a, FQW d0 a.2 → pc (K31 a) (fun _ d1 => FQW d0 d1)) : pc (fX9_follow_B31 N g 225 117 x2 K31 y3 d) (fun _ d1 => FQW d0 d1) := by
  unfold fX9_follow_B31
  refine pc_gd (fun c_1 => ?_)
  refine pc_cb (wW_fX0_hasKey N g y3 d hS hZ) (fun u10 d8 z_2 => ?_)
  refine pc_if (fun _ => ?_) (fun _ => ?_)
  · exact wW_fX9_follow_J90 N g x2 d8 hS z_2
  · refine pc_if (fun _ => ?_) (fun _ => ?_)
    · exact wW_fX9_follow_J90 N g x2 d8 hS z_2
    · refine pc_gd (fun c_3 => ?_)
      refine pc_ob (fun r22 e_4 => ?_)
      have t_5 := gq hS (e := 226) (by decide +kernel) e_4
      subst t_5
      refine pc_gd (fun c_6 => ?_)
      refine pc_gd (fun c_7 => ?_)
      refine pc_gd (fun c_8 => ?_)
      refine pc_gd (fun c_9 => ?_)
      refine pc_if (fun _ => ?_) (fun _ => ?_)
      · refine pc_bd (fun d29 e_10 => ?_)
        have z_11 := FQW.i z_2 rfl e_10
        exact wW_fX9_follow_J84 N g x2 K31 y3 d29 hS z_11 hK31
      · exact wW_fX9_follow_J84 N g x2 K31 y3 d8 hS z_2 hK31
theorem wW_fX9_follow_L31 {d0 : Ds} (N : Nat) (g : Gs) (x2 : Int32) (hS : Shp g) (a0 : Int32) (a1 : Ds) (hZ : FQW d0 a1) : pc (fX9_follow_L31 N g 225 117 x2 (a0, a1)) (fun _ d1 => FQW d0 d1) := by
  unfold fX9_follow_L31
  refine pc_lp (fun a => FQW d0 a.2) ?_ N (a0, a1) hZ
  rintro K ⟨a0, a1⟩ hZ hK
  exact wW_fX9_follow_B31 N g x2 K a0 a1 hS hZ hK
theorem wW_fX9_follow {d0 : Ds} (N : Nat) (g : Gs) (x2 : Int32) (d : Ds) (hS : Shp g) (hZ : FQW d0 d) : pc (fX9_follow N g 225 117 x2 d) (fun _ d1 => FQW d0 d1) := by
  unfold fX9_follow
  refine pc_gd (fun c_1 => ?_)
  refine pc_cv (wW_fX9_join N g x2 d hS hZ) (fun d2 z_2 => ?_)
  refine pc_gd (fun c_3 => ?_)
  refine pc_if (fun _ => ?_) (fun _ => ?_)
  · refine pc_bd (fun d6 e_4 => ?_)
    have z_5 := FQW.i z_2 rfl e_4
    exact wW_fX9_follow_L31 N g x2 hS 0 d6 z_5
  · refine pc_bd (fun d30 e_6 => ?_)
    have z_7 := FQW.i z_2 rfl e_6
    refine pc_bd (fun d31 e_8 => ?_)
    have z_9 := FQW.i z_7 rfl e_8
    exact pc_some z_9
theorem wW_fX11_ghosts {d0 : Ds} (N : Nat) (g : Gs) (x1 : Int32) (x2 : Int32) (d : Ds) (hS : Shp g) (hZ : FQW d0 d) : pc (fX11_ghosts N g 0 x1 x2 d) (fun _ d1 => FQW d0 d1) := by
  unfold fX11_ghosts
  refine pc_gd (fun c_1 => ?_)
  refine pc_ob (fun r2 e_2 => ?_)
  have t_3 := gq hS (e := 117) (by decide +kernel) e_2
  subst t_3
  refine pc_gd (fun c_4 => ?_)
  refine pc_cb (wW_fX0_keys N g d hS hZ) (fun u6 d4 z_5 => ?_)
  refine pc_if (fun _ => ?_) (fun _ => ?_)
  · refine pc_ob (fun r8 e_6 => ?_)
    have t_7 := gq hS (e := 225) (by decide +kernel) e_6
    subst t_7
    refine pc_gd (fun c_8 => ?_)
    refine pc_cv (wW_fX9_follow N g x1 d4 hS z_5) (fun d10 z_9 => ?_)
    refine pc_if (fun _ => ?_) (fun _ => ?_)
    · exact pc_some z_9
    · refine pc_if (fun _ => ?_) (fun _ => ?_)
      · refine pc_cb (wW_fJ6_bitCount_0f7a4 N g ((dI d10 225 2) &&& (x1 ^^^ (-1))) d10 hS z_9) (fun u16 d14 z_10 => ?_)
        exact pc_some z_10
      · refine pc_if (fun _ => ?_) (fun _ => ?_)
        · refine pc_cb (wW_fJ6_bitCount_0f7a4 N g (dI d10 225 3) d10 hS z_9) (fun u20 d18 z_11 => ?_)
          exact pc_some z_11
        · refine pc_if (fun _ => ?_) (fun _ => ?_)
          · exact pc_some z_9
          · exact pc_none
  · exact pc_some z_5
