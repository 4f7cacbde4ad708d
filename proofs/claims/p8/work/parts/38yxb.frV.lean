/-! what the calls of family V leave alone -/
def fp_V (r : Nat) : Bool := r == 328 || r == 336 || r == 340 || r == 341
def FQV (d d' : Ds) : Prop := (∀ r j, fp_V r = false → dI d' r j = dI d r j) ∧ ∀ r j, fp_V r = false → dF d' r j = dF d r j
theorem FQV.rf {d : Ds} : FQV d d := ⟨fun _ _ _ => rfl, fun _ _ _ => rfl⟩
theorem FQV.i {d0 d d1 : Ds} {r j : Nat} {v : Int32} (h : FQV d0 d) (hr : fp_V r = true) (e : d1 = sI d r j v) : FQV d0 d1 := by
  subst e
  refine ⟨fun r' i q => ?_, h.2⟩
  rw [sI_rd, if_neg (fun z => by rw [z.1, hr] at q; exact absurd q (by decide))]
  exact h.1 r' i q
theorem FQV.f {d0 d d1 : Ds} {r j : Nat} {v : UInt32} (h : FQV d0 d) (hr : fp_V r = true) (e : d1 = sF d r j v) : FQV d0 d1 := by
  subst e
  refine ⟨h.1, fun r' i q => ?_⟩
  rw [sF_rd, if_neg (fun z => by rw [z.1, hr] at q; exact absurd q (by decide))]
  exact h.2 r' i q
theorem FQV.ci {d0 d d1 : Ds} {a r sp dp n : Nat} (h : FQV d0 d) (hr : fp_V r = true) (e : d1 = cI d a r sp dp n) : FQV d0 d1 := by
  subst e
  refine ⟨fun r' i q => ?_, h.2⟩
  rw [cI_rd, if_neg (fun z => by rw [z.1, hr] at q; exact absurd q (by decide))]
  exact h.1 r' i q
theorem FQV.cf {d0 d d1 : Ds} {a r sp dp n : Nat} (h : FQV d0 d) (hr : fp_V r = true) (e : d1 = cF d a r sp dp n) : FQV d0 d1 := by
  subst e
  refine ⟨h.1, fun r' i q => ?_⟩
  rw [cF_rd, if_neg (fun z => by rw [z.1, hr] at q; exact absurd q (by decide))]
  exact h.2 r' i q
theorem FQV.l {d0 d d1 : Ds} {r j : Nat} {v : Int64} (h : FQV d0 d) (e : d1 = sL d r j v) : FQV d0 d1 := by
  subst e
  exact h
theorem FQV.w {d0 d d1 : Ds} {r j : Nat} {v : Option Nat} (h : FQV d0 d) (e : d1 = sW d r j v) : FQV d0 d1 := by
  subst e
  exact h
theorem wV_fX12_keyAt {d0 : Ds} (N : Nat) (g : Gs) (x1 : Int32) (d : Ds) (hS : Shp g) (hZ : FQV d0 d) : pc (fX12_keyAt N g 328 x1 d) (fun _ d1 => FQV d0 d1) := by
  unfold fX12_keyAt
  refine pc_gd (fun c_1 => ?_)
  refine pc_ob (fun r2 e_2 => ?_)
  have t_3 := gq hS (e := 336) (by decide +kernel) e_2
  subst t_3
  refine pc_gd (fun c_4 => ?_)
  refine pc_gd (fun c_5 => ?_)
  exact pc_some hZ
theorem wV_fX12_isDownAt_J23 {d0 : Ds} (N : Nat) (g : Gs) (x1 : Int32) (z0 : Int32) (d : Ds) (hS : Shp g) (hZ : FQV d0 d) : pc (fX12_isDownAt_J23 N g 328 x1 z0 d) (fun _ d1 => FQV d0 d1) := by
  unfold fX12_isDownAt_J23
  refine pc_gd (fun c_1 => ?_)
  exact pc_some hZ
theorem wV_fX12_isDownAt {d0 : Ds} (N : Nat) (g : Gs) (x1 : Int32) (d : Ds) (hS : Shp g) (hZ : FQV d0 d) : pc (fX12_isDownAt N g 328 x1 d) (fun _ d1 => FQV d0 d1) := by
  unfold fX12_isDownAt
  refine pc_gd (fun c_1 => ?_)
  refine pc_ob (fun r2 e_2 => ?_)
  have t_3 := gq hS (e := 336) (by decide +kernel) e_2
  subst t_3
  refine pc_gd (fun c_4 => ?_)
  refine pc_gd (fun c_5 => ?_)
  refine pc_if (fun _ => ?_) (fun _ => ?_)
  · exact wV_fX12_isDownAt_J23 N g x1 1 d hS hZ
  · exact wV_fX12_isDownAt_J23 N g x1 0 d hS hZ
theorem wV_fX12_drops_B8 {d0 : Ds} (N : Nat) (g : Gs) (x1 : Int32) (K8 : Int32 × Ds → Option (Unit × Ds)) (y2 : Int32) (d : Ds) (hS : Shp g) (hZ : FQV d0 d) (hK8 : ∀ a, FQV d0 a.2 → pc (K8 a) (fun _ d1 => FQV d0 d1)) : pc (fX12_drops_B8 N g 328 x1 K8 y2 d) (fun _ d1 => FQV d0 d1) := by
  unfold fX12_drops_B8
  refine pc_gd (fun c_1 => ?_)
  refine pc_ob (fun r3 e_2 => ?_)
  have t_3 := gq hS (e := 336) (by decide +kernel) e_2
  subst t_3
  refine pc_gd (fun c_4 => ?_)
  refine pc_gd (fun c_5 => ?_)
  refine pc_if (fun _ => ?_) (fun _ => ?_)
  · refine pc_bd (fun d7 e_6 => ?_)
    have z_7 := FQV.i hZ rfl e_6
    exact pc_some z_7
  · refine pc_gd (fun c_8 => ?_)
    refine pc_gd (fun c_9 => ?_)
    refine pc_bd (fun d10 e_10 => ?_)
    have z_11 := FQV.i hZ rfl e_10
    refine pc_bd (fun u11 e_12 => ?_)
    exact hK8 _ z_11
theorem wV_fX12_drops_L8 {d0 : Ds} (N : Nat) (g : Gs) (x1 : Int32) (hS : Shp g) (a0 : Int32) (a1 : Ds) (hZ : FQV d0 a1) : pc (fX12_drops_L8 N g 328 x1 (a0, a1)) (fun _ d1 => FQV d0 d1) := by
  unfold fX12_drops_L8
  refine pc_lp (fun a => FQV d0 a.2) ?_ N (a0, a1) hZ
  rintro K ⟨a0, a1⟩ hZ hK
  exact wV_fX12_drops_B8 N g x1 K a0 a1 hS hZ hK
theorem wV_fX12_drops {d0 : Ds} (N : Nat) (g : Gs) (x1 : Int32) (d : Ds) (hS : Shp g) (hZ : FQV d0 d) : pc (fX12_drops N g 328 x1 d) (fun _ d1 => FQV d0 d1) := by
  unfold fX12_drops
  refine pc_bd (fun u1 e_1 => ?_)
  exact wV_fX12_drops_L8 N g x1 hS u1 d hZ
theorem wV_fX12_chordOf_J47 {d0 : Ds} (N : Nat) (g : Gs) (x1 : Int32) (y2 : Int32) (d : Ds) (hS : Shp g) (hZ : FQV d0 d) : pc (fX12_chordOf_J47 N g 328 x1 y2 d) (fun _ d1 => FQV d0 d1) := by
  unfold fX12_chordOf_J47
  exact pc_some hZ
theorem wV_fX12_chordOf_B2 {d0 : Ds} (N : Nat) (g : Gs) (x1 : Int32) (K2 : Int32 × Ds → Option (Int32 × Ds)) (y2 : Int32) (d : Ds) (hS : Shp g) (hZ : FQV d0 d) (hK2 : ∀ a, FQV d0 a.2 → pc (K2 a) (fun _ d1 => FQV d0 d1)) : pc (fX12_chordOf_B2 N g 328 x1 K2 y2 d) (fun _ d1 => FQV d0 d1) := by
  unfold fX12_chordOf_B2
  refine pc_gd (fun c_1 => ?_)
  refine pc_ob (fun r2 e_2 => ?_)
  have t_3 := gq hS (e := 336) (by decide +kernel) e_2
  subst t_3
  refine pc_gd (fun c_4 => ?_)
  refine pc_gd (fun c_5 => ?_)
  refine pc_if (fun _ => ?_) (fun _ => ?_)
  · exact pc_some hZ
  · refine pc_gd (fun c_6 => ?_)
    refine pc_if (fun _ => ?_) (fun _ => ?_)
    · exact wV_fX12_chordOf_J47 N g x1 y2 d hS hZ
    · refine pc_gd (fun c_7 => ?_)
      refine pc_if (fun _ => ?_) (fun _ => ?_)
      · exact wV_fX12_chordOf_J47 N g x1 y2 d hS hZ
      · refine pc_bd (fun u10 e_8 => ?_)
        exact hK2 _ hZ
theorem wV_fX12_chordOf_L2 {d0 : Ds} (N : Nat) (g : Gs) (x1 : Int32) (hS : Shp g) (a0 : Int32) (a1 : Ds) (hZ : FQV d0 a1) : pc (fX12_chordOf_L2 N g 328 x1 (a0, a1)) (fun _ d1 => FQV d0 d1) := by
  unfold fX12_chordOf_L2
  refine pc_lp (fun a => FQV d0 a.2) ?_ N (a0, a1) hZ
  rintro K ⟨a0, a1⟩ hZ hK
  exact wV_fX12_chordOf_B2 N g x1 K a0 a1 hS hZ hK
theorem wV_fX12_chordOf {d0 : Ds} (N : Nat) (g : Gs) (x1 : Int32) (d : Ds) (hS : Shp g) (hZ : FQV d0 d) : pc (fX12_chordOf N g 328 x1 d) (fun _ d1 => FQV d0 d1) := by
  unfold fX12_chordOf
  exact wV_fX12_chordOf_L2 N g x1 hS 0 d hZ
theorem wV_fX12_stops {d0 : Ds} (N : Nat) (g : Gs) (x1 : Int32) (d : Ds) (hS : Shp g) (hZ : FQV d0 d) : pc (fX12_stops N g 328 x1 d) (fun _ d1 => FQV d0 d1) := by
  unfold fX12_stops
  refine pc_gd (fun c_1 => ?_)
  refine pc_ob (fun r2 e_2 => ?_)
  have t_3 := gq hS (e := 336) (by decide +kernel) e_2
  subst t_3
  refine pc_gd (fun c_4 => ?_)
  refine pc_gd (fun c_5 => ?_)
  refine pc_bd (fun d5 e_6 => ?_)
  have z_7 := FQV.i hZ rfl e_6
  refine pc_gd (fun c_8 => ?_)
  refine pc_bd (fun d7 e_9 => ?_)
  have z_10 := FQV.i z_7 rfl e_9
  exact pc_some z_10
theorem wV_fX12_ends_J73 {d0 : Ds} (N : Nat) (g : Gs) (x1 : Int32) (d : Ds) (hS : Shp g) (hZ : FQV d0 d) : pc (fX12_ends_J73 N g 328 x1 d) (fun _ d1 => FQV d0 d1) := by
  unfold fX12_ends_J73
  refine pc_gd (fun c_1 => ?_)
  refine pc_cv (wV_fX12_stops N g x1 d hS hZ) (fun d7 z_2 => ?_)
  exact pc_some z_2
theorem wV_fX12_has_J14 {d0 : Ds} (N : Nat) (g : Gs) (x0 : Int32) (x1 : Int32) (z0 : Int32) (d : Ds) (hS : Shp g) (hZ : FQV d0 d) : pc (fX12_has_J14 N g x0 x1 z0 d) (fun _ d1 => FQV d0 d1) := by
  unfold fX12_has_J14
  refine pc_gd (fun c_1 => ?_)
  exact pc_some hZ
theorem wV_fX12_has {d0 : Ds} (N : Nat) (g : Gs) (x0 : Int32) (x1 : Int32) (d : Ds) (hS : Shp g) (hZ : FQV d0 d) : pc (fX12_has N g x0 x1 d) (fun _ d1 => FQV d0 d1) := by
  unfold fX12_has
  refine pc_if (fun _ => ?_) (fun _ => ?_)
  · exact wV_fX12_has_J14 N g x0 x1 1 d hS hZ
  · exact wV_fX12_has_J14 N g x0 x1 0 d hS hZ
theorem wV_fX12_ends {d0 : Ds} (N : Nat) (g : Gs) (x1 : Int32) (d : Ds) (hS : Shp g) (hZ : FQV d0 d) : pc (fX12_ends N g 328 x1 d) (fun _ d1 => FQV d0 d1) := by
  unfold fX12_ends
  refine pc_gd (fun c_1 => ?_)
  refine pc_cb (wV_fX12_chordOf N g x1 d hS hZ) (fun u4 d2 z_2 => ?_)
  refine pc_if (fun _ => ?_) (fun _ => ?_)
  · exact wV_fX12_ends_J73 N g x1 d2 hS z_2
  · refine pc_ob (fun r9 e_3 => ?_)
    have t_4 := gq hS (e := 336) (by decide +kernel) e_3
    subst t_4
    refine pc_gd (fun c_5 => ?_)
    refine pc_gd (fun c_6 => ?_)
    refine pc_cb (wV_fX12_has N g (dI d2 336 (453 : Int32).toNatClampNeg) u4 d2 hS z_2) (fun u14 d12 z_7 => ?_)
    refine pc_if (fun _ => ?_) (fun _ => ?_)
    · exact wV_fX12_ends_J73 N g x1 d12 hS z_7
    · refine pc_bd (fun d16 e_8 => ?_)
      have z_9 := FQV.i z_7 rfl e_8
      refine pc_gd (fun c_10 => ?_)
      refine pc_cv (wV_fX12_stops N g (dI d16 336 ((300 : Int32) + ((4 : Int32) * u4)).toNatClampNeg) d16 hS z_9) (fun d18 z_11 => ?_)
      refine pc_gd (fun c_12 => ?_)
      refine pc_cv (wV_fX12_stops N g (dI d18 336 (((300 : Int32) + ((4 : Int32) * u4)) + 1).toNatClampNeg) d18 hS z_11) (fun d21 z_13 => ?_)
      exact wV_fX12_ends_J73 N g x1 d21 hS z_13
theorem wV_fX12_nextBegun_J83 {d0 : Ds} (N : Nat) (g : Gs) (x1 : Int32) (K4 : Int32 × Int32 × Ds → Option (Int32 × Ds)) (y2 : Int32) (y3 : Int32) (d : Ds) (hS : Shp g) (hZ : FQV d0 d) (hK4 : ∀ a, FQV d0 a.2.2 → pc (K4 a) (fun _ d1 => FQV d0 d1)) : pc (fX12_nextBegun_J83 N g 328 x1 K4 y2 y3 d) (fun _ d1 => FQV d0 d1) := by
  unfold fX12_nextBegun_J83
  refine pc_bd (fun u7 e_1 => ?_)
  exact hK4 _ hZ
theorem wV_fX12_nextBegun_J81 {d0 : Ds} (N : Nat) (g : Gs) (x1 : Int32) (K4 : Int32 × Int32 × Ds → Option (Int32 × Ds)) (y3 : Int32) (d : Ds) (hS : Shp g) (hZ : FQV d0 d) (hK4 : ∀ a, FQV d0 a.2.2 → pc (K4 a) (fun _ d1 => FQV d0 d1)) : pc (fX12_nextBegun_J81 N g 328 x1 K4 y3 d) (fun _ d1 => FQV d0 d1) := by
  unfold fX12_nextBegun_J81
  exact wV_fX12_nextBegun_J83 N g x1 K4 y3 y3 d hS hZ hK4
theorem wV_fX12_nextBegun_B4 {d0 : Ds} (N : Nat) (g : Gs) (x1 : Int32) (K4 : Int32 × Int32 × Ds → Option (Int32 × Ds)) (y2 : Int32) (y3 : Int32) (d : Ds) (hS : Shp g) (hZ : FQV d0 d) (hK4 : ∀ a, FQV d0 a.2.2 → pc (K4 a) (fun _ d1 => FQV d0 d1)) : pc (fX12_nextBegun_B4 N g 328 x1 K4 y2 y3 d) (fun _ d1 => FQV d0 d1) := by
  unfold fX12_nextBegun_B4
  refine pc_if (fun _ => ?_) (fun _ => ?_)
  · exact pc_some hZ
  · refine pc_gd (fun c_1 => ?_)
    refine pc_ob (fun r3 e_2 => ?_)
    have t_3 := gq hS (e := 336) (by decide +kernel) e_2
    subst t_3
    refine pc_gd (fun c_4 => ?_)
    refine pc_gd (fun c_5 => ?_)
    refine pc_if (fun _ => ?_) (fun _ => ?_)
    · exact wV_fX12_nextBegun_J83 N g x1 K4 y2 y3 d hS hZ hK4
    · refine pc_gd (fun c_6 => ?_)
      refine pc_if (fun _ => ?_) (fun _ => ?_)
      · refine pc_if (fun _ => ?_) (fun _ => ?_)
        · exact wV_fX12_nextBegun_J81 N g x1 K4 y3 d hS hZ hK4
        · refine pc_gd (fun c_7 => ?_)
          refine pc_if (fun _ => ?_) (fun _ => ?_)
          · exact wV_fX12_nextBegun_J83 N g x1 K4 y2 y3 d hS hZ hK4
          · exact wV_fX12_nextBegun_J81 N g x1 K4 y3 d hS hZ hK4
      · exact wV_fX12_nextBegun_J83 N g x1 K4 y2 y3 d hS hZ hK4
theorem wV_fX12_nextBegun_L4 {d0 : Ds} (N : Nat) (g : Gs) (x1 : Int32) (hS : Shp g) (a0 : Int32) (a1 : Int32) (a2 : Ds) (hZ : FQV d0 a2) : pc (fX12_nextBegun_L4 N g 328 x1 (a0, a1, a2)) (fun _ d1 => FQV d0 d1) := by
  unfold fX12_nextBegun_L4
  refine pc_lp (fun a => FQV d0 a.2.2) ?_ N (a0, a1, a2) hZ
  rintro K ⟨a0, a1, a2⟩ hZ hK
  exact wV_fX12_nextBegun_B4 N g x1 K a0 a1 a2 hS hZ hK
theorem wV_fX12_nextBegun {d0 : Ds} (N : Nat) (g : Gs) (x1 : Int32) (d : Ds) (hS : Shp g) (hZ : FQV d0 d) : pc (fX12_nextBegun N g 328 x1 d) (fun _ d1 => FQV d0 d1) := by
  unfold fX12_nextBegun
  exact wV_fX12_nextBegun_L4 N g x1 hS (-1) 0 d hZ
theorem wV_fX12_laysSent_J121 {d0 : Ds} (N : Nat) (g : Gs) (d : Ds) (hS : Shp g) (hZ : FQV d0 d) : pc (fX12_laysSent_J121 N g 328 d) (fun _ d1 => FQV d0 d1) := by
  unfold fX12_laysSent_J121
  exact pc_some hZ
theorem wV_fX12_adds_B2 {d0 : Ds} (N : Nat) (g : Gs) (x1 : Int32) (K2 : Int32 × Ds → Option (Unit × Ds)) (y2 : Int32) (d : Ds) (hS : Shp g) (hZ : FQV d0 d) (hK2 : ∀ a, FQV d0 a.2 → pc (K2 a) (fun _ d1 => FQV d0 d1)) : pc (fX12_adds_B2 N g 328 x1 K2 y2 d) (fun _ d1 => FQV d0 d1) := by
  unfold fX12_adds_B2
  refine pc_gd (fun c_1 => ?_)
  refine pc_if (fun _ => ?_) (fun _ => ?_)
  · refine pc_ob (fun r3 e_2 => ?_)
    have t_3 := gq hS (e := 341) (by decide +kernel) e_2
    subst t_3
    refine pc_gd (fun c_4 => ?_)
    refine pc_gd (fun c_5 => ?_)
    refine pc_bd (fun d6 e_6 => ?_)
    have z_7 := FQV.i hZ rfl e_6
    refine pc_bd (fun d7 e_8 => ?_)
    have z_9 := FQV.i z_7 rfl e_8
    exact pc_some z_9
  · refine pc_ob (fun r8 e_10 => ?_)
    have t_11 := gq hS (e := 341) (by decide +kernel) e_10
    subst t_11
    refine pc_gd (fun c_12 => ?_)
    refine pc_gd (fun c_13 => ?_)
    refine pc_if (fun _ => ?_) (fun _ => ?_)
    · exact pc_some hZ
    · refine pc_bd (fun u12 e_14 => ?_)
      exact hK2 _ hZ
theorem wV_fX12_adds_L2 {d0 : Ds} (N : Nat) (g : Gs) (x1 : Int32) (hS : Shp g) (a0 : Int32) (a1 : Ds) (hZ : FQV d0 a1) : pc (fX12_adds_L2 N g 328 x1 (a0, a1)) (fun _ d1 => FQV d0 d1) := by
  unfold fX12_adds_L2
  refine pc_lp (fun a => FQV d0 a.2) ?_ N (a0, a1) hZ
  rintro K ⟨a0, a1⟩ hZ hK
  exact wV_fX12_adds_B2 N g x1 K a0 a1 hS hZ hK
theorem wV_fX12_adds {d0 : Ds} (N : Nat) (g : Gs) (x1 : Int32) (d : Ds) (hS : Shp g) (hZ : FQV d0 d) : pc (fX12_adds N g 328 x1 d) (fun _ d1 => FQV d0 d1) := by
  unfold fX12_adds
  exact wV_fX12_adds_L2 N g x1 hS 0 d hZ
theorem wV_fX12_laysSent_J80 {d0 : Ds} (N : Nat) (g : Gs) (K18 : Int32 × Ds → Option (Unit × Ds)) (y3 : Int32) (d : Ds) (hS : Shp g) (hZ : FQV d0 d) (hK18 : ∀ a, FQV d0 a.2 → pc (K18 a) (fun _ d1 => FQV d0 d1)) : pc (fX12_laysSent_J80 N g 328 K18 y3 d) (fun _ d1 => FQV d0 d1) := by
  unfold fX12_laysSent_J80
  refine pc_gd (fun c_1 => ?_)
  refine pc_ob (fun r27 e_2 => ?_)
  have t_3 := gq hS (e := 336) (by decide +kernel) e_2
  subst t_3
  refine pc_gd (fun c_4 => ?_)
  refine pc_gd (fun c_5 => ?_)
  refine pc_bd (fun u30 e_6 => ?_)
  refine pc_cb (wV_fX12_nextBegun N g u30 d hS hZ) (fun u33 d31 z_7 => ?_)
  exact hK18 _ z_7
theorem wV_fX12_laysSent_J59 {d0 : Ds} (N : Nat) (g : Gs) (K18 : Int32 × Ds → Option (Unit × Ds)) (y3 : Int32) (d : Ds) (hS : Shp g) (hZ : FQV d0 d) (hK18 : ∀ a, FQV d0 a.2 → pc (K18 a) (fun _ d1 => FQV d0 d1)) : pc (fX12_laysSent_J59 N g 328 K18 y3 d) (fun _ d1 => FQV d0 d1) := by
  unfold fX12_laysSent_J59
  refine pc_gd (fun c_1 => ?_)
  refine pc_ob (fun r22 e_2 => ?_)
  have t_3 := gq hS (e := 336) (by decide +kernel) e_2
  subst t_3
  refine pc_gd (fun c_4 => ?_)
  refine pc_gd (fun c_5 => ?_)
  refine pc_if (fun _ => ?_) (fun _ => ?_)
  · refine pc_gd (fun c_6 => ?_)
    refine pc_cv (wV_fX12_adds N g (dI d 336 (y3 + 1).toNatClampNeg) d hS hZ) (fun d35 z_7 => ?_)
    exact wV_fX12_laysSent_J80 N g K18 y3 d35 hS z_7 hK18
  · exact wV_fX12_laysSent_J80 N g K18 y3 d hS hZ hK18
theorem wV_fX12_laysSent_B18 {d0 : Ds} (N : Nat) (g : Gs) (K18 : Int32 × Ds → Option (Unit × Ds)) (y2 : Int32) (d : Ds) (hS : Shp g) (hZ : FQV d0 d) (hK18 : ∀ a, FQV d0 a.2 → pc (K18 a) (fun _ d1 => FQV d0 d1)) : pc (fX12_laysSent_B18 N g 328 K18 y2 d) (fun _ d1 => FQV d0 d1) := by
  unfold fX12_laysSent_B18
  refine pc_if (fun _ => ?_) (fun _ => ?_)
  · refine pc_gd (fun c_1 => ?_)
    refine pc_ob (fun r9 e_2 => ?_)
    have t_3 := gq hS (e := 336) (by decide +kernel) e_2
    subst t_3
    refine pc_gd (fun c_4 => ?_)
    refine pc_gd (fun c_5 => ?_)
    refine pc_if (fun _ => ?_) (fun _ => ?_)
    · exact wV_fX12_laysSent_J121 N g d hS hZ
    · refine pc_cv (wV_fX12_adds N g (dI d 336 (454 : Int32).toNatClampNeg) d hS hZ) (fun d13 z_6 => ?_)
      exact wV_fX12_laysSent_J121 N g d13 hS z_6
  · refine pc_bd (fun u15 e_7 => ?_)
    refine pc_gd (fun c_8 => ?_)
    refine pc_ob (fun r17 e_9 => ?_)
    have t_10 := gq hS (e := 336) (by decide +kernel) e_9
    subst t_10
    refine pc_gd (fun c_11 => ?_)
    refine pc_gd (fun c_12 => ?_)
    refine pc_if (fun _ => ?_) (fun _ => ?_)
    · refine pc_gd (fun c_13 => ?_)
      refine pc_bd (fun d38 e_14 => ?_)
      have z_15 := FQV.i hZ rfl e_14
      exact wV_fX12_laysSent_J59 N g K18 u15 d38 hS z_15 hK18
    · exact wV_fX12_laysSent_J59 N g K18 u15 d hS hZ hK18
theorem wV_fX12_laysSent_L18 {d0 : Ds} (N : Nat) (g : Gs) (hS : Shp g) (a0 : Int32) (a1 : Ds) (hZ : FQV d0 a1) : pc (fX12_laysSent_L18 N g 328 (a0, a1)) (fun _ d1 => FQV d0 d1) := by
  unfold fX12_laysSent_L18
  refine pc_lp (fun a => FQV d0 a.2) ?_ N (a0, a1) hZ
  rintro K ⟨a0, a1⟩ hZ hK
  exact wV_fX12_laysSent_B18 N g K a0 a1 hS hZ hK
theorem wV_fX12_laysSent {d0 : Ds} (N : Nat) (g : Gs) (d : Ds) (hS : Shp g) (hZ : FQV d0 d) : pc (fX12_laysSent N g 328 d) (fun _ d1 => FQV d0 d1) := by
  unfold fX12_laysSent
  refine pc_gd (fun c_1 => ?_)
  refine pc_bd (fun d2 e_2 => ?_)
  have z_3 := FQV.i hZ rfl e_2
  refine pc_bd (fun d3 e_4 => ?_)
  have z_5 := FQV.i z_3 rfl e_4
  refine pc_cb (wV_fX12_nextBegun N g (-1) d3 hS z_5) (fun u6 d4 z_6 => ?_)
  exact wV_fX12_laysSent_L18 N g hS u6 d4 z_6
theorem wV_fX12_isLatest_J27 {d0 : Ds} (N : Nat) (g : Gs) (x1 : Int32) (z0 : Int32) (d : Ds) (hS : Shp g) (hZ : FQV d0 d) : pc (fX12_isLatest_J27 N g 328 x1 z0 d) (fun _ d1 => FQV d0 d1) := by
  unfold fX12_isLatest_J27
  refine pc_gd (fun c_1 => ?_)
  exact pc_some hZ
theorem wV_fX12_isLatest_J26 {d0 : Ds} (N : Nat) (g : Gs) (x1 : Int32) (d : Ds) (hS : Shp g) (hZ : FQV d0 d) : pc (fX12_isLatest_J26 N g 328 x1 d) (fun _ d1 => FQV d0 d1) := by
  unfold fX12_isLatest_J26
  exact wV_fX12_isLatest_J27 N g x1 0 d hS hZ
theorem wV_fX12_reportAt {d0 : Ds} (N : Nat) (g : Gs) (x1 : Int32) (d : Ds) (hS : Shp g) (hZ : FQV d0 d) : pc (fX12_reportAt N g 328 x1 d) (fun _ d1 => FQV d0 d1) := by
  unfold fX12_reportAt
  refine pc_gd (fun c_1 => ?_)
  refine pc_ob (fun r2 e_2 => ?_)
  have t_3 := gq hS (e := 336) (by decide +kernel) e_2
  subst t_3
  refine pc_gd (fun c_4 => ?_)
  refine pc_gd (fun c_5 => ?_)
  refine pc_gd (fun c_6 => ?_)
  refine pc_bd (fun u6 e_7 => ?_)
  exact pc_some hZ
theorem wV_fX12_isLatest_B65 {d0 : Ds} (N : Nat) (g : Gs) (x1 : Int32) (K65 : Int32 × Int32 × Ds → Option (Int32 × Ds)) (y2 : Int32) (y3 : Int32) (d : Ds) (hS : Shp g) (hZ : FQV d0 d) (hK65 : ∀ a, FQV d0 a.2.2 → pc (K65 a) (fun _ d1 => FQV d0 d1)) : pc (fX12_isLatest_B65 N g 328 x1 K65 y2 y3 d) (fun _ d1 => FQV d0 d1) := by
  unfold fX12_isLatest_B65
  refine pc_if (fun _ => ?_) (fun _ => ?_)
  · exact pc_some hZ
  · refine pc_gd (fun c_1 => ?_)
    refine pc_ob (fun r15 e_2 => ?_)
    have t_3 := gq hS (e := 336) (by decide +kernel) e_2
    subst t_3
    refine pc_gd (fun c_4 => ?_)
    refine pc_gd (fun c_5 => ?_)
    refine pc_ob (fun r18 e_6 => ?_)
    have t_7 := gq hS (e := 341) (by decide +kernel) e_6
    subst t_7
    refine pc_gd (fun c_8 => ?_)
    refine pc_gd (fun c_9 => ?_)
    refine pc_if (fun _ => ?_) (fun _ => ?_)
    · refine pc_bd (fun u22 e_10 => ?_)
      exact hK65 _ hZ
    · exact pc_some hZ
theorem wV_fX12_isLatest_L65 {d0 : Ds} (N : Nat) (g : Gs) (x1 : Int32) (hS : Shp g) (a0 : Int32) (a1 : Int32) (a2 : Ds) (hZ : FQV d0 a2) : pc (fX12_isLatest_L65 N g 328 x1 (a0, a1, a2)) (fun _ d1 => FQV d0 d1) := by
  unfold fX12_isLatest_L65
  refine pc_lp (fun a => FQV d0 a.2.2) ?_ N (a0, a1, a2) hZ
  rintro K ⟨a0, a1, a2⟩ hZ hK
  exact wV_fX12_isLatest_B65 N g x1 K a0 a1 a2 hS hZ hK
theorem wV_fX12_isLatest_J61 {d0 : Ds} (N : Nat) (g : Gs) (x1 : Int32) (d : Ds) (hS : Shp g) (hZ : FQV d0 d) : pc (fX12_isLatest_J61 N g 328 x1 d) (fun _ d1 => FQV d0 d1) := by
  unfold fX12_isLatest_J61
  exact pc_some hZ
theorem wV_fX12_isLatest {d0 : Ds} (N : Nat) (g : Gs) (x1 : Int32) (d : Ds) (hS : Shp g) (hZ : FQV d0 d) : pc (fX12_isLatest N g 328 x1 d) (fun _ d1 => FQV d0 d1) := by
  unfold fX12_isLatest
  refine pc_gd (fun c_1 => ?_)
  refine pc_ob (fun r2 e_2 => ?_)
  have t_3 := gq hS (e := 336) (by decide +kernel) e_2
  subst t_3
  refine pc_gd (fun c_4 => ?_)
  refine pc_gd (fun c_5 => ?_)
  refine pc_if (fun _ => ?_) (fun _ => ?_)
  · refine pc_if (fun _ => ?_) (fun _ => ?_)
    · refine pc_if (fun _ => ?_) (fun _ => ?_)
      · exact wV_fX12_isLatest_J27 N g x1 1 d hS hZ
      · exact wV_fX12_isLatest_J26 N g x1 d hS hZ
    · exact wV_fX12_isLatest_J26 N g x1 d hS hZ
  · refine pc_cb (wV_fX12_reportAt N g 0 d hS hZ) (fun u8 d6 z_6 => ?_)
    refine pc_gd (fun c_7 => ?_)
    refine pc_if (fun _ => ?_) (fun _ => ?_)
    · refine pc_gd (fun c_8 => ?_)
      refine pc_if (fun _ => ?_) (fun _ => ?_)
      · exact wV_fX12_isLatest_L65 N g x1 hS u8 0 d6 z_6
      · exact wV_fX12_isLatest_J61 N g x1 d6 hS z_6
    · exact wV_fX12_isLatest_J61 N g x1 d6 hS z_6
theorem wV_fX12_hears_J174 {d0 : Ds} (N : Nat) (g : Gs) (x1 : Int32) (d : Ds) (hS : Shp g) (hZ : FQV d0 d) : pc (fX12_hears_J174 N g 328 x1 d) (fun _ d1 => FQV d0 d1) := by
  unfold fX12_hears_J174
  exact pc_some hZ
theorem wV_fX12_reportHas_B2 {d0 : Ds} (N : Nat) (g : Gs) (x1 : Int32) (x2 : Int32) (K2 : Int32 × Ds → Option (Int32 × Ds)) (y3 : Int32) (d : Ds) (hS : Shp g) (hZ : FQV d0 d) (hK2 : ∀ a, FQV d0 a.2 → pc (K2 a) (fun _ d1 => FQV d0 d1)) : pc (fX12_reportHas_B2 N g 328 x1 x2 K2 y3 d) (fun _ d1 => FQV d0 d1) := by
  unfold fX12_reportHas_B2
  refine pc_gd (fun c_1 => ?_)
  refine pc_ob (fun r2 e_2 => ?_)
  have t_3 := gq hS (e := 336) (by decide +kernel) e_2
  subst t_3
  refine pc_gd (fun c_4 => ?_)
  refine pc_gd (fun c_5 => ?_)
  refine pc_if (fun _ => ?_) (fun _ => ?_)
  · exact pc_some hZ
  · refine pc_gd (fun c_6 => ?_)
    refine pc_if (fun _ => ?_) (fun _ => ?_)
    · exact pc_some hZ
    · refine pc_bd (fun u8 e_7 => ?_)
      exact hK2 _ hZ
theorem wV_fX12_reportHas_L2 {d0 : Ds} (N : Nat) (g : Gs) (x1 : Int32) (x2 : Int32) (hS : Shp g) (a0 : Int32) (a1 : Ds) (hZ : FQV d0 a1) : pc (fX12_reportHas_L2 N g 328 x1 x2 (a0, a1)) (fun _ d1 => FQV d0 d1) := by
  unfold fX12_reportHas_L2
  refine pc_lp (fun a => FQV d0 a.2) ?_ N (a0, a1) hZ
  rintro K ⟨a0, a1⟩ hZ hK
  exact wV_fX12_reportHas_B2 N g x1 x2 K a0 a1 hS hZ hK
theorem wV_fX12_reportHas {d0 : Ds} (N : Nat) (g : Gs) (x1 : Int32) (x2 : Int32) (d : Ds) (hS : Shp g) (hZ : FQV d0 d) : pc (fX12_reportHas N g 328 x1 x2 d) (fun _ d1 => FQV d0 d1) := by
  unfold fX12_reportHas
  exact wV_fX12_reportHas_L2 N g x1 x2 hS 0 d hZ
theorem wV_fX12_hears_J73 {d0 : Ds} (N : Nat) (g : Gs) (x1 : Int32) (K4 : Int32 × Int32 × Ds → Option (Unit × Ds)) (y2 : Int32) (y3 : Int32) (d : Ds) (hS : Shp g) (hZ : FQV d0 d) (hK4 : ∀ a, FQV d0 a.2.2 → pc (K4 a) (fun _ d1 => FQV d0 d1)) : pc (fX12_hears_J73 N g 328 x1 K4 y2 y3 d) (fun _ d1 => FQV d0 d1) := by
  unfold fX12_hears_J73
  refine pc_bd (fun u28 e_1 => ?_)
  exact hK4 _ hZ
theorem wV_fX12_hears_J55 {d0 : Ds} (N : Nat) (g : Gs) (x1 : Int32) (K4 : Int32 × Int32 × Ds → Option (Unit × Ds)) (y2 : Int32) (y3 : Int32) (z0 : Int32) (d : Ds) (hS : Shp g) (hZ : FQV d0 d) (hK4 : ∀ a, FQV d0 a.2.2 → pc (K4 a) (fun _ d1 => FQV d0 d1)) : pc (fX12_hears_J55 N g 328 x1 K4 y2 y3 z0 d) (fun _ d1 => FQV d0 d1) := by
  unfold fX12_hears_J55
  refine pc_if (fun _ => ?_) (fun _ => ?_)
  · refine pc_gd (fun c_1 => ?_)
    refine pc_ob (fun r30 e_2 => ?_)
    have t_3 := gq hS (e := 336) (by decide +kernel) e_2
    subst t_3
    refine pc_gd (fun c_4 => ?_)
    refine pc_gd (fun c_5 => ?_)
    refine pc_bd (fun u33 e_6 => ?_)
    exact wV_fX12_hears_J73 N g x1 K4 u33 y3 d hS hZ hK4
  · exact wV_fX12_hears_J73 N g x1 K4 y2 y3 d hS hZ hK4
theorem wV_fX12_hears_J54 {d0 : Ds} (N : Nat) (g : Gs) (x1 : Int32) (K4 : Int32 × Int32 × Ds → Option (Unit × Ds)) (y2 : Int32) (y3 : Int32) (d : Ds) (hS : Shp g) (hZ : FQV d0 d) (hK4 : ∀ a, FQV d0 a.2.2 → pc (K4 a) (fun _ d1 => FQV d0 d1)) : pc (fX12_hears_J54 N g 328 x1 K4 y2 y3 d) (fun _ d1 => FQV d0 d1) := by
  unfold fX12_hears_J54
  exact wV_fX12_hears_J55 N g x1 K4 y2 y3 0 d hS hZ hK4
theorem wV_fX12_hears_B4 {d0 : Ds} (N : Nat) (g : Gs) (x1 : Int32) (K4 : Int32 × Int32 × Ds → Option (Unit × Ds)) (y2 : Int32) (y3 : Int32) (d : Ds) (hS : Shp g) (hZ : FQV d0 d) (hK4 : ∀ a, FQV d0 a.2.2 → pc (K4 a) (fun _ d1 => FQV d0 d1)) : pc (fX12_hears_B4 N g 328 x1 K4 y2 y3 d) (fun _ d1 => FQV d0 d1) := by
  unfold fX12_hears_B4
  refine pc_gd (fun c_1 => ?_)
  refine pc_ob (fun r2 e_2 => ?_)
  have t_3 := gq hS (e := 336) (by decide +kernel) e_2
  subst t_3
  refine pc_gd (fun c_4 => ?_)
  refine pc_gd (fun c_5 => ?_)
  refine pc_if (fun _ => ?_) (fun _ => ?_)
  · refine pc_if (fun _ => ?_) (fun _ => ?_)
    · refine pc_gd (fun c_6 => ?_)
      refine pc_if (fun _ => ?_) (fun _ => ?_)
      · exact wV_fX12_hears_J174 N g x1 d hS hZ
      · refine pc_cb (wV_fX12_reportHas N g x1 (dI d 336 (455 : Int32).toNatClampNeg) d hS hZ) (fun u11 d9 z_7 => ?_)
        refine pc_if (fun _ => ?_) (fun _ => ?_)
        · refine pc_bd (fun d13 e_8 => ?_)
          have z_9 := FQV.i z_7 rfl e_8
          refine pc_gd (fun c_10 => ?_)
          refine pc_bd (fun d15 e_11 => ?_)
          have z_12 := FQV.i z_9 rfl e_11
          refine pc_gd (fun c_13 => ?_)
          refine pc_bd (fun d17 e_14 => ?_)
          have z_15 := FQV.i z_12 rfl e_14
          exact wV_fX12_hears_J174 N g x1 d17 hS z_15
        · exact wV_fX12_hears_J174 N g x1 d9 hS z_7
    · refine pc_gd (fun c_16 => ?_)
      refine pc_bd (fun d19 e_17 => ?_)
      have z_18 := FQV.i hZ rfl e_17
      refine pc_gd (fun c_19 => ?_)
      refine pc_gd (fun c_20 => ?_)
      refine pc_bd (fun d22 e_21 => ?_)
      have z_22 := FQV.i z_18 rfl e_21
      refine pc_gd (fun c_23 => ?_)
      refine pc_bd (fun d24 e_24 => ?_)
      have z_25 := FQV.i z_22 rfl e_24
      exact wV_fX12_hears_J174 N g x1 d24 hS z_25
  · refine pc_gd (fun c_26 => ?_)
    refine pc_if (fun _ => ?_) (fun _ => ?_)
    · exact wV_fX12_hears_J54 N g x1 K4 y2 y3 d hS hZ hK4
    · refine pc_cb (wV_fX12_reportAt N g 1 d hS hZ) (fun u36 d34 z_27 => ?_)
      refine pc_gd (fun c_28 => ?_)
      refine pc_cb (wV_fX12_reportHas N g u36 (dI d34 336 ((x1 + 3) + y3).toNatClampNeg) d34 hS z_27) (fun u40 d38 z_29 => ?_)
      refine pc_if (fun _ => ?_) (fun _ => ?_)
      · exact wV_fX12_hears_J54 N g x1 K4 y2 y3 d38 hS z_29 hK4
      · exact wV_fX12_hears_J55 N g x1 K4 y2 y3 1 d38 hS z_29 hK4
theorem wV_fX12_hears_L4 {d0 : Ds} (N : Nat) (g : Gs) (x1 : Int32) (hS : Shp g) (a0 : Int32) (a1 : Int32) (a2 : Ds) (hZ : FQV d0 a2) : pc (fX12_hears_L4 N g 328 x1 (a0, a1, a2)) (fun _ d1 => FQV d0 d1) := by
  unfold fX12_hears_L4
  refine pc_lp (fun a => FQV d0 a.2.2) ?_ N (a0, a1, a2) hZ
  rintro K ⟨a0, a1, a2⟩ hZ hK
  exact wV_fX12_hears_B4 N g x1 K a0 a1 a2 hS hZ hK
theorem wV_fX12_hears {d0 : Ds} (N : Nat) (g : Gs) (x1 : Int32) (d : Ds) (hS : Shp g) (hZ : FQV d0 d) : pc (fX12_hears N g 328 x1 d) (fun _ d1 => FQV d0 d1) := by
  unfold fX12_hears
  exact wV_fX12_hears_L4 N g x1 hS (-1) 0 d hZ
theorem wV_fX12_reports_B97 {d0 : Ds} (N : Nat) (g : Gs) (K97 : Int32 × Int32 × Int32 × Ds → Option (Unit × Ds)) (y1 : Int32) (y2 : Int32) (y3 : Int32) (d : Ds) (hS : Shp g) (hZ : FQV d0 d) (hK97 : ∀ a, FQV d0 a.2.2.2 → pc (K97 a) (fun _ d1 => FQV d0 d1)) : pc (fX12_reports_B97 N g 328 K97 y1 y2 y3 d) (fun _ d1 => FQV d0 d1) := by
  unfold fX12_reports_B97
  refine pc_if (fun _ => ?_) (fun _ => ?_)
  · refine pc_gd (fun c_1 => ?_)
    refine pc_cv (wV_fX12_hears N g y2 d hS hZ) (fun d30 z_2 => ?_)
    exact pc_some z_2
  · refine pc_gd (fun c_3 => ?_)
    refine pc_ob (fun r33 e_4 => ?_)
    have t_5 := gq hS (e := 336) (by decide +kernel) e_4
    subst t_5
    refine pc_ob (fun r34 e_6 => ?_)
    have t_7 := gq hS (e := 341) (by decide +kernel) e_6
    subst t_7
    refine pc_gd (fun c_8 => ?_)
    refine pc_gd (fun c_9 => ?_)
    refine pc_gd (fun c_10 => ?_)
    refine pc_gd (fun c_11 => ?_)
    refine pc_bd (fun d39 e_12 => ?_)
    have z_13 := FQV.i hZ rfl e_12
    refine pc_bd (fun u40 e_14 => ?_)
    exact hK97 _ z_13
theorem wV_fX12_reports_L97 {d0 : Ds} (N : Nat) (g : Gs) (hS : Shp g) (a0 : Int32) (a1 : Int32) (a2 : Int32) (a3 : Ds) (hZ : FQV d0 a3) : pc (fX12_reports_L97 N g 328 (a0, a1, a2, a3)) (fun _ d1 => FQV d0 d1) := by
  unfold fX12_reports_L97
  refine pc_lp (fun a => FQV d0 a.2.2.2) ?_ N (a0, a1, a2, a3) hZ
  rintro K ⟨a0, a1, a2, a3⟩ hZ hK
  exact wV_fX12_reports_B97 N g K a0 a1 a2 a3 hS hZ hK
theorem wV_fX12_reports_J32 {d0 : Ds} (N : Nat) (g : Gs) (z0 : Int32) (d : Ds) (hS : Shp g) (hZ : FQV d0 d) : pc (fX12_reports_J32 N g 328 z0 d) (fun _ d1 => FQV d0 d1) := by
  unfold fX12_reports_J32
  refine pc_gd (fun c_1 => ?_)
  refine pc_cb (wV_fX12_isLatest N g z0 d hS hZ) (fun u12 d10 z_2 => ?_)
  refine pc_if (fun _ => ?_) (fun _ => ?_)
  · refine pc_ob (fun r14 e_3 => ?_)
    have t_4 := gq hS (e := 336) (by decide +kernel) e_3
    subst t_4
    refine pc_gd (fun c_5 => ?_)
    refine pc_gd (fun c_6 => ?_)
    refine pc_bd (fun d17 e_7 => ?_)
    have z_8 := FQV.i z_2 rfl e_7
    refine pc_cb (wV_fX12_reportAt N g 0 d17 hS z_8) (fun u20 d18 z_9 => ?_)
    refine pc_gd (fun c_10 => ?_)
    refine pc_gd (fun c_11 => ?_)
    refine pc_bd (fun d23 e_12 => ?_)
    have z_13 := FQV.i z_9 rfl e_12
    refine pc_gd (fun c_14 => ?_)
    refine pc_bd (fun d25 e_15 => ?_)
    have z_16 := FQV.i z_13 rfl e_15
    refine pc_gd (fun c_17 => ?_)
    refine pc_bd (fun d27 e_18 => ?_)
    have z_19 := FQV.i z_16 rfl e_18
    exact wV_fX12_reports_L97 N g hS z0 u20 0 d27 z_19
  · exact pc_some z_2
theorem wV_fX12_reports_J28 {d0 : Ds} (N : Nat) (g : Gs) (d : Ds) (hS : Shp g) (hZ : FQV d0 d) : pc (fX12_reports_J28 N g 328 d) (fun _ d1 => FQV d0 d1) := by
  unfold fX12_reports_J28
  refine pc_gd (fun c_1 => ?_)
  exact wV_fX12_reports_J32 N g (dI d 328 26) d hS hZ
theorem wV_fX12_reports {d0 : Ds} (N : Nat) (g : Gs) (d : Ds) (hS : Shp g) (hZ : FQV d0 d) : pc (fX12_reports N g 328 d) (fun _ d1 => FQV d0 d1) := by
  unfold fX12_reports
  refine pc_gd (fun c_1 => ?_)
  refine pc_cv (wV_fX12_laysSent N g d hS hZ) (fun d2 z_2 => ?_)
  refine pc_ob (fun r4 e_3 => ?_)
  have t_4 := gq hS (e := 336) (by decide +kernel) e_3
  subst t_4
  refine pc_gd (fun c_5 => ?_)
  refine pc_gd (fun c_6 => ?_)
  refine pc_if (fun _ => ?_) (fun _ => ?_)
  · refine pc_if (fun _ => ?_) (fun _ => ?_)
    · exact wV_fX12_reports_J28 N g d2 hS z_2
    · exact wV_fX12_reports_J32 N g (-2) d2 hS z_2
  · exact wV_fX12_reports_J28 N g d2 hS z_2
theorem wV_fX12_timeAt {d0 : Ds} (N : Nat) (g : Gs) (x1 : Int32) (d : Ds) (hS : Shp g) (hZ : FQV d0 d) : pc (fX12_timeAt N g 328 x1 d) (fun _ d1 => FQV d0 d1) := by
  unfold fX12_timeAt
  refine pc_gd (fun c_1 => ?_)
  refine pc_ob (fun r2 e_2 => ?_)
  have t_3 := gq hS (e := 336) (by decide +kernel) e_2
  subst t_3
  refine pc_gd (fun c_4 => ?_)
  refine pc_gd (fun c_5 => ?_)
  exact pc_some hZ
theorem wV_fX12_activeLayers_J54 {d0 : Ds} (N : Nat) (g : Gs) (K13 : Int32 × Int32 × Ds → Option (Int32 × Ds)) (y1 : Int32) (y2 : Int32) (d : Ds) (hS : Shp g) (hZ : FQV d0 d) (hK13 : ∀ a, FQV d0 a.2.2 → pc (K13 a) (fun _ d1 => FQV d0 d1)) : pc (fX12_activeLayers_J54 N g 328 K13 y1 y2 d) (fun _ d1 => FQV d0 d1) := by
  unfold fX12_activeLayers_J54
  refine pc_bd (fun u12 e_1 => ?_)
  exact hK13 _ hZ
theorem wV_fX12_activeLayers_B13 {d0 : Ds} (N : Nat) (g : Gs) (K13 : Int32 × Int32 × Ds → Option (Int32 × Ds)) (y1 : Int32) (y2 : Int32) (d : Ds) (hS : Shp g) (hZ : FQV d0 d) (hK13 : ∀ a, FQV d0 a.2.2 → pc (K13 a) (fun _ d1 => FQV d0 d1)) : pc (fX12_activeLayers_B13 N g 328 K13 y1 y2 d) (fun _ d1 => FQV d0 d1) := by
  unfold fX12_activeLayers_B13
  refine pc_if (fun _ => ?_) (fun _ => ?_)
  · exact pc_some hZ
  · refine pc_gd (fun c_1 => ?_)
    refine pc_ob (fun r8 e_2 => ?_)
    have t_3 := gq hS (e := 336) (by decide +kernel) e_2
    subst t_3
    refine pc_gd (fun c_4 => ?_)
    refine pc_gd (fun c_5 => ?_)
    refine pc_if (fun _ => ?_) (fun _ => ?_)
    · refine pc_gd (fun c_6 => ?_)
      refine pc_bd (fun u14 e_7 => ?_)
      refine pc_bd (fun u15 e_8 => ?_)
      exact wV_fX12_activeLayers_J54 N g K13 u15 y2 d hS hZ hK13
    · exact wV_fX12_activeLayers_J54 N g K13 y1 y2 d hS hZ hK13
theorem wV_fX12_activeLayers_L13 {d0 : Ds} (N : Nat) (g : Gs) (hS : Shp g) (a0 : Int32) (a1 : Int32) (a2 : Ds) (hZ : FQV d0 a2) : pc (fX12_activeLayers_L13 N g 328 (a0, a1, a2)) (fun _ d1 => FQV d0 d1) := by
  unfold fX12_activeLayers_L13
  refine pc_lp (fun a => FQV d0 a.2.2) ?_ N (a0, a1, a2) hZ
  rintro K ⟨a0, a1, a2⟩ hZ hK
  exact wV_fX12_activeLayers_B13 N g K a0 a1 a2 hS hZ hK
theorem wV_fX12_activeLayers {d0 : Ds} (N : Nat) (g : Gs) (d : Ds) (hS : Shp g) (hZ : FQV d0 d) : pc (fX12_activeLayers N g 328 d) (fun _ d1 => FQV d0 d1) := by
  unfold fX12_activeLayers
  refine pc_gd (fun c_1 => ?_)
  refine pc_ob (fun r2 e_2 => ?_)
  have t_3 := gq hS (e := 336) (by decide +kernel) e_2
  subst t_3
  refine pc_gd (fun c_4 => ?_)
  refine pc_gd (fun c_5 => ?_)
  refine pc_bd (fun u5 e_6 => ?_)
  exact wV_fX12_activeLayers_L13 N g hS u5 0 d hZ
theorem wV_fX12_layerOf_J41 {d0 : Ds} (N : Nat) (g : Gs) (x1 : Int32) (K7 : Int32 × Int32 × Ds → Option (Int32 × Ds)) (y2 : Int32) (y3 : Int32) (d : Ds) (hS : Shp g) (hZ : FQV d0 d) (hK7 : ∀ a, FQV d0 a.2.2 → pc (K7 a) (fun _ d1 => FQV d0 d1)) : pc (fX12_layerOf_J41 N g 328 x1 K7 y2 y3 d) (fun _ d1 => FQV d0 d1) := by
  unfold fX12_layerOf_J41
  refine pc_bd (fun u10 e_1 => ?_)
  exact hK7 _ hZ
theorem wV_fX12_layerOf_B7 {d0 : Ds} (N : Nat) (g : Gs) (x1 : Int32) (K7 : Int32 × Int32 × Ds → Option (Int32 × Ds)) (y2 : Int32) (y3 : Int32) (d : Ds) (hS : Shp g) (hZ : FQV d0 d) (hK7 : ∀ a, FQV d0 a.2.2 → pc (K7 a) (fun _ d1 => FQV d0 d1)) : pc (fX12_layerOf_B7 N g 328 x1 K7 y2 y3 d) (fun _ d1 => FQV d0 d1) := by
  unfold fX12_layerOf_B7
  refine pc_if (fun _ => ?_) (fun _ => ?_)
  · exact pc_some hZ
  · refine pc_cb (wV_fX12_has N g y2 y3 d hS hZ) (fun u8 d6 z_1 => ?_)
    refine pc_if (fun _ => ?_) (fun _ => ?_)
    · exact wV_fX12_layerOf_J41 N g x1 K7 y2 y3 d6 hS z_1 hK7
    · refine pc_gd (fun c_2 => ?_)
      refine pc_ob (fun r12 e_3 => ?_)
      have t_4 := gq hS (e := 336) (by decide +kernel) e_3
      subst t_4
      refine pc_gd (fun c_5 => ?_)
      refine pc_gd (fun c_6 => ?_)
      refine pc_if (fun _ => ?_) (fun _ => ?_)
      · exact wV_fX12_layerOf_J41 N g x1 K7 y2 y3 d6 hS z_1 hK7
      · exact pc_some z_1
theorem wV_fX12_layerOf_L7 {d0 : Ds} (N : Nat) (g : Gs) (x1 : Int32) (hS : Shp g) (a0 : Int32) (a1 : Int32) (a2 : Ds) (hZ : FQV d0 a2) : pc (fX12_layerOf_L7 N g 328 x1 (a0, a1, a2)) (fun _ d1 => FQV d0 d1) := by
  unfold fX12_layerOf_L7
  refine pc_lp (fun a => FQV d0 a.2.2) ?_ N (a0, a1, a2) hZ
  rintro K ⟨a0, a1, a2⟩ hZ hK
  exact wV_fX12_layerOf_B7 N g x1 K a0 a1 a2 hS hZ hK
theorem wV_fX12_layerOf {d0 : Ds} (N : Nat) (g : Gs) (x1 : Int32) (d : Ds) (hS : Shp g) (hZ : FQV d0 d) : pc (fX12_layerOf N g 328 x1 d) (fun _ d1 => FQV d0 d1) := by
  unfold fX12_layerOf
  refine pc_gd (fun c_1 => ?_)
  refine pc_cb (wV_fX12_activeLayers N g d hS hZ) (fun u4 d2 z_2 => ?_)
  exact wV_fX12_layerOf_L7 N g x1 hS u4 3 d2 z_2
theorem wV_fX12_heldOrTapped_J112 {d0 : Ds} (N : Nat) (g : Gs) (x1 : Int32) (x2 : Int32) (z0 : Int32) (d : Ds) (hS : Shp g) (hZ : FQV d0 d) : pc (fX12_heldOrTapped_J112 N g 328 x1 x2 z0 d) (fun _ d1 => FQV d0 d1) := by
  unfold fX12_heldOrTapped_J112
  exact pc_some hZ
theorem wV_fX12_heldOrTapped_J89 {d0 : Ds} (N : Nat) (g : Gs) (x1 : Int32) (x2 : Int32) (K15 : Int32 × Int32 × Int32 × Ds → Option (Int32 × Ds)) (y3 : Int32) (y4 : Int32) (y5 : Int32) (d : Ds) (hS : Shp g) (hZ : FQV d0 d) (hK15 : ∀ a, FQV d0 a.2.2.2 → pc (K15 a) (fun _ d1 => FQV d0 d1)) : pc (fX12_heldOrTapped_J89 N g 328 x1 x2 K15 y3 y4 y5 d) (fun _ d1 => FQV d0 d1) := by
  unfold fX12_heldOrTapped_J89
  refine pc_bd (fun u29 e_1 => ?_)
  exact hK15 _ hZ
theorem wV_fX12_heldOrTapped_B15 {d0 : Ds} (N : Nat) (g : Gs) (x1 : Int32) (x2 : Int32) (K15 : Int32 × Int32 × Int32 × Ds → Option (Int32 × Ds)) (y3 : Int32) (y4 : Int32) (y5 : Int32) (d : Ds) (hS : Shp g) (hZ : FQV d0 d) (hK15 : ∀ a, FQV d0 a.2.2.2 → pc (K15 a) (fun _ d1 => FQV d0 d1)) : pc (fX12_heldOrTapped_B15 N g 328 x1 x2 K15 y3 y4 y5 d) (fun _ d1 => FQV d0 d1) := by
  unfold fX12_heldOrTapped_B15
  refine pc_gd (fun c_1 => ?_)
  refine pc_ob (fun r7 e_2 => ?_)
  have t_3 := gq hS (e := 336) (by decide +kernel) e_2
  subst t_3
  refine pc_gd (fun c_4 => ?_)
  refine pc_gd (fun c_5 => ?_)
  refine pc_if (fun _ => ?_) (fun _ => ?_)
  · refine pc_gd (fun c_6 => ?_)
    refine pc_if (fun _ => ?_) (fun _ => ?_)
    · exact wV_fX12_heldOrTapped_J112 N g x1 x2 (-1) d hS hZ
    · exact wV_fX12_heldOrTapped_J112 N g x1 x2 1 d hS hZ
  · refine pc_cb (wV_fX12_timeAt N g y5 d hS hZ) (fun u15 d13 z_7 => ?_)
    refine pc_if (fun _ => ?_) (fun _ => ?_)
    · refine pc_cb (wV_fX12_keyAt N g y5 d13 hS z_7) (fun u19 d17 z_8 => ?_)
      refine pc_cb (wV_fX12_isDownAt N g y5 d17 hS z_8) (fun u22 d20 z_9 => ?_)
      refine pc_if (fun _ => ?_) (fun _ => ?_)
      · refine pc_if (fun _ => ?_) (fun _ => ?_)
        · exact pc_some z_9
        · refine pc_cb (wV_fX12_has N g y4 u19 d20 hS z_9) (fun u27 d25 z_10 => ?_)
          refine pc_if (fun _ => ?_) (fun _ => ?_)
          · exact wV_fX12_heldOrTapped_J89 N g x1 x2 K15 y3 y4 y5 d25 hS z_10 hK15
          · exact pc_some z_10
      · refine pc_bd (fun u30 e_11 => ?_)
        exact wV_fX12_heldOrTapped_J89 N g x1 x2 K15 y3 u30 y5 d20 hS z_9 hK15
    · exact pc_some z_7
theorem wV_fX12_heldOrTapped_L15 {d0 : Ds} (N : Nat) (g : Gs) (x1 : Int32) (x2 : Int32) (hS : Shp g) (a0 : Int32) (a1 : Int32) (a2 : Int32) (a3 : Ds) (hZ : FQV d0 a3) : pc (fX12_heldOrTapped_L15 N g 328 x1 x2 (a0, a1, a2, a3)) (fun _ d1 => FQV d0 d1) := by
  unfold fX12_heldOrTapped_L15
  refine pc_lp (fun a => FQV d0 a.2.2.2) ?_ N (a0, a1, a2, a3) hZ
  rintro K ⟨a0, a1, a2, a3⟩ hZ hK
  exact wV_fX12_heldOrTapped_B15 N g x1 x2 K a0 a1 a2 a3 hS hZ hK
theorem wV_fX12_heldOrTapped {d0 : Ds} (N : Nat) (g : Gs) (x1 : Int32) (x2 : Int32) (d : Ds) (hS : Shp g) (hZ : FQV d0 d) : pc (fX12_heldOrTapped N g 328 x1 x2 d) (fun _ d1 => FQV d0 d1) := by
  unfold fX12_heldOrTapped
  refine pc_gd (fun c_1 => ?_)
  refine pc_ob (fun r2 e_2 => ?_)
  have t_3 := gq hS (e := 336) (by decide +kernel) e_2
  subst t_3
  refine pc_gd (fun c_4 => ?_)
  refine pc_gd (fun c_5 => ?_)
  refine pc_bd (fun u5 e_6 => ?_)
  exact wV_fX12_heldOrTapped_L15 N g x1 x2 hS u5 0 1 d hZ
theorem wV_fX12_begin {d0 : Ds} (N : Nat) (g : Gs) (x1 : Int32) (x2 : Int32) (x3 : Int32) (d : Ds) (hS : Shp g) (hZ : FQV d0 d) : pc (fX12_begin N g 328 x1 x2 x3 d) (fun _ d1 => FQV d0 d1) := by
  unfold fX12_begin
  refine pc_gd (fun c_1 => ?_)
  refine pc_ob (fun r2 e_2 => ?_)
  have t_3 := gq hS (e := 336) (by decide +kernel) e_2
  subst t_3
  refine pc_gd (fun c_4 => ?_)
  refine pc_gd (fun c_5 => ?_)
  refine pc_bd (fun d5 e_6 => ?_)
  have z_7 := FQV.i hZ rfl e_6
  refine pc_gd (fun c_8 => ?_)
  refine pc_bd (fun d7 e_9 => ?_)
  have z_10 := FQV.i z_7 rfl e_9
  refine pc_gd (fun c_11 => ?_)
  refine pc_gd (fun c_12 => ?_)
  refine pc_bd (fun d10 e_13 => ?_)
  have z_14 := FQV.i z_10 rfl e_13
  refine pc_bd (fun d11 e_15 => ?_)
  have z_16 := FQV.i z_14 rfl e_15
  exact pc_some z_16
theorem wV_fX12_worksAlone_J190 {d0 : Ds} (N : Nat) (g : Gs) (x1 : Int32) (x2 : Int32) (d : Ds) (hS : Shp g) (hZ : FQV d0 d) : pc (fX12_worksAlone_J190 N g 328 x1 x2 d) (fun _ d1 => FQV d0 d1) := by
  unfold fX12_worksAlone_J190
  refine pc_gd (fun c_1 => ?_)
  refine pc_cv (wV_fX12_reports N g d hS hZ) (fun d28 z_2 => ?_)
  exact pc_some z_2
theorem wV_fX12_worksAlone_J113 {d0 : Ds} (N : Nat) (g : Gs) (x1 : Int32) (x2 : Int32) (d : Ds) (hS : Shp g) (hZ : FQV d0 d) : pc (fX12_worksAlone_J113 N g 328 x1 x2 d) (fun _ d1 => FQV d0 d1) := by
  unfold fX12_worksAlone_J113
  exact wV_fX12_worksAlone_J190 N g x1 x2 d hS hZ
theorem wV_fX12_worksAlone_J108 {d0 : Ds} (N : Nat) (g : Gs) (x1 : Int32) (x2 : Int32) (y6 : Int32) (z0 : Int32) (z1 : Int32) (d : Ds) (hS : Shp g) (hZ : FQV d0 d) : pc (fX12_worksAlone_J108 N g 328 x1 x2 y6 z0 z1 328 d) (fun _ d1 => FQV d0 d1) := by
  unfold fX12_worksAlone_J108
  refine pc_gd (fun c_1 => ?_)
  refine pc_cv (wV_fX12_begin N g z1 z0 y6 d hS hZ) (fun d25 z_2 => ?_)
  exact wV_fX12_worksAlone_J113 N g x1 x2 d25 hS z_2
theorem wV_fX12_worksAlone_J58 {d0 : Ds} (N : Nat) (g : Gs) (x1 : Int32) (x2 : Int32) (y4 : Int32) (y5 : Int32) (y6 : Int32) (d : Ds) (hS : Shp g) (hZ : FQV d0 d) : pc (fX12_worksAlone_J58 N g 328 x1 x2 y4 y5 y6 d) (fun _ d1 => FQV d0 d1) := by
  unfold fX12_worksAlone_J58
  refine pc_gd (fun c_1 => ?_)
  refine pc_cb (wV_fX12_heldOrTapped N g x1 x2 d hS hZ) (fun u18 d16 z_2 => ?_)
  refine pc_if (fun _ => ?_) (fun _ => ?_)
  · refine pc_cv (wV_fX12_drops N g 0 d16 hS z_2) (fun d20 z_3 => ?_)
    refine pc_if (fun _ => ?_) (fun _ => ?_)
    · refine pc_cv (wV_fX12_begin N g x1 0 y5 d20 hS z_3) (fun d30 z_4 => ?_)
      exact wV_fX12_worksAlone_J113 N g x1 x2 d30 hS z_4
    · refine pc_if (fun _ => ?_) (fun _ => ?_)
      · exact wV_fX12_worksAlone_J108 N g x1 x2 y6 2 x1 d20 hS z_3
      · exact wV_fX12_worksAlone_J108 N g x1 x2 y6 1 x1 d20 hS z_3
  · exact pc_some z_2
theorem wV_fX12_onceOrTwice_J86 {d0 : Ds} (N : Nat) (g : Gs) (x1 : Int32) (x2 : Int32) (z0 : Int32) (d : Ds) (hS : Shp g) (hZ : FQV d0 d) : pc (fX12_onceOrTwice_J86 N g 328 x1 x2 z0 d) (fun _ d1 => FQV d0 d1) := by
  unfold fX12_onceOrTwice_J86
  exact pc_some hZ
theorem wV_fX12_onceOrTwice_J62 {d0 : Ds} (N : Nat) (g : Gs) (x1 : Int32) (x2 : Int32) (z0 : Int32) (d : Ds) (hS : Shp g) (hZ : FQV d0 d) : pc (fX12_onceOrTwice_J62 N g 328 x1 x2 z0 d) (fun _ d1 => FQV d0 d1) := by
  unfold fX12_onceOrTwice_J62
  exact pc_some hZ
theorem wV_fX12_onceOrTwice_B13 {d0 : Ds} (N : Nat) (g : Gs) (x1 : Int32) (x2 : Int32) (K13 : Int32 × Int32 × Ds → Option (Int32 × Ds)) (y3 : Int32) (y4 : Int32) (d : Ds) (hS : Shp g) (hZ : FQV d0 d) (hK13 : ∀ a, FQV d0 a.2.2 → pc (K13 a) (fun _ d1 => FQV d0 d1)) : pc (fX12_onceOrTwice_B13 N g 328 x1 x2 K13 y3 y4 d) (fun _ d1 => FQV d0 d1) := by
  unfold fX12_onceOrTwice_B13
  refine pc_gd (fun c_1 => ?_)
  refine pc_ob (fun r7 e_2 => ?_)
  have t_3 := gq hS (e := 336) (by decide +kernel) e_2
  subst t_3
  refine pc_gd (fun c_4 => ?_)
  refine pc_gd (fun c_5 => ?_)
  refine pc_if (fun _ => ?_) (fun _ => ?_)
  · refine pc_gd (fun c_6 => ?_)
    refine pc_if (fun _ => ?_) (fun _ => ?_)
    · exact wV_fX12_onceOrTwice_J86 N g x1 x2 (-1) d hS hZ
    · exact wV_fX12_onceOrTwice_J86 N g x1 x2 0 d hS hZ
  · refine pc_cb (wV_fX12_timeAt N g y4 d hS hZ) (fun u15 d13 z_7 => ?_)
    refine pc_if (fun _ => ?_) (fun _ => ?_)
    · refine pc_cb (wV_fX12_isDownAt N g y4 d13 hS z_7) (fun u19 d17 z_8 => ?_)
      refine pc_if (fun _ => ?_) (fun _ => ?_)
      · refine pc_bd (fun u21 e_9 => ?_)
        exact hK13 _ z_8
      · refine pc_cb (wV_fX12_keyAt N g y4 d17 hS z_8) (fun u24 d22 z_10 => ?_)
        refine pc_if (fun _ => ?_) (fun _ => ?_)
        · exact wV_fX12_onceOrTwice_J62 N g x1 x2 1 d22 hS z_10
        · exact wV_fX12_onceOrTwice_J62 N g x1 x2 0 d22 hS z_10
    · exact pc_some z_7
theorem wV_fX12_onceOrTwice_L13 {d0 : Ds} (N : Nat) (g : Gs) (x1 : Int32) (x2 : Int32) (hS : Shp g) (a0 : Int32) (a1 : Int32) (a2 : Ds) (hZ : FQV d0 a2) : pc (fX12_onceOrTwice_L13 N g 328 x1 x2 (a0, a1, a2)) (fun _ d1 => FQV d0 d1) := by
  unfold fX12_onceOrTwice_L13
  refine pc_lp (fun a => FQV d0 a.2.2) ?_ N (a0, a1, a2) hZ
  rintro K ⟨a0, a1, a2⟩ hZ hK
  exact wV_fX12_onceOrTwice_B13 N g x1 x2 K a0 a1 a2 hS hZ hK
theorem wV_fX12_onceOrTwice {d0 : Ds} (N : Nat) (g : Gs) (x1 : Int32) (x2 : Int32) (d : Ds) (hS : Shp g) (hZ : FQV d0 d) : pc (fX12_onceOrTwice N g 328 x1 x2 d) (fun _ d1 => FQV d0 d1) := by
  unfold fX12_onceOrTwice
  refine pc_gd (fun c_1 => ?_)
  refine pc_ob (fun r2 e_2 => ?_)
  have t_3 := gq hS (e := 336) (by decide +kernel) e_2
  subst t_3
  refine pc_gd (fun c_4 => ?_)
  refine pc_gd (fun c_5 => ?_)
  refine pc_bd (fun u5 e_6 => ?_)
  exact wV_fX12_onceOrTwice_L13 N g x1 x2 hS u5 1 d hZ
theorem wV_fX12_dropsTwo_J47 {d0 : Ds} (N : Nat) (g : Gs) (x1 : Int32) (K30 : Int32 × Ds → Option (Unit × Ds)) (y2 : Int32) (d : Ds) (hS : Shp g) (hZ : FQV d0 d) (hK30 : ∀ a, FQV d0 a.2 → pc (K30 a) (fun _ d1 => FQV d0 d1)) : pc (fX12_dropsTwo_J47 N g 328 x1 K30 y2 d) (fun _ d1 => FQV d0 d1) := by
  unfold fX12_dropsTwo_J47
  refine pc_bd (fun u18 e_1 => ?_)
  exact hK30 _ hZ
theorem wV_fX12_dropsTwo_B30 {d0 : Ds} (N : Nat) (g : Gs) (x1 : Int32) (K30 : Int32 × Ds → Option (Unit × Ds)) (y2 : Int32) (d : Ds) (hS : Shp g) (hZ : FQV d0 d) (hK30 : ∀ a, FQV d0 a.2 → pc (K30 a) (fun _ d1 => FQV d0 d1)) : pc (fX12_dropsTwo_B30 N g 328 x1 K30 y2 d) (fun _ d1 => FQV d0 d1) := by
  unfold fX12_dropsTwo_B30
  refine pc_gd (fun c_1 => ?_)
  refine pc_cb (wV_fX12_keyAt N g y2 d hS hZ) (fun u16 d14 z_2 => ?_)
  refine pc_if (fun _ => ?_) (fun _ => ?_)
  · refine pc_cb (wV_fX12_isDownAt N g y2 d14 hS z_2) (fun u21 d19 z_3 => ?_)
    refine pc_if (fun _ => ?_) (fun _ => ?_)
    · exact wV_fX12_dropsTwo_J47 N g x1 K30 y2 d19 hS z_3 hK30
    · refine pc_cv (wV_fX12_drops N g y2 d19 hS z_3) (fun d23 z_4 => ?_)
      exact pc_some z_4
  · exact wV_fX12_dropsTwo_J47 N g x1 K30 y2 d14 hS z_2 hK30
theorem wV_fX12_dropsTwo_L30 {d0 : Ds} (N : Nat) (g : Gs) (x1 : Int32) (hS : Shp g) (a0 : Int32) (a1 : Ds) (hZ : FQV d0 a1) : pc (fX12_dropsTwo_L30 N g 328 x1 (a0, a1)) (fun _ d1 => FQV d0 d1) := by
  unfold fX12_dropsTwo_L30
  refine pc_lp (fun a => FQV d0 a.2) ?_ N (a0, a1) hZ
  rintro K ⟨a0, a1⟩ hZ hK
  exact wV_fX12_dropsTwo_B30 N g x1 K a0 a1 hS hZ hK
theorem wV_fX12_dropsTwo_J19 {d0 : Ds} (N : Nat) (g : Gs) (x1 : Int32) (K2 : Int32 × Ds → Option (Unit × Ds)) (y2 : Int32) (d : Ds) (hS : Shp g) (hZ : FQV d0 d) (hK2 : ∀ a, FQV d0 a.2 → pc (K2 a) (fun _ d1 => FQV d0 d1)) : pc (fX12_dropsTwo_J19 N g 328 x1 K2 y2 d) (fun _ d1 => FQV d0 d1) := by
  unfold fX12_dropsTwo_J19
  refine pc_bd (fun u6 e_1 => ?_)
  exact hK2 _ hZ
theorem wV_fX12_dropsTwo_B2 {d0 : Ds} (N : Nat) (g : Gs) (x1 : Int32) (K2 : Int32 × Ds → Option (Unit × Ds)) (y2 : Int32) (d : Ds) (hS : Shp g) (hZ : FQV d0 d) (hK2 : ∀ a, FQV d0 a.2 → pc (K2 a) (fun _ d1 => FQV d0 d1)) : pc (fX12_dropsTwo_B2 N g 328 x1 K2 y2 d) (fun _ d1 => FQV d0 d1) := by
  unfold fX12_dropsTwo_B2
  refine pc_gd (fun c_1 => ?_)
  refine pc_cb (wV_fX12_keyAt N g y2 d hS hZ) (fun u4 d2 z_2 => ?_)
  refine pc_if (fun _ => ?_) (fun _ => ?_)
  · refine pc_cb (wV_fX12_isDownAt N g y2 d2 hS z_2) (fun u9 d7 z_3 => ?_)
    refine pc_if (fun _ => ?_) (fun _ => ?_)
    · refine pc_cv (wV_fX12_drops N g y2 d7 hS z_3) (fun d11 z_4 => ?_)
      exact wV_fX12_dropsTwo_L30 N g x1 hS y2 d11 z_4
    · exact wV_fX12_dropsTwo_J19 N g x1 K2 y2 d7 hS z_3 hK2
  · exact wV_fX12_dropsTwo_J19 N g x1 K2 y2 d2 hS z_2 hK2
theorem wV_fX12_dropsTwo_L2 {d0 : Ds} (N : Nat) (g : Gs) (x1 : Int32) (hS : Shp g) (a0 : Int32) (a1 : Ds) (hZ : FQV d0 a1) : pc (fX12_dropsTwo_L2 N g 328 x1 (a0, a1)) (fun _ d1 => FQV d0 d1) := by
  unfold fX12_dropsTwo_L2
  refine pc_lp (fun a => FQV d0 a.2) ?_ N (a0, a1) hZ
  rintro K ⟨a0, a1⟩ hZ hK
  exact wV_fX12_dropsTwo_B2 N g x1 K a0 a1 hS hZ hK
theorem wV_fX12_dropsTwo {d0 : Ds} (N : Nat) (g : Gs) (x1 : Int32) (d : Ds) (hS : Shp g) (hZ : FQV d0 d) : pc (fX12_dropsTwo N g 328 x1 d) (fun _ d1 => FQV d0 d1) := by
  unfold fX12_dropsTwo
  exact wV_fX12_dropsTwo_L2 N g x1 hS 0 d hZ
theorem wV_fX12_worksAlone_J170 {d0 : Ds} (N : Nat) (g : Gs) (x1 : Int32) (x2 : Int32) (z0 : Int32) (z1 : Int32) (z2 : Int32) (d : Ds) (hS : Shp g) (hZ : FQV d0 d) : pc (fX12_worksAlone_J170 N g 328 x1 x2 z0 z1 z2 328 d) (fun _ d1 => FQV d0 d1) := by
  unfold fX12_worksAlone_J170
  refine pc_gd (fun c_1 => ?_)
  refine pc_cv (wV_fX12_begin N g z2 z1 z0 d hS hZ) (fun d47 z_2 => ?_)
  exact wV_fX12_worksAlone_J190 N g x1 x2 d47 hS z_2
theorem wV_fX12_worksAlone_J154 {d0 : Ds} (N : Nat) (g : Gs) (x1 : Int32) (x2 : Int32) (y5 : Int32) (y6 : Int32) (y7 : Int32) (d : Ds) (hS : Shp g) (hZ : FQV d0 d) : pc (fX12_worksAlone_J154 N g 328 x1 x2 y5 y6 y7 d) (fun _ d1 => FQV d0 d1) := by
  unfold fX12_worksAlone_J154
  refine pc_if (fun _ => ?_) (fun _ => ?_)
  · exact wV_fX12_worksAlone_J170 N g x1 x2 y6 0 x1 d hS hZ
  · exact wV_fX12_worksAlone_J170 N g x1 x2 y5 0 x1 d hS hZ
theorem wV_fX12_plays_B23 {d0 : Ds} (N : Nat) (g : Gs) (x1 : Int32) (K23 : Int32 × Int32 × Ds → Option (Unit × Ds)) (y2 : Int32) (y3 : Int32) (d : Ds) (hS : Shp g) (hZ : FQV d0 d) (hK23 : ∀ a, FQV d0 a.2.2 → pc (K23 a) (fun _ d1 => FQV d0 d1)) : pc (fX12_plays_B23 N g 328 x1 K23 y2 y3 d) (fun _ d1 => FQV d0 d1) := by
  unfold fX12_plays_B23
  refine pc_gd (fun c_1 => ?_)
  refine pc_ob (fun r8 e_2 => ?_)
  have t_3 := gq hS (e := 336) (by decide +kernel) e_2
  subst t_3
  refine pc_gd (fun c_4 => ?_)
  refine pc_gd (fun c_5 => ?_)
  refine pc_if (fun _ => ?_) (fun _ => ?_)
  · exact pc_some hZ
  · refine pc_gd (fun c_6 => ?_)
    refine pc_gd (fun c_7 => ?_)
    refine pc_bd (fun d14 e_8 => ?_)
    have z_9 := FQV.i hZ rfl e_8
    refine pc_cv (wV_fX12_reports N g d14 hS z_9) (fun d15 z_10 => ?_)
    refine pc_bd (fun d17 e_11 => ?_)
    have z_12 := FQV.i z_10 rfl e_11
    refine pc_cv (wV_fX12_reports N g d17 hS z_12) (fun d18 z_13 => ?_)
    refine pc_bd (fun u20 e_14 => ?_)
    exact hK23 _ z_13
theorem wV_fX12_plays_L23 {d0 : Ds} (N : Nat) (g : Gs) (x1 : Int32) (hS : Shp g) (a0 : Int32) (a1 : Int32) (a2 : Ds) (hZ : FQV d0 a2) : pc (fX12_plays_L23 N g 328 x1 (a0, a1, a2)) (fun _ d1 => FQV d0 d1) := by
  unfold fX12_plays_L23
  refine pc_lp (fun a => FQV d0 a.2.2) ?_ N (a0, a1, a2) hZ
  rintro K ⟨a0, a1, a2⟩ hZ hK
  exact wV_fX12_plays_B23 N g x1 K a0 a1 a2 hS hZ hK
theorem wV_fX12_plays {d0 : Ds} (N : Nat) (g : Gs) (x1 : Int32) (d : Ds) (hS : Shp g) (hZ : FQV d0 d) : pc (fX12_plays N g 328 x1 d) (fun _ d1 => FQV d0 d1) := by
  unfold fX12_plays
  refine pc_gd (fun c_1 => ?_)
  refine pc_ob (fun r2 e_2 => ?_)
  have t_3 := gq hS (e := 336) (by decide +kernel) e_2
  subst t_3
  refine pc_gd (fun c_4 => ?_)
  refine pc_gd (fun c_5 => ?_)
  refine pc_if (fun _ => ?_) (fun _ => ?_)
  · refine pc_bd (fun u6 e_6 => ?_)
    exact wV_fX12_plays_L23 N g x1 hS u6 1 d hZ
  · exact pc_some hZ
theorem wV_fX12_doesPlainly_J42 {d0 : Ds} (N : Nat) (g : Gs) (x1 : Int32) (x2 : Int32) (x3 : Int32) (d : Ds) (hS : Shp g) (hZ : FQV d0 d) : pc (fX12_doesPlainly_J42 N g 328 x1 x2 x3 d) (fun _ d1 => FQV d0 d1) := by
  unfold fX12_doesPlainly_J42
  exact pc_some hZ
theorem wV_fX12_doesPlainly_J31 {d0 : Ds} (N : Nat) (g : Gs) (x1 : Int32) (x2 : Int32) (x3 : Int32) (d : Ds) (hS : Shp g) (hZ : FQV d0 d) : pc (fX12_doesPlainly_J31 N g 328 x1 x2 x3 d) (fun _ d1 => FQV d0 d1) := by
  unfold fX12_doesPlainly_J31
  refine pc_if (fun _ => ?_) (fun _ => ?_)
  · refine pc_gd (fun c_1 => ?_)
    refine pc_cv (wV_fX12_plays N g x3 d hS hZ) (fun d5 z_2 => ?_)
    exact wV_fX12_doesPlainly_J42 N g x1 x2 x3 d5 hS z_2
  · exact wV_fX12_doesPlainly_J42 N g x1 x2 x3 d hS hZ
theorem wV_fX12_doesPlainly_J12 {d0 : Ds} (N : Nat) (g : Gs) (x1 : Int32) (x2 : Int32) (x3 : Int32) (d : Ds) (hS : Shp g) (hZ : FQV d0 d) : pc (fX12_doesPlainly_J12 N g 328 x1 x2 x3 d) (fun _ d1 => FQV d0 d1) := by
  unfold fX12_doesPlainly_J12
  refine pc_if (fun _ => ?_) (fun _ => ?_)
  · refine pc_gd (fun c_1 => ?_)
    refine pc_ob (fun r8 e_2 => ?_)
    have t_3 := gq hS (e := 336) (by decide +kernel) e_2
    subst t_3
    refine pc_gd (fun c_4 => ?_)
    refine pc_gd (fun c_5 => ?_)
    refine pc_bd (fun d11 e_6 => ?_)
    have z_7 := FQV.i hZ rfl e_6
    exact wV_fX12_doesPlainly_J31 N g x1 x2 x3 d11 hS z_7
  · exact wV_fX12_doesPlainly_J31 N g x1 x2 x3 d hS hZ
theorem wV_fX12_doesPlainly {d0 : Ds} (N : Nat) (g : Gs) (x1 : Int32) (x2 : Int32) (x3 : Int32) (d : Ds) (hS : Shp g) (hZ : FQV d0 d) : pc (fX12_doesPlainly N g 328 x1 x2 x3 d) (fun _ d1 => FQV d0 d1) := by
  unfold fX12_doesPlainly
  refine pc_if (fun _ => ?_) (fun _ => ?_)
  · exact wV_fX12_doesPlainly_J12 N g x1 x2 x3 d hS hZ
  · refine pc_gd (fun c_1 => ?_)
    refine pc_cv (wV_fX12_begin N g x1 x2 x3 d hS hZ) (fun d13 z_2 => ?_)
    exact wV_fX12_doesPlainly_J12 N g x1 x2 x3 d13 hS z_2
theorem wV_fX12_worksAlone {d0 : Ds} (N : Nat) (g : Gs) (x1 : Int32) (x2 : Int32) (d : Ds) (hS : Shp g) (hZ : FQV d0 d) : pc (fX12_worksAlone N g 328 x1 x2 d) (fun _ d1 => FQV d0 d1) := by
  unfold fX12_worksAlone
  refine pc_gd (fun c_1 => ?_)
  refine pc_cb (wV_fX12_layerOf N g x1 d hS hZ) (fun u4 d2 z_2 => ?_)
  refine pc_bd (fun u5 e_3 => ?_)
  refine pc_ob (fun r6 e_4 => ?_)
  have t_5 := gq hS (e := 336) (by decide +kernel) e_4
  subst t_5
  refine pc_gd (fun c_6 => ?_)
  refine pc_gd (fun c_7 => ?_)
  refine pc_bd (fun u9 e_8 => ?_)
  refine pc_gd (fun c_9 => ?_)
  refine pc_bd (fun u11 e_10 => ?_)
  refine pc_gd (fun c_11 => ?_)
  refine pc_bd (fun u13 e_12 => ?_)
  refine pc_if (fun _ => ?_) (fun _ => ?_)
  · exact wV_fX12_worksAlone_J58 N g x1 x2 u9 u11 u13 d2 hS z_2
  · refine pc_if (fun _ => ?_) (fun _ => ?_)
    · exact wV_fX12_worksAlone_J58 N g x1 x2 u9 u11 u13 d2 hS z_2
    · refine pc_if (fun _ => ?_) (fun _ => ?_)
      · refine pc_cb (wV_fX12_onceOrTwice N g x1 x2 d2 hS z_2) (fun u40 d38 z_13 => ?_)
        refine pc_if (fun _ => ?_) (fun _ => ?_)
        · refine pc_cv (wV_fX12_drops N g 0 d38 hS z_13) (fun d42 z_14 => ?_)
          refine pc_if (fun _ => ?_) (fun _ => ?_)
          · refine pc_cv (wV_fX12_dropsTwo N g x1 d42 hS z_14) (fun d49 z_15 => ?_)
            exact wV_fX12_worksAlone_J154 N g x1 x2 u11 u13 u40 d49 hS z_15
          · exact wV_fX12_worksAlone_J154 N g x1 x2 u11 u13 u40 d42 hS z_14
        · exact pc_some z_13
      · refine pc_cv (wV_fX12_drops N g 0 d2 hS z_2) (fun d34 z_16 => ?_)
        refine pc_cv (wV_fX12_doesPlainly N g x1 u9 u11 d34 hS z_16) (fun d36 z_17 => ?_)
        exact wV_fX12_worksAlone_J190 N g x1 x2 d36 hS z_17
theorem wV_fX12_works_J179 {d0 : Ds} (N : Nat) (g : Gs) (y1 : Int32) (y2 : Int32) (d : Ds) (hS : Shp g) (hZ : FQV d0 d) : pc (fX12_works_J179 N g 328 y1 y2 d) (fun _ d1 => FQV d0 d1) := by
  unfold fX12_works_J179
  refine pc_gd (fun c_1 => ?_)
  refine pc_cb (wV_fX12_worksAlone N g y1 y2 d hS hZ) (fun u19 d17 z_2 => ?_)
  refine pc_gd (fun c_3 => ?_)
  exact pc_some z_2
theorem wV_fX12_chords {d0 : Ds} (N : Nat) (g : Gs) (x1 : Int32) (x2 : Int32) (x3 : Int32) (d : Ds) (hS : Shp g) (hZ : FQV d0 d) : pc (fX12_chords N g 328 x1 x2 x3 d) (fun _ d1 => FQV d0 d1) := by
  unfold fX12_chords
  refine pc_gd (fun c_1 => ?_)
  refine pc_ob (fun r2 e_2 => ?_)
  have t_3 := gq hS (e := 336) (by decide +kernel) e_2
  subst t_3
  refine pc_gd (fun c_4 => ?_)
  refine pc_gd (fun c_5 => ?_)
  refine pc_bd (fun u5 e_6 => ?_)
  refine pc_gd (fun c_7 => ?_)
  refine pc_bd (fun u7 e_8 => ?_)
  refine pc_if (fun _ => ?_) (fun _ => ?_)
  · refine pc_cv (wV_fX12_plays N g u7 d hS hZ) (fun d15 z_9 => ?_)
    exact pc_some z_9
  · refine pc_cv (wV_fX12_begin N g x2 u5 u7 d hS hZ) (fun d9 z_10 => ?_)
    refine pc_cv (wV_fX12_begin N g x3 u5 u7 d9 hS z_10) (fun d11 z_11 => ?_)
    refine pc_gd (fun c_12 => ?_)
    refine pc_bd (fun d14 e_13 => ?_)
    have z_14 := FQV.i z_11 rfl e_13
    exact pc_some z_14
theorem wV_fX12_works_J115 {d0 : Ds} (N : Nat) (g : Gs) (y1 : Int32) (y2 : Int32) (y3 : Int32) (y4 : Int32) (y5 : Int32) (d : Ds) (hS : Shp g) (hZ : FQV d0 d) : pc (fX12_works_J115 N g 328 y1 y2 y3 y4 y5 d) (fun _ d1 => FQV d0 d1) := by
  unfold fX12_works_J115
  refine pc_gd (fun c_1 => ?_)
  refine pc_ob (fun r32 e_2 => ?_)
  have t_3 := gq hS (e := 336) (by decide +kernel) e_2
  subst t_3
  refine pc_gd (fun c_4 => ?_)
  refine pc_gd (fun c_5 => ?_)
  refine pc_if (fun _ => ?_) (fun _ => ?_)
  · exact wV_fX12_works_J179 N g y1 y2 d hS hZ
  · refine pc_cb (wV_fX12_isDownAt N g 1 d hS hZ) (fun u38 d36 z_6 => ?_)
    refine pc_if (fun _ => ?_) (fun _ => ?_)
    · exact wV_fX12_works_J179 N g y1 y2 d36 hS z_6
    · refine pc_cb (wV_fX12_keyAt N g 1 d36 hS z_6) (fun u42 d40 z_7 => ?_)
      refine pc_if (fun _ => ?_) (fun _ => ?_)
      · refine pc_cb (wV_fX12_timeAt N g 1 d40 hS z_7) (fun u46 d44 z_8 => ?_)
        refine pc_if (fun _ => ?_) (fun _ => ?_)
        · exact wV_fX12_works_J179 N g y1 y2 d44 hS z_8
        · refine pc_cv (wV_fX12_drops N g 0 d44 hS z_8) (fun d48 z_9 => ?_)
          refine pc_cv (wV_fX12_drops N g 0 d48 hS z_9) (fun d50 z_10 => ?_)
          refine pc_cv (wV_fX12_chords N g y3 y1 y4 d50 hS z_10) (fun d52 z_11 => ?_)
          refine pc_cv (wV_fX12_reports N g d52 hS z_11) (fun d54 z_12 => ?_)
          exact pc_some z_12
      · exact wV_fX12_works_J179 N g y1 y2 d40 hS z_7
theorem wV_fX12_works {d0 : Ds} (N : Nat) (g : Gs) (d : Ds) (hS : Shp g) (hZ : FQV d0 d) : pc (fX12_works N g 328 d) (fun _ d1 => FQV d0 d1) := by
  unfold fX12_works
  refine pc_gd (fun c_1 => ?_)
  refine pc_cb (wV_fX12_keyAt N g 0 d hS hZ) (fun u4 d2 z_2 => ?_)
  refine pc_cb (wV_fX12_isDownAt N g 0 d2 hS z_2) (fun u7 d5 z_3 => ?_)
  refine pc_if (fun _ => ?_) (fun _ => ?_)
  · refine pc_cv (wV_fX12_drops N g 0 d5 hS z_3) (fun d58 z_4 => ?_)
    refine pc_cv (wV_fX12_ends N g u4 d58 hS z_4) (fun d60 z_5 => ?_)
    refine pc_cv (wV_fX12_reports N g d60 hS z_5) (fun d62 z_6 => ?_)
    exact pc_some z_6
  · refine pc_cb (wV_fX12_timeAt N g 0 d5 hS z_3) (fun u11 d9 z_7 => ?_)
    refine pc_cb (wV_fX12_chordOf N g u4 d9 hS z_7) (fun u14 d12 z_8 => ?_)
    refine pc_if (fun _ => ?_) (fun _ => ?_)
    · exact wV_fX12_works_J179 N g u4 u11 d12 hS z_8
    · refine pc_ob (fun r21 e_9 => ?_)
      have t_10 := gq hS (e := 336) (by decide +kernel) e_9
      subst t_10
      refine pc_gd (fun c_11 => ?_)
      refine pc_gd (fun c_12 => ?_)
      refine pc_gd (fun c_13 => ?_)
      refine pc_bd (fun u25 e_14 => ?_)
      refine pc_bd (fun u26 e_15 => ?_)
      refine pc_gd (fun c_16 => ?_)
      refine pc_bd (fun u28 e_17 => ?_)
      refine pc_gd (fun c_18 => ?_)
      refine pc_if (fun _ => ?_) (fun _ => ?_)
      · refine pc_gd (fun c_19 => ?_)
        refine pc_if (fun _ => ?_) (fun _ => ?_)
        · exact wV_fX12_works_J115 N g u4 u11 u14 u26 u28 d12 hS z_8
        · exact pc_some z_8
      · exact wV_fX12_works_J115 N g u4 u11 u14 u26 u28 d12 hS z_8
