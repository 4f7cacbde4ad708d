/-! what the calls of family M leave alone -/
def fp_M (r : Nat) : Bool := r == 328 || r == 336 || r == 338 || r == 340 || r == 341
def FQM (d d' : Ds) : Prop := (∀ r j, fp_M r = false → dI d' r j = dI d r j) ∧ ∀ r j, fp_M r = false → dF d' r j = dF d r j
theorem FQM.rf {d : Ds} : FQM d d := ⟨fun _ _ _ => rfl, fun _ _ _ => rfl⟩
theorem FQM.i {d0 d d1 : Ds} {r j : Nat} {v : Int32} (h : FQM d0 d) (hr : fp_M r = true) (e : d1 = sI d r j v) : FQM d0 d1 := by
  subst e
  refine ⟨fun r' i q => ?_, h.2⟩
  rw [sI_rd, if_neg (fun z => by rw [z.1, hr] at q; exact absurd q (by decide))]
  exact h.1 r' i q
theorem FQM.f {d0 d d1 : Ds} {r j : Nat} {v : UInt32} (h : FQM d0 d) (hr : fp_M r = true) (e : d1 = sF d r j v) : FQM d0 d1 := by
  subst e
  refine ⟨h.1, fun r' i q => ?_⟩
  rw [sF_rd, if_neg (fun z => by rw [z.1, hr] at q; exact absurd q (by decide))]
  exact h.2 r' i q
theorem FQM.ci {d0 d d1 : Ds} {a r sp dp n : Nat} (h : FQM d0 d) (hr : fp_M r = true) (e : d1 = cI d a r sp dp n) : FQM d0 d1 := by
  subst e
  refine ⟨fun r' i q => ?_, h.2⟩
  rw [cI_rd, if_neg (fun z => by rw [z.1, hr] at q; exact absurd q (by decide))]
  exact h.1 r' i q
theorem FQM.cf {d0 d d1 : Ds} {a r sp dp n : Nat} (h : FQM d0 d) (hr : fp_M r = true) (e : d1 = cF d a r sp dp n) : FQM d0 d1 := by
  subst e
  refine ⟨h.1, fun r' i q => ?_⟩
  rw [cF_rd, if_neg (fun z => by rw [z.1, hr] at q; exact absurd q (by decide))]
  exact h.2 r' i q
theorem FQM.l {d0 d d1 : Ds} {r j : Nat} {v : Int64} (h : FQM d0 d) (e : d1 = sL d r j v) : FQM d0 d1 := by
  subst e
  exact h
theorem FQM.w {d0 d d1 : Ds} {r j : Nat} {v : Option Nat} (h : FQM d0 d) (e : d1 = sW d r j v) : FQM d0 d1 := by
  subst e
  exact h
theorem wM_fX12_keysMany {d0 : Ds} (N : Nat) (g : Gs) (d : Ds) (hS : Shp g) (hZ : FQM d0 d) : pc (fX12_keysMany N g 328 d) (fun _ d1 => FQM d0 d1) := by
  unfold fX12_keysMany
  refine pc_gd (fun c_1 => ?_)
  refine pc_ob (fun r2 e_2 => ?_)
  have t_3 := gq hS (e := 336) (by decide +kernel) e_2
  subst t_3
  refine pc_gd (fun c_4 => ?_)
  refine pc_gd (fun c_5 => ?_)
  refine pc_gd (fun c_6 => ?_)
  exact pc_some hZ
theorem wM_fX12_has_J14 {d0 : Ds} (N : Nat) (g : Gs) (x0 : Int32) (x1 : Int32) (z0 : Int32) (d : Ds) (hS : Shp g) (hZ : FQM d0 d) : pc (fX12_has_J14 N g x0 x1 z0 d) (fun _ d1 => FQM d0 d1) := by
  unfold fX12_has_J14
  refine pc_gd (fun c_1 => ?_)
  exact pc_some hZ
theorem wM_fX12_has {d0 : Ds} (N : Nat) (g : Gs) (x0 : Int32) (x1 : Int32) (d : Ds) (hS : Shp g) (hZ : FQM d0 d) : pc (fX12_has N g x0 x1 d) (fun _ d1 => FQM d0 d1) := by
  unfold fX12_has
  refine pc_if (fun _ => ?_) (fun _ => ?_)
  · exact wM_fX12_has_J14 N g x0 x1 1 d hS hZ
  · exact wM_fX12_has_J14 N g x0 x1 0 d hS hZ
theorem wM_fX12_laysParts_J148 {d0 : Ds} (N : Nat) (g : Gs) (x1 : Int32) (K39 : Int32 × Int32 × Int32 × Ds → Option (Int32 × Ds)) (y2 : Int32) (y3 : Int32) (y4 : Int32) (d : Ds) (hS : Shp g) (hZ : FQM d0 d) (hK39 : ∀ a, FQM d0 a.2.2.2 → pc (K39 a) (fun _ d1 => FQM d0 d1)) : pc (fX12_laysParts_J148 N g 328 x1 K39 y2 y3 y4 d) (fun _ d1 => FQM d0 d1) := by
  unfold fX12_laysParts_J148
  refine pc_bd (fun u32 e_1 => ?_)
  exact hK39 _ hZ
theorem wM_fX12_laysParts_J142 {d0 : Ds} (N : Nat) (g : Gs) (x1 : Int32) (K39 : Int32 × Int32 × Int32 × Ds → Option (Int32 × Ds)) (K115 : Int32 × Int32 × Int32 × Int32 × Int32 × Int32 × Ds → Option (Int32 × Ds)) (y2 : Int32) (y3 : Int32) (y4 : Int32) (y5 : Int32) (y6 : Int32) (y7 : Int32) (d : Ds) (hS : Shp g) (hZ : FQM d0 d) (hK39 : ∀ a, FQM d0 a.2.2.2 → pc (K39 a) (fun _ d1 => FQM d0 d1)) (hK115 : ∀ a, FQM d0 a.2.2.2.2.2.2 → pc (K115 a) (fun _ d1 => FQM d0 d1)) : pc (fX12_laysParts_J142 N g 328 x1 K39 K115 y2 y3 y4 y5 y6 y7 d) (fun _ d1 => FQM d0 d1) := by
  unfold fX12_laysParts_J142
  refine pc_bd (fun u38 e_1 => ?_)
  exact hK115 _ hZ
theorem wM_fX12_laysParts_B115 {d0 : Ds} (N : Nat) (g : Gs) (x1 : Int32) (K39 : Int32 × Int32 × Int32 × Ds → Option (Int32 × Ds)) (K115 : Int32 × Int32 × Int32 × Int32 × Int32 × Int32 × Ds → Option (Int32 × Ds)) (y2 : Int32) (y3 : Int32) (y4 : Int32) (y5 : Int32) (y6 : Int32) (y7 : Int32) (d : Ds) (hS : Shp g) (hZ : FQM d0 d) (hK39 : ∀ a, FQM d0 a.2.2.2 → pc (K39 a) (fun _ d1 => FQM d0 d1)) (hK115 : ∀ a, FQM d0 a.2.2.2.2.2.2 → pc (K115 a) (fun _ d1 => FQM d0 d1)) : pc (fX12_laysParts_B115 N g 328 x1 K39 K115 y2 y3 y4 y5 y6 y7 d) (fun _ d1 => FQM d0 d1) := by
  unfold fX12_laysParts_B115
  refine pc_if (fun _ => ?_) (fun _ => ?_)
  · exact wM_fX12_laysParts_J148 N g x1 K39 y2 y3 y4 d hS hZ hK39
  · refine pc_gd (fun c_1 => ?_)
    refine pc_ob (fun r34 e_2 => ?_)
    have t_3 := gq hS (e := 340) (by decide +kernel) e_2
    subst t_3
    refine pc_gd (fun c_4 => ?_)
    refine pc_gd (fun c_5 => ?_)
    refine pc_if (fun _ => ?_) (fun _ => ?_)
    · refine pc_bd (fun d39 e_6 => ?_)
      have z_7 := FQM.i hZ rfl e_6
      exact wM_fX12_laysParts_J142 N g x1 K39 K115 y2 y3 y4 y5 y6 y7 d39 hS z_7 hK39 hK115
    · exact wM_fX12_laysParts_J142 N g x1 K39 K115 y2 y3 y4 y5 y6 y7 d hS hZ hK39 hK115
theorem wM_fX12_laysParts_L115 {d0 : Ds} (N : Nat) (g : Gs) (x1 : Int32) (K39 : Int32 × Int32 × Int32 × Ds → Option (Int32 × Ds)) (hS : Shp g) (a0 : Int32) (a1 : Int32) (a2 : Int32) (a3 : Int32) (a4 : Int32) (a5 : Int32) (a6 : Ds) (hZ : FQM d0 a6) (hK39 : ∀ a, FQM d0 a.2.2.2 → pc (K39 a) (fun _ d1 => FQM d0 d1)) : pc (fX12_laysParts_L115 N g 328 x1 K39 (a0, a1, a2, a3, a4, a5, a6)) (fun _ d1 => FQM d0 d1) := by
  unfold fX12_laysParts_L115
  refine pc_lp (fun a => FQM d0 a.2.2.2.2.2.2) ?_ N (a0, a1, a2, a3, a4, a5, a6) hZ
  rintro K ⟨a0, a1, a2, a3, a4, a5, a6⟩ hZ hK
  exact wM_fX12_laysParts_B115 N g x1 K39 K a0 a1 a2 a3 a4 a5 a6 hS hZ hK39 hK
theorem wM_fX12_laysParts_B39 {d0 : Ds} (N : Nat) (g : Gs) (x1 : Int32) (K39 : Int32 × Int32 × Int32 × Ds → Option (Int32 × Ds)) (y2 : Int32) (y3 : Int32) (y4 : Int32) (d : Ds) (hS : Shp g) (hZ : FQM d0 d) (hK39 : ∀ a, FQM d0 a.2.2.2 → pc (K39 a) (fun _ d1 => FQM d0 d1)) : pc (fX12_laysParts_B39 N g 328 x1 K39 y2 y3 y4 d) (fun _ d1 => FQM d0 d1) := by
  unfold fX12_laysParts_B39
  refine pc_gd (fun c_1 => ?_)
  refine pc_cb (wM_fX12_keysMany N g d hS hZ) (fun u11 d9 z_2 => ?_)
  refine pc_if (fun _ => ?_) (fun _ => ?_)
  · exact pc_some z_2
  · refine pc_cb (wM_fX12_has N g x1 y4 d9 hS z_2) (fun u15 d13 z_3 => ?_)
    refine pc_if (fun _ => ?_) (fun _ => ?_)
    · exact wM_fX12_laysParts_J148 N g x1 K39 y2 y3 y4 d13 hS z_3 hK39
    · refine pc_ob (fun r17 e_4 => ?_)
      have t_5 := gq hS (e := 340) (by decide +kernel) e_4
      subst t_5
      refine pc_ob (fun r18 e_6 => ?_)
      have t_7 := gq hS (e := 336) (by decide +kernel) e_6
      subst t_7
      refine pc_gd (fun c_8 => ?_)
      refine pc_gd (fun c_9 => ?_)
      refine pc_gd (fun c_10 => ?_)
      refine pc_gd (fun c_11 => ?_)
      refine pc_gd (fun c_12 => ?_)
      refine pc_bd (fun u24 e_13 => ?_)
      refine pc_gd (fun c_14 => ?_)
      refine pc_bd (fun u26 e_15 => ?_)
      refine pc_gd (fun c_16 => ?_)
      refine pc_bd (fun u28 e_17 => ?_)
      refine pc_if (fun _ => ?_) (fun _ => ?_)
      · exact wM_fX12_laysParts_J148 N g x1 K39 y2 y3 y4 d13 hS z_3 hK39
      · refine pc_bd (fun u30 e_18 => ?_)
        exact wM_fX12_laysParts_L115 N g x1 K39 hS y2 u30 y4 u24 u28 0 d13 z_3 hK39
theorem wM_fX12_laysParts_L39 {d0 : Ds} (N : Nat) (g : Gs) (x1 : Int32) (hS : Shp g) (a0 : Int32) (a1 : Int32) (a2 : Int32) (a3 : Ds) (hZ : FQM d0 a3) : pc (fX12_laysParts_L39 N g 328 x1 (a0, a1, a2, a3)) (fun _ d1 => FQM d0 d1) := by
  unfold fX12_laysParts_L39
  refine pc_lp (fun a => FQM d0 a.2.2.2) ?_ N (a0, a1, a2, a3) hZ
  rintro K ⟨a0, a1, a2, a3⟩ hZ hK
  exact wM_fX12_laysParts_B39 N g x1 K a0 a1 a2 a3 hS hZ hK
theorem wM_fX12_laysParts_B16 {d0 : Ds} (N : Nat) (g : Gs) (x1 : Int32) (K16 : Int32 × Int32 × Ds → Option (Int32 × Ds)) (y2 : Int32) (y3 : Int32) (d : Ds) (hS : Shp g) (hZ : FQM d0 d) (hK16 : ∀ a, FQM d0 a.2.2 → pc (K16 a) (fun _ d1 => FQM d0 d1)) : pc (fX12_laysParts_B16 N g 328 x1 K16 y2 y3 d) (fun _ d1 => FQM d0 d1) := by
  unfold fX12_laysParts_B16
  refine pc_if (fun _ => ?_) (fun _ => ?_)
  · exact wM_fX12_laysParts_L39 N g x1 hS y2 y2 0 d hZ
  · refine pc_gd (fun c_1 => ?_)
    refine pc_ob (fun r41 e_2 => ?_)
    have t_3 := gq hS (e := 340) (by decide +kernel) e_2
    subst t_3
    refine pc_gd (fun c_4 => ?_)
    refine pc_gd (fun c_5 => ?_)
    refine pc_bd (fun d44 e_6 => ?_)
    have z_7 := FQM.i hZ rfl e_6
    refine pc_bd (fun u45 e_8 => ?_)
    exact hK16 _ z_7
theorem wM_fX12_laysParts_L16 {d0 : Ds} (N : Nat) (g : Gs) (x1 : Int32) (hS : Shp g) (a0 : Int32) (a1 : Int32) (a2 : Ds) (hZ : FQM d0 a2) : pc (fX12_laysParts_L16 N g 328 x1 (a0, a1, a2)) (fun _ d1 => FQM d0 d1) := by
  unfold fX12_laysParts_L16
  refine pc_lp (fun a => FQM d0 a.2.2) ?_ N (a0, a1, a2) hZ
  rintro K ⟨a0, a1, a2⟩ hZ hK
  exact wM_fX12_laysParts_B16 N g x1 K a0 a1 a2 hS hZ hK
theorem wM_fX12_laysParts {d0 : Ds} (N : Nat) (g : Gs) (x1 : Int32) (d : Ds) (hS : Shp g) (hZ : FQM d0 d) : pc (fX12_laysParts N g 328 x1 d) (fun _ d1 => FQM d0 d1) := by
  unfold fX12_laysParts
  refine pc_gd (fun c_1 => ?_)
  refine pc_ob (fun r2 e_2 => ?_)
  have t_3 := gq hS (e := 336) (by decide +kernel) e_2
  subst t_3
  refine pc_gd (fun c_4 => ?_)
  refine pc_gd (fun c_5 => ?_)
  refine pc_gd (fun c_6 => ?_)
  refine pc_bd (fun u6 e_7 => ?_)
  exact wM_fX12_laysParts_L16 N g x1 hS u6 0 d hZ
theorem wM_fX12_seenBy_J77 {d0 : Ds} (N : Nat) (g : Gs) (x1 : Int32) (K23 : Int32 × Int32 × Ds → Option (Int32 × Ds)) (y3 : Int32) (y4 : Int32) (d : Ds) (hS : Shp g) (hZ : FQM d0 d) (hK23 : ∀ a, FQM d0 a.2.2 → pc (K23 a) (fun _ d1 => FQM d0 d1)) : pc (fX12_seenBy_J77 N g 328 x1 K23 y3 y4 d) (fun _ d1 => FQM d0 d1) := by
  unfold fX12_seenBy_J77
  refine pc_bd (fun u25 e_1 => ?_)
  exact hK23 _ hZ
theorem wM_fX12_seenBy_B23 {d0 : Ds} (N : Nat) (g : Gs) (x1 : Int32) (K23 : Int32 × Int32 × Ds → Option (Int32 × Ds)) (y3 : Int32) (y4 : Int32) (d : Ds) (hS : Shp g) (hZ : FQM d0 d) (hK23 : ∀ a, FQM d0 a.2.2 → pc (K23 a) (fun _ d1 => FQM d0 d1)) : pc (fX12_seenBy_B23 N g 328 x1 K23 y3 y4 d) (fun _ d1 => FQM d0 d1) := by
  unfold fX12_seenBy_B23
  refine pc_gd (fun c_1 => ?_)
  refine pc_cb (wM_fX12_keysMany N g d hS hZ) (fun u12 d10 z_2 => ?_)
  refine pc_if (fun _ => ?_) (fun _ => ?_)
  · exact pc_some z_2
  · refine pc_ob (fun r14 e_3 => ?_)
    have t_4 := gq hS (e := 340) (by decide +kernel) e_3
    subst t_4
    refine pc_ob (fun r15 e_5 => ?_)
    have t_6 := gq hS (e := 336) (by decide +kernel) e_5
    subst t_6
    refine pc_gd (fun c_7 => ?_)
    refine pc_gd (fun c_8 => ?_)
    refine pc_gd (fun c_9 => ?_)
    refine pc_gd (fun c_10 => ?_)
    refine pc_gd (fun c_11 => ?_)
    refine pc_gd (fun c_12 => ?_)
    refine pc_bd (fun u22 e_13 => ?_)
    refine pc_gd (fun c_14 => ?_)
    refine pc_if (fun _ => ?_) (fun _ => ?_)
    · refine pc_bd (fun u26 e_15 => ?_)
      exact wM_fX12_seenBy_J77 N g x1 K23 u26 y4 d10 hS z_2 hK23
    · exact wM_fX12_seenBy_J77 N g x1 K23 y3 y4 d10 hS z_2 hK23
theorem wM_fX12_seenBy_L23 {d0 : Ds} (N : Nat) (g : Gs) (x1 : Int32) (hS : Shp g) (a0 : Int32) (a1 : Int32) (a2 : Ds) (hZ : FQM d0 a2) : pc (fX12_seenBy_L23 N g 328 x1 (a0, a1, a2)) (fun _ d1 => FQM d0 d1) := by
  unfold fX12_seenBy_L23
  refine pc_lp (fun a => FQM d0 a.2.2) ?_ N (a0, a1, a2) hZ
  rintro K ⟨a0, a1, a2⟩ hZ hK
  exact wM_fX12_seenBy_B23 N g x1 K a0 a1 a2 hS hZ hK
theorem wM_fX12_seenBy {d0 : Ds} (N : Nat) (g : Gs) (x1 : Int32) (d : Ds) (hS : Shp g) (hZ : FQM d0 d) : pc (fX12_seenBy N g 328 x1 d) (fun _ d1 => FQM d0 d1) := by
  unfold fX12_seenBy
  refine pc_gd (fun c_1 => ?_)
  refine pc_ob (fun r2 e_2 => ?_)
  have t_3 := gq hS (e := 336) (by decide +kernel) e_2
  subst t_3
  refine pc_gd (fun c_4 => ?_)
  refine pc_gd (fun c_5 => ?_)
  refine pc_if (fun _ => ?_) (fun _ => ?_)
  · exact pc_some hZ
  · refine pc_cb (wM_fX12_laysParts N g x1 d hS hZ) (fun u8 d6 z_6 => ?_)
    exact wM_fX12_seenBy_L23 N g x1 hS 0 0 d6 z_6
theorem wM_fX12_isCornered_J105 {d0 : Ds} (N : Nat) (g : Gs) (x1 : Int32) (x2 : Int32) (x3 : Int32) (K11 : Int32 × Int32 × Ds → Option (Int32 × Ds)) (K25 : Int32 × Int32 × Int32 × Ds → Option (Int32 × Ds)) (y4 : Int32) (y5 : Int32) (y6 : Int32) (d : Ds) (hS : Shp g) (hZ : FQM d0 d) (hK11 : ∀ a, FQM d0 a.2.2 → pc (K11 a) (fun _ d1 => FQM d0 d1)) (hK25 : ∀ a, FQM d0 a.2.2.2 → pc (K25 a) (fun _ d1 => FQM d0 d1)) : pc (fX12_isCornered_J105 N g 328 x1 x2 x3 K11 K25 y4 y5 y6 d) (fun _ d1 => FQM d0 d1) := by
  unfold fX12_isCornered_J105
  refine pc_bd (fun u14 e_1 => ?_)
  exact hK25 _ hZ
theorem wM_fX12_isCornered_B25 {d0 : Ds} (N : Nat) (g : Gs) (x1 : Int32) (x2 : Int32) (x3 : Int32) (K11 : Int32 × Int32 × Ds → Option (Int32 × Ds)) (K25 : Int32 × Int32 × Int32 × Ds → Option (Int32 × Ds)) (y4 : Int32) (y5 : Int32) (y6 : Int32) (d : Ds) (hS : Shp g) (hZ : FQM d0 d) (hK11 : ∀ a, FQM d0 a.2.2 → pc (K11 a) (fun _ d1 => FQM d0 d1)) (hK25 : ∀ a, FQM d0 a.2.2.2 → pc (K25 a) (fun _ d1 => FQM d0 d1)) : pc (fX12_isCornered_B25 N g 328 x1 x2 x3 K11 K25 y4 y5 y6 d) (fun _ d1 => FQM d0 d1) := by
  unfold fX12_isCornered_B25
  refine pc_if (fun _ => ?_) (fun _ => ?_)
  · refine pc_bd (fun u12 e_1 => ?_)
    exact hK11 _ hZ
  · refine pc_if (fun _ => ?_) (fun _ => ?_)
    · exact wM_fX12_isCornered_J105 N g x1 x2 x3 K11 K25 y4 y5 y6 d hS hZ hK11 hK25
    · refine pc_if (fun _ => ?_) (fun _ => ?_)
      · exact wM_fX12_isCornered_J105 N g x1 x2 x3 K11 K25 y4 y5 y6 d hS hZ hK11 hK25
      · refine pc_cb (wM_fX12_has N g x1 ((y4 * x2) + x3) d hS hZ) (fun u18 d16 z_2 => ?_)
        refine pc_if (fun _ => ?_) (fun _ => ?_)
        · exact wM_fX12_isCornered_J105 N g x1 x2 x3 K11 K25 y4 y5 y6 d16 hS z_2 hK11 hK25
        · refine pc_cb (wM_fX12_has N g x1 ((y4 * x2) + y6) d16 hS z_2) (fun u22 d20 z_3 => ?_)
          refine pc_if (fun _ => ?_) (fun _ => ?_)
          · exact wM_fX12_isCornered_J105 N g x1 x2 x3 K11 K25 y4 y5 y6 d20 hS z_3 hK11 hK25
          · refine pc_cb (wM_fX12_has N g x1 ((y4 * y5) + x3) d20 hS z_3) (fun u26 d24 z_4 => ?_)
            refine pc_if (fun _ => ?_) (fun _ => ?_)
            · exact wM_fX12_isCornered_J105 N g x1 x2 x3 K11 K25 y4 y5 y6 d24 hS z_4 hK11 hK25
            · refine pc_cb (wM_fX12_has N g x1 ((y4 * y5) + y6) d24 hS z_4) (fun u30 d28 z_5 => ?_)
              refine pc_if (fun _ => ?_) (fun _ => ?_)
              · exact wM_fX12_isCornered_J105 N g x1 x2 x3 K11 K25 y4 y5 y6 d28 hS z_5 hK11 hK25
              · exact pc_some z_5
theorem wM_fX12_isCornered_L25 {d0 : Ds} (N : Nat) (g : Gs) (x1 : Int32) (x2 : Int32) (x3 : Int32) (K11 : Int32 × Int32 × Ds → Option (Int32 × Ds)) (hS : Shp g) (a0 : Int32) (a1 : Int32) (a2 : Int32) (a3 : Ds) (hZ : FQM d0 a3) (hK11 : ∀ a, FQM d0 a.2.2 → pc (K11 a) (fun _ d1 => FQM d0 d1)) : pc (fX12_isCornered_L25 N g 328 x1 x2 x3 K11 (a0, a1, a2, a3)) (fun _ d1 => FQM d0 d1) := by
  unfold fX12_isCornered_L25
  refine pc_lp (fun a => FQM d0 a.2.2.2) ?_ N (a0, a1, a2, a3) hZ
  rintro K ⟨a0, a1, a2, a3⟩ hZ hK
  exact wM_fX12_isCornered_B25 N g x1 x2 x3 K11 K a0 a1 a2 a3 hS hZ hK11 hK
theorem wM_fX12_isCornered_B11 {d0 : Ds} (N : Nat) (g : Gs) (x1 : Int32) (x2 : Int32) (x3 : Int32) (K11 : Int32 × Int32 × Ds → Option (Int32 × Ds)) (y4 : Int32) (y5 : Int32) (d : Ds) (hS : Shp g) (hZ : FQM d0 d) (hK11 : ∀ a, FQM d0 a.2.2 → pc (K11 a) (fun _ d1 => FQM d0 d1)) : pc (fX12_isCornered_B11 N g 328 x1 x2 x3 K11 y4 y5 d) (fun _ d1 => FQM d0 d1) := by
  unfold fX12_isCornered_B11
  refine pc_gd (fun c_1 => ?_)
  refine pc_ob (fun r7 e_2 => ?_)
  have t_3 := gq hS (e := 336) (by decide +kernel) e_2
  subst t_3
  refine pc_gd (fun c_4 => ?_)
  refine pc_gd (fun c_5 => ?_)
  refine pc_if (fun _ => ?_) (fun _ => ?_)
  · exact pc_some hZ
  · exact wM_fX12_isCornered_L25 N g x1 x2 x3 K11 hS y4 y5 0 d hZ hK11
theorem wM_fX12_isCornered_L11 {d0 : Ds} (N : Nat) (g : Gs) (x1 : Int32) (x2 : Int32) (x3 : Int32) (hS : Shp g) (a0 : Int32) (a1 : Int32) (a2 : Ds) (hZ : FQM d0 a2) : pc (fX12_isCornered_L11 N g 328 x1 x2 x3 (a0, a1, a2)) (fun _ d1 => FQM d0 d1) := by
  unfold fX12_isCornered_L11
  refine pc_lp (fun a => FQM d0 a.2.2) ?_ N (a0, a1, a2) hZ
  rintro K ⟨a0, a1, a2⟩ hZ hK
  exact wM_fX12_isCornered_B11 N g x1 x2 x3 K a0 a1 a2 hS hZ hK
theorem wM_fX12_isCornered {d0 : Ds} (N : Nat) (g : Gs) (x1 : Int32) (x2 : Int32) (x3 : Int32) (d : Ds) (hS : Shp g) (hZ : FQM d0 d) : pc (fX12_isCornered N g 328 x1 x2 x3 d) (fun _ d1 => FQM d0 d1) := by
  unfold fX12_isCornered
  refine pc_gd (fun c_1 => ?_)
  refine pc_ob (fun r2 e_2 => ?_)
  have t_3 := gq hS (e := 336) (by decide +kernel) e_2
  subst t_3
  refine pc_gd (fun c_4 => ?_)
  refine pc_gd (fun c_5 => ?_)
  refine pc_bd (fun u5 e_6 => ?_)
  exact wM_fX12_isCornered_L11 N g x1 x2 x3 hS u5 0 d hZ
theorem wM_fX12_barredBy_J54 {d0 : Ds} (N : Nat) (g : Gs) (x1 : Int32) (K16 : Int32 × Int32 × Ds → Option (Int32 × Ds)) (y2 : Int32) (y3 : Int32) (d : Ds) (hS : Shp g) (hZ : FQM d0 d) (hK16 : ∀ a, FQM d0 a.2.2 → pc (K16 a) (fun _ d1 => FQM d0 d1)) : pc (fX12_barredBy_J54 N g 328 x1 K16 y2 y3 d) (fun _ d1 => FQM d0 d1) := by
  unfold fX12_barredBy_J54
  refine pc_bd (fun u19 e_1 => ?_)
  exact hK16 _ hZ
theorem wM_fX12_barredBy_B16 {d0 : Ds} (N : Nat) (g : Gs) (x1 : Int32) (K16 : Int32 × Int32 × Ds → Option (Int32 × Ds)) (y2 : Int32) (y3 : Int32) (d : Ds) (hS : Shp g) (hZ : FQM d0 d) (hK16 : ∀ a, FQM d0 a.2.2 → pc (K16 a) (fun _ d1 => FQM d0 d1)) : pc (fX12_barredBy_B16 N g 328 x1 K16 y2 y3 d) (fun _ d1 => FQM d0 d1) := by
  unfold fX12_barredBy_B16
  refine pc_gd (fun c_1 => ?_)
  refine pc_cb (wM_fX12_keysMany N g d hS hZ) (fun u9 d7 z_2 => ?_)
  refine pc_if (fun _ => ?_) (fun _ => ?_)
  · exact pc_some z_2
  · refine pc_ob (fun r11 e_3 => ?_)
    have t_4 := gq hS (e := 336) (by decide +kernel) e_3
    subst t_4
    refine pc_gd (fun c_5 => ?_)
    refine pc_gd (fun c_6 => ?_)
    refine pc_gd (fun c_7 => ?_)
    refine pc_cb (wM_fX12_isCornered N g x1 (y3 / (dI d7 336 (1 : Int32).toNatClampNeg)) (y3 - ((y3 / (dI d7 336 (1 : Int32).toNatClampNeg)) * (dI d7 336 (1 : Int32).toNatClampNeg))) d7 hS z_2) (fun u17 d15 z_8 => ?_)
    refine pc_if (fun _ => ?_) (fun _ => ?_)
    · exact wM_fX12_barredBy_J54 N g x1 K16 y2 y3 d15 hS z_8 hK16
    · refine pc_bd (fun u20 e_9 => ?_)
      exact wM_fX12_barredBy_J54 N g x1 K16 u20 y3 d15 hS z_8 hK16
theorem wM_fX12_barredBy_L16 {d0 : Ds} (N : Nat) (g : Gs) (x1 : Int32) (hS : Shp g) (a0 : Int32) (a1 : Int32) (a2 : Ds) (hZ : FQM d0 a2) : pc (fX12_barredBy_L16 N g 328 x1 (a0, a1, a2)) (fun _ d1 => FQM d0 d1) := by
  unfold fX12_barredBy_L16
  refine pc_lp (fun a => FQM d0 a.2.2) ?_ N (a0, a1, a2) hZ
  rintro K ⟨a0, a1, a2⟩ hZ hK
  exact wM_fX12_barredBy_B16 N g x1 K a0 a1 a2 hS hZ hK
theorem wM_fX12_barredBy {d0 : Ds} (N : Nat) (g : Gs) (x1 : Int32) (d : Ds) (hS : Shp g) (hZ : FQM d0 d) : pc (fX12_barredBy N g 328 x1 d) (fun _ d1 => FQM d0 d1) := by
  unfold fX12_barredBy
  refine pc_gd (fun c_1 => ?_)
  refine pc_ob (fun r2 e_2 => ?_)
  have t_3 := gq hS (e := 336) (by decide +kernel) e_2
  subst t_3
  refine pc_gd (fun c_4 => ?_)
  refine pc_gd (fun c_5 => ?_)
  refine pc_if (fun _ => ?_) (fun _ => ?_)
  · exact pc_some hZ
  · exact wM_fX12_barredBy_L16 N g x1 hS 0 0 d hZ
theorem wM_fX12_repeats_J54 {d0 : Ds} (N : Nat) (g : Gs) (d : Ds) (hS : Shp g) (hZ : FQM d0 d) : pc (fX12_repeats_J54 N g 328 d) (fun _ d1 => FQM d0 d1) := by
  unfold fX12_repeats_J54
  exact pc_some hZ
theorem wM_fX12_repeats {d0 : Ds} (N : Nat) (g : Gs) (d : Ds) (hS : Shp g) (hZ : FQM d0 d) : pc (fX12_repeats N g 328 d) (fun _ d1 => FQM d0 d1) := by
  unfold fX12_repeats
  refine pc_gd (fun c_1 => ?_)
  refine pc_ob (fun r2 e_2 => ?_)
  have t_3 := gq hS (e := 336) (by decide +kernel) e_2
  subst t_3
  refine pc_gd (fun c_4 => ?_)
  refine pc_gd (fun c_5 => ?_)
  refine pc_if (fun _ => ?_) (fun _ => ?_)
  · refine pc_gd (fun c_6 => ?_)
    refine pc_gd (fun c_7 => ?_)
    refine pc_gd (fun c_8 => ?_)
    refine pc_bd (fun u9 e_9 => ?_)
    refine pc_if (fun _ => ?_) (fun _ => ?_)
    · exact wM_fX12_repeats_J54 N g d hS hZ
    · refine pc_gd (fun c_10 => ?_)
      refine pc_gd (fun c_11 => ?_)
      refine pc_if (fun _ => ?_) (fun _ => ?_)
      · refine pc_gd (fun c_12 => ?_)
        refine pc_bd (fun d15 e_13 => ?_)
        have z_14 := FQM.i hZ rfl e_13
        refine pc_gd (fun c_15 => ?_)
        refine pc_bd (fun d17 e_16 => ?_)
        have z_17 := FQM.i z_14 rfl e_16
        exact pc_some z_17
      · exact wM_fX12_repeats_J54 N g d hS hZ
  · exact pc_some hZ
theorem wM_fX12_ticks_J217 {d0 : Ds} (N : Nat) (g : Gs) (K165 : Int32 × Int32 × Ds → Option (Unit × Ds)) (y1 : Int32) (y4 : Int32) (d : Ds) (hS : Shp g) (hZ : FQM d0 d) (hK165 : ∀ a, FQM d0 a.2.2 → pc (K165 a) (fun _ d1 => FQM d0 d1)) : pc (fX12_ticks_J217 N g 328 K165 y1 y4 d) (fun _ d1 => FQM d0 d1) := by
  unfold fX12_ticks_J217
  refine pc_bd (fun u36 e_1 => ?_)
  exact hK165 _ hZ
theorem wM_fX12_ticks_B165 {d0 : Ds} (N : Nat) (g : Gs) (K165 : Int32 × Int32 × Ds → Option (Unit × Ds)) (y1 : Int32) (y4 : Int32) (d : Ds) (hS : Shp g) (hZ : FQM d0 d) (hK165 : ∀ a, FQM d0 a.2.2 → pc (K165 a) (fun _ d1 => FQM d0 d1)) : pc (fX12_ticks_B165 N g 328 K165 y1 y4 d) (fun _ d1 => FQM d0 d1) := by
  unfold fX12_ticks_B165
  refine pc_gd (fun c_1 => ?_)
  refine pc_cb (wM_fX12_keysMany N g d hS hZ) (fun u22 d20 z_2 => ?_)
  refine pc_if (fun _ => ?_) (fun _ => ?_)
  · refine pc_cv (wM_fX12_repeats N g d20 hS z_2) (fun d24 z_3 => ?_)
    exact pc_some z_3
  · refine pc_ob (fun r26 e_4 => ?_)
    have t_5 := gq hS (e := 338) (by decide +kernel) e_4
    subst t_5
    refine pc_gd (fun c_6 => ?_)
    refine pc_gd (fun c_7 => ?_)
    refine pc_gd (fun c_8 => ?_)
    refine pc_bd (fun u30 e_9 => ?_)
    refine pc_bd (fun d31 e_10 => ?_)
    have z_11 := FQM.f z_2 rfl e_10
    refine pc_cb (wM_fX12_has N g y1 y4 d31 hS z_11) (fun u34 d32 z_12 => ?_)
    refine pc_if (fun _ => ?_) (fun _ => ?_)
    · exact wM_fX12_ticks_J217 N g K165 y1 y4 d32 hS z_12 hK165
    · refine pc_gd (fun c_13 => ?_)
      refine pc_bd (fun u38 e_14 => ?_)
      refine pc_bd (fun d39 e_15 => ?_)
      have z_16 := FQM.f z_12 rfl e_15
      exact wM_fX12_ticks_J217 N g K165 y1 y4 d39 hS z_16 hK165
theorem wM_fX12_ticks_L165 {d0 : Ds} (N : Nat) (g : Gs) (hS : Shp g) (a0 : Int32) (a1 : Int32) (a2 : Ds) (hZ : FQM d0 a2) : pc (fX12_ticks_L165 N g 328 (a0, a1, a2)) (fun _ d1 => FQM d0 d1) := by
  unfold fX12_ticks_L165
  refine pc_lp (fun a => FQM d0 a.2.2) ?_ N (a0, a1, a2) hZ
  rintro K ⟨a0, a1, a2⟩ hZ hK
  exact wM_fX12_ticks_B165 N g K a0 a1 a2 hS hZ hK
theorem wM_fX12_ticks_J162 {d0 : Ds} (N : Nat) (g : Gs) (y1 : Int32) (d : Ds) (hS : Shp g) (hZ : FQM d0 d) : pc (fX12_ticks_J162 N g 328 y1 d) (fun _ d1 => FQM d0 d1) := by
  unfold fX12_ticks_J162
  exact wM_fX12_ticks_L165 N g hS y1 0 d hZ
theorem wM_fX12_keyAt {d0 : Ds} (N : Nat) (g : Gs) (x1 : Int32) (d : Ds) (hS : Shp g) (hZ : FQM d0 d) : pc (fX12_keyAt N g 328 x1 d) (fun _ d1 => FQM d0 d1) := by
  unfold fX12_keyAt
  refine pc_gd (fun c_1 => ?_)
  refine pc_ob (fun r2 e_2 => ?_)
  have t_3 := gq hS (e := 336) (by decide +kernel) e_2
  subst t_3
  refine pc_gd (fun c_4 => ?_)
  refine pc_gd (fun c_5 => ?_)
  exact pc_some hZ
theorem wM_fX12_isDownAt_J23 {d0 : Ds} (N : Nat) (g : Gs) (x1 : Int32) (z0 : Int32) (d : Ds) (hS : Shp g) (hZ : FQM d0 d) : pc (fX12_isDownAt_J23 N g 328 x1 z0 d) (fun _ d1 => FQM d0 d1) := by
  unfold fX12_isDownAt_J23
  refine pc_gd (fun c_1 => ?_)
  exact pc_some hZ
theorem wM_fX12_isDownAt {d0 : Ds} (N : Nat) (g : Gs) (x1 : Int32) (d : Ds) (hS : Shp g) (hZ : FQM d0 d) : pc (fX12_isDownAt N g 328 x1 d) (fun _ d1 => FQM d0 d1) := by
  unfold fX12_isDownAt
  refine pc_gd (fun c_1 => ?_)
  refine pc_ob (fun r2 e_2 => ?_)
  have t_3 := gq hS (e := 336) (by decide +kernel) e_2
  subst t_3
  refine pc_gd (fun c_4 => ?_)
  refine pc_gd (fun c_5 => ?_)
  refine pc_if (fun _ => ?_) (fun _ => ?_)
  · exact wM_fX12_isDownAt_J23 N g x1 1 d hS hZ
  · exact wM_fX12_isDownAt_J23 N g x1 0 d hS hZ
theorem wM_fX12_drops_B8 {d0 : Ds} (N : Nat) (g : Gs) (x1 : Int32) (K8 : Int32 × Ds → Option (Unit × Ds)) (y2 : Int32) (d : Ds) (hS : Shp g) (hZ : FQM d0 d) (hK8 : ∀ a, FQM d0 a.2 → pc (K8 a) (fun _ d1 => FQM d0 d1)) : pc (fX12_drops_B8 N g 328 x1 K8 y2 d) (fun _ d1 => FQM d0 d1) := by
  unfold fX12_drops_B8
  refine pc_gd (fun c_1 => ?_)
  refine pc_ob (fun r3 e_2 => ?_)
  have t_3 := gq hS (e := 336) (by decide +kernel) e_2
  subst t_3
  refine pc_gd (fun c_4 => ?_)
  refine pc_gd (fun c_5 => ?_)
  refine pc_if (fun _ => ?_) (fun _ => ?_)
  · refine pc_bd (fun d7 e_6 => ?_)
    have z_7 := FQM.i hZ rfl e_6
    exact pc_some z_7
  · refine pc_gd (fun c_8 => ?_)
    refine pc_gd (fun c_9 => ?_)
    refine pc_bd (fun d10 e_10 => ?_)
    have z_11 := FQM.i hZ rfl e_10
    refine pc_bd (fun u11 e_12 => ?_)
    exact hK8 _ z_11
theorem wM_fX12_drops_L8 {d0 : Ds} (N : Nat) (g : Gs) (x1 : Int32) (hS : Shp g) (a0 : Int32) (a1 : Ds) (hZ : FQM d0 a1) : pc (fX12_drops_L8 N g 328 x1 (a0, a1)) (fun _ d1 => FQM d0 d1) := by
  unfold fX12_drops_L8
  refine pc_lp (fun a => FQM d0 a.2) ?_ N (a0, a1) hZ
  rintro K ⟨a0, a1⟩ hZ hK
  exact wM_fX12_drops_B8 N g x1 K a0 a1 hS hZ hK
theorem wM_fX12_drops {d0 : Ds} (N : Nat) (g : Gs) (x1 : Int32) (d : Ds) (hS : Shp g) (hZ : FQM d0 d) : pc (fX12_drops N g 328 x1 d) (fun _ d1 => FQM d0 d1) := by
  unfold fX12_drops
  refine pc_bd (fun u1 e_1 => ?_)
  exact wM_fX12_drops_L8 N g x1 hS u1 d hZ
theorem wM_fX12_chordOf_J47 {d0 : Ds} (N : Nat) (g : Gs) (x1 : Int32) (y2 : Int32) (d : Ds) (hS : Shp g) (hZ : FQM d0 d) : pc (fX12_chordOf_J47 N g 328 x1 y2 d) (fun _ d1 => FQM d0 d1) := by
  unfold fX12_chordOf_J47
  exact pc_some hZ
theorem wM_fX12_chordOf_B2 {d0 : Ds} (N : Nat) (g : Gs) (x1 : Int32) (K2 : Int32 × Ds → Option (Int32 × Ds)) (y2 : Int32) (d : Ds) (hS : Shp g) (hZ : FQM d0 d) (hK2 : ∀ a, FQM d0 a.2 → pc (K2 a) (fun _ d1 => FQM d0 d1)) : pc (fX12_chordOf_B2 N g 328 x1 K2 y2 d) (fun _ d1 => FQM d0 d1) := by
  unfold fX12_chordOf_B2
  refine pc_gd (fun c_1 => ?_)
  refine pc_ob (fun r2 e_2 => ?_)
  have t_3 := gq hS (e := 336) (by decide +kernel) e_2
  subst t_3
  refine pc_gd (fun c_4 => ?_)
  refine pc_gd (fun c_5 => ?_)
  refine pc_if (fun _ => ?_) (fun _ => ?_)
  · exact pc_some hZ
  · refine pc_gd (fun c_6 => ?_)
    refine pc_if (fun _ => ?_) (fun _ => ?_)
    · exact wM_fX12_chordOf_J47 N g x1 y2 d hS hZ
    · refine pc_gd (fun c_7 => ?_)
      refine pc_if (fun _ => ?_) (fun _ => ?_)
      · exact wM_fX12_chordOf_J47 N g x1 y2 d hS hZ
      · refine pc_bd (fun u10 e_8 => ?_)
        exact hK2 _ hZ
theorem wM_fX12_chordOf_L2 {d0 : Ds} (N : Nat) (g : Gs) (x1 : Int32) (hS : Shp g) (a0 : Int32) (a1 : Ds) (hZ : FQM d0 a1) : pc (fX12_chordOf_L2 N g 328 x1 (a0, a1)) (fun _ d1 => FQM d0 d1) := by
  unfold fX12_chordOf_L2
  refine pc_lp (fun a => FQM d0 a.2) ?_ N (a0, a1) hZ
  rintro K ⟨a0, a1⟩ hZ hK
  exact wM_fX12_chordOf_B2 N g x1 K a0 a1 hS hZ hK
theorem wM_fX12_chordOf {d0 : Ds} (N : Nat) (g : Gs) (x1 : Int32) (d : Ds) (hS : Shp g) (hZ : FQM d0 d) : pc (fX12_chordOf N g 328 x1 d) (fun _ d1 => FQM d0 d1) := by
  unfold fX12_chordOf
  exact wM_fX12_chordOf_L2 N g x1 hS 0 d hZ
theorem wM_fX12_stops {d0 : Ds} (N : Nat) (g : Gs) (x1 : Int32) (d : Ds) (hS : Shp g) (hZ : FQM d0 d) : pc (fX12_stops N g 328 x1 d) (fun _ d1 => FQM d0 d1) := by
  unfold fX12_stops
  refine pc_gd (fun c_1 => ?_)
  refine pc_ob (fun r2 e_2 => ?_)
  have t_3 := gq hS (e := 336) (by decide +kernel) e_2
  subst t_3
  refine pc_gd (fun c_4 => ?_)
  refine pc_gd (fun c_5 => ?_)
  refine pc_bd (fun d5 e_6 => ?_)
  have z_7 := FQM.i hZ rfl e_6
  refine pc_gd (fun c_8 => ?_)
  refine pc_bd (fun d7 e_9 => ?_)
  have z_10 := FQM.i z_7 rfl e_9
  exact pc_some z_10
theorem wM_fX12_ends_J73 {d0 : Ds} (N : Nat) (g : Gs) (x1 : Int32) (d : Ds) (hS : Shp g) (hZ : FQM d0 d) : pc (fX12_ends_J73 N g 328 x1 d) (fun _ d1 => FQM d0 d1) := by
  unfold fX12_ends_J73
  refine pc_gd (fun c_1 => ?_)
  refine pc_cv (wM_fX12_stops N g x1 d hS hZ) (fun d7 z_2 => ?_)
  exact pc_some z_2
theorem wM_fX12_ends {d0 : Ds} (N : Nat) (g : Gs) (x1 : Int32) (d : Ds) (hS : Shp g) (hZ : FQM d0 d) : pc (fX12_ends N g 328 x1 d) (fun _ d1 => FQM d0 d1) := by
  unfold fX12_ends
  refine pc_gd (fun c_1 => ?_)
  refine pc_cb (wM_fX12_chordOf N g x1 d hS hZ) (fun u4 d2 z_2 => ?_)
  refine pc_if (fun _ => ?_) (fun _ => ?_)
  · exact wM_fX12_ends_J73 N g x1 d2 hS z_2
  · refine pc_ob (fun r9 e_3 => ?_)
    have t_4 := gq hS (e := 336) (by decide +kernel) e_3
    subst t_4
    refine pc_gd (fun c_5 => ?_)
    refine pc_gd (fun c_6 => ?_)
    refine pc_cb (wM_fX12_has N g (dI d2 336 (453 : Int32).toNatClampNeg) u4 d2 hS z_2) (fun u14 d12 z_7 => ?_)
    refine pc_if (fun _ => ?_) (fun _ => ?_)
    · exact wM_fX12_ends_J73 N g x1 d12 hS z_7
    · refine pc_bd (fun d16 e_8 => ?_)
      have z_9 := FQM.i z_7 rfl e_8
      refine pc_gd (fun c_10 => ?_)
      refine pc_cv (wM_fX12_stops N g (dI d16 336 ((300 : Int32) + ((4 : Int32) * u4)).toNatClampNeg) d16 hS z_9) (fun d18 z_11 => ?_)
      refine pc_gd (fun c_12 => ?_)
      refine pc_cv (wM_fX12_stops N g (dI d18 336 (((300 : Int32) + ((4 : Int32) * u4)) + 1).toNatClampNeg) d18 hS z_11) (fun d21 z_13 => ?_)
      exact wM_fX12_ends_J73 N g x1 d21 hS z_13
theorem wM_fX12_nextBegun_J83 {d0 : Ds} (N : Nat) (g : Gs) (x1 : Int32) (K4 : Int32 × Int32 × Ds → Option (Int32 × Ds)) (y2 : Int32) (y3 : Int32) (d : Ds) (hS : Shp g) (hZ : FQM d0 d) (hK4 : ∀ a, FQM d0 a.2.2 → pc (K4 a) (fun _ d1 => FQM d0 d1)) : pc (fX12_nextBegun_J83 N g 328 x1 K4 y2 y3 d) (fun _ d1 => FQM d0 d1) := by
  unfold fX12_nextBegun_J83
  refine pc_bd (fun u7 e_1 => ?_)
  exact hK4 _ hZ
theorem wM_fX12_nextBegun_J81 {d0 : Ds} (N : Nat) (g : Gs) (x1 : Int32) (K4 : Int32 × Int32 × Ds → Option (Int32 × Ds)) (y3 : Int32) (d : Ds) (hS : Shp g) (hZ : FQM d0 d) (hK4 : ∀ a, FQM d0 a.2.2 → pc (K4 a) (fun _ d1 => FQM d0 d1)) : pc (fX12_nextBegun_J81 N g 328 x1 K4 y3 d) (fun _ d1 => FQM d0 d1) := by
  unfold fX12_nextBegun_J81
  exact wM_fX12_nextBegun_J83 N g x1 K4 y3 y3 d hS hZ hK4
theorem wM_fX12_nextBegun_B4 {d0 : Ds} (N : Nat) (g : Gs) (x1 : Int32) (K4 : Int32 × Int32 × Ds → Option (Int32 × Ds)) (y2 : Int32) (y3 : Int32) (d : Ds) (hS : Shp g) (hZ : FQM d0 d) (hK4 : ∀ a, FQM d0 a.2.2 → pc (K4 a) (fun _ d1 => FQM d0 d1)) : pc (fX12_nextBegun_B4 N g 328 x1 K4 y2 y3 d) (fun _ d1 => FQM d0 d1) := by
  unfold fX12_nextBegun_B4
  refine pc_if (fun _ => ?_) (fun _ => ?_)
  · exact pc_some hZ
  · refine pc_gd (fun c_1 => ?_)
    refine pc_ob (fun r3 e_2 => ?_)
    have t_3 := gq hS (e := 336) (by decide +kernel) e_2
    subst t_3
    refine pc_gd (fun c_4 => ?_)
    refine pc_gd (fun c_5 => ?_)
    refine pc_if (fun _ => ?_) (fun _ => ?_)
    · exact wM_fX12_nextBegun_J83 N g x1 K4 y2 y3 d hS hZ hK4
    · refine pc_gd (fun c_6 => ?_)
      refine pc_if (fun _ => ?_) (fun _ => ?_)
      · refine pc_if (fun _ => ?_) (fun _ => ?_)
        · exact wM_fX12_nextBegun_J81 N g x1 K4 y3 d hS hZ hK4
        · refine pc_gd (fun c_7 => ?_)
          refine pc_if (fun _ => ?_) (fun _ => ?_)
          · exact wM_fX12_nextBegun_J83 N g x1 K4 y2 y3 d hS hZ hK4
          · exact wM_fX12_nextBegun_J81 N g x1 K4 y3 d hS hZ hK4
      · exact wM_fX12_nextBegun_J83 N g x1 K4 y2 y3 d hS hZ hK4
theorem wM_fX12_nextBegun_L4 {d0 : Ds} (N : Nat) (g : Gs) (x1 : Int32) (hS : Shp g) (a0 : Int32) (a1 : Int32) (a2 : Ds) (hZ : FQM d0 a2) : pc (fX12_nextBegun_L4 N g 328 x1 (a0, a1, a2)) (fun _ d1 => FQM d0 d1) := by
  unfold fX12_nextBegun_L4
  refine pc_lp (fun a => FQM d0 a.2.2) ?_ N (a0, a1, a2) hZ
  rintro K ⟨a0, a1, a2⟩ hZ hK
  exact wM_fX12_nextBegun_B4 N g x1 K a0 a1 a2 hS hZ hK
theorem wM_fX12_nextBegun {d0 : Ds} (N : Nat) (g : Gs) (x1 : Int32) (d : Ds) (hS : Shp g) (hZ : FQM d0 d) : pc (fX12_nextBegun N g 328 x1 d) (fun _ d1 => FQM d0 d1) := by
  unfold fX12_nextBegun
  exact wM_fX12_nextBegun_L4 N g x1 hS (-1) 0 d hZ
theorem wM_fX12_laysSent_J121 {d0 : Ds} (N : Nat) (g : Gs) (d : Ds) (hS : Shp g) (hZ : FQM d0 d) : pc (fX12_laysSent_J121 N g 328 d) (fun _ d1 => FQM d0 d1) := by
  unfold fX12_laysSent_J121
  exact pc_some hZ
theorem wM_fX12_adds_B2 {d0 : Ds} (N : Nat) (g : Gs) (x1 : Int32) (K2 : Int32 × Ds → Option (Unit × Ds)) (y2 : Int32) (d : Ds) (hS : Shp g) (hZ : FQM d0 d) (hK2 : ∀ a, FQM d0 a.2 → pc (K2 a) (fun _ d1 => FQM d0 d1)) : pc (fX12_adds_B2 N g 328 x1 K2 y2 d) (fun _ d1 => FQM d0 d1) := by
  unfold fX12_adds_B2
  refine pc_gd (fun c_1 => ?_)
  refine pc_if (fun _ => ?_) (fun _ => ?_)
  · refine pc_ob (fun r3 e_2 => ?_)
    have t_3 := gq hS (e := 341) (by decide +kernel) e_2
    subst t_3
    refine pc_gd (fun c_4 => ?_)
    refine pc_gd (fun c_5 => ?_)
    refine pc_bd (fun d6 e_6 => ?_)
    have z_7 := FQM.i hZ rfl e_6
    refine pc_bd (fun d7 e_8 => ?_)
    have z_9 := FQM.i z_7 rfl e_8
    exact pc_some z_9
  · refine pc_ob (fun r8 e_10 => ?_)
    have t_11 := gq hS (e := 341) (by decide +kernel) e_10
    subst t_11
    refine pc_gd (fun c_12 => ?_)
    refine pc_gd (fun c_13 => ?_)
    refine pc_if (fun _ => ?_) (fun _ => ?_)
    · exact pc_some hZ
    · refine pc_bd (fun u12 e_14 => ?_)
      exact hK2 _ hZ
theorem wM_fX12_adds_L2 {d0 : Ds} (N : Nat) (g : Gs) (x1 : Int32) (hS : Shp g) (a0 : Int32) (a1 : Ds) (hZ : FQM d0 a1) : pc (fX12_adds_L2 N g 328 x1 (a0, a1)) (fun _ d1 => FQM d0 d1) := by
  unfold fX12_adds_L2
  refine pc_lp (fun a => FQM d0 a.2) ?_ N (a0, a1) hZ
  rintro K ⟨a0, a1⟩ hZ hK
  exact wM_fX12_adds_B2 N g x1 K a0 a1 hS hZ hK
theorem wM_fX12_adds {d0 : Ds} (N : Nat) (g : Gs) (x1 : Int32) (d : Ds) (hS : Shp g) (hZ : FQM d0 d) : pc (fX12_adds N g 328 x1 d) (fun _ d1 => FQM d0 d1) := by
  unfold fX12_adds
  exact wM_fX12_adds_L2 N g x1 hS 0 d hZ
theorem wM_fX12_laysSent_J80 {d0 : Ds} (N : Nat) (g : Gs) (K18 : Int32 × Ds → Option (Unit × Ds)) (y3 : Int32) (d : Ds) (hS : Shp g) (hZ : FQM d0 d) (hK18 : ∀ a, FQM d0 a.2 → pc (K18 a) (fun _ d1 => FQM d0 d1)) : pc (fX12_laysSent_J80 N g 328 K18 y3 d) (fun _ d1 => FQM d0 d1) := by
  unfold fX12_laysSent_J80
  refine pc_gd (fun c_1 => ?_)
  refine pc_ob (fun r27 e_2 => ?_)
  have t_3 := gq hS (e := 336) (by decide +kernel) e_2
  subst t_3
  refine pc_gd (fun c_4 => ?_)
  refine pc_gd (fun c_5 => ?_)
  refine pc_bd (fun u30 e_6 => ?_)
  refine pc_cb (wM_fX12_nextBegun N g u30 d hS hZ) (fun u33 d31 z_7 => ?_)
  exact hK18 _ z_7
theorem wM_fX12_laysSent_J59 {d0 : Ds} (N : Nat) (g : Gs) (K18 : Int32 × Ds → Option (Unit × Ds)) (y3 : Int32) (d : Ds) (hS : Shp g) (hZ : FQM d0 d) (hK18 : ∀ a, FQM d0 a.2 → pc (K18 a) (fun _ d1 => FQM d0 d1)) : pc (fX12_laysSent_J59 N g 328 K18 y3 d) (fun _ d1 => FQM d0 d1) := by
  unfold fX12_laysSent_J59
  refine pc_gd (fun c_1 => ?_)
  refine pc_ob (fun r22 e_2 => ?_)
  have t_3 := gq hS (e := 336) (by decide +kernel) e_2
  subst t_3
  refine pc_gd (fun c_4 => ?_)
  refine pc_gd (fun c_5 => ?_)
  refine pc_if (fun _ => ?_) (fun _ => ?_)
  · refine pc_gd (fun c_6 => ?_)
    refine pc_cv (wM_fX12_adds N g (dI d 336 (y3 + 1).toNatClampNeg) d hS hZ) (fun d35 z_7 => ?_)
    exact wM_fX12_laysSent_J80 N g K18 y3 d35 hS z_7 hK18
  · exact wM_fX12_laysSent_J80 N g K18 y3 d hS hZ hK18
theorem wM_fX12_laysSent_B18 {d0 : Ds} (N : Nat) (g : Gs) (K18 : Int32 × Ds → Option (Unit × Ds)) (y2 : Int32) (d : Ds) (hS : Shp g) (hZ : FQM d0 d) (hK18 : ∀ a, FQM d0 a.2 → pc (K18 a) (fun _ d1 => FQM d0 d1)) : pc (fX12_laysSent_B18 N g 328 K18 y2 d) (fun _ d1 => FQM d0 d1) := by
  unfold fX12_laysSent_B18
  refine pc_if (fun _ => ?_) (fun _ => ?_)
  · refine pc_gd (fun c_1 => ?_)
    refine pc_ob (fun r9 e_2 => ?_)
    have t_3 := gq hS (e := 336) (by decide +kernel) e_2
    subst t_3
    refine pc_gd (fun c_4 => ?_)
    refine pc_gd (fun c_5 => ?_)
    refine pc_if (fun _ => ?_) (fun _ => ?_)
    · exact wM_fX12_laysSent_J121 N g d hS hZ
    · refine pc_cv (wM_fX12_adds N g (dI d 336 (454 : Int32).toNatClampNeg) d hS hZ) (fun d13 z_6 => ?_)
      exact wM_fX12_laysSent_J121 N g d13 hS z_6
  · refine pc_bd (fun u15 e_7 => ?_)
    refine pc_gd (fun c_8 => ?_)
    refine pc_ob (fun r17 e_9 => ?_)
    have t_10 := gq hS (e := 336) (by decide +kernel) e_9
    subst t_10
    refine pc_gd (fun c_11 => ?_)
    refine pc_gd (fun c_12 => ?_)
    refine pc_if (fun _ => ?_) (fun _ => ?_)
    · refine pc_gd (fun c_13 => ?_)
      refine pc_bd (fun d38 e_14 => ?_)
      have z_15 := FQM.i hZ rfl e_14
      exact wM_fX12_laysSent_J59 N g K18 u15 d38 hS z_15 hK18
    · exact wM_fX12_laysSent_J59 N g K18 u15 d hS hZ hK18
theorem wM_fX12_laysSent_L18 {d0 : Ds} (N : Nat) (g : Gs) (hS : Shp g) (a0 : Int32) (a1 : Ds) (hZ : FQM d0 a1) : pc (fX12_laysSent_L18 N g 328 (a0, a1)) (fun _ d1 => FQM d0 d1) := by
  unfold fX12_laysSent_L18
  refine pc_lp (fun a => FQM d0 a.2) ?_ N (a0, a1) hZ
  rintro K ⟨a0, a1⟩ hZ hK
  exact wM_fX12_laysSent_B18 N g K a0 a1 hS hZ hK
theorem wM_fX12_laysSent {d0 : Ds} (N : Nat) (g : Gs) (d : Ds) (hS : Shp g) (hZ : FQM d0 d) : pc (fX12_laysSent N g 328 d) (fun _ d1 => FQM d0 d1) := by
  unfold fX12_laysSent
  refine pc_gd (fun c_1 => ?_)
  refine pc_bd (fun d2 e_2 => ?_)
  have z_3 := FQM.i hZ rfl e_2
  refine pc_bd (fun d3 e_4 => ?_)
  have z_5 := FQM.i z_3 rfl e_4
  refine pc_cb (wM_fX12_nextBegun N g (-1) d3 hS z_5) (fun u6 d4 z_6 => ?_)
  exact wM_fX12_laysSent_L18 N g hS u6 d4 z_6
theorem wM_fX12_isLatest_J27 {d0 : Ds} (N : Nat) (g : Gs) (x1 : Int32) (z0 : Int32) (d : Ds) (hS : Shp g) (hZ : FQM d0 d) : pc (fX12_isLatest_J27 N g 328 x1 z0 d) (fun _ d1 => FQM d0 d1) := by
  unfold fX12_isLatest_J27
  refine pc_gd (fun c_1 => ?_)
  exact pc_some hZ
theorem wM_fX12_isLatest_J26 {d0 : Ds} (N : Nat) (g : Gs) (x1 : Int32) (d : Ds) (hS : Shp g) (hZ : FQM d0 d) : pc (fX12_isLatest_J26 N g 328 x1 d) (fun _ d1 => FQM d0 d1) := by
  unfold fX12_isLatest_J26
  exact wM_fX12_isLatest_J27 N g x1 0 d hS hZ
theorem wM_fX12_reportAt {d0 : Ds} (N : Nat) (g : Gs) (x1 : Int32) (d : Ds) (hS : Shp g) (hZ : FQM d0 d) : pc (fX12_reportAt N g 328 x1 d) (fun _ d1 => FQM d0 d1) := by
  unfold fX12_reportAt
  refine pc_gd (fun c_1 => ?_)
  refine pc_ob (fun r2 e_2 => ?_)
  have t_3 := gq hS (e := 336) (by decide +kernel) e_2
  subst t_3
  refine pc_gd (fun c_4 => ?_)
  refine pc_gd (fun c_5 => ?_)
  refine pc_gd (fun c_6 => ?_)
  refine pc_bd (fun u6 e_7 => ?_)
  exact pc_some hZ
theorem wM_fX12_isLatest_B65 {d0 : Ds} (N : Nat) (g : Gs) (x1 : Int32) (K65 : Int32 × Int32 × Ds → Option (Int32 × Ds)) (y2 : Int32) (y3 : Int32) (d : Ds) (hS : Shp g) (hZ : FQM d0 d) (hK65 : ∀ a, FQM d0 a.2.2 → pc (K65 a) (fun _ d1 => FQM d0 d1)) : pc (fX12_isLatest_B65 N g 328 x1 K65 y2 y3 d) (fun _ d1 => FQM d0 d1) := by
  unfold fX12_isLatest_B65
  refine pc_if (fun _ => ?_) (fun _ => ?_)
  · exact pc_some hZ
  · refine pc_gd (fun c_1 => ?_)
    refine pc_ob (fun r15 e_2 => ?_)
    have t_3 := gq hS (e := 336) (by decide +kernel) e_2
    subst t_3
    refine pc_gd (fun c_4 => ?_)
    refine pc_gd (fun c_5 => ?_)
    refine pc_ob (fun r18 e_6 => ?_)
    have t_7 := gq hS (e := 341) (by decide +kernel) e_6
    subst t_7
    refine pc_gd (fun c_8 => ?_)
    refine pc_gd (fun c_9 => ?_)
    refine pc_if (fun _ => ?_) (fun _ => ?_)
    · refine pc_bd (fun u22 e_10 => ?_)
      exact hK65 _ hZ
    · exact pc_some hZ
theorem wM_fX12_isLatest_L65 {d0 : Ds} (N : Nat) (g : Gs) (x1 : Int32) (hS : Shp g) (a0 : Int32) (a1 : Int32) (a2 : Ds) (hZ : FQM d0 a2) : pc (fX12_isLatest_L65 N g 328 x1 (a0, a1, a2)) (fun _ d1 => FQM d0 d1) := by
  unfold fX12_isLatest_L65
  refine pc_lp (fun a => FQM d0 a.2.2) ?_ N (a0, a1, a2) hZ
  rintro K ⟨a0, a1, a2⟩ hZ hK
  exact wM_fX12_isLatest_B65 N g x1 K a0 a1 a2 hS hZ hK
theorem wM_fX12_isLatest_J61 {d0 : Ds} (N : Nat) (g : Gs) (x1 : Int32) (d : Ds) (hS : Shp g) (hZ : FQM d0 d) : pc (fX12_isLatest_J61 N g 328 x1 d) (fun _ d1 => FQM d0 d1) := by
  unfold fX12_isLatest_J61
  exact pc_some hZ
theorem wM_fX12_isLatest {d0 : Ds} (N : Nat) (g : Gs) (x1 : Int32) (d : Ds) (hS : Shp g) (hZ : FQM d0 d) : pc (fX12_isLatest N g 328 x1 d) (fun _ d1 => FQM d0 d1) := by
  unfold fX12_isLatest
  refine pc_gd (fun c_1 => ?_)
  refine pc_ob (fun r2 e_2 => ?_)
  have t_3 := gq hS (e := 336) (by decide +kernel) e_2
  subst t_3
  refine pc_gd (fun c_4 => ?_)
  refine pc_gd (fun c_5 => ?_)
  refine pc_if (fun _ => ?_) (fun _ => ?_)
  · refine pc_if (fun _ => ?_) (fun _ => ?_)
    · refine pc_if (fun _ => ?_) (fun _ => ?_)
      · exact wM_fX12_isLatest_J27 N g x1 1 d hS hZ
      · exact wM_fX12_isLatest_J26 N g x1 d hS hZ
    · exact wM_fX12_isLatest_J26 N g x1 d hS hZ
  · refine pc_cb (wM_fX12_reportAt N g 0 d hS hZ) (fun u8 d6 z_6 => ?_)
    refine pc_gd (fun c_7 => ?_)
    refine pc_if (fun _ => ?_) (fun _ => ?_)
    · refine pc_gd (fun c_8 => ?_)
      refine pc_if (fun _ => ?_) (fun _ => ?_)
      · exact wM_fX12_isLatest_L65 N g x1 hS u8 0 d6 z_6
      · exact wM_fX12_isLatest_J61 N g x1 d6 hS z_6
    · exact wM_fX12_isLatest_J61 N g x1 d6 hS z_6
theorem wM_fX12_hears_J174 {d0 : Ds} (N : Nat) (g : Gs) (x1 : Int32) (d : Ds) (hS : Shp g) (hZ : FQM d0 d) : pc (fX12_hears_J174 N g 328 x1 d) (fun _ d1 => FQM d0 d1) := by
  unfold fX12_hears_J174
  exact pc_some hZ
theorem wM_fX12_reportHas_B2 {d0 : Ds} (N : Nat) (g : Gs) (x1 : Int32) (x2 : Int32) (K2 : Int32 × Ds → Option (Int32 × Ds)) (y3 : Int32) (d : Ds) (hS : Shp g) (hZ : FQM d0 d) (hK2 : ∀ a, FQM d0 a.2 → pc (K2 a) (fun _ d1 => FQM d0 d1)) : pc (fX12_reportHas_B2 N g 328 x1 x2 K2 y3 d) (fun _ d1 => FQM d0 d1) := by
  unfold fX12_reportHas_B2
  refine pc_gd (fun c_1 => ?_)
  refine pc_ob (fun r2 e_2 => ?_)
  have t_3 := gq hS (e := 336) (by decide +kernel) e_2
  subst t_3
  refine pc_gd (fun c_4 => ?_)
  refine pc_gd (fun c_5 => ?_)
  refine pc_if (fun _ => ?_) (fun _ => ?_)
  · exact pc_some hZ
  · refine pc_gd (fun c_6 => ?_)
    refine pc_if (fun _ => ?_) (fun _ => ?_)
    · exact pc_some hZ
    · refine pc_bd (fun u8 e_7 => ?_)
      exact hK2 _ hZ
theorem wM_fX12_reportHas_L2 {d0 : Ds} (N : Nat) (g : Gs) (x1 : Int32) (x2 : Int32) (hS : Shp g) (a0 : Int32) (a1 : Ds) (hZ : FQM d0 a1) : pc (fX12_reportHas_L2 N g 328 x1 x2 (a0, a1)) (fun _ d1 => FQM d0 d1) := by
  unfold fX12_reportHas_L2
  refine pc_lp (fun a => FQM d0 a.2) ?_ N (a0, a1) hZ
  rintro K ⟨a0, a1⟩ hZ hK
  exact wM_fX12_reportHas_B2 N g x1 x2 K a0 a1 hS hZ hK
theorem wM_fX12_reportHas {d0 : Ds} (N : Nat) (g : Gs) (x1 : Int32) (x2 : Int32) (d : Ds) (hS : Shp g) (hZ : FQM d0 d) : pc (fX12_reportHas N g 328 x1 x2 d) (fun _ d1 => FQM d0 d1) := by
  unfold fX12_reportHas
  exact wM_fX12_reportHas_L2 N g x1 x2 hS 0 d hZ
theorem wM_fX12_hears_J73 {d0 : Ds} (N : Nat) (g : Gs) (x1 : Int32) (K4 : Int32 × Int32 × Ds → Option (Unit × Ds)) (y2 : Int32) (y3 : Int32) (d : Ds) (hS : Shp g) (hZ : FQM d0 d) (hK4 : ∀ a, FQM d0 a.2.2 → pc (K4 a) (fun _ d1 => FQM d0 d1)) : pc (fX12_hears_J73 N g 328 x1 K4 y2 y3 d) (fun _ d1 => FQM d0 d1) := by
  unfold fX12_hears_J73
  refine pc_bd (fun u28 e_1 => ?_)
  exact hK4 _ hZ
theorem wM_fX12_hears_J55 {d0 : Ds} (N : Nat) (g : Gs) (x1 : Int32) (K4 : Int32 × Int32 × Ds → Option (Unit × Ds)) (y2 : Int32) (y3 : Int32) (z0 : Int32) (d : Ds) (hS : Shp g) (hZ : FQM d0 d) (hK4 : ∀ a, FQM d0 a.2.2 → pc (K4 a) (fun _ d1 => FQM d0 d1)) : pc (fX12_hears_J55 N g 328 x1 K4 y2 y3 z0 d) (fun _ d1 => FQM d0 d1) := by
  unfold fX12_hears_J55
  refine pc_if (fun _ => ?_) (fun _ => ?_)
  · refine pc_gd (fun c_1 => ?_)
    refine pc_ob (fun r30 e_2 => ?_)
    have t_3 := gq hS (e := 336) (by decide +kernel) e_2
    subst t_3
    refine pc_gd (fun c_4 => ?_)
    refine pc_gd (fun c_5 => ?_)
    refine pc_bd (fun u33 e_6 => ?_)
    exact wM_fX12_hears_J73 N g x1 K4 u33 y3 d hS hZ hK4
  · exact wM_fX12_hears_J73 N g x1 K4 y2 y3 d hS hZ hK4
theorem wM_fX12_hears_J54 {d0 : Ds} (N : Nat) (g : Gs) (x1 : Int32) (K4 : Int32 × Int32 × Ds → Option (Unit × Ds)) (y2 : Int32) (y3 : Int32) (d : Ds) (hS : Shp g) (hZ : FQM d0 d) (hK4 : ∀ a, FQM d0 a.2.2 → pc (K4 a) (fun _ d1 => FQM d0 d1)) : pc (fX12_hears_J54 N g 328 x1 K4 y2 y3 d) (fun _ d1 => FQM d0 d1) := by
  unfold fX12_hears_J54
  exact wM_fX12_hears_J55 N g x1 K4 y2 y3 0 d hS hZ hK4
theorem wM_fX12_hears_B4 {d0 : Ds} (N : Nat) (g : Gs) (x1 : Int32) (K4 : Int32 × Int32 × Ds → Option (Unit × Ds)) (y2 : Int32) (y3 : Int32) (d : Ds) (hS : Shp g) (hZ : FQM d0 d) (hK4 : ∀ a, FQM d0 a.2.2 → pc (K4 a) (fun _ d1 => FQM d0 d1)) : pc (fX12_hears_B4 N g 328 x1 K4 y2 y3 d) (fun _ d1 => FQM d0 d1) := by
  unfold fX12_hears_B4
  refine pc_gd (fun c_1 => ?_)
  refine pc_ob (fun r2 e_2 => ?_)
  have t_3 := gq hS (e := 336) (by decide +kernel) e_2
  subst t_3
  refine pc_gd (fun c_4 => ?_)
  refine pc_gd (fun c_5 => ?_)
  refine pc_if (fun _ => ?_) (fun _ => ?_)
  · refine pc_if (fun _ => ?_) (fun _ => ?_)
    · refine pc_gd (fun c_6 => ?_)
      refine pc_if (fun _ => ?_) (fun _ => ?_)
      · exact wM_fX12_hears_J174 N g x1 d hS hZ
      · refine pc_cb (wM_fX12_reportHas N g x1 (dI d 336 (455 : Int32).toNatClampNeg) d hS hZ) (fun u11 d9 z_7 => ?_)
        refine pc_if (fun _ => ?_) (fun _ => ?_)
        · refine pc_bd (fun d13 e_8 => ?_)
          have z_9 := FQM.i z_7 rfl e_8
          refine pc_gd (fun c_10 => ?_)
          refine pc_bd (fun d15 e_11 => ?_)
          have z_12 := FQM.i z_9 rfl e_11
          refine pc_gd (fun c_13 => ?_)
          refine pc_bd (fun d17 e_14 => ?_)
          have z_15 := FQM.i z_12 rfl e_14
          exact wM_fX12_hears_J174 N g x1 d17 hS z_15
        · exact wM_fX12_hears_J174 N g x1 d9 hS z_7
    · refine pc_gd (fun c_16 => ?_)
      refine pc_bd (fun d19 e_17 => ?_)
      have z_18 := FQM.i hZ rfl e_17
      refine pc_gd (fun c_19 => ?_)
      refine pc_gd (fun c_20 => ?_)
      refine pc_bd (fun d22 e_21 => ?_)
      have z_22 := FQM.i z_18 rfl e_21
      refine pc_gd (fun c_23 => ?_)
      refine pc_bd (fun d24 e_24 => ?_)
      have z_25 := FQM.i z_22 rfl e_24
      exact wM_fX12_hears_J174 N g x1 d24 hS z_25
  · refine pc_gd (fun c_26 => ?_)
    refine pc_if (fun _ => ?_) (fun _ => ?_)
    · exact wM_fX12_hears_J54 N g x1 K4 y2 y3 d hS hZ hK4
    · refine pc_cb (wM_fX12_reportAt N g 1 d hS hZ) (fun u36 d34 z_27 => ?_)
      refine pc_gd (fun c_28 => ?_)
      refine pc_cb (wM_fX12_reportHas N g u36 (dI d34 336 ((x1 + 3) + y3).toNatClampNeg) d34 hS z_27) (fun u40 d38 z_29 => ?_)
      refine pc_if (fun _ => ?_) (fun _ => ?_)
      · exact wM_fX12_hears_J54 N g x1 K4 y2 y3 d38 hS z_29 hK4
      · exact wM_fX12_hears_J55 N g x1 K4 y2 y3 1 d38 hS z_29 hK4
theorem wM_fX12_hears_L4 {d0 : Ds} (N : Nat) (g : Gs) (x1 : Int32) (hS : Shp g) (a0 : Int32) (a1 : Int32) (a2 : Ds) (hZ : FQM d0 a2) : pc (fX12_hears_L4 N g 328 x1 (a0, a1, a2)) (fun _ d1 => FQM d0 d1) := by
  unfold fX12_hears_L4
  refine pc_lp (fun a => FQM d0 a.2.2) ?_ N (a0, a1, a2) hZ
  rintro K ⟨a0, a1, a2⟩ hZ hK
  exact wM_fX12_hears_B4 N g x1 K a0 a1 a2 hS hZ hK
theorem wM_fX12_hears {d0 : Ds} (N : Nat) (g : Gs) (x1 : Int32) (d : Ds) (hS : Shp g) (hZ : FQM d0 d) : pc (fX12_hears N g 328 x1 d) (fun _ d1 => FQM d0 d1) := by
  unfold fX12_hears
  exact wM_fX12_hears_L4 N g x1 hS (-1) 0 d hZ
theorem wM_fX12_reports_B97 {d0 : Ds} (N : Nat) (g : Gs) (K97 : Int32 × Int32 × Int32 × Ds → Option (Unit × Ds)) (y1 : Int32) (y2 : Int32) (y3 : Int32) (d : Ds) (hS : Shp g) (hZ : FQM d0 d) (hK97 : ∀ a, FQM d0 a.2.2.2 → pc (K97 a) (fun _ d1 => FQM d0 d1)) : pc (fX12_reports_B97 N g 328 K97 y1 y2 y3 d) (fun _ d1 => FQM d0 d1) := by
  unfold fX12_reports_B97
  refine pc_if (fun _ => ?_) (fun _ => ?_)
  · refine pc_gd (fun c_1 => ?_)
    refine pc_cv (wM_fX12_hears N g y2 d hS hZ) (fun d30 z_2 => ?_)
    exact pc_some z_2
  · refine pc_gd (fun c_3 => ?_)
    refine pc_ob (fun r33 e_4 => ?_)
    have t_5 := gq hS (e := 336) (by decide +kernel) e_4
    subst t_5
    refine pc_ob (fun r34 e_6 => ?_)
    have t_7 := gq hS (e := 341) (by decide +kernel) e_6
    subst t_7
    refine pc_gd (fun c_8 => ?_)
    refine pc_gd (fun c_9 => ?_)
    refine pc_gd (fun c_10 => ?_)
    refine pc_gd (fun c_11 => ?_)
    refine pc_bd (fun d39 e_12 => ?_)
    have z_13 := FQM.i hZ rfl e_12
    refine pc_bd (fun u40 e_14 => ?_)
    exact hK97 _ z_13
theorem wM_fX12_reports_L97 {d0 : Ds} (N : Nat) (g : Gs) (hS : Shp g) (a0 : Int32) (a1 : Int32) (a2 : Int32) (a3 : Ds) (hZ : FQM d0 a3) : pc (fX12_reports_L97 N g 328 (a0, a1, a2, a3)) (fun _ d1 => FQM d0 d1) := by
  unfold fX12_reports_L97
  refine pc_lp (fun a => FQM d0 a.2.2.2) ?_ N (a0, a1, a2, a3) hZ
  rintro K ⟨a0, a1, a2, a3⟩ hZ hK
  exact wM_fX12_reports_B97 N g K a0 a1 a2 a3 hS hZ hK
theorem wM_fX12_reports_J32 {d0 : Ds} (N : Nat) (g : Gs) (z0 : Int32) (d : Ds) (hS : Shp g) (hZ : FQM d0 d) : pc (fX12_reports_J32 N g 328 z0 d) (fun _ d1 => FQM d0 d1) := by
  unfold fX12_reports_J32
  refine pc_gd (fun c_1 => ?_)
  refine pc_cb (wM_fX12_isLatest N g z0 d hS hZ) (fun u12 d10 z_2 => ?_)
  refine pc_if (fun _ => ?_) (fun _ => ?_)
  · refine pc_ob (fun r14 e_3 => ?_)
    have t_4 := gq hS (e := 336) (by decide +kernel) e_3
    subst t_4
    refine pc_gd (fun c_5 => ?_)
    refine pc_gd (fun c_6 => ?_)
    refine pc_bd (fun d17 e_7 => ?_)
    have z_8 := FQM.i z_2 rfl e_7
    refine pc_cb (wM_fX12_reportAt N g 0 d17 hS z_8) (fun u20 d18 z_9 => ?_)
    refine pc_gd (fun c_10 => ?_)
    refine pc_gd (fun c_11 => ?_)
    refine pc_bd (fun d23 e_12 => ?_)
    have z_13 := FQM.i z_9 rfl e_12
    refine pc_gd (fun c_14 => ?_)
    refine pc_bd (fun d25 e_15 => ?_)
    have z_16 := FQM.i z_13 rfl e_15
    refine pc_gd (fun c_17 => ?_)
    refine pc_bd (fun d27 e_18 => ?_)
    have z_19 := FQM.i z_16 rfl e_18
    exact wM_fX12_reports_L97 N g hS z0 u20 0 d27 z_19
  · exact pc_some z_2
theorem wM_fX12_reports_J28 {d0 : Ds} (N : Nat) (g : Gs) (d : Ds) (hS : Shp g) (hZ : FQM d0 d) : pc (fX12_reports_J28 N g 328 d) (fun _ d1 => FQM d0 d1) := by
  unfold fX12_reports_J28
  refine pc_gd (fun c_1 => ?_)
  exact wM_fX12_reports_J32 N g (dI d 328 26) d hS hZ
theorem wM_fX12_reports {d0 : Ds} (N : Nat) (g : Gs) (d : Ds) (hS : Shp g) (hZ : FQM d0 d) : pc (fX12_reports N g 328 d) (fun _ d1 => FQM d0 d1) := by
  unfold fX12_reports
  refine pc_gd (fun c_1 => ?_)
  refine pc_cv (wM_fX12_laysSent N g d hS hZ) (fun d2 z_2 => ?_)
  refine pc_ob (fun r4 e_3 => ?_)
  have t_4 := gq hS (e := 336) (by decide +kernel) e_3
  subst t_4
  refine pc_gd (fun c_5 => ?_)
  refine pc_gd (fun c_6 => ?_)
  refine pc_if (fun _ => ?_) (fun _ => ?_)
  · refine pc_if (fun _ => ?_) (fun _ => ?_)
    · exact wM_fX12_reports_J28 N g d2 hS z_2
    · exact wM_fX12_reports_J32 N g (-2) d2 hS z_2
  · exact wM_fX12_reports_J28 N g d2 hS z_2
theorem wM_fX12_timeAt {d0 : Ds} (N : Nat) (g : Gs) (x1 : Int32) (d : Ds) (hS : Shp g) (hZ : FQM d0 d) : pc (fX12_timeAt N g 328 x1 d) (fun _ d1 => FQM d0 d1) := by
  unfold fX12_timeAt
  refine pc_gd (fun c_1 => ?_)
  refine pc_ob (fun r2 e_2 => ?_)
  have t_3 := gq hS (e := 336) (by decide +kernel) e_2
  subst t_3
  refine pc_gd (fun c_4 => ?_)
  refine pc_gd (fun c_5 => ?_)
  exact pc_some hZ
theorem wM_fX12_activeLayers_J54 {d0 : Ds} (N : Nat) (g : Gs) (K13 : Int32 × Int32 × Ds → Option (Int32 × Ds)) (y1 : Int32) (y2 : Int32) (d : Ds) (hS : Shp g) (hZ : FQM d0 d) (hK13 : ∀ a, FQM d0 a.2.2 → pc (K13 a) (fun _ d1 => FQM d0 d1)) : pc (fX12_activeLayers_J54 N g 328 K13 y1 y2 d) (fun _ d1 => FQM d0 d1) := by
  unfold fX12_activeLayers_J54
  refine pc_bd (fun u12 e_1 => ?_)
  exact hK13 _ hZ
theorem wM_fX12_activeLayers_B13 {d0 : Ds} (N : Nat) (g : Gs) (K13 : Int32 × Int32 × Ds → Option (Int32 × Ds)) (y1 : Int32) (y2 : Int32) (d : Ds) (hS : Shp g) (hZ : FQM d0 d) (hK13 : ∀ a, FQM d0 a.2.2 → pc (K13 a) (fun _ d1 => FQM d0 d1)) : pc (fX12_activeLayers_B13 N g 328 K13 y1 y2 d) (fun _ d1 => FQM d0 d1) := by
  unfold fX12_activeLayers_B13
  refine pc_if (fun _ => ?_) (fun _ => ?_)
  · exact pc_some hZ
  · refine pc_gd (fun c_1 => ?_)
    refine pc_ob (fun r8 e_2 => ?_)
    have t_3 := gq hS (e := 336) (by decide +kernel) e_2
    subst t_3
    refine pc_gd (fun c_4 => ?_)
    refine pc_gd (fun c_5 => ?_)
    refine pc_if (fun _ => ?_) (fun _ => ?_)
    · refine pc_gd (fun c_6 => ?_)
      refine pc_bd (fun u14 e_7 => ?_)
      refine pc_bd (fun u15 e_8 => ?_)
      exact wM_fX12_activeLayers_J54 N g K13 u15 y2 d hS hZ hK13
    · exact wM_fX12_activeLayers_J54 N g K13 y1 y2 d hS hZ hK13
theorem wM_fX12_activeLayers_L13 {d0 : Ds} (N : Nat) (g : Gs) (hS : Shp g) (a0 : Int32) (a1 : Int32) (a2 : Ds) (hZ : FQM d0 a2) : pc (fX12_activeLayers_L13 N g 328 (a0, a1, a2)) (fun _ d1 => FQM d0 d1) := by
  unfold fX12_activeLayers_L13
  refine pc_lp (fun a => FQM d0 a.2.2) ?_ N (a0, a1, a2) hZ
  rintro K ⟨a0, a1, a2⟩ hZ hK
  exact wM_fX12_activeLayers_B13 N g K a0 a1 a2 hS hZ hK
theorem wM_fX12_activeLayers {d0 : Ds} (N : Nat) (g : Gs) (d : Ds) (hS : Shp g) (hZ : FQM d0 d) : pc (fX12_activeLayers N g 328 d) (fun _ d1 => FQM d0 d1) := by
  unfold fX12_activeLayers
  refine pc_gd (fun c_1 => ?_)
  refine pc_ob (fun r2 e_2 => ?_)
  have t_3 := gq hS (e := 336) (by decide +kernel) e_2
  subst t_3
  refine pc_gd (fun c_4 => ?_)
  refine pc_gd (fun c_5 => ?_)
  refine pc_bd (fun u5 e_6 => ?_)
  exact wM_fX12_activeLayers_L13 N g hS u5 0 d hZ
theorem wM_fX12_layerOf_J41 {d0 : Ds} (N : Nat) (g : Gs) (x1 : Int32) (K7 : Int32 × Int32 × Ds → Option (Int32 × Ds)) (y2 : Int32) (y3 : Int32) (d : Ds) (hS : Shp g) (hZ : FQM d0 d) (hK7 : ∀ a, FQM d0 a.2.2 → pc (K7 a) (fun _ d1 => FQM d0 d1)) : pc (fX12_layerOf_J41 N g 328 x1 K7 y2 y3 d) (fun _ d1 => FQM d0 d1) := by
  unfold fX12_layerOf_J41
  refine pc_bd (fun u10 e_1 => ?_)
  exact hK7 _ hZ
theorem wM_fX12_layerOf_B7 {d0 : Ds} (N : Nat) (g : Gs) (x1 : Int32) (K7 : Int32 × Int32 × Ds → Option (Int32 × Ds)) (y2 : Int32) (y3 : Int32) (d : Ds) (hS : Shp g) (hZ : FQM d0 d) (hK7 : ∀ a, FQM d0 a.2.2 → pc (K7 a) (fun _ d1 => FQM d0 d1)) : pc (fX12_layerOf_B7 N g 328 x1 K7 y2 y3 d) (fun _ d1 => FQM d0 d1) := by
  unfold fX12_layerOf_B7
  refine pc_if (fun _ => ?_) (fun _ => ?_)
  · exact pc_some hZ
  · refine pc_cb (wM_fX12_has N g y2 y3 d hS hZ) (fun u8 d6 z_1 => ?_)
    refine pc_if (fun _ => ?_) (fun _ => ?_)
    · exact wM_fX12_layerOf_J41 N g x1 K7 y2 y3 d6 hS z_1 hK7
    · refine pc_gd (fun c_2 => ?_)
      refine pc_ob (fun r12 e_3 => ?_)
      have t_4 := gq hS (e := 336) (by decide +kernel) e_3
      subst t_4
      refine pc_gd (fun c_5 => ?_)
      refine pc_gd (fun c_6 => ?_)
      refine pc_if (fun _ => ?_) (fun _ => ?_)
      · exact wM_fX12_layerOf_J41 N g x1 K7 y2 y3 d6 hS z_1 hK7
      · exact pc_some z_1
theorem wM_fX12_layerOf_L7 {d0 : Ds} (N : Nat) (g : Gs) (x1 : Int32) (hS : Shp g) (a0 : Int32) (a1 : Int32) (a2 : Ds) (hZ : FQM d0 a2) : pc (fX12_layerOf_L7 N g 328 x1 (a0, a1, a2)) (fun _ d1 => FQM d0 d1) := by
  unfold fX12_layerOf_L7
  refine pc_lp (fun a => FQM d0 a.2.2) ?_ N (a0, a1, a2) hZ
  rintro K ⟨a0, a1, a2⟩ hZ hK
  exact wM_fX12_layerOf_B7 N g x1 K a0 a1 a2 hS hZ hK
theorem wM_fX12_layerOf {d0 : Ds} (N : Nat) (g : Gs) (x1 : Int32) (d : Ds) (hS : Shp g) (hZ : FQM d0 d) : pc (fX12_layerOf N g 328 x1 d) (fun _ d1 => FQM d0 d1) := by
  unfold fX12_layerOf
  refine pc_gd (fun c_1 => ?_)
  refine pc_cb (wM_fX12_activeLayers N g d hS hZ) (fun u4 d2 z_2 => ?_)
  exact wM_fX12_layerOf_L7 N g x1 hS u4 3 d2 z_2
theorem wM_fX12_heldOrTapped_J112 {d0 : Ds} (N : Nat) (g : Gs) (x1 : Int32) (x2 : Int32) (z0 : Int32) (d : Ds) (hS : Shp g) (hZ : FQM d0 d) : pc (fX12_heldOrTapped_J112 N g 328 x1 x2 z0 d) (fun _ d1 => FQM d0 d1) := by
  unfold fX12_heldOrTapped_J112
  exact pc_some hZ
theorem wM_fX12_heldOrTapped_J89 {d0 : Ds} (N : Nat) (g : Gs) (x1 : Int32) (x2 : Int32) (K15 : Int32 × Int32 × Int32 × Ds → Option (Int32 × Ds)) (y3 : Int32) (y4 : Int32) (y5 : Int32) (d : Ds) (hS : Shp g) (hZ : FQM d0 d) (hK15 : ∀ a, FQM d0 a.2.2.2 → pc (K15 a) (fun _ d1 => FQM d0 d1)) : pc (fX12_heldOrTapped_J89 N g 328 x1 x2 K15 y3 y4 y5 d) (fun _ d1 => FQM d0 d1) := by
  unfold fX12_heldOrTapped_J89
  refine pc_bd (fun u29 e_1 => ?_)
  exact hK15 _ hZ
theorem wM_fX12_heldOrTapped_B15 {d0 : Ds} (N : Nat) (g : Gs) (x1 : Int32) (x2 : Int32) (K15 : Int32 × Int32 × Int32 × Ds → Option (Int32 × Ds)) (y3 : Int32) (y4 : Int32) (y5 : Int32) (d : Ds) (hS : Shp g) (hZ : FQM d0 d) (hK15 : ∀ a, FQM d0 a.2.2.2 → pc (K15 a) (fun _ d1 => FQM d0 d1)) : pc (fX12_heldOrTapped_B15 N g 328 x1 x2 K15 y3 y4 y5 d) (fun _ d1 => FQM d0 d1) := by
  unfold fX12_heldOrTapped_B15
  refine pc_gd (fun c_1 => ?_)
  refine pc_ob (fun r7 e_2 => ?_)
  have t_3 := gq hS (e := 336) (by decide +kernel) e_2
  subst t_3
  refine pc_gd (fun c_4 => ?_)
  refine pc_gd (fun c_5 => ?_)
  refine pc_if (fun _ => ?_) (fun _ => ?_)
  · refine pc_gd (fun c_6 => ?_)
    refine pc_if (fun _ => ?_) (fun _ => ?_)
    · exact wM_fX12_heldOrTapped_J112 N g x1 x2 (-1) d hS hZ
    · exact wM_fX12_heldOrTapped_J112 N g x1 x2 1 d hS hZ
  · refine pc_cb (wM_fX12_timeAt N g y5 d hS hZ) (fun u15 d13 z_7 => ?_)
    refine pc_if (fun _ => ?_) (fun _ => ?_)
    · refine pc_cb (wM_fX12_keyAt N g y5 d13 hS z_7) (fun u19 d17 z_8 => ?_)
      refine pc_cb (wM_fX12_isDownAt N g y5 d17 hS z_8) (fun u22 d20 z_9 => ?_)
      refine pc_if (fun _ => ?_) (fun _ => ?_)
      · refine pc_if (fun _ => ?_) (fun _ => ?_)
        · exact pc_some z_9
        · refine pc_cb (wM_fX12_has N g y4 u19 d20 hS z_9) (fun u27 d25 z_10 => ?_)
          refine pc_if (fun _ => ?_) (fun _ => ?_)
          · exact wM_fX12_heldOrTapped_J89 N g x1 x2 K15 y3 y4 y5 d25 hS z_10 hK15
          · exact pc_some z_10
      · refine pc_bd (fun u30 e_11 => ?_)
        exact wM_fX12_heldOrTapped_J89 N g x1 x2 K15 y3 u30 y5 d20 hS z_9 hK15
    · exact pc_some z_7
theorem wM_fX12_heldOrTapped_L15 {d0 : Ds} (N : Nat) (g : Gs) (x1 : Int32) (x2 : Int32) (hS : Shp g) (a0 : Int32) (a1 : Int32) (a2 : Int32) (a3 : Ds) (hZ : FQM d0 a3) : pc (fX12_heldOrTapped_L15 N g 328 x1 x2 (a0, a1, a2, a3)) (fun _ d1 => FQM d0 d1) := by
  unfold fX12_heldOrTapped_L15
  refine pc_lp (fun a => FQM d0 a.2.2.2) ?_ N (a0, a1, a2, a3) hZ
  rintro K ⟨a0, a1, a2, a3⟩ hZ hK
  exact wM_fX12_heldOrTapped_B15 N g x1 x2 K a0 a1 a2 a3 hS hZ hK
theorem wM_fX12_heldOrTapped {d0 : Ds} (N : Nat) (g : Gs) (x1 : Int32) (x2 : Int32) (d : Ds) (hS : Shp g) (hZ : FQM d0 d) : pc (fX12_heldOrTapped N g 328 x1 x2 d) (fun _ d1 => FQM d0 d1) := by
  unfold fX12_heldOrTapped
  refine pc_gd (fun c_1 => ?_)
  refine pc_ob (fun r2 e_2 => ?_)
  have t_3 := gq hS (e := 336) (by decide +kernel) e_2
  subst t_3
  refine pc_gd (fun c_4 => ?_)
  refine pc_gd (fun c_5 => ?_)
  refine pc_bd (fun u5 e_6 => ?_)
  exact wM_fX12_heldOrTapped_L15 N g x1 x2 hS u5 0 1 d hZ
theorem wM_fX12_begin {d0 : Ds} (N : Nat) (g : Gs) (x1 : Int32) (x2 : Int32) (x3 : Int32) (d : Ds) (hS : Shp g) (hZ : FQM d0 d) : pc (fX12_begin N g 328 x1 x2 x3 d) (fun _ d1 => FQM d0 d1) := by
  unfold fX12_begin
  refine pc_gd (fun c_1 => ?_)
  refine pc_ob (fun r2 e_2 => ?_)
  have t_3 := gq hS (e := 336) (by decide +kernel) e_2
  subst t_3
  refine pc_gd (fun c_4 => ?_)
  refine pc_gd (fun c_5 => ?_)
  refine pc_bd (fun d5 e_6 => ?_)
  have z_7 := FQM.i hZ rfl e_6
  refine pc_gd (fun c_8 => ?_)
  refine pc_bd (fun d7 e_9 => ?_)
  have z_10 := FQM.i z_7 rfl e_9
  refine pc_gd (fun c_11 => ?_)
  refine pc_gd (fun c_12 => ?_)
  refine pc_bd (fun d10 e_13 => ?_)
  have z_14 := FQM.i z_10 rfl e_13
  refine pc_bd (fun d11 e_15 => ?_)
  have z_16 := FQM.i z_14 rfl e_15
  exact pc_some z_16
theorem wM_fX12_worksAlone_J190 {d0 : Ds} (N : Nat) (g : Gs) (x1 : Int32) (x2 : Int32) (d : Ds) (hS : Shp g) (hZ : FQM d0 d) : pc (fX12_worksAlone_J190 N g 328 x1 x2 d) (fun _ d1 => FQM d0 d1) := by
  unfold fX12_worksAlone_J190
  refine pc_gd (fun c_1 => ?_)
  refine pc_cv (wM_fX12_reports N g d hS hZ) (fun d28 z_2 => ?_)
  exact pc_some z_2
theorem wM_fX12_worksAlone_J113 {d0 : Ds} (N : Nat) (g : Gs) (x1 : Int32) (x2 : Int32) (d : Ds) (hS : Shp g) (hZ : FQM d0 d) : pc (fX12_worksAlone_J113 N g 328 x1 x2 d) (fun _ d1 => FQM d0 d1) := by
  unfold fX12_worksAlone_J113
  exact wM_fX12_worksAlone_J190 N g x1 x2 d hS hZ
theorem wM_fX12_worksAlone_J108 {d0 : Ds} (N : Nat) (g : Gs) (x1 : Int32) (x2 : Int32) (y6 : Int32) (z0 : Int32) (z1 : Int32) (d : Ds) (hS : Shp g) (hZ : FQM d0 d) : pc (fX12_worksAlone_J108 N g 328 x1 x2 y6 z0 z1 328 d) (fun _ d1 => FQM d0 d1) := by
  unfold fX12_worksAlone_J108
  refine pc_gd (fun c_1 => ?_)
  refine pc_cv (wM_fX12_begin N g z1 z0 y6 d hS hZ) (fun d25 z_2 => ?_)
  exact wM_fX12_worksAlone_J113 N g x1 x2 d25 hS z_2
theorem wM_fX12_worksAlone_J58 {d0 : Ds} (N : Nat) (g : Gs) (x1 : Int32) (x2 : Int32) (y4 : Int32) (y5 : Int32) (y6 : Int32) (d : Ds) (hS : Shp g) (hZ : FQM d0 d) : pc (fX12_worksAlone_J58 N g 328 x1 x2 y4 y5 y6 d) (fun _ d1 => FQM d0 d1) := by
  unfold fX12_worksAlone_J58
  refine pc_gd (fun c_1 => ?_)
  refine pc_cb (wM_fX12_heldOrTapped N g x1 x2 d hS hZ) (fun u18 d16 z_2 => ?_)
  refine pc_if (fun _ => ?_) (fun _ => ?_)
  · refine pc_cv (wM_fX12_drops N g 0 d16 hS z_2) (fun d20 z_3 => ?_)
    refine pc_if (fun _ => ?_) (fun _ => ?_)
    · refine pc_cv (wM_fX12_begin N g x1 0 y5 d20 hS z_3) (fun d30 z_4 => ?_)
      exact wM_fX12_worksAlone_J113 N g x1 x2 d30 hS z_4
    · refine pc_if (fun _ => ?_) (fun _ => ?_)
      · exact wM_fX12_worksAlone_J108 N g x1 x2 y6 2 x1 d20 hS z_3
      · exact wM_fX12_worksAlone_J108 N g x1 x2 y6 1 x1 d20 hS z_3
  · exact pc_some z_2
theorem wM_fX12_onceOrTwice_J86 {d0 : Ds} (N : Nat) (g : Gs) (x1 : Int32) (x2 : Int32) (z0 : Int32) (d : Ds) (hS : Shp g) (hZ : FQM d0 d) : pc (fX12_onceOrTwice_J86 N g 328 x1 x2 z0 d) (fun _ d1 => FQM d0 d1) := by
  unfold fX12_onceOrTwice_J86
  exact pc_some hZ
theorem wM_fX12_onceOrTwice_J62 {d0 : Ds} (N : Nat) (g : Gs) (x1 : Int32) (x2 : Int32) (z0 : Int32) (d : Ds) (hS : Shp g) (hZ : FQM d0 d) : pc (fX12_onceOrTwice_J62 N g 328 x1 x2 z0 d) (fun _ d1 => FQM d0 d1) := by
  unfold fX12_onceOrTwice_J62
  exact pc_some hZ
theorem wM_fX12_onceOrTwice_B13 {d0 : Ds} (N : Nat) (g : Gs) (x1 : Int32) (x2 : Int32) (K13 : Int32 × Int32 × Ds → Option (Int32 × Ds)) (y3 : Int32) (y4 : Int32) (d : Ds) (hS : Shp g) (hZ : FQM d0 d) (hK13 : ∀ a, FQM d0 a.2.2 → pc (K13 a) (fun _ d1 => FQM d0 d1)) : pc (fX12_onceOrTwice_B13 N g 328 x1 x2 K13 y3 y4 d) (fun _ d1 => FQM d0 d1) := by
  unfold fX12_onceOrTwice_B13
  refine pc_gd (fun c_1 => ?_)
  refine pc_ob (fun r7 e_2 => ?_)
  have t_3 := gq hS (e := 336) (by decide +kernel) e_2
  subst t_3
  refine pc_gd (fun c_4 => ?_)
  refine pc_gd (fun c_5 => ?_)
  refine pc_if (fun _ => ?_) (fun _ => ?_)
  · refine pc_gd (fun c_6 => ?_)
    refine pc_if (fun _ => ?_) (fun _ => ?_)
    · exact wM_fX12_onceOrTwice_J86 N g x1 x2 (-1) d hS hZ
    · exact wM_fX12_onceOrTwice_J86 N g x1 x2 0 d hS hZ
  · refine pc_cb (wM_fX12_timeAt N g y4 d hS hZ) (fun u15 d13 z_7 => ?_)
    refine pc_if (fun _ => ?_) (fun _ => ?_)
    · refine pc_cb (wM_fX12_isDownAt N g y4 d13 hS z_7) (fun u19 d17 z_8 => ?_)
      refine pc_if (fun _ => ?_) (fun _ => ?_)
      · refine pc_bd (fun u21 e_9 => ?_)
        exact hK13 _ z_8
      · refine pc_cb (wM_fX12_keyAt N g y4 d17 hS z_8) (fun u24 d22 z_10 => ?_)
        refine pc_if (fun _ => ?_) (fun _ => ?_)
        · exact wM_fX12_onceOrTwice_J62 N g x1 x2 1 d22 hS z_10
        · exact wM_fX12_onceOrTwice_J62 N g x1 x2 0 d22 hS z_10
    · exact pc_some z_7
theorem wM_fX12_onceOrTwice_L13 {d0 : Ds} (N : Nat) (g : Gs) (x1 : Int32) (x2 : Int32) (hS : Shp g) (a0 : Int32) (a1 : Int32) (a2 : Ds) (hZ : FQM d0 a2) : pc (fX12_onceOrTwice_L13 N g 328 x1 x2 (a0, a1, a2)) (fun _ d1 => FQM d0 d1) := by
  unfold fX12_onceOrTwice_L13
  refine pc_lp (fun a => FQM d0 a.2.2) ?_ N (a0, a1, a2) hZ
  rintro K ⟨a0, a1, a2⟩ hZ hK
  exact wM_fX12_onceOrTwice_B13 N g x1 x2 K a0 a1 a2 hS hZ hK
theorem wM_fX12_onceOrTwice {d0 : Ds} (N : Nat) (g : Gs) (x1 : Int32) (x2 : Int32) (d : Ds) (hS : Shp g) (hZ : FQM d0 d) : pc (fX12_onceOrTwice N g 328 x1 x2 d) (fun _ d1 => FQM d0 d1) := by
  unfold fX12_onceOrTwice
  refine pc_gd (fun c_1 => ?_)
  refine pc_ob (fun r2 e_2 => ?_)
  have t_3 := gq hS (e := 336) (by decide +kernel) e_2
  subst t_3
  refine pc_gd (fun c_4 => ?_)
  refine pc_gd (fun c_5 => ?_)
  refine pc_bd (fun u5 e_6 => ?_)
  exact wM_fX12_onceOrTwice_L13 N g x1 x2 hS u5 1 d hZ
theorem wM_fX12_dropsTwo_J47 {d0 : Ds} (N : Nat) (g : Gs) (x1 : Int32) (K30 : Int32 × Ds → Option (Unit × Ds)) (y2 : Int32) (d : Ds) (hS : Shp g) (hZ : FQM d0 d) (hK30 : ∀ a, FQM d0 a.2 → pc (K30 a) (fun _ d1 => FQM d0 d1)) : pc (fX12_dropsTwo_J47 N g 328 x1 K30 y2 d) (fun _ d1 => FQM d0 d1) := by
  unfold fX12_dropsTwo_J47
  refine pc_bd (fun u18 e_1 => ?_)
  exact hK30 _ hZ
theorem wM_fX12_dropsTwo_B30 {d0 : Ds} (N : Nat) (g : Gs) (x1 : Int32) (K30 : Int32 × Ds → Option (Unit × Ds)) (y2 : Int32) (d : Ds) (hS : Shp g) (hZ : FQM d0 d) (hK30 : ∀ a, FQM d0 a.2 → pc (K30 a) (fun _ d1 => FQM d0 d1)) : pc (fX12_dropsTwo_B30 N g 328 x1 K30 y2 d) (fun _ d1 => FQM d0 d1) := by
  unfold fX12_dropsTwo_B30
  refine pc_gd (fun c_1 => ?_)
  refine pc_cb (wM_fX12_keyAt N g y2 d hS hZ) (fun u16 d14 z_2 => ?_)
  refine pc_if (fun _ => ?_) (fun _ => ?_)
  · refine pc_cb (wM_fX12_isDownAt N g y2 d14 hS z_2) (fun u21 d19 z_3 => ?_)
    refine pc_if (fun _ => ?_) (fun _ => ?_)
    · exact wM_fX12_dropsTwo_J47 N g x1 K30 y2 d19 hS z_3 hK30
    · refine pc_cv (wM_fX12_drops N g y2 d19 hS z_3) (fun d23 z_4 => ?_)
      exact pc_some z_4
  · exact wM_fX12_dropsTwo_J47 N g x1 K30 y2 d14 hS z_2 hK30
theorem wM_fX12_dropsTwo_L30 {d0 : Ds} (N : Nat) (g : Gs) (x1 : Int32) (hS : Shp g) (a0 : Int32) (a1 : Ds) (hZ : FQM d0 a1) : pc (fX12_dropsTwo_L30 N g 328 x1 (a0, a1)) (fun _ d1 => FQM d0 d1) := by
  unfold fX12_dropsTwo_L30
  refine pc_lp (fun a => FQM d0 a.2) ?_ N (a0, a1) hZ
  rintro K ⟨a0, a1⟩ hZ hK
  exact wM_fX12_dropsTwo_B30 N g x1 K a0 a1 hS hZ hK
theorem wM_fX12_dropsTwo_J19 {d0 : Ds} (N : Nat) (g : Gs) (x1 : Int32) (K2 : Int32 × Ds → Option (Unit × Ds)) (y2 : Int32) (d : Ds) (hS : Shp g) (hZ : FQM d0 d) (hK2 : ∀ a, FQM d0 a.2 → pc (K2 a) (fun _ d1 => FQM d0 d1)) : pc (fX12_dropsTwo_J19 N g 328 x1 K2 y2 d) (fun _ d1 => FQM d0 d1) := by
  unfold fX12_dropsTwo_J19
  refine pc_bd (fun u6 e_1 => ?_)
  exact hK2 _ hZ
theorem wM_fX12_dropsTwo_B2 {d0 : Ds} (N : Nat) (g : Gs) (x1 : Int32) (K2 : Int32 × Ds → Option (Unit × Ds)) (y2 : Int32) (d : Ds) (hS : Shp g) (hZ : FQM d0 d) (hK2 : ∀ a, FQM d0 a.2 → pc (K2 a) (fun _ d1 => FQM d0 d1)) : pc (fX12_dropsTwo_B2 N g 328 x1 K2 y2 d) (fun _ d1 => FQM d0 d1) := by
  unfold fX12_dropsTwo_B2
  refine pc_gd (fun c_1 => ?_)
  refine pc_cb (wM_fX12_keyAt N g y2 d hS hZ) (fun u4 d2 z_2 => ?_)
  refine pc_if (fun _ => ?_) (fun _ => ?_)
  · refine pc_cb (wM_fX12_isDownAt N g y2 d2 hS z_2) (fun u9 d7 z_3 => ?_)
    refine pc_if (fun _ => ?_) (fun _ => ?_)
    · refine pc_cv (wM_fX12_drops N g y2 d7 hS z_3) (fun d11 z_4 => ?_)
      exact wM_fX12_dropsTwo_L30 N g x1 hS y2 d11 z_4
    · exact wM_fX12_dropsTwo_J19 N g x1 K2 y2 d7 hS z_3 hK2
  · exact wM_fX12_dropsTwo_J19 N g x1 K2 y2 d2 hS z_2 hK2
theorem wM_fX12_dropsTwo_L2 {d0 : Ds} (N : Nat) (g : Gs) (x1 : Int32) (hS : Shp g) (a0 : Int32) (a1 : Ds) (hZ : FQM d0 a1) : pc (fX12_dropsTwo_L2 N g 328 x1 (a0, a1)) (fun _ d1 => FQM d0 d1) := by
  unfold fX12_dropsTwo_L2
  refine pc_lp (fun a => FQM d0 a.2) ?_ N (a0, a1) hZ
  rintro K ⟨a0, a1⟩ hZ hK
  exact wM_fX12_dropsTwo_B2 N g x1 K a0 a1 hS hZ hK
theorem wM_fX12_dropsTwo {d0 : Ds} (N : Nat) (g : Gs) (x1 : Int32) (d : Ds) (hS : Shp g) (hZ : FQM d0 d) : pc (fX12_dropsTwo N g 328 x1 d) (fun _ d1 => FQM d0 d1) := by
  unfold fX12_dropsTwo
  exact wM_fX12_dropsTwo_L2 N g x1 hS 0 d hZ
theorem wM_fX12_worksAlone_J170 {d0 : Ds} (N : Nat) (g : Gs) (x1 : Int32) (x2 : Int32) (z0 : Int32) (z1 : Int32) (z2 : Int32) (d : Ds) (hS : Shp g) (hZ : FQM d0 d) : pc (fX12_worksAlone_J170 N g 328 x1 x2 z0 z1 z2 328 d) (fun _ d1 => FQM d0 d1) := by
  unfold fX12_worksAlone_J170
  refine pc_gd (fun c_1 => ?_)
  refine pc_cv (wM_fX12_begin N g z2 z1 z0 d hS hZ) (fun d47 z_2 => ?_)
  exact wM_fX12_worksAlone_J190 N g x1 x2 d47 hS z_2
theorem wM_fX12_worksAlone_J154 {d0 : Ds} (N : Nat) (g : Gs) (x1 : Int32) (x2 : Int32) (y5 : Int32) (y6 : Int32) (y7 : Int32) (d : Ds) (hS : Shp g) (hZ : FQM d0 d) : pc (fX12_worksAlone_J154 N g 328 x1 x2 y5 y6 y7 d) (fun _ d1 => FQM d0 d1) := by
  unfold fX12_worksAlone_J154
  refine pc_if (fun _ => ?_) (fun _ => ?_)
  · exact wM_fX12_worksAlone_J170 N g x1 x2 y6 0 x1 d hS hZ
  · exact wM_fX12_worksAlone_J170 N g x1 x2 y5 0 x1 d hS hZ
theorem wM_fX12_plays_B23 {d0 : Ds} (N : Nat) (g : Gs) (x1 : Int32) (K23 : Int32 × Int32 × Ds → Option (Unit × Ds)) (y2 : Int32) (y3 : Int32) (d : Ds) (hS : Shp g) (hZ : FQM d0 d) (hK23 : ∀ a, FQM d0 a.2.2 → pc (K23 a) (fun _ d1 => FQM d0 d1)) : pc (fX12_plays_B23 N g 328 x1 K23 y2 y3 d) (fun _ d1 => FQM d0 d1) := by
  unfold fX12_plays_B23
  refine pc_gd (fun c_1 => ?_)
  refine pc_ob (fun r8 e_2 => ?_)
  have t_3 := gq hS (e := 336) (by decide +kernel) e_2
  subst t_3
  refine pc_gd (fun c_4 => ?_)
  refine pc_gd (fun c_5 => ?_)
  refine pc_if (fun _ => ?_) (fun _ => ?_)
  · exact pc_some hZ
  · refine pc_gd (fun c_6 => ?_)
    refine pc_gd (fun c_7 => ?_)
    refine pc_bd (fun d14 e_8 => ?_)
    have z_9 := FQM.i hZ rfl e_8
    refine pc_cv (wM_fX12_reports N g d14 hS z_9) (fun d15 z_10 => ?_)
    refine pc_bd (fun d17 e_11 => ?_)
    have z_12 := FQM.i z_10 rfl e_11
    refine pc_cv (wM_fX12_reports N g d17 hS z_12) (fun d18 z_13 => ?_)
    refine pc_bd (fun u20 e_14 => ?_)
    exact hK23 _ z_13
theorem wM_fX12_plays_L23 {d0 : Ds} (N : Nat) (g : Gs) (x1 : Int32) (hS : Shp g) (a0 : Int32) (a1 : Int32) (a2 : Ds) (hZ : FQM d0 a2) : pc (fX12_plays_L23 N g 328 x1 (a0, a1, a2)) (fun _ d1 => FQM d0 d1) := by
  unfold fX12_plays_L23
  refine pc_lp (fun a => FQM d0 a.2.2) ?_ N (a0, a1, a2) hZ
  rintro K ⟨a0, a1, a2⟩ hZ hK
  exact wM_fX12_plays_B23 N g x1 K a0 a1 a2 hS hZ hK
theorem wM_fX12_plays {d0 : Ds} (N : Nat) (g : Gs) (x1 : Int32) (d : Ds) (hS : Shp g) (hZ : FQM d0 d) : pc (fX12_plays N g 328 x1 d) (fun _ d1 => FQM d0 d1) := by
  unfold fX12_plays
  refine pc_gd (fun c_1 => ?_)
  refine pc_ob (fun r2 e_2 => ?_)
  have t_3 := gq hS (e := 336) (by decide +kernel) e_2
  subst t_3
  refine pc_gd (fun c_4 => ?_)
  refine pc_gd (fun c_5 => ?_)
  refine pc_if (fun _ => ?_) (fun _ => ?_)
  · refine pc_bd (fun u6 e_6 => ?_)
    exact wM_fX12_plays_L23 N g x1 hS u6 1 d hZ
  · exact pc_some hZ
theorem wM_fX12_doesPlainly_J42 {d0 : Ds} (N : Nat) (g : Gs) (x1 : Int32) (x2 : Int32) (x3 : Int32) (d : Ds) (hS : Shp g) (hZ : FQM d0 d) : pc (fX12_doesPlainly_J42 N g 328 x1 x2 x3 d) (fun _ d1 => FQM d0 d1) := by
  unfold fX12_doesPlainly_J42
  exact pc_some hZ
theorem wM_fX12_doesPlainly_J31 {d0 : Ds} (N : Nat) (g : Gs) (x1 : Int32) (x2 : Int32) (x3 : Int32) (d : Ds) (hS : Shp g) (hZ : FQM d0 d) : pc (fX12_doesPlainly_J31 N g 328 x1 x2 x3 d) (fun _ d1 => FQM d0 d1) := by
  unfold fX12_doesPlainly_J31
  refine pc_if (fun _ => ?_) (fun _ => ?_)
  · refine pc_gd (fun c_1 => ?_)
    refine pc_cv (wM_fX12_plays N g x3 d hS hZ) (fun d5 z_2 => ?_)
    exact wM_fX12_doesPlainly_J42 N g x1 x2 x3 d5 hS z_2
  · exact wM_fX12_doesPlainly_J42 N g x1 x2 x3 d hS hZ
theorem wM_fX12_doesPlainly_J12 {d0 : Ds} (N : Nat) (g : Gs) (x1 : Int32) (x2 : Int32) (x3 : Int32) (d : Ds) (hS : Shp g) (hZ : FQM d0 d) : pc (fX12_doesPlainly_J12 N g 328 x1 x2 x3 d) (fun _ d1 => FQM d0 d1) := by
  unfold fX12_doesPlainly_J12
  refine pc_if (fun _ => ?_) (fun _ => ?_)
  · refine pc_gd (fun c_1 => ?_)
    refine pc_ob (fun r8 e_2 => ?_)
    have t_3 := gq hS (e := 336) (by decide +kernel) e_2
    subst t_3
    refine pc_gd (fun c_4 => ?_)
    refine pc_gd (fun c_5 => ?_)
    refine pc_bd (fun d11 e_6 => ?_)
    have z_7 := FQM.i hZ rfl e_6
    exact wM_fX12_doesPlainly_J31 N g x1 x2 x3 d11 hS z_7
  · exact wM_fX12_doesPlainly_J31 N g x1 x2 x3 d hS hZ
theorem wM_fX12_doesPlainly {d0 : Ds} (N : Nat) (g : Gs) (x1 : Int32) (x2 : Int32) (x3 : Int32) (d : Ds) (hS : Shp g) (hZ : FQM d0 d) : pc (fX12_doesPlainly N g 328 x1 x2 x3 d) (fun _ d1 => FQM d0 d1) := by
  unfold fX12_doesPlainly
  refine pc_if (fun _ => ?_) (fun _ => ?_)
  · exact wM_fX12_doesPlainly_J12 N g x1 x2 x3 d hS hZ
  · refine pc_gd (fun c_1 => ?_)
    refine pc_cv (wM_fX12_begin N g x1 x2 x3 d hS hZ) (fun d13 z_2 => ?_)
    exact wM_fX12_doesPlainly_J12 N g x1 x2 x3 d13 hS z_2
theorem wM_fX12_worksAlone {d0 : Ds} (N : Nat) (g : Gs) (x1 : Int32) (x2 : Int32) (d : Ds) (hS : Shp g) (hZ : FQM d0 d) : pc (fX12_worksAlone N g 328 x1 x2 d) (fun _ d1 => FQM d0 d1) := by
  unfold fX12_worksAlone
  refine pc_gd (fun c_1 => ?_)
  refine pc_cb (wM_fX12_layerOf N g x1 d hS hZ) (fun u4 d2 z_2 => ?_)
  refine pc_bd (fun u5 e_3 => ?_)
  refine pc_ob (fun r6 e_4 => ?_)
  have t_5 := gq hS (e := 336) (by decide +kernel) e_4
  subst t_5
  refine pc_gd (fun c_6 => ?_)
  refine pc_gd (fun c_7 => ?_)
  refine pc_bd (fun u9 e_8 => ?_)
  refine pc_gd (fun c_9 => ?_)
  refine pc_bd (fun u11 e_10 => ?_)
  refine pc_gd (fun c_11 => ?_)
  refine pc_bd (fun u13 e_12 => ?_)
  refine pc_if (fun _ => ?_) (fun _ => ?_)
  · exact wM_fX12_worksAlone_J58 N g x1 x2 u9 u11 u13 d2 hS z_2
  · refine pc_if (fun _ => ?_) (fun _ => ?_)
    · exact wM_fX12_worksAlone_J58 N g x1 x2 u9 u11 u13 d2 hS z_2
    · refine pc_if (fun _ => ?_) (fun _ => ?_)
      · refine pc_cb (wM_fX12_onceOrTwice N g x1 x2 d2 hS z_2) (fun u40 d38 z_13 => ?_)
        refine pc_if (fun _ => ?_) (fun _ => ?_)
        · refine pc_cv (wM_fX12_drops N g 0 d38 hS z_13) (fun d42 z_14 => ?_)
          refine pc_if (fun _ => ?_) (fun _ => ?_)
          · refine pc_cv (wM_fX12_dropsTwo N g x1 d42 hS z_14) (fun d49 z_15 => ?_)
            exact wM_fX12_worksAlone_J154 N g x1 x2 u11 u13 u40 d49 hS z_15
          · exact wM_fX12_worksAlone_J154 N g x1 x2 u11 u13 u40 d42 hS z_14
        · exact pc_some z_13
      · refine pc_cv (wM_fX12_drops N g 0 d2 hS z_2) (fun d34 z_16 => ?_)
        refine pc_cv (wM_fX12_doesPlainly N g x1 u9 u11 d34 hS z_16) (fun d36 z_17 => ?_)
        exact wM_fX12_worksAlone_J190 N g x1 x2 d36 hS z_17
theorem wM_fX12_works_J179 {d0 : Ds} (N : Nat) (g : Gs) (y1 : Int32) (y2 : Int32) (d : Ds) (hS : Shp g) (hZ : FQM d0 d) : pc (fX12_works_J179 N g 328 y1 y2 d) (fun _ d1 => FQM d0 d1) := by
  unfold fX12_works_J179
  refine pc_gd (fun c_1 => ?_)
  refine pc_cb (wM_fX12_worksAlone N g y1 y2 d hS hZ) (fun u19 d17 z_2 => ?_)
  refine pc_gd (fun c_3 => ?_)
  exact pc_some z_2
theorem wM_fX12_chords {d0 : Ds} (N : Nat) (g : Gs) (x1 : Int32) (x2 : Int32) (x3 : Int32) (d : Ds) (hS : Shp g) (hZ : FQM d0 d) : pc (fX12_chords N g 328 x1 x2 x3 d) (fun _ d1 => FQM d0 d1) := by
  unfold fX12_chords
  refine pc_gd (fun c_1 => ?_)
  refine pc_ob (fun r2 e_2 => ?_)
  have t_3 := gq hS (e := 336) (by decide +kernel) e_2
  subst t_3
  refine pc_gd (fun c_4 => ?_)
  refine pc_gd (fun c_5 => ?_)
  refine pc_bd (fun u5 e_6 => ?_)
  refine pc_gd (fun c_7 => ?_)
  refine pc_bd (fun u7 e_8 => ?_)
  refine pc_if (fun _ => ?_) (fun _ => ?_)
  · refine pc_cv (wM_fX12_plays N g u7 d hS hZ) (fun d15 z_9 => ?_)
    exact pc_some z_9
  · refine pc_cv (wM_fX12_begin N g x2 u5 u7 d hS hZ) (fun d9 z_10 => ?_)
    refine pc_cv (wM_fX12_begin N g x3 u5 u7 d9 hS z_10) (fun d11 z_11 => ?_)
    refine pc_gd (fun c_12 => ?_)
    refine pc_bd (fun d14 e_13 => ?_)
    have z_14 := FQM.i z_11 rfl e_13
    exact pc_some z_14
theorem wM_fX12_works_J115 {d0 : Ds} (N : Nat) (g : Gs) (y1 : Int32) (y2 : Int32) (y3 : Int32) (y4 : Int32) (y5 : Int32) (d : Ds) (hS : Shp g) (hZ : FQM d0 d) : pc (fX12_works_J115 N g 328 y1 y2 y3 y4 y5 d) (fun _ d1 => FQM d0 d1) := by
  unfold fX12_works_J115
  refine pc_gd (fun c_1 => ?_)
  refine pc_ob (fun r32 e_2 => ?_)
  have t_3 := gq hS (e := 336) (by decide +kernel) e_2
  subst t_3
  refine pc_gd (fun c_4 => ?_)
  refine pc_gd (fun c_5 => ?_)
  refine pc_if (fun _ => ?_) (fun _ => ?_)
  · exact wM_fX12_works_J179 N g y1 y2 d hS hZ
  · refine pc_cb (wM_fX12_isDownAt N g 1 d hS hZ) (fun u38 d36 z_6 => ?_)
    refine pc_if (fun _ => ?_) (fun _ => ?_)
    · exact wM_fX12_works_J179 N g y1 y2 d36 hS z_6
    · refine pc_cb (wM_fX12_keyAt N g 1 d36 hS z_6) (fun u42 d40 z_7 => ?_)
      refine pc_if (fun _ => ?_) (fun _ => ?_)
      · refine pc_cb (wM_fX12_timeAt N g 1 d40 hS z_7) (fun u46 d44 z_8 => ?_)
        refine pc_if (fun _ => ?_) (fun _ => ?_)
        · exact wM_fX12_works_J179 N g y1 y2 d44 hS z_8
        · refine pc_cv (wM_fX12_drops N g 0 d44 hS z_8) (fun d48 z_9 => ?_)
          refine pc_cv (wM_fX12_drops N g 0 d48 hS z_9) (fun d50 z_10 => ?_)
          refine pc_cv (wM_fX12_chords N g y3 y1 y4 d50 hS z_10) (fun d52 z_11 => ?_)
          refine pc_cv (wM_fX12_reports N g d52 hS z_11) (fun d54 z_12 => ?_)
          exact pc_some z_12
      · exact wM_fX12_works_J179 N g y1 y2 d40 hS z_7
theorem wM_fX12_works {d0 : Ds} (N : Nat) (g : Gs) (d : Ds) (hS : Shp g) (hZ : FQM d0 d) : pc (fX12_works N g 328 d) (fun _ d1 => FQM d0 d1) := by
  unfold fX12_works
  refine pc_gd (fun c_1 => ?_)
  refine pc_cb (wM_fX12_keyAt N g 0 d hS hZ) (fun u4 d2 z_2 => ?_)
  refine pc_cb (wM_fX12_isDownAt N g 0 d2 hS z_2) (fun u7 d5 z_3 => ?_)
  refine pc_if (fun _ => ?_) (fun _ => ?_)
  · refine pc_cv (wM_fX12_drops N g 0 d5 hS z_3) (fun d58 z_4 => ?_)
    refine pc_cv (wM_fX12_ends N g u4 d58 hS z_4) (fun d60 z_5 => ?_)
    refine pc_cv (wM_fX12_reports N g d60 hS z_5) (fun d62 z_6 => ?_)
    exact pc_some z_6
  · refine pc_cb (wM_fX12_timeAt N g 0 d5 hS z_3) (fun u11 d9 z_7 => ?_)
    refine pc_cb (wM_fX12_chordOf N g u4 d9 hS z_7) (fun u14 d12 z_8 => ?_)
    refine pc_if (fun _ => ?_) (fun _ => ?_)
    · exact wM_fX12_works_J179 N g u4 u11 d12 hS z_8
    · refine pc_ob (fun r21 e_9 => ?_)
      have t_10 := gq hS (e := 336) (by decide +kernel) e_9
      subst t_10
      refine pc_gd (fun c_11 => ?_)
      refine pc_gd (fun c_12 => ?_)
      refine pc_gd (fun c_13 => ?_)
      refine pc_bd (fun u25 e_14 => ?_)
      refine pc_bd (fun u26 e_15 => ?_)
      refine pc_gd (fun c_16 => ?_)
      refine pc_bd (fun u28 e_17 => ?_)
      refine pc_gd (fun c_18 => ?_)
      refine pc_if (fun _ => ?_) (fun _ => ?_)
      · refine pc_gd (fun c_19 => ?_)
        refine pc_if (fun _ => ?_) (fun _ => ?_)
        · exact wM_fX12_works_J115 N g u4 u11 u14 u26 u28 d12 hS z_8
        · exact pc_some z_8
      · exact wM_fX12_works_J115 N g u4 u11 u14 u26 u28 d12 hS z_8
theorem wM_fX12_ticks_B139 {d0 : Ds} (N : Nat) (g : Gs) (K139 : Int32 × Int32 × Ds → Option (Unit × Ds)) (y1 : Int32) (y3 : Int32) (d : Ds) (hS : Shp g) (hZ : FQM d0 d) (hK139 : ∀ a, FQM d0 a.2.2 → pc (K139 a) (fun _ d1 => FQM d0 d1)) : pc (fX12_ticks_B139 N g 328 K139 y1 y3 d) (fun _ d1 => FQM d0 d1) := by
  unfold fX12_ticks_B139
  refine pc_if (fun _ => ?_) (fun _ => ?_)
  · exact wM_fX12_ticks_J162 N g y1 d hS hZ
  · refine pc_gd (fun c_1 => ?_)
    refine pc_ob (fun r41 e_2 => ?_)
    have t_3 := gq hS (e := 336) (by decide +kernel) e_2
    subst t_3
    refine pc_gd (fun c_4 => ?_)
    refine pc_gd (fun c_5 => ?_)
    refine pc_if (fun _ => ?_) (fun _ => ?_)
    · exact wM_fX12_ticks_J162 N g y1 d hS hZ
    · refine pc_cb (wM_fX12_works N g d hS hZ) (fun u47 d45 z_6 => ?_)
      exact hK139 _ z_6
theorem wM_fX12_ticks_L139 {d0 : Ds} (N : Nat) (g : Gs) (hS : Shp g) (a0 : Int32) (a1 : Int32) (a2 : Ds) (hZ : FQM d0 a2) : pc (fX12_ticks_L139 N g 328 (a0, a1, a2)) (fun _ d1 => FQM d0 d1) := by
  unfold fX12_ticks_L139
  refine pc_lp (fun a => FQM d0 a.2.2) ?_ N (a0, a1, a2) hZ
  rintro K ⟨a0, a1, a2⟩ hZ hK
  exact wM_fX12_ticks_B139 N g K a0 a1 a2 hS hZ hK
theorem wM_fX12_changes_J222 {d0 : Ds} (N : Nat) (g : Gs) (x1 : Int32) (d : Ds) (hS : Shp g) (hZ : FQM d0 d) : pc (fX12_changes_J222 N g 328 x1 d) (fun _ d1 => FQM d0 d1) := by
  unfold fX12_changes_J222
  exact pc_some hZ
theorem wM_fX12_changes_J195 {d0 : Ds} (N : Nat) (g : Gs) (x1 : Int32) (y4 : Int32) (d : Ds) (hS : Shp g) (hZ : FQM d0 d) : pc (fX12_changes_J195 N g 328 x1 y4 d) (fun _ d1 => FQM d0 d1) := by
  unfold fX12_changes_J195
  refine pc_gd (fun c_1 => ?_)
  refine pc_ob (fun r35 e_2 => ?_)
  have t_3 := gq hS (e := 336) (by decide +kernel) e_2
  subst t_3
  refine pc_gd (fun c_4 => ?_)
  refine pc_gd (fun c_5 => ?_)
  refine pc_if (fun _ => ?_) (fun _ => ?_)
  · exact wM_fX12_changes_J222 N g x1 d hS hZ
  · refine pc_bd (fun d39 e_6 => ?_)
    have z_7 := FQM.i hZ rfl e_6
    exact wM_fX12_changes_J222 N g x1 d39 hS z_7
theorem wM_fX12_changes_J76 {d0 : Ds} (N : Nat) (g : Gs) (x1 : Int32) (y2 : Int32) (y3 : Int32) (z0 : Int32) (z1 : Int32) (d : Ds) (hS : Shp g) (hZ : FQM d0 d) : pc (fX12_changes_J76 N g 328 x1 y2 y3 z0 z1 336 d) (fun _ d1 => FQM d0 d1) := by
  unfold fX12_changes_J76
  refine pc_gd (fun c_1 => ?_)
  refine pc_gd (fun c_2 => ?_)
  refine pc_bd (fun d18 e_3 => ?_)
  have z_4 := FQM.i hZ rfl e_3
  refine pc_gd (fun c_5 => ?_)
  refine pc_ob (fun r20 e_6 => ?_)
  have t_7 := gq hS (e := 336) (by decide +kernel) e_6
  subst t_7
  refine pc_gd (fun c_8 => ?_)
  refine pc_gd (fun c_9 => ?_)
  refine pc_gd (fun c_10 => ?_)
  refine pc_bd (fun d24 e_11 => ?_)
  have z_12 := FQM.i z_4 rfl e_11
  refine pc_gd (fun c_13 => ?_)
  refine pc_bd (fun d26 e_14 => ?_)
  have z_15 := FQM.i z_12 rfl e_14
  refine pc_gd (fun c_16 => ?_)
  refine pc_bd (fun d28 e_17 => ?_)
  have z_18 := FQM.i z_15 rfl e_17
  refine pc_gd (fun c_19 => ?_)
  refine pc_bd (fun d30 e_20 => ?_)
  have z_21 := FQM.i z_18 rfl e_20
  refine pc_if (fun _ => ?_) (fun _ => ?_)
  · refine pc_gd (fun c_22 => ?_)
    refine pc_bd (fun u33 e_23 => ?_)
    exact wM_fX12_changes_J195 N g x1 u33 d30 hS z_21
  · refine pc_gd (fun c_24 => ?_)
    refine pc_bd (fun d41 e_25 => ?_)
    have z_26 := FQM.i z_21 rfl e_25
    refine pc_gd (fun c_27 => ?_)
    refine pc_bd (fun d43 e_28 => ?_)
    have z_29 := FQM.i z_26 rfl e_28
    exact wM_fX12_changes_J222 N g x1 d43 hS z_29
theorem wM_fX12_changes {d0 : Ds} (N : Nat) (g : Gs) (x1 : Int32) (d : Ds) (hS : Shp g) (hZ : FQM d0 d) : pc (fX12_changes N g 328 x1 d) (fun _ d1 => FQM d0 d1) := by
  unfold fX12_changes
  refine pc_gd (fun c_1 => ?_)
  refine pc_ob (fun r2 e_2 => ?_)
  have t_3 := gq hS (e := 336) (by decide +kernel) e_2
  subst t_3
  refine pc_gd (fun c_4 => ?_)
  refine pc_gd (fun c_5 => ?_)
  refine pc_bd (fun d5 e_6 => ?_)
  have z_7 := FQM.i hZ rfl e_6
  refine pc_gd (fun c_8 => ?_)
  refine pc_bd (fun d7 e_9 => ?_)
  have z_10 := FQM.i z_7 rfl e_9
  refine pc_cb (wM_fX12_has N g (dI d7 336 (353 : Int32).toNatClampNeg) x1 d7 hS z_10) (fun u10 d8 z_11 => ?_)
  refine pc_gd (fun c_12 => ?_)
  refine pc_bd (fun u12 e_13 => ?_)
  refine pc_gd (fun c_14 => ?_)
  refine pc_bd (fun d14 e_15 => ?_)
  have z_16 := FQM.i z_11 rfl e_15
  refine pc_if (fun _ => ?_) (fun _ => ?_)
  · exact wM_fX12_changes_J76 N g x1 u10 u12 0 (u12 + 1) d14 hS z_16
  · exact wM_fX12_changes_J76 N g x1 u10 u12 1 (u12 + 1) d14 hS z_16
theorem wM_fX12_ticks_J131 {d0 : Ds} (N : Nat) (g : Gs) (K33 : Int32 × Int32 × Int32 × Ds → Option (Unit × Ds)) (y1 : Int32) (y2 : Int32) (y3 : Int32) (d : Ds) (hS : Shp g) (hZ : FQM d0 d) (hK33 : ∀ a, FQM d0 a.2.2.2 → pc (K33 a) (fun _ d1 => FQM d0 d1)) : pc (fX12_ticks_J131 N g 328 K33 y1 y2 y3 d) (fun _ d1 => FQM d0 d1) := by
  unfold fX12_ticks_J131
  refine pc_bd (fun u64 e_1 => ?_)
  exact hK33 _ hZ
theorem wM_fX12_ticks_J106 {d0 : Ds} (N : Nat) (g : Gs) (K33 : Int32 × Int32 × Int32 × Ds → Option (Unit × Ds)) (y1 : Int32) (y2 : Int32) (y3 : Int32) (z0 : Int32) (z1 : Int32) (d : Ds) (hS : Shp g) (hZ : FQM d0 d) (hK33 : ∀ a, FQM d0 a.2.2.2 → pc (K33 a) (fun _ d1 => FQM d0 d1)) : pc (fX12_ticks_J106 N g 328 K33 y1 y2 y3 z0 z1 336 d) (fun _ d1 => FQM d0 d1) := by
  unfold fX12_ticks_J106
  refine pc_gd (fun c_1 => ?_)
  refine pc_gd (fun c_2 => ?_)
  refine pc_bd (fun d57 e_3 => ?_)
  have z_4 := FQM.i hZ rfl e_3
  refine pc_gd (fun c_5 => ?_)
  refine pc_ob (fun r59 e_6 => ?_)
  have t_7 := gq hS (e := 336) (by decide +kernel) e_6
  subst t_7
  refine pc_gd (fun c_8 => ?_)
  refine pc_gd (fun c_9 => ?_)
  refine pc_gd (fun c_10 => ?_)
  refine pc_if (fun _ => ?_) (fun _ => ?_)
  · refine pc_cv (wM_fX12_changes N g y3 d57 hS z_4) (fun d65 z_11 => ?_)
    exact wM_fX12_ticks_J131 N g K33 y1 y2 y3 d65 hS z_11 hK33
  · exact wM_fX12_ticks_J131 N g K33 y1 y2 y3 d57 hS z_4 hK33
theorem wM_fX12_ticks_J74 {d0 : Ds} (N : Nat) (g : Gs) (K33 : Int32 × Int32 × Int32 × Ds → Option (Unit × Ds)) (y1 : Int32) (y2 : Int32) (y3 : Int32) (z0 : Int32) (d : Ds) (hS : Shp g) (hZ : FQM d0 d) (hK33 : ∀ a, FQM d0 a.2.2.2 → pc (K33 a) (fun _ d1 => FQM d0 d1)) : pc (fX12_ticks_J74 N g 328 K33 y1 y2 y3 z0 d) (fun _ d1 => FQM d0 d1) := by
  unfold fX12_ticks_J74
  refine pc_gd (fun c_1 => ?_)
  refine pc_ob (fun r53 e_2 => ?_)
  have t_3 := gq hS (e := 336) (by decide +kernel) e_2
  subst t_3
  refine pc_if (fun _ => ?_) (fun _ => ?_)
  · exact wM_fX12_ticks_J106 N g K33 y1 y2 y3 0 ((355 : Int32) + y3) d hS hZ hK33
  · refine pc_gd (fun c_4 => ?_)
    refine pc_gd (fun c_5 => ?_)
    exact wM_fX12_ticks_J106 N g K33 y1 y2 y3 ((dI d 336 ((355 : Int32) + y3).toNatClampNeg) + 1) ((355 : Int32) + y3) d hS hZ hK33
theorem wM_fX12_ticks_J73 {d0 : Ds} (N : Nat) (g : Gs) (K33 : Int32 × Int32 × Int32 × Ds → Option (Unit × Ds)) (y1 : Int32) (y2 : Int32) (y3 : Int32) (d : Ds) (hS : Shp g) (hZ : FQM d0 d) (hK33 : ∀ a, FQM d0 a.2.2.2 → pc (K33 a) (fun _ d1 => FQM d0 d1)) : pc (fX12_ticks_J73 N g 328 K33 y1 y2 y3 d) (fun _ d1 => FQM d0 d1) := by
  unfold fX12_ticks_J73
  exact wM_fX12_ticks_J74 N g K33 y1 y2 y3 0 d hS hZ hK33
theorem wM_fX12_ticks_B33 {d0 : Ds} (N : Nat) (g : Gs) (K33 : Int32 × Int32 × Int32 × Ds → Option (Unit × Ds)) (y1 : Int32) (y2 : Int32) (y3 : Int32) (d : Ds) (hS : Shp g) (hZ : FQM d0 d) (hK33 : ∀ a, FQM d0 a.2.2.2 → pc (K33 a) (fun _ d1 => FQM d0 d1)) : pc (fX12_ticks_B33 N g 328 K33 y1 y2 y3 d) (fun _ d1 => FQM d0 d1) := by
  unfold fX12_ticks_B33
  refine pc_gd (fun c_1 => ?_)
  refine pc_cb (wM_fX12_keysMany N g d hS hZ) (fun u16 d14 z_2 => ?_)
  refine pc_if (fun _ => ?_) (fun _ => ?_)
  · exact wM_fX12_ticks_L139 N g hS y1 1 d14 z_2
  · refine pc_cb (wM_fX12_has N g y2 y3 d14 hS z_2) (fun u50 d48 z_3 => ?_)
    refine pc_if (fun _ => ?_) (fun _ => ?_)
    · refine pc_cb (wM_fX12_has N g y1 y3 d48 hS z_3) (fun u71 d69 z_4 => ?_)
      refine pc_ob (fun r72 e_5 => ?_)
      have t_6 := gq hS (e := 336) (by decide +kernel) e_5
      subst t_6
      refine pc_gd (fun c_7 => ?_)
      refine pc_gd (fun c_8 => ?_)
      refine pc_cb (wM_fX12_has N g (dI d69 336 (353 : Int32).toNatClampNeg) y3 d69 hS z_4) (fun u77 d75 z_9 => ?_)
      refine pc_if (fun _ => ?_) (fun _ => ?_)
      · exact wM_fX12_ticks_J73 N g K33 y1 y2 y3 d75 hS z_9 hK33
      · exact wM_fX12_ticks_J74 N g K33 y1 y2 y3 1 d75 hS z_9 hK33
    · exact wM_fX12_ticks_J73 N g K33 y1 y2 y3 d48 hS z_3 hK33
theorem wM_fX12_ticks_L33 {d0 : Ds} (N : Nat) (g : Gs) (hS : Shp g) (a0 : Int32) (a1 : Int32) (a2 : Int32) (a3 : Ds) (hZ : FQM d0 a3) : pc (fX12_ticks_L33 N g 328 (a0, a1, a2, a3)) (fun _ d1 => FQM d0 d1) := by
  unfold fX12_ticks_L33
  refine pc_lp (fun a => FQM d0 a.2.2.2) ?_ N (a0, a1, a2, a3) hZ
  rintro K ⟨a0, a1, a2, a3⟩ hZ hK
  exact wM_fX12_ticks_B33 N g K a0 a1 a2 a3 hS hZ hK
theorem wM_fX12_ticks {d0 : Ds} (N : Nat) (g : Gs) (d : Ds) (hS : Shp g) (hZ : FQM d0 d) : pc (fX12_ticks N g 328 d) (fun _ d1 => FQM d0 d1) := by
  unfold fX12_ticks
  refine pc_gd (fun c_1 => ?_)
  refine pc_ob (fun r2 e_2 => ?_)
  have t_3 := gq hS (e := 336) (by decide +kernel) e_2
  subst t_3
  refine pc_gd (fun c_4 => ?_)
  refine pc_gd (fun c_5 => ?_)
  refine pc_bd (fun d5 e_6 => ?_)
  have z_7 := FQM.i hZ rfl e_6
  refine pc_gd (fun c_8 => ?_)
  refine pc_cb (wM_fX12_seenBy N g (dI d5 336 (352 : Int32).toNatClampNeg) d5 hS z_7) (fun u9 d7 z_9 => ?_)
  refine pc_cb (wM_fX12_barredBy N g u9 d7 hS z_9) (fun u12 d10 z_10 => ?_)
  exact wM_fX12_ticks_L33 N g hS u9 u12 0 d10 z_10
