/-! what the calls of family A leave alone -/
def fp_A (r : Nat) : Bool := decide (247 ≤ r) && decide (r ≤ 266)
def FQA (d d' : Ds) : Prop := (∀ r j, fp_A r = false → dI d' r j = dI d r j) ∧ ∀ r j, fp_A r = false → dF d' r j = dF d r j
theorem FQA.rf {d : Ds} : FQA d d := ⟨fun _ _ _ => rfl, fun _ _ _ => rfl⟩
theorem FQA.i {d0 d d1 : Ds} {r j : Nat} {v : Int32} (h : FQA d0 d) (hr : fp_A r = true) (e : d1 = sI d r j v) : FQA d0 d1 := by
  subst e
  refine ⟨fun r' i q => ?_, h.2⟩
  rw [sI_rd, if_neg (fun z => by rw [z.1, hr] at q; exact absurd q (by decide))]
  exact h.1 r' i q
theorem FQA.f {d0 d d1 : Ds} {r j : Nat} {v : UInt32} (h : FQA d0 d) (hr : fp_A r = true) (e : d1 = sF d r j v) : FQA d0 d1 := by
  subst e
  refine ⟨h.1, fun r' i q => ?_⟩
  rw [sF_rd, if_neg (fun z => by rw [z.1, hr] at q; exact absurd q (by decide))]
  exact h.2 r' i q
theorem FQA.ci {d0 d d1 : Ds} {a r sp dp n : Nat} (h : FQA d0 d) (hr : fp_A r = true) (e : d1 = cI d a r sp dp n) : FQA d0 d1 := by
  subst e
  refine ⟨fun r' i q => ?_, h.2⟩
  rw [cI_rd, if_neg (fun z => by rw [z.1, hr] at q; exact absurd q (by decide))]
  exact h.1 r' i q
theorem FQA.cf {d0 d d1 : Ds} {a r sp dp n : Nat} (h : FQA d0 d) (hr : fp_A r = true) (e : d1 = cF d a r sp dp n) : FQA d0 d1 := by
  subst e
  refine ⟨h.1, fun r' i q => ?_⟩
  rw [cF_rd, if_neg (fun z => by rw [z.1, hr] at q; exact absurd q (by decide))]
  exact h.2 r' i q
theorem FQA.l {d0 d d1 : Ds} {r j : Nat} {v : Int64} (h : FQA d0 d) (e : d1 = sL d r j v) : FQA d0 d1 := by
  subst e
  exact h
theorem FQA.w {d0 d d1 : Ds} {r j : Nat} {v : Option Nat} (h : FQA d0 d) (e : d1 = sW d r j v) : FQA d0 d1 := by
  subst e
  exact h
theorem wA_fX11_ahead_J30 {d0 : Ds} (N : Nat) (g : Gs) (x1 : Int32) (x2 : Int32) (d : Ds) (hS : Shp g) (hZ : FQA d0 d) : pc (fX11_ahead_J30 N g 0 x1 x2 d) (fun _ d1 => FQA d0 d1) := by
  unfold fX11_ahead_J30
  exact pc_some hZ
theorem wA_fX0_keys {d0 : Ds} (N : Nat) (g : Gs) (d : Ds) (hS : Shp g) (hZ : FQA d0 d) : pc (fX0_keys N g 117 d) (fun _ d1 => FQA d0 d1) := by
  unfold fX0_keys
  refine pc_gd (fun c_1 => ?_)
  exact pc_some hZ
theorem wA_fX6_copyFrom {d0 : Ds} (N : Nat) (g : Gs) (d : Ds) (hS : Shp g) (hZ : FQA d0 d) : pc (fX6_copyFrom N g 248 228 d) (fun _ d1 => FQA d0 d1) := by
  unfold fX6_copyFrom
  refine pc_gd (fun c_1 => ?_)
  refine pc_gd (fun c_2 => ?_)
  refine pc_bd (fun d3 e_3 => ?_)
  have z_4 := FQA.i hZ rfl e_3
  refine pc_bd (fun d4 e_5 => ?_)
  have z_6 := FQA.i z_4 rfl e_5
  refine pc_bd (fun d5 e_7 => ?_)
  have z_8 := FQA.i z_6 rfl e_7
  refine pc_bd (fun d6 e_9 => ?_)
  have z_10 := FQA.i z_8 rfl e_9
  refine pc_ob (fun r7 e_11 => ?_)
  have t_12 := gq hS (e := 229) (by decide +kernel) e_11
  subst t_12
  refine pc_ob (fun r8 e_13 => ?_)
  have t_14 := gq hS (e := 249) (by decide +kernel) e_13
  subst t_14
  refine pc_gd (fun c_15 => ?_)
  refine pc_gd (fun c_16 => ?_)
  refine pc_gd (fun c_17 => ?_)
  refine pc_gd (fun c_18 => ?_)
  refine pc_gd (fun c_19 => ?_)
  refine pc_gd (fun c_20 => ?_)
  refine pc_bd (fun d15 e_21 => ?_)
  have z_22 := FQA.ci z_10 rfl e_21
  refine pc_ob (fun r16 e_23 => ?_)
  have t_24 := gq hS (e := 230) (by decide +kernel) e_23
  subst t_24
  refine pc_ob (fun r17 e_25 => ?_)
  have t_26 := gq hS (e := 250) (by decide +kernel) e_25
  subst t_26
  refine pc_gd (fun c_27 => ?_)
  refine pc_gd (fun c_28 => ?_)
  refine pc_gd (fun c_29 => ?_)
  refine pc_gd (fun c_30 => ?_)
  refine pc_bd (fun d22 e_31 => ?_)
  have z_32 := FQA.cf z_22 rfl e_31
  refine pc_ob (fun r23 e_33 => ?_)
  have t_34 := gq hS (e := 231) (by decide +kernel) e_33
  subst t_34
  refine pc_ob (fun r24 e_35 => ?_)
  have t_36 := gq hS (e := 251) (by decide +kernel) e_35
  subst t_36
  refine pc_gd (fun c_37 => ?_)
  refine pc_gd (fun c_38 => ?_)
  refine pc_gd (fun c_39 => ?_)
  refine pc_gd (fun c_40 => ?_)
  refine pc_bd (fun d29 e_41 => ?_)
  have z_42 := FQA.ci z_32 rfl e_41
  refine pc_ob (fun r30 e_43 => ?_)
  have t_44 := gq hS (e := 232) (by decide +kernel) e_43
  subst t_44
  refine pc_ob (fun r31 e_45 => ?_)
  have t_46 := gq hS (e := 252) (by decide +kernel) e_45
  subst t_46
  refine pc_gd (fun c_47 => ?_)
  refine pc_gd (fun c_48 => ?_)
  refine pc_gd (fun c_49 => ?_)
  refine pc_gd (fun c_50 => ?_)
  refine pc_bd (fun d36 e_51 => ?_)
  have z_52 := FQA.ci z_42 rfl e_51
  refine pc_ob (fun r37 e_53 => ?_)
  have t_54 := gq hS (e := 233) (by decide +kernel) e_53
  subst t_54
  refine pc_ob (fun r38 e_55 => ?_)
  have t_56 := gq hS (e := 253) (by decide +kernel) e_55
  subst t_56
  refine pc_gd (fun c_57 => ?_)
  refine pc_gd (fun c_58 => ?_)
  refine pc_gd (fun c_59 => ?_)
  refine pc_gd (fun c_60 => ?_)
  refine pc_bd (fun d43 e_61 => ?_)
  have z_62 := FQA.ci z_52 rfl e_61
  exact pc_some z_62
theorem wA_fX4_copyFrom {d0 : Ds} (N : Nat) (g : Gs) (d : Ds) (hS : Shp g) (hZ : FQA d0 d) : pc (fX4_copyFrom N g 254 234 d) (fun _ d1 => FQA d0 d1) := by
  unfold fX4_copyFrom
  refine pc_gd (fun c_1 => ?_)
  refine pc_gd (fun c_2 => ?_)
  refine pc_bd (fun d3 e_3 => ?_)
  have z_4 := FQA.i hZ rfl e_3
  refine pc_bd (fun d4 e_5 => ?_)
  have z_6 := FQA.i z_4 rfl e_5
  refine pc_ob (fun r5 e_7 => ?_)
  have t_8 := gq hS (e := 235) (by decide +kernel) e_7
  subst t_8
  refine pc_ob (fun r6 e_9 => ?_)
  have t_10 := gq hS (e := 255) (by decide +kernel) e_9
  subst t_10
  refine pc_gd (fun c_11 => ?_)
  refine pc_gd (fun c_12 => ?_)
  refine pc_gd (fun c_13 => ?_)
  refine pc_gd (fun c_14 => ?_)
  refine pc_gd (fun c_15 => ?_)
  refine pc_gd (fun c_16 => ?_)
  refine pc_bd (fun d13 e_17 => ?_)
  have z_18 := FQA.ci z_6 rfl e_17
  exact pc_some z_18
theorem wA_fX3_copyFrom {d0 : Ds} (N : Nat) (g : Gs) (d : Ds) (hS : Shp g) (hZ : FQA d0 d) : pc (fX3_copyFrom N g 256 236 d) (fun _ d1 => FQA d0 d1) := by
  unfold fX3_copyFrom
  refine pc_gd (fun c_1 => ?_)
  refine pc_ob (fun r2 e_2 => ?_)
  have t_3 := gq hS (e := 237) (by decide +kernel) e_2
  subst t_3
  refine pc_gd (fun c_4 => ?_)
  refine pc_ob (fun r4 e_5 => ?_)
  have t_6 := gq hS (e := 257) (by decide +kernel) e_5
  subst t_6
  refine pc_gd (fun c_7 => ?_)
  refine pc_gd (fun c_8 => ?_)
  refine pc_gd (fun c_9 => ?_)
  refine pc_gd (fun c_10 => ?_)
  refine pc_gd (fun c_11 => ?_)
  refine pc_gd (fun c_12 => ?_)
  refine pc_bd (fun d11 e_13 => ?_)
  have z_14 := FQA.ci hZ rfl e_13
  refine pc_ob (fun r12 e_15 => ?_)
  have t_16 := gq hS (e := 238) (by decide +kernel) e_15
  subst t_16
  refine pc_ob (fun r13 e_17 => ?_)
  have t_18 := gq hS (e := 258) (by decide +kernel) e_17
  subst t_18
  refine pc_gd (fun c_19 => ?_)
  refine pc_gd (fun c_20 => ?_)
  refine pc_gd (fun c_21 => ?_)
  refine pc_gd (fun c_22 => ?_)
  refine pc_bd (fun d18 e_23 => ?_)
  have z_24 := FQA.ci z_14 rfl e_23
  refine pc_ob (fun r19 e_25 => ?_)
  have t_26 := gq hS (e := 239) (by decide +kernel) e_25
  subst t_26
  refine pc_ob (fun r20 e_27 => ?_)
  have t_28 := gq hS (e := 259) (by decide +kernel) e_27
  subst t_28
  refine pc_gd (fun c_29 => ?_)
  refine pc_gd (fun c_30 => ?_)
  refine pc_gd (fun c_31 => ?_)
  refine pc_gd (fun c_32 => ?_)
  refine pc_bd (fun d25 e_33 => ?_)
  have z_34 := FQA.ci z_24 rfl e_33
  refine pc_ob (fun r26 e_35 => ?_)
  have t_36 := gq hS (e := 240) (by decide +kernel) e_35
  subst t_36
  refine pc_ob (fun r27 e_37 => ?_)
  have t_38 := gq hS (e := 260) (by decide +kernel) e_37
  subst t_38
  refine pc_gd (fun c_39 => ?_)
  refine pc_gd (fun c_40 => ?_)
  refine pc_gd (fun c_41 => ?_)
  refine pc_gd (fun c_42 => ?_)
  refine pc_bd (fun d32 e_43 => ?_)
  have z_44 := FQA.ci z_34 rfl e_43
  refine pc_bd (fun d33 e_45 => ?_)
  have z_46 := FQA.i z_44 rfl e_45
  refine pc_bd (fun d34 e_47 => ?_)
  have z_48 := FQA.i z_46 rfl e_47
  exact pc_some z_48
theorem wA_fX5_copyFrom {d0 : Ds} (N : Nat) (g : Gs) (d : Ds) (hS : Shp g) (hZ : FQA d0 d) : pc (fX5_copyFrom N g 262 242 d) (fun _ d1 => FQA d0 d1) := by
  unfold fX5_copyFrom
  refine pc_gd (fun c_1 => ?_)
  refine pc_ob (fun r2 e_2 => ?_)
  have t_3 := gq hS (e := 243) (by decide +kernel) e_2
  subst t_3
  refine pc_gd (fun c_4 => ?_)
  refine pc_ob (fun r4 e_5 => ?_)
  have t_6 := gq hS (e := 263) (by decide +kernel) e_5
  subst t_6
  refine pc_gd (fun c_7 => ?_)
  refine pc_gd (fun c_8 => ?_)
  refine pc_gd (fun c_9 => ?_)
  refine pc_gd (fun c_10 => ?_)
  refine pc_gd (fun c_11 => ?_)
  refine pc_gd (fun c_12 => ?_)
  refine pc_bd (fun d11 e_13 => ?_)
  have z_14 := FQA.ci hZ rfl e_13
  refine pc_ob (fun r12 e_15 => ?_)
  have t_16 := gq hS (e := 244) (by decide +kernel) e_15
  subst t_16
  refine pc_ob (fun r13 e_17 => ?_)
  have t_18 := gq hS (e := 264) (by decide +kernel) e_17
  subst t_18
  refine pc_gd (fun c_19 => ?_)
  refine pc_gd (fun c_20 => ?_)
  refine pc_gd (fun c_21 => ?_)
  refine pc_gd (fun c_22 => ?_)
  refine pc_bd (fun d18 e_23 => ?_)
  have z_24 := FQA.ci z_14 rfl e_23
  refine pc_ob (fun r19 e_25 => ?_)
  have t_26 := gq hS (e := 245) (by decide +kernel) e_25
  subst t_26
  refine pc_ob (fun r20 e_27 => ?_)
  have t_28 := gq hS (e := 265) (by decide +kernel) e_27
  subst t_28
  refine pc_gd (fun c_29 => ?_)
  refine pc_gd (fun c_30 => ?_)
  refine pc_gd (fun c_31 => ?_)
  refine pc_gd (fun c_32 => ?_)
  refine pc_bd (fun d25 e_33 => ?_)
  have z_34 := FQA.ci z_24 rfl e_33
  refine pc_ob (fun r26 e_35 => ?_)
  have t_36 := gq hS (e := 246) (by decide +kernel) e_35
  subst t_36
  refine pc_ob (fun r27 e_37 => ?_)
  have t_38 := gq hS (e := 266) (by decide +kernel) e_37
  subst t_38
  refine pc_gd (fun c_39 => ?_)
  refine pc_gd (fun c_40 => ?_)
  refine pc_gd (fun c_41 => ?_)
  refine pc_gd (fun c_42 => ?_)
  refine pc_gd (fun c_43 => ?_)
  refine pc_bd (fun d33 e_44 => ?_)
  have z_45 := FQA.ci z_34 rfl e_44
  refine pc_bd (fun d34 e_46 => ?_)
  have z_47 := FQA.i z_45 rfl e_46
  refine pc_bd (fun d35 e_48 => ?_)
  have z_49 := FQA.i z_47 rfl e_48
  refine pc_bd (fun d36 e_50 => ?_)
  have z_51 := FQA.i z_49 rfl e_50
  refine pc_bd (fun d37 e_52 => ?_)
  have z_53 := FQA.i z_51 rfl e_52
  refine pc_bd (fun d38 e_54 => ?_)
  have z_55 := FQA.i z_53 rfl e_54
  exact pc_some z_55
theorem wA_fX1_copyFrom {d0 : Ds} (N : Nat) (g : Gs) (d : Ds) (hS : Shp g) (hZ : FQA d0 d) : pc (fX1_copyFrom N g 247 227 d) (fun _ d1 => FQA d0 d1) := by
  unfold fX1_copyFrom
  refine pc_gd (fun c_1 => ?_)
  refine pc_gd (fun c_2 => ?_)
  refine pc_bd (fun d3 e_3 => ?_)
  have z_4 := FQA.i hZ rfl e_3
  refine pc_ob (fun r4 e_5 => ?_)
  have t_6 := gq hS (e := 248) (by decide +kernel) e_5
  subst t_6
  refine pc_ob (fun r5 e_7 => ?_)
  have t_8 := gq hS (e := 228) (by decide +kernel) e_7
  subst t_8
  refine pc_gd (fun c_9 => ?_)
  refine pc_cv (wA_fX6_copyFrom N g d3 hS z_4) (fun d7 z_10 => ?_)
  refine pc_ob (fun r9 e_11 => ?_)
  have t_12 := gq hS (e := 254) (by decide +kernel) e_11
  subst t_12
  refine pc_ob (fun r10 e_13 => ?_)
  have t_14 := gq hS (e := 234) (by decide +kernel) e_13
  subst t_14
  refine pc_gd (fun c_15 => ?_)
  refine pc_cv (wA_fX4_copyFrom N g d7 hS z_10) (fun d12 z_16 => ?_)
  refine pc_ob (fun r14 e_17 => ?_)
  have t_18 := gq hS (e := 256) (by decide +kernel) e_17
  subst t_18
  refine pc_ob (fun r15 e_19 => ?_)
  have t_20 := gq hS (e := 236) (by decide +kernel) e_19
  subst t_20
  refine pc_gd (fun c_21 => ?_)
  refine pc_cv (wA_fX3_copyFrom N g d12 hS z_16) (fun d17 z_22 => ?_)
  refine pc_ob (fun r19 e_23 => ?_)
  have t_24 := gq hS (e := 262) (by decide +kernel) e_23
  subst t_24
  refine pc_ob (fun r20 e_25 => ?_)
  have t_26 := gq hS (e := 242) (by decide +kernel) e_25
  subst t_26
  refine pc_gd (fun c_27 => ?_)
  refine pc_cv (wA_fX5_copyFrom N g d17 hS z_22) (fun d22 z_28 => ?_)
  exact pc_some z_28
theorem wA_fX3_gather_J92 {d0 : Ds} (N : Nat) (g : Gs) (x1 : Int32) (d : Ds) (hS : Shp g) (hZ : FQA d0 d) : pc (fX3_gather_J92 N g 256 x1 d) (fun _ d1 => FQA d0 d1) := by
  unfold fX3_gather_J92
  exact pc_some hZ
theorem wA_fX3_addCode_J56 {d0 : Ds} (N : Nat) (g : Gs) (x1 : Int32) (d : Ds) (hS : Shp g) (hZ : FQA d0 d) : pc (fX3_addCode_J56 N g 256 x1 d) (fun _ d1 => FQA d0 d1) := by
  unfold fX3_addCode_J56
  exact pc_some hZ
theorem wA_fX3_addCode_B2 {d0 : Ds} (N : Nat) (g : Gs) (x1 : Int32) (K2 : Int32 × Ds → Option (Unit × Ds)) (y2 : Int32) (d : Ds) (hS : Shp g) (hZ : FQA d0 d) (hK2 : ∀ a, FQA d0 a.2 → pc (K2 a) (fun _ d1 => FQA d0 d1)) : pc (fX3_addCode_B2 N g 256 x1 K2 y2 d) (fun _ d1 => FQA d0 d1) := by
  unfold fX3_addCode_B2
  refine pc_gd (fun c_1 => ?_)
  refine pc_if (fun _ => ?_) (fun _ => ?_)
  · refine pc_if (fun _ => ?_) (fun _ => ?_)
    · exact wA_fX3_addCode_J56 N g x1 d hS hZ
    · refine pc_ob (fun r4 e_2 => ?_)
      have t_3 := gq hS (e := 261) (by decide +kernel) e_2
      subst t_3
      refine pc_gd (fun c_4 => ?_)
      refine pc_gd (fun c_5 => ?_)
      refine pc_bd (fun d7 e_6 => ?_)
      have z_7 := FQA.i hZ rfl e_6
      refine pc_bd (fun d8 e_8 => ?_)
      have z_9 := FQA.i z_7 rfl e_8
      exact wA_fX3_addCode_J56 N g x1 d8 hS z_9
  · refine pc_ob (fun r9 e_10 => ?_)
    have t_11 := gq hS (e := 261) (by decide +kernel) e_10
    subst t_11
    refine pc_gd (fun c_12 => ?_)
    refine pc_gd (fun c_13 => ?_)
    refine pc_if (fun _ => ?_) (fun _ => ?_)
    · exact pc_some hZ
    · refine pc_bd (fun u13 e_14 => ?_)
      exact hK2 _ hZ
theorem wA_fX3_addCode_L2 {d0 : Ds} (N : Nat) (g : Gs) (x1 : Int32) (hS : Shp g) (a0 : Int32) (a1 : Ds) (hZ : FQA d0 a1) : pc (fX3_addCode_L2 N g 256 x1 (a0, a1)) (fun _ d1 => FQA d0 d1) := by
  unfold fX3_addCode_L2
  refine pc_lp (fun a => FQA d0 a.2) ?_ N (a0, a1) hZ
  rintro K ⟨a0, a1⟩ hZ hK
  exact wA_fX3_addCode_B2 N g x1 K a0 a1 hS hZ hK
theorem wA_fX3_addCode {d0 : Ds} (N : Nat) (g : Gs) (x1 : Int32) (d : Ds) (hS : Shp g) (hZ : FQA d0 d) : pc (fX3_addCode N g 256 x1 d) (fun _ d1 => FQA d0 d1) := by
  unfold fX3_addCode
  exact wA_fX3_addCode_L2 N g x1 hS 0 d hZ
theorem wA_fX3_gather_J76 {d0 : Ds} (N : Nat) (g : Gs) (x1 : Int32) (K12 : Int32 × Ds → Option (Unit × Ds)) (y2 : Int32) (d : Ds) (hS : Shp g) (hZ : FQA d0 d) (hK12 : ∀ a, FQA d0 a.2 → pc (K12 a) (fun _ d1 => FQA d0 d1)) : pc (fX3_gather_J76 N g 256 x1 K12 y2 d) (fun _ d1 => FQA d0 d1) := by
  unfold fX3_gather_J76
  refine pc_bd (fun u18 e_1 => ?_)
  exact hK12 _ hZ
theorem wA_fX3_gather_B12 {d0 : Ds} (N : Nat) (g : Gs) (x1 : Int32) (K12 : Int32 × Ds → Option (Unit × Ds)) (y2 : Int32) (d : Ds) (hS : Shp g) (hZ : FQA d0 d) (hK12 : ∀ a, FQA d0 a.2 → pc (K12 a) (fun _ d1 => FQA d0 d1)) : pc (fX3_gather_B12 N g 256 x1 K12 y2 d) (fun _ d1 => FQA d0 d1) := by
  unfold fX3_gather_B12
  refine pc_gd (fun c_1 => ?_)
  refine pc_if (fun _ => ?_) (fun _ => ?_)
  · refine pc_if (fun _ => ?_) (fun _ => ?_)
    · exact wA_fX3_gather_J92 N g x1 d hS hZ
    · refine pc_cv (wA_fX3_addCode N g x1 d hS hZ) (fun d7 z_2 => ?_)
      exact wA_fX3_gather_J92 N g x1 d7 hS z_2
  · refine pc_ob (fun r9 e_3 => ?_)
    have t_4 := gq hS (e := 260) (by decide +kernel) e_3
    subst t_4
    refine pc_gd (fun c_5 => ?_)
    refine pc_gd (fun c_6 => ?_)
    refine pc_bd (fun u12 e_7 => ?_)
    refine pc_ob (fun r13 e_8 => ?_)
    have t_9 := gq hS (e := 257) (by decide +kernel) e_8
    subst t_9
    refine pc_gd (fun c_10 => ?_)
    refine pc_gd (fun c_11 => ?_)
    refine pc_if (fun _ => ?_) (fun _ => ?_)
    · refine pc_ob (fun r24 e_12 => ?_)
      have t_13 := gq hS (e := 258) (by decide +kernel) e_12
      subst t_13
      refine pc_gd (fun c_14 => ?_)
      refine pc_gd (fun c_15 => ?_)
      refine pc_bd (fun d27 e_16 => ?_)
      have z_17 := FQA.i hZ rfl e_16
      exact wA_fX3_gather_J76 N g x1 K12 y2 d27 hS z_17 hK12
    · refine pc_if (fun _ => ?_) (fun _ => ?_)
      · refine pc_ob (fun r19 e_18 => ?_)
        have t_19 := gq hS (e := 258) (by decide +kernel) e_18
        subst t_19
        refine pc_gd (fun c_20 => ?_)
        refine pc_gd (fun c_21 => ?_)
        refine pc_cv (wA_fX3_addCode N g (dI d 258 u12.toNatClampNeg) d hS hZ) (fun d22 z_22 => ?_)
        exact wA_fX3_gather_J76 N g x1 K12 y2 d22 hS z_22 hK12
      · exact wA_fX3_gather_J76 N g x1 K12 y2 d hS hZ hK12
theorem wA_fX3_gather_L12 {d0 : Ds} (N : Nat) (g : Gs) (x1 : Int32) (hS : Shp g) (a0 : Int32) (a1 : Ds) (hZ : FQA d0 a1) : pc (fX3_gather_L12 N g 256 x1 (a0, a1)) (fun _ d1 => FQA d0 d1) := by
  unfold fX3_gather_L12
  refine pc_lp (fun a => FQA d0 a.2) ?_ N (a0, a1) hZ
  rintro K ⟨a0, a1⟩ hZ hK
  exact wA_fX3_gather_B12 N g x1 K a0 a1 hS hZ hK
theorem wA_fX3_gather {d0 : Ds} (N : Nat) (g : Gs) (x1 : Int32) (d : Ds) (hS : Shp g) (hZ : FQA d0 d) : pc (fX3_gather N g 256 x1 d) (fun _ d1 => FQA d0 d1) := by
  unfold fX3_gather
  refine pc_gd (fun c_1 => ?_)
  refine pc_bd (fun d2 e_2 => ?_)
  have z_3 := FQA.i hZ rfl e_2
  refine pc_bd (fun d3 e_4 => ?_)
  have z_5 := FQA.i z_3 rfl e_4
  exact wA_fX3_gather_L12 N g x1 hS 0 d3 z_5
theorem wA_fX11_isIn_J13 {d0 : Ds} (N : Nat) (g : Gs) (x0 : Int32) (x1 : Int32) (z0 : Int32) (d : Ds) (hS : Shp g) (hZ : FQA d0 d) : pc (fX11_isIn_J13 N g x0 x1 z0 d) (fun _ d1 => FQA d0 d1) := by
  unfold fX11_isIn_J13
  refine pc_gd (fun c_1 => ?_)
  exact pc_some hZ
theorem wA_fX11_isIn {d0 : Ds} (N : Nat) (g : Gs) (x0 : Int32) (x1 : Int32) (d : Ds) (hS : Shp g) (hZ : FQA d0 d) : pc (fX11_isIn N g x0 x1 d) (fun _ d1 => FQA d0 d1) := by
  unfold fX11_isIn
  refine pc_if (fun _ => ?_) (fun _ => ?_)
  · exact wA_fX11_isIn_J13 N g x0 x1 0 d hS hZ
  · exact wA_fX11_isIn_J13 N g x0 x1 1 d hS hZ
theorem wA_fX1_activeLayers_J59 {d0 : Ds} (N : Nat) (g : Gs) (K12 : Int32 × Int32 × Ds → Option (Int32 × Ds)) (y1 : Int32) (y2 : Int32) (d : Ds) (hS : Shp g) (hZ : FQA d0 d) (hK12 : ∀ a, FQA d0 a.2.2 → pc (K12 a) (fun _ d1 => FQA d0 d1)) : pc (fX1_activeLayers_J59 N g 247 K12 y1 y2 d) (fun _ d1 => FQA d0 d1) := by
  unfold fX1_activeLayers_J59
  refine pc_bd (fun u13 e_1 => ?_)
  exact hK12 _ hZ
theorem wA_fX1_activeLayers_B12 {d0 : Ds} (N : Nat) (g : Gs) (K12 : Int32 × Int32 × Ds → Option (Int32 × Ds)) (y1 : Int32) (y2 : Int32) (d : Ds) (hS : Shp g) (hZ : FQA d0 d) (hK12 : ∀ a, FQA d0 a.2.2 → pc (K12 a) (fun _ d1 => FQA d0 d1)) : pc (fX1_activeLayers_B12 N g 247 K12 y1 y2 d) (fun _ d1 => FQA d0 d1) := by
  unfold fX1_activeLayers_B12
  refine pc_if (fun _ => ?_) (fun _ => ?_)
  · exact pc_some hZ
  · refine pc_gd (fun c_1 => ?_)
    refine pc_ob (fun r7 e_2 => ?_)
    have t_3 := gq hS (e := 256) (by decide +kernel) e_2
    subst t_3
    refine pc_gd (fun c_4 => ?_)
    refine pc_ob (fun r9 e_5 => ?_)
    have t_6 := gq hS (e := 257) (by decide +kernel) e_5
    subst t_6
    refine pc_gd (fun c_7 => ?_)
    refine pc_gd (fun c_8 => ?_)
    refine pc_if (fun _ => ?_) (fun _ => ?_)
    · refine pc_ob (fun r14 e_9 => ?_)
      have t_10 := gq hS (e := 248) (by decide +kernel) e_9
      subst t_10
      refine pc_gd (fun c_11 => ?_)
      refine pc_cb (wA_fX11_isIn N g (dI d 248 3) y2 d hS hZ) (fun u18 d16 z_12 => ?_)
      refine pc_if (fun _ => ?_) (fun _ => ?_)
      · exact wA_fX1_activeLayers_J59 N g K12 y1 y2 d16 hS z_12 hK12
      · refine pc_ob (fun r20 e_13 => ?_)
        have t_14 := gq hS (e := 258) (by decide +kernel) e_13
        subst t_14
        refine pc_gd (fun c_15 => ?_)
        refine pc_gd (fun c_16 => ?_)
        refine pc_bd (fun u23 e_17 => ?_)
        exact wA_fX1_activeLayers_J59 N g K12 u23 y2 d16 hS z_12 hK12
    · exact wA_fX1_activeLayers_J59 N g K12 y1 y2 d hS hZ hK12
theorem wA_fX1_activeLayers_L12 {d0 : Ds} (N : Nat) (g : Gs) (hS : Shp g) (a0 : Int32) (a1 : Int32) (a2 : Ds) (hZ : FQA d0 a2) : pc (fX1_activeLayers_L12 N g 247 (a0, a1, a2)) (fun _ d1 => FQA d0 d1) := by
  unfold fX1_activeLayers_L12
  refine pc_lp (fun a => FQA d0 a.2.2) ?_ N (a0, a1, a2) hZ
  rintro K ⟨a0, a1, a2⟩ hZ hK
  exact wA_fX1_activeLayers_B12 N g K a0 a1 a2 hS hZ hK
theorem wA_fX1_activeLayers {d0 : Ds} (N : Nat) (g : Gs) (d : Ds) (hS : Shp g) (hZ : FQA d0 d) : pc (fX1_activeLayers N g 247 d) (fun _ d1 => FQA d0 d1) := by
  unfold fX1_activeLayers
  refine pc_gd (fun c_1 => ?_)
  refine pc_ob (fun r2 e_2 => ?_)
  have t_3 := gq hS (e := 256) (by decide +kernel) e_2
  subst t_3
  refine pc_gd (fun c_4 => ?_)
  refine pc_bd (fun u4 e_5 => ?_)
  exact wA_fX1_activeLayers_L12 N g hS u4 0 d hZ
theorem wA_fX0_hasKey_J17 {d0 : Ds} (N : Nat) (g : Gs) (x1 : Int32) (z0 : Int32) (d : Ds) (hS : Shp g) (hZ : FQA d0 d) : pc (fX0_hasKey_J17 N g 117 x1 z0 d) (fun _ d1 => FQA d0 d1) := by
  unfold fX0_hasKey_J17
  refine pc_gd (fun c_1 => ?_)
  exact pc_some hZ
theorem wA_fX0_hasKey_J16 {d0 : Ds} (N : Nat) (g : Gs) (x1 : Int32) (d : Ds) (hS : Shp g) (hZ : FQA d0 d) : pc (fX0_hasKey_J16 N g 117 x1 d) (fun _ d1 => FQA d0 d1) := by
  unfold fX0_hasKey_J16
  exact wA_fX0_hasKey_J17 N g x1 0 d hS hZ
theorem wA_fX0_hasKey {d0 : Ds} (N : Nat) (g : Gs) (x1 : Int32) (d : Ds) (hS : Shp g) (hZ : FQA d0 d) : pc (fX0_hasKey N g 117 x1 d) (fun _ d1 => FQA d0 d1) := by
  unfold fX0_hasKey
  refine pc_if (fun _ => ?_) (fun _ => ?_)
  · exact wA_fX0_hasKey_J16 N g x1 d hS hZ
  · refine pc_gd (fun c_1 => ?_)
    refine pc_cb (wA_fX0_keys N g d hS hZ) (fun u6 d4 z_2 => ?_)
    refine pc_if (fun _ => ?_) (fun _ => ?_)
    · exact wA_fX0_hasKey_J16 N g x1 d4 hS z_2
    · exact wA_fX0_hasKey_J17 N g x1 1 d4 hS z_2
theorem wA_fX5_repeatLatest_J54 {d0 : Ds} (N : Nat) (g : Gs) (x1 : Int32) (x2 : Int32) (x3 : Int32) (d : Ds) (hS : Shp g) (hZ : FQA d0 d) : pc (fX5_repeatLatest_J54 N g 262 x1 x2 x3 d) (fun _ d1 => FQA d0 d1) := by
  unfold fX5_repeatLatest_J54
  exact pc_some hZ
theorem wA_fX5_repeatLatest {d0 : Ds} (N : Nat) (g : Gs) (x1 : Int32) (x2 : Int32) (x3 : Int32) (d : Ds) (hS : Shp g) (hZ : FQA d0 d) : pc (fX5_repeatLatest N g 262 x1 x2 x3 d) (fun _ d1 => FQA d0 d1) := by
  unfold fX5_repeatLatest
  refine pc_gd (fun c_1 => ?_)
  refine pc_bd (fun u2 e_2 => ?_)
  refine pc_if (fun _ => ?_) (fun _ => ?_)
  · exact wA_fX5_repeatLatest_J54 N g x1 x2 x3 d hS hZ
  · refine pc_if (fun _ => ?_) (fun _ => ?_)
    · exact wA_fX5_repeatLatest_J54 N g x1 x2 x3 d hS hZ
    · refine pc_if (fun _ => ?_) (fun _ => ?_)
      · exact wA_fX5_repeatLatest_J54 N g x1 x2 x3 d hS hZ
      · refine pc_gd (fun c_3 => ?_)
        refine pc_if (fun _ => ?_) (fun _ => ?_)
        · refine pc_bd (fun d8 e_4 => ?_)
          have z_5 := FQA.i hZ rfl e_4
          refine pc_bd (fun d9 e_6 => ?_)
          have z_7 := FQA.i z_5 rfl e_6
          exact wA_fX5_repeatLatest_J54 N g x1 x2 x3 d9 hS z_7
        · exact wA_fX5_repeatLatest_J54 N g x1 x2 x3 d hS hZ
theorem wA_fX1_passTick_J131 {d0 : Ds} (N : Nat) (g : Gs) (d : Ds) (hS : Shp g) (hZ : FQA d0 d) : pc (fX1_passTick_J131 N g 247 d) (fun _ d1 => FQA d0 d1) := by
  unfold fX1_passTick_J131
  refine pc_gd (fun c_1 => ?_)
  refine pc_ob (fun r16 e_2 => ?_)
  have t_3 := gq hS (e := 262) (by decide +kernel) e_2
  subst t_3
  refine pc_ob (fun r17 e_4 => ?_)
  have t_5 := gq hS (e := 117) (by decide +kernel) e_4
  subst t_5
  refine pc_gd (fun c_6 => ?_)
  refine pc_gd (fun c_7 => ?_)
  refine pc_cv (wA_fX5_repeatLatest N g (dI d 247 5) (dI d 117 8) (dI d 117 9) d hS hZ) (fun d20 z_8 => ?_)
  exact pc_some z_8
theorem wA_fX4_isDownAt_J29 {d0 : Ds} (N : Nat) (g : Gs) (x1 : Int32) (z0 : Int32) (d : Ds) (hS : Shp g) (hZ : FQA d0 d) : pc (fX4_isDownAt_J29 N g 254 x1 z0 d) (fun _ d1 => FQA d0 d1) := by
  unfold fX4_isDownAt_J29
  refine pc_gd (fun c_1 => ?_)
  exact pc_some hZ
theorem wA_fX4_isDownAt_J28 {d0 : Ds} (N : Nat) (g : Gs) (x1 : Int32) (d : Ds) (hS : Shp g) (hZ : FQA d0 d) : pc (fX4_isDownAt_J28 N g 254 x1 d) (fun _ d1 => FQA d0 d1) := by
  unfold fX4_isDownAt_J28
  exact wA_fX4_isDownAt_J29 N g x1 0 d hS hZ
theorem wA_fX4_isDownAt {d0 : Ds} (N : Nat) (g : Gs) (x1 : Int32) (d : Ds) (hS : Shp g) (hZ : FQA d0 d) : pc (fX4_isDownAt N g 254 x1 d) (fun _ d1 => FQA d0 d1) := by
  unfold fX4_isDownAt
  refine pc_if (fun _ => ?_) (fun _ => ?_)
  · exact wA_fX4_isDownAt_J28 N g x1 d hS hZ
  · refine pc_gd (fun c_1 => ?_)
    refine pc_if (fun _ => ?_) (fun _ => ?_)
    · exact wA_fX4_isDownAt_J28 N g x1 d hS hZ
    · refine pc_ob (fun r5 e_2 => ?_)
      have t_3 := gq hS (e := 255) (by decide +kernel) e_2
      subst t_3
      refine pc_gd (fun c_4 => ?_)
      refine pc_gd (fun c_5 => ?_)
      refine pc_gd (fun c_6 => ?_)
      refine pc_if (fun _ => ?_) (fun _ => ?_)
      · exact wA_fX4_isDownAt_J29 N g x1 1 d hS hZ
      · exact wA_fX4_isDownAt_J28 N g x1 d hS hZ
theorem wA_fX4_keyAt_J27 {d0 : Ds} (N : Nat) (g : Gs) (x1 : Int32) (z0 : Int32) (d : Ds) (hS : Shp g) (hZ : FQA d0 d) : pc (fX4_keyAt_J27 N g 254 x1 z0 d) (fun _ d1 => FQA d0 d1) := by
  unfold fX4_keyAt_J27
  exact pc_some hZ
theorem wA_fX4_keyAt_J12 {d0 : Ds} (N : Nat) (g : Gs) (x1 : Int32) (d : Ds) (hS : Shp g) (hZ : FQA d0 d) : pc (fX4_keyAt_J12 N g 254 x1 d) (fun _ d1 => FQA d0 d1) := by
  unfold fX4_keyAt_J12
  exact wA_fX4_keyAt_J27 N g x1 (-1) d hS hZ
theorem wA_fX4_keyAt {d0 : Ds} (N : Nat) (g : Gs) (x1 : Int32) (d : Ds) (hS : Shp g) (hZ : FQA d0 d) : pc (fX4_keyAt N g 254 x1 d) (fun _ d1 => FQA d0 d1) := by
  unfold fX4_keyAt
  refine pc_if (fun _ => ?_) (fun _ => ?_)
  · exact wA_fX4_keyAt_J12 N g x1 d hS hZ
  · refine pc_gd (fun c_1 => ?_)
    refine pc_if (fun _ => ?_) (fun _ => ?_)
    · refine pc_ob (fun r4 e_2 => ?_)
      have t_3 := gq hS (e := 255) (by decide +kernel) e_2
      subst t_3
      refine pc_gd (fun c_4 => ?_)
      refine pc_gd (fun c_5 => ?_)
      refine pc_gd (fun c_6 => ?_)
      refine pc_gd (fun c_7 => ?_)
      exact wA_fX4_keyAt_J27 N g x1 (((dI d 255 x1.toNatClampNeg) - (((dI d 255 x1.toNatClampNeg) / 64) * 64)) / 2) d hS hZ
    · exact wA_fX4_keyAt_J12 N g x1 d hS hZ
theorem wA_fX0_chordOf_J30 {d0 : Ds} (N : Nat) (g : Gs) (x1 : Int32) (y2 : Int32) (d : Ds) (hS : Shp g) (hZ : FQA d0 d) : pc (fX0_chordOf_J30 N g 117 x1 y2 d) (fun _ d1 => FQA d0 d1) := by
  unfold fX0_chordOf_J30
  exact pc_some hZ
theorem wA_fX0_chordOf_B2 {d0 : Ds} (N : Nat) (g : Gs) (x1 : Int32) (K2 : Int32 × Ds → Option (Int32 × Ds)) (y2 : Int32) (d : Ds) (hS : Shp g) (hZ : FQA d0 d) (hK2 : ∀ a, FQA d0 a.2 → pc (K2 a) (fun _ d1 => FQA d0 d1)) : pc (fX0_chordOf_B2 N g 117 x1 K2 y2 d) (fun _ d1 => FQA d0 d1) := by
  unfold fX0_chordOf_B2
  refine pc_gd (fun c_1 => ?_)
  refine pc_if (fun _ => ?_) (fun _ => ?_)
  · exact pc_some hZ
  · refine pc_ob (fun r3 e_2 => ?_)
    have t_3 := gq hS (e := 120) (by decide +kernel) e_2
    subst t_3
    refine pc_gd (fun c_4 => ?_)
    refine pc_gd (fun c_5 => ?_)
    refine pc_if (fun _ => ?_) (fun _ => ?_)
    · exact wA_fX0_chordOf_J30 N g x1 y2 d hS hZ
    · refine pc_ob (fun r7 e_6 => ?_)
      have t_7 := gq hS (e := 121) (by decide +kernel) e_6
      subst t_7
      refine pc_gd (fun c_8 => ?_)
      refine pc_gd (fun c_9 => ?_)
      refine pc_if (fun _ => ?_) (fun _ => ?_)
      · exact wA_fX0_chordOf_J30 N g x1 y2 d hS hZ
      · refine pc_bd (fun u11 e_10 => ?_)
        exact hK2 _ hZ
theorem wA_fX0_chordOf_L2 {d0 : Ds} (N : Nat) (g : Gs) (x1 : Int32) (hS : Shp g) (a0 : Int32) (a1 : Ds) (hZ : FQA d0 a1) : pc (fX0_chordOf_L2 N g 117 x1 (a0, a1)) (fun _ d1 => FQA d0 d1) := by
  unfold fX0_chordOf_L2
  refine pc_lp (fun a => FQA d0 a.2) ?_ N (a0, a1) hZ
  rintro K ⟨a0, a1⟩ hZ hK
  exact wA_fX0_chordOf_B2 N g x1 K a0 a1 hS hZ hK
theorem wA_fX0_chordOf {d0 : Ds} (N : Nat) (g : Gs) (x1 : Int32) (d : Ds) (hS : Shp g) (hZ : FQA d0 d) : pc (fX0_chordOf N g 117 x1 d) (fun _ d1 => FQA d0 d1) := by
  unfold fX0_chordOf
  exact wA_fX0_chordOf_L2 N g x1 hS 0 d hZ
theorem wA_fX0_toldDeed_J19 {d0 : Ds} (N : Nat) (g : Gs) (x1 : Int32) (x2 : Int32) (d : Ds) (hS : Shp g) (hZ : FQA d0 d) : pc (fX0_toldDeed_J19 N g 117 x1 x2 d) (fun _ d1 => FQA d0 d1) := by
  unfold fX0_toldDeed_J19
  exact pc_some hZ
theorem wA_fX0_toldDeed {d0 : Ds} (N : Nat) (g : Gs) (x1 : Int32) (x2 : Int32) (d : Ds) (hS : Shp g) (hZ : FQA d0 d) : pc (fX0_toldDeed N g 117 x1 x2 d) (fun _ d1 => FQA d0 d1) := by
  unfold fX0_toldDeed
  refine pc_if (fun _ => ?_) (fun _ => ?_)
  · exact wA_fX0_toldDeed_J19 N g x1 x2 d hS hZ
  · refine pc_if (fun _ => ?_) (fun _ => ?_)
    · exact wA_fX0_toldDeed_J19 N g x1 x2 d hS hZ
    · refine pc_if (fun _ => ?_) (fun _ => ?_)
      · exact wA_fX0_toldDeed_J19 N g x1 x2 d hS hZ
      · refine pc_if (fun _ => ?_) (fun _ => ?_)
        · refine pc_gd (fun c_1 => ?_)
          refine pc_ob (fun r6 e_2 => ?_)
          have t_3 := gq hS (e := 118) (by decide +kernel) e_2
          subst t_3
          refine pc_gd (fun c_4 => ?_)
          refine pc_gd (fun c_5 => ?_)
          refine pc_ob (fun r9 e_6 => ?_)
          exact pc_some hZ
        · exact wA_fX0_toldDeed_J19 N g x1 x2 d hS hZ
theorem wA_fX0_deedIn_J39 {d0 : Ds} (N : Nat) (g : Gs) (x1 : Int32) (x2 : Int32) (K2 : Int32 × Ds → Option (Nat × Ds)) (y3 : Int32) (d : Ds) (hS : Shp g) (hZ : FQA d0 d) (hK2 : ∀ a, FQA d0 a.2 → pc (K2 a) (fun _ d1 => FQA d0 d1)) : pc (fX0_deedIn_J39 N g 117 x1 x2 K2 y3 d) (fun _ d1 => FQA d0 d1) := by
  unfold fX0_deedIn_J39
  refine pc_bd (fun u12 e_1 => ?_)
  exact hK2 _ hZ
theorem wA_fX0_deedIn_B2 {d0 : Ds} (N : Nat) (g : Gs) (x1 : Int32) (x2 : Int32) (K2 : Int32 × Ds → Option (Nat × Ds)) (y3 : Int32) (d : Ds) (hS : Shp g) (hZ : FQA d0 d) (hK2 : ∀ a, FQA d0 a.2 → pc (K2 a) (fun _ d1 => FQA d0 d1)) : pc (fX0_deedIn_B2 N g 117 x1 x2 K2 y3 d) (fun _ d1 => FQA d0 d1) := by
  unfold fX0_deedIn_B2
  refine pc_if (fun _ => ?_) (fun _ => ?_)
  · refine pc_gd (fun c_1 => ?_)
    refine pc_ob (fun r3 e_2 => ?_)
    have t_3 := gq hS (e := 119) (by decide +kernel) e_2
    subst t_3
    exact pc_some hZ
  · refine pc_gd (fun c_4 => ?_)
    refine pc_cb (wA_fX0_toldDeed N g y3 x2 d hS hZ) (fun u7 d5 z_5 => ?_)
    refine pc_cb (wA_fX11_isIn N g x1 y3 d5 hS z_5) (fun u10 d8 z_6 => ?_)
    refine pc_if (fun _ => ?_) (fun _ => ?_)
    · exact wA_fX0_deedIn_J39 N g x1 x2 K2 y3 d8 hS z_6 hK2
    · refine pc_if (fun _ => ?_) (fun _ => ?_)
      · exact wA_fX0_deedIn_J39 N g x1 x2 K2 y3 d8 hS z_6 hK2
      · refine pc_ob (fun r14 e_7 => ?_)
        refine pc_gd (fun c_8 => ?_)
        refine pc_if (fun _ => ?_) (fun _ => ?_)
        · exact wA_fX0_deedIn_J39 N g x1 x2 K2 y3 d8 hS z_6 hK2
        · exact pc_some z_6
theorem wA_fX0_deedIn_L2 {d0 : Ds} (N : Nat) (g : Gs) (x1 : Int32) (x2 : Int32) (hS : Shp g) (a0 : Int32) (a1 : Ds) (hZ : FQA d0 a1) : pc (fX0_deedIn_L2 N g 117 x1 x2 (a0, a1)) (fun _ d1 => FQA d0 d1) := by
  unfold fX0_deedIn_L2
  refine pc_lp (fun a => FQA d0 a.2) ?_ N (a0, a1) hZ
  rintro K ⟨a0, a1⟩ hZ hK
  exact wA_fX0_deedIn_B2 N g x1 x2 K a0 a1 hS hZ hK
theorem wA_fX0_deedIn {d0 : Ds} (N : Nat) (g : Gs) (x1 : Int32) (x2 : Int32) (d : Ds) (hS : Shp g) (hZ : FQA d0 d) : pc (fX0_deedIn N g 117 x1 x2 d) (fun _ d1 => FQA d0 d1) := by
  unfold fX0_deedIn
  exact wA_fX0_deedIn_L2 N g x1 x2 hS 3 d hZ
theorem wA_fX4_tickAt_J25 {d0 : Ds} (N : Nat) (g : Gs) (x1 : Int32) (z0 : Int32) (d : Ds) (hS : Shp g) (hZ : FQA d0 d) : pc (fX4_tickAt_J25 N g 254 x1 z0 d) (fun _ d1 => FQA d0 d1) := by
  unfold fX4_tickAt_J25
  exact pc_some hZ
theorem wA_fX4_tickAt_J12 {d0 : Ds} (N : Nat) (g : Gs) (x1 : Int32) (d : Ds) (hS : Shp g) (hZ : FQA d0 d) : pc (fX4_tickAt_J12 N g 254 x1 d) (fun _ d1 => FQA d0 d1) := by
  unfold fX4_tickAt_J12
  exact wA_fX4_tickAt_J25 N g x1 (-1) d hS hZ
theorem wA_fX4_tickAt {d0 : Ds} (N : Nat) (g : Gs) (x1 : Int32) (d : Ds) (hS : Shp g) (hZ : FQA d0 d) : pc (fX4_tickAt N g 254 x1 d) (fun _ d1 => FQA d0 d1) := by
  unfold fX4_tickAt
  refine pc_if (fun _ => ?_) (fun _ => ?_)
  · exact wA_fX4_tickAt_J12 N g x1 d hS hZ
  · refine pc_gd (fun c_1 => ?_)
    refine pc_if (fun _ => ?_) (fun _ => ?_)
    · refine pc_ob (fun r4 e_2 => ?_)
      have t_3 := gq hS (e := 255) (by decide +kernel) e_2
      subst t_3
      refine pc_gd (fun c_4 => ?_)
      refine pc_gd (fun c_5 => ?_)
      refine pc_gd (fun c_6 => ?_)
      exact wA_fX4_tickAt_J25 N g x1 ((dI d 255 x1.toNatClampNeg) / 64) d hS hZ
    · exact wA_fX4_tickAt_J12 N g x1 d hS hZ
theorem wA_fX1_fateOfHold_J103 {d0 : Ds} (N : Nat) (g : Gs) (x1 : Int32) (x2 : Int32) (z0 : Int32) (d : Ds) (hS : Shp g) (hZ : FQA d0 d) : pc (fX1_fateOfHold_J103 N g 247 x1 x2 z0 d) (fun _ d1 => FQA d0 d1) := by
  unfold fX1_fateOfHold_J103
  exact pc_some hZ
theorem wA_fX1_fateOfHold_J84 {d0 : Ds} (N : Nat) (g : Gs) (x1 : Int32) (x2 : Int32) (K5 : Int32 × Int32 × Ds → Option (Int32 × Ds)) (y3 : Int32) (y4 : Int32) (d : Ds) (hS : Shp g) (hZ : FQA d0 d) (hK5 : ∀ a, FQA d0 a.2.2 → pc (K5 a) (fun _ d1 => FQA d0 d1)) : pc (fX1_fateOfHold_J84 N g 247 x1 x2 K5 y3 y4 d) (fun _ d1 => FQA d0 d1) := by
  unfold fX1_fateOfHold_J84
  refine pc_bd (fun u22 e_1 => ?_)
  exact hK5 _ hZ
theorem wA_fX1_fateOfHold_B5 {d0 : Ds} (N : Nat) (g : Gs) (x1 : Int32) (x2 : Int32) (K5 : Int32 × Int32 × Ds → Option (Int32 × Ds)) (y3 : Int32) (y4 : Int32) (d : Ds) (hS : Shp g) (hZ : FQA d0 d) (hK5 : ∀ a, FQA d0 a.2.2 → pc (K5 a) (fun _ d1 => FQA d0 d1)) : pc (fX1_fateOfHold_B5 N g 247 x1 x2 K5 y3 y4 d) (fun _ d1 => FQA d0 d1) := by
  unfold fX1_fateOfHold_B5
  refine pc_gd (fun c_1 => ?_)
  refine pc_ob (fun r2 e_2 => ?_)
  have t_3 := gq hS (e := 254) (by decide +kernel) e_2
  subst t_3
  refine pc_gd (fun c_4 => ?_)
  refine pc_if (fun _ => ?_) (fun _ => ?_)
  · refine pc_if (fun _ => ?_) (fun _ => ?_)
    · exact wA_fX1_fateOfHold_J103 N g x1 x2 0 d hS hZ
    · exact wA_fX1_fateOfHold_J103 N g x1 x2 4 d hS hZ
  · refine pc_cb (wA_fX4_keyAt N g y4 d hS hZ) (fun u8 d6 z_5 => ?_)
    refine pc_cb (wA_fX4_tickAt N g y4 d6 hS z_5) (fun u11 d9 z_6 => ?_)
    refine pc_if (fun _ => ?_) (fun _ => ?_)
    · refine pc_cb (wA_fX4_isDownAt N g y4 d9 hS z_6) (fun u15 d13 z_7 => ?_)
      refine pc_if (fun _ => ?_) (fun _ => ?_)
      · refine pc_if (fun _ => ?_) (fun _ => ?_)
        · exact pc_some z_7
        · refine pc_cb (wA_fX11_isIn N g y3 u8 d13 hS z_7) (fun u20 d18 z_8 => ?_)
          refine pc_if (fun _ => ?_) (fun _ => ?_)
          · exact wA_fX1_fateOfHold_J84 N g x1 x2 K5 y3 y4 d18 hS z_8 hK5
          · exact pc_some z_8
      · refine pc_bd (fun u23 e_9 => ?_)
        exact wA_fX1_fateOfHold_J84 N g x1 x2 K5 u23 y4 d13 hS z_7 hK5
    · exact pc_some z_6
theorem wA_fX1_fateOfHold_L5 {d0 : Ds} (N : Nat) (g : Gs) (x1 : Int32) (x2 : Int32) (hS : Shp g) (a0 : Int32) (a1 : Int32) (a2 : Ds) (hZ : FQA d0 a2) : pc (fX1_fateOfHold_L5 N g 247 x1 x2 (a0, a1, a2)) (fun _ d1 => FQA d0 d1) := by
  unfold fX1_fateOfHold_L5
  refine pc_lp (fun a => FQA d0 a.2.2) ?_ N (a0, a1, a2) hZ
  rintro K ⟨a0, a1, a2⟩ hZ hK
  exact wA_fX1_fateOfHold_B5 N g x1 x2 K a0 a1 a2 hS hZ hK
theorem wA_fX1_fateOfHold {d0 : Ds} (N : Nat) (g : Gs) (x1 : Int32) (x2 : Int32) (d : Ds) (hS : Shp g) (hZ : FQA d0 d) : pc (fX1_fateOfHold N g 247 x1 x2 d) (fun _ d1 => FQA d0 d1) := by
  unfold fX1_fateOfHold
  exact wA_fX1_fateOfHold_L5 N g x1 x2 hS 0 1 d hZ
theorem wA_fX1_fateOfFirst_J188 {d0 : Ds} (N : Nat) (g : Gs) (y1 : Int32) (d : Ds) (hS : Shp g) (hZ : FQA d0 d) : pc (fX1_fateOfFirst_J188 N g 247 y1 d) (fun _ d1 => FQA d0 d1) := by
  unfold fX1_fateOfFirst_J188
  refine pc_gd (fun c_1 => ?_)
  refine pc_ob (fun r31 e_2 => ?_)
  have t_3 := gq hS (e := 254) (by decide +kernel) e_2
  subst t_3
  refine pc_gd (fun c_4 => ?_)
  refine pc_cb (wA_fX4_tickAt N g 0 d hS hZ) (fun u35 d33 z_5 => ?_)
  refine pc_ob (fun r36 e_6 => ?_)
  have t_7 := gq hS (e := 117) (by decide +kernel) e_6
  subst t_7
  refine pc_gd (fun c_8 => ?_)
  refine pc_cb (wA_fX1_fateOfHold N g y1 (u35 + (dI d33 117 5)) d33 hS z_5) (fun u40 d38 z_9 => ?_)
  exact pc_some z_9
theorem wA_fX1_fateOfDouble_J79 {d0 : Ds} (N : Nat) (g : Gs) (x1 : Int32) (x2 : Int32) (z0 : Int32) (d : Ds) (hS : Shp g) (hZ : FQA d0 d) : pc (fX1_fateOfDouble_J79 N g 247 x1 x2 z0 d) (fun _ d1 => FQA d0 d1) := by
  unfold fX1_fateOfDouble_J79
  exact pc_some hZ
theorem wA_fX1_fateOfDouble_J58 {d0 : Ds} (N : Nat) (g : Gs) (x1 : Int32) (x2 : Int32) (z0 : Int32) (d : Ds) (hS : Shp g) (hZ : FQA d0 d) : pc (fX1_fateOfDouble_J58 N g 247 x1 x2 z0 d) (fun _ d1 => FQA d0 d1) := by
  unfold fX1_fateOfDouble_J58
  exact pc_some hZ
theorem wA_fX1_fateOfDouble_B2 {d0 : Ds} (N : Nat) (g : Gs) (x1 : Int32) (x2 : Int32) (K2 : Int32 × Ds → Option (Int32 × Ds)) (y3 : Int32) (d : Ds) (hS : Shp g) (hZ : FQA d0 d) (hK2 : ∀ a, FQA d0 a.2 → pc (K2 a) (fun _ d1 => FQA d0 d1)) : pc (fX1_fateOfDouble_B2 N g 247 x1 x2 K2 y3 d) (fun _ d1 => FQA d0 d1) := by
  unfold fX1_fateOfDouble_B2
  refine pc_gd (fun c_1 => ?_)
  refine pc_ob (fun r2 e_2 => ?_)
  have t_3 := gq hS (e := 254) (by decide +kernel) e_2
  subst t_3
  refine pc_gd (fun c_4 => ?_)
  refine pc_if (fun _ => ?_) (fun _ => ?_)
  · refine pc_if (fun _ => ?_) (fun _ => ?_)
    · exact wA_fX1_fateOfDouble_J79 N g x1 x2 0 d hS hZ
    · exact wA_fX1_fateOfDouble_J79 N g x1 x2 6 d hS hZ
  · refine pc_cb (wA_fX4_tickAt N g y3 d hS hZ) (fun u8 d6 z_5 => ?_)
    refine pc_if (fun _ => ?_) (fun _ => ?_)
    · refine pc_cb (wA_fX4_isDownAt N g y3 d6 hS z_5) (fun u12 d10 z_6 => ?_)
      refine pc_if (fun _ => ?_) (fun _ => ?_)
      · refine pc_bd (fun u14 e_7 => ?_)
        exact hK2 _ z_6
      · refine pc_cb (wA_fX4_keyAt N g y3 d10 hS z_6) (fun u17 d15 z_8 => ?_)
        refine pc_if (fun _ => ?_) (fun _ => ?_)
        · exact wA_fX1_fateOfDouble_J58 N g x1 x2 7 d15 hS z_8
        · exact wA_fX1_fateOfDouble_J58 N g x1 x2 6 d15 hS z_8
    · exact pc_some z_5
theorem wA_fX1_fateOfDouble_L2 {d0 : Ds} (N : Nat) (g : Gs) (x1 : Int32) (x2 : Int32) (hS : Shp g) (a0 : Int32) (a1 : Ds) (hZ : FQA d0 a1) : pc (fX1_fateOfDouble_L2 N g 247 x1 x2 (a0, a1)) (fun _ d1 => FQA d0 d1) := by
  unfold fX1_fateOfDouble_L2
  refine pc_lp (fun a => FQA d0 a.2) ?_ N (a0, a1) hZ
  rintro K ⟨a0, a1⟩ hZ hK
  exact wA_fX1_fateOfDouble_B2 N g x1 x2 K a0 a1 hS hZ hK
theorem wA_fX1_fateOfDouble {d0 : Ds} (N : Nat) (g : Gs) (x1 : Int32) (x2 : Int32) (d : Ds) (hS : Shp g) (hZ : FQA d0 d) : pc (fX1_fateOfDouble N g 247 x1 x2 d) (fun _ d1 => FQA d0 d1) := by
  unfold fX1_fateOfDouble
  exact wA_fX1_fateOfDouble_L2 N g x1 x2 hS 1 d hZ
theorem wA_fX1_fateOfFirst_J241 {d0 : Ds} (N : Nat) (g : Gs) (z0 : Int32) (d : Ds) (hS : Shp g) (hZ : FQA d0 d) : pc (fX1_fateOfFirst_J241 N g 247 z0 d) (fun _ d1 => FQA d0 d1) := by
  unfold fX1_fateOfFirst_J241
  exact pc_some hZ
theorem wA_fX1_fateOfFirst_J160 {d0 : Ds} (N : Nat) (g : Gs) (y1 : Int32) (d : Ds) (hS : Shp g) (hZ : FQA d0 d) : pc (fX1_fateOfFirst_J160 N g 247 y1 d) (fun _ d1 => FQA d0 d1) := by
  unfold fX1_fateOfFirst_J160
  refine pc_gd (fun c_1 => ?_)
  refine pc_ob (fun r19 e_2 => ?_)
  have t_3 := gq hS (e := 117) (by decide +kernel) e_2
  subst t_3
  refine pc_cb (wA_fX1_activeLayers N g d hS hZ) (fun u22 d20 z_4 => ?_)
  refine pc_gd (fun c_5 => ?_)
  refine pc_cb (wA_fX0_deedIn N g u22 y1 d20 hS z_4) (fun u26 d24 z_6 => ?_)
  refine pc_gd (fun c_7 => ?_)
  refine pc_bd (fun u28 e_8 => ?_)
  refine pc_if (fun _ => ?_) (fun _ => ?_)
  · exact wA_fX1_fateOfFirst_J188 N g y1 d24 hS z_6
  · refine pc_if (fun _ => ?_) (fun _ => ?_)
    · exact wA_fX1_fateOfFirst_J188 N g y1 d24 hS z_6
    · refine pc_if (fun _ => ?_) (fun _ => ?_)
      · refine pc_ob (fun r43 e_9 => ?_)
        have t_10 := gq hS (e := 254) (by decide +kernel) e_9
        subst t_10
        refine pc_gd (fun c_11 => ?_)
        refine pc_cb (wA_fX4_tickAt N g 0 d24 hS z_6) (fun u47 d45 z_12 => ?_)
        refine pc_cb (wA_fX1_fateOfDouble N g y1 (u47 + (dI d45 117 7)) d45 hS z_12) (fun u50 d48 z_13 => ?_)
        exact wA_fX1_fateOfFirst_J241 N g u50 d48 hS z_13
      · exact wA_fX1_fateOfFirst_J241 N g 3 d24 hS z_6
theorem wA_fX1_fateOfFirst_J120 {d0 : Ds} (N : Nat) (g : Gs) (y1 : Int32) (y3 : Int32) (z0 : Int32) (d : Ds) (hS : Shp g) (hZ : FQA d0 d) : pc (fX1_fateOfFirst_J120 N g 247 y1 y3 z0 d) (fun _ d1 => FQA d0 d1) := by
  unfold fX1_fateOfFirst_J120
  refine pc_gd (fun c_1 => ?_)
  refine pc_ob (fun r64 e_2 => ?_)
  have t_3 := gq hS (e := 254) (by decide +kernel) e_2
  subst t_3
  refine pc_gd (fun c_4 => ?_)
  refine pc_cb (wA_fX4_isDownAt N g 1 d hS hZ) (fun u68 d66 z_5 => ?_)
  refine pc_if (fun _ => ?_) (fun _ => ?_)
  · exact wA_fX1_fateOfFirst_J160 N g y1 d66 hS z_5
  · refine pc_cb (wA_fX4_keyAt N g 1 d66 hS z_5) (fun u72 d70 z_6 => ?_)
    refine pc_if (fun _ => ?_) (fun _ => ?_)
    · refine pc_cb (wA_fX4_tickAt N g 1 d70 hS z_6) (fun u76 d74 z_7 => ?_)
      refine pc_if (fun _ => ?_) (fun _ => ?_)
      · exact wA_fX1_fateOfFirst_J160 N g y1 d74 hS z_7
      · exact pc_some z_7
    · exact wA_fX1_fateOfFirst_J160 N g y1 d70 hS z_6
theorem wA_fX1_fateOfFirst_J86 {d0 : Ds} (N : Nat) (g : Gs) (y1 : Int32) (y2 : Int32) (y3 : Int32) (d : Ds) (hS : Shp g) (hZ : FQA d0 d) : pc (fX1_fateOfFirst_J86 N g 247 y1 y2 y3 d) (fun _ d1 => FQA d0 d1) := by
  unfold fX1_fateOfFirst_J86
  refine pc_gd (fun c_1 => ?_)
  refine pc_ob (fun r57 e_2 => ?_)
  have t_3 := gq hS (e := 117) (by decide +kernel) e_2
  subst t_3
  refine pc_gd (fun c_4 => ?_)
  refine pc_ob (fun r59 e_5 => ?_)
  have t_6 := gq hS (e := 120) (by decide +kernel) e_5
  subst t_6
  refine pc_gd (fun c_7 => ?_)
  refine pc_gd (fun c_8 => ?_)
  refine pc_if (fun _ => ?_) (fun _ => ?_)
  · refine pc_ob (fun r78 e_9 => ?_)
    have t_10 := gq hS (e := 121) (by decide +kernel) e_9
    subst t_10
    refine pc_gd (fun c_11 => ?_)
    refine pc_gd (fun c_12 => ?_)
    exact wA_fX1_fateOfFirst_J120 N g y1 y3 (dI d 121 y2.toNatClampNeg) d hS hZ
  · exact wA_fX1_fateOfFirst_J120 N g y1 y3 (dI d 120 y2.toNatClampNeg) d hS hZ
theorem wA_fX1_fateOfFirst {d0 : Ds} (N : Nat) (g : Gs) (d : Ds) (hS : Shp g) (hZ : FQA d0 d) : pc (fX1_fateOfFirst N g 247 d) (fun _ d1 => FQA d0 d1) := by
  unfold fX1_fateOfFirst
  refine pc_gd (fun c_1 => ?_)
  refine pc_ob (fun r2 e_2 => ?_)
  have t_3 := gq hS (e := 254) (by decide +kernel) e_2
  subst t_3
  refine pc_gd (fun c_4 => ?_)
  refine pc_if (fun _ => ?_) (fun _ => ?_)
  · exact pc_some hZ
  · refine pc_cb (wA_fX4_isDownAt N g 0 d hS hZ) (fun u7 d5 z_5 => ?_)
    refine pc_if (fun _ => ?_) (fun _ => ?_)
    · exact pc_some z_5
    · refine pc_cb (wA_fX4_keyAt N g 0 d5 hS z_5) (fun u11 d9 z_6 => ?_)
      refine pc_ob (fun r12 e_7 => ?_)
      have t_8 := gq hS (e := 117) (by decide +kernel) e_7
      subst t_8
      refine pc_gd (fun c_9 => ?_)
      refine pc_cb (wA_fX0_chordOf N g u11 d9 hS z_6) (fun u16 d14 z_10 => ?_)
      refine pc_if (fun _ => ?_) (fun _ => ?_)
      · exact wA_fX1_fateOfFirst_J160 N g u11 d14 hS z_10
      · refine pc_cb (wA_fX4_tickAt N g 0 d14 hS z_10) (fun u53 d51 z_11 => ?_)
        refine pc_bd (fun u54 e_12 => ?_)
        refine pc_if (fun _ => ?_) (fun _ => ?_)
        · refine pc_if (fun _ => ?_) (fun _ => ?_)
          · exact wA_fX1_fateOfFirst_J86 N g u11 u16 u54 d51 hS z_11
          · exact pc_some z_11
        · exact wA_fX1_fateOfFirst_J86 N g u11 u16 u54 d51 hS z_11
theorem wA_fX4_drop_J45 {d0 : Ds} (N : Nat) (g : Gs) (x1 : Int32) (d : Ds) (hS : Shp g) (hZ : FQA d0 d) : pc (fX4_drop_J45 N g 254 x1 d) (fun _ d1 => FQA d0 d1) := by
  unfold fX4_drop_J45
  exact pc_some hZ
theorem wA_fX4_drop {d0 : Ds} (N : Nat) (g : Gs) (x1 : Int32) (d : Ds) (hS : Shp g) (hZ : FQA d0 d) : pc (fX4_drop N g 254 x1 d) (fun _ d1 => FQA d0 d1) := by
  unfold fX4_drop
  refine pc_if (fun _ => ?_) (fun _ => ?_)
  · exact wA_fX4_drop_J45 N g x1 d hS hZ
  · refine pc_gd (fun c_1 => ?_)
    refine pc_if (fun _ => ?_) (fun _ => ?_)
    · exact wA_fX4_drop_J45 N g x1 d hS hZ
    · refine pc_ob (fun r4 e_2 => ?_)
      have t_3 := gq hS (e := 255) (by decide +kernel) e_2
      subst t_3
      refine pc_gd (fun c_4 => ?_)
      refine pc_gd (fun c_5 => ?_)
      refine pc_gd (fun c_6 => ?_)
      refine pc_gd (fun c_7 => ?_)
      refine pc_gd (fun c_8 => ?_)
      refine pc_gd (fun c_9 => ?_)
      refine pc_bd (fun d11 e_10 => ?_)
      have z_11 := FQA.ci hZ rfl e_10
      refine pc_bd (fun d12 e_12 => ?_)
      have z_13 := FQA.i z_11 rfl e_12
      exact wA_fX4_drop_J45 N g x1 d12 hS z_13
theorem wA_fX3_drop_J58 {d0 : Ds} (N : Nat) (g : Gs) (x1 : Int32) (K25 : Int32 × Int32 × Ds → Option (Unit × Ds)) (y2 : Int32) (y3 : Int32) (d : Ds) (hS : Shp g) (hZ : FQA d0 d) (hK25 : ∀ a, FQA d0 a.2.2 → pc (K25 a) (fun _ d1 => FQA d0 d1)) : pc (fX3_drop_J58 N g 256 x1 K25 y2 y3 d) (fun _ d1 => FQA d0 d1) := by
  unfold fX3_drop_J58
  refine pc_bd (fun u21 e_1 => ?_)
  exact hK25 _ hZ
theorem wA_fX3_drop_B25 {d0 : Ds} (N : Nat) (g : Gs) (x1 : Int32) (K25 : Int32 × Int32 × Ds → Option (Unit × Ds)) (y2 : Int32) (y3 : Int32) (d : Ds) (hS : Shp g) (hZ : FQA d0 d) (hK25 : ∀ a, FQA d0 a.2.2 → pc (K25 a) (fun _ d1 => FQA d0 d1)) : pc (fX3_drop_B25 N g 256 x1 K25 y2 y3 d) (fun _ d1 => FQA d0 d1) := by
  unfold fX3_drop_B25
  refine pc_gd (fun c_1 => ?_)
  refine pc_if (fun _ => ?_) (fun _ => ?_)
  · refine pc_bd (fun d16 e_2 => ?_)
    have z_3 := FQA.i hZ rfl e_2
    exact pc_some z_3
  · refine pc_ob (fun r17 e_4 => ?_)
    have t_5 := gq hS (e := 260) (by decide +kernel) e_4
    subst t_5
    refine pc_gd (fun c_6 => ?_)
    refine pc_gd (fun c_7 => ?_)
    refine pc_if (fun _ => ?_) (fun _ => ?_)
    · exact wA_fX3_drop_J58 N g x1 K25 y2 y3 d hS hZ hK25
    · refine pc_gd (fun c_8 => ?_)
      refine pc_bd (fun d23 e_9 => ?_)
      have z_10 := FQA.i hZ rfl e_9
      refine pc_bd (fun u24 e_11 => ?_)
      exact wA_fX3_drop_J58 N g x1 K25 u24 y3 d23 hS z_10 hK25
theorem wA_fX3_drop_L25 {d0 : Ds} (N : Nat) (g : Gs) (x1 : Int32) (hS : Shp g) (a0 : Int32) (a1 : Int32) (a2 : Ds) (hZ : FQA d0 a2) : pc (fX3_drop_L25 N g 256 x1 (a0, a1, a2)) (fun _ d1 => FQA d0 d1) := by
  unfold fX3_drop_L25
  refine pc_lp (fun a => FQA d0 a.2.2) ?_ N (a0, a1, a2) hZ
  rintro K ⟨a0, a1, a2⟩ hZ hK
  exact wA_fX3_drop_B25 N g x1 K a0 a1 a2 hS hZ hK
theorem wA_fX3_drop {d0 : Ds} (N : Nat) (g : Gs) (x1 : Int32) (d : Ds) (hS : Shp g) (hZ : FQA d0 d) : pc (fX3_drop N g 256 x1 d) (fun _ d1 => FQA d0 d1) := by
  unfold fX3_drop
  refine pc_gd (fun c_1 => ?_)
  refine pc_ob (fun r2 e_2 => ?_)
  have t_3 := gq hS (e := 257) (by decide +kernel) e_2
  subst t_3
  refine pc_gd (fun c_4 => ?_)
  refine pc_gd (fun c_5 => ?_)
  refine pc_bd (fun d5 e_6 => ?_)
  have z_7 := FQA.i hZ rfl e_6
  refine pc_ob (fun r6 e_8 => ?_)
  have t_9 := gq hS (e := 258) (by decide +kernel) e_8
  subst t_9
  refine pc_gd (fun c_10 => ?_)
  refine pc_gd (fun c_11 => ?_)
  refine pc_bd (fun d9 e_12 => ?_)
  have z_13 := FQA.i z_7 rfl e_12
  refine pc_ob (fun r10 e_14 => ?_)
  have t_15 := gq hS (e := 259) (by decide +kernel) e_14
  subst t_15
  refine pc_gd (fun c_16 => ?_)
  refine pc_gd (fun c_17 => ?_)
  refine pc_bd (fun d13 e_18 => ?_)
  have z_19 := FQA.i z_13 rfl e_18
  exact wA_fX3_drop_L25 N g x1 hS 0 0 d13 z_19
theorem wA_fX3_end_J22 {d0 : Ds} (N : Nat) (g : Gs) (x1 : Int32) (d : Ds) (hS : Shp g) (hZ : FQA d0 d) : pc (fX3_end_J22 N g 256 x1 d) (fun _ d1 => FQA d0 d1) := by
  unfold fX3_end_J22
  exact pc_some hZ
theorem wA_fX3_end {d0 : Ds} (N : Nat) (g : Gs) (x1 : Int32) (d : Ds) (hS : Shp g) (hZ : FQA d0 d) : pc (fX3_end N g 256 x1 d) (fun _ d1 => FQA d0 d1) := by
  unfold fX3_end
  refine pc_gd (fun c_1 => ?_)
  refine pc_ob (fun r2 e_2 => ?_)
  have t_3 := gq hS (e := 259) (by decide +kernel) e_2
  subst t_3
  refine pc_gd (fun c_4 => ?_)
  refine pc_gd (fun c_5 => ?_)
  refine pc_bd (fun u5 e_6 => ?_)
  refine pc_cv (wA_fX3_drop N g x1 d hS hZ) (fun d6 z_7 => ?_)
  refine pc_if (fun _ => ?_) (fun _ => ?_)
  · exact wA_fX3_end_J22 N g x1 d6 hS z_7
  · refine pc_cv (wA_fX3_drop N g u5 d6 hS z_7) (fun d9 z_8 => ?_)
    exact wA_fX3_end_J22 N g x1 d9 hS z_8
theorem wA_fX5_rowOf_J33 {d0 : Ds} (N : Nat) (g : Gs) (x1 : Int32) (z0 : Int32) (d : Ds) (hS : Shp g) (hZ : FQA d0 d) : pc (fX5_rowOf_J33 N g 262 x1 z0 d) (fun _ d1 => FQA d0 d1) := by
  unfold fX5_rowOf_J33
  exact pc_some hZ
theorem wA_fX5_rowOf_J18 {d0 : Ds} (N : Nat) (g : Gs) (x1 : Int32) (d : Ds) (hS : Shp g) (hZ : FQA d0 d) : pc (fX5_rowOf_J18 N g 262 x1 d) (fun _ d1 => FQA d0 d1) := by
  unfold fX5_rowOf_J18
  exact wA_fX5_rowOf_J33 N g x1 (-1) d hS hZ
theorem wA_fX5_rowOf {d0 : Ds} (N : Nat) (g : Gs) (x1 : Int32) (d : Ds) (hS : Shp g) (hZ : FQA d0 d) : pc (fX5_rowOf N g 262 x1 d) (fun _ d1 => FQA d0 d1) := by
  unfold fX5_rowOf
  refine pc_if (fun _ => ?_) (fun _ => ?_)
  · exact wA_fX5_rowOf_J18 N g x1 d hS hZ
  · refine pc_if (fun _ => ?_) (fun _ => ?_)
    · exact wA_fX5_rowOf_J18 N g x1 d hS hZ
    · refine pc_gd (fun c_1 => ?_)
      refine pc_if (fun _ => ?_) (fun _ => ?_)
      · refine pc_gd (fun c_2 => ?_)
        exact wA_fX5_rowOf_J33 N g x1 ((((dI d 262 4) - 1) - x1) - (((((dI d 262 4) - 1) - x1) / 40) * 40)) d hS hZ
      · exact wA_fX5_rowOf_J18 N g x1 d hS hZ
theorem wA_fX5_isAlike_J24 {d0 : Ds} (N : Nat) (g : Gs) (x1 : Int32) (x3 : Int32) (z0 : Int32) (d : Ds) (hS : Shp g) (hZ : FQA d0 d) : pc (fX5_isAlike_J24 N g 262 x1 256 x3 z0 d) (fun _ d1 => FQA d0 d1) := by
  unfold fX5_isAlike_J24
  refine pc_gd (fun c_1 => ?_)
  exact pc_some hZ
theorem wA_fX5_isAlike_J23 {d0 : Ds} (N : Nat) (g : Gs) (x1 : Int32) (x3 : Int32) (d : Ds) (hS : Shp g) (hZ : FQA d0 d) : pc (fX5_isAlike_J23 N g 262 x1 256 x3 d) (fun _ d1 => FQA d0 d1) := by
  unfold fX5_isAlike_J23
  exact wA_fX5_isAlike_J24 N g x1 x3 0 d hS hZ
theorem wA_fX5_codeAt_J24 {d0 : Ds} (N : Nat) (g : Gs) (x1 : Int32) (x2 : Int32) (d : Ds) (hS : Shp g) (hZ : FQA d0 d) : pc (fX5_codeAt_J24 N g 262 x1 x2 d) (fun _ d1 => FQA d0 d1) := by
  unfold fX5_codeAt_J24
  exact pc_some hZ
theorem wA_fX5_codeAt {d0 : Ds} (N : Nat) (g : Gs) (x1 : Int32) (x2 : Int32) (d : Ds) (hS : Shp g) (hZ : FQA d0 d) : pc (fX5_codeAt N g 262 x1 x2 d) (fun _ d1 => FQA d0 d1) := by
  unfold fX5_codeAt
  refine pc_if (fun _ => ?_) (fun _ => ?_)
  · exact wA_fX5_codeAt_J24 N g x1 x2 d hS hZ
  · refine pc_if (fun _ => ?_) (fun _ => ?_)
    · exact wA_fX5_codeAt_J24 N g x1 x2 d hS hZ
    · refine pc_if (fun _ => ?_) (fun _ => ?_)
      · exact wA_fX5_codeAt_J24 N g x1 x2 d hS hZ
      · refine pc_gd (fun c_1 => ?_)
        refine pc_ob (fun r5 e_2 => ?_)
        have t_3 := gq hS (e := 265) (by decide +kernel) e_2
        subst t_3
        refine pc_gd (fun c_4 => ?_)
        refine pc_gd (fun c_5 => ?_)
        refine pc_if (fun _ => ?_) (fun _ => ?_)
        · refine pc_ob (fun r9 e_6 => ?_)
          have t_7 := gq hS (e := 266) (by decide +kernel) e_6
          subst t_7
          refine pc_gd (fun c_8 => ?_)
          refine pc_gd (fun c_9 => ?_)
          exact pc_some hZ
        · exact wA_fX5_codeAt_J24 N g x1 x2 d hS hZ
theorem wA_fX5_isAlike_B65 {d0 : Ds} (N : Nat) (g : Gs) (x1 : Int32) (x3 : Int32) (K65 : Int32 × Ds → Option (Int32 × Ds)) (y4 : Int32) (d : Ds) (hS : Shp g) (hZ : FQA d0 d) (hK65 : ∀ a, FQA d0 a.2 → pc (K65 a) (fun _ d1 => FQA d0 d1)) : pc (fX5_isAlike_B65 N g 262 x1 256 x3 K65 y4 d) (fun _ d1 => FQA d0 d1) := by
  unfold fX5_isAlike_B65
  refine pc_gd (fun c_1 => ?_)
  refine pc_ob (fun r14 e_2 => ?_)
  have t_3 := gq hS (e := 265) (by decide +kernel) e_2
  subst t_3
  refine pc_gd (fun c_4 => ?_)
  refine pc_gd (fun c_5 => ?_)
  refine pc_if (fun _ => ?_) (fun _ => ?_)
  · exact pc_some hZ
  · refine pc_cb (wA_fX5_codeAt N g x1 y4 d hS hZ) (fun u20 d18 z_6 => ?_)
    refine pc_gd (fun c_7 => ?_)
    refine pc_ob (fun r22 e_8 => ?_)
    have t_9 := gq hS (e := 261) (by decide +kernel) e_8
    subst t_9
    refine pc_gd (fun c_10 => ?_)
    refine pc_gd (fun c_11 => ?_)
    refine pc_if (fun _ => ?_) (fun _ => ?_)
    · refine pc_bd (fun u26 e_12 => ?_)
      exact hK65 _ z_6
    · exact pc_some z_6
theorem wA_fX5_isAlike_L65 {d0 : Ds} (N : Nat) (g : Gs) (x1 : Int32) (x3 : Int32) (hS : Shp g) (a0 : Int32) (a1 : Ds) (hZ : FQA d0 a1) : pc (fX5_isAlike_L65 N g 262 x1 256 x3 (a0, a1)) (fun _ d1 => FQA d0 d1) := by
  unfold fX5_isAlike_L65
  refine pc_lp (fun a => FQA d0 a.2) ?_ N (a0, a1) hZ
  rintro K ⟨a0, a1⟩ hZ hK
  exact wA_fX5_isAlike_B65 N g x1 x3 K a0 a1 hS hZ hK
theorem wA_fX5_isAlike_J60 {d0 : Ds} (N : Nat) (g : Gs) (x1 : Int32) (x3 : Int32) (d : Ds) (hS : Shp g) (hZ : FQA d0 d) : pc (fX5_isAlike_J60 N g 262 x1 256 x3 d) (fun _ d1 => FQA d0 d1) := by
  unfold fX5_isAlike_J60
  exact pc_some hZ
theorem wA_fX5_isAlike_J57 {d0 : Ds} (N : Nat) (g : Gs) (x1 : Int32) (x3 : Int32) (z0 : Int32) (z1 : Int32) (d : Ds) (hS : Shp g) (hZ : FQA d0 d) : pc (fX5_isAlike_J57 N g 262 x1 256 x3 z0 z1 d) (fun _ d1 => FQA d0 d1) := by
  unfold fX5_isAlike_J57
  refine pc_if (fun _ => ?_) (fun _ => ?_)
  · exact wA_fX5_isAlike_L65 N g x1 x3 hS 0 d hZ
  · exact wA_fX5_isAlike_J60 N g x1 x3 d hS hZ
theorem wA_fX5_isAlike {d0 : Ds} (N : Nat) (g : Gs) (x1 : Int32) (x3 : Int32) (d : Ds) (hS : Shp g) (hZ : FQA d0 d) : pc (fX5_isAlike N g 262 x1 256 x3 d) (fun _ d1 => FQA d0 d1) := by
  unfold fX5_isAlike
  refine pc_if (fun _ => ?_) (fun _ => ?_)
  · refine pc_gd (fun c_1 => ?_)
    refine pc_if (fun _ => ?_) (fun _ => ?_)
    · refine pc_if (fun _ => ?_) (fun _ => ?_)
      · exact wA_fX5_isAlike_J24 N g x1 x3 1 d hS hZ
      · exact wA_fX5_isAlike_J23 N g x1 x3 d hS hZ
    · exact wA_fX5_isAlike_J23 N g x1 x3 d hS hZ
  · refine pc_gd (fun c_2 => ?_)
    refine pc_ob (fun r3 e_3 => ?_)
    have t_4 := gq hS (e := 264) (by decide +kernel) e_3
    subst t_4
    refine pc_gd (fun c_5 => ?_)
    refine pc_gd (fun c_6 => ?_)
    refine pc_gd (fun c_7 => ?_)
    refine pc_if (fun _ => ?_) (fun _ => ?_)
    · refine pc_ob (fun r8 e_8 => ?_)
      have t_9 := gq hS (e := 265) (by decide +kernel) e_8
      subst t_9
      refine pc_gd (fun c_10 => ?_)
      refine pc_gd (fun c_11 => ?_)
      refine pc_if (fun _ => ?_) (fun _ => ?_)
      · exact wA_fX5_isAlike_J57 N g x1 x3 (dI d 256 8) (dI d 265 x1.toNatClampNeg) d hS hZ
      · exact wA_fX5_isAlike_J57 N g x1 x3 (-2) (dI d 265 x1.toNatClampNeg) d hS hZ
    · exact wA_fX5_isAlike_J60 N g x1 x3 d hS hZ
theorem wA_fX3_sends_B2 {d0 : Ds} (N : Nat) (g : Gs) (x1 : Int32) (K2 : Int32 × Ds → Option (Int32 × Ds)) (y2 : Int32) (d : Ds) (hS : Shp g) (hZ : FQA d0 d) (hK2 : ∀ a, FQA d0 a.2 → pc (K2 a) (fun _ d1 => FQA d0 d1)) : pc (fX3_sends_B2 N g 256 x1 K2 y2 d) (fun _ d1 => FQA d0 d1) := by
  unfold fX3_sends_B2
  refine pc_gd (fun c_1 => ?_)
  refine pc_if (fun _ => ?_) (fun _ => ?_)
  · exact pc_some hZ
  · refine pc_ob (fun r3 e_2 => ?_)
    have t_3 := gq hS (e := 261) (by decide +kernel) e_2
    subst t_3
    refine pc_gd (fun c_4 => ?_)
    refine pc_gd (fun c_5 => ?_)
    refine pc_if (fun _ => ?_) (fun _ => ?_)
    · exact pc_some hZ
    · refine pc_bd (fun u7 e_6 => ?_)
      exact hK2 _ hZ
theorem wA_fX3_sends_L2 {d0 : Ds} (N : Nat) (g : Gs) (x1 : Int32) (hS : Shp g) (a0 : Int32) (a1 : Ds) (hZ : FQA d0 a1) : pc (fX3_sends_L2 N g 256 x1 (a0, a1)) (fun _ d1 => FQA d0 d1) := by
  unfold fX3_sends_L2
  refine pc_lp (fun a => FQA d0 a.2) ?_ N (a0, a1) hZ
  rintro K ⟨a0, a1⟩ hZ hK
  exact wA_fX3_sends_B2 N g x1 K a0 a1 hS hZ hK
theorem wA_fX3_sends {d0 : Ds} (N : Nat) (g : Gs) (x1 : Int32) (d : Ds) (hS : Shp g) (hZ : FQA d0 d) : pc (fX3_sends N g 256 x1 d) (fun _ d1 => FQA d0 d1) := by
  unfold fX3_sends
  exact wA_fX3_sends_L2 N g x1 hS 0 d hZ
theorem wA_fX5_makeLatest_J21 {d0 : Ds} (N : Nat) (g : Gs) (x1 : Int32) (x2 : Int32) (z0 : Int32) (d : Ds) (hS : Shp g) (hZ : FQA d0 d) : pc (fX5_makeLatest_J21 N g 262 x1 x2 z0 262 d) (fun _ d1 => FQA d0 d1) := by
  unfold fX5_makeLatest_J21
  refine pc_gd (fun c_1 => ?_)
  refine pc_bd (fun d6 e_2 => ?_)
  have z_3 := FQA.i hZ rfl e_2
  exact pc_some z_3
theorem wA_fX5_makeLatest {d0 : Ds} (N : Nat) (g : Gs) (x1 : Int32) (x2 : Int32) (d : Ds) (hS : Shp g) (hZ : FQA d0 d) : pc (fX5_makeLatest N g 262 x1 x2 d) (fun _ d1 => FQA d0 d1) := by
  unfold fX5_makeLatest
  refine pc_gd (fun c_1 => ?_)
  refine pc_bd (fun d2 e_2 => ?_)
  have z_3 := FQA.i hZ rfl e_2
  refine pc_bd (fun d3 e_4 => ?_)
  have z_5 := FQA.i z_3 rfl e_4
  refine pc_if (fun _ => ?_) (fun _ => ?_)
  · exact wA_fX5_makeLatest_J21 N g x1 x2 (-1) d3 hS z_5
  · exact wA_fX5_makeLatest_J21 N g x1 x2 0 d3 hS z_5
theorem wA_fX5_renewLatest_J87 {d0 : Ds} (N : Nat) (g : Gs) (x1 : Int32) (x3 : Int32) (x4 : Int32) (d : Ds) (hS : Shp g) (hZ : FQA d0 d) : pc (fX5_renewLatest_J87 N g 262 x1 256 x3 x4 d) (fun _ d1 => FQA d0 d1) := by
  unfold fX5_renewLatest_J87
  exact pc_some hZ
theorem wA_fX5_renewLatest_J81 {d0 : Ds} (N : Nat) (g : Gs) (x1 : Int32) (x3 : Int32) (x4 : Int32) (d : Ds) (hS : Shp g) (hZ : FQA d0 d) : pc (fX5_renewLatest_J81 N g 262 x1 256 x3 x4 d) (fun _ d1 => FQA d0 d1) := by
  unfold fX5_renewLatest_J81
  refine pc_gd (fun c_1 => ?_)
  refine pc_cv (wA_fX5_makeLatest N g (-1) (-1) d hS hZ) (fun d6 z_2 => ?_)
  exact wA_fX5_renewLatest_J87 N g x1 x3 x4 d6 hS z_2
theorem wA_fX5_renewLatest_J49 {d0 : Ds} (N : Nat) (g : Gs) (x1 : Int32) (x3 : Int32) (x4 : Int32) (y5 : Int32) (d : Ds) (hS : Shp g) (hZ : FQA d0 d) : pc (fX5_renewLatest_J49 N g 262 x1 256 x3 x4 y5 d) (fun _ d1 => FQA d0 d1) := by
  unfold fX5_renewLatest_J49
  refine pc_if (fun _ => ?_) (fun _ => ?_)
  · refine pc_if (fun _ => ?_) (fun _ => ?_)
    · refine pc_gd (fun c_1 => ?_)
      refine pc_gd (fun c_2 => ?_)
      refine pc_cb (wA_fX3_sends N g (dI d 262 5) d hS hZ) (fun u12 d10 z_3 => ?_)
      refine pc_if (fun _ => ?_) (fun _ => ?_)
      · exact wA_fX5_renewLatest_J81 N g x1 x3 x4 d10 hS z_3
      · exact wA_fX5_renewLatest_J87 N g x1 x3 x4 d10 hS z_3
    · exact wA_fX5_renewLatest_J81 N g x1 x3 x4 d hS hZ
  · refine pc_gd (fun c_4 => ?_)
    refine pc_cv (wA_fX5_makeLatest N g y5 x4 d hS hZ) (fun d15 z_5 => ?_)
    exact wA_fX5_renewLatest_J87 N g x1 x3 x4 d15 hS z_5
theorem wA_fX5_hasCode_J40 {d0 : Ds} (N : Nat) (g : Gs) (x1 : Int32) (x2 : Int32) (d : Ds) (hS : Shp g) (hZ : FQA d0 d) : pc (fX5_hasCode_J40 N g 262 x1 x2 d) (fun _ d1 => FQA d0 d1) := by
  unfold fX5_hasCode_J40
  exact pc_some hZ
theorem wA_fX5_hasCode_B2 {d0 : Ds} (N : Nat) (g : Gs) (x1 : Int32) (x2 : Int32) (K2 : Int32 × Ds → Option (Int32 × Ds)) (y3 : Int32) (d : Ds) (hS : Shp g) (hZ : FQA d0 d) (hK2 : ∀ a, FQA d0 a.2 → pc (K2 a) (fun _ d1 => FQA d0 d1)) : pc (fX5_hasCode_B2 N g 262 x1 x2 K2 y3 d) (fun _ d1 => FQA d0 d1) := by
  unfold fX5_hasCode_B2
  refine pc_if (fun _ => ?_) (fun _ => ?_)
  · exact wA_fX5_hasCode_J40 N g x1 x2 d hS hZ
  · refine pc_gd (fun c_1 => ?_)
    refine pc_ob (fun r3 e_2 => ?_)
    have t_3 := gq hS (e := 265) (by decide +kernel) e_2
    subst t_3
    refine pc_gd (fun c_4 => ?_)
    refine pc_gd (fun c_5 => ?_)
    refine pc_if (fun _ => ?_) (fun _ => ?_)
    · exact wA_fX5_hasCode_J40 N g x1 x2 d hS hZ
    · refine pc_ob (fun r7 e_6 => ?_)
      have t_7 := gq hS (e := 266) (by decide +kernel) e_6
      subst t_7
      refine pc_gd (fun c_8 => ?_)
      refine pc_gd (fun c_9 => ?_)
      refine pc_if (fun _ => ?_) (fun _ => ?_)
      · exact pc_some hZ
      · refine pc_bd (fun u11 e_10 => ?_)
        exact hK2 _ hZ
theorem wA_fX5_hasCode_L2 {d0 : Ds} (N : Nat) (g : Gs) (x1 : Int32) (x2 : Int32) (hS : Shp g) (a0 : Int32) (a1 : Ds) (hZ : FQA d0 a1) : pc (fX5_hasCode_L2 N g 262 x1 x2 (a0, a1)) (fun _ d1 => FQA d0 d1) := by
  unfold fX5_hasCode_L2
  refine pc_lp (fun a => FQA d0 a.2) ?_ N (a0, a1) hZ
  rintro K ⟨a0, a1⟩ hZ hK
  exact wA_fX5_hasCode_B2 N g x1 x2 K a0 a1 hS hZ hK
theorem wA_fX5_hasCode {d0 : Ds} (N : Nat) (g : Gs) (x1 : Int32) (x2 : Int32) (d : Ds) (hS : Shp g) (hZ : FQA d0 d) : pc (fX5_hasCode N g 262 x1 x2 d) (fun _ d1 => FQA d0 d1) := by
  unfold fX5_hasCode
  exact wA_fX5_hasCode_L2 N g x1 x2 hS 0 d hZ
theorem wA_fX5_renewLatest_J43 {d0 : Ds} (N : Nat) (g : Gs) (x1 : Int32) (x3 : Int32) (x4 : Int32) (K6 : Int32 × Int32 × Ds → Option (Unit × Ds)) (y5 : Int32) (y6 : Int32) (d : Ds) (hS : Shp g) (hZ : FQA d0 d) (hK6 : ∀ a, FQA d0 a.2.2 → pc (K6 a) (fun _ d1 => FQA d0 d1)) : pc (fX5_renewLatest_J43 N g 262 x1 256 x3 x4 K6 y5 y6 d) (fun _ d1 => FQA d0 d1) := by
  unfold fX5_renewLatest_J43
  refine pc_bd (fun u26 e_1 => ?_)
  exact hK6 _ hZ
theorem wA_fX5_renewLatest_B6 {d0 : Ds} (N : Nat) (g : Gs) (x1 : Int32) (x3 : Int32) (x4 : Int32) (K6 : Int32 × Int32 × Ds → Option (Unit × Ds)) (y5 : Int32) (y6 : Int32) (d : Ds) (hS : Shp g) (hZ : FQA d0 d) (hK6 : ∀ a, FQA d0 a.2.2 → pc (K6 a) (fun _ d1 => FQA d0 d1)) : pc (fX5_renewLatest_B6 N g 262 x1 256 x3 x4 K6 y5 y6 d) (fun _ d1 => FQA d0 d1) := by
  unfold fX5_renewLatest_B6
  refine pc_gd (fun c_1 => ?_)
  refine pc_if (fun _ => ?_) (fun _ => ?_)
  · exact wA_fX5_renewLatest_J49 N g x1 x3 x4 y5 d hS hZ
  · refine pc_if (fun _ => ?_) (fun _ => ?_)
    · refine pc_ob (fun r18 e_2 => ?_)
      have t_3 := gq hS (e := 261) (by decide +kernel) e_2
      subst t_3
      refine pc_gd (fun c_4 => ?_)
      refine pc_gd (fun c_5 => ?_)
      refine pc_gd (fun c_6 => ?_)
      refine pc_cb (wA_fX5_hasCode N g x1 (dI d 261 y6.toNatClampNeg) d hS hZ) (fun u24 d22 z_7 => ?_)
      refine pc_if (fun _ => ?_) (fun _ => ?_)
      · refine pc_bd (fun u27 e_8 => ?_)
        exact wA_fX5_renewLatest_J43 N g x1 x3 x4 K6 u27 y6 d22 hS z_7 hK6
      · exact wA_fX5_renewLatest_J43 N g x1 x3 x4 K6 y5 y6 d22 hS z_7 hK6
    · exact wA_fX5_renewLatest_J49 N g x1 x3 x4 y5 d hS hZ
theorem wA_fX5_renewLatest_L6 {d0 : Ds} (N : Nat) (g : Gs) (x1 : Int32) (x3 : Int32) (x4 : Int32) (hS : Shp g) (a0 : Int32) (a1 : Int32) (a2 : Ds) (hZ : FQA d0 a2) : pc (fX5_renewLatest_L6 N g 262 x1 256 x3 x4 (a0, a1, a2)) (fun _ d1 => FQA d0 d1) := by
  unfold fX5_renewLatest_L6
  refine pc_lp (fun a => FQA d0 a.2.2) ?_ N (a0, a1, a2) hZ
  rintro K ⟨a0, a1, a2⟩ hZ hK
  exact wA_fX5_renewLatest_B6 N g x1 x3 x4 K a0 a1 a2 hS hZ hK
theorem wA_fX5_renewLatest {d0 : Ds} (N : Nat) (g : Gs) (x1 : Int32) (x3 : Int32) (x4 : Int32) (d : Ds) (hS : Shp g) (hZ : FQA d0 d) : pc (fX5_renewLatest N g 262 x1 256 x3 x4 d) (fun _ d1 => FQA d0 d1) := by
  unfold fX5_renewLatest
  exact wA_fX5_renewLatest_L6 N g x1 x3 x4 hS (-1) 0 d hZ
theorem wA_fX5_reportIfUnlike_J98 {d0 : Ds} (N : Nat) (g : Gs) (x2 : Int32) (x3 : Int32) (y6 : Int32) (z0 : Int32) (z1 : Int32) (d : Ds) (hS : Shp g) (hZ : FQA d0 d) : pc (fX5_reportIfUnlike_J98 N g 262 256 x2 x3 y6 z0 z1 265 d) (fun _ d1 => FQA d0 d1) := by
  unfold fX5_reportIfUnlike_J98
  refine pc_gd (fun c_1 => ?_)
  refine pc_gd (fun c_2 => ?_)
  refine pc_bd (fun d27 e_3 => ?_)
  have z_4 := FQA.i hZ rfl e_3
  refine pc_gd (fun c_5 => ?_)
  refine pc_ob (fun r29 e_6 => ?_)
  have t_7 := gq hS (e := 261) (by decide +kernel) e_6
  subst t_7
  refine pc_gd (fun c_8 => ?_)
  refine pc_ob (fun r31 e_9 => ?_)
  have t_10 := gq hS (e := 266) (by decide +kernel) e_9
  subst t_10
  refine pc_gd (fun c_11 => ?_)
  refine pc_gd (fun c_12 => ?_)
  refine pc_gd (fun c_13 => ?_)
  refine pc_gd (fun c_14 => ?_)
  refine pc_gd (fun c_15 => ?_)
  refine pc_gd (fun c_16 => ?_)
  refine pc_gd (fun c_17 => ?_)
  refine pc_bd (fun d39 e_18 => ?_)
  have z_19 := FQA.ci z_4 rfl e_18
  refine pc_bd (fun d40 e_20 => ?_)
  have z_21 := FQA.i z_19 rfl e_20
  exact pc_some z_21
theorem wA_fX5_reportIfUnlike_J18 {d0 : Ds} (N : Nat) (g : Gs) (x2 : Int32) (x3 : Int32) (z0 : Int32) (d : Ds) (hS : Shp g) (hZ : FQA d0 d) : pc (fX5_reportIfUnlike_J18 N g 262 256 x2 x3 z0 d) (fun _ d1 => FQA d0 d1) := by
  unfold fX5_reportIfUnlike_J18
  refine pc_gd (fun c_1 => ?_)
  refine pc_cb (wA_fX5_rowOf N g 0 d hS hZ) (fun u5 d3 z_2 => ?_)
  refine pc_cb (wA_fX5_isAlike N g u5 z0 d3 hS z_2) (fun u8 d6 z_3 => ?_)
  refine pc_if (fun _ => ?_) (fun _ => ?_)
  · refine pc_cv (wA_fX5_renewLatest N g u5 z0 x3 d6 hS z_3) (fun d10 z_4 => ?_)
    refine pc_gd (fun c_5 => ?_)
    refine pc_bd (fun u13 e_6 => ?_)
    refine pc_ob (fun r14 e_7 => ?_)
    have t_8 := gq hS (e := 263) (by decide +kernel) e_7
    subst t_8
    refine pc_gd (fun c_9 => ?_)
    refine pc_gd (fun c_10 => ?_)
    refine pc_bd (fun d17 e_11 => ?_)
    have z_12 := FQA.i z_4 rfl e_11
    refine pc_ob (fun r18 e_13 => ?_)
    have t_14 := gq hS (e := 264) (by decide +kernel) e_13
    subst t_14
    refine pc_gd (fun c_15 => ?_)
    refine pc_gd (fun c_16 => ?_)
    refine pc_gd (fun c_17 => ?_)
    refine pc_bd (fun d22 e_18 => ?_)
    have z_19 := FQA.i z_12 rfl e_18
    refine pc_ob (fun r23 e_20 => ?_)
    have t_21 := gq hS (e := 265) (by decide +kernel) e_20
    subst t_21
    refine pc_if (fun _ => ?_) (fun _ => ?_)
    · exact wA_fX5_reportIfUnlike_J98 N g x2 x3 u13 (dI d22 256 8) u13 d22 hS z_19
    · exact wA_fX5_reportIfUnlike_J98 N g x2 x3 u13 (-2) u13 d22 hS z_19
  · exact pc_some z_3
theorem wA_fX5_reportIfUnlike_J17 {d0 : Ds} (N : Nat) (g : Gs) (x2 : Int32) (x3 : Int32) (d : Ds) (hS : Shp g) (hZ : FQA d0 d) : pc (fX5_reportIfUnlike_J17 N g 262 256 x2 x3 d) (fun _ d1 => FQA d0 d1) := by
  unfold fX5_reportIfUnlike_J17
  exact wA_fX5_reportIfUnlike_J18 N g x2 x3 0 d hS hZ
theorem wA_fX5_reportIfUnlike {d0 : Ds} (N : Nat) (g : Gs) (x2 : Int32) (x3 : Int32) (d : Ds) (hS : Shp g) (hZ : FQA d0 d) : pc (fX5_reportIfUnlike N g 262 256 x2 x3 d) (fun _ d1 => FQA d0 d1) := by
  unfold fX5_reportIfUnlike
  refine pc_if (fun _ => ?_) (fun _ => ?_)
  · exact wA_fX5_reportIfUnlike_J17 N g x2 x3 d hS hZ
  · refine pc_gd (fun c_1 => ?_)
    refine pc_if (fun _ => ?_) (fun _ => ?_)
    · exact wA_fX5_reportIfUnlike_J17 N g x2 x3 d hS hZ
    · exact wA_fX5_reportIfUnlike_J18 N g x2 x3 1 d hS hZ
theorem wA_fX1_send {d0 : Ds} (N : Nat) (g : Gs) (x1 : Int32) (d : Ds) (hS : Shp g) (hZ : FQA d0 d) : pc (fX1_send N g 247 x1 d) (fun _ d1 => FQA d0 d1) := by
  unfold fX1_send
  refine pc_gd (fun c_1 => ?_)
  refine pc_ob (fun r2 e_2 => ?_)
  have t_3 := gq hS (e := 256) (by decide +kernel) e_2
  subst t_3
  refine pc_gd (fun c_4 => ?_)
  refine pc_cv (wA_fX3_gather N g x1 d hS hZ) (fun d4 z_5 => ?_)
  refine pc_ob (fun r6 e_6 => ?_)
  have t_7 := gq hS (e := 262) (by decide +kernel) e_6
  subst t_7
  refine pc_ob (fun r7 e_8 => ?_)
  have t_9 := gq hS (e := 117) (by decide +kernel) e_8
  subst t_9
  refine pc_gd (fun c_10 => ?_)
  refine pc_gd (fun c_11 => ?_)
  refine pc_cv (wA_fX5_reportIfUnlike N g (dI d4 117 3) (dI d4 247 5) d4 hS z_5) (fun d10 z_12 => ?_)
  exact pc_some z_12
theorem wA_fX0_chordDeed_J25 {d0 : Ds} (N : Nat) (g : Gs) (x1 : Int32) (z0 : Nat) (d : Ds) (hS : Shp g) (hZ : FQA d0 d) : pc (fX0_chordDeed_J25 N g 117 x1 z0 d) (fun _ d1 => FQA d0 d1) := by
  unfold fX0_chordDeed_J25
  exact pc_some hZ
theorem wA_fX0_chordDeed_J12 {d0 : Ds} (N : Nat) (g : Gs) (x1 : Int32) (d : Ds) (hS : Shp g) (hZ : FQA d0 d) : pc (fX0_chordDeed_J12 N g 117 x1 d) (fun _ d1 => FQA d0 d1) := by
  unfold fX0_chordDeed_J12
  refine pc_gd (fun c_1 => ?_)
  refine pc_ob (fun r3 e_2 => ?_)
  have t_3 := gq hS (e := 119) (by decide +kernel) e_2
  subst t_3
  exact wA_fX0_chordDeed_J25 N g x1 119 d hS hZ
theorem wA_fX0_chordDeed {d0 : Ds} (N : Nat) (g : Gs) (x1 : Int32) (d : Ds) (hS : Shp g) (hZ : FQA d0 d) : pc (fX0_chordDeed N g 117 x1 d) (fun _ d1 => FQA d0 d1) := by
  unfold fX0_chordDeed
  refine pc_if (fun _ => ?_) (fun _ => ?_)
  · exact wA_fX0_chordDeed_J12 N g x1 d hS hZ
  · refine pc_gd (fun c_1 => ?_)
    refine pc_if (fun _ => ?_) (fun _ => ?_)
    · refine pc_ob (fun r6 e_2 => ?_)
      have t_3 := gq hS (e := 122) (by decide +kernel) e_2
      subst t_3
      refine pc_gd (fun c_4 => ?_)
      refine pc_gd (fun c_5 => ?_)
      refine pc_ob (fun r9 e_6 => ?_)
      exact wA_fX0_chordDeed_J25 N g x1 r9 d hS hZ
    · exact wA_fX0_chordDeed_J12 N g x1 d hS hZ
theorem wA_fX3_begin_J61 {d0 : Ds} (N : Nat) (g : Gs) (x1 : Int32) (x2 : Int32) (x3 : Int32) (x4 : Int32) (d : Ds) (hS : Shp g) (hZ : FQA d0 d) : pc (fX3_begin_J61 N g 256 x1 x2 x3 x4 d) (fun _ d1 => FQA d0 d1) := by
  unfold fX3_begin_J61
  exact pc_some hZ
theorem wA_fX3_begin {d0 : Ds} (N : Nat) (g : Gs) (x1 : Int32) (x2 : Int32) (x3 : Int32) (x4 : Int32) (d : Ds) (hS : Shp g) (hZ : FQA d0 d) : pc (fX3_begin N g 256 x1 x2 x3 x4 d) (fun _ d1 => FQA d0 d1) := by
  unfold fX3_begin
  refine pc_gd (fun c_1 => ?_)
  refine pc_ob (fun r2 e_2 => ?_)
  have t_3 := gq hS (e := 257) (by decide +kernel) e_2
  subst t_3
  refine pc_gd (fun c_4 => ?_)
  refine pc_gd (fun c_5 => ?_)
  refine pc_if (fun _ => ?_) (fun _ => ?_)
  · refine pc_if (fun _ => ?_) (fun _ => ?_)
    · exact wA_fX3_begin_J61 N g x1 x2 x3 x4 d hS hZ
    · refine pc_bd (fun d7 e_6 => ?_)
      have z_7 := FQA.i hZ rfl e_6
      refine pc_ob (fun r8 e_8 => ?_)
      have t_9 := gq hS (e := 258) (by decide +kernel) e_8
      subst t_9
      refine pc_gd (fun c_10 => ?_)
      refine pc_gd (fun c_11 => ?_)
      refine pc_bd (fun d11 e_12 => ?_)
      have z_13 := FQA.i z_7 rfl e_12
      refine pc_ob (fun r12 e_14 => ?_)
      have t_15 := gq hS (e := 259) (by decide +kernel) e_14
      subst t_15
      refine pc_gd (fun c_16 => ?_)
      refine pc_gd (fun c_17 => ?_)
      refine pc_bd (fun d15 e_18 => ?_)
      have z_19 := FQA.i z_13 rfl e_18
      refine pc_ob (fun r16 e_20 => ?_)
      have t_21 := gq hS (e := 260) (by decide +kernel) e_20
      subst t_21
      refine pc_gd (fun c_22 => ?_)
      refine pc_gd (fun c_23 => ?_)
      refine pc_bd (fun d19 e_24 => ?_)
      have z_25 := FQA.i z_19 rfl e_24
      refine pc_bd (fun d20 e_26 => ?_)
      have z_27 := FQA.i z_25 rfl e_26
      exact wA_fX3_begin_J61 N g x1 x2 x3 x4 d20 hS z_27
  · exact wA_fX3_begin_J61 N g x1 x2 x3 x4 d hS hZ
theorem wA_fX1_perform_J127 {d0 : Ds} (N : Nat) (g : Gs) (x1 : Int32) (x2 : Int32) (x3 : Int32) (x4 : Int32) (d : Ds) (hS : Shp g) (hZ : FQA d0 d) : pc (fX1_perform_J127 N g 247 x1 x2 x3 x4 d) (fun _ d1 => FQA d0 d1) := by
  unfold fX1_perform_J127
  refine pc_gd (fun c_1 => ?_)
  refine pc_cv (wA_fX1_send N g (-1) d hS hZ) (fun d9 z_2 => ?_)
  exact pc_some z_2
theorem wA_fX1_perform_J14 {d0 : Ds} (N : Nat) (g : Gs) (x1 : Int32) (x2 : Int32) (x3 : Int32) (x4 : Int32) (d : Ds) (hS : Shp g) (hZ : FQA d0 d) : pc (fX1_perform_J14 N g 247 x1 x2 x3 x4 d) (fun _ d1 => FQA d0 d1) := by
  unfold fX1_perform_J14
  refine pc_gd (fun c_1 => ?_)
  refine pc_ob (fun r3 e_2 => ?_)
  have t_3 := gq hS (e := 256) (by decide +kernel) e_2
  subst t_3
  refine pc_gd (fun c_4 => ?_)
  refine pc_cv (wA_fX3_begin N g x1 x3 x4 x2 d hS hZ) (fun d5 z_5 => ?_)
  refine pc_if (fun _ => ?_) (fun _ => ?_)
  · exact wA_fX1_perform_J127 N g x1 x2 x3 x4 d5 hS z_5
  · refine pc_cv (wA_fX3_begin N g x2 x3 x4 x1 d5 hS z_5) (fun d11 z_6 => ?_)
    exact wA_fX1_perform_J127 N g x1 x2 x3 x4 d11 hS z_6
theorem wA_fX0_macroCode_J26 {d0 : Ds} (N : Nat) (g : Gs) (x1 : Int32) (x2 : Int32) (d : Ds) (hS : Shp g) (hZ : FQA d0 d) : pc (fX0_macroCode_J26 N g 117 x1 x2 d) (fun _ d1 => FQA d0 d1) := by
  unfold fX0_macroCode_J26
  exact pc_some hZ
theorem wA_fX0_macroCode {d0 : Ds} (N : Nat) (g : Gs) (x1 : Int32) (x2 : Int32) (d : Ds) (hS : Shp g) (hZ : FQA d0 d) : pc (fX0_macroCode N g 117 x1 x2 d) (fun _ d1 => FQA d0 d1) := by
  unfold fX0_macroCode
  refine pc_if (fun _ => ?_) (fun _ => ?_)
  · exact wA_fX0_macroCode_J26 N g x1 x2 d hS hZ
  · refine pc_gd (fun c_1 => ?_)
    refine pc_if (fun _ => ?_) (fun _ => ?_)
    · exact wA_fX0_macroCode_J26 N g x1 x2 d hS hZ
    · refine pc_if (fun _ => ?_) (fun _ => ?_)
      · exact wA_fX0_macroCode_J26 N g x1 x2 d hS hZ
      · refine pc_ob (fun r5 e_2 => ?_)
        have t_3 := gq hS (e := 123) (by decide +kernel) e_2
        subst t_3
        refine pc_gd (fun c_4 => ?_)
        refine pc_gd (fun c_5 => ?_)
        refine pc_if (fun _ => ?_) (fun _ => ?_)
        · refine pc_ob (fun r9 e_6 => ?_)
          have t_7 := gq hS (e := 124) (by decide +kernel) e_6
          subst t_7
          refine pc_gd (fun c_8 => ?_)
          refine pc_gd (fun c_9 => ?_)
          exact pc_some hZ
        · exact wA_fX0_macroCode_J26 N g x1 x2 d hS hZ
theorem wA_fX1_perform_B79 {d0 : Ds} (N : Nat) (g : Gs) (x1 : Int32) (x2 : Int32) (x3 : Int32) (x4 : Int32) (K79 : Int32 × Ds → Option (Unit × Ds)) (y5 : Int32) (d : Ds) (hS : Shp g) (hZ : FQA d0 d) (hK79 : ∀ a, FQA d0 a.2 → pc (K79 a) (fun _ d1 => FQA d0 d1)) : pc (fX1_perform_B79 N g 247 x1 x2 x3 x4 K79 y5 d) (fun _ d1 => FQA d0 d1) := by
  unfold fX1_perform_B79
  refine pc_if (fun _ => ?_) (fun _ => ?_)
  · exact wA_fX1_perform_J127 N g x1 x2 x3 x4 d hS hZ
  · refine pc_gd (fun c_1 => ?_)
    refine pc_ob (fun r19 e_2 => ?_)
    have t_3 := gq hS (e := 117) (by decide +kernel) e_2
    subst t_3
    refine pc_gd (fun c_4 => ?_)
    refine pc_cb (wA_fX0_macroCode N g x4 y5 d hS hZ) (fun u23 d21 z_5 => ?_)
    refine pc_if (fun _ => ?_) (fun _ => ?_)
    · exact wA_fX1_perform_J127 N g x1 x2 x3 x4 d21 hS z_5
    · refine pc_cb (wA_fX0_macroCode N g x4 y5 d21 hS z_5) (fun u27 d25 z_6 => ?_)
      refine pc_cv (wA_fX1_send N g u27 d25 hS z_6) (fun d28 z_7 => ?_)
      refine pc_cv (wA_fX1_send N g (-1) d28 hS z_7) (fun d30 z_8 => ?_)
      refine pc_bd (fun u32 e_9 => ?_)
      exact hK79 _ z_8
theorem wA_fX1_perform_L79 {d0 : Ds} (N : Nat) (g : Gs) (x1 : Int32) (x2 : Int32) (x3 : Int32) (x4 : Int32) (hS : Shp g) (a0 : Int32) (a1 : Ds) (hZ : FQA d0 a1) : pc (fX1_perform_L79 N g 247 x1 x2 x3 x4 (a0, a1)) (fun _ d1 => FQA d0 d1) := by
  unfold fX1_perform_L79
  refine pc_lp (fun a => FQA d0 a.2) ?_ N (a0, a1) hZ
  rintro K ⟨a0, a1⟩ hZ hK
  exact wA_fX1_perform_B79 N g x1 x2 x3 x4 K a0 a1 hS hZ hK
theorem wA_fX1_perform {d0 : Ds} (N : Nat) (g : Gs) (x1 : Int32) (x2 : Int32) (x3 : Int32) (x4 : Int32) (d : Ds) (hS : Shp g) (hZ : FQA d0 d) : pc (fX1_perform N g 247 x1 x2 x3 x4 d) (fun _ d1 => FQA d0 d1) := by
  unfold fX1_perform
  refine pc_if (fun _ => ?_) (fun _ => ?_)
  · exact wA_fX1_perform_J14 N g x1 x2 x3 x4 d hS hZ
  · refine pc_if (fun _ => ?_) (fun _ => ?_)
    · exact wA_fX1_perform_J14 N g x1 x2 x3 x4 d hS hZ
    · refine pc_if (fun _ => ?_) (fun _ => ?_)
      · exact wA_fX1_perform_J14 N g x1 x2 x3 x4 d hS hZ
      · refine pc_if (fun _ => ?_) (fun _ => ?_)
        · refine pc_gd (fun c_1 => ?_)
          refine pc_ob (fun r34 e_2 => ?_)
          have t_3 := gq hS (e := 256) (by decide +kernel) e_2
          subst t_3
          refine pc_gd (fun c_4 => ?_)
          refine pc_bd (fun d36 e_5 => ?_)
          have z_6 := FQA.i hZ rfl e_5
          exact wA_fX1_perform_J127 N g x1 x2 x3 x4 d36 hS z_6
        · refine pc_if (fun _ => ?_) (fun _ => ?_)
          · exact wA_fX1_perform_L79 N g x1 x2 x3 x4 hS 0 d hZ
          · exact wA_fX1_perform_J127 N g x1 x2 x3 x4 d hS hZ
theorem wA_fX1_workOff_J224 {d0 : Ds} (N : Nat) (g : Gs) (x1 : Int32) (d : Ds) (hS : Shp g) (hZ : FQA d0 d) : pc (fX1_workOff_J224 N g 247 x1 d) (fun _ d1 => FQA d0 d1) := by
  unfold fX1_workOff_J224
  exact pc_some hZ
theorem wA_fX1_workOff_J143 {d0 : Ds} (N : Nat) (g : Gs) (x1 : Int32) (y3 : Nat) (z0 : Int32) (z1 : Int32) (z2 : Int32) (d : Ds) (hS : Shp g) (hZ : FQA d0 d) : pc (fX1_workOff_J143 N g 247 x1 y3 z0 z1 z2 247 d) (fun _ d1 => FQA d0 d1) := by
  unfold fX1_workOff_J143
  refine pc_gd (fun c_1 => ?_)
  refine pc_gd (fun c_2 => ?_)
  refine pc_cv (wA_fX1_perform N g z2 z1 z0 (dI d y3 2) d hS hZ) (fun d39 z_3 => ?_)
  exact wA_fX1_workOff_J224 N g x1 d39 hS z_3
theorem wA_fX4_dropNext_J34 {d0 : Ds} (N : Nat) (g : Gs) (x1 : Int32) (x2 : Int32) (K2 : Int32 × Ds → Option (Unit × Ds)) (y3 : Int32) (d : Ds) (hS : Shp g) (hZ : FQA d0 d) (hK2 : ∀ a, FQA d0 a.2 → pc (K2 a) (fun _ d1 => FQA d0 d1)) : pc (fX4_dropNext_J34 N g 254 x1 x2 K2 y3 d) (fun _ d1 => FQA d0 d1) := by
  unfold fX4_dropNext_J34
  refine pc_bd (fun u7 e_1 => ?_)
  exact hK2 _ hZ
theorem wA_fX4_dropNext_B2 {d0 : Ds} (N : Nat) (g : Gs) (x1 : Int32) (x2 : Int32) (K2 : Int32 × Ds → Option (Unit × Ds)) (y3 : Int32) (d : Ds) (hS : Shp g) (hZ : FQA d0 d) (hK2 : ∀ a, FQA d0 a.2 → pc (K2 a) (fun _ d1 => FQA d0 d1)) : pc (fX4_dropNext_B2 N g 254 x1 x2 K2 y3 d) (fun _ d1 => FQA d0 d1) := by
  unfold fX4_dropNext_B2
  refine pc_gd (fun c_1 => ?_)
  refine pc_if (fun _ => ?_) (fun _ => ?_)
  · exact pc_some hZ
  · refine pc_cb (wA_fX4_keyAt N g y3 d hS hZ) (fun u5 d3 z_2 => ?_)
    refine pc_if (fun _ => ?_) (fun _ => ?_)
    · refine pc_cb (wA_fX4_isDownAt N g y3 d3 hS z_2) (fun u10 d8 z_3 => ?_)
      refine pc_if (fun _ => ?_) (fun _ => ?_)
      · refine pc_cv (wA_fX4_drop N g y3 d8 hS z_3) (fun d12 z_4 => ?_)
        exact pc_some z_4
      · exact wA_fX4_dropNext_J34 N g x1 x2 K2 y3 d8 hS z_3 hK2
    · exact wA_fX4_dropNext_J34 N g x1 x2 K2 y3 d3 hS z_2 hK2
theorem wA_fX4_dropNext_L2 {d0 : Ds} (N : Nat) (g : Gs) (x1 : Int32) (x2 : Int32) (hS : Shp g) (a0 : Int32) (a1 : Ds) (hZ : FQA d0 a1) : pc (fX4_dropNext_L2 N g 254 x1 x2 (a0, a1)) (fun _ d1 => FQA d0 d1) := by
  unfold fX4_dropNext_L2
  refine pc_lp (fun a => FQA d0 a.2) ?_ N (a0, a1) hZ
  rintro K ⟨a0, a1⟩ hZ hK
  exact wA_fX4_dropNext_B2 N g x1 x2 K a0 a1 hS hZ hK
theorem wA_fX4_dropNext {d0 : Ds} (N : Nat) (g : Gs) (x1 : Int32) (x2 : Int32) (d : Ds) (hS : Shp g) (hZ : FQA d0 d) : pc (fX4_dropNext N g 254 x1 x2 d) (fun _ d1 => FQA d0 d1) := by
  unfold fX4_dropNext
  exact wA_fX4_dropNext_L2 N g x1 x2 hS 0 d hZ
theorem wA_fX1_workOff {d0 : Ds} (N : Nat) (g : Gs) (x1 : Int32) (d : Ds) (hS : Shp g) (hZ : FQA d0 d) : pc (fX1_workOff N g 247 x1 d) (fun _ d1 => FQA d0 d1) := by
  unfold fX1_workOff
  refine pc_gd (fun c_1 => ?_)
  refine pc_ob (fun r2 e_2 => ?_)
  have t_3 := gq hS (e := 254) (by decide +kernel) e_2
  subst t_3
  refine pc_gd (fun c_4 => ?_)
  refine pc_cb (wA_fX4_keyAt N g 0 d hS hZ) (fun u6 d4 z_5 => ?_)
  refine pc_if (fun _ => ?_) (fun _ => ?_)
  · refine pc_cv (wA_fX4_drop N g 0 d4 hS z_5) (fun d59 z_6 => ?_)
    refine pc_ob (fun r61 e_7 => ?_)
    have t_8 := gq hS (e := 256) (by decide +kernel) e_7
    subst t_8
    refine pc_gd (fun c_9 => ?_)
    refine pc_cv (wA_fX3_end N g u6 d59 hS z_6) (fun d63 z_10 => ?_)
    refine pc_cv (wA_fX1_send N g (-1) d63 hS z_10) (fun d65 z_11 => ?_)
    exact pc_some z_11
  · refine pc_if (fun _ => ?_) (fun _ => ?_)
    · refine pc_cb (wA_fX4_keyAt N g 1 d4 hS z_5) (fun u43 d41 z_12 => ?_)
      refine pc_cv (wA_fX4_drop N g 1 d41 hS z_12) (fun d44 z_13 => ?_)
      refine pc_cv (wA_fX4_drop N g 0 d44 hS z_13) (fun d46 z_14 => ?_)
      refine pc_ob (fun r48 e_15 => ?_)
      have t_16 := gq hS (e := 117) (by decide +kernel) e_15
      subst t_16
      refine pc_gd (fun c_17 => ?_)
      refine pc_cb (wA_fX0_chordOf N g u6 d46 hS z_14) (fun u52 d50 z_18 => ?_)
      refine pc_cb (wA_fX0_chordDeed N g u52 d50 hS z_18) (fun u55 d53 z_19 => ?_)
      refine pc_gd (fun c_20 => ?_)
      refine pc_cv (wA_fX1_perform N g u6 u43 (dI d53 u55 0) (dI d53 u55 1) d53 hS z_19) (fun d57 z_21 => ?_)
      exact pc_some z_21
    · refine pc_ob (fun r9 e_22 => ?_)
      have t_23 := gq hS (e := 117) (by decide +kernel) e_22
      subst t_23
      refine pc_cb (wA_fX1_activeLayers N g d4 hS z_5) (fun u12 d10 z_24 => ?_)
      refine pc_gd (fun c_25 => ?_)
      refine pc_cb (wA_fX0_deedIn N g u12 u6 d10 hS z_24) (fun u16 d14 z_26 => ?_)
      refine pc_cv (wA_fX4_drop N g 0 d14 hS z_26) (fun d17 z_27 => ?_)
      refine pc_if (fun _ => ?_) (fun _ => ?_)
      · refine pc_gd (fun c_28 => ?_)
        refine pc_if (fun _ => ?_) (fun _ => ?_)
        · exact wA_fX1_workOff_J143 N g x1 u16 2 (-1) u6 d17 hS z_27
        · exact wA_fX1_workOff_J143 N g x1 u16 1 (-1) u6 d17 hS z_27
      · refine pc_if (fun _ => ?_) (fun _ => ?_)
        · refine pc_cv (wA_fX4_dropNext N g u6 0 d17 hS z_27) (fun d28 z_29 => ?_)
          refine pc_cv (wA_fX4_dropNext N g u6 1 d28 hS z_29) (fun d30 z_30 => ?_)
          refine pc_gd (fun c_31 => ?_)
          refine pc_cv (wA_fX1_perform N g u6 (-1) 0 (dI d30 u16 2) d30 hS z_30) (fun d33 z_32 => ?_)
          exact wA_fX1_workOff_J224 N g x1 d33 hS z_32
        · refine pc_if (fun _ => ?_) (fun _ => ?_)
          · refine pc_gd (fun c_33 => ?_)
            refine pc_cv (wA_fX1_perform N g u6 (-1) (dI d17 u16 0) (dI d17 u16 1) d17 hS z_27) (fun d26 z_34 => ?_)
            exact wA_fX1_workOff_J224 N g x1 d26 hS z_34
          · refine pc_gd (fun c_35 => ?_)
            refine pc_cv (wA_fX1_perform N g u6 (-1) 0 (dI d17 u16 1) d17 hS z_27) (fun d23 z_36 => ?_)
            exact wA_fX1_workOff_J224 N g x1 d23 hS z_36
theorem wA_fX1_passTick_B104 {d0 : Ds} (N : Nat) (g : Gs) (K104 : Int32 × Ds → Option (Unit × Ds)) (y1 : Int32) (d : Ds) (hS : Shp g) (hZ : FQA d0 d) (hK104 : ∀ a, FQA d0 a.2 → pc (K104 a) (fun _ d1 => FQA d0 d1)) : pc (fX1_passTick_B104 N g 247 K104 y1 d) (fun _ d1 => FQA d0 d1) := by
  unfold fX1_passTick_B104
  refine pc_if (fun _ => ?_) (fun _ => ?_)
  · exact wA_fX1_passTick_J131 N g d hS hZ
  · refine pc_gd (fun c_1 => ?_)
    refine pc_cb (wA_fX1_fateOfFirst N g d hS hZ) (fun u25 d23 z_2 => ?_)
    refine pc_if (fun _ => ?_) (fun _ => ?_)
    · exact wA_fX1_passTick_J131 N g d23 hS z_2
    · refine pc_cv (wA_fX1_workOff N g u25 d23 hS z_2) (fun d27 z_3 => ?_)
      refine pc_bd (fun u29 e_4 => ?_)
      exact hK104 _ z_3
theorem wA_fX1_passTick_L104 {d0 : Ds} (N : Nat) (g : Gs) (hS : Shp g) (a0 : Int32) (a1 : Ds) (hZ : FQA d0 a1) : pc (fX1_passTick_L104 N g 247 (a0, a1)) (fun _ d1 => FQA d0 d1) := by
  unfold fX1_passTick_L104
  refine pc_lp (fun a => FQA d0 a.2) ?_ N (a0, a1) hZ
  rintro K ⟨a0, a1⟩ hZ hK
  exact wA_fX1_passTick_B104 N g K a0 a1 hS hZ hK
theorem wA_fX1_passTick_J96 {d0 : Ds} (N : Nat) (g : Gs) (d : Ds) (hS : Shp g) (hZ : FQA d0 d) : pc (fX1_passTick_J96 N g 247 d) (fun _ d1 => FQA d0 d1) := by
  unfold fX1_passTick_J96
  refine pc_gd (fun c_1 => ?_)
  refine pc_ob (fun r11 e_2 => ?_)
  have t_3 := gq hS (e := 254) (by decide +kernel) e_2
  subst t_3
  refine pc_gd (fun c_4 => ?_)
  refine pc_bd (fun u13 e_5 => ?_)
  exact wA_fX1_passTick_L104 N g hS u13 d hZ
theorem wA_fX6_weighSteady_J34 {d0 : Ds} (N : Nat) (g : Gs) (x1 : Int32) (z0 : UInt32) (z1 : Int32) (d : Ds) (hS : Shp g) (hZ : FQA d0 d) : pc (fX6_weighSteady_J34 N g 248 x1 z0 z1 250 d) (fun _ d1 => FQA d0 d1) := by
  unfold fX6_weighSteady_J34
  refine pc_gd (fun c_1 => ?_)
  refine pc_gd (fun c_2 => ?_)
  refine pc_bd (fun d13 e_3 => ?_)
  have z_4 := FQA.f hZ rfl e_3
  exact pc_some z_4
theorem wA_fX6_weighSteady {d0 : Ds} (N : Nat) (g : Gs) (x1 : Int32) (d : Ds) (hS : Shp g) (hZ : FQA d0 d) : pc (fX6_weighSteady N g 248 x1 d) (fun _ d1 => FQA d0 d1) := by
  unfold fX6_weighSteady
  refine pc_gd (fun c_1 => ?_)
  refine pc_ob (fun r2 e_2 => ?_)
  have t_3 := gq hS (e := 250) (by decide +kernel) e_2
  subst t_3
  refine pc_gd (fun c_4 => ?_)
  refine pc_gd (fun c_5 => ?_)
  refine pc_gd (fun c_6 => ?_)
  refine pc_bd (fun u6 e_7 => ?_)
  refine pc_cb (wA_fX11_isIn N g (dI d 248 1) x1 d hS hZ) (fun u9 d7 z_8 => ?_)
  refine pc_if (fun _ => ?_) (fun _ => ?_)
  · exact wA_fX6_weighSteady_J34 N g x1 u6 x1 d7 hS z_8
  · refine pc_gd (fun c_9 => ?_)
    refine pc_bd (fun u15 e_10 => ?_)
    exact wA_fX6_weighSteady_J34 N g x1 u15 x1 d7 hS z_8
theorem wA_fX6_changes_J57 {d0 : Ds} (N : Nat) (g : Gs) (x1 : Int32) (x2 : Int32) (z0 : Int32) (z1 : Int32) (d : Ds) (hS : Shp g) (hZ : FQA d0 d) : pc (fX6_changes_J57 N g 248 x1 x2 z0 z1 249 d) (fun _ d1 => FQA d0 d1) := by
  unfold fX6_changes_J57
  refine pc_gd (fun c_1 => ?_)
  refine pc_gd (fun c_2 => ?_)
  refine pc_bd (fun d11 e_3 => ?_)
  have z_4 := FQA.i hZ rfl e_3
  refine pc_gd (fun c_5 => ?_)
  refine pc_ob (fun r13 e_6 => ?_)
  have t_7 := gq hS (e := 249) (by decide +kernel) e_6
  subst t_7
  refine pc_gd (fun c_8 => ?_)
  refine pc_gd (fun c_9 => ?_)
  refine pc_if (fun _ => ?_) (fun _ => ?_)
  · refine pc_bd (fun d17 e_10 => ?_)
    have z_11 := FQA.i z_4 rfl e_10
    exact pc_some z_11
  · exact pc_some z_4
theorem wA_fX6_changes_J35 {d0 : Ds} (N : Nat) (g : Gs) (x1 : Int32) (x2 : Int32) (z0 : Int32) (d : Ds) (hS : Shp g) (hZ : FQA d0 d) : pc (fX6_changes_J35 N g 248 x1 x2 z0 d) (fun _ d1 => FQA d0 d1) := by
  unfold fX6_changes_J35
  refine pc_gd (fun c_1 => ?_)
  refine pc_ob (fun r7 e_2 => ?_)
  have t_3 := gq hS (e := 249) (by decide +kernel) e_2
  subst t_3
  refine pc_if (fun _ => ?_) (fun _ => ?_)
  · exact wA_fX6_changes_J57 N g x1 x2 0 x1 d hS hZ
  · refine pc_gd (fun c_4 => ?_)
    refine pc_gd (fun c_5 => ?_)
    exact wA_fX6_changes_J57 N g x1 x2 ((dI d 249 x1.toNatClampNeg) + 1) x1 d hS hZ
theorem wA_fX6_changes_J34 {d0 : Ds} (N : Nat) (g : Gs) (x1 : Int32) (x2 : Int32) (d : Ds) (hS : Shp g) (hZ : FQA d0 d) : pc (fX6_changes_J34 N g 248 x1 x2 d) (fun _ d1 => FQA d0 d1) := by
  unfold fX6_changes_J34
  exact wA_fX6_changes_J35 N g x1 x2 0 d hS hZ
theorem wA_fX6_changes {d0 : Ds} (N : Nat) (g : Gs) (x1 : Int32) (x2 : Int32) (d : Ds) (hS : Shp g) (hZ : FQA d0 d) : pc (fX6_changes N g 248 x1 x2 d) (fun _ d1 => FQA d0 d1) := by
  unfold fX6_changes
  refine pc_gd (fun c_1 => ?_)
  refine pc_cb (wA_fX11_isIn N g (dI d 248 2) x1 d hS hZ) (fun u4 d2 z_2 => ?_)
  refine pc_if (fun _ => ?_) (fun _ => ?_)
  · refine pc_cb (wA_fX11_isIn N g (dI d2 248 1) x1 d2 hS z_2) (fun u22 d20 z_3 => ?_)
    refine pc_cb (wA_fX11_isIn N g (dI d20 248 3) x1 d20 hS z_3) (fun u25 d23 z_4 => ?_)
    refine pc_if (fun _ => ?_) (fun _ => ?_)
    · exact wA_fX6_changes_J34 N g x1 x2 d23 hS z_4
    · exact wA_fX6_changes_J35 N g x1 x2 1 d23 hS z_4
  · exact wA_fX6_changes_J34 N g x1 x2 d2 hS z_2
theorem wA_fX1_passTick_J90 {d0 : Ds} (N : Nat) (g : Gs) (K12 : Int32 × Ds → Option (Unit × Ds)) (y1 : Int32) (d : Ds) (hS : Shp g) (hZ : FQA d0 d) (hK12 : ∀ a, FQA d0 a.2 → pc (K12 a) (fun _ d1 => FQA d0 d1)) : pc (fX1_passTick_J90 N g 247 K12 y1 d) (fun _ d1 => FQA d0 d1) := by
  unfold fX1_passTick_J90
  refine pc_bd (fun u39 e_1 => ?_)
  exact hK12 _ hZ
theorem wA_fX6_change_J59 {d0 : Ds} (N : Nat) (g : Gs) (x1 : Int32) (x2 : Int32) (d : Ds) (hS : Shp g) (hZ : FQA d0 d) : pc (fX6_change_J59 N g 248 x1 x2 d) (fun _ d1 => FQA d0 d1) := by
  unfold fX6_change_J59
  refine pc_gd (fun c_1 => ?_)
  refine pc_ob (fun r15 e_2 => ?_)
  have t_3 := gq hS (e := 253) (by decide +kernel) e_2
  subst t_3
  refine pc_gd (fun c_4 => ?_)
  refine pc_gd (fun c_5 => ?_)
  refine pc_bd (fun d18 e_6 => ?_)
  have z_7 := FQA.i hZ rfl e_6
  exact pc_some z_7
theorem wA_fX6_change {d0 : Ds} (N : Nat) (g : Gs) (x1 : Int32) (x2 : Int32) (d : Ds) (hS : Shp g) (hZ : FQA d0 d) : pc (fX6_change N g 248 x1 x2 d) (fun _ d1 => FQA d0 d1) := by
  unfold fX6_change
  refine pc_gd (fun c_1 => ?_)
  refine pc_bd (fun d2 e_2 => ?_)
  have z_3 := FQA.i hZ rfl e_2
  refine pc_cb (wA_fX11_isIn N g (dI d2 248 3) x1 d2 hS z_3) (fun u5 d3 z_4 => ?_)
  refine pc_if (fun _ => ?_) (fun _ => ?_)
  · refine pc_ob (fun r7 e_5 => ?_)
    have t_6 := gq hS (e := 252) (by decide +kernel) e_5
    subst t_6
    refine pc_gd (fun c_7 => ?_)
    refine pc_gd (fun c_8 => ?_)
    refine pc_ob (fun r10 e_9 => ?_)
    have t_10 := gq hS (e := 253) (by decide +kernel) e_9
    subst t_10
    refine pc_gd (fun c_11 => ?_)
    refine pc_gd (fun c_12 => ?_)
    refine pc_bd (fun d13 e_13 => ?_)
    have z_14 := FQA.i z_4 rfl e_13
    exact wA_fX6_change_J59 N g x1 x2 d13 hS z_14
  · refine pc_ob (fun r19 e_15 => ?_)
    have t_16 := gq hS (e := 251) (by decide +kernel) e_15
    subst t_16
    refine pc_gd (fun c_17 => ?_)
    refine pc_gd (fun c_18 => ?_)
    refine pc_bd (fun d22 e_19 => ?_)
    have z_20 := FQA.i z_4 rfl e_19
    exact wA_fX6_change_J59 N g x1 x2 d22 hS z_20
theorem wA_fX4_add_J57 {d0 : Ds} (N : Nat) (g : Gs) (x1 : Int32) (x2 : Int32) (x3 : Int32) (d : Ds) (hS : Shp g) (hZ : FQA d0 d) : pc (fX4_add_J57 N g 254 x1 x2 x3 d) (fun _ d1 => FQA d0 d1) := by
  unfold fX4_add_J57
  exact pc_some hZ
theorem wA_fX4_add_J35 {d0 : Ds} (N : Nat) (g : Gs) (x1 : Int32) (x2 : Int32) (x3 : Int32) (z0 : Int32) (z1 : Int32) (z2 : Int32) (d : Ds) (hS : Shp g) (hZ : FQA d0 d) : pc (fX4_add_J35 N g 254 x1 x2 x3 z0 z1 z2 255 d) (fun _ d1 => FQA d0 d1) := by
  unfold fX4_add_J35
  refine pc_gd (fun c_1 => ?_)
  refine pc_gd (fun c_2 => ?_)
  refine pc_bd (fun d7 e_3 => ?_)
  have z_4 := FQA.i hZ rfl e_3
  refine pc_gd (fun c_5 => ?_)
  refine pc_bd (fun d9 e_6 => ?_)
  have z_7 := FQA.i z_4 rfl e_6
  refine pc_bd (fun d10 e_8 => ?_)
  have z_9 := FQA.i z_7 rfl e_8
  exact wA_fX4_add_J57 N g x1 x2 x3 d10 hS z_9
theorem wA_fX4_add {d0 : Ds} (N : Nat) (g : Gs) (x1 : Int32) (x2 : Int32) (x3 : Int32) (d : Ds) (hS : Shp g) (hZ : FQA d0 d) : pc (fX4_add N g 254 x1 x2 x3 d) (fun _ d1 => FQA d0 d1) := by
  unfold fX4_add
  refine pc_gd (fun c_1 => ?_)
  refine pc_if (fun _ => ?_) (fun _ => ?_)
  · exact wA_fX4_add_J57 N g x1 x2 x3 d hS hZ
  · refine pc_ob (fun r3 e_2 => ?_)
    have t_3 := gq hS (e := 255) (by decide +kernel) e_2
    subst t_3
    refine pc_if (fun _ => ?_) (fun _ => ?_)
    · exact wA_fX4_add_J35 N g x1 x2 x3 0 ((x3 * 64) + (x1 * 2)) (dI d 254 1) d hS hZ
    · exact wA_fX4_add_J35 N g x1 x2 x3 1 ((x3 * 64) + (x1 * 2)) (dI d 254 1) d hS hZ
theorem wA_fX1_passTick_B12 {d0 : Ds} (N : Nat) (g : Gs) (K12 : Int32 × Ds → Option (Unit × Ds)) (y1 : Int32) (d : Ds) (hS : Shp g) (hZ : FQA d0 d) (hK12 : ∀ a, FQA d0 a.2 → pc (K12 a) (fun _ d1 => FQA d0 d1)) : pc (fX1_passTick_B12 N g 247 K12 y1 d) (fun _ d1 => FQA d0 d1) := by
  unfold fX1_passTick_B12
  refine pc_gd (fun c_1 => ?_)
  refine pc_ob (fun r4 e_2 => ?_)
  have t_3 := gq hS (e := 117) (by decide +kernel) e_2
  subst t_3
  refine pc_gd (fun c_4 => ?_)
  refine pc_cb (wA_fX0_hasKey N g y1 d hS hZ) (fun u8 d6 z_5 => ?_)
  refine pc_if (fun _ => ?_) (fun _ => ?_)
  · exact wA_fX1_passTick_J96 N g d6 hS z_5
  · refine pc_if (fun _ => ?_) (fun _ => ?_)
    · exact wA_fX1_passTick_J96 N g d6 hS z_5
    · refine pc_ob (fun r31 e_6 => ?_)
      have t_7 := gq hS (e := 248) (by decide +kernel) e_6
      subst t_7
      refine pc_gd (fun c_8 => ?_)
      refine pc_cv (wA_fX6_weighSteady N g y1 d6 hS z_5) (fun d33 z_9 => ?_)
      refine pc_cb (wA_fX6_changes N g y1 (dI d33 117 4) d33 hS z_9) (fun u37 d35 z_10 => ?_)
      refine pc_if (fun _ => ?_) (fun _ => ?_)
      · exact wA_fX1_passTick_J90 N g K12 y1 d35 hS z_10 hK12
      · refine pc_cv (wA_fX6_change N g y1 (dI d35 247 5) d35 hS z_10) (fun d40 z_11 => ?_)
        refine pc_ob (fun r42 e_12 => ?_)
        have t_13 := gq hS (e := 254) (by decide +kernel) e_12
        subst t_13
        refine pc_cb (wA_fX11_isIn N g (dI d40 248 3) y1 d40 hS z_11) (fun u45 d43 z_14 => ?_)
        refine pc_gd (fun c_15 => ?_)
        refine pc_cv (wA_fX4_add N g y1 u45 (dI d43 247 5) d43 hS z_14) (fun d47 z_16 => ?_)
        exact wA_fX1_passTick_J90 N g K12 y1 d47 hS z_16 hK12
theorem wA_fX1_passTick_L12 {d0 : Ds} (N : Nat) (g : Gs) (hS : Shp g) (a0 : Int32) (a1 : Ds) (hZ : FQA d0 a1) : pc (fX1_passTick_L12 N g 247 (a0, a1)) (fun _ d1 => FQA d0 d1) := by
  unfold fX1_passTick_L12
  refine pc_lp (fun a => FQA d0 a.2) ?_ N (a0, a1) hZ
  rintro K ⟨a0, a1⟩ hZ hK
  exact wA_fX1_passTick_B12 N g K a0 a1 hS hZ hK
theorem wA_fX1_passTick {d0 : Ds} (N : Nat) (g : Gs) (d : Ds) (hS : Shp g) (hZ : FQA d0 d) : pc (fX1_passTick N g 247 d) (fun _ d1 => FQA d0 d1) := by
  unfold fX1_passTick
  refine pc_gd (fun c_1 => ?_)
  refine pc_bd (fun d2 e_2 => ?_)
  have z_3 := FQA.i hZ rfl e_2
  exact wA_fX1_passTick_L12 N g hS 0 d2 z_3
theorem wA_fX11_ahead_B45 {d0 : Ds} (N : Nat) (g : Gs) (x1 : Int32) (x2 : Int32) (K45 : Int32 × Ds → Option (Int32 × Ds)) (y3 : Int32) (d : Ds) (hS : Shp g) (hZ : FQA d0 d) (hK45 : ∀ a, FQA d0 a.2 → pc (K45 a) (fun _ d1 => FQA d0 d1)) : pc (fX11_ahead_B45 N g 0 x1 x2 K45 y3 d) (fun _ d1 => FQA d0 d1) := by
  unfold fX11_ahead_B45
  refine pc_if (fun _ => ?_) (fun _ => ?_)
  · refine pc_gd (fun c_1 => ?_)
    refine pc_ob (fun r19 e_2 => ?_)
    have t_3 := gq hS (e := 247) (by decide +kernel) e_2
    subst t_3
    refine pc_gd (fun c_4 => ?_)
    refine pc_ob (fun r21 e_5 => ?_)
    have t_6 := gq hS (e := 256) (by decide +kernel) e_5
    subst t_6
    refine pc_gd (fun c_7 => ?_)
    refine pc_cv (wA_fX3_gather N g (-1) d hS hZ) (fun d23 z_8 => ?_)
    refine pc_if (fun _ => ?_) (fun _ => ?_)
    · refine pc_ob (fun r26 e_9 => ?_)
      have t_10 := gq hS (e := 254) (by decide +kernel) e_9
      subst t_10
      refine pc_gd (fun c_11 => ?_)
      exact pc_some z_8
    · refine pc_if (fun _ => ?_) (fun _ => ?_)
      · refine pc_ob (fun r29 e_12 => ?_)
        have t_13 := gq hS (e := 262) (by decide +kernel) e_12
        subst t_13
        refine pc_gd (fun c_14 => ?_)
        refine pc_ob (fun r31 e_15 => ?_)
        have t_16 := gq hS (e := 227) (by decide +kernel) e_15
        subst t_16
        refine pc_gd (fun c_17 => ?_)
        refine pc_ob (fun r33 e_18 => ?_)
        have t_19 := gq hS (e := 242) (by decide +kernel) e_18
        subst t_19
        refine pc_gd (fun c_20 => ?_)
        exact pc_some z_8
      · refine pc_if (fun _ => ?_) (fun _ => ?_)
        · exact pc_some z_8
        · refine pc_if (fun _ => ?_) (fun _ => ?_)
          · exact pc_some z_8
          · refine pc_if (fun _ => ?_) (fun _ => ?_)
            · refine pc_cb (wA_fX1_activeLayers N g d23 hS z_8) (fun u40 d38 z_21 => ?_)
              exact pc_some z_21
            · exact pc_none
  · refine pc_gd (fun c_22 => ?_)
    refine pc_ob (fun r42 e_23 => ?_)
    have t_24 := gq hS (e := 247) (by decide +kernel) e_23
    subst t_24
    refine pc_gd (fun c_25 => ?_)
    refine pc_cv (wA_fX1_passTick N g d hS hZ) (fun d44 z_26 => ?_)
    refine pc_bd (fun u46 e_27 => ?_)
    exact hK45 _ z_26
theorem wA_fX11_ahead_L45 {d0 : Ds} (N : Nat) (g : Gs) (x1 : Int32) (x2 : Int32) (hS : Shp g) (a0 : Int32) (a1 : Ds) (hZ : FQA d0 a1) : pc (fX11_ahead_L45 N g 0 x1 x2 (a0, a1)) (fun _ d1 => FQA d0 d1) := by
  unfold fX11_ahead_L45
  refine pc_lp (fun a => FQA d0 a.2) ?_ N (a0, a1) hZ
  rintro K ⟨a0, a1⟩ hZ hK
  exact wA_fX11_ahead_B45 N g x1 x2 K a0 a1 hS hZ hK
theorem wA_fX11_ahead {d0 : Ds} (N : Nat) (g : Gs) (x1 : Int32) (x2 : Int32) (d : Ds) (hS : Shp g) (hZ : FQA d0 d) : pc (fX11_ahead N g 0 x1 x2 d) (fun _ d1 => FQA d0 d1) := by
  unfold fX11_ahead
  refine pc_if (fun _ => ?_) (fun _ => ?_)
  · exact wA_fX11_ahead_J30 N g x1 x2 d hS hZ
  · refine pc_if (fun _ => ?_) (fun _ => ?_)
    · exact wA_fX11_ahead_J30 N g x1 x2 d hS hZ
    · refine pc_if (fun _ => ?_) (fun _ => ?_)
      · exact wA_fX11_ahead_J30 N g x1 x2 d hS hZ
      · refine pc_if (fun _ => ?_) (fun _ => ?_)
        · exact wA_fX11_ahead_J30 N g x1 x2 d hS hZ
        · refine pc_gd (fun c_1 => ?_)
          refine pc_ob (fun r6 e_2 => ?_)
          have t_3 := gq hS (e := 117) (by decide +kernel) e_2
          subst t_3
          refine pc_gd (fun c_4 => ?_)
          refine pc_cb (wA_fX0_keys N g d hS hZ) (fun u10 d8 z_5 => ?_)
          refine pc_if (fun _ => ?_) (fun _ => ?_)
          · exact wA_fX11_ahead_J30 N g x1 x2 d8 hS z_5
          · refine pc_ob (fun r12 e_6 => ?_)
            have t_7 := gq hS (e := 247) (by decide +kernel) e_6
            subst t_7
            refine pc_ob (fun r13 e_8 => ?_)
            have t_9 := gq hS (e := 227) (by decide +kernel) e_8
            subst t_9
            refine pc_gd (fun c_10 => ?_)
            refine pc_cv (wA_fX1_copyFrom N g d8 hS z_5) (fun d15 z_11 => ?_)
            exact wA_fX11_ahead_L45 N g x1 x2 hS 0 d15 z_11
