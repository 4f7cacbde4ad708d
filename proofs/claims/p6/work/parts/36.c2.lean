def m_sX3_begin__3 : Nat := 0x100000000000000010000000000000001000000000000000100000000000000000000000000000000000000000000000000000000000000000000000000000000000000000000000000000000000000000000000000000000000000000000000000000000000000000000000000000000000000000000000000000000000000000000000000000000000000000000000000000000000000000000000000000000000000000000000000000000000000000000000000000000000000000000000000000000000000000000000000000000000000000000000000000000000000000000000000000000000000000000000000000000000000000000000000000000000000000000000000000000000000000000000000000000000000000000000000000000000000000000000000000010000000000000000000000000000000000000000000000000
theorem sX3_begin_J61__3 {g : Gs} (hS : Shp g) {b : Nat → Int} {d0 : Ds} {x0 : Nat} (hx0 : cls x0 = 3) {x1 : Int32} (hx1 : iv x1 0 23) {x2 : Int32} (hx2 : iv x2 0 2) {x3 : Int32} {x4 : Int32} (hx4 : iv x4 (-1) 23) {d : Ds} (hI : Inv m_sX3_begin__3 b d0 d) : ok (fX3_begin_J61 10000 g x0 x1 x2 x3 x4 d) (fun u d' => Inv m_sX3_begin__3 b d0 d' ∧ True) := by
  unfold fX3_begin_J61
  exact ok_some ⟨hI, trivial⟩
theorem sX3_begin__3 {g : Gs} (hS : Shp g) {b : Nat → Int} {x0 : Nat} (hx0 : cls x0 = 3) {x1 : Int32} (hx1 : iv x1 0 23) {x2 : Int32} (hx2 : iv x2 0 2) {x3 : Int32} {x4 : Int32} (hx4 : iv x4 (-1) 23) {d : Ds} (hB : Bnd b d) : ok (fX3_begin 10000 g x0 x1 x2 x3 x4 d) (fun u d' => Inv m_sX3_begin__3 b d d' ∧ True) := by
  have hI : Inv m_sX3_begin__3 b d d := Inv.rf hB
  unfold fX3_begin
  refine ok_gd (kd_3 hS hx0) ?_
  obtain ⟨r2, e_1, k_2, k_2o⟩ := sh_3_0 hS hx0
  refine ok_ob e_1 ?_
  refine ok_gd (kd_38 hS k_2) ?_
  refine ok_gd (ixg hx1 (ln_38 hS k_2) (by decide)) ?_
  refine ok_if (fun c_3 => ?_) (fun c_3 => ?_)
  · have h_4 := iv.w (c := (-1)) (e := (-1)) (eq_l c_3 (by decide : iv ((-1) : Int32) (-1) (-1))) (by decide)
    refine ok_if (fun c_5 => ?_) (fun c_5 => ?_)
    · have h_6 := iv.w (c := 24) (e := 24) (le_r c_5 (by decide : iv (24 : Int32) 24 24) (rd_3_4 hI.1 hx0)) (by decide)
      exact sX3_begin_J61__3 hS hx0 hx1 hx2 hx4 hI
    · have h_7 := iv.w (c := 0) (e := 23) (lt_l (nle c_5) (rd_3_4 hI.1 hx0) (by decide : iv (24 : Int32) 24 24)) (by decide)
      refine ok_bd (fun d7 e_8 => ?_)
      have h_9 := Inv.set e_8 hI (by rw [k_2]; exact trivial) (mA k_2 (by decide) (by decide +kernel)) (nA k_2 (by decide) (by decide +kernel))
      obtain ⟨r8, e_10, k_11, k_11o⟩ := sh_3_1 hS hx0
      refine ok_ob e_10 ?_
      refine ok_gd (kd_39 hS k_11) ?_
      refine ok_gd (ixg hx1 (ln_39 hS k_11) (by decide)) ?_
      refine ok_bd (fun d11 e_12 => ?_)
      have h_13 := Inv.set e_12 h_9 (by rw [k_11]; exact trivial) (mA k_11 (by decide) (by decide +kernel)) (nA k_11 (by decide) (by decide +kernel))
      obtain ⟨r12, e_14, k_15, k_15o⟩ := sh_3_2 hS hx0
      refine ok_ob e_14 ?_
      refine ok_gd (kd_40 hS k_15) ?_
      refine ok_gd (ixg hx1 (ln_40 hS k_15) (by decide)) ?_
      refine ok_bd (fun d15 e_16 => ?_)
      have h_17 := Inv.set e_16 h_13 (by rw [k_15]; exact hx4) (mA k_15 (by decide) (by decide +kernel)) (nA k_15 (by decide) (by decide +kernel))
      obtain ⟨r16, e_18, k_19, k_19o⟩ := sh_3_3 hS hx0
      refine ok_ob e_18 ?_
      refine ok_gd (kd_41 hS k_19) ?_
      refine ok_gd (ixg (rd_sk e_16 (Or.inl (cl_ne k_15 hx0 (by decide))) (rd_sk e_12 (Or.inl (cl_ne k_11 hx0 (by decide))) (rd_sk e_8 (Or.inl (cl_ne k_2 hx0 (by decide))) h_7))) (ln_41 hS k_19) (by decide)) ?_
      refine ok_bd (fun d19 e_20 => ?_)
      have h_21 := Inv.set e_20 h_17 (by rw [k_19]; exact hx1) (mA k_19 (by decide) (by decide +kernel)) (nA k_19 (by decide) (by decide +kernel))
      refine ok_bd (fun d20 e_22 => ?_)
      have h_23 := Inv.set e_22 h_21 (by rw [hx0]; exact (iv.w (iv_add (l := 1) (h := 24) (rd_sk e_20 (Or.inl (cl_ne k_19 hx0 (by decide))) (rd_sk e_16 (Or.inl (cl_ne k_15 hx0 (by decide))) (rd_sk e_12 (Or.inl (cl_ne k_11 hx0 (by decide))) (rd_sk e_8 (Or.inl (cl_ne k_2 hx0 (by decide))) h_7)))) (by decide : iv (1 : Int32) 1 1) (by decide)) (by decide))) (mO hx0 (by decide) (by decide +kernel)) (nO hx0 (by decide) (by decide +kernel))
      exact sX3_begin_J61__3 hS hx0 hx1 hx2 hx4 h_23
  · exact sX3_begin_J61__3 hS hx0 hx1 hx2 hx4 hI
theorem sX1_perform_J14__1 {g : Gs} (hS : Shp g) {b B : Nat → Int} {d0 : Ds} {x0 : Nat} (hlb : LeB b B (own x0) 1) (hx0 : cls x0 = 1) {x1 : Int32} (hx1 : iv x1 0 23) {x2 : Int32} (hx2 : iv x2 (-1) 23) {x3 : Int32} (hx3 : iv x3 0 2) {x4 : Int32} {d : Ds} (hI : Inv m_sX1_perform__1 b d0 d) : ok (fX1_perform_J14 10000 g x0 x1 x2 x3 x4 d) (fun u d' => Inv m_sX1_perform__1 B d0 d' ∧ True) := by
  unfold fX1_perform_J14
  refine ok_gd (kd_1 hS hx0) ?_
  obtain ⟨r3, e_1, k_2, k_2o⟩ := sh_1_3 hS hx0
  refine ok_ob e_1 ?_
  refine ok_gd (kd_3 hS k_2) ?_
  refine ok_cv (sX3_begin__3 hS k_2 hx1 hx3 hx2 hI.1) (fun d5 r_3 => ?_)
  obtain ⟨h_4, h_5⟩ := r_3
  have h_6 := Inv.call hI h_4 (by decide +kernel)
  refine ok_if (fun c_7 => ?_) (fun c_7 => ?_)
  · have h_8 := iv.w (c := (-1)) (e := (-1)) (eq_l c_7 (by decide : iv ((-1) : Int32) (-1) (-1))) (by decide)
    exact sX1_perform_J127__1 hS (LeB.w (k' := 1) hlb (by omega)) hx0 hx1 (iv.w h_8 (by decide)) h_6
  · have h_9 := iv.w (c := 0) (e := 23) (ne_lo c_7 hx2 (by decide : iv ((-1) : Int32) (-1) (-1))) (by decide)
    refine ok_cv (sX3_begin__3 hS k_2 h_9 hx3 (iv.w hx1 (by decide)) h_6.1) (fun d11 r_10 => ?_)
    obtain ⟨h_11, h_12⟩ := r_10
    have h_13 := Inv.call h_6 h_11 (by decide +kernel)
    exact sX1_perform_J127__1 hS (LeB.w (k' := 1) hlb (by omega)) hx0 hx1 (iv.w h_9 (by decide)) h_13
theorem sX0_macroCode_J26__13 {g : Gs} (hS : Shp g) {b : Nat → Int} {x0 : Nat} (hx0 : cls x0 = 13) {x1 : Int32} {x2 : Int32} {d : Ds} (hB : Bnd b d) : ok (fX0_macroCode_J26 10000 g x0 x1 x2 d) (fun u d' => d' = d ∧ True) := by
  unfold fX0_macroCode_J26
  exact ok_some ⟨rfl, trivial⟩
theorem sX0_macroCode__13 {g : Gs} (hS : Shp g) {b : Nat → Int} {x0 : Nat} (hx0 : cls x0 = 13) {x1 : Int32} {x2 : Int32} {d : Ds} (hB : Bnd b d) : ok (fX0_macroCode 10000 g x0 x1 x2 d) (fun u d' => d' = d ∧ True) := by
  unfold fX0_macroCode
  refine ok_if (fun c_1 => ?_) (fun c_1 => ?_)
  · have h_2 := iv.w (c := (-2147483648)) (e := (-1)) (lt_l c_1 (ivT _) (by decide : iv (0 : Int32) 0 0)) (by decide)
    exact sX0_macroCode_J26__13 hS hx0 hB
  · have h_3 := iv.w (c := 0) (e := 2147483647) (le_r (nlt c_1) (by decide : iv (0 : Int32) 0 0) (ivT _)) (by decide)
    refine ok_gd (kd_13 hS hx0) ?_
    refine ok_if (fun c_4 => ?_) (fun c_4 => ?_)
    · exact sX0_macroCode_J26__13 hS hx0 hB
    · have h_5 := iv.w (c := 0) (e := 3) (lt_l (nle c_4) h_3 (rd_13_16 hB hx0)) (by decide)
      have h_6 := iv.w (c := 1) (e := 4) (lt_r (nle c_4) h_3 (rd_13_16 hB hx0)) (by decide)
      refine ok_if (fun c_7 => ?_) (fun c_7 => ?_)
      · have h_8 := iv.w (c := (-2147483648)) (e := (-1)) (lt_l c_7 (ivT _) (by decide : iv (0 : Int32) 0 0)) (by decide)
        exact sX0_macroCode_J26__13 hS hx0 hB
      · have h_9 := iv.w (c := 0) (e := 2147483647) (le_r (nlt c_7) (by decide : iv (0 : Int32) 0 0) (ivT _)) (by decide)
        obtain ⟨r5, e_10, k_11⟩ := sh_13_17 hS hx0
        refine ok_ob e_10 ?_
        refine ok_gd (kd_29 hS k_11) ?_
        refine ok_gd (ixg h_5 (ln_29 hS k_11) (by decide)) ?_
        refine ok_if (fun c_12 => ?_) (fun c_12 => ?_)
        · have h_13 := iv.w (c := 0) (e := 7) (lt_l c_12 h_9 (rd_29 hB k_11 (ixn h_5 (by decide)))) (by decide)
          have h_14 := iv.w (c := 1) (e := 8) (lt_r c_12 h_9 (rd_29 hB k_11 (ixn h_5 (by decide)))) (by decide)
          obtain ⟨r9, e_15, k_16⟩ := sh_13_18 hS hx0
          refine ok_ob e_15 ?_
          refine ok_gd (kd_30 hS k_16) ?_
          refine ok_gd (ixg (iv_add (l := 0) (h := 31) (iv_mul (l := 0) (h := 24) h_5 (by decide : iv (8 : Int32) 8 8) (by decide)) h_13 (by decide)) (ln_30 hS k_16) (by decide)) ?_
          exact ok_some ⟨rfl, trivial⟩
        · exact sX0_macroCode_J26__13 hS hx0 hB
theorem sX1_perform_L79__1 {g : Gs} (hS : Shp g) {b B : Nat → Int} {d0 : Ds} {x0 : Nat} (hlb : LeB b B (own x0) 17) (hx0 : cls x0 = 1) {x1 : Int32} (hx1 : iv x1 0 23) {x2 : Int32} (hx2 : iv x2 (-1) 23) {x3 : Int32} (hx3 : iv x3 9 9) {x4 : Int32} {y5 : Int32} (hy5 : iv y5 0 8) {d : Ds} (hI : Inv m_sX1_perform__1 b d0 d) : ok (fX1_perform_L79 10000 g x0 x1 x2 x3 x4 (y5, d)) (fun u d' => Inv m_sX1_perform__1 B d0 d' ∧ True) := by
  unfold fX1_perform_L79
  refine ok_lp (fun a => (∃ b1, Inv m_sX1_perform__1 b1 d0 a.2 ∧ LeB b1 B (own x0) (2 * (((8 - a.1.toInt).toNat : Nat) : Int) + 1)) ∧ iv a.1 0 8 ∧ True) (fun a => (8 - a.1.toInt).toNat) ?_ 10000 _ ⟨⟨b, hI, LeB.w hlb (by have h1 := hy5.1; have h2 := hy5.2; dsimp only; omega)⟩, hy5, trivial⟩ (ms_b hy5 (by decide))
  · rintro K79 ⟨y5, d⟩ ⟨⟨b1, hI, hlb⟩, hy5, -⟩ hK79
    (try dsimp only at hI hlb hy5 hK79 ⊢)
    unfold fX1_perform_B79
    refine ok_if (fun c_1 => ?_) (fun c_1 => ?_)
    · have h_2 := iv.w (c := 8) (e := 8) (le_r c_1 (by decide : iv (8 : Int32) 8 8) hy5) (by decide)
      exact sX1_perform_J127__1 hS (LeB.w (k' := 1) hlb (by have h1 := h_2.1; have h2 := h_2.2; omega)) hx0 hx1 hx2 hI
    · have h_3 := iv.w (c := 0) (e := 7) (lt_l (nle c_1) hy5 (by decide : iv (8 : Int32) 8 8)) (by decide)
      refine ok_gd (kd_1 hS hx0) ?_
      obtain ⟨r19, e_4, k_5⟩ := sh_1_0 hS hx0
      refine ok_ob e_4 ?_
      refine ok_gd (kd_13 hS k_5) ?_
      refine ok_cb (sX0_macroCode__13 hS k_5 hI.1) (fun u23 d21 r_6 => ?_)
      obtain ⟨rfl, h_8⟩ := r_6
      refine ok_if (fun c_9 => ?_) (fun c_9 => ?_)
      · have h_10 := iv.w (c := (-1)) (e := (-1)) (eq_l c_9 (by decide : iv ((-1) : Int32) (-1) (-1))) (by decide)
        exact sX1_perform_J127__1 hS (LeB.w (k' := 1) hlb (by have h1 := h_3.1; have h2 := h_3.2; omega)) hx0 hx1 hx2 hI
      · refine ok_cb (sX0_macroCode__13 hS k_5 hI.1) (fun u27 d25 r_11 => ?_)
        obtain ⟨rfl, h_13⟩ := r_11
        refine ok_cv (sX1_send__1 hS (LeB.use (k' := 1) hlb (by have h1 := h_3.1; have h2 := h_3.2; omega)) hx0 hI.1) (fun d28 r_14 => ?_)
        obtain ⟨h_15, h_16⟩ := r_14
        have h_17 := Inv.call hI h_15 (by decide +kernel)
        have lb_18 := LeB.rest (k' := 1) hlb (by have h1 := h_3.1; have h2 := h_3.2; omega)
        refine ok_cv (sX1_send__1 hS (LeB.use (k' := 1) lb_18 (by have h1 := h_3.1; have h2 := h_3.2; omega)) hx0 h_17.1) (fun d30 r_19 => ?_)
        obtain ⟨h_20, h_21⟩ := r_19
        have h_22 := Inv.call h_17 h_20 (by decide +kernel)
        have lb_23 := LeB.rest (k' := 1) lb_18 (by have h1 := h_3.1; have h2 := h_3.2; omega)
        refine ok_bd (fun u32 e_24 => ?_)
        have h_25 := iv_e e_24 (iv_add (l := 1) (h := 8) h_3 (by decide : iv (1 : Int32) 1 1) (by decide))
        exact hK79 _ ⟨⟨_, h_22, LeB.w lb_23 (by have h3 := (ms_up (H := 8) e_24 h_3 (by decide : iv (1 : Int32) 1 1) (by decide)); have h4 : 0 ≤ (0 : Int) := Int.le_refl _; dsimp only at h3 ⊢; omega)⟩, (iv.w h_25 (by decide)), trivial⟩ (ms_up (H := 8) e_24 h_3 (by decide : iv (1 : Int32) 1 1) (by decide))
theorem sX1_perform__1 {g : Gs} (hS : Shp g) {b B : Nat → Int} {x0 : Nat} (hlb : LeB b B (own x0) 17) (hx0 : cls x0 = 1) {x1 : Int32} (hx1 : iv x1 0 23) {x2 : Int32} (hx2 : iv x2 (-1) 23) {x3 : Int32} {x4 : Int32} {d : Ds} (hB : Bnd b d) : ok (fX1_perform 10000 g x0 x1 x2 x3 x4 d) (fun u d' => Inv m_sX1_perform__1 B d d' ∧ True) := by
  have hI : Inv m_sX1_perform__1 b d d := Inv.rf hB
  unfold fX1_perform
  refine ok_if (fun c_1 => ?_) (fun c_1 => ?_)
  · have h_2 := iv.w (c := 0) (e := 0) (eq_l c_1 (by decide : iv (0 : Int32) 0 0)) (by decide)
    exact sX1_perform_J14__1 hS (LeB.w (k' := 1) hlb (by omega)) hx0 hx1 hx2 (iv.w h_2 (by decide)) hI
  · refine ok_if (fun c_3 => ?_) (fun c_3 => ?_)
    · have h_4 := iv.w (c := 1) (e := 1) (eq_l c_3 (by decide : iv (1 : Int32) 1 1)) (by decide)
      exact sX1_perform_J14__1 hS (LeB.w (k' := 1) hlb (by omega)) hx0 hx1 hx2 (iv.w h_4 (by decide)) hI
    · refine ok_if (fun c_5 => ?_) (fun c_5 => ?_)
      · have h_6 := iv.w (c := 2) (e := 2) (eq_l c_5 (by decide : iv (2 : Int32) 2 2)) (by decide)
        exact sX1_perform_J14__1 hS (LeB.w (k' := 1) hlb (by omega)) hx0 hx1 hx2 (iv.w h_6 (by decide)) hI
      · refine ok_if (fun c_7 => ?_) (fun c_7 => ?_)
        · have h_8 := iv.w (c := 3) (e := 3) (eq_l c_7 (by decide : iv (3 : Int32) 3 3)) (by decide)
          refine ok_gd (kd_1 hS hx0) ?_
          obtain ⟨r34, e_9, k_10, k_10o⟩ := sh_1_3 hS hx0
          refine ok_ob e_9 ?_
          refine ok_gd (kd_3 hS k_10) ?_
          refine ok_bd (fun d36 e_11 => ?_)
          have h_12 := Inv.set e_11 hI (by rw [k_10]; exact trivial) (mO k_10 (by decide) (by decide +kernel)) (nO k_10 (by decide) (by decide +kernel))
          exact sX1_perform_J127__1 hS (LeB.w (k' := 1) hlb (by omega)) hx0 hx1 hx2 h_12
        · refine ok_if (fun c_13 => ?_) (fun c_13 => ?_)
          · have h_14 := iv.w (c := 9) (e := 9) (eq_l c_13 (by decide : iv (9 : Int32) 9 9)) (by decide)
            exact sX1_perform_L79__1 hS (LeB.w (k' := 17) hlb (by omega)) hx0 hx1 hx2 h_14 (iv.w (by decide : iv (0 : Int32) 0 0) (by decide)) hI
          · exact sX1_perform_J127__1 hS (LeB.w (k' := 1) hlb (by omega)) hx0 hx1 hx2 hI
def m_sX1_workOff__1 : Nat := 0x10000000000000001000000000000000100000000000000010000000000000001000000000000000100000000000000010000000000000001000000000000000100000000000000010000000000000000000000000000000000000000000000000000000000000000000000000000000000000000000000000000000000000000000000000000000000000000000000000000000000000000000000000000000000000000000000000000000000000000000000000000000000000000000000000000000000000000000000000000000000000000000000000000000000000000000000000000000000000000000000000000000000000000000000000000000000000000000000000000000000000000000000000000000000000000000000000000000000000000000000000000000000000000000000000000000000000000000000000000017000000000000000020000000000000170000000000000000000000000000000000000000000000000
theorem sX1_workOff_J224__1 {g : Gs} (hS : Shp g) {b B : Nat → Int} {d0 : Ds} {x0 : Nat} (hlb : LeB b B (own x0) 0) (hx0 : cls x0 = 1) {x1 : Int32} (hx1 : iv x1 3 7) {d : Ds} (hI : Inv m_sX1_workOff__1 b d0 d) : ok (fX1_workOff_J224 10000 g x0 x1 d) (fun u d' => Inv m_sX1_workOff__1 B d0 d' ∧ True) := by
  unfold fX1_workOff_J224
  exact ok_some ⟨(Inv.mono hlb.1 hI), trivial⟩
theorem sX1_workOff_J143__1_2_1__r1 {g : Gs} (hS : Shp g) {b B : Nat → Int} {d0 : Ds} {x0 : Nat} (hlb : LeB b B (own x0) 17) (hx0 : cls x0 = 1) {x1 : Int32} (hx1 : iv x1 4 4) {y3 : Nat} (hy3 : cls y3 = 2) {z0 : Int32} (hz0 : iv z0 1 2) {z1 : Int32} (hz1 : iv z1 (-1) (-1)) {z2 : Int32} (hz2 : iv z2 0 23) {d : Ds} (hI : Inv m_sX1_workOff__1 b d0 d) : ok (fX1_workOff_J143 10000 g x0 x1 y3 z0 z1 z2 x0 d) (fun u d' => Inv m_sX1_workOff__1 B d0 d' ∧ True) := by
  unfold fX1_workOff_J143
  refine ok_gd (kd_2 hS hy3) ?_
  refine ok_gd (kd_1 hS hx0) ?_
  refine ok_cv (sX1_perform__1 hS (LeB.use (k' := 17) hlb (by omega)) hx0 hz2 (iv.w hz1 (by decide)) hI.1) (fun d39 r_1 => ?_)
  obtain ⟨h_2, h_3⟩ := r_1
  have h_4 := Inv.call hI h_2 (by decide +kernel)
  have lb_5 := LeB.rest (k' := 17) hlb (by omega)
  exact sX1_workOff_J224__1 hS (LeB.w (k' := 0) lb_5 (by omega)) hx0 (iv.w hx1 (by decide)) h_4
def m_sX3_drop__3 : Nat := 0x100000000000000010000000000000001000000000000000100000000000000000000000000000000000000000000000000000000000000000000000000000000000000000000000000000000000000000000000000000000000000000000000000000000000000000000000000000000000000000000000000000000000000000000000000000000000000000000000000000000000000000000000000000000000000000000000000000000000000000000000000000000000000000000000000000000000000000000000000000000000000000000000000000000000000000000000000000000000000000000000000000000000000000000000000000000000000000000000000000000000000000000000000000000000000000000000000000000000000000000000000000010000000000000000000000000000000000000000000000000
-- within sX3_drop_L25__3
theorem sX3_drop_L25__3 {g : Gs} (hS : Shp g) {b : Nat → Int} {d0 : Ds} {x0 : Nat} (hx0 : cls x0 = 3) {x1 : Int32} (hx1 : iv x1 0 23) {y3 : Int32} (hy3 : iv y3 0 24) {d : Ds} (hI : Inv m_sX3_drop__3 b d0 d) : ok (fX3_drop_L25 10000 g x0 x1 ((0 : Int32), y3, d)) (fun u d' => Inv m_sX3_drop__3 b d0 d' ∧ True) := by
  unfold fX3_drop_L25
  refine ok_lp (fun a => Inv m_sX3_drop__3 b d0 a.2.2 ∧ iv a.2.1 0 24 ∧ 0 ≤ a.1.toInt ∧ a.1.toInt ≤ a.2.1.toInt) (fun a => (24 - a.2.1.toInt).toNat) ?_ 10000 _ ⟨hI, hy3, (by decide : (0 : Int) ≤ (0 : Int32).toInt), by have := hy3.1; have e0 : (0 : Int32).toInt = 0 := (by decide); dsimp only; omega⟩ (ms_b hy3 (by decide))
  rintro K25 ⟨y2, y3, d⟩ ⟨hI, hy3, h0, h1⟩ hK25
  dsimp only at hI hy3 h0 h1 hK25 ⊢
  unfold fX3_drop_B25
  have hy2 : iv y2 0 24 := ⟨h0, Int.le_trans h1 hy3.2⟩
  refine ok_gd (kd_3 hS hx0) ?_
  refine ok_if (fun c_1 => ?_) (fun c_1 => ?_)
  · refine ok_bd (fun d16 e_2 => ?_)
    have h_3 := Inv.set e_2 hI (by rw [hx0]; exact hy2) (mO hx0 (by decide) (by decide +kernel)) (nO hx0 (by decide) (by decide +kernel))
    exact ok_some ⟨h_3, trivial⟩
  · have h_4 := iv.w (c := 0) (e := 23) (lt_l (nle c_1) hy3 (rd_3_4 hI.1 hx0)) (by decide)
    have hy2b : iv y2 0 23 := ⟨h0, Int.le_trans h1 h_4.2⟩
    obtain ⟨r17, e_6, k_7, k_7o⟩ := sh_3_3 hS hx0
    refine ok_ob e_6 ?_
    refine ok_gd (kd_41 hS k_7) ?_
    refine ok_gd (ixg h_4 (ln_41 hS k_7) (by decide)) ?_
    refine ok_if (fun c_8 => ?_) (fun c_8 => ?_)
    · unfold fX3_drop_J58
      refine ok_bd (fun u21 e_1 => ?_)
      have q := z_add (x := y3) (y := 1) rfl (by decide : (1 : Int32).toInt = 1) (by have := h_4.1; omega) (by have := h_4.2; omega)
      exact hK25 _ ⟨hI, iv.w (iv_e e_1 (iv_add (l := 1) (h := 24) h_4 (by decide : iv (1 : Int32) 1 1) (by decide))) (by decide), h0, by dsimp only; rw [e_1, q]; omega⟩ (ms_up e_1 h_4 (by decide : iv (1 : Int32) 1 1) (by decide))
    · refine ok_gd (ixg hy2b (ln_41 hS k_7) (by decide)) ?_
      refine ok_bd (fun d23 e_10 => ?_)
      have h_11 := Inv.set e_10 hI (by rw [k_7]; exact (rd_41 hI.1 k_7 (ixn h_4 (by decide)))) (mA k_7 (by decide) (by decide +kernel)) (nA k_7 (by decide) (by decide +kernel))
      refine ok_bd (fun u24 e_12 => ?_)
      unfold fX3_drop_J58
      refine ok_bd (fun u21 e_1 => ?_)
      have q := z_add (x := y3) (y := 1) rfl (by decide : (1 : Int32).toInt = 1) (by have := h_4.1; omega) (by have := h_4.2; omega)
      have q2 := z_add (x := y2) (y := 1) rfl (by decide : (1 : Int32).toInt = 1) (by omega) (by have := hy2b.2; omega)
      exact hK25 _ ⟨h_11, iv.w (iv_e e_1 (iv_add (l := 1) (h := 24) h_4 (by decide : iv (1 : Int32) 1 1) (by decide))) (by decide), by dsimp only; rw [e_12, q2]; omega, by dsimp only; rw [e_1, q, e_12, q2]; omega⟩ (ms_up e_1 h_4 (by decide : iv (1 : Int32) 1 1) (by decide))

theorem sX3_drop__3 {g : Gs} (hS : Shp g) {b : Nat → Int} {x0 : Nat} (hx0 : cls x0 = 3) {x1 : Int32} (hx1 : iv x1 0 23) {d : Ds} (hB : Bnd b d) : ok (fX3_drop 10000 g x0 x1 d) (fun u d' => Inv m_sX3_drop__3 b d d' ∧ True) := by
  have hI : Inv m_sX3_drop__3 b d d := Inv.rf hB
  unfold fX3_drop
  refine ok_gd (kd_3 hS hx0) ?_
  obtain ⟨r2, e_1, k_2, k_2o⟩ := sh_3_0 hS hx0
  refine ok_ob e_1 ?_
  refine ok_gd (kd_38 hS k_2) ?_
  refine ok_gd (ixg hx1 (ln_38 hS k_2) (by decide)) ?_
  refine ok_bd (fun d5 e_3 => ?_)
  have h_4 := Inv.set e_3 hI (by rw [k_2]; exact trivial) (mA k_2 (by decide) (by decide +kernel)) (nA k_2 (by decide) (by decide +kernel))
  obtain ⟨r6, e_5, k_6, k_6o⟩ := sh_3_1 hS hx0
  refine ok_ob e_5 ?_
  refine ok_gd (kd_39 hS k_6) ?_
  refine ok_gd (ixg hx1 (ln_39 hS k_6) (by decide)) ?_
  refine ok_bd (fun d9 e_7 => ?_)
  have h_8 := Inv.set e_7 h_4 (by rw [k_6]; exact trivial) (mA k_6 (by decide) (by decide +kernel)) (nA k_6 (by decide) (by decide +kernel))
  obtain ⟨r10, e_9, k_10, k_10o⟩ := sh_3_2 hS hx0
  refine ok_ob e_9 ?_
  refine ok_gd (kd_40 hS k_10) ?_
  refine ok_gd (ixg hx1 (ln_40 hS k_10) (by decide)) ?_
  refine ok_bd (fun d13 e_11 => ?_)
  have h_12 := Inv.set e_11 h_8 (by rw [k_10]; exact (iv.w (by decide : iv ((-1) : Int32) (-1) (-1)) (by decide))) (mA k_10 (by decide) (by decide +kernel)) (nA k_10 (by decide) (by decide +kernel))
  exact sX3_drop_L25__3 hS hx0 hx1 (iv.w (by decide : iv (0 : Int32) 0 0) (by decide)) h_12
def m_sX3_end__3 : Nat := 0x100000000000000010000000000000001000000000000000100000000000000000000000000000000000000000000000000000000000000000000000000000000000000000000000000000000000000000000000000000000000000000000000000000000000000000000000000000000000000000000000000000000000000000000000000000000000000000000000000000000000000000000000000000000000000000000000000000000000000000000000000000000000000000000000000000000000000000000000000000000000000000000000000000000000000000000000000000000000000000000000000000000000000000000000000000000000000000000000000000000000000000000000000000000000000000000000000000000000000000000000000000010000000000000000000000000000000000000000000000000
theorem sX3_end_J22__3 {g : Gs} (hS : Shp g) {b : Nat → Int} {d0 : Ds} {x0 : Nat} (hx0 : cls x0 = 3) {x1 : Int32} (hx1 : iv x1 0 23) {d : Ds} (hI : Inv m_sX3_end__3 b d0 d) : ok (fX3_end_J22 10000 g x0 x1 d) (fun u d' => Inv m_sX3_end__3 b d0 d' ∧ True) := by
  unfold fX3_end_J22
  exact ok_some ⟨hI, trivial⟩
theorem sX3_end__3 {g : Gs} (hS : Shp g) {b : Nat → Int} {x0 : Nat} (hx0 : cls x0 = 3) {x1 : Int32} (hx1 : iv x1 0 23) {d : Ds} (hB : Bnd b d) : ok (fX3_end 10000 g x0 x1 d) (fun u d' => Inv m_sX3_end__3 b d d' ∧ True) := by
  have hI : Inv m_sX3_end__3 b d d := Inv.rf hB
  unfold fX3_end
  refine ok_gd (kd_3 hS hx0) ?_
  obtain ⟨r2, e_1, k_2, k_2o⟩ := sh_3_2 hS hx0
  refine ok_ob e_1 ?_
  refine ok_gd (kd_40 hS k_2) ?_
  refine ok_gd (ixg hx1 (ln_40 hS k_2) (by decide)) ?_
  refine ok_bd (fun u5 e_3 => ?_)
  have h_4 := iv_e e_3 (rd_40 hI.1 k_2 (ixn hx1 (by decide)))
  refine ok_cv (sX3_drop__3 hS hx0 hx1 hI.1) (fun d6 r_5 => ?_)
  obtain ⟨h_6, h_7⟩ := r_5
  have h_8 := Inv.call hI h_6 (by decide +kernel)
  refine ok_if (fun c_9 => ?_) (fun c_9 => ?_)
  · have h_10 := iv.w (c := (-1)) (e := (-1)) (eq_l c_9 (by decide : iv ((-1) : Int32) (-1) (-1))) (by decide)
    exact sX3_end_J22__3 hS hx0 hx1 h_8
  · have h_11 := iv.w (c := 0) (e := 23) (ne_lo c_9 h_4 (by decide : iv ((-1) : Int32) (-1) (-1))) (by decide)
    refine ok_cv (sX3_drop__3 hS hx0 h_11 h_8.1) (fun d9 r_12 => ?_)
    obtain ⟨h_13, h_14⟩ := r_12
    have h_15 := Inv.call h_8 h_13 (by decide +kernel)
    exact sX3_end_J22__3 hS hx0 hx1 h_15
def m_sX4_drop__4 : Nat := 0x10000000000000000000000000000000000000000000000000000000000000000000000000000000000000000000000000000000000000000000000000000000000000000000000000000000000000000000000000000000000000000000000000000000000000000000000000000000000000000000000000000000000000000000000000000000000000000000000000000000000000000000000000000000000000000000000000000000000000000000000000000000000000000000000000000000000000000000000000000000000000000000000000000000000000000000000000000000000000000000000000000000000000000000000000000000000000000000000020000000000000000000000000000000000000000000000000000000000000000
theorem sX4_drop_J45__4 {g : Gs} (hS : Shp g) {b : Nat → Int} {d0 : Ds} {x0 : Nat} (hx0 : cls x0 = 4) {x1 : Int32} (hx1 : iv x1 0 2399) {d : Ds} (hI : Inv m_sX4_drop__4 b d0 d) (hr_x0_1 : iv (dI d x0 1) 0 2399) : ok (fX4_drop_J45 10000 g x0 x1 d) (fun u d' => Inv m_sX4_drop__4 b d0 d' ∧ True) := by
  unfold fX4_drop_J45
  exact ok_some ⟨hI, trivial⟩
theorem sX4_drop__4 {g : Gs} (hS : Shp g) {b : Nat → Int} {x0 : Nat} (hx0 : cls x0 = 4) {x1 : Int32} (hx1 : iv x1 0 2399) {d : Ds} (hB : Bnd b d) : ok (fX4_drop 10000 g x0 x1 d) (fun u d' => Inv m_sX4_drop__4 b d d' ∧ True) := by
  have hI : Inv m_sX4_drop__4 b d d := Inv.rf hB
  unfold fX4_drop
  refine ok_if (fun c_1 => ?_) (fun c_1 => ?_)
  · exact (iv_no (lt_l c_1 hx1 (by decide : iv (0 : Int32) 0 0)) (by decide))
  · refine ok_gd (kd_4 hS hx0) ?_
    refine ok_if (fun c_2 => ?_) (fun c_2 => ?_)
    · have h_3 := iv.w (c := 0) (e := 2399) (le_l c_2 (rd_4_1 hI.1 hx0) hx1) (by decide)
      exact sX4_drop_J45__4 hS hx0 hx1 hI h_3
    · have h_4 := iv.w (c := 1) (e := 2400) (lt_r (nle c_2) hx1 (rd_4_1 hI.1 hx0)) (by decide)
      obtain ⟨r4, e_5, k_6, k_6o⟩ := sh_4_0 hS hx0
      refine ok_ob e_5 ?_
      refine ok_gd (kd_37 hS k_6) ?_
      refine ok_gd (iv_nn (iv_add (l := 1) (h := 2400) hx1 (by decide : iv (1 : Int32) 1 1) (by decide)) (by decide)) ?_
      refine ok_gd (iv_nn hx1 (by decide)) ?_
      refine ok_gd (iv_nn (iv_sub (l := 0) (h := 2399) (iv_sb (h := 2400) (nle c_2) h_4 hx1 (by decide)) (by decide : iv (1 : Int32) 1 1) (by decide)) (by decide)) ?_
      have g_7 : (((x1 + 1).toNatClampNeg + (((dI d x0 1) - x1) - 1).toNatClampNeg) ≤ (gL g r4)) := (cp_b (nle c_2) h_4 hx1 (ln_37 hS k_6) (by decide))
      refine ok_gd g_7 ?_
      have g_8 : ((x1.toNatClampNeg + (((dI d x0 1) - x1) - 1).toNatClampNeg) ≤ (gL g r4)) := (cp_a (nle c_2) h_4 hx1 (ln_37 hS k_6) (by decide))
      refine ok_gd g_8 ?_
      refine ok_bd (fun d11 e_9 => ?_)
      have h_10 := Inv.cpI e_9 hI (fun i hi => by rw [k_6]; exact rd_37 hI.1 k_6 (cpx g_7 (ln_37 hS k_6) hi)) (fun j => mA k_6 (by decide) (by decide +kernel)) (fun j => nA k_6 (by decide) (by decide +kernel))
      refine ok_bd (fun d12 e_11 => ?_)
      have h_12 := Inv.set e_11 h_10 (by rw [hx0]; exact (iv.w (iv_sub (l := 0) (h := 2399) (rd_cI e_9 (cl_ne k_6 hx0 (by decide)) h_4) (by decide : iv (1 : Int32) 1 1) (by decide)) (by decide))) (mO hx0 (by decide) (by decide +kernel)) (nO hx0 (by decide) (by decide +kernel))
      exact sX4_drop_J45__4 hS hx0 hx1 h_12 (rd_at e_11 (iv_sub (l := 0) (h := 2399) (rd_cI e_9 (cl_ne k_6 hx0 (by decide)) h_4) (by decide : iv (1 : Int32) 1 1) (by decide)))
def m_sX4_dropNext__4 : Nat := 0x10000000000000000000000000000000000000000000000000000000000000000000000000000000000000000000000000000000000000000000000000000000000000000000000000000000000000000000000000000000000000000000000000000000000000000000000000000000000000000000000000000000000000000000000000000000000000000000000000000000000000000000000000000000000000000000000000000000000000000000000000000000000000000000000000000000000000000000000000000000000000000000000000000000000000000000000000000000000000000000000000000000000000000000000000000000000000000000000020000000000000000000000000000000000000000000000000000000000000000
theorem sX4_dropNext_J34__4 {g : Gs} (hS : Shp g) {b : Nat → Int} {d0 : Ds} {x0 : Nat} (hx0 : cls x0 = 4) {x1 : Int32} (hx1 : iv x1 0 23) {x2 : Int32} (hx2 : iv x2 0 1) {y3 : Int32} (hy3 : iv y3 0 2399) {d : Ds} (hI : Inv m_sX4_dropNext__4 b d0 d) (hr_x0_1 : iv (dI d x0 1) 1 2400) {K2 : Int32 × Ds → Option (Unit × Ds)} {μ2 : Nat} (hK2 : ∀ a, Inv m_sX4_dropNext__4 b d0 a.2 ∧ iv a.1 0 2400 ∧ True → (2400 - a.1.toInt).toNat < μ2 → ok (K2 a) (fun u d' => Inv m_sX4_dropNext__4 b d0 d' ∧ True)) (hm2 : (2400 - y3.toInt).toNat ≤ μ2) : ok (fX4_dropNext_J34 10000 g x0 x1 x2 K2 y3 d) (fun u d' => Inv m_sX4_dropNext__4 b d0 d' ∧ True) := by
  unfold fX4_dropNext_J34
  refine ok_bd (fun u7 e_1 => ?_)
  have h_2 := iv_e e_1 (iv_add (l := 1) (h := 2400) hy3 (by decide : iv (1 : Int32) 1 1) (by decide))
  exact hK2 _ ⟨hI, (iv.w h_2 (by decide)), trivial⟩ (Nat.lt_of_lt_of_le (ms_up (H := 2400) e_1 hy3 (by decide : iv (1 : Int32) 1 1) (by decide)) hm2)
theorem sX4_dropNext_L2__4 {g : Gs} (hS : Shp g) {b : Nat → Int} {d0 : Ds} {x0 : Nat} (hx0 : cls x0 = 4) {x1 : Int32} (hx1 : iv x1 0 23) {x2 : Int32} (hx2 : iv x2 0 1) {y3 : Int32} (hy3 : iv y3 0 2400) {d : Ds} (hI : Inv m_sX4_dropNext__4 b d0 d) : ok (fX4_dropNext_L2 10000 g x0 x1 x2 (y3, d)) (fun u d' => Inv m_sX4_dropNext__4 b d0 d' ∧ True) := by
  unfold fX4_dropNext_L2
  refine ok_lp (fun a => Inv m_sX4_dropNext__4 b d0 a.2 ∧ iv a.1 0 2400 ∧ True) (fun a => (2400 - a.1.toInt).toNat) ?_ 10000 _ ⟨hI, hy3, trivial⟩ (ms_b hy3 (by decide))
  · rintro K2 ⟨y3, d⟩ ⟨hI, hy3, -⟩ hK2
    (try dsimp only at hI hy3 hK2 ⊢)
    unfold fX4_dropNext_B2
    refine ok_gd (kd_4 hS hx0) ?_
    refine ok_if (fun c_1 => ?_) (fun c_1 => ?_)
    · exact ok_some ⟨hI, trivial⟩
    · have h_2 := iv.w (c := 0) (e := 2399) (lt_l (nle c_1) hy3 (rd_4_1 hI.1 hx0)) (by decide)
      have h_3 := iv.w (c := 1) (e := 2400) (lt_r (nle c_1) hy3 (rd_4_1 hI.1 hx0)) (by decide)
      refine ok_cb (sX4_keyAt__4 hS hx0 h_2 hI.1 h_3) (fun u5 d3 r_4 => ?_)
      obtain ⟨rfl, h_6, x_6⟩ := r_4
      refine ok_if (fun c_7 => ?_) (fun c_7 => ?_)
      · have h_8 := iv.w (c := 0) (e := 23) (eq_l c_7 hx1) (by decide)
        refine ok_cb (sX4_isDownAt__4 hS hx0 h_2 hI.1) ?_
        rintro _ _ ⟨rfl, rfl | ⟨rfl, c_9, c_10⟩⟩
        · refine ok_if (fun c_11 => ?_) (fun c_11 => ?_)
          · have h_12 := iv.w (c := 0) (e := 0) (eq_r c_11 (by decide : iv (0 : Int32) 0 0)) (by decide)
            refine ok_cv (sX4_drop__4 hS hx0 h_2 hI.1) (fun d12 r_13 => ?_)
            obtain ⟨h_14, h_15⟩ := r_13
            have h_16 := Inv.call hI h_14 (by decide +kernel)
            exact ok_some ⟨h_16, trivial⟩
          · exact sX4_dropNext_J34__4 hS hx0 hx1 hx2 h_2 hI h_3 hK2 (Nat.le_refl _)
        · refine ok_if (fun c_17 => ?_) (fun c_17 => ?_)
          · have h_18 := iv.w (c := 1) (e := 1) (eq_r c_17 (by decide : iv (1 : Int32) 1 1)) (by decide)
            refine ok_cv (sX4_drop__4 hS hx0 h_2 hI.1) (fun d12 r_19 => ?_)
            obtain ⟨h_20, h_21⟩ := r_19
            have h_22 := Inv.call hI h_20 (by decide +kernel)
            exact ok_some ⟨h_22, trivial⟩
          · exact sX4_dropNext_J34__4 hS hx0 hx1 hx2 h_2 hI h_3 hK2 (Nat.le_refl _)
      · exact sX4_dropNext_J34__4 hS hx0 hx1 hx2 h_2 hI h_3 hK2 (Nat.le_refl _)
theorem sX4_dropNext__4 {g : Gs} (hS : Shp g) {b : Nat → Int} {x0 : Nat} (hx0 : cls x0 = 4) {x1 : Int32} (hx1 : iv x1 0 23) {x2 : Int32} (hx2 : iv x2 0 1) {d : Ds} (hB : Bnd b d) : ok (fX4_dropNext 10000 g x0 x1 x2 d) (fun u d' => Inv m_sX4_dropNext__4 b d d' ∧ True) := by
  have hI : Inv m_sX4_dropNext__4 b d d := Inv.rf hB
  unfold fX4_dropNext
  exact sX4_dropNext_L2__4 hS hx0 hx1 hx2 (iv.w (by decide : iv (0 : Int32) 0 0) (by decide)) hI
theorem sX1_workOff__1 {g : Gs} (hS : Shp g) {b B : Nat → Int} {x0 : Nat} (hlb : LeB b B (own x0) 17) (hx0 : cls x0 = 1) {x1 : Int32} (hx1 : iv x1 1 7) {d : Ds} (hq : ∀ e, gR g x0 2 = some e → 1 ≤ (dI d e 1).toInt) (hB : Bnd b d) : ok (fX1_workOff 10000 g x0 x1 d) (fun u d' => Inv m_sX1_workOff__1 B d d' ∧ True) := by
  have hI : Inv m_sX1_workOff__1 b d d := Inv.rf hB
  unfold fX1_workOff
  refine ok_gd (kd_1 hS hx0) ?_
  obtain ⟨r2, e_1, k_2, k_2o⟩ := sh_1_2 hS hx0
  refine ok_ob e_1 ?_
  refine ok_gd (kd_4 hS k_2) ?_
  refine ok_cb (sX4_keyAt__4 hS k_2 (iv.w (by decide : iv (0 : Int32) 0 0) (by decide)) hI.1 (⟨hq _ e_1, (rd_4_1 hI.1 k_2).2⟩ : iv _ 1 2400)) (fun u6 d4 r_3 => ?_)
  obtain ⟨rfl, h_5, x_5⟩ := r_3
  have h_6 : iv u6 0 23 := ⟨x_5 (Int.le_trans (by decide) (by decide : iv (0 : Int32) 0 0).1) (Int.lt_of_le_of_lt (by decide : iv (0 : Int32) 0 0).2 (Int.lt_of_lt_of_le (by decide) (⟨hq _ e_1, (rd_4_1 hI.1 k_2).2⟩ : iv _ 1 2400).1)), h_5.2⟩
  refine ok_if (fun c_7 => ?_) (fun c_7 => ?_)
  · have h_8 := iv.w (c := 1) (e := 1) (eq_l c_7 (by decide : iv (1 : Int32) 1 1)) (by decide)
    refine ok_cv (sX4_drop__4 hS k_2 (iv.w (by decide : iv (0 : Int32) 0 0) (by decide)) hI.1) (fun d59 r_9 => ?_)
    obtain ⟨h_10, h_11⟩ := r_9
    have h_12 := Inv.call hI h_10 (by decide +kernel)
    obtain ⟨r61, e_13, k_14, k_14o⟩ := sh_1_3 hS hx0
    refine ok_ob e_13 ?_
    refine ok_gd (kd_3 hS k_14) ?_
    refine ok_cv (sX3_end__3 hS k_14 h_6 h_12.1) (fun d63 r_15 => ?_)
    obtain ⟨h_16, h_17⟩ := r_15
    have h_18 := Inv.call h_12 h_16 (by decide +kernel)
    refine ok_cv (sX1_send__1 hS (LeB.use (k' := 1) hlb (by omega)) hx0 h_18.1) (fun d65 r_19 => ?_)
    obtain ⟨h_20, h_21⟩ := r_19
    have h_22 := Inv.call h_18 h_20 (by decide +kernel)
    have lb_23 := LeB.rest (k' := 1) hlb (by omega)
    exact ok_some ⟨(Inv.mono lb_23.1 h_22), trivial⟩
  · have h_24 := iv.w (c := 2) (e := 7) (ne_lo c_7 hx1 (by decide : iv (1 : Int32) 1 1)) (by decide)
    refine ok_if (fun c_25 => ?_) (fun c_25 => ?_)
    · have h_26 := iv.w (c := 2) (e := 2) (eq_l c_25 (by decide : iv (2 : Int32) 2 2)) (by decide)
      refine ok_cb (sX4_keyAt__4 hS k_2 (iv.w (by decide : iv (1 : Int32) 1 1) (by decide)) hI.1 (⟨hq _ e_1, (rd_4_1 hI.1 k_2).2⟩ : iv _ 1 2400)) (fun u43 d41 r_27 => ?_)
      obtain ⟨rfl, h_29, x_29⟩ := r_27
      refine ok_cv (sX4_drop__4 hS k_2 (iv.w (by decide : iv (1 : Int32) 1 1) (by decide)) hI.1) (fun d44 r_30 => ?_)
      obtain ⟨h_31, h_32⟩ := r_30
      have h_33 := Inv.call hI h_31 (by decide +kernel)
      refine ok_cv (sX4_drop__4 hS k_2 (iv.w (by decide : iv (0 : Int32) 0 0) (by decide)) h_33.1) (fun d46 r_34 => ?_)
      obtain ⟨h_35, h_36⟩ := r_34
      have h_37 := Inv.call h_33 h_35 (by decide +kernel)
      obtain ⟨r48, e_38, k_39⟩ := sh_1_0 hS hx0
      refine ok_ob e_38 ?_
      refine ok_gd (kd_13 hS k_39) ?_
      refine ok_cb (sX0_chordOf__13 hS k_39 h_6 h_37.1) (fun u52 d50 r_40 => ?_)
      obtain ⟨rfl, h_42⟩ := r_40
      refine ok_cb (sX0_chordDeed__13 hS k_39 h_42 h_37.1) (fun u55 d53 r_43 => ?_)
      obtain ⟨rfl, h_45⟩ := r_43
      refine ok_gd (kd_2 hS h_45) ?_
      refine ok_cv (sX1_perform__1 hS (LeB.use (k' := 17) hlb (by omega)) hx0 h_6 h_29 h_37.1) (fun d57 r_46 => ?_)
      obtain ⟨h_47, h_48⟩ := r_46
      have h_49 := Inv.call h_37 h_47 (by decide +kernel)
      have lb_50 := LeB.rest (k' := 17) hlb (by omega)
      exact ok_some ⟨(Inv.mono lb_50.1 h_49), trivial⟩
    · have h_51 := iv.w (c := 3) (e := 7) (ne_lo c_25 h_24 (by decide : iv (2 : Int32) 2 2)) (by decide)
      obtain ⟨r9, e_52, k_53⟩ := sh_1_0 hS hx0
      refine ok_ob e_52 ?_
      refine ok_cb (sX1_activeLayers__1 hS hx0 hI.1) (fun u12 d10 r_54 => ?_)
      obtain ⟨rfl, h_56⟩ := r_54
      refine ok_gd (kd_13 hS k_53) ?_
      refine ok_cb (sX0_deedIn__13 hS k_53 h_6 hI.1) (fun u16 d14 r_57 => ?_)
      obtain ⟨rfl, h_59⟩ := r_57
      refine ok_cv (sX4_drop__4 hS k_2 (iv.w (by decide : iv (0 : Int32) 0 0) (by decide)) hI.1) (fun d17 r_60 => ?_)
      obtain ⟨h_61, h_62⟩ := r_60
      have h_63 := Inv.call hI h_61 (by decide +kernel)
      refine ok_if (fun c_64 => ?_) (fun c_64 => ?_)
      · have h_65 := iv.w (c := 4) (e := 4) (eq_l c_64 (by decide : iv (4 : Int32) 4 4)) (by decide)
        refine ok_gd (kd_2 hS h_59) ?_
        refine ok_if (fun c_66 => ?_) (fun c_66 => ?_)
        · have h_67 := iv.w (c := 6) (e := 6) (eq_l c_66 (by decide : iv (6 : Int32) 6 6)) (by decide)
          exact sX1_workOff_J143__1_2_1__r1 hS (LeB.w (k' := 17) hlb (by omega)) hx0 h_65 h_59 (iv.w (by decide : iv (2 : Int32) 2 2) (by decide)) (by decide : iv ((-1) : Int32) (-1) (-1)) h_6 h_63
        · exact sX1_workOff_J143__1_2_1__r1 hS (LeB.w (k' := 17) hlb (by omega)) hx0 h_65 h_59 (iv.w (by decide : iv (1 : Int32) 1 1) (by decide)) (by decide : iv ((-1) : Int32) (-1) (-1)) h_6 h_63
      · refine ok_if (fun c_68 => ?_) (fun c_68 => ?_)
        · have h_69 := iv.w (c := 7) (e := 7) (eq_l c_68 (by decide : iv (7 : Int32) 7 7)) (by decide)
          refine ok_cv (sX4_dropNext__4 hS k_2 h_6 (iv.w (by decide : iv (0 : Int32) 0 0) (by decide)) h_63.1) (fun d28 r_70 => ?_)
          obtain ⟨h_71, h_72⟩ := r_70
          have h_73 := Inv.call h_63 h_71 (by decide +kernel)
          refine ok_cv (sX4_dropNext__4 hS k_2 h_6 (iv.w (by decide : iv (1 : Int32) 1 1) (by decide)) h_73.1) (fun d30 r_74 => ?_)
          obtain ⟨h_75, h_76⟩ := r_74
          have h_77 := Inv.call h_73 h_75 (by decide +kernel)
          refine ok_gd (kd_2 hS h_59) ?_
          refine ok_cv (sX1_perform__1 hS (LeB.use (k' := 17) hlb (by omega)) hx0 h_6 (iv.w (by decide : iv ((-1) : Int32) (-1) (-1)) (by decide)) h_77.1) (fun d33 r_78 => ?_)
          obtain ⟨h_79, h_80⟩ := r_78
          have h_81 := Inv.call h_77 h_79 (by decide +kernel)
          have lb_82 := LeB.rest (k' := 17) hlb (by omega)
          exact sX1_workOff_J224__1 hS (LeB.w (k' := 0) lb_82 (by omega)) hx0 (iv.w h_69 (by decide)) h_81
        · have h_83 := iv.w (c := 3) (e := 6) (ne_hi c_68 h_51 (by decide : iv (7 : Int32) 7 7)) (by decide)
          refine ok_if (fun c_84 => ?_) (fun c_84 => ?_)
          · have h_85 := iv.w (c := 3) (e := 3) (eq_l c_84 (by decide : iv (3 : Int32) 3 3)) (by decide)
            refine ok_gd (kd_2 hS h_59) ?_
            refine ok_cv (sX1_perform__1 hS (LeB.use (k' := 17) hlb (by omega)) hx0 h_6 (iv.w (by decide : iv ((-1) : Int32) (-1) (-1)) (by decide)) h_63.1) (fun d26 r_86 => ?_)
            obtain ⟨h_87, h_88⟩ := r_86
            have h_89 := Inv.call h_63 h_87 (by decide +kernel)
            have lb_90 := LeB.rest (k' := 17) hlb (by omega)
            exact sX1_workOff_J224__1 hS (LeB.w (k' := 0) lb_90 (by omega)) hx0 (iv.w h_85 (by decide)) h_89
          · have h_91 := iv.w (c := 4) (e := 6) (ne_lo c_84 h_83 (by decide : iv (3 : Int32) 3 3)) (by decide)
            refine ok_gd (kd_2 hS h_59) ?_
            refine ok_cv (sX1_perform__1 hS (LeB.use (k' := 17) hlb (by omega)) hx0 h_6 (iv.w (by decide : iv ((-1) : Int32) (-1) (-1)) (by decide)) h_63.1) (fun d23 r_92 => ?_)
            obtain ⟨h_93, h_94⟩ := r_92
            have h_95 := Inv.call h_63 h_93 (by decide +kernel)
            have lb_96 := LeB.rest (k' := 17) hlb (by omega)
            exact sX1_workOff_J224__1 hS (LeB.w (k' := 0) lb_96 (by omega)) hx0 (iv.w h_91 (by decide)) h_95
theorem sX1_passTick_L104__1 {g : Gs} (hS : Shp g) {b B : Nat → Int} {d0 : Ds} {x0 : Nat} (hlb : LeB b B (own x0) 40800) (hx0 : cls x0 = 1) {y1 : Int32} (hy1 : iv y1 0 2400) {d : Ds} (hI : Inv m_sX1_passTick__1 b d0 d) : ok (fX1_passTick_L104 10000 g x0 (y1, d)) (fun u d' => Inv m_sX1_passTick__1 B d0 d' ∧ True) := by
  unfold fX1_passTick_L104
  refine ok_lp (fun a => (∃ b1, Inv m_sX1_passTick__1 b1 d0 a.2 ∧ LeB b1 B (own x0) (17 * (((a.1.toInt - 0).toNat : Nat) : Int) + 0)) ∧ iv a.1 0 2400 ∧ True) (fun a => (a.1.toInt - 0).toNat) ?_ 10000 _ ⟨⟨b, hI, LeB.w hlb (by have h1 := hy1.1; have h2 := hy1.2; dsimp only; omega)⟩, hy1, trivial⟩ (ms_c hy1 (by decide))
  · rintro K104 ⟨y1, d⟩ ⟨⟨b1, hI, hlb⟩, hy1, -⟩ hK104
    (try dsimp only at hI hlb hy1 hK104 ⊢)
    unfold fX1_passTick_B104
    refine ok_if (fun c_1 => ?_) (fun c_1 => ?_)
    · have h_2 := iv.w (c := 0) (e := 0) (le_l c_1 hy1 (by decide : iv (0 : Int32) 0 0)) (by decide)
      exact sX1_passTick_J131__1 hS (LeB.w (k' := 0) hlb (by have h1 := h_2.1; have h2 := h_2.2; omega)) hx0 hI
    · have h_3 := iv.w (c := 1) (e := 2400) (lt_r (nle c_1) (by decide : iv (0 : Int32) 0 0) hy1) (by decide)
      refine ok_gd (kd_1 hS hx0) ?_
      refine ok_cb (sX1_fateOfFirst__1 hS hx0 hI.1) (fun u25 d23 r_4 => ?_)
      obtain ⟨rfl, h_6, x_6⟩ := r_4
      refine ok_if (fun c_7 => ?_) (fun c_7 => ?_)
      · have h_8 := iv.w (c := 0) (e := 0) (eq_l c_7 (by decide : iv (0 : Int32) 0 0)) (by decide)
        exact sX1_passTick_J131__1 hS (LeB.w (k' := 0) hlb (by have h1 := h_3.1; have h2 := h_3.2; omega)) hx0 hI
      · have h_9 := iv.w (c := 1) (e := 7) (ne_lo c_7 h_6 (by decide : iv (0 : Int32) 0 0)) (by decide)
        refine ok_cv (sX1_workOff__1 hS (LeB.use (k' := 17) hlb (by have h1 := h_3.1; have h2 := h_3.2; omega)) hx0 h_9 (x_6 c_7) hI.1) (fun d27 r_10 => ?_)
        obtain ⟨h_11, h_12⟩ := r_10
        have h_13 := Inv.call hI h_11 (by decide +kernel)
        have lb_14 := LeB.rest (k' := 17) hlb (by have h1 := h_3.1; have h2 := h_3.2; omega)
        refine ok_bd (fun u29 e_15 => ?_)
        have h_16 := iv_e e_15 (iv_add (l := 0) (h := 2399) h_3 (by decide : iv ((-1) : Int32) (-1) (-1)) (by decide))
        exact hK104 _ ⟨⟨_, h_13, LeB.w lb_14 (by have h3 := (ms_dn (H := 0) e_15 h_3 (by decide : iv ((-1) : Int32) (-1) (-1)) (by decide)); have h4 : 0 ≤ (0 : Int) := Int.le_refl _; dsimp only at h3 ⊢; omega)⟩, (iv.w h_16 (by decide)), trivial⟩ (ms_dn (H := 0) e_15 h_3 (by decide : iv ((-1) : Int32) (-1) (-1)) (by decide))
theorem sX1_passTick_J96__1 {g : Gs} (hS : Shp g) {b B : Nat → Int} {d0 : Ds} {x0 : Nat} (hlb : LeB b B (own x0) 40800) (hx0 : cls x0 = 1) {d : Ds} (hI : Inv m_sX1_passTick__1 b d0 d) : ok (fX1_passTick_J96 10000 g x0 d) (fun u d' => Inv m_sX1_passTick__1 B d0 d' ∧ True) := by
  unfold fX1_passTick_J96
  refine ok_gd (kd_1 hS hx0) ?_
  obtain ⟨r11, e_1, k_2, k_2o⟩ := sh_1_2 hS hx0
  refine ok_ob e_1 ?_
  refine ok_gd (kd_4 hS k_2) ?_
  refine ok_bd (fun u13 e_3 => ?_)
  have h_4 := iv_e e_3 (rd_4_1 hI.1 k_2)
  exact sX1_passTick_L104__1 hS (LeB.w (k' := 40800) hlb (by omega)) hx0 h_4 hI
def m_sX4_add__4 : Nat := 0x10000000000000000000000000000000000000000000000000000000000000000000000000000000000000000000000000000000000000000000000000000000000000000000000000000000000000000000000000000000000000000000000000000000000000000000000000000000000000000000000000000000000000000000000000000000000000000000000000000000000000000000000000000000000000000000000000000000000000000000000000000000000000000000000000000000000000000000000000000000000000000000000000000000000000000000000000000000000000000000000000000000000000000000000000000000000000000000000060000000000000000000000000000000000000000000000000000000000000000
theorem sX4_add_J57__4 {g : Gs} (hS : Shp g) {b : Nat → Int} {d0 : Ds} {x0 : Nat} (hx0 : cls x0 = 4) {x1 : Int32} (hx1 : iv x1 0 23) {x2 : Int32} (hx2 : iv x2 0 1) {x3 : Int32} (hx3 : iv x3 0 33554375) {d : Ds} (hI : Inv m_sX4_add__4 b d0 d) (hr_x0_1 : iv (dI d x0 1) 1 2400) : ok (fX4_add_J57 10000 g x0 x1 x2 x3 d) (fun u d' => Inv m_sX4_add__4 b d0 d' ∧ True) := by
  unfold fX4_add_J57
  exact ok_some ⟨hI, trivial⟩
theorem sX4_add_J35__4_37__r4 {g : Gs} (hS : Shp g) {b : Nat → Int} {d0 : Ds} {x0 : Nat} (hx0 : cls x0 = 4) {x1 : Int32} (hx1 : iv x1 0 23) {x2 : Int32} (hx2 : iv x2 0 1) {x3 : Int32} (hx3 : iv x3 0 33554375) {z0 : Int32} (hz0 : iv z0 0 1) {z2 : Int32} (hz2 : iv z2 0 2399) {z3 : Nat} (hz3 : cls z3 = 37) {d : Ds} (hI : Inv m_sX4_add__4 b d0 d) (hr_x0_1 : iv (dI d x0 1) 0 2399) : ok (fX4_add_J35 10000 g x0 x1 x2 x3 z0 ((x3 * 64) + (x1 * 2)) z2 z3 d) (fun u d' => Inv m_sX4_add__4 b d0 d' ∧ True) := by
  unfold fX4_add_J35
  refine ok_gd (kd_37 hS hz3) ?_
  refine ok_gd (ixg hz2 (ln_37 hS hz3) (by decide)) ?_
  refine ok_bd (fun d7 e_1 => ?_)
  have h_2 := Inv.set e_1 hI (by rw [hz3]; exact (okE_w hx3 hx1 hz0)) (mA hz3 (by decide) (by decide +kernel)) (nA hz3 (by decide) (by decide +kernel))
  refine ok_gd (kd_4 hS hx0) ?_
  refine ok_bd (fun d9 e_3 => ?_)
  have h_4 := Inv.set e_3 h_2 (by rw [hx0]; exact (iv.w (iv_add (l := 1) (h := 2400) (rd_sk e_1 (Or.inl (cl_ne hz3 hx0 (by decide))) hr_x0_1) (by decide : iv (1 : Int32) 1 1) (by decide)) (by decide))) (mO hx0 (by decide) (by decide +kernel)) (nO hx0 (by decide) (by decide +kernel))
  refine ok_bd (fun d10 e_5 => ?_)
  have h_6 := Inv.set e_5 h_4 (by rw [hx0]; exact trivial) (mO hx0 (by decide) (by decide +kernel)) (nO hx0 (by decide) (by decide +kernel))
  exact sX4_add_J57__4 hS hx0 hx1 hx2 hx3 h_6 (rd_sk e_5 (Or.inr (by decide)) (rd_at e_3 (iv_add (l := 1) (h := 2400) (rd_sk e_1 (Or.inl (cl_ne hz3 hx0 (by decide))) hr_x0_1) (by decide : iv (1 : Int32) 1 1) (by decide))))
theorem sX4_add__4 {g : Gs} (hS : Shp g) {b : Nat → Int} {x0 : Nat} (hx0 : cls x0 = 4) {x1 : Int32} (hx1 : iv x1 0 23) {x2 : Int32} (hx2 : iv x2 0 1) {x3 : Int32} (hx3 : iv x3 0 33554375) {d : Ds} (hB : Bnd b d) : ok (fX4_add 10000 g x0 x1 x2 x3 d) (fun u d' => Inv m_sX4_add__4 b d d' ∧ True) := by
  have hI : Inv m_sX4_add__4 b d d := Inv.rf hB
  unfold fX4_add
  refine ok_gd (kd_4 hS hx0) ?_
  refine ok_if (fun c_1 => ?_) (fun c_1 => ?_)
  · have h_2 := iv.w (c := 2400) (e := 2400) (le_r c_1 (by decide : iv (2400 : Int32) 2400 2400) (rd_4_1 hI.1 hx0)) (by decide)
    exact sX4_add_J57__4 hS hx0 hx1 hx2 hx3 hI (iv.w h_2 (by decide))
  · have h_3 := iv.w (c := 0) (e := 2399) (lt_l (nle c_1) (rd_4_1 hI.1 hx0) (by decide : iv (2400 : Int32) 2400 2400)) (by decide)
    obtain ⟨r3, e_4, k_5, k_5o⟩ := sh_4_0 hS hx0
    refine ok_ob e_4 ?_
    refine ok_if (fun c_6 => ?_) (fun c_6 => ?_)
    · have h_7 := iv.w (c := 0) (e := 0) (eq_l c_6 (by decide : iv (0 : Int32) 0 0)) (by decide)
      exact sX4_add_J35__4_37__r4 hS hx0 hx1 (iv.w h_7 (by decide)) hx3 (iv.w (by decide : iv (0 : Int32) 0 0) (by decide)) h_3 k_5 hI h_3
    · have h_8 := iv.w (c := 1) (e := 1) (ne_lo c_6 hx2 (by decide : iv (0 : Int32) 0 0)) (by decide)
      exact sX4_add_J35__4_37__r4 hS hx0 hx1 (iv.w h_8 (by decide)) hx3 (iv.w (by decide : iv (1 : Int32) 1 1) (by decide)) h_3 k_5 hI h_3
def m_sX6_change__6 : Nat := 0x1000000000000000100000000000000010000000000000000000000000000000000000000000000000000000000000000000000000000000000000000000000000000000000000000000000000000000000000000000000000000000000000000000000000000000000000000000000000000000000000000000000000000000000000000000000000000000000000000000000000000000000000000000000000000000000000000000000000000000000000000000000000000000000000000000000000000000000000000000000000000000000000000000000000000000000000000000000000000000000000008000000000000000000000000000000000000000000000000000000000000000000000000000000000000000000000000
theorem sX6_change_J59__6 {g : Gs} (hS : Shp g) {b : Nat → Int} {d0 : Ds} {x0 : Nat} (hx0 : cls x0 = 6) {x1 : Int32} (hx1 : iv x1 0 23) {x2 : Int32} (hx2 : iv x2 0 33554375) {d : Ds} (hI : Inv m_sX6_change__6 b d0 d) : ok (fX6_change_J59 10000 g x0 x1 x2 d) (fun u d' => Inv m_sX6_change__6 b d0 d' ∧ True) := by
  unfold fX6_change_J59
  refine ok_gd (kd_6 hS hx0) ?_
  obtain ⟨r15, e_1, k_2, k_2o⟩ := sh_6_8 hS hx0
  refine ok_ob e_1 ?_
  refine ok_gd (kd_36 hS k_2) ?_
  refine ok_gd (ixg hx1 (ln_36 hS k_2) (by decide)) ?_
  refine ok_bd (fun d18 e_3 => ?_)
  have h_4 := Inv.set e_3 hI (by rw [k_2]; exact trivial) (mA k_2 (by decide) (by decide +kernel)) (nA k_2 (by decide) (by decide +kernel))
  exact ok_some ⟨h_4, trivial⟩
theorem sX6_change__6 {g : Gs} (hS : Shp g) {b : Nat → Int} {x0 : Nat} (hx0 : cls x0 = 6) {x1 : Int32} (hx1 : iv x1 0 23) {x2 : Int32} (hx2 : iv x2 0 33554375) {d : Ds} (hB : Bnd b d) : ok (fX6_change 10000 g x0 x1 x2 d) (fun u d' => Inv m_sX6_change__6 b d d' ∧ True) := by
  have hI : Inv m_sX6_change__6 b d d := Inv.rf hB
  unfold fX6_change
  refine ok_gd (kd_6 hS hx0) ?_
  refine ok_bd (fun d2 e_1 => ?_)
  have h_2 := Inv.set e_1 hI (by rw [hx0]; exact trivial) (mO hx0 (by decide) (by decide +kernel)) (nO hx0 (by decide) (by decide +kernel))
  refine ok_cb (sX11_isIn hS (iv.w hx1 (by decide)) h_2.1) ?_
  rintro _ _ ⟨rfl, ⟨rfl, c_3⟩ | ⟨rfl, c_4⟩⟩
  · have h_5 := iv.w (c := 0) (e := 0) (eq_l c_3 (by decide : iv (0 : Int32) 0 0)) (by decide)
    refine ok_if (fun c_6 => ?_) (fun c_6 => ?_)
    · obtain ⟨r7, e_7, k_8, k_8o⟩ := sh_6_7 hS hx0
      refine ok_ob e_7 ?_
      refine ok_gd (kd_35 hS k_8) ?_
      refine ok_gd (ixg hx1 (ln_35 hS k_8) (by decide)) ?_
      obtain ⟨r10, e_9, k_10, k_10o⟩ := sh_6_8 hS hx0
      refine ok_ob e_9 ?_
      refine ok_gd (kd_36 hS k_10) ?_
      refine ok_gd (ixg hx1 (ln_36 hS k_10) (by decide)) ?_
      refine ok_bd (fun d13 e_11 => ?_)
      have h_12 := Inv.set e_11 h_2 (by rw [k_8]; exact trivial) (mA k_8 (by decide) (by decide +kernel)) (nA k_8 (by decide) (by decide +kernel))
      exact sX6_change_J59__6 hS hx0 hx1 hx2 h_12
    · exact (ne_no c_6 (by decide : iv (0 : Int32) 0 0) (by decide : iv (0 : Int32) 0 0))
  · have h_13 := iv.w (c := 1) (e := 1) (ne_lo c_4 (iv_and (by decide : iv (1 : Int32) 1 1) (by decide)) (by decide : iv (0 : Int32) 0 0)) (by decide)
    refine ok_if (fun c_14 => ?_) (fun c_14 => ?_)
    · exact (eq_no c_14 (by decide : iv (1 : Int32) 1 1) (by decide : iv (0 : Int32) 0 0) (by decide))
    · obtain ⟨r19, e_15, k_16, k_16o⟩ := sh_6_6 hS hx0
      refine ok_ob e_15 ?_
      refine ok_gd (kd_34 hS k_16) ?_
      refine ok_gd (ixg hx1 (ln_34 hS k_16) (by decide)) ?_
      refine ok_bd (fun d22 e_17 => ?_)
      have h_18 := Inv.set e_17 h_2 (by rw [k_16]; exact trivial) (mA k_16 (by decide) (by decide +kernel)) (nA k_16 (by decide) (by decide +kernel))
      exact sX6_change_J59__6 hS hx0 hx1 hx2 h_18
def m_sX6_changes__6 : Nat := 0x100000000000000000000000000000000000000000000000000000000000000000000000000000000000000000000000000000000000000000000000000000000000000000000000000000000000000000000000000000000000000000000000000000000000000000000000000000000000000000000000000000000000000000000000000000000000000000000000000000000000000000000000000000000000000000000000000000000000000000000000000000000000000000000000000000000000000000000000000000000000000000000000000000000000000000000000000000000000000000000000000000000000000000000000000000000
theorem sX6_changes_J57__6_32__r6 {g : Gs} (hS : Shp g) {b : Nat → Int} {d0 : Ds} {x0 : Nat} (hx0 : cls x0 = 6) {x1 : Int32} (hx1 : iv x1 0 23) {x2 : Int32} {z0 : Int32} {z2 : Nat} (hz2 : cls z2 = 32) {d : Ds} (hI : Inv m_sX6_changes__6 b d0 d) : ok (fX6_changes_J57 10000 g x0 x1 x2 z0 x1 z2 d) (fun u d' => Inv m_sX6_changes__6 b d0 d' ∧ iv u 0 1) := by
  unfold fX6_changes_J57
  refine ok_gd (kd_32 hS hz2) ?_
  refine ok_gd (ixg hx1 (ln_32 hS hz2) (by decide)) ?_
  refine ok_bd (fun d11 e_1 => ?_)
  have h_2 := Inv.set e_1 hI (by rw [hz2]; exact trivial) (mA hz2 (by decide) (by decide +kernel)) (nA hz2 (by decide) (by decide +kernel))
  refine ok_gd (kd_6 hS hx0) ?_
  obtain ⟨r13, e_3, k_4, k_4o⟩ := sh_6_4 hS hx0
  refine ok_ob e_3 ?_
  refine ok_gd (kd_32 hS k_4) ?_
  refine ok_gd (ixg hx1 (ln_32 hS k_4) (by decide)) ?_
  refine ok_if (fun c_5 => ?_) (fun c_5 => ?_)
  · refine ok_bd (fun d17 e_6 => ?_)
    have h_7 := Inv.set e_6 h_2 (by rw [k_4]; exact trivial) (mA k_4 (by decide) (by decide +kernel)) (nA k_4 (by decide) (by decide +kernel))
    exact ok_some ⟨h_7, (iv.w (by decide : iv (1 : Int32) 1 1) (by decide))⟩
  · have h_8 := iv.w (c := (-2147483648)) (e := 2147483646) (lt_l (nle c_5) (ivT _) (ivT _)) (by decide)
    have h_9 := iv.w (c := (-2147483647)) (e := 2147483647) (lt_r (nle c_5) (ivT _) (ivT _)) (by decide)
    exact ok_some ⟨h_2, (iv.w (by decide : iv (0 : Int32) 0 0) (by decide))⟩
theorem sX6_changes_J35__6 {g : Gs} (hS : Shp g) {b : Nat → Int} {d0 : Ds} {x0 : Nat} (hx0 : cls x0 = 6) {x1 : Int32} (hx1 : iv x1 0 23) {x2 : Int32} {z0 : Int32} (hz0 : iv z0 0 1) {d : Ds} (hI : Inv m_sX6_changes__6 b d0 d) : ok (fX6_changes_J35 10000 g x0 x1 x2 z0 d) (fun u d' => Inv m_sX6_changes__6 b d0 d' ∧ iv u 0 1) := by
  unfold fX6_changes_J35
  refine ok_gd (kd_6 hS hx0) ?_
  obtain ⟨r7, e_1, k_2, k_2o⟩ := sh_6_4 hS hx0
  refine ok_ob e_1 ?_
  refine ok_if (fun c_3 => ?_) (fun c_3 => ?_)
  · have h_4 := iv.w (c := 0) (e := 0) (eq_l c_3 (by decide : iv (0 : Int32) 0 0)) (by decide)
    exact sX6_changes_J57__6_32__r6 hS hx0 hx1 k_2 hI
  · have h_5 := iv.w (c := 1) (e := 1) (ne_lo c_3 hz0 (by decide : iv (0 : Int32) 0 0)) (by decide)
    refine ok_gd (kd_32 hS k_2) ?_
    refine ok_gd (ixg hx1 (ln_32 hS k_2) (by decide)) ?_
    exact sX6_changes_J57__6_32__r6 hS hx0 hx1 k_2 hI
theorem sX6_changes_J34__6 {g : Gs} (hS : Shp g) {b : Nat → Int} {d0 : Ds} {x0 : Nat} (hx0 : cls x0 = 6) {x1 : Int32} (hx1 : iv x1 0 23) {x2 : Int32} {d : Ds} (hI : Inv m_sX6_changes__6 b d0 d) : ok (fX6_changes_J34 10000 g x0 x1 x2 d) (fun u d' => Inv m_sX6_changes__6 b d0 d' ∧ iv u 0 1) := by
  unfold fX6_changes_J34
  exact sX6_changes_J35__6 hS hx0 hx1 (iv.w (by decide : iv (0 : Int32) 0 0) (by decide)) hI
theorem sX6_changes__6 {g : Gs} (hS : Shp g) {b : Nat → Int} {x0 : Nat} (hx0 : cls x0 = 6) {x1 : Int32} (hx1 : iv x1 0 23) {x2 : Int32} {d : Ds} (hB : Bnd b d) : ok (fX6_changes 10000 g x0 x1 x2 d) (fun u d' => Inv m_sX6_changes__6 b d d' ∧ iv u 0 1) := by
  have hI : Inv m_sX6_changes__6 b d d := Inv.rf hB
  unfold fX6_changes
  refine ok_gd (kd_6 hS hx0) ?_
  refine ok_cb (sX11_isIn hS (iv.w hx1 (by decide)) hI.1) ?_
  rintro _ _ ⟨rfl, ⟨rfl, c_1⟩ | ⟨rfl, c_2⟩⟩
  · have h_3 := iv.w (c := 0) (e := 0) (eq_l c_1 (by decide : iv (0 : Int32) 0 0)) (by decide)
    refine ok_if (fun c_4 => ?_) (fun c_4 => ?_)
    · refine ok_cb (sX11_isIn hS (iv.w hx1 (by decide)) hI.1) ?_
      rintro _ _ ⟨rfl, ⟨rfl, c_5⟩ | ⟨rfl, c_6⟩⟩
      · have h_7 := iv.w (c := 0) (e := 0) (eq_l c_5 (by decide : iv (0 : Int32) 0 0)) (by decide)
        refine ok_cb (sX11_isIn hS (iv.w hx1 (by decide)) hI.1) ?_
        rintro _ _ ⟨rfl, ⟨rfl, c_8⟩ | ⟨rfl, c_9⟩⟩
        · have h_10 := iv.w (c := 0) (e := 0) (eq_l c_8 (by decide : iv (0 : Int32) 0 0)) (by decide)
          refine ok_if (fun c_11 => ?_) (fun c_11 => ?_)
          · exact sX6_changes_J34__6 hS hx0 hx1 hI
          · exact (ne_no c_11 (by decide : iv (0 : Int32) 0 0) (by decide : iv (0 : Int32) 0 0))
        · have h_12 := iv.w (c := 1) (e := 1) (ne_lo c_9 (iv_and (by decide : iv (1 : Int32) 1 1) (by decide)) (by decide : iv (0 : Int32) 0 0)) (by decide)
          refine ok_if (fun c_13 => ?_) (fun c_13 => ?_)
          · exact (eq_no c_13 (by decide : iv (0 : Int32) 0 0) (by decide : iv (1 : Int32) 1 1) (by decide))
          · exact sX6_changes_J35__6 hS hx0 hx1 (iv.w (by decide : iv (1 : Int32) 1 1) (by decide)) hI
      · have h_14 := iv.w (c := 1) (e := 1) (ne_lo c_6 (iv_and (by decide : iv (1 : Int32) 1 1) (by decide)) (by decide : iv (0 : Int32) 0 0)) (by decide)
        refine ok_cb (sX11_isIn hS (iv.w hx1 (by decide)) hI.1) ?_
        rintro _ _ ⟨rfl, ⟨rfl, c_15⟩ | ⟨rfl, c_16⟩⟩
        · have h_17 := iv.w (c := 0) (e := 0) (eq_l c_15 (by decide : iv (0 : Int32) 0 0)) (by decide)
          refine ok_if (fun c_18 => ?_) (fun c_18 => ?_)
          · exact (eq_no c_18 (by decide : iv (1 : Int32) 1 1) (by decide : iv (0 : Int32) 0 0) (by decide))
          · exact sX6_changes_J35__6 hS hx0 hx1 (iv.w (by decide : iv (1 : Int32) 1 1) (by decide)) hI
        · have h_19 := iv.w (c := 1) (e := 1) (ne_lo c_16 (iv_and (by decide : iv (1 : Int32) 1 1) (by decide)) (by decide : iv (0 : Int32) 0 0)) (by decide)
          refine ok_if (fun c_20 => ?_) (fun c_20 => ?_)
          · exact sX6_changes_J34__6 hS hx0 hx1 hI
          · exact (ne_no c_20 (by decide : iv (1 : Int32) 1 1) (by decide : iv (1 : Int32) 1 1))
    · exact (ne_no c_4 (by decide : iv (0 : Int32) 0 0) (by decide : iv (0 : Int32) 0 0))
  · have h_21 := iv.w (c := 1) (e := 1) (ne_lo c_2 (iv_and (by decide : iv (1 : Int32) 1 1) (by decide)) (by decide : iv (0 : Int32) 0 0)) (by decide)
    refine ok_if (fun c_22 => ?_) (fun c_22 => ?_)
    · exact (eq_no c_22 (by decide : iv (1 : Int32) 1 1) (by decide : iv (0 : Int32) 0 0) (by decide))
    · exact sX6_changes_J34__6 hS hx0 hx1 hI
def m_sX6_weighSteady__6 : Nat := 0x0
theorem sX6_weighSteady_J34__6_33__r6 {g : Gs} (hS : Shp g) {b : Nat → Int} {d0 : Ds} {x0 : Nat} (hx0 : cls x0 = 6) {x1 : Int32} (hx1 : iv x1 0 23) {z0 : UInt32} (hz0 : nnF z0) {z2 : Nat} (hz2 : cls z2 = 33) {d : Ds} (hI : Inv m_sX6_weighSteady__6 b d0 d) : ok (fX6_weighSteady_J34 10000 g x0 x1 z0 x1 z2 d) (fun u d' => Inv m_sX6_weighSteady__6 b d0 d' ∧ True) := by
  unfold fX6_weighSteady_J34
  refine ok_gd (kd_33 hS hz2) ?_
  refine ok_gd (ixg hx1 (ln_33 hS hz2) (by decide)) ?_
  refine ok_bd (fun d13 e_1 => ?_)
  have h_2 := Inv.setF e_1 hI hz0
  exact ok_some ⟨h_2, trivial⟩
theorem sX6_weighSteady__6 {g : Gs} (hS : Shp g) {b : Nat → Int} {x0 : Nat} (hx0 : cls x0 = 6) {x1 : Int32} (hx1 : iv x1 0 23) {d : Ds} (hB : Bnd b d) : ok (fX6_weighSteady 10000 g x0 x1 d) (fun u d' => Inv m_sX6_weighSteady__6 b d d' ∧ True) := by
  have hI : Inv m_sX6_weighSteady__6 b d d := Inv.rf hB
  unfold fX6_weighSteady
  refine ok_gd (kd_6 hS hx0) ?_
  obtain ⟨r2, e_1, k_2, k_2o⟩ := sh_6_5 hS hx0
  refine ok_ob e_1 ?_
  refine ok_gd (kd_33 hS k_2) ?_
  refine ok_gd (ixg hx1 (ln_33 hS k_2) (by decide)) ?_
  have n_3 := nn_fmul_x_1063256064 (hI.1.2.1 r2 x1.toNatClampNeg)
  refine ok_gd n_3 ?_
  refine ok_bd (fun u6 e_4 => ?_)
  have n_5 : nnF u6 := by rw [e_4]; exact n_3
  refine ok_cb (sX11_isIn hS (iv.w hx1 (by decide)) hI.1) ?_
  rintro _ _ ⟨rfl, ⟨rfl, c_6⟩ | ⟨rfl, c_7⟩⟩
  · have h_8 := iv.w (c := 0) (e := 0) (eq_l c_6 (by decide : iv (0 : Int32) 0 0)) (by decide)
    refine ok_if (fun c_9 => ?_) (fun c_9 => ?_)
    · exact sX6_weighSteady_J34__6_33__r6 hS hx0 hx1 n_5 k_2 hI
    · exact (ne_no c_9 (by decide : iv (0 : Int32) 0 0) (by decide : iv (0 : Int32) 0 0))
  · have h_10 := iv.w (c := 1) (e := 1) (ne_lo c_7 (iv_and (by decide : iv (1 : Int32) 1 1) (by decide)) (by decide : iv (0 : Int32) 0 0)) (by decide)
    refine ok_if (fun c_11 => ?_) (fun c_11 => ?_)
    · exact (eq_no c_11 (by decide : iv (1 : Int32) 1 1) (by decide : iv (0 : Int32) 0 0) (by decide))
    · have n_12 := nn_fadd_x_1040187392 n_5
      refine ok_gd n_12 ?_
      refine ok_bd (fun u15 e_13 => ?_)
      have n_14 : nnF u15 := by rw [e_13]; exact n_12
      exact sX6_weighSteady_J34__6_33__r6 hS hx0 hx1 n_14 k_2 hI
theorem sX1_passTick_L12__1 {g : Gs} (hS : Shp g) {b B : Nat → Int} {d0 : Ds} {x0 : Nat} (hlb : LeB b B (own x0) 40800) (hx0 : cls x0 = 1) {y1 : Int32} (hy1 : iv y1 0 24) {d : Ds} (hI : Inv m_sX1_passTick__1 b d0 d) : ok (fX1_passTick_L12 10000 g x0 (y1, d)) (fun u d' => Inv m_sX1_passTick__1 B d0 d' ∧ True) := by
  unfold fX1_passTick_L12
  refine ok_lp (fun a => (∃ b1, Inv m_sX1_passTick__1 b1 d0 a.2 ∧ LeB b1 B (own x0) (0 * (((24 - a.1.toInt).toNat : Nat) : Int) + 40800)) ∧ iv a.1 0 24 ∧ True) (fun a => (24 - a.1.toInt).toNat) ?_ 10000 _ ⟨⟨b, hI, LeB.w hlb (by have h1 := hy1.1; have h2 := hy1.2; dsimp only; omega)⟩, hy1, trivial⟩ (ms_b hy1 (by decide))
  · rintro K12 ⟨y1, d⟩ ⟨⟨b1, hI, hlb⟩, hy1, -⟩ hK12
    (try dsimp only at hI hlb hy1 hK12 ⊢)
    unfold fX1_passTick_B12
    refine ok_gd (kd_1 hS hx0) ?_
    obtain ⟨r4, e_1, k_2⟩ := sh_1_0 hS hx0
    refine ok_ob e_1 ?_
    refine ok_gd (kd_13 hS k_2) ?_
    refine ok_cb (sX0_hasKey__13 hS k_2 hI.1) ?_
    rintro _ _ ⟨rfl, rfl | ⟨rfl, c_3, c_4⟩⟩
    · refine ok_if (fun c_5 => ?_) (fun c_5 => ?_)
      · exact sX1_passTick_J96__1 hS (LeB.w (k' := 40800) hlb (by have h1 := hy1.1; have h2 := hy1.2; omega)) hx0 hI
      · exact (ne_no c_5 (by decide : iv (0 : Int32) 0 0) (by decide : iv (0 : Int32) 0 0))
    · have h_6 := iv.w (c := 0) (e := 23) (lt_l (nle c_4) hy1 (iv_mul (l := 0) (h := 24) (rd_13_0 hI.1 k_2) (rd_13_1 hI.1 k_2) (by decide))) (by decide)
      have h_7 := iv.w (c := 1) (e := 24) (lt_r (nle c_4) hy1 (iv_mul (l := 0) (h := 24) (rd_13_0 hI.1 k_2) (rd_13_1 hI.1 k_2) (by decide))) (by decide)
      refine ok_if (fun c_8 => ?_) (fun c_8 => ?_)
      · exact (eq_no c_8 (by decide : iv (1 : Int32) 1 1) (by decide : iv (0 : Int32) 0 0) (by decide))
      · refine ok_if (fun c_9 => ?_) (fun c_9 => ?_)
        · exact (iv_no (le_l c_9 (by decide : iv (24 : Int32) 24 24) h_6) (by decide))
        · obtain ⟨r31, e_10, k_11, k_11o⟩ := sh_1_1 hS hx0
          refine ok_ob e_10 ?_
          refine ok_gd (kd_6 hS k_11) ?_
          refine ok_cv (sX6_weighSteady__6 hS k_11 h_6 hI.1) (fun d33 r_12 => ?_)
          obtain ⟨h_13, h_14⟩ := r_12
          have h_15 := Inv.call hI h_13 (by decide +kernel)
          refine ok_cb (sX6_changes__6 hS k_11 h_6 h_15.1) (fun u37 d35 r_16 => ?_)
          obtain ⟨h_17, h_18⟩ := r_16
          have h_19 := Inv.call h_15 h_17 (by decide +kernel)
          refine ok_if (fun c_20 => ?_) (fun c_20 => ?_)
          · have h_21 := iv.w (c := 0) (e := 0) (eq_l c_20 (by decide : iv (0 : Int32) 0 0)) (by decide)
            exact sX1_passTick_J90__1 hS (LeB.w (k' := 40800) hlb (by have h1 := h_6.1; have h2 := h_6.2; omega)) hx0 h_6 h_19 hK12 (Nat.le_refl _)
          · have h_22 := iv.w (c := 1) (e := 1) (ne_lo c_20 h_18 (by decide : iv (0 : Int32) 0 0)) (by decide)
            refine ok_cv (sX6_change__6 hS k_11 h_6 (now_hi (rd_1_5 h_19.1 hx0) hlb) h_19.1) (fun d40 r_23 => ?_)
            obtain ⟨h_24, h_25⟩ := r_23
            have h_26 := Inv.call h_19 h_24 (by decide +kernel)
            obtain ⟨r42, e_27, k_28, k_28o⟩ := sh_1_2 hS hx0
            refine ok_ob e_27 ?_
            refine ok_cb (sX11_isIn hS (iv.w h_6 (by decide)) h_26.1) ?_
            rintro _ _ ⟨rfl, ⟨rfl, c_29⟩ | ⟨rfl, c_30⟩⟩
            · have h_31 := iv.w (c := 0) (e := 0) (eq_l c_29 (by decide : iv (0 : Int32) 0 0)) (by decide)
              refine ok_gd (kd_4 hS k_28) ?_
              refine ok_cv (sX4_add__4 hS k_28 h_6 (iv.w (by decide : iv (0 : Int32) 0 0) (by decide)) (now_hi (rd_1_5 h_26.1 hx0) hlb) h_26.1) (fun d47 r_32 => ?_)
              obtain ⟨h_33, h_34⟩ := r_32
              have h_35 := Inv.call h_26 h_33 (by decide +kernel)
              exact sX1_passTick_J90__1 hS (LeB.w (k' := 40800) hlb (by have h1 := h_6.1; have h2 := h_6.2; omega)) hx0 h_6 h_35 hK12 (Nat.le_refl _)
            · have h_36 := iv.w (c := 1) (e := 1) (ne_lo c_30 (iv_and (by decide : iv (1 : Int32) 1 1) (by decide)) (by decide : iv (0 : Int32) 0 0)) (by decide)
              refine ok_gd (kd_4 hS k_28) ?_
              refine ok_cv (sX4_add__4 hS k_28 h_6 (iv.w (by decide : iv (1 : Int32) 1 1) (by decide)) (now_hi (rd_1_5 h_26.1 hx0) hlb) h_26.1) (fun d47 r_37 => ?_)
              obtain ⟨h_38, h_39⟩ := r_37
              have h_40 := Inv.call h_26 h_38 (by decide +kernel)
              exact sX1_passTick_J90__1 hS (LeB.w (k' := 40800) hlb (by have h1 := h_6.1; have h2 := h_6.2; omega)) hx0 h_6 h_40 hK12 (Nat.le_refl _)
theorem sX1_passTick__1 {g : Gs} (hS : Shp g) {b B : Nat → Int} {x0 : Nat} (hlb : LeB b B (own x0) 40864) (hx0 : cls x0 = 1) {d : Ds} (hB : Bnd b d) : ok (fX1_passTick 10000 g x0 d) (fun u d' => Inv m_sX1_passTick__1 B d d' ∧ True) := by
  have hI : Inv m_sX1_passTick__1 b d d := Inv.rf hB
  unfold fX1_passTick
  refine ok_gd (kd_1 hS hx0) ?_
  refine ok_bd (fun d2 e_1 => ?_)
  have c_4 := rd_1_5 hI.1 hx0
  have lb_3 := LeB.rest (k' := 64) hlb (by omega)
  have h_5 := Inv.mono (bp_le (o := own x0) (k := 64) (by decide)) hI
  have h_2 := Inv.set e_1 h_5 (by rw [hx0]; exact (cnt_wn c_4 hlb)) (mO hx0 (by decide) (by decide +kernel)) (nO hx0 (by decide) (by decide +kernel))
  exact sX1_passTick_L12__1 hS (LeB.w (k' := 40800) lb_3 (by omega)) hx0 (iv.w (by decide : iv (0 : Int32) 0 0) (by decide)) h_2
theorem sX11_tick_L36__10 {g : Gs} (hS : Shp g) {b B : Nat → Int} {d0 : Ds} {x0 : Nat} (hlb : LeB b B (227) 2043200) (hx0 : cls x0 = 10) {x1 : Int32} (hx1 : iv x1 1 50) {y2 : Int32} (hy2 : iv y2 0 2147483647) {y3 : Int32} (hy3 : iv y3 0 50) {d : Ds} (hI : Inv m_sX11_tick__10 b d0 d) : ok (fX11_tick_L36 10000 g x0 x1 (y2, y3, d)) (fun u d' => Inv m_sX11_tick__10 B d0 d' ∧ True) := by
  unfold fX11_tick_L36
  refine ok_lp (fun a => (∃ b1, Inv m_sX11_tick__10 b1 d0 a.2.2 ∧ LeB b1 B (227) (40864 * (((50 - a.2.1.toInt).toNat : Nat) : Int) + 0)) ∧ iv a.1 0 2147483647 ∧ iv a.2.1 0 50 ∧ True) (fun a => (50 - a.2.1.toInt).toNat) ?_ 10000 _ ⟨⟨b, hI, LeB.w hlb (by have h1 := hy3.1; have h2 := hy3.2; dsimp only; omega)⟩, hy2, hy3, trivial⟩ (ms_b hy3 (by decide))
  · rintro K36 ⟨y2, y3, d⟩ ⟨⟨b1, hI, hlb⟩, hy2, hy3, -⟩ hK36
    (try dsimp only at hI hlb hy2 hy3 hK36 ⊢)
    unfold fX11_tick_B36
    refine ok_if (fun c_1 => ?_) (fun c_1 => ?_)
    · have h_2 := iv.w (c := 1) (e := 50) (le_r c_1 hx1 hy3) (by decide)
      refine ok_gd (kd_10 hS hx0) ?_
      obtain ⟨r17, e_3, k_4, k_4o⟩ := sh_10_6 hS hx0
      refine ok_ob e_3 ?_
      refine ok_gd (kd_1 hS k_4) ?_
      obtain ⟨r19, e_5, k_6, k_6o⟩ := sh_1_4 hS k_4
      refine ok_ob e_5 ?_
      refine ok_gd (kd_5 hS k_6) ?_
      exact ok_some ⟨(Inv.mono hlb.1 hI), trivial⟩
    · have h_7 := iv.w (c := 0) (e := 49) (lt_l (nle c_1) hy3 hx1) (by decide)
      refine ok_gd (kd_10 hS hx0) ?_
      obtain ⟨r22, e_8, k_9, k_9o⟩ := sh_10_6 hS hx0
      refine ok_ob e_8 ?_
      refine ok_gd (kd_1 hS k_9) ?_
      refine ok_cv (sX1_passTick__1 hS (by rw [k_9o]; exact (LeB.use (k' := 40864) hlb (by have h1 := h_7.1; have h2 := h_7.2; omega))) k_9 hI.1) (fun d24 r_10 => ?_)
      obtain ⟨h_11, h_12⟩ := r_10
      have h_13 := Inv.call hI h_11 (by decide +kernel)
      have lb_14 := LeB.rest (k' := 40864) hlb (by have h1 := h_7.1; have h2 := h_7.2; omega)
      refine ok_bd (fun u26 e_15 => ?_)
      have h_16 := iv_e e_15 (iv_add (l := 1) (h := 50) h_7 (by decide : iv (1 : Int32) 1 1) (by decide))
      exact hK36 _ ⟨⟨_, h_13, LeB.w lb_14 (by have h3 := (ms_up (H := 50) e_15 h_7 (by decide : iv (1 : Int32) 1 1) (by decide)); have h4 : 0 ≤ (0 : Int) := Int.le_refl _; dsimp only at h3 ⊢; omega)⟩, hy2, (iv.w h_16 (by decide)), trivial⟩ (ms_up (H := 50) e_15 h_7 (by decide : iv (1 : Int32) 1 1) (by decide))
theorem sX11_tick__10 {g : Gs} (hS : Shp g) {b B : Nat → Int} {x0 : Nat} (hlb : LeB b B (227) 2043200) (hx0 : cls x0 = 10) {x1 : Int32} {d : Ds} (hB : Bnd b d) : ok (fX11_tick 10000 g x0 x1 d) (fun u d' => Inv m_sX11_tick__10 B d d' ∧ True) := by
  have hI : Inv m_sX11_tick__10 b d d := Inv.rf hB
  unfold fX11_tick
  refine ok_if (fun c_1 => ?_) (fun c_1 => ?_)
  · have h_2 := iv.w (c := (-2147483648)) (e := 0) (lt_l c_1 (ivT _) (by decide : iv (1 : Int32) 1 1)) (by decide)
    exact sX11_tick_J21__10 hS (LeB.w (k' := 0) hlb (by omega)) hx0 hI
  · have h_3 := iv.w (c := 1) (e := 2147483647) (le_r (nlt c_1) (by decide : iv (1 : Int32) 1 1) (ivT _)) (by decide)
    refine ok_if (fun c_4 => ?_) (fun c_4 => ?_)
    · have h_5 := iv.w (c := 51) (e := 2147483647) (lt_r c_4 (by decide : iv (50 : Int32) 50 50) h_3) (by decide)
      exact sX11_tick_J21__10 hS (LeB.w (k' := 0) hlb (by omega)) hx0 hI
    · have h_6 := iv.w (c := 1) (e := 50) (le_l (nlt c_4) h_3 (by decide : iv (50 : Int32) 50 50)) (by decide)
      refine ok_gd (kd_10 hS hx0) ?_
      obtain ⟨r4, e_7, k_8⟩ := sh_10_4 hS hx0
      refine ok_ob e_7 ?_
      refine ok_gd (kd_13 hS k_8) ?_
      refine ok_cb (sX0_keys__13 hS k_8 hI.1) ?_
      rintro _ _ ⟨rfl, rfl⟩
      refine ok_if (fun c_9 => ?_) (fun c_9 => ?_)
      · have h_10 := iv.w (c := 0) (e := 0) (eq_l c_9 (by decide : iv (0 : Int32) 0 0)) (by decide)
        exact sX11_tick_J21__10 hS (LeB.w (k' := 0) hlb (by omega)) hx0 hI
      · have h_11 := iv.w (c := 1) (e := 24) (ne_lo c_9 (iv_mul (l := 0) (h := 24) (rd_13_0 hI.1 k_8) (rd_13_1 hI.1 k_8) (by decide)) (by decide : iv (0 : Int32) 0 0)) (by decide)
        obtain ⟨r10, e_12, k_13, k_13o⟩ := sh_10_6 hS hx0
        refine ok_ob e_12 ?_
        refine ok_gd (kd_1 hS k_13) ?_
        obtain ⟨r12, e_14, k_15, k_15o⟩ := sh_1_4 hS k_13
        refine ok_ob e_14 ?_
        refine ok_gd (kd_5 hS k_15) ?_
        refine ok_bd (fun u14 e_16 => ?_)
        have h_17 := iv_e e_16 (iv_lo (rd_5_4 hI.1 k_15))
        exact sX11_tick_L36__10 hS (LeB.w (k' := 2043200) hlb (by omega)) hx0 h_6 h_17 (iv.w (by decide : iv (0 : Int32) 0 0) (by decide)) hI
theorem sX11_bitOf {g : Gs} (hS : Shp g) {b : Nat → Int} {x0 : Int32} {x1 : Int32} (hx1 : iv x1 0 23) {d : Ds} (hB : Bnd b d) : ok (fX11_bitOf 10000 g x0 x1 d) (fun u d' => d' = d ∧ (u = ((x0.toUInt32 >>> (x1.toUInt32 &&& (Int32.toUInt32 31))).toInt32 &&& 1))) := by
  unfold fX11_bitOf
  exact ok_some ⟨rfl, rfl⟩
theorem sX11_floatBits_J26 {g : Gs} (hS : Shp g) {b : Nat → Int} {x0 : UInt32} (hx0 : nnF x0) {y1 : UInt32} (hy1 : nnF y1) {y2 : Int32} (hy2 : iv y2 1 127) {d : Ds} (hB : Bnd b d) : ok (fX11_floatBits_J26 10000 g x0 y1 y2 d) (fun u d' => d' = d ∧ True) := by
  unfold fX11_floatBits_J26
  refine ok_if (fun c_1 => ?_) (fun c_1 => ?_)
  · have h_2 := iv.w (c := 0) (e := 2147483647) (le_r c_1 (by decide : iv (0 : Int32) 0 0) (ivT _)) (by decide)
    have n_3 := nn_fsub_x_fconst1 hy1
    refine ok_gd n_3 ?_
    refine ok_bd (fun u4 e_4 => ?_)
    have n_5 : nnF u4 := by rw [e_4]; exact n_3
    have n_6 := nn_fmul_x_1258291200 n_5
    refine ok_gd n_6 ?_
    refine ok_bd (fun u6 e_7 => ?_)
    have n_8 : nnF u6 := by rw [e_7]; exact n_6
    exact ok_some ⟨rfl, trivial⟩
  · have h_9 := iv.w (c := (-2147483648)) (e := (-1)) (lt_l (nle c_1) (ivT _) (by decide : iv (0 : Int32) 0 0)) (by decide)
    have n_10 := nn_fmul_x_1258291200 hy1
    refine ok_gd n_10 ?_
    refine ok_bd (fun u8 e_11 => ?_)
    have n_12 : nnF u8 := by rw [e_11]; exact n_10
    exact ok_some ⟨rfl, trivial⟩
theorem sX11_floatBits_L5 {g : Gs} (hS : Shp g) {b : Nat → Int} {x0 : UInt32} (hx0 : nnF x0) {y1 : UInt32} (hy1 : nnF y1) {y2 : Int32} (hy2 : iv y2 1 127) {d : Ds} (hB : Bnd b d) : ok (fX11_floatBits_L5 10000 g x0 (y1, y2, d)) (fun u d' => d' = d ∧ True) := by
  unfold fX11_floatBits_L5
  refine ok_lp (fun a => a.2.2 = d ∧ nnF a.1 ∧ iv a.2.1 1 127 ∧ True) (fun a => (a.2.1.toInt - 1).toNat) ?_ 10000 _ ⟨rfl, hy1, hy2, trivial⟩ (ms_c hy2 (by decide))
  · rintro K5 ⟨y1, y2, d⟩ ⟨rfl, hy1, hy2, -⟩ hK5
    (try dsimp only at hy1 hy2 hK5 ⊢)
    unfold fX11_floatBits_B5
    refine ok_if (fun c_1 => ?_) (fun c_1 => ?_)
    · have h_2 := iv.w (c := 0) (e := 2147483647) (le_r c_1 (by decide : iv (0 : Int32) 0 0) (ivT _)) (by decide)
      exact sX11_floatBits_J26 hS hx0 hy1 hy2 hB
    · have h_3 := iv.w (c := (-2147483648)) (e := (-1)) (lt_l (nle c_1) (ivT _) (by decide : iv (0 : Int32) 0 0)) (by decide)
      refine ok_if (fun c_4 => ?_) (fun c_4 => ?_)
      · have h_5 := iv.w (c := 1) (e := 1) (le_l c_4 hy2 (by decide : iv (1 : Int32) 1 1)) (by decide)
        exact sX11_floatBits_J26 hS hx0 hy1 (iv.w h_5 (by decide)) hB
      · have h_6 := iv.w (c := 2) (e := 127) (lt_r (nle c_4) (by decide : iv (1 : Int32) 1 1) hy2) (by decide)
        have n_7 := nn_fmul_x_fconst2 hy1
        refine ok_gd n_7 ?_
        refine ok_bd (fun u11 e_8 => ?_)
        have n_9 : nnF u11 := by rw [e_8]; exact n_7
        refine ok_bd (fun u12 e_10 => ?_)
        have h_11 := iv_e e_10 (iv_add (l := 1) (h := 126) h_6 (by decide : iv ((-1) : Int32) (-1) (-1)) (by decide))
        exact hK5 _ ⟨rfl, n_9, (iv.w h_11 (by decide)), trivial⟩ (ms_dn (H := 1) e_10 h_6 (by decide : iv ((-1) : Int32) (-1) (-1)) (by decide))
theorem sX11_floatBits {g : Gs} (hS : Shp g) {b : Nat → Int} {x0 : UInt32} (hx0 : nnF x0) {d : Ds} (hB : Bnd b d) : ok (fX11_floatBits 10000 g x0 d) (fun u d' => d' = d ∧ True) := by
  unfold fX11_floatBits
  exact sX11_floatBits_L5 hS hx0 hx0 (iv.w (by decide : iv (127 : Int32) 127 127) (by decide)) hB
theorem sX11_key__10 {g : Gs} (hS : Shp g) {b : Nat → Int} {x0 : Nat} (hx0 : cls x0 = 10) {x1 : Int32} {x2 : Int32} {d : Ds} (hB : Bnd b d) : ok (fX11_key 10000 g x0 x1 x2 d) (fun u d' => d' = d ∧ True) := by
  unfold fX11_key
  refine ok_gd (kd_10 hS hx0) ?_
  obtain ⟨r2, e_1, k_2⟩ := sh_10_4 hS hx0
  refine ok_ob e_1 ?_
  refine ok_gd (kd_13 hS k_2) ?_
  refine ok_cb (sX0_hasKey__13 hS k_2 hB) ?_
  rintro _ _ ⟨rfl, rfl | ⟨rfl, c_3, c_4⟩⟩
  · refine ok_if (fun c_5 => ?_) (fun c_5 => ?_)
    · exact ok_some ⟨rfl, trivial⟩
    · exact (ne_no c_5 (by decide : iv (0 : Int32) 0 0) (by decide : iv (0 : Int32) 0 0))
  · have h_6 := iv.w (c := 0) (e := 2147483647) (le_r (nlt c_3) (by decide : iv (0 : Int32) 0 0) (ivT _)) (by decide)
    have h_7 := iv.w (c := 0) (e := 23) (lt_l (nle c_4) h_6 (iv_mul (l := 0) (h := 24) (rd_13_0 hB k_2) (rd_13_1 hB k_2) (by decide))) (by decide)
    have h_8 := iv.w (c := 1) (e := 24) (lt_r (nle c_4) h_6 (iv_mul (l := 0) (h := 24) (rd_13_0 hB k_2) (rd_13_1 hB k_2) (by decide))) (by decide)
    refine ok_if (fun c_9 => ?_) (fun c_9 => ?_)
    · exact (eq_no c_9 (by decide : iv (1 : Int32) 1 1) (by decide : iv (0 : Int32) 0 0) (by decide))
    · obtain ⟨r8, e_10, k_11, k_11o⟩ := sh_10_6 hS hx0
      refine ok_ob e_10 ?_
      refine ok_gd (kd_1 hS k_11) ?_
      obtain ⟨r10, e_12, k_13, k_13o⟩ := sh_1_1 hS k_11
      refine ok_ob e_12 ?_
      refine ok_if (fun c_14 => ?_) (fun c_14 => ?_)
      · exact ok_some ⟨rfl, trivial⟩
      · have h_15 := iv.w (c := 0) (e := 5) (tab_s c_14) (by decide)
        refine ok_if (fun c_16 => ?_) (fun c_16 => ?_)
        · have h_17 := iv.w (c := 0) (e := 0) (eq_l c_16 (by decide : iv (0 : Int32) 0 0)) (by decide)
          refine ok_gd (kd_6 hS k_13) ?_
          refine ok_cb (sX11_bitOf hS h_7 hB) ?_
          rintro _ _ ⟨rfl, rfl⟩
          exact ok_some ⟨rfl, trivial⟩
        · have h_18 := iv.w (c := 1) (e := 5) (ne_lo c_16 h_15 (by decide : iv (0 : Int32) 0 0)) (by decide)
          refine ok_if (fun c_19 => ?_) (fun c_19 => ?_)
          · have h_20 := iv.w (c := 1) (e := 1) (eq_l c_19 (by decide : iv (1 : Int32) 1 1)) (by decide)
            refine ok_gd (kd_6 hS k_13) ?_
            refine ok_cb (sX11_bitOf hS h_7 hB) ?_
            rintro _ _ ⟨rfl, rfl⟩
            exact ok_some ⟨rfl, trivial⟩
          · have h_21 := iv.w (c := 2) (e := 5) (ne_lo c_19 h_18 (by decide : iv (1 : Int32) 1 1)) (by decide)
            refine ok_if (fun c_22 => ?_) (fun c_22 => ?_)
            · have h_23 := iv.w (c := 2) (e := 2) (eq_l c_22 (by decide : iv (2 : Int32) 2 2)) (by decide)
              refine ok_gd (kd_6 hS k_13) ?_
              refine ok_cb (sX11_bitOf hS h_7 hB) ?_
              rintro _ _ ⟨rfl, rfl⟩
              exact ok_some ⟨rfl, trivial⟩
            · have h_24 := iv.w (c := 3) (e := 5) (ne_lo c_22 h_21 (by decide : iv (2 : Int32) 2 2)) (by decide)
              refine ok_if (fun c_25 => ?_) (fun c_25 => ?_)
              · have h_26 := iv.w (c := 3) (e := 3) (eq_l c_25 (by decide : iv (3 : Int32) 3 3)) (by decide)
                refine ok_gd (kd_6 hS k_13) ?_
                refine ok_cb (sX11_bitOf hS h_7 hB) ?_
                rintro _ _ ⟨rfl, rfl⟩
                exact ok_some ⟨rfl, trivial⟩
              · have h_27 := iv.w (c := 4) (e := 5) (ne_lo c_25 h_24 (by decide : iv (3 : Int32) 3 3)) (by decide)
                refine ok_if (fun c_28 => ?_) (fun c_28 => ?_)
                · have h_29 := iv.w (c := 4) (e := 4) (eq_l c_28 (by decide : iv (4 : Int32) 4 4)) (by decide)
                  refine ok_gd (kd_6 hS k_13) ?_
                  obtain ⟨r34, e_30, k_31, k_31o⟩ := sh_6_4 hS k_13
                  refine ok_ob e_30 ?_
                  refine ok_gd (kd_32 hS k_31) ?_
                  refine ok_gd (ixg h_7 (ln_32 hS k_31) (by decide)) ?_
                  exact ok_some ⟨rfl, trivial⟩
                · have h_32 := iv.w (c := 5) (e := 5) (ne_lo c_28 h_27 (by decide : iv (4 : Int32) 4 4)) (by decide)
                  refine ok_if (fun c_33 => ?_) (fun c_33 => ?_)
                  · refine ok_gd (kd_6 hS k_13) ?_
                    obtain ⟨r39, e_34, k_35, k_35o⟩ := sh_6_5 hS k_13
                    refine ok_ob e_34 ?_
                    refine ok_gd (kd_33 hS k_35) ?_
                    refine ok_gd (ixg h_7 (ln_33 hS k_35) (by decide)) ?_
                    refine ok_cb (sX11_floatBits hS (hB.2.1 r39 x1.toNatClampNeg) hB) (fun u44 d42 r_36 => ?_)
                    obtain ⟨rfl, h_38⟩ := r_36
                    exact ok_some ⟨rfl, trivial⟩
                  · exact (ne_no c_33 h_32 (by decide : iv (5 : Int32) 5 5))
theorem sX11_deed_J45__10 {g : Gs} (hS : Shp g) {b : Nat → Int} {x0 : Nat} (hx0 : cls x0 = 10) {x1 : Int32} {x2 : Int32} (hx2 : iv x2 0 23) {x3 : Int32} {z0 : Option Nat} (hz0 : (∀ r, z0 = some r → cls r = 2)) {d : Ds} (hB : Bnd b d) : ok (fX11_deed_J45 10000 g x0 x1 x2 x3 z0 d) (fun u d' => d' = d ∧ True) := by
  unfold fX11_deed_J45
  refine ok_if (fun c_1 => ?_) (fun c_1 => ?_)
  · exact ok_some ⟨rfl, trivial⟩
  · refine ok_if (fun c_2 => ?_) (fun c_2 => ?_)
    · exact ok_some ⟨rfl, trivial⟩
    · have h_3 := iv.w (c := 0) (e := 2) (tab_s c_2) (by decide)
      refine ok_if (fun c_4 => ?_) (fun c_4 => ?_)
      · have h_5 := iv.w (c := 0) (e := 0) (eq_l c_4 (by decide : iv (0 : Int32) 0 0)) (by decide)
        obtain ⟨r15, e_6⟩ := Option.ne_none_iff_exists'.mp c_1
        have w_7 := hz0 _ e_6
        refine ok_ob e_6 ?_
        refine ok_gd (kd_2 hS w_7) ?_
        exact ok_some ⟨rfl, trivial⟩
      · have h_8 := iv.w (c := 1) (e := 2) (ne_lo c_4 h_3 (by decide : iv (0 : Int32) 0 0)) (by decide)
        refine ok_if (fun c_9 => ?_) (fun c_9 => ?_)
        · have h_10 := iv.w (c := 1) (e := 1) (eq_l c_9 (by decide : iv (1 : Int32) 1 1)) (by decide)
          obtain ⟨r18, e_11⟩ := Option.ne_none_iff_exists'.mp c_1
          have w_12 := hz0 _ e_11
          refine ok_ob e_11 ?_
          refine ok_gd (kd_2 hS w_12) ?_
          exact ok_some ⟨rfl, trivial⟩
        · have h_13 := iv.w (c := 2) (e := 2) (ne_lo c_9 h_8 (by decide : iv (1 : Int32) 1 1)) (by decide)
          refine ok_if (fun c_14 => ?_) (fun c_14 => ?_)
          · obtain ⟨r21, e_15⟩ := Option.ne_none_iff_exists'.mp c_1
            have w_16 := hz0 _ e_15
            refine ok_ob e_15 ?_
            refine ok_gd (kd_2 hS w_16) ?_
            exact ok_some ⟨rfl, trivial⟩
          · exact (ne_no c_14 h_13 (by decide : iv (2 : Int32) 2 2))
theorem sX11_deed__10 {g : Gs} (hS : Shp g) {b : Nat → Int} {x0 : Nat} (hx0 : cls x0 = 10) {x1 : Int32} {x2 : Int32} {x3 : Int32} {d : Ds} (hB : Bnd b d) : ok (fX11_deed 10000 g x0 x1 x2 x3 d) (fun u d' => d' = d ∧ True) := by
  unfold fX11_deed
  refine ok_gd (kd_10 hS hx0) ?_
  obtain ⟨r2, e_1, k_2⟩ := sh_10_4 hS hx0
  refine ok_ob e_1 ?_
  refine ok_gd (kd_13 hS k_2) ?_
  refine ok_cb (sX0_hasKey__13 hS k_2 hB) ?_
  rintro _ _ ⟨rfl, rfl | ⟨rfl, c_3, c_4⟩⟩
  · refine ok_if (fun c_5 => ?_) (fun c_5 => ?_)
    · exact ok_some ⟨rfl, trivial⟩
    · exact (ne_no c_5 (by decide : iv (0 : Int32) 0 0) (by decide : iv (0 : Int32) 0 0))
  · have h_6 := iv.w (c := 0) (e := 2147483647) (le_r (nlt c_3) (by decide : iv (0 : Int32) 0 0) (ivT _)) (by decide)
    have h_7 := iv.w (c := 0) (e := 23) (lt_l (nle c_4) h_6 (iv_mul (l := 0) (h := 24) (rd_13_0 hB k_2) (rd_13_1 hB k_2) (by decide))) (by decide)
    have h_8 := iv.w (c := 1) (e := 24) (lt_r (nle c_4) h_6 (iv_mul (l := 0) (h := 24) (rd_13_0 hB k_2) (rd_13_1 hB k_2) (by decide))) (by decide)
    refine ok_if (fun c_9 => ?_) (fun c_9 => ?_)
    · exact (eq_no c_9 (by decide : iv (1 : Int32) 1 1) (by decide : iv (0 : Int32) 0 0) (by decide))
    · refine ok_if (fun c_10 => ?_) (fun c_10 => ?_)
      · have h_11 := iv.w (c := (-1)) (e := (-1)) (eq_l c_10 (by decide : iv ((-1) : Int32) (-1) (-1))) (by decide)
        obtain ⟨r23, e_12, k_13, k_13o⟩ := sh_10_6 hS hx0
        refine ok_ob e_12 ?_
        refine ok_gd (kd_1 hS k_13) ?_
        refine ok_cb (sX1_activeLayers__1 hS k_13 hB) (fun u27 d25 r_14 => ?_)
        obtain ⟨rfl, h_16⟩ := r_14
        refine ok_cb (sX0_deedIn__13 hS k_2 h_7 hB) (fun u30 d28 r_17 => ?_)
        obtain ⟨rfl, h_19⟩ := r_17
        exact sX11_deed_J45__10 hS hx0 h_7 (fun _ h => (Option.some.inj h) ▸ h_19) hB
      · refine ok_cb (sX0_toldDeed__13 hS k_2 h_7 hB) (fun u11 d9 r_20 => ?_)
        obtain ⟨rfl, h_22⟩ := r_20
        exact sX11_deed_J45__10 hS hx0 h_7 h_22 hB
theorem sX11_does__10 {g : Gs} (hS : Shp g) {b : Nat → Int} {x0 : Nat} (hx0 : cls x0 = 10) {x1 : Int32} {x2 : Int32} {d : Ds} (hB : Bnd b d) : ok (fX11_does 10000 g x0 x1 x2 d) (fun u d' => d' = d ∧ True) := by
  unfold fX11_does
  refine ok_gd (kd_10 hS hx0) ?_
  obtain ⟨r2, e_1, k_2⟩ := sh_10_4 hS hx0
  refine ok_ob e_1 ?_
  refine ok_gd (kd_13 hS k_2) ?_
  refine ok_cb (sX0_hasKey__13 hS k_2 hB) ?_
  rintro _ _ ⟨rfl, rfl | ⟨rfl, c_3, c_4⟩⟩
  · refine ok_if (fun c_5 => ?_) (fun c_5 => ?_)
    · exact ok_some ⟨rfl, trivial⟩
    · exact (ne_no c_5 (by decide : iv (0 : Int32) 0 0) (by decide : iv (0 : Int32) 0 0))
  · have h_6 := iv.w (c := 0) (e := 2147483647) (le_r (nlt c_3) (by decide : iv (0 : Int32) 0 0) (ivT _)) (by decide)
    have h_7 := iv.w (c := 0) (e := 23) (lt_l (nle c_4) h_6 (iv_mul (l := 0) (h := 24) (rd_13_0 hB k_2) (rd_13_1 hB k_2) (by decide))) (by decide)
    have h_8 := iv.w (c := 1) (e := 24) (lt_r (nle c_4) h_6 (iv_mul (l := 0) (h := 24) (rd_13_0 hB k_2) (rd_13_1 hB k_2) (by decide))) (by decide)
    refine ok_if (fun c_9 => ?_) (fun c_9 => ?_)
    · exact (eq_no c_9 (by decide : iv (1 : Int32) 1 1) (by decide : iv (0 : Int32) 0 0) (by decide))
    · refine ok_if (fun c_10 => ?_) (fun c_10 => ?_)
      · have h_11 := iv.w (c := 0) (e := 0) (eq_l c_10 (by decide : iv (0 : Int32) 0 0)) (by decide)
        obtain ⟨r9, e_12, k_13, k_13o⟩ := sh_10_6 hS hx0
        refine ok_ob e_12 ?_
        refine ok_gd (kd_1 hS k_13) ?_
        obtain ⟨r11, e_14, k_15, k_15o⟩ := sh_1_3 hS k_13
        refine ok_ob e_14 ?_
        refine ok_gd (kd_3 hS k_15) ?_
        obtain ⟨r13, e_16, k_17, k_17o⟩ := sh_3_0 hS k_15
        refine ok_ob e_16 ?_
        refine ok_gd (kd_38 hS k_17) ?_
        refine ok_gd (ixg h_7 (ln_38 hS k_17) (by decide)) ?_
        exact ok_some ⟨rfl, trivial⟩
      · refine ok_if (fun c_18 => ?_) (fun c_18 => ?_)
        · have h_19 := iv.w (c := 1) (e := 1) (eq_l c_18 (by decide : iv (1 : Int32) 1 1)) (by decide)
          obtain ⟨r17, e_20, k_21, k_21o⟩ := sh_10_6 hS hx0
          refine ok_ob e_20 ?_
          refine ok_gd (kd_1 hS k_21) ?_
          obtain ⟨r19, e_22, k_23, k_23o⟩ := sh_1_3 hS k_21
          refine ok_ob e_22 ?_
          refine ok_gd (kd_3 hS k_23) ?_
          obtain ⟨r21, e_24, k_25, k_25o⟩ := sh_3_1 hS k_23
          refine ok_ob e_24 ?_
          refine ok_gd (kd_39 hS k_25) ?_
          refine ok_gd (ixg h_7 (ln_39 hS k_25) (by decide)) ?_
          exact ok_some ⟨rfl, trivial⟩
        · exact ok_some ⟨rfl, trivial⟩
theorem sX11_event_J30__10 {g : Gs} (hS : Shp g) {b : Nat → Int} {x0 : Nat} (hx0 : cls x0 = 10) {x1 : Int32} {x2 : Int32} {d : Ds} (hB : Bnd b d) : ok (fX11_event_J30 10000 g x0 x1 x2 d) (fun u d' => d' = d ∧ True) := by
  unfold fX11_event_J30
  exact ok_some ⟨rfl, trivial⟩
theorem sX11_event_J79__10 {g : Gs} (hS : Shp g) {b : Nat → Int} {x0 : Nat} (hx0 : cls x0 = 10) {x1 : Int32} (hx1 : iv x1 0 2399) {x2 : Int32} (hx2 : iv x2 1 1) {z0 : Int32} (hz0 : iv z0 0 1) {d : Ds} (hB : Bnd b d) : ok (fX11_event_J79 10000 g x0 x1 x2 z0 d) (fun u d' => d' = d ∧ True) := by
  unfold fX11_event_J79
  exact ok_some ⟨rfl, trivial⟩
theorem sX11_event__10 {g : Gs} (hS : Shp g) {b : Nat → Int} {x0 : Nat} (hx0 : cls x0 = 10) {x1 : Int32} {x2 : Int32} {d : Ds} (hB : Bnd b d) : ok (fX11_event 10000 g x0 x1 x2 d) (fun u d' => d' = d ∧ True) := by
  unfold fX11_event
  refine ok_gd (kd_10 hS hx0) ?_
  obtain ⟨r2, e_1, k_2, k_2o⟩ := sh_10_6 hS hx0
  refine ok_ob e_1 ?_
  refine ok_gd (kd_1 hS k_2) ?_
  obtain ⟨r4, e_3, k_4, k_4o⟩ := sh_1_2 hS k_2
  refine ok_ob e_3 ?_
  refine ok_if (fun c_5 => ?_) (fun c_5 => ?_)
  · have h_6 := iv.w (c := (-1)) (e := (-1)) (eq_l c_5 (by decide : iv ((-1) : Int32) (-1) (-1))) (by decide)
    refine ok_gd (kd_4 hS k_4) ?_
    exact ok_some ⟨rfl, trivial⟩
  · refine ok_if (fun c_7 => ?_) (fun c_7 => ?_)
    · have h_8 := iv.w (c := (-2147483648)) (e := (-1)) (lt_l c_7 (ivT _) (by decide : iv (0 : Int32) 0 0)) (by decide)
      exact sX11_event_J30__10 hS hx0 hB
    · have h_9 := iv.w (c := 0) (e := 2147483647) (le_r (nlt c_7) (by decide : iv (0 : Int32) 0 0) (ivT _)) (by decide)
      refine ok_gd (kd_4 hS k_4) ?_
      refine ok_if (fun c_10 => ?_) (fun c_10 => ?_)
      · have h_11 := iv.w (c := 0) (e := 2399) (lt_l c_10 h_9 (rd_4_1 hB k_4)) (by decide)
        have h_12 := iv.w (c := 1) (e := 2400) (lt_r c_10 h_9 (rd_4_1 hB k_4)) (by decide)
        refine ok_if (fun c_13 => ?_) (fun c_13 => ?_)
        · exact ok_some ⟨rfl, trivial⟩
        · have h_14 := iv.w (c := 0) (e := 2) (tab_s c_13) (by decide)
          refine ok_if (fun c_15 => ?_) (fun c_15 => ?_)
          · have h_16 := iv.w (c := 0) (e := 0) (eq_l c_15 (by decide : iv (0 : Int32) 0 0)) (by decide)
            refine ok_cb (sX4_keyAt__4 hS k_4 h_11 hB h_12) (fun u13 d11 r_17 => ?_)
            obtain ⟨rfl, h_19, x_19⟩ := r_17
            exact ok_some ⟨rfl, trivial⟩
          · have h_20 := iv.w (c := 1) (e := 2) (ne_lo c_15 h_14 (by decide : iv (0 : Int32) 0 0)) (by decide)
            refine ok_if (fun c_21 => ?_) (fun c_21 => ?_)
            · have h_22 := iv.w (c := 1) (e := 1) (eq_l c_21 (by decide : iv (1 : Int32) 1 1)) (by decide)
              refine ok_cb (sX4_isDownAt__4 hS k_4 h_11 hB) ?_
              rintro _ _ ⟨rfl, rfl | ⟨rfl, c_23, c_24⟩⟩
              · refine ok_if (fun c_25 => ?_) (fun c_25 => ?_)
                · exact sX11_event_J79__10 hS hx0 h_11 h_22 (iv.w (by decide : iv (0 : Int32) 0 0) (by decide)) hB
                · exact (ne_no c_25 (by decide : iv (0 : Int32) 0 0) (by decide : iv (0 : Int32) 0 0))
              · refine ok_if (fun c_26 => ?_) (fun c_26 => ?_)
                · exact (eq_no c_26 (by decide : iv (1 : Int32) 1 1) (by decide : iv (0 : Int32) 0 0) (by decide))
                · exact sX11_event_J79__10 hS hx0 h_11 h_22 (iv.w (by decide : iv (1 : Int32) 1 1) (by decide)) hB
            · have h_27 := iv.w (c := 2) (e := 2) (ne_lo c_21 h_20 (by decide : iv (1 : Int32) 1 1)) (by decide)
              refine ok_if (fun c_28 => ?_) (fun c_28 => ?_)
              · refine ok_cb (sX4_tickAt__4 hS k_4 h_11 hB) (fun u22 d20 r_29 => ?_)
                obtain ⟨rfl, h_31⟩ := r_29
                exact ok_some ⟨rfl, trivial⟩
              · exact (ne_no c_28 h_27 (by decide : iv (2 : Int32) 2 2))
      · exact sX11_event_J30__10 hS hx0 hB
theorem sX11_report_J91__10_5__r10 {g : Gs} (hS : Shp g) {b : Nat → Int} {x0 : Nat} (hx0 : cls x0 = 10) {x1 : Int32} (hx1 : iv x1 0 39) {x2 : Int32} {z0 : Int32} (hz0 : iv z0 (-1) 2147483647) {z1 : Int32} (hz1 : iv z1 0 39) {z2 : Nat} (hz2 : cls z2 = 5) {d : Ds} (hB : Bnd b d) (hr_z2_4 : iv (dI d z2 4) 1 2147483647) : ok (fX11_report_J91 10000 g x0 x1 x2 z0 z1 z2 d) (fun u d' => d' = d ∧ True) := by
  unfold fX11_report_J91
  refine ok_gd (kd_5 hS hz2) ?_
  refine ok_cb (sX5_codeAt__5 hS hz2 hz1 hz0 hB) (fun u15 d13 r_1 => ?_)
  obtain ⟨rfl, h_3⟩ := r_1
  exact ok_some ⟨rfl, trivial⟩
theorem sX11_report__10 {g : Gs} (hS : Shp g) {b : Nat → Int} {x0 : Nat} (hx0 : cls x0 = 10) {x1 : Int32} {x2 : Int32} {d : Ds} (hB : Bnd b d) : ok (fX11_report 10000 g x0 x1 x2 d) (fun u d' => d' = d ∧ True) := by
  unfold fX11_report
  refine ok_gd (kd_10 hS hx0) ?_
  obtain ⟨r2, e_1, k_2, k_2o⟩ := sh_10_6 hS hx0
  refine ok_ob e_1 ?_
  refine ok_gd (kd_1 hS k_2) ?_
  obtain ⟨r4, e_3, k_4, k_4o⟩ := sh_1_4 hS k_2
  refine ok_ob e_3 ?_
  refine ok_gd (kd_5 hS k_4) ?_
  refine ok_cb (sX5_rowOf__5 hS k_4 hB) ?_
  rintro _ _ ⟨rfl, rfl | ⟨rfl, c_5, c_6, c_7⟩⟩
  · refine ok_if (fun c_8 => ?_) (fun c_8 => ?_)
    · exact ok_some ⟨rfl, trivial⟩
    · exact (ne_no c_8 (by decide : iv ((-1) : Int32) (-1) (-1)) (by decide : iv ((-1) : Int32) (-1) (-1)))
  · have h_9 := iv.w (c := 0) (e := 2147483647) (le_r (nlt c_5) (by decide : iv (0 : Int32) 0 0) (ivT _)) (by decide)
    have h_10 := iv.w (c := 0) (e := 39) (lt_l (nle c_6) h_9 (by decide : iv (40 : Int32) 40 40)) (by decide)
    have h_11 := iv.w (c := 1) (e := 2147483647) (lt_r c_7 h_10 (iv_lo (rd_5_4 hB k_4))) (by decide)
    refine ok_if (fun c_12 => ?_) (fun c_12 => ?_)
    · exact (eq_no c_12 (iv.w (c := 0) (e := 39) (iv_rem (iv_s1 (h := 2147483646) c_7 h_11 h_10 (by decide)) (by decide : iv (40 : Int32) 40 40) (by decide)) (by decide)) (by decide : iv ((-1) : Int32) (-1) (-1)) (by decide))
    · refine ok_if (fun c_13 => ?_) (fun c_13 => ?_)
      · refine ok_if (fun c_14 => ?_) (fun c_14 => ?_)
        · have h_15 := iv.w (c := 3) (e := 2147483647) (le_r c_14 (by decide : iv (3 : Int32) 3 3) (ivT _)) (by decide)
          exact sX11_report_J91__10_5__r10 hS hx0 h_10 (iv.w (iv_sub (l := 0) (h := 2147483644) h_15 (by decide : iv (3 : Int32) 3 3) (by decide)) (by decide)) (iv.w (c := 0) (e := 39) (iv_rem (iv_s1 (h := 2147483646) c_7 h_11 h_10 (by decide)) (by decide : iv (40 : Int32) 40 40) (by decide)) (by decide)) k_4 hB h_11
        · have h_16 := iv.w (c := (-2147483648)) (e := 2) (lt_l (nle c_14) (ivT _) (by decide : iv (3 : Int32) 3 3)) (by decide)
          exact sX11_report_J91__10_5__r10 hS hx0 h_10 (iv.w (by decide : iv ((-1) : Int32) (-1) (-1)) (by decide)) (iv.w (c := 0) (e := 39) (iv_rem (iv_s1 (h := 2147483646) c_7 h_11 h_10 (by decide)) (by decide : iv (40 : Int32) 40 40) (by decide)) (by decide)) k_4 hB h_11
      · have h_17 := iv.w (c := 0) (e := 2) (tab_s c_13) (by decide)
        refine ok_if (fun c_18 => ?_) (fun c_18 => ?_)
        · have h_19 := iv.w (c := 0) (e := 0) (eq_l c_18 (by decide : iv (0 : Int32) 0 0)) (by decide)
          obtain ⟨r17, e_20, k_21, k_21o⟩ := sh_5_0 hS k_4
          refine ok_ob e_20 ?_
          refine ok_gd (kd_43 hS k_21) ?_
          refine ok_gd (ixg (iv.w (c := 0) (e := 39) (iv_rem (iv_s1 (h := 2147483646) c_7 h_11 h_10 (by decide)) (by decide : iv (40 : Int32) 40 40) (by decide)) (by decide)) (ln_43 hS k_21) (by decide)) ?_
          exact ok_some ⟨rfl, trivial⟩
        · have h_22 := iv.w (c := 1) (e := 2) (ne_lo c_18 h_17 (by decide : iv (0 : Int32) 0 0)) (by decide)
          refine ok_if (fun c_23 => ?_) (fun c_23 => ?_)
          · have h_24 := iv.w (c := 1) (e := 1) (eq_l c_23 (by decide : iv (1 : Int32) 1 1)) (by decide)
            obtain ⟨r21, e_25, k_26, k_26o⟩ := sh_5_1 hS k_4
            refine ok_ob e_25 ?_
            refine ok_gd (kd_44 hS k_26) ?_
            refine ok_gd (ixg (iv.w (c := 0) (e := 39) (iv_rem (iv_s1 (h := 2147483646) c_7 h_11 h_10 (by decide)) (by decide : iv (40 : Int32) 40 40) (by decide)) (by decide)) (ln_44 hS k_26) (by decide)) ?_
            exact ok_some ⟨rfl, trivial⟩
          · have h_27 := iv.w (c := 2) (e := 2) (ne_lo c_23 h_22 (by decide : iv (1 : Int32) 1 1)) (by decide)
            refine ok_if (fun c_28 => ?_) (fun c_28 => ?_)
            · obtain ⟨r25, e_29, k_30, k_30o⟩ := sh_5_2 hS k_4
              refine ok_ob e_29 ?_
              refine ok_gd (kd_45 hS k_30) ?_
              refine ok_gd (ixg (iv.w (c := 0) (e := 39) (iv_rem (iv_s1 (h := 2147483646) c_7 h_11 h_10 (by decide)) (by decide : iv (40 : Int32) 40 40) (by decide)) (by decide)) (ln_45 hS k_30) (by decide)) ?_
              exact ok_some ⟨rfl, trivial⟩
            · exact (ne_no c_28 h_27 (by decide : iv (2 : Int32) 2 2))
def m_sX11_sent__10 : Nat := 0x1000000000000000000000000000000000000000000000000000000000000000000000000000000000000000000000000000000000000000000000000000000000000000000000000000000000000000000000000000000000000000000000000000000000000000000000000000000000000000000000000000000000000000000000000000000000000000000000000000000000000000000000000000000000000000000000000000000000000000000000000000000000000000000000000000000000000000000000000000000000000000000000000000000000000000000000000000000000000000000000000000000000000000000000000000000000000000000000000000000000000000000000000000000000000000000000000000000000000000000000000000000000000000000000140000000000000000000000000000000000000000000000000
theorem sX11_sent_J77__10 {g : Gs} (hS : Shp g) {b : Nat → Int} {d0 : Ds} {x0 : Nat} (hx0 : cls x0 = 10) {x1 : Int32} {z0 : Int32} {d : Ds} (hI : Inv m_sX11_sent__10 b d0 d) : ok (fX11_sent_J77 10000 g x0 x1 z0 d) (fun u d' => Inv m_sX11_sent__10 b d0 d' ∧ True) := by
  unfold fX11_sent_J77
  exact ok_some ⟨hI, trivial⟩
theorem sX11_sent_J65__10 {g : Gs} (hS : Shp g) {b : Nat → Int} {d0 : Ds} {x0 : Nat} (hx0 : cls x0 = 10) {x1 : Int32} {d : Ds} (hI : Inv m_sX11_sent__10 b d0 d) : ok (fX11_sent_J65 10000 g x0 x1 d) (fun u d' => Inv m_sX11_sent__10 b d0 d' ∧ True) := by
  unfold fX11_sent_J65
  exact sX11_sent_J77__10 hS hx0 hI
theorem sX11_sent__10 {g : Gs} (hS : Shp g) {b : Nat → Int} {x0 : Nat} (hx0 : cls x0 = 10) {x1 : Int32} {d : Ds} (hB : Bnd b d) : ok (fX11_sent 10000 g x0 x1 d) (fun u d' => Inv m_sX11_sent__10 b d d' ∧ True) := by
  have hI : Inv m_sX11_sent__10 b d d := Inv.rf hB
  unfold fX11_sent
  refine ok_gd (kd_10 hS hx0) ?_
  obtain ⟨r2, e_1, k_2, k_2o⟩ := sh_10_6 hS hx0
  refine ok_ob e_1 ?_
  refine ok_gd (kd_1 hS k_2) ?_
  obtain ⟨r4, e_3, k_4, k_4o⟩ := sh_1_3 hS k_2
  refine ok_ob e_3 ?_
  refine ok_gd (kd_3 hS k_4) ?_
  refine ok_cv (sX3_gather__3 hS k_4 hI.1) (fun d6 r_5 => ?_)
  obtain ⟨h_6, h_7⟩ := r_5
  have h_8 := Inv.call hI h_6 (by decide +kernel)
  refine ok_if (fun c_9 => ?_) (fun c_9 => ?_)
  · have h_10 := iv.w (c := 0) (e := 0) (eq_l c_9 (by decide : iv (0 : Int32) 0 0)) (by decide)
    exact ok_some ⟨h_8, trivial⟩
  · refine ok_if (fun c_11 => ?_) (fun c_11 => ?_)
    · have h_12 := iv.w (c := 1) (e := 1) (eq_l c_11 (by decide : iv (1 : Int32) 1 1)) (by decide)
      exact ok_some ⟨h_8, trivial⟩
    · refine ok_if (fun c_13 => ?_) (fun c_13 => ?_)
      · have h_14 := iv.w (c := (-2147483648)) (e := 1) (lt_l c_13 (ivT _) (by decide : iv (2 : Int32) 2 2)) (by decide)
        exact sX11_sent_J65__10 hS hx0 h_8
      · have h_15 := iv.w (c := 2) (e := 2147483647) (le_r (nlt c_13) (by decide : iv (2 : Int32) 2 2) (ivT _)) (by decide)
        refine ok_if (fun c_16 => ?_) (fun c_16 => ?_)
        · have h_17 := iv.w (c := 2) (e := 26) (sub_hi h_15 (by decide : (2 : Int32).toInt = 2) (lt_l c_16 (iv_sub (l := 0) (h := 2147483645) h_15 (by decide : iv (2 : Int32) 2 2) (by decide)) (rd_3_8 h_8.1 k_4)) (by decide)) (by decide)
          have h_18 := iv.w (c := 0) (e := 24) (lt_l c_16 (iv_sub (l := 0) (h := 2147483645) h_15 (by decide : iv (2 : Int32) 2 2) (by decide)) (rd_3_8 h_8.1 k_4)) (by decide)
          have h_19 := iv.w (c := 1) (e := 25) (lt_r c_16 (iv_sub (l := 0) (h := 2147483645) h_15 (by decide : iv (2 : Int32) 2 2) (by decide)) (rd_3_8 h_8.1 k_4)) (by decide)
          obtain ⟨r12, e_20, k_21, k_21o⟩ := sh_3_7 hS k_4
          refine ok_ob e_20 ?_
          refine ok_gd (kd_42 hS k_21) ?_
          refine ok_gd (ixg h_18 (ln_42 hS k_21) (by decide)) ?_
          exact sX11_sent_J77__10 hS hx0 h_8
        · exact sX11_sent_J65__10 hS hx0 h_8
theorem sX11_host__10 {g : Gs} (hS : Shp g) {b : Nat → Int} {x0 : Nat} (hx0 : cls x0 = 10) {x1 : Int32} {d : Ds} (hB : Bnd b d) : ok (fX11_host 10000 g x0 x1 d) (fun u d' => d' = d ∧ True) := by
  unfold fX11_host
  refine ok_gd (kd_10 hS hx0) ?_
  obtain ⟨r2, e_1, k_2, k_2o⟩ := sh_10_6 hS hx0
  refine ok_ob e_1 ?_
  refine ok_gd (kd_1 hS k_2) ?_
  obtain ⟨r4, e_3, k_4, k_4o⟩ := sh_1_4 hS k_2
  refine ok_ob e_3 ?_
  refine ok_if (fun c_5 => ?_) (fun c_5 => ?_)
  · exact ok_some ⟨rfl, trivial⟩
  · have h_6 := iv.w (c := 0) (e := 3) (tab_s c_5) (by decide)
    refine ok_if (fun c_7 => ?_) (fun c_7 => ?_)
    · have h_8 := iv.w (c := 0) (e := 0) (eq_l c_7 (by decide : iv (0 : Int32) 0 0)) (by decide)
      refine ok_gd (kd_5 hS k_4) ?_
      exact ok_some ⟨rfl, trivial⟩
    · have h_9 := iv.w (c := 1) (e := 3) (ne_lo c_7 h_6 (by decide : iv (0 : Int32) 0 0)) (by decide)
      refine ok_if (fun c_10 => ?_) (fun c_10 => ?_)
      · have h_11 := iv.w (c := 1) (e := 1) (eq_l c_10 (by decide : iv (1 : Int32) 1 1)) (by decide)
        refine ok_gd (kd_5 hS k_4) ?_
        exact ok_some ⟨rfl, trivial⟩
      · have h_12 := iv.w (c := 2) (e := 3) (ne_lo c_10 h_9 (by decide : iv (1 : Int32) 1 1)) (by decide)
        refine ok_if (fun c_13 => ?_) (fun c_13 => ?_)
        · have h_14 := iv.w (c := 2) (e := 2) (eq_l c_13 (by decide : iv (2 : Int32) 2 2)) (by decide)
          refine ok_gd (kd_5 hS k_4) ?_
          exact ok_some ⟨rfl, trivial⟩
        · have h_15 := iv.w (c := 3) (e := 3) (ne_lo c_13 h_12 (by decide : iv (2 : Int32) 2 2)) (by decide)
          refine ok_if (fun c_16 => ?_) (fun c_16 => ?_)
          · refine ok_gd (kd_5 hS k_4) ?_
            exact ok_some ⟨rfl, trivial⟩
          · exact (ne_no c_16 h_15 (by decide : iv (3 : Int32) 3 3))
theorem sX11_strokes__10 {g : Gs} (hS : Shp g) {b : Nat → Int} {x0 : Nat} (hx0 : cls x0 = 10) {x1 : Int32} {x2 : Int32} {d : Ds} (hB : Bnd b d) : ok (fX11_strokes 10000 g x0 x1 x2 d) (fun u d' => d' = d ∧ True) := by
  unfold fX11_strokes
  refine ok_gd (kd_10 hS hx0) ?_
  obtain ⟨r2, e_1, k_2⟩ := sh_10_4 hS hx0
  refine ok_ob e_1 ?_
  refine ok_gd (kd_13 hS k_2) ?_
  refine ok_cb (sX0_hasKey__13 hS k_2 hB) ?_
  rintro _ _ ⟨rfl, rfl | ⟨rfl, c_3, c_4⟩⟩
  · refine ok_if (fun c_5 => ?_) (fun c_5 => ?_)
    · exact ok_some ⟨rfl, trivial⟩
    · exact (ne_no c_5 (by decide : iv (0 : Int32) 0 0) (by decide : iv (0 : Int32) 0 0))
  · have h_6 := iv.w (c := 0) (e := 2147483647) (le_r (nlt c_3) (by decide : iv (0 : Int32) 0 0) (ivT _)) (by decide)
    have h_7 := iv.w (c := 0) (e := 23) (lt_l (nle c_4) h_6 (iv_mul (l := 0) (h := 24) (rd_13_0 hB k_2) (rd_13_1 hB k_2) (by decide))) (by decide)
    have h_8 := iv.w (c := 1) (e := 24) (lt_r (nle c_4) h_6 (iv_mul (l := 0) (h := 24) (rd_13_0 hB k_2) (rd_13_1 hB k_2) (by decide))) (by decide)
    refine ok_if (fun c_9 => ?_) (fun c_9 => ?_)
    · exact (eq_no c_9 (by decide : iv (1 : Int32) 1 1) (by decide : iv (0 : Int32) 0 0) (by decide))
    · obtain ⟨r8, e_10, k_11, k_11o⟩ := sh_10_6 hS hx0
      refine ok_ob e_10 ?_
      refine ok_gd (kd_1 hS k_11) ?_
      obtain ⟨r10, e_12, k_13, k_13o⟩ := sh_1_1 hS k_11
      refine ok_ob e_12 ?_
      refine ok_if (fun c_14 => ?_) (fun c_14 => ?_)
      · exact ok_some ⟨rfl, trivial⟩
      · have h_15 := iv.w (c := 0) (e := 2) (tab_s c_14) (by decide)
        refine ok_if (fun c_16 => ?_) (fun c_16 => ?_)
        · have h_17 := iv.w (c := 0) (e := 0) (eq_l c_16 (by decide : iv (0 : Int32) 0 0)) (by decide)
          refine ok_gd (kd_6 hS k_13) ?_
          obtain ⟨r14, e_18, k_19, k_19o⟩ := sh_6_6 hS k_13
          refine ok_ob e_18 ?_
          refine ok_gd (kd_34 hS k_19) ?_
          refine ok_gd (ixg h_7 (ln_34 hS k_19) (by decide)) ?_
          exact ok_some ⟨rfl, trivial⟩
        · have h_20 := iv.w (c := 1) (e := 2) (ne_lo c_16 h_15 (by decide : iv (0 : Int32) 0 0)) (by decide)
          refine ok_if (fun c_21 => ?_) (fun c_21 => ?_)
          · have h_22 := iv.w (c := 1) (e := 1) (eq_l c_21 (by decide : iv (1 : Int32) 1 1)) (by decide)
            refine ok_gd (kd_6 hS k_13) ?_
            obtain ⟨r19, e_23, k_24, k_24o⟩ := sh_6_7 hS k_13
            refine ok_ob e_23 ?_
            refine ok_gd (kd_35 hS k_24) ?_
            refine ok_gd (ixg h_7 (ln_35 hS k_24) (by decide)) ?_
            exact ok_some ⟨rfl, trivial⟩
          · have h_25 := iv.w (c := 2) (e := 2) (ne_lo c_21 h_20 (by decide : iv (1 : Int32) 1 1)) (by decide)
            refine ok_if (fun c_26 => ?_) (fun c_26 => ?_)
            · refine ok_gd (kd_6 hS k_13) ?_
              obtain ⟨r24, e_27, k_28, k_28o⟩ := sh_6_8 hS k_13
              refine ok_ob e_27 ?_
              refine ok_gd (kd_36 hS k_28) ?_
              refine ok_gd (ixg h_7 (ln_36 hS k_28) (by decide)) ?_
              exact ok_some ⟨rfl, trivial⟩
            · exact (ne_no c_26 h_25 (by decide : iv (2 : Int32) 2 2))
theorem sX11_chord_J105__10 {g : Gs} (hS : Shp g) {b : Nat → Int} {x0 : Nat} (hx0 : cls x0 = 10) {x1 : Int32} (hx1 : iv x1 0 3) {x2 : Int32} (hx2 : iv x2 2 2) {z0 : Int32} (hz0 : iv z0 0 1) {d : Ds} (hB : Bnd b d) : ok (fX11_chord_J105 10000 g x0 x1 x2 z0 d) (fun u d' => d' = d ∧ True) := by
  unfold fX11_chord_J105
  exact ok_some ⟨rfl, trivial⟩
theorem sX11_chord_J28__10 {g : Gs} (hS : Shp g) {b : Nat → Int} {x0 : Nat} (hx0 : cls x0 = 10) {x1 : Int32} {x2 : Int32} {d : Ds} (hB : Bnd b d) : ok (fX11_chord_J28 10000 g x0 x1 x2 d) (fun u d' => d' = d ∧ True) := by
  unfold fX11_chord_J28
  exact ok_some ⟨rfl, trivial⟩
theorem sX11_chord__10 {g : Gs} (hS : Shp g) {b : Nat → Int} {x0 : Nat} (hx0 : cls x0 = 10) {x1 : Int32} {x2 : Int32} {d : Ds} (h400 : b 400 ≤ 0) (hB : Bnd b d) : ok (fX11_chord 10000 g x0 x1 x2 d) (fun u d' => d' = d ∧ True) := by
  unfold fX11_chord
  refine ok_if (fun c_1 => ?_) (fun c_1 => ?_)
  · have h_2 := iv.w (c := (-1)) (e := (-1)) (eq_l c_1 (by decide : iv ((-1) : Int32) (-1) (-1))) (by decide)
    refine ok_gd (kd_10 hS hx0) ?_
    obtain ⟨r29, e_3, k_4⟩ := sh_10_4 hS hx0
    refine ok_ob e_3 ?_
    refine ok_gd (kd_13 hS k_4) ?_
    exact ok_some ⟨rfl, trivial⟩
  · refine ok_if (fun c_5 => ?_) (fun c_5 => ?_)
    · have h_6 := iv.w (c := (-2147483648)) (e := (-1)) (lt_l c_5 (ivT _) (by decide : iv (0 : Int32) 0 0)) (by decide)
      exact sX11_chord_J28__10 hS hx0 hB
    · have h_7 := iv.w (c := 0) (e := 2147483647) (le_r (nlt c_5) (by decide : iv (0 : Int32) 0 0) (ivT _)) (by decide)
      refine ok_gd (kd_10 hS hx0) ?_
      obtain ⟨r4, e_8, k_9⟩ := sh_10_4 hS hx0
      refine ok_ob e_8 ?_
      refine ok_gd (kd_13 hS k_9) ?_
      refine ok_if (fun c_10 => ?_) (fun c_10 => ?_)
      · have h_11 := iv.w (c := 0) (e := 3) (lt_l c_10 h_7 (rd_13_12 hB k_9)) (by decide)
        have h_12 := iv.w (c := 1) (e := 4) (lt_r c_10 h_7 (rd_13_12 hB k_9)) (by decide)
        refine ok_if (fun c_13 => ?_) (fun c_13 => ?_)
        · exact ok_some ⟨rfl, trivial⟩
        · have h_14 := iv.w (c := 0) (e := 2) (tab_s c_13) (by decide)
          refine ok_if (fun c_15 => ?_) (fun c_15 => ?_)
          · have h_16 := iv.w (c := 0) (e := 0) (eq_l c_15 (by decide : iv (0 : Int32) 0 0)) (by decide)
            obtain ⟨r9, e_17, k_18⟩ := sh_13_13 hS k_9
            refine ok_ob e_17 ?_
            refine ok_gd (kd_26 hS k_18) ?_
            refine ok_gd (ixg h_11 (ln_26 hS k_18) (by decide)) ?_
            exact ok_some ⟨rfl, trivial⟩
          · have h_19 := iv.w (c := 1) (e := 2) (ne_lo c_15 h_14 (by decide : iv (0 : Int32) 0 0)) (by decide)
            refine ok_if (fun c_20 => ?_) (fun c_20 => ?_)
            · have h_21 := iv.w (c := 1) (e := 1) (eq_l c_20 (by decide : iv (1 : Int32) 1 1)) (by decide)
              obtain ⟨r13, e_22, k_23⟩ := sh_13_14 hS k_9
              refine ok_ob e_22 ?_
              refine ok_gd (kd_27 hS k_23) ?_
              refine ok_gd (ixg h_11 (ln_27 hS k_23) (by decide)) ?_
              exact ok_some ⟨rfl, trivial⟩
            · have h_24 := iv.w (c := 2) (e := 2) (ne_lo c_20 h_19 (by decide : iv (1 : Int32) 1 1)) (by decide)
              refine ok_if (fun c_25 => ?_) (fun c_25 => ?_)
              · obtain ⟨r17, e_26, k_27, k_27o⟩ := sh_10_6 hS hx0
                refine ok_ob e_26 ?_
                refine ok_gd (kd_1 hS k_27) ?_
                obtain ⟨r19, e_28, k_29, k_29o⟩ := sh_1_3 hS k_27
                refine ok_ob e_28 ?_
                refine ok_gd (kd_3 hS k_29) ?_
                obtain ⟨r21, e_30, k_31, k_31o⟩ := sh_3_2 hS k_29
                refine ok_ob e_30 ?_
                obtain ⟨r22, e_32, k_33⟩ := sh_13_13 hS k_9
                refine ok_ob e_32 ?_
                refine ok_gd (kd_26 hS k_33) ?_
                refine ok_gd (ixg h_11 (ln_26 hS k_33) (by decide)) ?_
                refine ok_gd (kd_40 hS k_31) ?_
                refine ok_gd (ixg (by have q1 := mn_uniq k_9; have q2 := cm_uniq k_33; subst q1; subst q2; exact hB.2.2.2.2 h400 _ (by rw [z_nat h_11.1]; exact Int32.lt_iff_toInt_lt.mp c_10) : iv _ 0 23) (ln_40 hS k_31) (by decide)) ?_
                refine ok_if (fun c_34 => ?_) (fun c_34 => ?_)
                · have h_35 := iv.w (c := (-1)) (e := (-1)) (eq_l c_34 (by decide : iv ((-1) : Int32) (-1) (-1))) (by decide)
                  exact sX11_chord_J105__10 hS hx0 h_11 h_24 (iv.w (by decide : iv (0 : Int32) 0 0) (by decide)) hB
                · exact sX11_chord_J105__10 hS hx0 h_11 h_24 (iv.w (by decide : iv (1 : Int32) 1 1) (by decide)) hB
              · exact (ne_no c_25 h_24 (by decide : iv (2 : Int32) 2 2))
      · exact sX11_chord_J28__10 hS hx0 hB
theorem sX11_macro_J15__10 {g : Gs} (hS : Shp g) {b : Nat → Int} {x0 : Nat} (hx0 : cls x0 = 10) {x1 : Int32} {x2 : Int32} {d : Ds} (hB : Bnd b d) : ok (fX11_macro_J15 10000 g x0 x1 x2 d) (fun u d' => d' = d ∧ True) := by
  unfold fX11_macro_J15
  exact ok_some ⟨rfl, trivial⟩
theorem sX11_macro_J43__10 {g : Gs} (hS : Shp g) {b : Nat → Int} {x0 : Nat} (hx0 : cls x0 = 10) {x1 : Int32} (hx1 : iv x1 0 3) {x2 : Int32} {z0 : Int32} {d : Ds} (hB : Bnd b d) : ok (fX11_macro_J43 10000 g x0 x1 x2 z0 d) (fun u d' => d' = d ∧ True) := by
  unfold fX11_macro_J43
  exact ok_some ⟨rfl, trivial⟩
theorem sX11_macro__10 {g : Gs} (hS : Shp g) {b : Nat → Int} {x0 : Nat} (hx0 : cls x0 = 10) {x1 : Int32} {x2 : Int32} {d : Ds} (hB : Bnd b d) : ok (fX11_macro 10000 g x0 x1 x2 d) (fun u d' => d' = d ∧ True) := by
  unfold fX11_macro
  refine ok_if (fun c_1 => ?_) (fun c_1 => ?_)
  · have h_2 := iv.w (c := (-2147483648)) (e := (-1)) (lt_l c_1 (ivT _) (by decide : iv (0 : Int32) 0 0)) (by decide)
    exact sX11_macro_J15__10 hS hx0 hB
  · have h_3 := iv.w (c := 0) (e := 2147483647) (le_r (nlt c_1) (by decide : iv (0 : Int32) 0 0) (ivT _)) (by decide)
    refine ok_gd (kd_10 hS hx0) ?_
    obtain ⟨r3, e_4, k_5⟩ := sh_10_4 hS hx0
    refine ok_ob e_4 ?_
    refine ok_gd (kd_13 hS k_5) ?_
    refine ok_if (fun c_6 => ?_) (fun c_6 => ?_)
    · have h_7 := iv.w (c := 0) (e := 3) (lt_l c_6 h_3 (rd_13_16 hB k_5)) (by decide)
      have h_8 := iv.w (c := 1) (e := 4) (lt_r c_6 h_3 (rd_13_16 hB k_5)) (by decide)
      refine ok_if (fun c_9 => ?_) (fun c_9 => ?_)
      · have h_10 := iv.w (c := (-1)) (e := (-1)) (eq_l c_9 (by decide : iv ((-1) : Int32) (-1) (-1))) (by decide)
        obtain ⟨r10, e_11, k_12⟩ := sh_13_17 hS k_5
        refine ok_ob e_11 ?_
        refine ok_gd (kd_29 hS k_12) ?_
        refine ok_gd (ixg h_7 (ln_29 hS k_12) (by decide)) ?_
        exact sX11_macro_J43__10 hS hx0 h_7 hB
      · refine ok_cb (sX0_macroCode__13 hS k_5 hB) (fun u9 d7 r_13 => ?_)
        obtain ⟨rfl, h_15⟩ := r_13
        exact sX11_macro_J43__10 hS hx0 h_7 hB
    · exact sX11_macro_J15__10 hS hx0 hB
def m_sX11_ghosts__10 : Nat := 0x1000000000000000000000000000000000000000000000000000000000000000000000000000000000000000000000000000000000000000000000000000000000000000000000000000000000000000000000000000000000000000000000000000000000000000000000000000000000000000000000000000000000000000000000000000000000000000000000000000000000000000000000000000000000000000000000000000000000000000e000000000000000000000000000000000000000000000000000000000000000000000000000000000000000000000000000000000000000000000000000000000000000000000000
theorem sX11_ghosts__10 {g : Gs} (hS : Shp g) {b : Nat → Int} {x0 : Nat} (hx0 : cls x0 = 10) {x1 : Int32} {x2 : Int32} {d : Ds} (hB : Bnd b d) : ok (fX11_ghosts 10000 g x0 x1 x2 d) (fun u d' => Inv m_sX11_ghosts__10 b d d' ∧ True) := by
  have hI : Inv m_sX11_ghosts__10 b d d := Inv.rf hB
  unfold fX11_ghosts
  refine ok_gd (kd_10 hS hx0) ?_
  obtain ⟨r2, e_1, k_2⟩ := sh_10_4 hS hx0
  refine ok_ob e_1 ?_
  refine ok_gd (kd_13 hS k_2) ?_
  refine ok_cb (sX0_keys__13 hS k_2 hI.1) ?_
  rintro _ _ ⟨rfl, rfl⟩
  refine ok_if (fun c_3 => ?_) (fun c_3 => ?_)
  · have h_4 := iv.w (c := 0) (e := 0) (eq_l c_3 (by decide : iv (0 : Int32) 0 0)) (by decide)
    obtain ⟨r8, e_5, k_6⟩ := sh_10_5 hS hx0
    refine ok_ob e_5 ?_
    refine ok_gd (kd_9 hS k_6) ?_
    refine ok_cv (sX9_follow__9_13 hS k_6 k_2 hI.1) (fun d10 r_7 => ?_)
    obtain ⟨h_8, h_9⟩ := r_7
    have h_10 := Inv.call hI h_8 (by decide +kernel)
    refine ok_if (fun c_11 => ?_) (fun c_11 => ?_)
    · exact ok_some ⟨h_10, trivial⟩
    · have h_12 := iv.w (c := 0) (e := 2) (tab_s c_11) (by decide)
      refine ok_if (fun c_13 => ?_) (fun c_13 => ?_)
      · have h_14 := iv.w (c := 0) (e := 0) (eq_l c_13 (by decide : iv (0 : Int32) 0 0)) (by decide)
        refine ok_cb (sJ6_bitCount_0f7a4 hS h_10.1) ?_
        rintro _ _ ⟨rfl, rfl⟩
        exact ok_some ⟨h_10, trivial⟩
      · have h_15 := iv.w (c := 1) (e := 2) (ne_lo c_13 h_12 (by decide : iv (0 : Int32) 0 0)) (by decide)
        refine ok_if (fun c_16 => ?_) (fun c_16 => ?_)
        · have h_17 := iv.w (c := 1) (e := 1) (eq_l c_16 (by decide : iv (1 : Int32) 1 1)) (by decide)
          refine ok_cb (sJ6_bitCount_0f7a4 hS h_10.1) ?_
          rintro _ _ ⟨rfl, rfl⟩
          exact ok_some ⟨h_10, trivial⟩
        · have h_18 := iv.w (c := 2) (e := 2) (ne_lo c_16 h_15 (by decide : iv (1 : Int32) 1 1)) (by decide)
          refine ok_if (fun c_19 => ?_) (fun c_19 => ?_)
          · exact ok_some ⟨h_10, trivial⟩
          · exact (ne_no c_19 h_18 (by decide : iv (2 : Int32) 2 2))
  · exact ok_some ⟨hI, trivial⟩
def m_sX11_ahead__10 : Nat := 0x1000000000000000100000000000000010000000000000001000000000000000100000000000000010000000000000001000000000000000100000000000000010000000000000001000000000000000100000000000000010000000000000001000000000000000000000000000000010000000000000000000000000000000000000000000000000000000000000000000000000000000000000000000000000000000000000000000000000000000000000000000000000000000000000000000000000000000000000000000000000000000000000000000000000000000000000000000000000000000000000000000000000000000000000000000000000000000000000000000000000000000000000000000000000000000000000000000000000000000000000000000000000000000000000000000000000000000f00000000000001f000000000000000060000000000000170000000000000000000000000000000200000000000000000
theorem sX11_ahead_J30__10 {g : Gs} (hS : Shp g) {b B : Nat → Int} {d0 : Ds} {x0 : Nat} (hlb : LeB b B (247) 0) (hx0 : cls x0 = 10) {x1 : Int32} {x2 : Int32} {d : Ds} (hI : Inv m_sX11_ahead__10 b d0 d) : ok (fX11_ahead_J30 10000 g x0 x1 x2 d) (fun u d' => Inv m_sX11_ahead__10 B d0 d' ∧ True) := by
  unfold fX11_ahead_J30
  exact ok_some ⟨(Inv.mono hlb.1 hI), trivial⟩
theorem sX11_ahead_L45__10 {g : Gs} (hS : Shp g) {b B : Nat → Int} {d0 : Ds} {x0 : Nat} (hlb : LeB b B (247) 4903680) (hx0 : cls x0 = 10) {x1 : Int32} (hx1 : iv x1 1 120) {x2 : Int32} (hx2 : iv x2 0 4) {y3 : Int32} (hy3 : iv y3 0 120) {d : Ds} (hI : Inv m_sX11_ahead__10 b d0 d) : ok (fX11_ahead_L45 10000 g x0 x1 x2 (y3, d)) (fun u d' => Inv m_sX11_ahead__10 B d0 d' ∧ True) := by
  unfold fX11_ahead_L45
  refine ok_lp (fun a => (∃ b1, Inv m_sX11_ahead__10 b1 d0 a.2 ∧ LeB b1 B (247) (40864 * (((120 - a.1.toInt).toNat : Nat) : Int) + 0)) ∧ iv a.1 0 120 ∧ True) (fun a => (120 - a.1.toInt).toNat) ?_ 10000 _ ⟨⟨b, hI, LeB.w hlb (by have h1 := hy3.1; have h2 := hy3.2; dsimp only; omega)⟩, hy3, trivial⟩ (ms_b hy3 (by decide))
  · rintro K45 ⟨y3, d⟩ ⟨⟨b1, hI, hlb⟩, hy3, -⟩ hK45
    (try dsimp only at hI hlb hy3 hK45 ⊢)
    unfold fX11_ahead_B45
    refine ok_if (fun c_1 => ?_) (fun c_1 => ?_)
    · have h_2 := iv.w (c := 1) (e := 120) (le_r c_1 hx1 hy3) (by decide)
      refine ok_gd (kd_10 hS hx0) ?_
      obtain ⟨r19, e_3, k_4, k_4o⟩ := sh_10_7 hS hx0
      refine ok_ob e_3 ?_
      refine ok_gd (kd_1 hS k_4) ?_
      obtain ⟨r21, e_5, k_6, k_6o⟩ := sh_1_3 hS k_4
      refine ok_ob e_5 ?_
      refine ok_gd (kd_3 hS k_6) ?_
      refine ok_cv (sX3_gather__3 hS k_6 hI.1) (fun d23 r_7 => ?_)
      obtain ⟨h_8, h_9⟩ := r_7
      have h_10 := Inv.call hI h_8 (by decide +kernel)
      refine ok_if (fun c_11 => ?_) (fun c_11 => ?_)
      · obtain ⟨r26, e_12, k_13, k_13o⟩ := sh_1_2 hS k_4
        refine ok_ob e_12 ?_
        refine ok_gd (kd_4 hS k_13) ?_
        exact ok_some ⟨(Inv.mono hlb.1 h_10), trivial⟩
      · have h_14 := iv.w (c := 0) (e := 3) (tab_s c_11) (by decide)
        refine ok_if (fun c_15 => ?_) (fun c_15 => ?_)
        · have h_16 := iv.w (c := 0) (e := 0) (eq_l c_15 (by decide : iv (0 : Int32) 0 0)) (by decide)
          obtain ⟨r29, e_17, k_18, k_18o⟩ := sh_1_4 hS k_4
          refine ok_ob e_17 ?_
          refine ok_gd (kd_5 hS k_18) ?_
          obtain ⟨r31, e_19, k_20, k_20o⟩ := sh_10_6 hS hx0
          refine ok_ob e_19 ?_
          refine ok_gd (kd_1 hS k_20) ?_
          obtain ⟨r33, e_21, k_22, k_22o⟩ := sh_1_4 hS k_20
          refine ok_ob e_21 ?_
          refine ok_gd (kd_5 hS k_22) ?_
          exact ok_some ⟨(Inv.mono hlb.1 h_10), trivial⟩
        · have h_23 := iv.w (c := 1) (e := 3) (ne_lo c_15 h_14 (by decide : iv (0 : Int32) 0 0)) (by decide)
          refine ok_if (fun c_24 => ?_) (fun c_24 => ?_)
          · have h_25 := iv.w (c := 1) (e := 1) (eq_l c_24 (by decide : iv (1 : Int32) 1 1)) (by decide)
            exact ok_some ⟨(Inv.mono hlb.1 h_10), trivial⟩
          · have h_26 := iv.w (c := 2) (e := 3) (ne_lo c_24 h_23 (by decide : iv (1 : Int32) 1 1)) (by decide)
            refine ok_if (fun c_27 => ?_) (fun c_27 => ?_)
            · have h_28 := iv.w (c := 2) (e := 2) (eq_l c_27 (by decide : iv (2 : Int32) 2 2)) (by decide)
              exact ok_some ⟨(Inv.mono hlb.1 h_10), trivial⟩
            · have h_29 := iv.w (c := 3) (e := 3) (ne_lo c_27 h_26 (by decide : iv (2 : Int32) 2 2)) (by decide)
              refine ok_if (fun c_30 => ?_) (fun c_30 => ?_)
              · refine ok_cb (sX1_activeLayers__1 hS k_4 h_10.1) (fun u40 d38 r_31 => ?_)
                obtain ⟨rfl, h_33⟩ := r_31
                exact ok_some ⟨(Inv.mono hlb.1 h_10), trivial⟩
              · exact (ne_no c_30 h_29 (by decide : iv (3 : Int32) 3 3))
    · have h_34 := iv.w (c := 0) (e := 119) (lt_l (nle c_1) hy3 hx1) (by decide)
      refine ok_gd (kd_10 hS hx0) ?_
      obtain ⟨r42, e_35, k_36, k_36o⟩ := sh_10_7 hS hx0
      refine ok_ob e_35 ?_
      refine ok_gd (kd_1 hS k_36) ?_
      refine ok_cv (sX1_passTick__1 hS (by rw [k_36o]; exact (LeB.use (k' := 40864) hlb (by have h1 := h_34.1; have h2 := h_34.2; omega))) k_36 hI.1) (fun d44 r_37 => ?_)
      obtain ⟨h_38, h_39⟩ := r_37
      have h_40 := Inv.call hI h_38 (by decide +kernel)
      have lb_41 := LeB.rest (k' := 40864) hlb (by have h1 := h_34.1; have h2 := h_34.2; omega)
      refine ok_bd (fun u46 e_42 => ?_)
      have h_43 := iv_e e_42 (iv_add (l := 1) (h := 120) h_34 (by decide : iv (1 : Int32) 1 1) (by decide))
      exact hK45 _ ⟨⟨_, h_40, LeB.w lb_41 (by have h3 := (ms_up (H := 120) e_42 h_34 (by decide : iv (1 : Int32) 1 1) (by decide)); have h4 : 0 ≤ (0 : Int) := Int.le_refl _; dsimp only at h3 ⊢; omega)⟩, (iv.w h_43 (by decide)), trivial⟩ (ms_up (H := 120) e_42 h_34 (by decide : iv (1 : Int32) 1 1) (by decide))
def m_sX3_copyFrom__3_3 : Nat := 0x100000000000000010000000000000001000000000000000100000000000000000000000000000000000000000000000000000000000000000000000000000000000000000000000000000000000000000000000000000000000000000000000000000000000000000000000000000000000000000000000000000000000000000000000000000000000000000000000000000000000000000000000000000000000000000000000000000000000000000000000000000000000000000000000000000000000000000000000000000000000000000000000000000000000000000000000000000000000000000000000000000000000000000000000000000000000000000000000000000000000000000000000000000000000000000000000000000000000000000000000000000030000000000000000000000000000000000000000000000000
theorem sX3_copyFrom__3_3 {g : Gs} (hS : Shp g) {b : Nat → Int} {x0 : Nat} (hx0 : cls x0 = 3) {x1 : Nat} (hx1 : cls x1 = 3) {d : Ds} (hB : Bnd b d) : ok (fX3_copyFrom 10000 g x0 x1 d) (fun u d' => Inv m_sX3_copyFrom__3_3 b d d' ∧ True) := by
  have hI : Inv m_sX3_copyFrom__3_3 b d d := Inv.rf hB
  unfold fX3_copyFrom
  refine ok_gd (kd_3 hS hx1) ?_
  obtain ⟨r2, e_1, k_2, k_2o⟩ := sh_3_0 hS hx1
  refine ok_ob e_1 ?_
  refine ok_gd (kd_3 hS hx0) ?_
  obtain ⟨r4, e_3, k_4, k_4o⟩ := sh_3_0 hS hx0
  refine ok_ob e_3 ?_
  refine ok_gd (kd_38 hS k_2) ?_
  refine ok_gd (kd_38 hS k_4) ?_
  refine ok_gd (iv_nn (by decide : iv (0 : Int32) 0 0) (by decide)) ?_
  refine ok_gd (iv_nn (by decide : iv (24 : Int32) 24 24) (by decide)) ?_
  have g_5 := iv_cp (by decide : iv (0 : Int32) 0 0) (by decide : iv (24 : Int32) 24 24) (ln_38 hS k_2) (by decide)
  refine ok_gd g_5 ?_
  have g_6 := iv_cp (by decide : iv (0 : Int32) 0 0) (by decide : iv (24 : Int32) 24 24) (ln_38 hS k_4) (by decide)
  refine ok_gd g_6 ?_
  refine ok_bd (fun d11 e_7 => ?_)
  have h_8 := Inv.cpI e_7 hI (fun i hi => by rw [k_4]; trivial) (fun j => mA k_4 (by decide) (by decide +kernel)) (fun j => nA k_4 (by decide) (by decide +kernel))
  obtain ⟨r12, e_9, k_10, k_10o⟩ := sh_3_1 hS hx1
  refine ok_ob e_9 ?_
  obtain ⟨r13, e_11, k_12, k_12o⟩ := sh_3_1 hS hx0
  refine ok_ob e_11 ?_
  refine ok_gd (kd_39 hS k_10) ?_
  refine ok_gd (kd_39 hS k_12) ?_
  have g_13 := iv_cp (by decide : iv (0 : Int32) 0 0) (by decide : iv (24 : Int32) 24 24) (ln_39 hS k_10) (by decide)
  refine ok_gd g_13 ?_
  have g_14 := iv_cp (by decide : iv (0 : Int32) 0 0) (by decide : iv (24 : Int32) 24 24) (ln_39 hS k_12) (by decide)
  refine ok_gd g_14 ?_
  refine ok_bd (fun d18 e_15 => ?_)
  have h_16 := Inv.cpI e_15 h_8 (fun i hi => by rw [k_12]; trivial) (fun j => mA k_12 (by decide) (by decide +kernel)) (fun j => nA k_12 (by decide) (by decide +kernel))
  obtain ⟨r19, e_17, k_18, k_18o⟩ := sh_3_2 hS hx1
  refine ok_ob e_17 ?_
  obtain ⟨r20, e_19, k_20, k_20o⟩ := sh_3_2 hS hx0
  refine ok_ob e_19 ?_
  refine ok_gd (kd_40 hS k_18) ?_
  refine ok_gd (kd_40 hS k_20) ?_
  have g_21 := iv_cp (by decide : iv (0 : Int32) 0 0) (by decide : iv (24 : Int32) 24 24) (ln_40 hS k_18) (by decide)
  refine ok_gd g_21 ?_
  have g_22 := iv_cp (by decide : iv (0 : Int32) 0 0) (by decide : iv (24 : Int32) 24 24) (ln_40 hS k_20) (by decide)
  refine ok_gd g_22 ?_
  refine ok_bd (fun d25 e_23 => ?_)
  have h_24 := Inv.cpI e_23 h_16 (fun i hi => by rw [k_20]; exact rd_40 h_16.1 k_18 (cpx g_21 (ln_40 hS k_18) hi)) (fun j => mA k_20 (by decide) (by decide +kernel)) (fun j => nA k_20 (by decide) (by decide +kernel))
  obtain ⟨r26, e_25, k_26, k_26o⟩ := sh_3_3 hS hx1
  refine ok_ob e_25 ?_
  obtain ⟨r27, e_27, k_28, k_28o⟩ := sh_3_3 hS hx0
  refine ok_ob e_27 ?_
  refine ok_gd (kd_41 hS k_26) ?_
  refine ok_gd (kd_41 hS k_28) ?_
  have g_29 := iv_cp (by decide : iv (0 : Int32) 0 0) (by decide : iv (24 : Int32) 24 24) (ln_41 hS k_26) (by decide)
  refine ok_gd g_29 ?_
  have g_30 := iv_cp (by decide : iv (0 : Int32) 0 0) (by decide : iv (24 : Int32) 24 24) (ln_41 hS k_28) (by decide)
  refine ok_gd g_30 ?_
  refine ok_bd (fun d32 e_31 => ?_)
  have h_32 := Inv.cpI e_31 h_24 (fun i hi => by rw [k_28]; exact rd_41 h_24.1 k_26 (cpx g_29 (ln_41 hS k_26) hi)) (fun j => mA k_28 (by decide) (by decide +kernel)) (fun j => nA k_28 (by decide) (by decide +kernel))
  refine ok_bd (fun d33 e_33 => ?_)
  have h_34 := Inv.set e_33 h_32 (by rw [hx0]; exact (rd_3_4 h_32.1 hx1)) (mO hx0 (by decide) (by decide +kernel)) (nO hx0 (by decide) (by decide +kernel))
  refine ok_bd (fun d34 e_35 => ?_)
  have h_36 := Inv.set e_35 h_34 (by rw [hx0]; exact trivial) (mO hx0 (by decide) (by decide +kernel)) (nO hx0 (by decide) (by decide +kernel))
  exact ok_some ⟨h_36, trivial⟩
def m_sX4_copyFrom__4_4 : Nat := 0x10000000000000000000000000000000000000000000000000000000000000000000000000000000000000000000000000000000000000000000000000000000000000000000000000000000000000000000000000000000000000000000000000000000000000000000000000000000000000000000000000000000000000000000000000000000000000000000000000000000000000000000000000000000000000000000000000000000000000000000000000000000000000000000000000000000000000000000000000000000000000000000000000000000000000000000000000000000000000000000000000000000000000000000000000000000000000000000000060000000000000000000000000000000000000000000000000000000000000000
theorem sX4_copyFrom__4_4 {g : Gs} (hS : Shp g) {b : Nat → Int} {x0 : Nat} (hx0 : cls x0 = 4) {x1 : Nat} (hx1 : cls x1 = 4) {d : Ds} (hB : Bnd b d) : ok (fX4_copyFrom 10000 g x0 x1 d) (fun u d' => Inv m_sX4_copyFrom__4_4 b d d' ∧ True) := by
  have hI : Inv m_sX4_copyFrom__4_4 b d d := Inv.rf hB
  unfold fX4_copyFrom
  refine ok_gd (kd_4 hS hx1) ?_
  refine ok_gd (kd_4 hS hx0) ?_
  refine ok_bd (fun d3 e_1 => ?_)
  have h_2 := Inv.set e_1 hI (by rw [hx0]; exact (rd_4_1 hI.1 hx1)) (mO hx0 (by decide) (by decide +kernel)) (nO hx0 (by decide) (by decide +kernel))
  refine ok_bd (fun d4 e_3 => ?_)
  have h_4 := Inv.set e_3 h_2 (by rw [hx0]; exact trivial) (mO hx0 (by decide) (by decide +kernel)) (nO hx0 (by decide) (by decide +kernel))
  obtain ⟨r5, e_5, k_6, k_6o⟩ := sh_4_0 hS hx1
  refine ok_ob e_5 ?_
  obtain ⟨r6, e_7, k_8, k_8o⟩ := sh_4_0 hS hx0
  refine ok_ob e_7 ?_
  refine ok_gd (kd_37 hS k_6) ?_
  refine ok_gd (kd_37 hS k_8) ?_
  refine ok_gd (iv_nn (by decide : iv (0 : Int32) 0 0) (by decide)) ?_
  refine ok_gd (iv_nn (rd_4_1 h_4.1 hx1) (by decide)) ?_
  have g_9 := iv_cp (by decide : iv (0 : Int32) 0 0) (rd_4_1 h_4.1 hx1) (ln_37 hS k_6) (by decide)
  refine ok_gd g_9 ?_
  have g_10 := iv_cp (by decide : iv (0 : Int32) 0 0) (rd_4_1 h_4.1 hx1) (ln_37 hS k_8) (by decide)
  refine ok_gd g_10 ?_
  refine ok_bd (fun d13 e_11 => ?_)
  have h_12 := Inv.cpI e_11 h_4 (fun i hi => by rw [k_8]; exact rd_37 h_4.1 k_6 (cpx g_9 (ln_37 hS k_6) hi)) (fun j => mA k_8 (by decide) (by decide +kernel)) (fun j => nA k_8 (by decide) (by decide +kernel))
  exact ok_some ⟨h_12, trivial⟩
def m_sX5_copyFrom__5_5 : Nat := 0x1000000000000000100000000000000010000000000000001000000000000000000000000000000000000000000000000000000000000000000000000000000000000000000000000000000000000000000000000000000000000000000000000000000000000000000000000000000000000000000000000000000000000000000000000000000000000000000000000000000000000000000000000000000000000000000000000000000000000000000000000000000000000000000000000000000000000000000000000000000000000000000000000000000000000000000000000000000000000000000000000000000000000000000000000000000000000000000000000000000000000000000000000000000000000000000000000000000000000000000000000000000000000000000000000000000000000000000000000000001f000000000000000000000000000000000000000000000000000000000000000000000000000000000
theorem sX5_copyFrom__5_5 {g : Gs} (hS : Shp g) {b : Nat → Int} {x0 : Nat} (hx0 : cls x0 = 5) {x1 : Nat} (hx1 : cls x1 = 5) {d : Ds} (hb : b (own x1) ≤ b (own x0)) (hB : Bnd b d) : ok (fX5_copyFrom 10000 g x0 x1 d) (fun u d' => Inv m_sX5_copyFrom__5_5 b d d' ∧ True ∧ dI d' x0 4 = dI d x1 4) := by
  have hI : Inv m_sX5_copyFrom__5_5 b d d := Inv.rf hB
  unfold fX5_copyFrom
  refine ok_gd (kd_5 hS hx1) ?_
  obtain ⟨r2, e_1, k_2, k_2o⟩ := sh_5_0 hS hx1
  refine ok_ob e_1 ?_
  refine ok_gd (kd_5 hS hx0) ?_
  obtain ⟨r4, e_3, k_4, k_4o⟩ := sh_5_0 hS hx0
  refine ok_ob e_3 ?_
  refine ok_gd (kd_43 hS k_2) ?_
  refine ok_gd (kd_43 hS k_4) ?_
  refine ok_gd (iv_nn (by decide : iv (0 : Int32) 0 0) (by decide)) ?_
  refine ok_gd (iv_nn (by decide : iv (40 : Int32) 40 40) (by decide)) ?_
  have g_5 := iv_cp (by decide : iv (0 : Int32) 0 0) (by decide : iv (40 : Int32) 40 40) (ln_43 hS k_2) (by decide)
  refine ok_gd g_5 ?_
  have g_6 := iv_cp (by decide : iv (0 : Int32) 0 0) (by decide : iv (40 : Int32) 40 40) (ln_43 hS k_4) (by decide)
  refine ok_gd g_6 ?_
  refine ok_bd (fun d11 e_7 => ?_)
  have h_8 := Inv.cpI e_7 hI (fun i hi => by rw [k_4]; trivial) (fun j => mA k_4 (by decide) (by decide +kernel)) (fun j => nA k_4 (by decide) (by decide +kernel))
  obtain ⟨r12, e_9, k_10, k_10o⟩ := sh_5_1 hS hx1
  refine ok_ob e_9 ?_
  obtain ⟨r13, e_11, k_12, k_12o⟩ := sh_5_1 hS hx0
  refine ok_ob e_11 ?_
  refine ok_gd (kd_44 hS k_10) ?_
  refine ok_gd (kd_44 hS k_12) ?_
  have g_13 := iv_cp (by decide : iv (0 : Int32) 0 0) (by decide : iv (40 : Int32) 40 40) (ln_44 hS k_10) (by decide)
  refine ok_gd g_13 ?_
  have g_14 := iv_cp (by decide : iv (0 : Int32) 0 0) (by decide : iv (40 : Int32) 40 40) (ln_44 hS k_12) (by decide)
  refine ok_gd g_14 ?_
  refine ok_bd (fun d18 e_15 => ?_)
  have h_16 := Inv.cpI e_15 h_8 (fun i hi => by rw [k_12]; trivial) (fun j => mA k_12 (by decide) (by decide +kernel)) (fun j => nA k_12 (by decide) (by decide +kernel))
  obtain ⟨r19, e_17, k_18, k_18o⟩ := sh_5_2 hS hx1
  refine ok_ob e_17 ?_
  obtain ⟨r20, e_19, k_20, k_20o⟩ := sh_5_2 hS hx0
  refine ok_ob e_19 ?_
  refine ok_gd (kd_45 hS k_18) ?_
  refine ok_gd (kd_45 hS k_20) ?_
  have g_21 := iv_cp (by decide : iv (0 : Int32) 0 0) (by decide : iv (40 : Int32) 40 40) (ln_45 hS k_18) (by decide)
  refine ok_gd g_21 ?_
  have g_22 := iv_cp (by decide : iv (0 : Int32) 0 0) (by decide : iv (40 : Int32) 40 40) (ln_45 hS k_20) (by decide)
  refine ok_gd g_22 ?_
  refine ok_bd (fun d25 e_23 => ?_)
  have h_24 := Inv.cpI e_23 h_16 (fun i hi => by rw [k_20]; exact rd_45 h_16.1 k_18 (cpx g_21 (ln_45 hS k_18) hi)) (fun j => mA k_20 (by decide) (by decide +kernel)) (fun j => nA k_20 (by decide) (by decide +kernel))
  obtain ⟨r26, e_25, k_26, k_26o⟩ := sh_5_3 hS hx1
  refine ok_ob e_25 ?_
  obtain ⟨r27, e_27, k_28, k_28o⟩ := sh_5_3 hS hx0
  refine ok_ob e_27 ?_
  refine ok_gd (kd_46 hS k_26) ?_
  refine ok_gd (kd_46 hS k_28) ?_
  refine ok_gd (iv_nn (by decide : iv (1000 : Int32) 1000 1000) (by decide)) ?_
  have g_29 := iv_cp (by decide : iv (0 : Int32) 0 0) (by decide : iv (1000 : Int32) 1000 1000) (ln_46 hS k_26) (by decide)
  refine ok_gd g_29 ?_
  have g_30 := iv_cp (by decide : iv (0 : Int32) 0 0) (by decide : iv (1000 : Int32) 1000 1000) (ln_46 hS k_28) (by decide)
  refine ok_gd g_30 ?_
  refine ok_bd (fun d33 e_31 => ?_)
  have h_32 := Inv.cpI e_31 h_24 (fun i hi => by rw [k_28]; trivial) (fun j => mA k_28 (by decide) (by decide +kernel)) (fun j => nA k_28 (by decide) (by decide +kernel))
  refine ok_bd (fun d34 e_33 => ?_)
  have h_34 := Inv.set e_33 h_32 (by rw [hx0]; exact (⟨(rd_5_4 h_32.1 hx1).1, Int.le_trans (rd_5_4 h_32.1 hx1).2 hb⟩)) (mO hx0 (by decide) (by decide +kernel)) (nO hx0 (by decide) (by decide +kernel))
  refine ok_bd (fun d35 e_35 => ?_)
  have h_36 := Inv.set e_35 h_34 (by rw [hx0]; exact trivial) (mO hx0 (by decide) (by decide +kernel)) (nO hx0 (by decide) (by decide +kernel))
  refine ok_bd (fun d36 e_37 => ?_)
  have h_38 := Inv.set e_37 h_36 (by rw [hx0]; exact trivial) (mO hx0 (by decide) (by decide +kernel)) (nO hx0 (by decide) (by decide +kernel))
  refine ok_bd (fun d37 e_39 => ?_)
  have h_40 := Inv.set e_39 h_38 (by rw [hx0]; exact trivial) (mO hx0 (by decide) (by decide +kernel)) (nO hx0 (by decide) (by decide +kernel))
  refine ok_bd (fun d38 e_41 => ?_)
  have h_42 := Inv.set e_41 h_40 (by rw [hx0]; exact trivial) (mO hx0 (by decide) (by decide +kernel)) (nO hx0 (by decide) (by decide +kernel))
  exact ok_some ⟨h_42, trivial, (by rw [rdq e_41 (Or.inr (by decide)), rdq e_39 (Or.inr (by decide)), rdq e_37 (Or.inr (by decide)), rdq e_35 (Or.inr (by decide)), e_33, sI_rd, if_pos ⟨rfl, rfl⟩, e_31, cI_rd, if_neg (fun z => cl_ne k_28 hx1 (by decide) z.1), e_23, cI_rd, if_neg (fun z => cl_ne k_20 hx1 (by decide) z.1), e_15, cI_rd, if_neg (fun z => cl_ne k_12 hx1 (by decide) z.1), e_7, cI_rd, if_neg (fun z => cl_ne k_4 hx1 (by decide) z.1)])⟩
def m_sX6_copyFrom__6_6 : Nat := 0x100000000000000010000000000000001000000000000000000000000000000010000000000000000000000000000000000000000000000000000000000000000000000000000000000000000000000000000000000000000000000000000000000000000000000000000000000000000000000000000000000000000000000000000000000000000000000000000000000000000000000000000000000000000000000000000000000000000000000000000000000000000000000000000000000000000000000000000000000000000000000000000000000000000000000000000000000000000000000000000000f000000000000000000000000000000000000000000000000000000000000000000000000000000000000000000000000
theorem sX6_copyFrom__6_6 {g : Gs} (hS : Shp g) {b : Nat → Int} {x0 : Nat} (hx0 : cls x0 = 6) {x1 : Nat} (hx1 : cls x1 = 6) {d : Ds} (hB : Bnd b d) : ok (fX6_copyFrom 10000 g x0 x1 d) (fun u d' => Inv m_sX6_copyFrom__6_6 b d d' ∧ True) := by
  have hI : Inv m_sX6_copyFrom__6_6 b d d := Inv.rf hB
  unfold fX6_copyFrom
  refine ok_gd (kd_6 hS hx1) ?_
  refine ok_gd (kd_6 hS hx0) ?_
  refine ok_bd (fun d3 e_1 => ?_)
  have h_2 := Inv.set e_1 hI (by rw [hx0]; exact trivial) (mO hx0 (by decide) (by decide +kernel)) (nO hx0 (by decide) (by decide +kernel))
  refine ok_bd (fun d4 e_3 => ?_)
  have h_4 := Inv.set e_3 h_2 (by rw [hx0]; exact trivial) (mO hx0 (by decide) (by decide +kernel)) (nO hx0 (by decide) (by decide +kernel))
  refine ok_bd (fun d5 e_5 => ?_)
  have h_6 := Inv.set e_5 h_4 (by rw [hx0]; exact trivial) (mO hx0 (by decide) (by decide +kernel)) (nO hx0 (by decide) (by decide +kernel))
  refine ok_bd (fun d6 e_7 => ?_)
  have h_8 := Inv.set e_7 h_6 (by rw [hx0]; exact trivial) (mO hx0 (by decide) (by decide +kernel)) (nO hx0 (by decide) (by decide +kernel))
  obtain ⟨r7, e_9, k_10, k_10o⟩ := sh_6_4 hS hx1
  refine ok_ob e_9 ?_
  obtain ⟨r8, e_11, k_12, k_12o⟩ := sh_6_4 hS hx0
  refine ok_ob e_11 ?_
  refine ok_gd (kd_32 hS k_10) ?_
  refine ok_gd (kd_32 hS k_12) ?_
  refine ok_gd (iv_nn (by decide : iv (0 : Int32) 0 0) (by decide)) ?_
  refine ok_gd (iv_nn (by decide : iv (24 : Int32) 24 24) (by decide)) ?_
  have g_13 := iv_cp (by decide : iv (0 : Int32) 0 0) (by decide : iv (24 : Int32) 24 24) (ln_32 hS k_10) (by decide)
  refine ok_gd g_13 ?_
  have g_14 := iv_cp (by decide : iv (0 : Int32) 0 0) (by decide : iv (24 : Int32) 24 24) (ln_32 hS k_12) (by decide)
  refine ok_gd g_14 ?_
  refine ok_bd (fun d15 e_15 => ?_)
  have h_16 := Inv.cpI e_15 h_8 (fun i hi => by rw [k_12]; trivial) (fun j => mA k_12 (by decide) (by decide +kernel)) (fun j => nA k_12 (by decide) (by decide +kernel))
  obtain ⟨r16, e_17, k_18, k_18o⟩ := sh_6_5 hS hx1
  refine ok_ob e_17 ?_
  obtain ⟨r17, e_19, k_20, k_20o⟩ := sh_6_5 hS hx0
  refine ok_ob e_19 ?_
  refine ok_gd (kd_33 hS k_18) ?_
  refine ok_gd (kd_33 hS k_20) ?_
  have g_21 := iv_cp (by decide : iv (0 : Int32) 0 0) (by decide : iv (24 : Int32) 24 24) (ln_33 hS k_18) (by decide)
  refine ok_gd g_21 ?_
  have g_22 := iv_cp (by decide : iv (0 : Int32) 0 0) (by decide : iv (24 : Int32) 24 24) (ln_33 hS k_20) (by decide)
  refine ok_gd g_22 ?_
  refine ok_bd (fun d22 e_23 => ?_)
  have h_24 := Inv.cpF e_23 h_16
  obtain ⟨r23, e_25, k_26, k_26o⟩ := sh_6_6 hS hx1
  refine ok_ob e_25 ?_
  obtain ⟨r24, e_27, k_28, k_28o⟩ := sh_6_6 hS hx0
  refine ok_ob e_27 ?_
  refine ok_gd (kd_34 hS k_26) ?_
  refine ok_gd (kd_34 hS k_28) ?_
  have g_29 := iv_cp (by decide : iv (0 : Int32) 0 0) (by decide : iv (24 : Int32) 24 24) (ln_34 hS k_26) (by decide)
  refine ok_gd g_29 ?_
  have g_30 := iv_cp (by decide : iv (0 : Int32) 0 0) (by decide : iv (24 : Int32) 24 24) (ln_34 hS k_28) (by decide)
  refine ok_gd g_30 ?_
  refine ok_bd (fun d29 e_31 => ?_)
  have h_32 := Inv.cpI e_31 h_24 (fun i hi => by rw [k_28]; trivial) (fun j => mA k_28 (by decide) (by decide +kernel)) (fun j => nA k_28 (by decide) (by decide +kernel))
  obtain ⟨r30, e_33, k_34, k_34o⟩ := sh_6_7 hS hx1
  refine ok_ob e_33 ?_
  obtain ⟨r31, e_35, k_36, k_36o⟩ := sh_6_7 hS hx0
  refine ok_ob e_35 ?_
  refine ok_gd (kd_35 hS k_34) ?_
  refine ok_gd (kd_35 hS k_36) ?_
  have g_37 := iv_cp (by decide : iv (0 : Int32) 0 0) (by decide : iv (24 : Int32) 24 24) (ln_35 hS k_34) (by decide)
  refine ok_gd g_37 ?_
  have g_38 := iv_cp (by decide : iv (0 : Int32) 0 0) (by decide : iv (24 : Int32) 24 24) (ln_35 hS k_36) (by decide)
  refine ok_gd g_38 ?_
  refine ok_bd (fun d36 e_39 => ?_)
  have h_40 := Inv.cpI e_39 h_32 (fun i hi => by rw [k_36]; trivial) (fun j => mA k_36 (by decide) (by decide +kernel)) (fun j => nA k_36 (by decide) (by decide +kernel))
  obtain ⟨r37, e_41, k_42, k_42o⟩ := sh_6_8 hS hx1
  refine ok_ob e_41 ?_
  obtain ⟨r38, e_43, k_44, k_44o⟩ := sh_6_8 hS hx0
  refine ok_ob e_43 ?_
  refine ok_gd (kd_36 hS k_42) ?_
  refine ok_gd (kd_36 hS k_44) ?_
  have g_45 := iv_cp (by decide : iv (0 : Int32) 0 0) (by decide : iv (24 : Int32) 24 24) (ln_36 hS k_42) (by decide)
  refine ok_gd g_45 ?_
  have g_46 := iv_cp (by decide : iv (0 : Int32) 0 0) (by decide : iv (24 : Int32) 24 24) (ln_36 hS k_44) (by decide)
  refine ok_gd g_46 ?_
  refine ok_bd (fun d43 e_47 => ?_)
  have h_48 := Inv.cpI e_47 h_40 (fun i hi => by rw [k_44]; trivial) (fun j => mA k_44 (by decide) (by decide +kernel)) (fun j => nA k_44 (by decide) (by decide +kernel))
  exact ok_some ⟨h_48, trivial⟩
def m_sX1_copyFrom__1_1 : Nat := 0x1000000000000000100000000000000010000000000000001000000000000000000000000000000010000000000000001000000000000000100000000000000010000000000000001000000000000000100000000000000010000000000000001000000000000000000000000000000010000000000000000000000000000000000000000000000000000000000000000000000000000000000000000000000000000000000000000000000000000000000000000000000000000000000000000000000000000000000000000000000000000000000000000000000000000000000000000000000000000000000000000000000000000000000000000000000000000000000000000000000000000000000000000000000000000000000000000000000000000000000000000000000000000000000000000000000000000000f00000000000001f000000000000000060000000000000030000000000000000000000000000000200000000000000000
theorem sX1_copyFrom__1_1 {g : Gs} (hS : Shp g) {b : Nat → Int} {x0 : Nat} (hx0 : cls x0 = 1) {x1 : Nat} (hx1 : cls x1 = 1) {d : Ds} (hb : b (own x1) ≤ b (own x0)) (hB : Bnd b d) : ok (fX1_copyFrom 10000 g x0 x1 d) (fun u d' => Inv m_sX1_copyFrom__1_1 b d d' ∧ True ∧ (dI d' x0 5 = dI d x1 5 ∧ ∀ p q, gR g x0 4 = some p → gR g x1 4 = some q → dI d' p 4 = dI d q 4)) := by
  have hI : Inv m_sX1_copyFrom__1_1 b d d := Inv.rf hB
  unfold fX1_copyFrom
  refine ok_gd (kd_1 hS hx1) ?_
  refine ok_gd (kd_1 hS hx0) ?_
  refine ok_bd (fun d3 e_1 => ?_)
  have h_2 := Inv.set e_1 hI (by rw [hx0]; exact (⟨(rd_1_5 hI.1 hx1).1, Int.le_trans (rd_1_5 hI.1 hx1).2 hb⟩)) (mO hx0 (by decide) (by decide +kernel)) (nO hx0 (by decide) (by decide +kernel))
  obtain ⟨r4, e_3, k_4, k_4o⟩ := sh_1_1 hS hx0
  refine ok_ob e_3 ?_
  obtain ⟨r5, e_5, k_6, k_6o⟩ := sh_1_1 hS hx1
  refine ok_ob e_5 ?_
  refine ok_gd (kd_6 hS k_4) ?_
  refine ok_cv (sX6_copyFrom__6_6 hS k_4 k_6 h_2.1) (fun d7 r_7 => ?_)
  obtain ⟨h_8, h_9⟩ := r_7
  have h_10 := Inv.call h_2 h_8 (by decide +kernel)
  obtain ⟨r9, e_11, k_12, k_12o⟩ := sh_1_2 hS hx0
  refine ok_ob e_11 ?_
  obtain ⟨r10, e_13, k_14, k_14o⟩ := sh_1_2 hS hx1
  refine ok_ob e_13 ?_
  refine ok_gd (kd_4 hS k_12) ?_
  refine ok_cv (sX4_copyFrom__4_4 hS k_12 k_14 h_10.1) (fun d12 r_15 => ?_)
  obtain ⟨h_16, h_17⟩ := r_15
  have h_18 := Inv.call h_10 h_16 (by decide +kernel)
  obtain ⟨r14, e_19, k_20, k_20o⟩ := sh_1_3 hS hx0
  refine ok_ob e_19 ?_
  obtain ⟨r15, e_21, k_22, k_22o⟩ := sh_1_3 hS hx1
  refine ok_ob e_21 ?_
  refine ok_gd (kd_3 hS k_20) ?_
  refine ok_cv (sX3_copyFrom__3_3 hS k_20 k_22 h_18.1) (fun d17 r_23 => ?_)
  obtain ⟨h_24, h_25⟩ := r_23
  have h_26 := Inv.call h_18 h_24 (by decide +kernel)
  obtain ⟨r19, e_27, k_28, k_28o⟩ := sh_1_4 hS hx0
  refine ok_ob e_27 ?_
  obtain ⟨r20, e_29, k_30, k_30o⟩ := sh_1_4 hS hx1
  refine ok_ob e_29 ?_
  refine ok_gd (kd_5 hS k_28) ?_
  refine ok_cv (sX5_copyFrom__5_5 hS k_28 k_30 (by rw [k_30o, k_28o]; exact hb) h_26.1) (fun d22 r_31 => ?_)
  obtain ⟨h_32, h_33, x_33⟩ := r_31
  have h_34 := Inv.call h_26 h_32 (by decide +kernel)
  exact ok_some ⟨h_34, trivial, ⟨(by rw [rdqc h_32 hx0 (by decide +kernel), rdqc h_24 hx0 (by decide +kernel), rdqc h_16 hx0 (by decide +kernel), rdqc h_8 hx0 (by decide +kernel), e_1, sI_rd, if_pos ⟨rfl, rfl⟩]), fun p q hp hq => by rw [e_27] at hp; rw [e_29] at hq; cases hp; cases hq; rw [x_33, rdqc h_24 k_30 (by decide +kernel), rdqc h_16 k_30 (by decide +kernel), rdqc h_8 k_30 (by decide +kernel), rdq e_1 (Or.inl (cl_ne hx0 k_30 (by decide)))]⟩⟩
theorem sX11_ahead__10 {g : Gs} (hS : Shp g) {b B : Nat → Int} {x0 : Nat} (hlb : LeB b B (247) 4903680) (hx0 : cls x0 = 10) {x1 : Int32} {x2 : Int32} {d : Ds} (hu : ∀ p q, p ≠ 400 → q ≠ 400 → b p = b q) (hB : Bnd b d) : ok (fX11_ahead 10000 g x0 x1 x2 d) (fun u d' => Inv m_sX11_ahead__10 B d d' ∧ True) := by
  have hI : Inv m_sX11_ahead__10 b d d := Inv.rf hB
  unfold fX11_ahead
  refine ok_if (fun c_1 => ?_) (fun c_1 => ?_)
  · have h_2 := iv.w (c := (-2147483648)) (e := 0) (lt_l c_1 (ivT _) (by decide : iv (1 : Int32) 1 1)) (by decide)
    exact sX11_ahead_J30__10 hS (LeB.w (k' := 0) hlb (by omega)) hx0 hI
  · have h_3 := iv.w (c := 1) (e := 2147483647) (le_r (nlt c_1) (by decide : iv (1 : Int32) 1 1) (ivT _)) (by decide)
    refine ok_if (fun c_4 => ?_) (fun c_4 => ?_)
    · have h_5 := iv.w (c := 121) (e := 2147483647) (lt_r c_4 (by decide : iv (120 : Int32) 120 120) h_3) (by decide)
      exact sX11_ahead_J30__10 hS (LeB.w (k' := 0) hlb (by omega)) hx0 hI
    · have h_6 := iv.w (c := 1) (e := 120) (le_l (nlt c_4) h_3 (by decide : iv (120 : Int32) 120 120)) (by decide)
      refine ok_if (fun c_7 => ?_) (fun c_7 => ?_)
      · have h_8 := iv.w (c := (-2147483648)) (e := (-1)) (lt_l c_7 (ivT _) (by decide : iv (0 : Int32) 0 0)) (by decide)
        exact sX11_ahead_J30__10 hS (LeB.w (k' := 0) hlb (by omega)) hx0 hI
      · have h_9 := iv.w (c := 0) (e := 2147483647) (le_r (nlt c_7) (by decide : iv (0 : Int32) 0 0) (ivT _)) (by decide)
        refine ok_if (fun c_10 => ?_) (fun c_10 => ?_)
        · have h_11 := iv.w (c := 5) (e := 2147483647) (lt_r c_10 (by decide : iv (4 : Int32) 4 4) h_9) (by decide)
          exact sX11_ahead_J30__10 hS (LeB.w (k' := 0) hlb (by omega)) hx0 hI
        · have h_12 := iv.w (c := 0) (e := 4) (le_l (nlt c_10) h_9 (by decide : iv (4 : Int32) 4 4)) (by decide)
          refine ok_gd (kd_10 hS hx0) ?_
          obtain ⟨r6, e_13, k_14⟩ := sh_10_4 hS hx0
          refine ok_ob e_13 ?_
          refine ok_gd (kd_13 hS k_14) ?_
          refine ok_cb (sX0_keys__13 hS k_14 hI.1) ?_
          rintro _ _ ⟨rfl, rfl⟩
          refine ok_if (fun c_15 => ?_) (fun c_15 => ?_)
          · have h_16 := iv.w (c := 0) (e := 0) (eq_l c_15 (by decide : iv (0 : Int32) 0 0)) (by decide)
            exact sX11_ahead_J30__10 hS (LeB.w (k' := 0) hlb (by omega)) hx0 hI
          · have h_17 := iv.w (c := 1) (e := 24) (ne_lo c_15 (iv_mul (l := 0) (h := 24) (rd_13_0 hI.1 k_14) (rd_13_1 hI.1 k_14) (by decide)) (by decide : iv (0 : Int32) 0 0)) (by decide)
            obtain ⟨r12, e_18, k_19, k_19o⟩ := sh_10_7 hS hx0
            refine ok_ob e_18 ?_
            obtain ⟨r13, e_20, k_21, k_21o⟩ := sh_10_6 hS hx0
            refine ok_ob e_20 ?_
            refine ok_gd (kd_1 hS k_19) ?_
            refine ok_cv (sX1_copyFrom__1_1 hS k_19 k_21 (Int.le_of_eq (hu _ _ (own_ne _) (own_ne _))) hI.1) (fun d15 r_22 => ?_)
            obtain ⟨h_23, h_24, x_24⟩ := r_22
            have h_25 := Inv.call hI h_23 (by decide +kernel)
            exact sX11_ahead_L45__10 hS (LeB.w (k' := 4903680) hlb (by omega)) hx0 h_6 h_12 (iv.w (by decide : iv (0 : Int32) 0 0) (by decide)) h_25
def m_sX11_hold__10 : Nat := 0x1000000000000000100000000000000010000000000000001000000000000000000000000000000010000000000000001000000000000000100000000000000010000000000000001000000000000000100000000000000010000000000000001000000000000000000000000000000010000000000000000000000000000000000000000000000000000000000000000000000000000000000000000000000000000000000000000000000000000000000000000000000000000000000000000000000000000000000000000000000000000000000000000000000000000000000000000000000000000000000000000000000000000000000000000000000000000000000000000000000000000000000000000000000000000000000000200000000000000000000000000000000000000000000000000000000000000000f00000000000001f000000000000000060000000000000030000000000000000000000000000000200000000000000000
theorem sX11_hold_J9__10 {g : Gs} (hS : Shp g) {b : Nat → Int} {d0 : Ds} {x0 : Nat} (hx0 : cls x0 = 10) {x1 : Int32} {d : Ds} (hI : Inv m_sX11_hold__10 b d0 d) : ok (fX11_hold_J9 10000 g x0 x1 d) (fun u d' => Inv m_sX11_hold__10 b d0 d' ∧ iv u 0 1) := by
  unfold fX11_hold_J9
  exact ok_some ⟨hI, (iv.w (by decide : iv (0 : Int32) 0 0) (by decide))⟩
theorem sX11_hold__10 {g : Gs} (hS : Shp g) {b : Nat → Int} {x0 : Nat} (hx0 : cls x0 = 10) {x1 : Int32} {d : Ds} (hu : ∀ p q, p ≠ 400 → q ≠ 400 → b p = b q) (hB : Bnd b d) : ok (fX11_hold 10000 g x0 x1 d) (fun u d' => Inv m_sX11_hold__10 b d d' ∧ iv u 0 1) := by
  have hI : Inv m_sX11_hold__10 b d d := Inv.rf hB
  unfold fX11_hold
  refine ok_if (fun c_1 => ?_) (fun c_1 => ?_)
  · have h_2 := iv.w (c := (-2147483648)) (e := (-1)) (lt_l c_1 (ivT _) (by decide : iv (0 : Int32) 0 0)) (by decide)
    exact sX11_hold_J9__10 hS hx0 hI
  · have h_3 := iv.w (c := 0) (e := 2147483647) (le_r (nlt c_1) (by decide : iv (0 : Int32) 0 0) (ivT _)) (by decide)
    refine ok_if (fun c_4 => ?_) (fun c_4 => ?_)
    · have h_5 := iv.w (c := 0) (e := 2) (lt_l c_4 h_3 (by decide : iv (3 : Int32) 3 3)) (by decide)
      refine ok_gd (kd_10 hS hx0) ?_
      obtain ⟨r4, e_6, k_7⟩ := sh_10_8 hS hx0
      refine ok_ob e_6 ?_
      refine ok_gd (kd_47 hS k_7) ?_
      refine ok_gd (ixg h_5 (ln_47 hS k_7) (by decide)) ?_
      obtain ⟨r7, e_8, k_9⟩ := sh_47 hS k_7 (ixn h_5 (by decide))
      refine ok_ob e_8 ?_
      obtain ⟨r8, e_10, k_11, k_11o⟩ := sh_10_6 hS hx0
      refine ok_ob e_10 ?_
      refine ok_gd (kd_1 hS k_9) ?_
      refine ok_cv (sX1_copyFrom__1_1 hS k_9 k_11 (Int.le_of_eq (hu _ _ (own_ne _) (own_ne _))) hI.1) (fun d10 r_12 => ?_)
      obtain ⟨h_13, h_14, x_14⟩ := r_12
      have h_15 := Inv.call hI h_13 (by decide +kernel)
      refine ok_bd (fun d12 e_16 => ?_)
      have h_17 := Inv.set e_16 h_15 (by rw [hx0]; exact trivial) (mO hx0 (by decide) (by decide +kernel)) (nO hx0 (by decide) (by decide +kernel))
      exact ok_some ⟨h_17, (iv.w (by decide : iv (1 : Int32) 1 1) (by decide))⟩
    · have h_18 := iv.w (c := 3) (e := 2147483647) (le_r (nlt c_4) (by decide : iv (3 : Int32) 3 3) h_3) (by decide)
      exact sX11_hold_J9__10 hS hx0 hI
def m_sX11_restore__10 : Nat := 0x1000000000000000100000000000000010000000000000001000000000000000000000000000000010000000000000001000000000000000100000000000000010000000000000001000000000000000100000000000000010000000000000001000000000000000000000000000000010000000000000000000000000000000000000000000000000000000000000000000000000000000000000000000000000000000000000000000000000000000000000000000000000000000000000000000000000000000000000000000000000000000000000000000000000000000000000000000000000000000000000000000000000000000000000000000000000000000000000000000000000000000000000000000000000000000000000000000000000000000000000000000000000000000000000000000000000000000f00000000000001f000000000000000060000000000000030000000000000000000000000000000200000000000000000
theorem sX11_restore_J20__10 {g : Gs} (hS : Shp g) {b : Nat → Int} {d0 : Ds} {x0 : Nat} (hx0 : cls x0 = 10) {x1 : Int32} {d : Ds} (hI : Inv m_sX11_restore__10 b d0 d) : ok (fX11_restore_J20 10000 g x0 x1 d) (fun u d' => Inv m_sX11_restore__10 b d0 d' ∧ iv u 0 1) := by
  unfold fX11_restore_J20
  exact ok_some ⟨hI, (iv.w (by decide : iv (0 : Int32) 0 0) (by decide))⟩
theorem sX11_restore__10 {g : Gs} (hS : Shp g) {b : Nat → Int} {x0 : Nat} (hx0 : cls x0 = 10) {x1 : Int32} {d : Ds} (hu : ∀ p q, p ≠ 400 → q ≠ 400 → b p = b q) (hB : Bnd b d) : ok (fX11_restore 10000 g x0 x1 d) (fun u d' => Inv m_sX11_restore__10 b d d' ∧ iv u 0 1) := by
  have hI : Inv m_sX11_restore__10 b d d := Inv.rf hB
  unfold fX11_restore
  refine ok_if (fun c_1 => ?_) (fun c_1 => ?_)
  · have h_2 := iv.w (c := (-2147483648)) (e := (-1)) (lt_l c_1 (ivT _) (by decide : iv (0 : Int32) 0 0)) (by decide)
    exact sX11_restore_J20__10 hS hx0 hI
  · have h_3 := iv.w (c := 0) (e := 2147483647) (le_r (nlt c_1) (by decide : iv (0 : Int32) 0 0) (ivT _)) (by decide)
    refine ok_if (fun c_4 => ?_) (fun c_4 => ?_)
    · have h_5 := iv.w (c := 3) (e := 2147483647) (le_r c_4 (by decide : iv (3 : Int32) 3 3) h_3) (by decide)
      exact sX11_restore_J20__10 hS hx0 hI
    · have h_6 := iv.w (c := 0) (e := 2) (lt_l (nle c_4) h_3 (by decide : iv (3 : Int32) 3 3)) (by decide)
      refine ok_gd (kd_10 hS hx0) ?_
      refine ok_cb (sX11_isIn hS (iv.w h_6 (by decide)) hI.1) ?_
      rintro _ _ ⟨rfl, ⟨rfl, c_7⟩ | ⟨rfl, c_8⟩⟩
      · have h_9 := iv.w (c := 0) (e := 0) (eq_l c_7 (by decide : iv (0 : Int32) 0 0)) (by decide)
        refine ok_if (fun c_10 => ?_) (fun c_10 => ?_)
        · exact sX11_restore_J20__10 hS hx0 hI
        · exact (ne_no c_10 (by decide : iv (0 : Int32) 0 0) (by decide : iv (0 : Int32) 0 0))
      · have h_11 := iv.w (c := 1) (e := 1) (ne_lo c_8 (iv_and (by decide : iv (1 : Int32) 1 1) (by decide)) (by decide : iv (0 : Int32) 0 0)) (by decide)
        refine ok_if (fun c_12 => ?_) (fun c_12 => ?_)
        · exact (eq_no c_12 (by decide : iv (1 : Int32) 1 1) (by decide : iv (0 : Int32) 0 0) (by decide))
        · obtain ⟨r8, e_13, k_14, k_14o⟩ := sh_10_6 hS hx0
          refine ok_ob e_13 ?_
          obtain ⟨r9, e_15, k_16⟩ := sh_10_8 hS hx0
          refine ok_ob e_15 ?_
          refine ok_gd (kd_47 hS k_16) ?_
          refine ok_gd (ixg h_6 (ln_47 hS k_16) (by decide)) ?_
          obtain ⟨r12, e_17, k_18⟩ := sh_47 hS k_16 (ixn h_6 (by decide))
          refine ok_ob e_17 ?_
          refine ok_gd (kd_1 hS k_14) ?_
          refine ok_cv (sX1_copyFrom__1_1 hS k_14 k_18 (Int.le_of_eq (hu _ _ (own_ne _) (own_ne _))) hI.1) (fun d14 r_19 => ?_)
          obtain ⟨h_20, h_21, x_21⟩ := r_19
          have h_22 := Inv.call hI h_20 (by decide +kernel)
          exact ok_some ⟨h_22, (iv.w (by decide : iv (1 : Int32) 1 1) (by decide))⟩
theorem sX11_setting_J67__10 {g : Gs} (hS : Shp g) {b : Nat → Int} {x0 : Nat} (hx0 : cls x0 = 10) {x1 : Int32} (hx1 : iv x1 13 13) {z0 : Int32} (hz0 : iv z0 0 1) {d : Ds} (hB : Bnd b d) : ok (fX11_setting_J67 10000 g x0 x1 z0 d) (fun u d' => d' = d ∧ True) := by
  unfold fX11_setting_J67
  exact ok_some ⟨rfl, trivial⟩
theorem sX11_setting_J83__10 {g : Gs} (hS : Shp g) {b : Nat → Int} {x0 : Nat} (hx0 : cls x0 = 10) {x1 : Int32} (hx1 : iv x1 14 14) {z0 : Int32} (hz0 : iv z0 0 1) {d : Ds} (hB : Bnd b d) : ok (fX11_setting_J83 10000 g x0 x1 z0 d) (fun u d' => d' = d ∧ True) := by
  unfold fX11_setting_J83
  exact ok_some ⟨rfl, trivial⟩
theorem sX11_setting__10 {g : Gs} (hS : Shp g) {b : Nat → Int} {x0 : Nat} (hx0 : cls x0 = 10) {x1 : Int32} {d : Ds} (hB : Bnd b d) : ok (fX11_setting 10000 g x0 x1 d) (fun u d' => d' = d ∧ True) := by
  unfold fX11_setting
  refine ok_if (fun c_1 => ?_) (fun c_1 => ?_)
  · exact ok_some ⟨rfl, trivial⟩
  · have h_2 := iv.w (c := 13) (e := 21) (tab_s c_1) (by decide)
    refine ok_if (fun c_3 => ?_) (fun c_3 => ?_)
    · have h_4 := iv.w (c := 13) (e := 13) (eq_l c_3 (by decide : iv (13 : Int32) 13 13)) (by decide)
      refine ok_gd (kd_10 hS hx0) ?_
      obtain ⟨r4, e_5, k_6⟩ := sh_10_4 hS hx0
      refine ok_ob e_5 ?_
      refine ok_gd (kd_13 hS k_6) ?_
      refine ok_if (fun c_7 => ?_) (fun c_7 => ?_)
      · have h_8 := iv.w (c := 0) (e := 0) (eq_l c_7 (by decide : iv (0 : Int32) 0 0)) (by decide)
        exact sX11_setting_J67__10 hS hx0 h_4 (iv.w (by decide : iv (0 : Int32) 0 0) (by decide)) hB
      · have h_9 := iv.w (c := 1) (e := 1) (ne_lo c_7 (rd_13_2 hB k_6) (by decide : iv (0 : Int32) 0 0)) (by decide)
        exact sX11_setting_J67__10 hS hx0 h_4 (iv.w (by decide : iv (1 : Int32) 1 1) (by decide)) hB
    · have h_10 := iv.w (c := 14) (e := 21) (ne_lo c_3 h_2 (by decide : iv (13 : Int32) 13 13)) (by decide)
      refine ok_if (fun c_11 => ?_) (fun c_11 => ?_)
      · have h_12 := iv.w (c := 14) (e := 14) (eq_l c_11 (by decide : iv (14 : Int32) 14 14)) (by decide)
        refine ok_gd (kd_10 hS hx0) ?_
        obtain ⟨r9, e_13, k_14⟩ := sh_10_4 hS hx0
        refine ok_ob e_13 ?_
        refine ok_gd (kd_13 hS k_14) ?_
        refine ok_if (fun c_15 => ?_) (fun c_15 => ?_)
        · have h_16 := iv.w (c := 0) (e := 0) (eq_l c_15 (by decide : iv (0 : Int32) 0 0)) (by decide)
          exact sX11_setting_J83__10 hS hx0 h_12 (iv.w (by decide : iv (0 : Int32) 0 0) (by decide)) hB
        · have h_17 := iv.w (c := 1) (e := 1) (ne_lo c_15 (rd_13_3 hB k_14) (by decide : iv (0 : Int32) 0 0)) (by decide)
          exact sX11_setting_J83__10 hS hx0 h_12 (iv.w (by decide : iv (1 : Int32) 1 1) (by decide)) hB
      · have h_18 := iv.w (c := 15) (e := 21) (ne_lo c_11 h_10 (by decide : iv (14 : Int32) 14 14)) (by decide)
        refine ok_if (fun c_19 => ?_) (fun c_19 => ?_)
        · have h_20 := iv.w (c := 15) (e := 15) (eq_l c_19 (by decide : iv (15 : Int32) 15 15)) (by decide)
          refine ok_gd (kd_10 hS hx0) ?_
          obtain ⟨r14, e_21, k_22⟩ := sh_10_4 hS hx0
          refine ok_ob e_21 ?_
          refine ok_gd (kd_13 hS k_22) ?_
          exact ok_some ⟨rfl, trivial⟩
        · have h_23 := iv.w (c := 16) (e := 21) (ne_lo c_19 h_18 (by decide : iv (15 : Int32) 15 15)) (by decide)
          refine ok_if (fun c_24 => ?_) (fun c_24 => ?_)
          · have h_25 := iv.w (c := 16) (e := 16) (eq_l c_24 (by decide : iv (16 : Int32) 16 16)) (by decide)
            refine ok_gd (kd_10 hS hx0) ?_
            obtain ⟨r18, e_26, k_27⟩ := sh_10_4 hS hx0
            refine ok_ob e_26 ?_
            refine ok_gd (kd_13 hS k_27) ?_
            exact ok_some ⟨rfl, trivial⟩
          · have h_28 := iv.w (c := 17) (e := 21) (ne_lo c_24 h_23 (by decide : iv (16 : Int32) 16 16)) (by decide)
            refine ok_if (fun c_29 => ?_) (fun c_29 => ?_)
            · have h_30 := iv.w (c := 17) (e := 17) (eq_l c_29 (by decide : iv (17 : Int32) 17 17)) (by decide)
              refine ok_gd (kd_10 hS hx0) ?_
              obtain ⟨r22, e_31, k_32⟩ := sh_10_4 hS hx0
              refine ok_ob e_31 ?_
              refine ok_gd (kd_13 hS k_32) ?_
              exact ok_some ⟨rfl, trivial⟩
            · have h_33 := iv.w (c := 18) (e := 21) (ne_lo c_29 h_28 (by decide : iv (17 : Int32) 17 17)) (by decide)
              refine ok_if (fun c_34 => ?_) (fun c_34 => ?_)
              · have h_35 := iv.w (c := 18) (e := 18) (eq_l c_34 (by decide : iv (18 : Int32) 18 18)) (by decide)
                refine ok_gd (kd_10 hS hx0) ?_
                obtain ⟨r26, e_36, k_37⟩ := sh_10_4 hS hx0
                refine ok_ob e_36 ?_
                refine ok_gd (kd_13 hS k_37) ?_
                exact ok_some ⟨rfl, trivial⟩
              · have h_38 := iv.w (c := 19) (e := 21) (ne_lo c_34 h_33 (by decide : iv (18 : Int32) 18 18)) (by decide)
                refine ok_if (fun c_39 => ?_) (fun c_39 => ?_)
                · have h_40 := iv.w (c := 19) (e := 19) (eq_l c_39 (by decide : iv (19 : Int32) 19 19)) (by decide)
                  refine ok_gd (kd_10 hS hx0) ?_
                  obtain ⟨r30, e_41, k_42⟩ := sh_10_4 hS hx0
                  refine ok_ob e_41 ?_
                  refine ok_gd (kd_13 hS k_42) ?_
                  exact ok_some ⟨rfl, trivial⟩
                · have h_43 := iv.w (c := 20) (e := 21) (ne_lo c_39 h_38 (by decide : iv (19 : Int32) 19 19)) (by decide)
                  refine ok_if (fun c_44 => ?_) (fun c_44 => ?_)
                  · have h_45 := iv.w (c := 20) (e := 20) (eq_l c_44 (by decide : iv (20 : Int32) 20 20)) (by decide)
                    refine ok_gd (kd_10 hS hx0) ?_
                    obtain ⟨r34, e_46, k_47⟩ := sh_10_4 hS hx0
                    refine ok_ob e_46 ?_
                    refine ok_gd (kd_13 hS k_47) ?_
                    exact ok_some ⟨rfl, trivial⟩
                  · have h_48 := iv.w (c := 21) (e := 21) (ne_lo c_44 h_43 (by decide : iv (20 : Int32) 20 20)) (by decide)
                    refine ok_if (fun c_49 => ?_) (fun c_49 => ?_)
                    · refine ok_gd (kd_10 hS hx0) ?_
                      obtain ⟨r38, e_50, k_51⟩ := sh_10_4 hS hx0
                      refine ok_ob e_50 ?_
                      refine ok_gd (kd_13 hS k_51) ?_
                      exact ok_some ⟨rfl, trivial⟩
                    · exact (ne_no c_49 h_48 (by decide : iv (21 : Int32) 21 21))
theorem sX11_count__10 {g : Gs} (hS : Shp g) {b : Nat → Int} {x0 : Nat} (hx0 : cls x0 = 10) {x1 : Int32} {d : Ds} (hB : Bnd b d) : ok (fX11_count 10000 g x0 x1 d) (fun u d' => d' = d ∧ True) := by
  unfold fX11_count
  refine ok_if (fun c_1 => ?_) (fun c_1 => ?_)
  · refine ok_gd (kd_10 hS hx0) ?_
    refine ok_cb (sX11_setting__10 hS hx0 hB) (fun u5 d3 r_2 => ?_)
    obtain ⟨rfl, h_4⟩ := r_2
    exact ok_some ⟨rfl, trivial⟩
  · have h_5 := iv.w (c := 0) (e := 12) (tab_s c_1) (by decide)
    refine ok_if (fun c_6 => ?_) (fun c_6 => ?_)
    · have h_7 := iv.w (c := 0) (e := 0) (eq_l c_6 (by decide : iv (0 : Int32) 0 0)) (by decide)
      refine ok_gd (kd_10 hS hx0) ?_
      obtain ⟨r8, e_8, k_9⟩ := sh_10_4 hS hx0
      refine ok_ob e_8 ?_
      refine ok_gd (kd_13 hS k_9) ?_
      exact ok_some ⟨rfl, trivial⟩
    · have h_10 := iv.w (c := 1) (e := 12) (ne_lo c_6 h_5 (by decide : iv (0 : Int32) 0 0)) (by decide)
      refine ok_if (fun c_11 => ?_) (fun c_11 => ?_)
      · have h_12 := iv.w (c := 1) (e := 1) (eq_l c_11 (by decide : iv (1 : Int32) 1 1)) (by decide)
        refine ok_gd (kd_10 hS hx0) ?_
        obtain ⟨r12, e_13, k_14⟩ := sh_10_4 hS hx0
        refine ok_ob e_13 ?_
        refine ok_gd (kd_13 hS k_14) ?_
        exact ok_some ⟨rfl, trivial⟩
      · have h_15 := iv.w (c := 2) (e := 12) (ne_lo c_11 h_10 (by decide : iv (1 : Int32) 1 1)) (by decide)
        refine ok_if (fun c_16 => ?_) (fun c_16 => ?_)
        · have h_17 := iv.w (c := 2) (e := 2) (eq_l c_16 (by decide : iv (2 : Int32) 2 2)) (by decide)
          refine ok_gd (kd_10 hS hx0) ?_
          obtain ⟨r16, e_18, k_19, k_19o⟩ := sh_10_6 hS hx0
          refine ok_ob e_18 ?_
          refine ok_gd (kd_1 hS k_19) ?_
          exact ok_some ⟨rfl, trivial⟩
        · have h_20 := iv.w (c := 3) (e := 12) (ne_lo c_16 h_15 (by decide : iv (2 : Int32) 2 2)) (by decide)
          refine ok_if (fun c_21 => ?_) (fun c_21 => ?_)
          · have h_22 := iv.w (c := 3) (e := 3) (eq_l c_21 (by decide : iv (3 : Int32) 3 3)) (by decide)
            refine ok_gd (kd_10 hS hx0) ?_
            obtain ⟨r20, e_23, k_24, k_24o⟩ := sh_10_6 hS hx0
            refine ok_ob e_23 ?_
            refine ok_gd (kd_1 hS k_24) ?_
            obtain ⟨r22, e_25, k_26, k_26o⟩ := sh_1_4 hS k_24
            refine ok_ob e_25 ?_
            refine ok_gd (kd_5 hS k_26) ?_
            exact ok_some ⟨rfl, trivial⟩
          · have h_27 := iv.w (c := 4) (e := 12) (ne_lo c_21 h_20 (by decide : iv (3 : Int32) 3 3)) (by decide)
            refine ok_if (fun c_28 => ?_) (fun c_28 => ?_)
            · have h_29 := iv.w (c := 4) (e := 4) (eq_l c_28 (by decide : iv (4 : Int32) 4 4)) (by decide)
              refine ok_gd (kd_10 hS hx0) ?_
              obtain ⟨r26, e_30, k_31, k_31o⟩ := sh_10_6 hS hx0
              refine ok_ob e_30 ?_
              refine ok_gd (kd_1 hS k_31) ?_
              refine ok_cb (sX1_activeLayers__1 hS k_31 hB) (fun u30 d28 r_32 => ?_)
              obtain ⟨rfl, h_34⟩ := r_32
              exact ok_some ⟨rfl, trivial⟩
            · have h_35 := iv.w (c := 5) (e := 12) (ne_lo c_28 h_27 (by decide : iv (4 : Int32) 4 4)) (by decide)
              refine ok_if (fun c_36 => ?_) (fun c_36 => ?_)
              · have h_37 := iv.w (c := 5) (e := 5) (eq_l c_36 (by decide : iv (5 : Int32) 5 5)) (by decide)
                refine ok_gd (kd_10 hS hx0) ?_
                obtain ⟨r33, e_38, k_39, k_39o⟩ := sh_10_6 hS hx0
                refine ok_ob e_38 ?_
                refine ok_gd (kd_1 hS k_39) ?_
                obtain ⟨r35, e_40, k_41, k_41o⟩ := sh_1_3 hS k_39
                refine ok_ob e_40 ?_
                refine ok_gd (kd_3 hS k_41) ?_
                exact ok_some ⟨rfl, trivial⟩
              · have h_42 := iv.w (c := 6) (e := 12) (ne_lo c_36 h_35 (by decide : iv (5 : Int32) 5 5)) (by decide)
                refine ok_if (fun c_43 => ?_) (fun c_43 => ?_)
                · have h_44 := iv.w (c := 6) (e := 6) (eq_l c_43 (by decide : iv (6 : Int32) 6 6)) (by decide)
                  refine ok_gd (kd_10 hS hx0) ?_
                  obtain ⟨r39, e_45, k_46, k_46o⟩ := sh_10_6 hS hx0
                  refine ok_ob e_45 ?_
                  refine ok_gd (kd_1 hS k_46) ?_
                  obtain ⟨r41, e_47, k_48, k_48o⟩ := sh_1_1 hS k_46
                  refine ok_ob e_47 ?_
                  refine ok_gd (kd_6 hS k_48) ?_
                  exact ok_some ⟨rfl, trivial⟩
                · have h_49 := iv.w (c := 7) (e := 12) (ne_lo c_43 h_42 (by decide : iv (6 : Int32) 6 6)) (by decide)
                  refine ok_if (fun c_50 => ?_) (fun c_50 => ?_)
                  · have h_51 := iv.w (c := 7) (e := 7) (eq_l c_50 (by decide : iv (7 : Int32) 7 7)) (by decide)
                    refine ok_gd (kd_10 hS hx0) ?_
                    obtain ⟨r45, e_52, k_53, k_53o⟩ := sh_10_6 hS hx0
                    refine ok_ob e_52 ?_
                    refine ok_gd (kd_1 hS k_53) ?_
                    obtain ⟨r47, e_54, k_55, k_55o⟩ := sh_1_1 hS k_53
                    refine ok_ob e_54 ?_
                    refine ok_gd (kd_6 hS k_55) ?_
                    exact ok_some ⟨rfl, trivial⟩
                  · have h_56 := iv.w (c := 8) (e := 12) (ne_lo c_50 h_49 (by decide : iv (7 : Int32) 7 7)) (by decide)
                    refine ok_if (fun c_57 => ?_) (fun c_57 => ?_)
                    · have h_58 := iv.w (c := 8) (e := 8) (eq_l c_57 (by decide : iv (8 : Int32) 8 8)) (by decide)
                      refine ok_gd (kd_10 hS hx0) ?_
                      obtain ⟨r51, e_59, k_60, k_60o⟩ := sh_10_6 hS hx0
                      refine ok_ob e_59 ?_
                      refine ok_gd (kd_1 hS k_60) ?_
                      obtain ⟨r53, e_61, k_62, k_62o⟩ := sh_1_1 hS k_60
                      refine ok_ob e_61 ?_
                      refine ok_gd (kd_6 hS k_62) ?_
                      exact ok_some ⟨rfl, trivial⟩
                    · have h_63 := iv.w (c := 9) (e := 12) (ne_lo c_57 h_56 (by decide : iv (8 : Int32) 8 8)) (by decide)
                      refine ok_if (fun c_64 => ?_) (fun c_64 => ?_)
                      · have h_65 := iv.w (c := 9) (e := 9) (eq_l c_64 (by decide : iv (9 : Int32) 9 9)) (by decide)
                        refine ok_gd (kd_10 hS hx0) ?_
                        obtain ⟨r57, e_66, k_67, k_67o⟩ := sh_10_6 hS hx0
                        refine ok_ob e_66 ?_
                        refine ok_gd (kd_1 hS k_67) ?_
                        obtain ⟨r59, e_68, k_69, k_69o⟩ := sh_1_1 hS k_67
                        refine ok_ob e_68 ?_
                        refine ok_gd (kd_6 hS k_69) ?_
                        exact ok_some ⟨rfl, trivial⟩
                      · have h_70 := iv.w (c := 10) (e := 12) (ne_lo c_64 h_63 (by decide : iv (9 : Int32) 9 9)) (by decide)
                        refine ok_if (fun c_71 => ?_) (fun c_71 => ?_)
                        · have h_72 := iv.w (c := 10) (e := 10) (eq_l c_71 (by decide : iv (10 : Int32) 10 10)) (by decide)
                          refine ok_gd (kd_10 hS hx0) ?_
                          obtain ⟨r63, e_73, k_74, k_74o⟩ := sh_10_6 hS hx0
                          refine ok_ob e_73 ?_
                          refine ok_gd (kd_1 hS k_74) ?_
                          obtain ⟨r65, e_75, k_76, k_76o⟩ := sh_1_2 hS k_74
                          refine ok_ob e_75 ?_
                          refine ok_gd (kd_4 hS k_76) ?_
                          exact ok_some ⟨rfl, trivial⟩
                        · have h_77 := iv.w (c := 11) (e := 12) (ne_lo c_71 h_70 (by decide : iv (10 : Int32) 10 10)) (by decide)
                          refine ok_if (fun c_78 => ?_) (fun c_78 => ?_)
                          · have h_79 := iv.w (c := 11) (e := 11) (eq_l c_78 (by decide : iv (11 : Int32) 11 11)) (by decide)
                            refine ok_gd (kd_10 hS hx0) ?_
                            exact ok_some ⟨rfl, trivial⟩
                          · have h_80 := iv.w (c := 12) (e := 12) (ne_lo c_78 h_77 (by decide : iv (11 : Int32) 11 11)) (by decide)
                            refine ok_if (fun c_81 => ?_) (fun c_81 => ?_)
                            · refine ok_gd (kd_10 hS hx0) ?_
                              refine ok_cb (sJ6_bitCount_0f7a4 hS hB) ?_
                              rintro _ _ ⟨rfl, rfl⟩
                              exact ok_some ⟨rfl, trivial⟩
                            · exact (ne_no c_81 h_80 (by decide : iv (12 : Int32) 12 12))
