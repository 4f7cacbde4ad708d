theorem sX8_cutWord_L2__8_20 {g : Gs} (hS : Shp g) {b : Nat → Int} {d0 : Ds} {x0 : Nat} (hx0 : cls x0 = 8) {x1 : Nat} (hx1 : cls x1 = 20) {x2 : Int32} (hx2 : iv x2 0 1999) {y3 : Int32} (hy3 : iv y3 0 2000) {d : Ds} (hI : Inv m_sX8_cutWord__8_20 b d0 d) (hr_x0_4 : iv (dI d x0 4) 0 400) (hr_x0_5 : iv (dI d x0 5) 1 2000) : ok (fX8_cutWord_L2 10000 g x0 x1 x2 (y3, d)) (fun u d' => Inv m_sX8_cutWord__8_20 b d0 d' ∧ iv u 0 2000) := by
  unfold fX8_cutWord_L2
  refine ok_lp (fun a => Inv m_sX8_cutWord__8_20 b d0 a.2 ∧ iv a.1 0 2000 ∧ iv (dI a.2 x0 4) 0 400 ∧ iv (dI a.2 x0 5) 1 2000 ∧ True) (fun a => (2000 - a.1.toInt).toNat) ?_ 10000 _ ⟨hI, hy3, hr_x0_4, hr_x0_5, trivial⟩ (ms_b hy3 (by decide))
  · rintro K2 ⟨y3, d⟩ ⟨hI, hy3, hr_x0_4, hr_x0_5, -⟩ hK2
    (try dsimp only at hI hy3 hr_x0_4 hr_x0_5 hK2 ⊢)
    unfold fX8_cutWord_B2
    refine ok_gd (kd_8 hS hx0) ?_
    refine ok_if (fun c_1 => ?_) (fun c_1 => ?_)
    · have h_2 := iv.w (c := 1) (e := 2000) (le_r c_1 hr_x0_5 hy3) (by decide)
      exact sX8_cutWord_J25__8_20 hS hx0 hx1 hx2 (iv.w h_2 (by decide)) hI hr_x0_4 hr_x0_5
    · have h_3 := iv.w (c := 0) (e := 1999) (lt_l (nle c_1) hy3 hr_x0_5) (by decide)
      refine ok_gd (kd_20 hS hx1) ?_
      refine ok_gd (ixg h_3 (ln_20 hS hx1) (by decide)) ?_
      refine ok_cb (sX8_isLetter hS hI.1) ?_
      rintro _ _ ⟨rfl, rfl | ⟨rfl, c_4, c_5⟩⟩
      · refine ok_if (fun c_6 => ?_) (fun c_6 => ?_)
        · exact sX8_cutWord_J25__8_20 hS hx0 hx1 hx2 (iv.w h_3 (by decide)) hI hr_x0_4 hr_x0_5
        · exact (ne_no c_6 (by decide : iv (0 : Int32) 0 0) (by decide : iv (0 : Int32) 0 0))
      · have h_7 := iv.w (c := 97) (e := 2147483647) (le_r (nlt c_4) (by decide : iv (97 : Int32) 97 97) (ivT _)) (by decide)
        have h_8 := iv.w (c := 97) (e := 122) (le_l (nlt c_5) h_7 (by decide : iv (122 : Int32) 122 122)) (by decide)
        refine ok_if (fun c_9 => ?_) (fun c_9 => ?_)
        · exact (eq_no c_9 (by decide : iv (1 : Int32) 1 1) (by decide : iv (0 : Int32) 0 0) (by decide))
        · refine ok_bd (fun u29 e_10 => ?_)
          have h_11 := iv_e e_10 (iv_add (l := 1) (h := 2000) h_3 (by decide : iv (1 : Int32) 1 1) (by decide))
          exact hK2 _ ⟨hI, (iv.w h_11 (by decide)), hr_x0_4, hr_x0_5, trivial⟩ (ms_up (H := 2000) e_10 h_3 (by decide : iv (1 : Int32) 1 1) (by decide))
theorem sX8_cutWord__8_20 {g : Gs} (hS : Shp g) {b : Nat → Int} {x0 : Nat} (hx0 : cls x0 = 8) {x1 : Nat} (hx1 : cls x1 = 20) {x2 : Int32} (hx2 : iv x2 0 1999) {d : Ds} (hB : Bnd b d) (hr_x0_4 : iv (dI d x0 4) 0 400) (hr_x0_5 : iv (dI d x0 5) 1 2000) : ok (fX8_cutWord 10000 g x0 x1 x2 d) (fun u d' => Inv m_sX8_cutWord__8_20 b d d' ∧ iv u 0 2000) := by
  have hI : Inv m_sX8_cutWord__8_20 b d d := Inv.rf hB
  unfold fX8_cutWord
  exact sX8_cutWord_L2__8_20 hS hx0 hx1 hx2 (iv.w hx2 (by decide)) hI hr_x0_4 hr_x0_5
theorem sX8_skipBlanks_J42__8_20 {g : Gs} (hS : Shp g) {b : Nat → Int} {x0 : Nat} (hx0 : cls x0 = 8) {x1 : Nat} (hx1 : cls x1 = 20) {x2 : Int32} (hx2 : iv x2 0 2000) {y3 : Int32} (hy3 : iv y3 0 1999) {d : Ds} (hB : Bnd b d) (hr_x0_5 : iv (dI d x0 5) 1 2000) {K2 : Int32 × Ds → Option (Int32 × Ds)} {μ2 : Nat} (hK2 : ∀ a, a.2 = d ∧ iv a.1 0 2000 ∧ True → (2000 - a.1.toInt).toNat < μ2 → ok (K2 a) (fun u d' => d' = d ∧ iv u 0 2000)) (hm2 : (2000 - y3.toInt).toNat ≤ μ2) : ok (fX8_skipBlanks_J42 10000 g x0 x1 x2 K2 y3 d) (fun u d' => d' = d ∧ iv u 0 2000) := by
  unfold fX8_skipBlanks_J42
  refine ok_bd (fun u6 e_1 => ?_)
  have h_2 := iv_e e_1 (iv_add (l := 1) (h := 2000) hy3 (by decide : iv (1 : Int32) 1 1) (by decide))
  exact hK2 _ ⟨rfl, (iv.w h_2 (by decide)), trivial⟩ (Nat.lt_of_lt_of_le (ms_up (H := 2000) e_1 hy3 (by decide : iv (1 : Int32) 1 1) (by decide)) hm2)
theorem sX8_skipBlanks_J48__8_20 {g : Gs} (hS : Shp g) {b : Nat → Int} {x0 : Nat} (hx0 : cls x0 = 8) {x1 : Nat} (hx1 : cls x1 = 20) {x2 : Int32} (hx2 : iv x2 0 2000) {y3 : Int32} (hy3 : iv y3 0 2000) {d : Ds} (hB : Bnd b d) : ok (fX8_skipBlanks_J48 10000 g x0 x1 x2 y3 d) (fun u d' => d' = d ∧ iv u 0 2000) := by
  unfold fX8_skipBlanks_J48
  exact ok_some ⟨rfl, hy3⟩
theorem sX8_skipBlanks_L2__8_20 {g : Gs} (hS : Shp g) {b : Nat → Int} {x0 : Nat} (hx0 : cls x0 = 8) {x1 : Nat} (hx1 : cls x1 = 20) {x2 : Int32} (hx2 : iv x2 0 2000) {y3 : Int32} (hy3 : iv y3 0 2000) {d : Ds} (hB : Bnd b d) : ok (fX8_skipBlanks_L2 10000 g x0 x1 x2 (y3, d)) (fun u d' => d' = d ∧ iv u 0 2000) := by
  unfold fX8_skipBlanks_L2
  refine ok_lp (fun a => a.2 = d ∧ iv a.1 0 2000 ∧ True) (fun a => (2000 - a.1.toInt).toNat) ?_ 10000 _ ⟨rfl, hy3, trivial⟩ (ms_b hy3 (by decide))
  · rintro K2 ⟨y3, d⟩ ⟨rfl, hy3, -⟩ hK2
    (try dsimp only at hy3 hK2 ⊢)
    unfold fX8_skipBlanks_B2
    refine ok_gd (kd_8 hS hx0) ?_
    refine ok_if (fun c_1 => ?_) (fun c_1 => ?_)
    · exact sX8_skipBlanks_J48__8_20 hS hx0 hx1 hx2 hy3 hB
    · have h_2 := iv.w (c := 0) (e := 1999) (lt_l (nle c_1) hy3 (rd_8_5 hB hx0)) (by decide)
      have h_3 := iv.w (c := 1) (e := 2000) (lt_r (nle c_1) hy3 (rd_8_5 hB hx0)) (by decide)
      refine ok_gd (kd_20 hS hx1) ?_
      refine ok_gd (ixg h_2 (ln_20 hS hx1) (by decide)) ?_
      refine ok_if (fun c_4 => ?_) (fun c_4 => ?_)
      · have h_5 := iv.w (c := 32) (e := 32) (eq_l c_4 (by decide : iv (32 : Int32) 32 32)) (by decide)
        exact sX8_skipBlanks_J42__8_20 hS hx0 hx1 hx2 h_2 hB h_3 hK2 (Nat.le_refl _)
      · refine ok_if (fun c_6 => ?_) (fun c_6 => ?_)
        · have h_7 := iv.w (c := 9) (e := 9) (eq_l c_6 (by decide : iv (9 : Int32) 9 9)) (by decide)
          exact sX8_skipBlanks_J42__8_20 hS hx0 hx1 hx2 h_2 hB h_3 hK2 (Nat.le_refl _)
        · refine ok_if (fun c_8 => ?_) (fun c_8 => ?_)
          · have h_9 := iv.w (c := 10) (e := 10) (eq_l c_8 (by decide : iv (10 : Int32) 10 10)) (by decide)
            exact sX8_skipBlanks_J42__8_20 hS hx0 hx1 hx2 h_2 hB h_3 hK2 (Nat.le_refl _)
          · refine ok_if (fun c_10 => ?_) (fun c_10 => ?_)
            · have h_11 := iv.w (c := 13) (e := 13) (eq_l c_10 (by decide : iv (13 : Int32) 13 13)) (by decide)
              exact sX8_skipBlanks_J42__8_20 hS hx0 hx1 hx2 h_2 hB h_3 hK2 (Nat.le_refl _)
            · exact sX8_skipBlanks_J48__8_20 hS hx0 hx1 hx2 (iv.w h_2 (by decide)) hB
theorem sX8_skipBlanks__8_20 {g : Gs} (hS : Shp g) {b : Nat → Int} {x0 : Nat} (hx0 : cls x0 = 8) {x1 : Nat} (hx1 : cls x1 = 20) {x2 : Int32} (hx2 : iv x2 0 2000) {d : Ds} (hB : Bnd b d) (hr_x0_4 : iv (dI d x0 4) 0 401) : ok (fX8_skipBlanks 10000 g x0 x1 x2 d) (fun u d' => d' = d ∧ iv u 0 2000) := by
  unfold fX8_skipBlanks
  exact sX8_skipBlanks_L2__8_20 hS hx0 hx1 hx2 hx2 hB
def m_sX8_cut__8_20 : Nat := 0x100000000000000010000000000000001000000000000000000000000000000000000000000000000000000000000000000000000000000000000000000000000000000000000000000000000000000000000000000000000000000000000000000000000000000000000000000000000000000000000003000000000000000000000000000000000000000000000000000000000000000000000000000000000000000000000000000000000000000000000000000000000
theorem sX8_cut_J143__8_20 {g : Gs} (hS : Shp g) {b : Nat → Int} {d0 : Ds} {x0 : Nat} (hx0 : cls x0 = 8) {x1 : Nat} (hx1 : cls x1 = 20) {x2 : Int32} (hx2 : iv x2 0 2000) {y4 : Int32} (hy4 : iv y4 0 2000) {d : Ds} (hI : Inv m_sX8_cut__8_20 b d0 d) (hr_x0_4 : iv (dI d x0 4) 0 400) (hr_x0_5 : iv (dI d x0 5) 1 2000) {K28 : Int32 × Ds → Option (Unit × Ds)} {μ28 : Nat} (hK28 : ∀ a, Inv m_sX8_cut__8_20 b d0 a.2 ∧ iv a.1 0 2000 ∧ iv (dI a.2 x0 4) 0 401 ∧ True → (401 - (dI a.2 x0 4).toInt).toNat < μ28 → ok (K28 a) (fun u d' => Inv m_sX8_cut__8_20 b d0 d' ∧ True)) (hm28 : (401 - (dI d x0 4).toInt).toNat ≤ μ28) : ok (fX8_cut_J143 10000 g x0 x1 x2 K28 y4 d) (fun u d' => Inv m_sX8_cut__8_20 b d0 d' ∧ True) := by
  unfold fX8_cut_J143
  refine ok_gd (kd_8 hS hx0) ?_
  refine ok_bd (fun d44 e_1 => ?_)
  have h_2 := Inv.set e_1 hI (by rw [hx0]; exact (iv.w (iv_add (l := 1) (h := 401) hr_x0_4 (by decide : iv (1 : Int32) 1 1) (by decide)) (by decide))) (mO hx0 (by decide) (by decide +kernel)) (nO hx0 (by decide) (by decide +kernel))
  refine ok_cb (sX8_skipBlanks__8_20 hS hx0 hx1 hy4 h_2.1 (iv.w (rd_at e_1 (iv_add (l := 1) (h := 401) hr_x0_4 (by decide : iv (1 : Int32) 1 1) (by decide))) (by decide))) (fun u47 d45 r_3 => ?_)
  obtain ⟨rfl, h_5⟩ := r_3
  exact hK28 _ ⟨h_2, h_5, (iv.w (rd_at e_1 (iv_add (l := 1) (h := 401) hr_x0_4 (by decide : iv (1 : Int32) 1 1) (by decide))) (by decide)), trivial⟩ (Nat.lt_of_lt_of_le (ms_rd e_1 hr_x0_4 (by decide)) hm28)
theorem sX8_cut_J142__8_20_21__r8_20 {g : Gs} (hS : Shp g) {b : Nat → Int} {d0 : Ds} {x0 : Nat} (hx0 : cls x0 = 8) {x1 : Nat} (hx1 : cls x1 = 20) {x2 : Int32} (hx2 : iv x2 0 2000) {y4 : Int32} (hy4 : iv y4 1 2000) {z0 : Int32} (hz0 : iv z0 3 4) {z1 : Int32} (hz1 : iv z1 0 400) {z2 : Nat} (hz2 : cls z2 = 21) {d : Ds} (hI : Inv m_sX8_cut__8_20 b d0 d) (hr_x0_4 : iv (dI d x0 4) 0 400) (hr_x0_5 : iv (dI d x0 5) 1 2000) {K28 : Int32 × Ds → Option (Unit × Ds)} {μ28 : Nat} (hK28 : ∀ a, Inv m_sX8_cut__8_20 b d0 a.2 ∧ iv a.1 0 2000 ∧ iv (dI a.2 x0 4) 0 401 ∧ True → (401 - (dI a.2 x0 4).toInt).toNat < μ28 → ok (K28 a) (fun u d' => Inv m_sX8_cut__8_20 b d0 d' ∧ True)) (hm28 : (401 - (dI d x0 4).toInt).toNat ≤ μ28) : ok (fX8_cut_J142 10000 g x0 x1 x2 K28 y4 z0 z1 z2 d) (fun u d' => Inv m_sX8_cut__8_20 b d0 d' ∧ True) := by
  unfold fX8_cut_J142
  refine ok_gd (kd_21 hS hz2) ?_
  refine ok_gd (ixg hz1 (ln_21 hS hz2) (by decide)) ?_
  refine ok_bd (fun d42 e_1 => ?_)
  have h_2 := Inv.set e_1 hI (by rw [hz2]; exact trivial) (mA hz2 (by decide) (by decide +kernel)) (nA hz2 (by decide) (by decide +kernel))
  exact sX8_cut_J143__8_20 hS hx0 hx1 hx2 (iv.w hy4 (by decide)) h_2 (rd_sk e_1 (Or.inl (cl_ne hz2 hx0 (by decide))) hr_x0_4) (rd_sk e_1 (Or.inl (cl_ne hz2 hx0 (by decide))) hr_x0_5) hK28 (by rw [rdq e_1 (Or.inl (cl_ne hz2 hx0 (by decide)))]; exact hm28)
theorem sX8_cut_J164__8_20 {g : Gs} (hS : Shp g) {b : Nat → Int} {d0 : Ds} {x0 : Nat} (hx0 : cls x0 = 8) {x1 : Nat} (hx1 : cls x1 = 20) {x2 : Int32} (hx2 : iv x2 0 2000) {d : Ds} (hI : Inv m_sX8_cut__8_20 b d0 d) : ok (fX8_cut_J164 10000 g x0 x1 x2 d) (fun u d' => Inv m_sX8_cut__8_20 b d0 d' ∧ True) := by
  unfold fX8_cut_J164
  exact ok_some ⟨hI, trivial⟩
theorem sX8_cut_L28__8_20 {g : Gs} (hS : Shp g) {b : Nat → Int} {d0 : Ds} {x0 : Nat} (hx0 : cls x0 = 8) {x1 : Nat} (hx1 : cls x1 = 20) {x2 : Int32} (hx2 : iv x2 0 2000) {y3 : Int32} (hy3 : iv y3 0 2000) {d : Ds} (hI : Inv m_sX8_cut__8_20 b d0 d) (hr_x0_4 : iv (dI d x0 4) 0 401) : ok (fX8_cut_L28 10000 g x0 x1 x2 (y3, d)) (fun u d' => Inv m_sX8_cut__8_20 b d0 d' ∧ True) := by
  unfold fX8_cut_L28
  refine ok_lp (fun a => Inv m_sX8_cut__8_20 b d0 a.2 ∧ iv a.1 0 2000 ∧ iv (dI a.2 x0 4) 0 401 ∧ True) (fun a => (401 - (dI a.2 x0 4).toInt).toNat) ?_ 10000 _ ⟨hI, hy3, hr_x0_4, trivial⟩ (ms_b hr_x0_4 (by decide))
  · rintro K28 ⟨y3, d⟩ ⟨hI, hy3, hr_x0_4, -⟩ hK28
    (try dsimp only at hI hy3 hr_x0_4 hK28 ⊢)
    unfold fX8_cut_B28
    refine ok_gd (kd_8 hS hx0) ?_
    refine ok_if (fun c_1 => ?_) (fun c_1 => ?_)
    · exact sX8_cut_J164__8_20 hS hx0 hx1 hx2 hI
    · have h_2 := iv.w (c := 0) (e := 1999) (lt_l (nle c_1) hy3 (rd_8_5 hI.1 hx0)) (by decide)
      have h_3 := iv.w (c := 1) (e := 2000) (lt_r (nle c_1) hy3 (rd_8_5 hI.1 hx0)) (by decide)
      refine ok_if (fun c_4 => ?_) (fun c_4 => ?_)
      · have h_5 := iv.w (c := 401) (e := 401) (lt_r c_4 (by decide : iv (400 : Int32) 400 400) hr_x0_4) (by decide)
        exact sX8_cut_J164__8_20 hS hx0 hx1 hx2 hI
      · have h_6 := iv.w (c := 0) (e := 400) (le_l (nlt c_4) hr_x0_4 (by decide : iv (400 : Int32) 400 400)) (by decide)
        obtain ⟨r14, e_7, k_8⟩ := sh_8_1 hS hx0
        refine ok_ob e_7 ?_
        refine ok_gd (kd_22 hS k_8) ?_
        refine ok_gd (ixg h_6 (ln_22 hS k_8) (by decide)) ?_
        refine ok_bd (fun d17 e_9 => ?_)
        have h_10 := Inv.set e_9 hI (by rw [k_8]; exact trivial) (mA k_8 (by decide) (by decide +kernel)) (nA k_8 (by decide) (by decide +kernel))
        obtain ⟨r18, e_11, k_12⟩ := sh_8_3 hS hx0
        refine ok_ob e_11 ?_
        refine ok_gd (kd_24 hS k_12) ?_
        refine ok_gd (ixg (rd_sk e_9 (Or.inl (cl_ne k_8 hx0 (by decide))) h_6) (ln_24 hS k_12) (by decide)) ?_
        refine ok_gd wk_none ?_
        refine ok_bd (fun d22 e_13 => ?_)
        have h_14 := Inv.setW e_13 h_10 wk_none
        obtain ⟨r23, e_15, k_16⟩ := sh_8_2 hS hx0
        refine ok_ob e_15 ?_
        refine ok_gd (kd_23 hS k_16) ?_
        refine ok_gd (ixg (rd_sW e_13 (rd_sk e_9 (Or.inl (cl_ne k_8 hx0 (by decide))) h_6)) (ln_23 hS k_16) (by decide)) ?_
        refine ok_bd (fun d26 e_17 => ?_)
        have h_18 := Inv.set e_17 h_14 (by rw [k_16]; exact trivial) (mA k_16 (by decide) (by decide +kernel)) (nA k_16 (by decide) (by decide +kernel))
        refine ok_bd (fun u27 e_19 => ?_)
        have h_20 := iv_e e_19 (iv_add (l := 1) (h := 2000) h_2 (by decide : iv (1 : Int32) 1 1) (by decide))
        refine ok_gd (kd_20 hS hx1) ?_
        refine ok_gd (ixg h_2 (ln_20 hS hx1) (by decide)) ?_
        refine ok_cb (sX8_isLetter hS h_18.1) ?_
        rintro _ _ ⟨rfl, rfl | ⟨rfl, c_21, c_22⟩⟩
        · refine ok_if (fun c_23 => ?_) (fun c_23 => ?_)
          · refine ok_cb (sX8_isDigit hS h_18.1) ?_
            rintro _ _ ⟨rfl, rfl | ⟨rfl, c_24, c_25⟩⟩
            · refine ok_if (fun c_26 => ?_) (fun c_26 => ?_)
              · obtain ⟨r38, e_27, k_28⟩ := sh_8_0 hS hx0
                refine ok_ob e_27 ?_
                refine ok_if (fun c_29 => ?_) (fun c_29 => ?_)
                · have h_30 := iv.w (c := 59) (e := 59) (eq_l c_29 (by decide : iv (59 : Int32) 59 59)) (by decide)
                  exact sX8_cut_J142__8_20_21__r8_20 hS hx0 hx1 hx2 h_20 (iv.w (by decide : iv (3 : Int32) 3 3) (by decide)) (rd_sk e_17 (Or.inl (cl_ne k_16 hx0 (by decide))) (rd_sW e_13 (rd_sk e_9 (Or.inl (cl_ne k_8 hx0 (by decide))) h_6))) k_28 h_18 (rd_sk e_17 (Or.inl (cl_ne k_16 hx0 (by decide))) (rd_sW e_13 (rd_sk e_9 (Or.inl (cl_ne k_8 hx0 (by decide))) h_6))) (rd_sk e_17 (Or.inl (cl_ne k_16 hx0 (by decide))) (rd_sW e_13 (rd_sk e_9 (Or.inl (cl_ne k_8 hx0 (by decide))) h_3))) hK28 (by rw [rdq e_17 (Or.inl (cl_ne k_16 hx0 (by decide))), rdqW e_13, rdq e_9 (Or.inl (cl_ne k_8 hx0 (by decide)))]; exact Nat.le_refl _)
                · exact sX8_cut_J142__8_20_21__r8_20 hS hx0 hx1 hx2 h_20 (iv.w (by decide : iv (4 : Int32) 4 4) (by decide)) (rd_sk e_17 (Or.inl (cl_ne k_16 hx0 (by decide))) (rd_sW e_13 (rd_sk e_9 (Or.inl (cl_ne k_8 hx0 (by decide))) h_6))) k_28 h_18 (rd_sk e_17 (Or.inl (cl_ne k_16 hx0 (by decide))) (rd_sW e_13 (rd_sk e_9 (Or.inl (cl_ne k_8 hx0 (by decide))) h_6))) (rd_sk e_17 (Or.inl (cl_ne k_16 hx0 (by decide))) (rd_sW e_13 (rd_sk e_9 (Or.inl (cl_ne k_8 hx0 (by decide))) h_3))) hK28 (by rw [rdq e_17 (Or.inl (cl_ne k_16 hx0 (by decide))), rdqW e_13, rdq e_9 (Or.inl (cl_ne k_8 hx0 (by decide)))]; exact Nat.le_refl _)
              · exact (ne_no c_26 (by decide : iv (0 : Int32) 0 0) (by decide : iv (0 : Int32) 0 0))
            · have h_31 := iv.w (c := 48) (e := 2147483647) (le_r (nlt c_24) (by decide : iv (48 : Int32) 48 48) (ivT _)) (by decide)
              have h_32 := iv.w (c := 48) (e := 57) (le_l (nlt c_25) h_31 (by decide : iv (57 : Int32) 57 57)) (by decide)
              refine ok_if (fun c_33 => ?_) (fun c_33 => ?_)
              · exact (eq_no c_33 (by decide : iv (1 : Int32) 1 1) (by decide : iv (0 : Int32) 0 0) (by decide))
              · refine ok_cb (sX8_cutInt__8_20 hS hx0 hx1 h_2 h_18.1 (rd_sk e_17 (Or.inl (cl_ne k_16 hx0 (by decide))) (rd_sW e_13 (rd_sk e_9 (Or.inl (cl_ne k_8 hx0 (by decide))) h_6))) (rd_sk e_17 (Or.inl (cl_ne k_16 hx0 (by decide))) (rd_sW e_13 (rd_sk e_9 (Or.inl (cl_ne k_8 hx0 (by decide))) h_3)))) (fun u50 d48 r_34 => ?_)
                obtain ⟨h_35, h_36⟩ := r_34
                have h_37 := Inv.call h_18 h_35 (by decide +kernel)
                exact sX8_cut_J143__8_20 hS hx0 hx1 hx2 h_36 h_37 (rd_fO h_35 hx0 (by decide +kernel) (rd_sk e_17 (Or.inl (cl_ne k_16 hx0 (by decide))) (rd_sW e_13 (rd_sk e_9 (Or.inl (cl_ne k_8 hx0 (by decide))) h_6)))) (rd_fO h_35 hx0 (by decide +kernel) (rd_sk e_17 (Or.inl (cl_ne k_16 hx0 (by decide))) (rd_sW e_13 (rd_sk e_9 (Or.inl (cl_ne k_8 hx0 (by decide))) h_3)))) hK28 (by rw [rdqc h_35 hx0 (by decide +kernel), rdq e_17 (Or.inl (cl_ne k_16 hx0 (by decide))), rdqW e_13, rdq e_9 (Or.inl (cl_ne k_8 hx0 (by decide)))]; exact Nat.le_refl _)
          · exact (ne_no c_23 (by decide : iv (0 : Int32) 0 0) (by decide : iv (0 : Int32) 0 0))
        · have h_38 := iv.w (c := 97) (e := 2147483647) (le_r (nlt c_21) (by decide : iv (97 : Int32) 97 97) (ivT _)) (by decide)
          have h_39 := iv.w (c := 97) (e := 122) (le_l (nlt c_22) h_38 (by decide : iv (122 : Int32) 122 122)) (by decide)
          refine ok_if (fun c_40 => ?_) (fun c_40 => ?_)
          · exact (eq_no c_40 (by decide : iv (1 : Int32) 1 1) (by decide : iv (0 : Int32) 0 0) (by decide))
          · refine ok_cb (sX8_cutWord__8_20 hS hx0 hx1 h_2 h_18.1 (rd_sk e_17 (Or.inl (cl_ne k_16 hx0 (by decide))) (rd_sW e_13 (rd_sk e_9 (Or.inl (cl_ne k_8 hx0 (by decide))) h_6))) (rd_sk e_17 (Or.inl (cl_ne k_16 hx0 (by decide))) (rd_sW e_13 (rd_sk e_9 (Or.inl (cl_ne k_8 hx0 (by decide))) h_3)))) (fun u53 d51 r_41 => ?_)
            obtain ⟨h_42, h_43⟩ := r_41
            have h_44 := Inv.call h_18 h_42 (by decide +kernel)
            exact sX8_cut_J143__8_20 hS hx0 hx1 hx2 h_43 h_44 (rd_fO h_42 hx0 (by decide +kernel) (rd_sk e_17 (Or.inl (cl_ne k_16 hx0 (by decide))) (rd_sW e_13 (rd_sk e_9 (Or.inl (cl_ne k_8 hx0 (by decide))) h_6)))) (rd_fO h_42 hx0 (by decide +kernel) (rd_sk e_17 (Or.inl (cl_ne k_16 hx0 (by decide))) (rd_sW e_13 (rd_sk e_9 (Or.inl (cl_ne k_8 hx0 (by decide))) h_3)))) hK28 (by rw [rdqc h_42 hx0 (by decide +kernel), rdq e_17 (Or.inl (cl_ne k_16 hx0 (by decide))), rdqW e_13, rdq e_9 (Or.inl (cl_ne k_8 hx0 (by decide)))]; exact Nat.le_refl _)
theorem sX8_cut_J18__8_20_8__r8_20 {g : Gs} (hS : Shp g) {b : Nat → Int} {d0 : Ds} {x0 : Nat} (hx0 : cls x0 = 8) {x1 : Nat} (hx1 : cls x1 = 20) {x2 : Int32} (hx2 : iv x2 0 2000) {d : Ds} (hI : Inv m_sX8_cut__8_20 b d0 d) (hr_x0_4 : iv (dI d x0 4) 0 0) : ok (fX8_cut_J18 10000 g x0 x1 x2 x2 x0 d) (fun u d' => Inv m_sX8_cut__8_20 b d0 d' ∧ True) := by
  unfold fX8_cut_J18
  refine ok_gd (kd_8 hS hx0) ?_
  refine ok_bd (fun d6 e_1 => ?_)
  have h_2 := Inv.set e_1 hI (by rw [hx0]; exact hx2) (mO hx0 (by decide) (by decide +kernel)) (nO hx0 (by decide) (by decide +kernel))
  refine ok_gd (kd_8 hS hx0) ?_
  refine ok_cb (sX8_skipBlanks__8_20 hS hx0 hx1 (iv.w (by decide : iv (0 : Int32) 0 0) (by decide)) h_2.1 (iv.w (rd_sk e_1 (Or.inr (by decide)) hr_x0_4) (by decide))) (fun u10 d8 r_3 => ?_)
  obtain ⟨rfl, h_5⟩ := r_3
  exact sX8_cut_L28__8_20 hS hx0 hx1 hx2 h_5 h_2 (iv.w (rd_sk e_1 (Or.inr (by decide)) hr_x0_4) (by decide))
theorem sX8_cut__8_20 {g : Gs} (hS : Shp g) {b : Nat → Int} {x0 : Nat} (hx0 : cls x0 = 8) {x1 : Nat} (hx1 : cls x1 = 20) {x2 : Int32} (hx2 : iv x2 0 2000) {d : Ds} (hB : Bnd b d) : ok (fX8_cut 10000 g x0 x1 x2 d) (fun u d' => Inv m_sX8_cut__8_20 b d d' ∧ True) := by
  have hI : Inv m_sX8_cut__8_20 b d d := Inv.rf hB
  unfold fX8_cut
  refine ok_gd (kd_8 hS hx0) ?_
  refine ok_bd (fun d2 e_1 => ?_)
  have h_2 := Inv.set e_1 hI (by rw [hx0]; exact (iv.w (by decide : iv (0 : Int32) 0 0) (by decide))) (mO hx0 (by decide) (by decide +kernel)) (nO hx0 (by decide) (by decide +kernel))
  refine ok_gd (kd_20 hS hx1) ?_
  refine ok_if (fun c_3 => ?_) (fun c_3 => ?_)
  · exact (iv_no (lt_l c_3 (iv_len (ln_20 hS hx1) (by decide)) hx2) (by decide))
  · exact sX8_cut_J18__8_20_8__r8_20 hS hx0 hx1 hx2 h_2 (rd_at e_1 (by decide : iv (0 : Int32) 0 0))
theorem sX7_readTape__7_20 {g : Gs} (hS : Shp g) {b : Nat → Int} {x0 : Nat} (hx0 : cls x0 = 7) {x1 : Nat} (hx1 : cls x1 = 20) {x2 : Int32} (hx2 : iv x2 0 2000) {d : Ds} (hB : Bnd b d) : ok (fX7_readTape 10000 g x0 x1 x2 d) (fun u d' => Inv m_sX7_readTape__7_20 b d d' ∧ True ∧ (u = 0 → dI d' x0 8 = 0)) := by
  have hI : Inv m_sX7_readTape__7_20 b d d := Inv.rf hB
  unfold fX7_readTape
  refine ok_gd (kd_7 hS hx0) ?_
  obtain ⟨r2, e_1, k_2⟩ := sh_7_0 hS hx0
  refine ok_ob e_1 ?_
  refine ok_gd (kd_8 hS k_2) ?_
  refine ok_cv (sX8_cut__8_20 hS k_2 hx1 hx2 hI.1) (fun d4 r_3 => ?_)
  obtain ⟨h_4, h_5⟩ := r_3
  have h_6 := Inv.call hI h_4 (by decide +kernel)
  obtain ⟨r6, e_7, k_8⟩ := sh_7_2 hS hx0
  refine ok_ob e_7 ?_
  refine ok_gd (kd_12 hS k_8) ?_
  refine ok_cv (sX0_clear__12 hS k_8 h_6.1) (fun d8 r_9 => ?_)
  obtain ⟨h_10, h_11, x_11⟩ := r_9
  have h_12 := Inv.call h_6 h_10 (by decide +kernel)
  refine ok_bd (fun d10 e_13 => ?_)
  have h_14 := Inv.set e_13 h_12 (by rw [hx0]; exact (iv.w (by decide : iv (0 : Int32) 0 0) (by decide))) (mO hx0 (by decide) (by decide +kernel)) (nO hx0 (by decide) (by decide +kernel))
  refine ok_bd (fun d11 e_15 => ?_)
  have h_16 := Inv.set e_15 h_14 (by rw [hx0]; exact trivial) (mO hx0 (by decide) (by decide +kernel)) (nO hx0 (by decide) (by decide +kernel))
  refine ok_bd (fun d12 e_17 => ?_)
  have h_18 := Inv.setR e_17 h_16 (by rw [hx0]; exact trivial) (mO hx0 (by decide) (by decide +kernel)) (rel_78z e_17 hx0 h_16.1 (by rw [← dr_uniq k_8]; exact rd_sk e_15 (Or.inl (cl_ne hx0 k_8 (by decide))) (rd_sk e_13 (Or.inl (cl_ne hx0 k_8 (by decide))) x_11.1)) (by rw [← dr_uniq k_8]; exact rd_sk e_15 (Or.inl (cl_ne hx0 k_8 (by decide))) (rd_sk e_13 (Or.inl (cl_ne hx0 k_8 (by decide))) x_11.2.1)) (by rw [← dr_uniq k_8, rdq e_15 (Or.inl (cl_ne hx0 k_8 (by decide))), rdq e_13 (Or.inl (cl_ne hx0 k_8 (by decide)))]; exact x_11.2.2)) (fun h => absurd h (by decide +kernel))
  refine ok_cb (sX7_takeBoard__7 hS hx0 h_18.1 (rd_sk e_17 (Or.inr (by decide)) (rd_sk e_15 (Or.inr (by decide)) (rd_at e_13 (by decide : iv (0 : Int32) 0 0))))) (fun u15 d13 r_19 => ?_)
  obtain ⟨h_20, h_21⟩ := r_19
  have h_22 := Inv.call h_18 h_20 (by decide +kernel)
  exact sX7_readTape_L39__7_20 hS hx0 hx1 hx2 h_21 (iv.w (by decide : iv (0 : Int32) 0 0) (by decide)) h_22
theorem sX11_read__10 {g : Gs} (hS : Shp g) {b : Nat → Int} {x0 : Nat} (hx0 : cls x0 = 10) {d : Ds} (hB : Bnd b d) : ok (fX11_read 10000 g x0 d) (fun u d' => Inv m_sX11_read__10 b d d' ∧ True ∧ iv (dI d' x0 1) 0 0) := by
  have hI : Inv m_sX11_read__10 b d d := Inv.rf hB
  unfold fX11_read
  refine ok_gd (kd_10 hS hx0) ?_
  obtain ⟨r2, e_1, k_2⟩ := sh_10_3 hS hx0
  refine ok_ob e_1 ?_
  obtain ⟨r3, e_3, k_4⟩ := sh_10_0 hS hx0
  refine ok_ob e_3 ?_
  refine ok_gd (kd_7 hS k_2) ?_
  refine ok_cb (sX7_readTape__7_20 hS k_2 k_4 (rd_10_1 hI.1 hx0) hI.1) (fun u7 d5 r_5 => ?_)
  obtain ⟨h_6, h_7, x_7⟩ := r_5
  have h_8 := Inv.call hI h_6 (by decide +kernel)
  refine ok_bd (fun d8 e_9 => ?_)
  have h_10 := Inv.set e_9 h_8 (by rw [hx0]; exact (iv.w (by decide : iv (0 : Int32) 0 0) (by decide))) (mO hx0 (by decide) (by decide +kernel)) (nO hx0 (by decide) (by decide +kernel))
  refine ok_bd (fun d9 e_11 => ?_)
  have h_12 := Inv.set e_11 h_10 (by rw [hx0]; exact trivial) (mO hx0 (by decide) (by decide +kernel)) (nO hx0 (by decide) (by decide +kernel))
  refine ok_if (fun c_13 => ?_) (fun c_13 => ?_)
  · have h_14 := iv.w (c := 0) (e := 0) (eq_l c_13 (by decide : iv (0 : Int32) 0 0)) (by decide)
    obtain ⟨r11, e_15, k_16⟩ := sh_10_4 hS hx0
    refine ok_ob e_15 ?_
    obtain ⟨r12, e_17, k_18⟩ := sh_7_2 hS k_2
    refine ok_ob e_17 ?_
    refine ok_gd (kd_13 hS k_16) ?_
    refine ok_cv (sX0_copyFromR hS k_16 k_18 (by rw [rdq e_11 (Or.inl (fun z => by rw [← z] at hx0; revert hx0; decide +kernel)), rdq e_9 (Or.inl (fun z => by rw [← z] at hx0; revert hx0; decide +kernel))]; have q2 := x_7 c_13; rw [rd_uniq k_2] at q2; exact q2) h_12.1) (fun d14 r_19 => ?_)
    obtain ⟨h_20, h_21, x_21⟩ := r_19
    have h_22 := Inv.call h_12 h_20 (by decide +kernel)
    obtain ⟨r16, e_23, k_24, k_24o⟩ := sh_10_6 hS hx0
    refine ok_ob e_23 ?_
    refine ok_gd (kd_1 hS k_24) ?_
    refine ok_cv (sX1_clear__1 hS k_24 h_22.1) (fun d18 r_25 => ?_)
    obtain ⟨h_26, h_27⟩ := r_25
    have h_28 := Inv.call h_22 h_26 (by decide +kernel)
    refine ok_bd (fun d20 e_29 => ?_)
    have h_30 := Inv.set e_29 h_28 (by rw [hx0]; exact trivial) (mO hx0 (by decide) (by decide +kernel)) (nO hx0 (by decide) (by decide +kernel))
    exact sX11_read_J62__10 hS hx0 h_30 (rd_sk e_29 (Or.inr (by decide)) (rd_fO h_26 hx0 (by decide +kernel) (rd_fO h_20 hx0 (by decide +kernel) (rd_sk e_11 (Or.inr (by decide)) (rd_at e_9 (by decide : iv (0 : Int32) 0 0))))))
  · exact sX11_read_J62__10 hS hx0 h_12 (rd_sk e_11 (Or.inr (by decide)) (rd_at e_9 (by decide : iv (0 : Int32) 0 0)))
theorem sX11_place__10 {g : Gs} (hS : Shp g) {b : Nat → Int} {x0 : Nat} (hx0 : cls x0 = 10) {d : Ds} (hB : Bnd b d) : ok (fX11_place 10000 g x0 d) (fun u d' => d' = d ∧ (u = (dI d x0 2))) := by
  unfold fX11_place
  refine ok_gd (kd_10 hS hx0) ?_
  exact ok_some ⟨rfl, rfl⟩
theorem sX0_keys__13 {g : Gs} (hS : Shp g) {b : Nat → Int} {x0 : Nat} (hx0 : cls x0 = 13) {d : Ds} (hB : Bnd b d) : ok (fX0_keys 10000 g x0 d) (fun u d' => d' = d ∧ (u = ((dI d x0 0) * (dI d x0 1)))) := by
  unfold fX0_keys
  refine ok_gd (kd_13 hS hx0) ?_
  exact ok_some ⟨rfl, rfl⟩
theorem sX0_hasKey__13 {g : Gs} (hS : Shp g) {b : Nat → Int} {x0 : Nat} (hx0 : cls x0 = 13) {x1 : Int32} {d : Ds} (hB : Bnd b d) : ok (fX0_hasKey 10000 g x0 x1 d) (fun u d' => d' = d ∧ (u = 0 ∨ u = 1 ∧ ¬ (x1 < 0) ∧ ¬ (((dI d x0 0) * (dI d x0 1)) ≤ x1))) := by
  unfold fX0_hasKey
  refine ok_if (fun c_1 => ?_) (fun c_1 => ?_)
  · have h_2 := iv.w (c := (-2147483648)) (e := (-1)) (lt_l c_1 (ivT _) (by decide : iv (0 : Int32) 0 0)) (by decide)
    unfold fX0_hasKey_J16
    unfold fX0_hasKey_J17
    refine ok_gd (iv_b (by decide : iv (0 : Int32) 0 0) (by decide)) ?_
    exact ok_some ⟨rfl, Or.inl rfl⟩
  · have h_3 := iv.w (c := 0) (e := 2147483647) (le_r (nlt c_1) (by decide : iv (0 : Int32) 0 0) (ivT _)) (by decide)
    refine ok_gd (kd_13 hS hx0) ?_
    refine ok_cb (sX0_keys__13 hS hx0 hB) ?_
    rintro _ _ ⟨rfl, rfl⟩
    refine ok_if (fun c_4 => ?_) (fun c_4 => ?_)
    · unfold fX0_hasKey_J16
      unfold fX0_hasKey_J17
      refine ok_gd (iv_b (by decide : iv (0 : Int32) 0 0) (by decide)) ?_
      exact ok_some ⟨rfl, Or.inl rfl⟩
    · have h_5 := iv.w (c := 0) (e := 23) (lt_l (nle c_4) h_3 (iv_mul (l := 0) (h := 24) (rd_13_0 hB hx0) (rd_13_1 hB hx0) (by decide))) (by decide)
      have h_6 := iv.w (c := 1) (e := 24) (lt_r (nle c_4) h_3 (iv_mul (l := 0) (h := 24) (rd_13_0 hB hx0) (rd_13_1 hB hx0) (by decide))) (by decide)
      unfold fX0_hasKey_J17
      refine ok_gd (iv_b (by decide : iv (1 : Int32) 1 1) (by decide)) ?_
      exact ok_some ⟨rfl, Or.inr (⟨rfl, c_1, c_4⟩)⟩
theorem sX11_isIn {g : Gs} (hS : Shp g) {b : Nat → Int} {x0 : Int32} {x1 : Int32} (hx1 : iv x1 (-1) 23) {d : Ds} (hB : Bnd b d) : ok (fX11_isIn 10000 g x0 x1 d) (fun u d' => d' = d ∧ (u = 0 ∧ (((x0.toUInt32 >>> (x1.toUInt32 &&& (Int32.toUInt32 31))).toInt32 &&& 1) = 0) ∨ u = 1 ∧ ¬ (((x0.toUInt32 >>> (x1.toUInt32 &&& (Int32.toUInt32 31))).toInt32 &&& 1) = 0))) := by
  unfold fX11_isIn
  refine ok_if (fun c_1 => ?_) (fun c_1 => ?_)
  · have h_2 := iv.w (c := 0) (e := 0) (eq_l c_1 (by decide : iv (0 : Int32) 0 0)) (by decide)
    unfold fX11_isIn_J13
    refine ok_gd (iv_b (by decide : iv (0 : Int32) 0 0) (by decide)) ?_
    exact ok_some ⟨rfl, Or.inl ⟨rfl, c_1⟩⟩
  · have h_3 := iv.w (c := 1) (e := 1) (ne_lo c_1 (iv_and (by decide : iv (1 : Int32) 1 1) (by decide)) (by decide : iv (0 : Int32) 0 0)) (by decide)
    unfold fX11_isIn_J13
    refine ok_gd (iv_b (by decide : iv (1 : Int32) 1 1) (by decide)) ?_
    exact ok_some ⟨rfl, Or.inr (⟨rfl, c_1⟩)⟩
def m_sX11_press__10 : Nat := 0x1000000000000000000000000000000000000000000000000000000000000000000000000000000000000000000000000000000000000000000000000000000000000000000000000000000000000000000000000000000000000000000000000000000000000000000000000000000000000000000000000000000000000000000000000000000000000000000000000000000000000000000000000000000000000000000000000000000000000000e000000000000000000000000000000000000000000000007000000000000000000000000000000000000000000000000000000000000000000000000000000000000000000000000
theorem sX11_press_J31__10 {g : Gs} (hS : Shp g) {b : Nat → Int} {d0 : Ds} {x0 : Nat} (hx0 : cls x0 = 10) {x1 : Int32} {x2 : Int32} (hx2 : iv x2 0 1) {d : Ds} (hI : Inv m_sX11_press__10 b d0 d) : ok (fX11_press_J31 10000 g x0 x1 x2 d) (fun u d' => Inv m_sX11_press__10 b d0 d' ∧ iv u 0 1) := by
  unfold fX11_press_J31
  exact ok_some ⟨hI, (iv.w (by decide : iv (0 : Int32) 0 0) (by decide))⟩
def m_sX9_follow__9_13 : Nat := 0x1000000000000000000000000000000000000000000000000000000000000000000000000000000000000000000000000000000000000000000000000000000000000000000000000000000000000000000000000000000000000000000000000000000000000000000000000000000000000000000000000000000000000000000000000000000000000000000000000000000000000000000000000000000000000000000000000000000000000000e000000000000000000000000000000000000000000000000000000000000000000000000000000000000000000000000000000000000000000000000000000000000000000000000
theorem sX9_follow_J84__9_13 {g : Gs} (hS : Shp g) {b : Nat → Int} {d0 : Ds} {x0 : Nat} (hx0 : cls x0 = 9) {x1 : Nat} (hx1 : cls x1 = 13) {x2 : Int32} {y3 : Int32} (hy3 : iv y3 0 23) {d : Ds} (hI : Inv m_sX9_follow__9_13 b d0 d) (hr_x1_2 : iv (dI d x1 2) 0 0) {K31 : Int32 × Ds → Option (Unit × Ds)} {μ31 : Nat} (hK31 : ∀ a, Inv m_sX9_follow__9_13 b d0 a.2 ∧ iv a.1 0 24 ∧ iv (dI a.2 x1 2) 0 0 ∧ True → (24 - a.1.toInt).toNat < μ31 → ok (K31 a) (fun u d' => Inv m_sX9_follow__9_13 b d0 d' ∧ True)) (hm31 : (24 - y3.toInt).toNat ≤ μ31) : ok (fX9_follow_J84 10000 g x0 x1 x2 K31 y3 d) (fun u d' => Inv m_sX9_follow__9_13 b d0 d' ∧ True) := by
  unfold fX9_follow_J84
  refine ok_bd (fun u28 e_1 => ?_)
  have h_2 := iv_e e_1 (iv_add (l := 1) (h := 24) hy3 (by decide : iv (1 : Int32) 1 1) (by decide))
  exact hK31 _ ⟨hI, (iv.w h_2 (by decide)), hr_x1_2, trivial⟩ (Nat.lt_of_lt_of_le (ms_up (H := 24) e_1 hy3 (by decide : iv (1 : Int32) 1 1) (by decide)) hm31)
theorem sJ6_bitCount_0f7a4 {g : Gs} (hS : Shp g) {b : Nat → Int} {x0 : Int32} {d : Ds} (hB : Bnd b d) : ok (fJ6_bitCount_0f7a4 10000 g x0 d) (fun u d' => d' = d ∧ (u = ((((((((x0 - ((x0.toUInt32 >>> ((1 : Int32).toUInt32 &&& (Int32.toUInt32 31))).toInt32 &&& 1431655765)) &&& 858993459) + (((x0 - ((x0.toUInt32 >>> ((1 : Int32).toUInt32 &&& (Int32.toUInt32 31))).toInt32 &&& 1431655765)).toUInt32 >>> ((2 : Int32).toUInt32 &&& (Int32.toUInt32 31))).toInt32 &&& 858993459)) + ((((x0 - ((x0.toUInt32 >>> ((1 : Int32).toUInt32 &&& (Int32.toUInt32 31))).toInt32 &&& 1431655765)) &&& 858993459) + (((x0 - ((x0.toUInt32 >>> ((1 : Int32).toUInt32 &&& (Int32.toUInt32 31))).toInt32 &&& 1431655765)).toUInt32 >>> ((2 : Int32).toUInt32 &&& (Int32.toUInt32 31))).toInt32 &&& 858993459)).toUInt32 >>> ((4 : Int32).toUInt32 &&& (Int32.toUInt32 31))).toInt32) &&& 252645135) + ((((((x0 - ((x0.toUInt32 >>> ((1 : Int32).toUInt32 &&& (Int32.toUInt32 31))).toInt32 &&& 1431655765)) &&& 858993459) + (((x0 - ((x0.toUInt32 >>> ((1 : Int32).toUInt32 &&& (Int32.toUInt32 31))).toInt32 &&& 1431655765)).toUInt32 >>> ((2 : Int32).toUInt32 &&& (Int32.toUInt32 31))).toInt32 &&& 858993459)) + ((((x0 - ((x0.toUInt32 >>> ((1 : Int32).toUInt32 &&& (Int32.toUInt32 31))).toInt32 &&& 1431655765)) &&& 858993459) + (((x0 - ((x0.toUInt32 >>> ((1 : Int32).toUInt32 &&& (Int32.toUInt32 31))).toInt32 &&& 1431655765)).toUInt32 >>> ((2 : Int32).toUInt32 &&& (Int32.toUInt32 31))).toInt32 &&& 858993459)).toUInt32 >>> ((4 : Int32).toUInt32 &&& (Int32.toUInt32 31))).toInt32) &&& 252645135).toUInt32 >>> ((8 : Int32).toUInt32 &&& (Int32.toUInt32 31))).toInt32) + (((((((x0 - ((x0.toUInt32 >>> ((1 : Int32).toUInt32 &&& (Int32.toUInt32 31))).toInt32 &&& 1431655765)) &&& 858993459) + (((x0 - ((x0.toUInt32 >>> ((1 : Int32).toUInt32 &&& (Int32.toUInt32 31))).toInt32 &&& 1431655765)).toUInt32 >>> ((2 : Int32).toUInt32 &&& (Int32.toUInt32 31))).toInt32 &&& 858993459)) + ((((x0 - ((x0.toUInt32 >>> ((1 : Int32).toUInt32 &&& (Int32.toUInt32 31))).toInt32 &&& 1431655765)) &&& 858993459) + (((x0 - ((x0.toUInt32 >>> ((1 : Int32).toUInt32 &&& (Int32.toUInt32 31))).toInt32 &&& 1431655765)).toUInt32 >>> ((2 : Int32).toUInt32 &&& (Int32.toUInt32 31))).toInt32 &&& 858993459)).toUInt32 >>> ((4 : Int32).toUInt32 &&& (Int32.toUInt32 31))).toInt32) &&& 252645135) + ((((((x0 - ((x0.toUInt32 >>> ((1 : Int32).toUInt32 &&& (Int32.toUInt32 31))).toInt32 &&& 1431655765)) &&& 858993459) + (((x0 - ((x0.toUInt32 >>> ((1 : Int32).toUInt32 &&& (Int32.toUInt32 31))).toInt32 &&& 1431655765)).toUInt32 >>> ((2 : Int32).toUInt32 &&& (Int32.toUInt32 31))).toInt32 &&& 858993459)) + ((((x0 - ((x0.toUInt32 >>> ((1 : Int32).toUInt32 &&& (Int32.toUInt32 31))).toInt32 &&& 1431655765)) &&& 858993459) + (((x0 - ((x0.toUInt32 >>> ((1 : Int32).toUInt32 &&& (Int32.toUInt32 31))).toInt32 &&& 1431655765)).toUInt32 >>> ((2 : Int32).toUInt32 &&& (Int32.toUInt32 31))).toInt32 &&& 858993459)).toUInt32 >>> ((4 : Int32).toUInt32 &&& (Int32.toUInt32 31))).toInt32) &&& 252645135).toUInt32 >>> ((8 : Int32).toUInt32 &&& (Int32.toUInt32 31))).toInt32).toUInt32 >>> ((16 : Int32).toUInt32 &&& (Int32.toUInt32 31))).toInt32) &&& 63))) := by
  unfold fJ6_bitCount_0f7a4
  refine ok_bd (fun u1 e_1 => ?_)
  subst e_1
  refine ok_bd (fun u2 e_2 => ?_)
  subst e_2
  refine ok_bd (fun u3 e_3 => ?_)
  subst e_3
  refine ok_bd (fun u4 e_4 => ?_)
  subst e_4
  refine ok_bd (fun u5 e_5 => ?_)
  subst e_5
  exact ok_some ⟨rfl, rfl⟩
def m_sX9_bar__9_13 : Nat := 0x8000000000000000000000000000000000000000000000000000000000000000000000000000000000000000000000000000000000000000000000000000000000000000000000000
theorem sX9_bar_J86__9_13 {g : Gs} (hS : Shp g) {b : Nat → Int} {d0 : Ds} {x0 : Nat} (hx0 : cls x0 = 9) {x1 : Nat} (hx1 : cls x1 = 13) {x2 : Int32} (hx2 : iv x2 0 3) {y4 : Int32} {y5 : Int32} (hy5 : iv y5 0 3) {d : Ds} (hI : Inv m_sX9_bar__9_13 b d0 d) (hr_x1_0 : iv (dI d x1 0) 1 4) (hr_x1_2 : iv (dI d x1 2) 0 0) {K27 : Int32 × Int32 × Ds → Option (Unit × Ds)} {μ27 : Nat} (hK27 : ∀ a, Inv m_sX9_bar__9_13 b d0 a.2.2 ∧ iv a.2.1 0 4 ∧ iv (dI a.2.2 x1 0) 1 4 ∧ iv (dI a.2.2 x1 2) 0 0 ∧ True → (4 - a.2.1.toInt).toNat < μ27 → ok (K27 a) (fun u d' => Inv m_sX9_bar__9_13 b d0 d' ∧ True)) (hm27 : (4 - y5.toInt).toNat ≤ μ27) : ok (fX9_bar_J86 10000 g x0 x1 x2 K27 y4 y5 d) (fun u d' => Inv m_sX9_bar__9_13 b d0 d' ∧ True) := by
  unfold fX9_bar_J86
  refine ok_bd (fun u10 e_1 => ?_)
  have h_2 := iv_e e_1 (iv_add (l := 1) (h := 4) hy5 (by decide : iv (1 : Int32) 1 1) (by decide))
  exact hK27 _ ⟨hI, (iv.w h_2 (by decide)), hr_x1_0, hr_x1_2, trivial⟩ (Nat.lt_of_lt_of_le (ms_up (H := 4) e_1 hy5 (by decide : iv (1 : Int32) 1 1) (by decide)) hm27)
theorem sX9_bar_L27__9_13 {g : Gs} (hS : Shp g) {b : Nat → Int} {d0 : Ds} {x0 : Nat} (hx0 : cls x0 = 9) {x1 : Nat} (hx1 : cls x1 = 13) {x2 : Int32} (hx2 : iv x2 0 3) {y4 : Int32} {y5 : Int32} (hy5 : iv y5 0 4) {d : Ds} (hI : Inv m_sX9_bar__9_13 b d0 d) (hr_x1_0 : iv (dI d x1 0) 1 4) (hr_x1_2 : iv (dI d x1 2) 0 0) : ok (fX9_bar_L27 10000 g x0 x1 x2 (y4, y5, d)) (fun u d' => Inv m_sX9_bar__9_13 b d0 d' ∧ True) := by
  unfold fX9_bar_L27
  refine ok_lp (fun a => Inv m_sX9_bar__9_13 b d0 a.2.2 ∧ iv a.2.1 0 4 ∧ iv (dI a.2.2 x1 0) 1 4 ∧ iv (dI a.2.2 x1 2) 0 0 ∧ True) (fun a => (4 - a.2.1.toInt).toNat) ?_ 10000 _ ⟨hI, hy5, hr_x1_0, hr_x1_2, trivial⟩ (ms_b hy5 (by decide))
  · rintro K27 ⟨y4, y5, d⟩ ⟨hI, hy5, hr_x1_0, hr_x1_2, -⟩ hK27
    (try dsimp only at hI hy5 hr_x1_0 hr_x1_2 hK27 ⊢)
    unfold fX9_bar_B27
    refine ok_gd (kd_13 hS hx1) ?_
    refine ok_if (fun c_1 => ?_) (fun c_1 => ?_)
    · have h_2 := iv.w (c := 1) (e := 4) (le_r c_1 hr_x1_0 hy5) (by decide)
      exact ok_some ⟨hI, trivial⟩
    · have h_3 := iv.w (c := 0) (e := 3) (lt_l (nle c_1) hy5 hr_x1_0) (by decide)
      refine ok_gd (kd_9 hS hx0) ?_
      refine ok_bd (fun u8 e_4 => ?_)
      refine ok_if (fun c_6 => ?_) (fun c_6 => ?_)
      · exact sX9_bar_J86__9_13 hS hx0 hx1 hx2 h_3 hI hr_x1_0 hr_x1_2 hK27 (Nat.le_refl _)
      · refine ok_cb (sJ6_bitCount_0f7a4 hS hI.1) ?_
        rintro _ _ ⟨rfl, rfl⟩
        refine ok_if (fun c_7 => ?_) (fun c_7 => ?_)
        · have h_8 := iv.w (c := 0) (e := 1) (le_l c_7 (iv_and (by decide : iv (63 : Int32) 63 63) (by decide)) (by decide : iv (1 : Int32) 1 1)) (by decide)
          exact sX9_bar_J86__9_13 hS hx0 hx1 hx2 h_3 hI hr_x1_0 hr_x1_2 hK27 (Nat.le_refl _)
        · have h_9 := iv.w (c := 2) (e := 63) (lt_r (nle c_7) (by decide : iv (1 : Int32) 1 1) (iv_and (by decide : iv (63 : Int32) 63 63) (by decide))) (by decide)
          refine ok_bd (fun d15 e_10 => ?_)
          have h_11 := Inv.set e_10 hI (by rw [hx0]; exact trivial) (mO hx0 (by decide) (by decide +kernel)) (nO hx0 (by decide) (by decide +kernel))
          exact sX9_bar_J86__9_13 hS hx0 hx1 hx2 h_3 h_11 (rd_sk e_10 (Or.inl (cl_ne hx0 hx1 (by decide))) hr_x1_0) (rd_sk e_10 (Or.inl (cl_ne hx0 hx1 (by decide))) hr_x1_2) hK27 (Nat.le_refl _)
theorem sX9_bar__9_13 {g : Gs} (hS : Shp g) {b : Nat → Int} {x0 : Nat} (hx0 : cls x0 = 9) {x1 : Nat} (hx1 : cls x1 = 13) {x2 : Int32} (hx2 : iv x2 0 3) {d : Ds} (hB : Bnd b d) (hr_x1_0 : iv (dI d x1 0) 1 4) (hr_x1_2 : iv (dI d x1 2) 0 0) : ok (fX9_bar 10000 g x0 x1 x2 d) (fun u d' => Inv m_sX9_bar__9_13 b d d' ∧ True) := by
  have hI : Inv m_sX9_bar__9_13 b d d := Inv.rf hB
  unfold fX9_bar
  refine ok_gd (kd_13 hS hx1) ?_
  refine ok_bd (fun u2 e_1 => ?_)
  refine ok_gd (kd_9 hS hx0) ?_
  refine ok_bd (fun u4 e_3 => ?_)
  exact sX9_bar_L27__9_13 hS hx0 hx1 hx2 (iv.w (by decide : iv (0 : Int32) 0 0) (by decide)) hI hr_x1_0 hr_x1_2
theorem sX9_follow_L97__9_13 {g : Gs} (hS : Shp g) {b : Nat → Int} {d0 : Ds} {x0 : Nat} (hx0 : cls x0 = 9) {x1 : Nat} (hx1 : cls x1 = 13) {x2 : Int32} {y3 : Int32} (hy3 : iv y3 0 4) {d : Ds} (hI : Inv m_sX9_follow__9_13 b d0 d) (hr_x1_2 : iv (dI d x1 2) 0 0) : ok (fX9_follow_L97 10000 g x0 x1 x2 (y3, d)) (fun u d' => Inv m_sX9_follow__9_13 b d0 d' ∧ True) := by
  unfold fX9_follow_L97
  refine ok_lp (fun a => Inv m_sX9_follow__9_13 b d0 a.2 ∧ iv a.1 0 4 ∧ iv (dI a.2 x1 2) 0 0 ∧ True) (fun a => (4 - a.1.toInt).toNat) ?_ 10000 _ ⟨hI, hy3, hr_x1_2, trivial⟩ (ms_b hy3 (by decide))
  · rintro K97 ⟨y3, d⟩ ⟨hI, hy3, hr_x1_2, -⟩ hK97
    (try dsimp only at hI hy3 hr_x1_2 hK97 ⊢)
    unfold fX9_follow_B97
    refine ok_gd (kd_13 hS hx1) ?_
    refine ok_if (fun c_1 => ?_) (fun c_1 => ?_)
    · exact ok_some ⟨hI, trivial⟩
    · have h_2 := iv.w (c := 0) (e := 3) (lt_l (nle c_1) hy3 (rd_13_0 hI.1 hx1)) (by decide)
      have h_3 := iv.w (c := 1) (e := 4) (lt_r (nle c_1) hy3 (rd_13_0 hI.1 hx1)) (by decide)
      refine ok_gd (kd_9 hS hx0) ?_
      refine ok_cv (sX9_bar__9_13 hS hx0 hx1 h_2 hI.1 h_3 hr_x1_2) (fun d17 r_4 => ?_)
      obtain ⟨h_5, h_6⟩ := r_4
      have h_7 := Inv.call hI h_5 (by decide +kernel)
      refine ok_bd (fun u19 e_8 => ?_)
      have h_9 := iv_e e_8 (iv_add (l := 1) (h := 4) h_2 (by decide : iv (1 : Int32) 1 1) (by decide))
      exact hK97 _ ⟨h_7, (iv.w h_9 (by decide)), (rd_fO h_5 hx1 (by decide +kernel) hr_x1_2), trivial⟩ (ms_up (H := 4) e_8 h_2 (by decide : iv (1 : Int32) 1 1) (by decide))
theorem sX9_follow_J90__9_13 {g : Gs} (hS : Shp g) {b : Nat → Int} {d0 : Ds} {x0 : Nat} (hx0 : cls x0 = 9) {x1 : Nat} (hx1 : cls x1 = 13) {x2 : Int32} {d : Ds} (hI : Inv m_sX9_follow__9_13 b d0 d) (hr_x1_2 : iv (dI d x1 2) 0 0) : ok (fX9_follow_J90 10000 g x0 x1 x2 d) (fun u d' => Inv m_sX9_follow__9_13 b d0 d' ∧ True) := by
  unfold fX9_follow_J90
  refine ok_gd (kd_9 hS hx0) ?_
  refine ok_bd (fun d13 e_1 => ?_)
  have h_2 := Inv.set e_1 hI (by rw [hx0]; exact trivial) (mO hx0 (by decide) (by decide +kernel)) (nO hx0 (by decide) (by decide +kernel))
  exact sX9_follow_L97__9_13 hS hx0 hx1 (iv.w (by decide : iv (0 : Int32) 0 0) (by decide)) h_2 (rd_sk e_1 (Or.inl (cl_ne hx0 hx1 (by decide))) hr_x1_2)
theorem sX9_follow_L31__9_13 {g : Gs} (hS : Shp g) {b : Nat → Int} {d0 : Ds} {x0 : Nat} (hx0 : cls x0 = 9) {x1 : Nat} (hx1 : cls x1 = 13) {x2 : Int32} {y3 : Int32} (hy3 : iv y3 0 24) {d : Ds} (hI : Inv m_sX9_follow__9_13 b d0 d) (hr_x1_2 : iv (dI d x1 2) 0 0) : ok (fX9_follow_L31 10000 g x0 x1 x2 (y3, d)) (fun u d' => Inv m_sX9_follow__9_13 b d0 d' ∧ True) := by
  unfold fX9_follow_L31
  refine ok_lp (fun a => Inv m_sX9_follow__9_13 b d0 a.2 ∧ iv a.1 0 24 ∧ iv (dI a.2 x1 2) 0 0 ∧ True) (fun a => (24 - a.1.toInt).toNat) ?_ 10000 _ ⟨hI, hy3, hr_x1_2, trivial⟩ (ms_b hy3 (by decide))
  · rintro K31 ⟨y3, d⟩ ⟨hI, hy3, hr_x1_2, -⟩ hK31
    (try dsimp only at hI hy3 hr_x1_2 hK31 ⊢)
    unfold fX9_follow_B31
    refine ok_gd (kd_13 hS hx1) ?_
    refine ok_cb (sX0_hasKey__13 hS hx1 hI.1) ?_
    rintro _ _ ⟨rfl, rfl | ⟨rfl, c_1, c_2⟩⟩
    · refine ok_if (fun c_3 => ?_) (fun c_3 => ?_)
      · exact sX9_follow_J90__9_13 hS hx0 hx1 hI hr_x1_2
      · exact (ne_no c_3 (by decide : iv (0 : Int32) 0 0) (by decide : iv (0 : Int32) 0 0))
    · have h_4 := iv.w (c := 0) (e := 23) (lt_l (nle c_2) hy3 (iv_mul (l := 0) (h := 24) (rd_13_0 hI.1 hx1) (rd_13_1 hI.1 hx1) (by decide))) (by decide)
      have h_5 := iv.w (c := 1) (e := 24) (lt_r (nle c_2) hy3 (iv_mul (l := 0) (h := 24) (rd_13_0 hI.1 hx1) (rd_13_1 hI.1 hx1) (by decide))) (by decide)
      refine ok_if (fun c_6 => ?_) (fun c_6 => ?_)
      · exact (eq_no c_6 (by decide : iv (1 : Int32) 1 1) (by decide : iv (0 : Int32) 0 0) (by decide))
      · refine ok_if (fun c_7 => ?_) (fun c_7 => ?_)
        · exact (iv_no (le_l c_7 (by decide : iv (24 : Int32) 24 24) h_4) (by decide))
        · refine ok_gd (kd_9 hS hx0) ?_
          obtain ⟨r22, e_8, k_9⟩ := sh_9_0 hS hx0
          refine ok_ob e_8 ?_
          refine ok_gd (iv_nz (iv_row (nle c_2) h_4 (rd_13_0 hI.1 hx1) (rd_13_1 hI.1 hx1) (by decide)).2 (by decide)) ?_
          refine ok_gd (kd_31 hS k_9) ?_
          refine ok_gd (ixg (iv_row (nle c_2) h_4 (rd_13_0 hI.1 hx1) (rd_13_1 hI.1 hx1) (by decide)).1 (ln_31 hS k_9) (by decide)) ?_
          refine ok_gd (ixg (iv_add (l := 4) (h := 9) (by decide : iv (4 : Int32) 4 4) (iv.w (c := 0) (e := 5) (iv_rem h_4 (iv_row (nle c_2) h_4 (rd_13_0 hI.1 hx1) (rd_13_1 hI.1 hx1) (by decide)).2 (by decide)) (by decide)) (by decide)) (ln_31 hS k_9) (by decide)) ?_
          refine ok_if (fun c_10 => ?_) (fun c_10 => ?_)
          · refine ok_bd (fun d29 e_11 => ?_)
            have h_12 := Inv.set e_11 hI (by rw [hx0]; exact trivial) (mO hx0 (by decide) (by decide +kernel)) (nO hx0 (by decide) (by decide +kernel))
            exact sX9_follow_J84__9_13 hS hx0 hx1 h_4 h_12 (rd_sk e_11 (Or.inl (cl_ne hx0 hx1 (by decide))) hr_x1_2) hK31 (Nat.le_refl _)
          · exact sX9_follow_J84__9_13 hS hx0 hx1 h_4 hI hr_x1_2 hK31 (Nat.le_refl _)
def m_sX9_join__9_13 : Nat := 0x10000000000000000000000000000000000000000000000000000000000000000000000000000000000000000000000000000000000000000000000000000000000000000000000000000000000000000000000000000000000000000000000000000000000000000000000000000000000000000000000000000000000000000000000000000000000000000000000000000000000000000000000000000000000000000000000000000000000000002000000000000000000000000000000000000000000000000000000000000000000000000000000000000000000000000000000000000000000000000000000000000000000000000
theorem sX9_join_J146__9_13 {g : Gs} (hS : Shp g) {b : Nat → Int} {d0 : Ds} {x0 : Nat} (hx0 : cls x0 = 9) {x1 : Nat} (hx1 : cls x1 = 13) {x2 : Int32} {y3 : Int32} (hy3 : iv y3 0 23) {d : Ds} (hI : Inv m_sX9_join__9_13 b d0 d) {K39 : Int32 × Ds → Option (Unit × Ds)} {μ39 : Nat} (hK39 : ∀ a, Inv m_sX9_join__9_13 b d0 a.2 ∧ iv a.1 0 24 ∧ True → (24 - a.1.toInt).toNat < μ39 → ok (K39 a) (fun u d' => Inv m_sX9_join__9_13 b d0 d' ∧ True)) (hm39 : (24 - y3.toInt).toNat ≤ μ39) : ok (fX9_join_J146 10000 g x0 x1 x2 K39 y3 d) (fun u d' => Inv m_sX9_join__9_13 b d0 d' ∧ True) := by
  unfold fX9_join_J146
  refine ok_bd (fun u25 e_1 => ?_)
  have h_2 := iv_e e_1 (iv_add (l := 1) (h := 24) hy3 (by decide : iv (1 : Int32) 1 1) (by decide))
  exact hK39 _ ⟨hI, (iv.w h_2 (by decide)), trivial⟩ (Nat.lt_of_lt_of_le (ms_up (H := 24) e_1 hy3 (by decide : iv (1 : Int32) 1 1) (by decide)) hm39)
theorem sX9_join_J152__9_13 {g : Gs} (hS : Shp g) {b : Nat → Int} {d0 : Ds} {x0 : Nat} (hx0 : cls x0 = 9) {x1 : Nat} (hx1 : cls x1 = 13) {x2 : Int32} {d : Ds} (hI : Inv m_sX9_join__9_13 b d0 d) : ok (fX9_join_J152 10000 g x0 x1 x2 d) (fun u d' => Inv m_sX9_join__9_13 b d0 d' ∧ True) := by
  unfold fX9_join_J152
  exact ok_some ⟨hI, trivial⟩
theorem sX9_join_J140__9_13 {g : Gs} (hS : Shp g) {b : Nat → Int} {d0 : Ds} {x0 : Nat} (hx0 : cls x0 = 9) {x1 : Nat} (hx1 : cls x1 = 13) {x2 : Int32} {y3 : Int32} (hy3 : iv y3 0 23) {y4 : Int32} {y5 : Int32} {y6 : Int32} (hy6 : iv y6 0 9) {d : Ds} (hI : Inv m_sX9_join__9_13 b d0 d) {K39 : Int32 × Ds → Option (Unit × Ds)} {μ39 : Nat} (hK39 : ∀ a, Inv m_sX9_join__9_13 b d0 a.2 ∧ iv a.1 0 24 ∧ True → (24 - a.1.toInt).toNat < μ39 → ok (K39 a) (fun u d' => Inv m_sX9_join__9_13 b d0 d' ∧ True)) (hm39 : (24 - y3.toInt).toNat ≤ μ39) {K109 : Int32 × Int32 × Int32 × Int32 × Ds → Option (Unit × Ds)} {μ109 : Nat} (hK109 : ∀ a, Inv m_sX9_join__9_13 b d0 a.2.2.2.2 ∧ iv a.1 0 23 ∧ iv a.2.2.2.1 0 10 ∧ (24 - a.1.toInt).toNat ≤ μ39 ∧ True → (10 - a.2.2.2.1.toInt).toNat < μ109 → ok (K109 a) (fun u d' => Inv m_sX9_join__9_13 b d0 d' ∧ True)) (hm109 : (10 - y6.toInt).toNat ≤ μ109) : ok (fX9_join_J140 10000 g x0 x1 x2 K39 K109 y3 y4 y5 y6 d) (fun u d' => Inv m_sX9_join__9_13 b d0 d' ∧ True) := by
  unfold fX9_join_J140
  refine ok_bd (fun u34 e_1 => ?_)
  have h_2 := iv_e e_1 (iv_add (l := 1) (h := 10) hy6 (by decide : iv (1 : Int32) 1 1) (by decide))
  exact hK109 _ ⟨hI, hy3, (iv.w h_2 (by decide)), hm39, trivial⟩ (Nat.lt_of_lt_of_le (ms_up (H := 10) e_1 hy6 (by decide : iv (1 : Int32) 1 1) (by decide)) hm109)
theorem sX9_join_L109__9_13 {g : Gs} (hS : Shp g) {b : Nat → Int} {d0 : Ds} {x0 : Nat} (hx0 : cls x0 = 9) {x1 : Nat} (hx1 : cls x1 = 13) {x2 : Int32} {y3 : Int32} (hy3 : iv y3 0 23) {y4 : Int32} {y5 : Int32} {y6 : Int32} (hy6 : iv y6 0 10) {d : Ds} (hI : Inv m_sX9_join__9_13 b d0 d) {K39 : Int32 × Ds → Option (Unit × Ds)} {μ39 : Nat} (hK39 : ∀ a, Inv m_sX9_join__9_13 b d0 a.2 ∧ iv a.1 0 24 ∧ True → (24 - a.1.toInt).toNat < μ39 → ok (K39 a) (fun u d' => Inv m_sX9_join__9_13 b d0 d' ∧ True)) (hm39 : (24 - y3.toInt).toNat ≤ μ39) : ok (fX9_join_L109 10000 g x0 x1 x2 K39 (y3, y4, y5, y6, d)) (fun u d' => Inv m_sX9_join__9_13 b d0 d' ∧ True) := by
  unfold fX9_join_L109
  refine ok_lp (fun a => Inv m_sX9_join__9_13 b d0 a.2.2.2.2 ∧ iv a.1 0 23 ∧ iv a.2.2.2.1 0 10 ∧ (24 - a.1.toInt).toNat ≤ μ39 ∧ True) (fun a => (10 - a.2.2.2.1.toInt).toNat) ?_ 10000 _ ⟨hI, hy3, hy6, hm39, trivial⟩ (ms_b hy6 (by decide))
  · rintro K109 ⟨y3, y4, y5, y6, d⟩ ⟨hI, hy3, hy6, hm39, -⟩ hK109
    (try dsimp only at hI hy3 hy6 hm39 hK109 ⊢)
    unfold fX9_join_B109
    refine ok_gd (kd_9 hS hx0) ?_
    obtain ⟨r29, e_1, k_2⟩ := sh_9_0 hS hx0
    refine ok_ob e_1 ?_
    refine ok_gd (kd_31 hS k_2) ?_
    refine ok_if (fun c_3 => ?_) (fun c_3 => ?_)
    · have h_4 := iv.w (c := 10) (e := 10) (le_r c_3 (iv_len (ln_31 hS k_2) (by decide)) hy6) (by decide)
      exact sX9_join_J146__9_13 hS hx0 hx1 hy3 hI hK39 hm39
    · have h_5 := iv.w (c := 0) (e := 9) (lt_l (nle c_3) hy6 (iv_len (ln_31 hS k_2) (by decide))) (by decide)
      refine ok_gd (ixg h_5 (ln_31 hS k_2) (by decide)) ?_
      refine ok_if (fun c_6 => ?_) (fun c_6 => ?_)
      · refine ok_bd (fun d35 e_7 => ?_)
        have h_8 := Inv.set e_7 hI (by rw [k_2]; exact trivial) (mA k_2 (by decide) (by decide +kernel)) (nA k_2 (by decide) (by decide +kernel))
        exact sX9_join_J140__9_13 hS hx0 hx1 hy3 h_5 h_8 hK39 hm39 hK109 (Nat.le_refl _)
      · exact sX9_join_J140__9_13 hS hx0 hx1 hy3 h_5 hI hK39 hm39 hK109 (Nat.le_refl _)
theorem sX9_join_L39__9_13 {g : Gs} (hS : Shp g) {b : Nat → Int} {d0 : Ds} {x0 : Nat} (hx0 : cls x0 = 9) {x1 : Nat} (hx1 : cls x1 = 13) {x2 : Int32} {y3 : Int32} (hy3 : iv y3 0 24) {d : Ds} (hI : Inv m_sX9_join__9_13 b d0 d) : ok (fX9_join_L39 10000 g x0 x1 x2 (y3, d)) (fun u d' => Inv m_sX9_join__9_13 b d0 d' ∧ True) := by
  unfold fX9_join_L39
  refine ok_lp (fun a => Inv m_sX9_join__9_13 b d0 a.2 ∧ iv a.1 0 24 ∧ True) (fun a => (24 - a.1.toInt).toNat) ?_ 10000 _ ⟨hI, hy3, trivial⟩ (ms_b hy3 (by decide))
  · rintro K39 ⟨y3, d⟩ ⟨hI, hy3, -⟩ hK39
    (try dsimp only at hI hy3 hK39 ⊢)
    unfold fX9_join_B39
    refine ok_gd (kd_13 hS hx1) ?_
    refine ok_cb (sX0_hasKey__13 hS hx1 hI.1) ?_
    rintro _ _ ⟨rfl, rfl | ⟨rfl, c_1, c_2⟩⟩
    · refine ok_if (fun c_3 => ?_) (fun c_3 => ?_)
      · exact sX9_join_J152__9_13 hS hx0 hx1 hI
      · exact (ne_no c_3 (by decide : iv (0 : Int32) 0 0) (by decide : iv (0 : Int32) 0 0))
    · have h_4 := iv.w (c := 0) (e := 23) (lt_l (nle c_2) hy3 (iv_mul (l := 0) (h := 24) (rd_13_0 hI.1 hx1) (rd_13_1 hI.1 hx1) (by decide))) (by decide)
      have h_5 := iv.w (c := 1) (e := 24) (lt_r (nle c_2) hy3 (iv_mul (l := 0) (h := 24) (rd_13_0 hI.1 hx1) (rd_13_1 hI.1 hx1) (by decide))) (by decide)
      refine ok_if (fun c_6 => ?_) (fun c_6 => ?_)
      · exact (eq_no c_6 (by decide : iv (1 : Int32) 1 1) (by decide : iv (0 : Int32) 0 0) (by decide))
      · refine ok_if (fun c_7 => ?_) (fun c_7 => ?_)
        · exact (iv_no (le_l c_7 (by decide : iv (24 : Int32) 24 24) h_4) (by decide))
        · refine ok_gd (kd_9 hS hx0) ?_
          obtain ⟨r14, e_8, k_9⟩ := sh_9_0 hS hx0
          refine ok_ob e_8 ?_
          refine ok_gd (iv_nz (iv_row (nle c_2) h_4 (rd_13_0 hI.1 hx1) (rd_13_1 hI.1 hx1) (by decide)).2 (by decide)) ?_
          refine ok_gd (kd_31 hS k_9) ?_
          refine ok_gd (ixg (iv_add (l := 4) (h := 9) (by decide : iv (4 : Int32) 4 4) (iv.w (c := 0) (e := 5) (iv_rem h_4 (iv_row (nle c_2) h_4 (rd_13_0 hI.1 hx1) (rd_13_1 hI.1 hx1) (by decide)).2 (by decide)) (by decide)) (by decide)) (ln_31 hS k_9) (by decide)) ?_
          refine ok_bd (fun u18 e_10 => ?_)
          refine ok_gd (ixg (iv_row (nle c_2) h_4 (rd_13_0 hI.1 hx1) (rd_13_1 hI.1 hx1) (by decide)).1 (ln_31 hS k_9) (by decide)) ?_
          refine ok_bd (fun u20 e_12 => ?_)
          refine ok_cb (sX11_isIn hS (iv.w h_4 (by decide)) hI.1) ?_
          rintro _ _ ⟨rfl, ⟨rfl, c_14⟩ | ⟨rfl, c_15⟩⟩
          · have h_16 := iv.w (c := 0) (e := 0) (eq_l c_14 (by decide : iv (0 : Int32) 0 0)) (by decide)
            refine ok_if (fun c_17 => ?_) (fun c_17 => ?_)
            · exact sX9_join_J146__9_13 hS hx0 hx1 h_4 hI hK39 (Nat.le_refl _)
            · exact (ne_no c_17 (by decide : iv (0 : Int32) 0 0) (by decide : iv (0 : Int32) 0 0))
          · have h_18 := iv.w (c := 1) (e := 1) (ne_lo c_15 (iv_and (by decide : iv (1 : Int32) 1 1) (by decide)) (by decide : iv (0 : Int32) 0 0)) (by decide)
            refine ok_if (fun c_19 => ?_) (fun c_19 => ?_)
            · exact (eq_no c_19 (by decide : iv (1 : Int32) 1 1) (by decide : iv (0 : Int32) 0 0) (by decide))
            · refine ok_if (fun c_20 => ?_) (fun c_20 => ?_)
              · exact sX9_join_J146__9_13 hS hx0 hx1 h_4 hI hK39 (Nat.le_refl _)
              · refine ok_bd (fun d27 e_21 => ?_)
                have h_22 := Inv.set e_21 hI (by rw [hx0]; exact trivial) (mO hx0 (by decide) (by decide +kernel)) (nO hx0 (by decide) (by decide +kernel))
                exact sX9_join_L109__9_13 hS hx0 hx1 h_4 (iv.w (by decide : iv (0 : Int32) 0 0) (by decide)) h_22 hK39 (Nat.le_refl _)
theorem sX9_join_L2__9_13 {g : Gs} (hS : Shp g) {b : Nat → Int} {d0 : Ds} {x0 : Nat} (hx0 : cls x0 = 9) {x1 : Nat} (hx1 : cls x1 = 13) {x2 : Int32} {y3 : Int32} (hy3 : iv y3 0 10) {d : Ds} (hI : Inv m_sX9_join__9_13 b d0 d) : ok (fX9_join_L2 10000 g x0 x1 x2 (y3, d)) (fun u d' => Inv m_sX9_join__9_13 b d0 d' ∧ True) := by
  unfold fX9_join_L2
  refine ok_lp (fun a => Inv m_sX9_join__9_13 b d0 a.2 ∧ iv a.1 0 10 ∧ True) (fun a => (10 - a.1.toInt).toNat) ?_ 10000 _ ⟨hI, hy3, trivial⟩ (ms_b hy3 (by decide))
  · rintro K2 ⟨y3, d⟩ ⟨hI, hy3, -⟩ hK2
    (try dsimp only at hI hy3 hK2 ⊢)
    unfold fX9_join_B2
    refine ok_gd (kd_9 hS hx0) ?_
    obtain ⟨r2, e_1, k_2⟩ := sh_9_0 hS hx0
    refine ok_ob e_1 ?_
    refine ok_gd (kd_31 hS k_2) ?_
    refine ok_if (fun c_3 => ?_) (fun c_3 => ?_)
    · have h_4 := iv.w (c := 10) (e := 10) (le_r c_3 (iv_len (ln_31 hS k_2) (by decide)) hy3) (by decide)
      refine ok_gd (kd_13 hS hx1) ?_
      refine ok_bd (fun d6 e_5 => ?_)
      have h_6 := Inv.set e_5 hI (by rw [hx0]; exact trivial) (mO hx0 (by decide) (by decide +kernel)) (nO hx0 (by decide) (by decide +kernel))
      exact sX9_join_L39__9_13 hS hx0 hx1 (iv.w (by decide : iv (0 : Int32) 0 0) (by decide)) h_6
    · have h_7 := iv.w (c := 0) (e := 9) (lt_l (nle c_3) hy3 (iv_len (ln_31 hS k_2) (by decide))) (by decide)
      refine ok_gd (ixg h_7 (ln_31 hS k_2) (by decide)) ?_
      refine ok_bd (fun d37 e_8 => ?_)
      have h_9 := Inv.set e_8 hI (by rw [k_2]; exact trivial) (mA k_2 (by decide) (by decide +kernel)) (nA k_2 (by decide) (by decide +kernel))
      refine ok_bd (fun u38 e_10 => ?_)
      have h_11 := iv_e e_10 (iv_add (l := 1) (h := 10) h_7 (by decide : iv (1 : Int32) 1 1) (by decide))
      exact hK2 _ ⟨h_9, (iv.w h_11 (by decide)), trivial⟩ (ms_up (H := 10) e_10 h_7 (by decide : iv (1 : Int32) 1 1) (by decide))
theorem sX9_join__9_13 {g : Gs} (hS : Shp g) {b : Nat → Int} {x0 : Nat} (hx0 : cls x0 = 9) {x1 : Nat} (hx1 : cls x1 = 13) {x2 : Int32} {d : Ds} (hB : Bnd b d) : ok (fX9_join 10000 g x0 x1 x2 d) (fun u d' => Inv m_sX9_join__9_13 b d d' ∧ True) := by
  have hI : Inv m_sX9_join__9_13 b d d := Inv.rf hB
  unfold fX9_join
  exact sX9_join_L2__9_13 hS hx0 hx1 (iv.w (by decide : iv (0 : Int32) 0 0) (by decide)) hI
theorem sX9_follow__9_13 {g : Gs} (hS : Shp g) {b : Nat → Int} {x0 : Nat} (hx0 : cls x0 = 9) {x1 : Nat} (hx1 : cls x1 = 13) {x2 : Int32} {d : Ds} (hB : Bnd b d) : ok (fX9_follow 10000 g x0 x1 x2 d) (fun u d' => Inv m_sX9_follow__9_13 b d d' ∧ True) := by
  have hI : Inv m_sX9_follow__9_13 b d d := Inv.rf hB
  unfold fX9_follow
  refine ok_gd (kd_9 hS hx0) ?_
  refine ok_cv (sX9_join__9_13 hS hx0 hx1 hI.1) (fun d2 r_1 => ?_)
  obtain ⟨h_2, h_3⟩ := r_1
  have h_4 := Inv.call hI h_2 (by decide +kernel)
  refine ok_gd (kd_13 hS hx1) ?_
  refine ok_if (fun c_5 => ?_) (fun c_5 => ?_)
  · have h_6 := iv.w (c := 0) (e := 0) (eq_l c_5 (by decide : iv (0 : Int32) 0 0)) (by decide)
    refine ok_bd (fun d6 e_7 => ?_)
    have h_8 := Inv.set e_7 h_4 (by rw [hx0]; exact trivial) (mO hx0 (by decide) (by decide +kernel)) (nO hx0 (by decide) (by decide +kernel))
    exact sX9_follow_L31__9_13 hS hx0 hx1 (iv.w (by decide : iv (0 : Int32) 0 0) (by decide)) h_8 (rd_sk e_7 (Or.inl (cl_ne hx0 hx1 (by decide))) h_6)
  · have h_9 := iv.w (c := 1) (e := 1) (ne_lo c_5 (rd_13_2 h_4.1 hx1) (by decide : iv (0 : Int32) 0 0)) (by decide)
    refine ok_bd (fun d30 e_10 => ?_)
    have h_11 := Inv.set e_10 h_4 (by rw [hx0]; exact trivial) (mO hx0 (by decide) (by decide +kernel)) (nO hx0 (by decide) (by decide +kernel))
    refine ok_bd (fun d31 e_12 => ?_)
    have h_13 := Inv.set e_12 h_11 (by rw [hx0]; exact trivial) (mO hx0 (by decide) (by decide +kernel)) (nO hx0 (by decide) (by decide +kernel))
    exact ok_some ⟨h_13, trivial⟩
theorem sX11_press__10 {g : Gs} (hS : Shp g) {b : Nat → Int} {x0 : Nat} (hx0 : cls x0 = 10) {x1 : Int32} {x2 : Int32} (hx2 : iv x2 0 1) {d : Ds} (hB : Bnd b d) : ok (fX11_press 10000 g x0 x1 x2 d) (fun u d' => Inv m_sX11_press__10 b d d' ∧ iv u 0 1) := by
  have hI : Inv m_sX11_press__10 b d d := Inv.rf hB
  unfold fX11_press
  refine ok_gd (kd_10 hS hx0) ?_
  obtain ⟨r2, e_1, k_2, k_2o⟩ := sh_10_6 hS hx0
  refine ok_ob e_1 ?_
  refine ok_gd (kd_1 hS k_2) ?_
  obtain ⟨r4, e_3, k_4, k_4o⟩ := sh_1_1 hS k_2
  refine ok_ob e_3 ?_
  obtain ⟨r5, e_5, k_6⟩ := sh_10_4 hS hx0
  refine ok_ob e_5 ?_
  refine ok_gd (kd_13 hS k_6) ?_
  refine ok_cb (sX0_hasKey__13 hS k_6 hI.1) ?_
  rintro _ _ ⟨rfl, rfl | ⟨rfl, c_7, c_8⟩⟩
  · refine ok_if (fun c_9 => ?_) (fun c_9 => ?_)
    · exact sX11_press_J31__10 hS hx0 hx2 hI
    · exact (ne_no c_9 (by decide : iv (0 : Int32) 0 0) (by decide : iv (0 : Int32) 0 0))
  · have h_10 := iv.w (c := 0) (e := 2147483647) (le_r (nlt c_7) (by decide : iv (0 : Int32) 0 0) (ivT _)) (by decide)
    have h_11 := iv.w (c := 0) (e := 23) (lt_l (nle c_8) h_10 (iv_mul (l := 0) (h := 24) (rd_13_0 hI.1 k_6) (rd_13_1 hI.1 k_6) (by decide))) (by decide)
    have h_12 := iv.w (c := 1) (e := 24) (lt_r (nle c_8) h_10 (iv_mul (l := 0) (h := 24) (rd_13_0 hI.1 k_6) (rd_13_1 hI.1 k_6) (by decide))) (by decide)
    refine ok_if (fun c_13 => ?_) (fun c_13 => ?_)
    · exact (eq_no c_13 (by decide : iv (1 : Int32) 1 1) (by decide : iv (0 : Int32) 0 0) (by decide))
    · refine ok_gd (kd_6 hS k_4) ?_
      refine ok_cb (sX11_isIn hS (iv.w h_11 (by decide)) hI.1) ?_
      rintro _ _ ⟨rfl, ⟨rfl, c_14⟩ | ⟨rfl, c_15⟩⟩
      · have h_16 := iv.w (c := 0) (e := 0) (eq_l c_14 (by decide : iv (0 : Int32) 0 0)) (by decide)
        refine ok_if (fun c_17 => ?_) (fun c_17 => ?_)
        · have h_18 := iv.w (c := 0) (e := 0) (eq_r c_17 (by decide : iv (0 : Int32) 0 0)) (by decide)
          exact sX11_press_J31__10 hS hx0 (iv.w h_18 (by decide)) hI
        · refine ok_bd (fun d16 e_19 => ?_)
          have h_20 := Inv.set e_19 hI (by rw [k_4]; exact trivial) (mO k_4 (by decide) (by decide +kernel)) (nO k_4 (by decide) (by decide +kernel))
          obtain ⟨r17, e_21, k_22⟩ := sh_10_5 hS hx0
          refine ok_ob e_21 ?_
          refine ok_gd (kd_9 hS k_22) ?_
          refine ok_cv (sX9_follow__9_13 hS k_22 k_6 h_20.1) (fun d19 r_23 => ?_)
          obtain ⟨h_24, h_25⟩ := r_23
          have h_26 := Inv.call h_20 h_24 (by decide +kernel)
          refine ok_bd (fun d21 e_27 => ?_)
          have h_28 := Inv.set e_27 h_26 (by rw [k_4]; exact trivial) (mO k_4 (by decide) (by decide +kernel)) (nO k_4 (by decide) (by decide +kernel))
          refine ok_bd (fun d22 e_29 => ?_)
          have h_30 := Inv.set e_29 h_28 (by rw [k_4]; exact trivial) (mO k_4 (by decide) (by decide +kernel)) (nO k_4 (by decide) (by decide +kernel))
          exact ok_some ⟨h_30, (iv.w (by decide : iv (1 : Int32) 1 1) (by decide))⟩
      · have h_31 := iv.w (c := 1) (e := 1) (ne_lo c_15 (iv_and (by decide : iv (1 : Int32) 1 1) (by decide)) (by decide : iv (0 : Int32) 0 0)) (by decide)
        refine ok_if (fun c_32 => ?_) (fun c_32 => ?_)
        · have h_33 := iv.w (c := 1) (e := 1) (eq_r c_32 (by decide : iv (1 : Int32) 1 1)) (by decide)
          exact sX11_press_J31__10 hS hx0 (iv.w h_33 (by decide)) hI
        · refine ok_bd (fun d16 e_34 => ?_)
          have h_35 := Inv.set e_34 hI (by rw [k_4]; exact trivial) (mO k_4 (by decide) (by decide +kernel)) (nO k_4 (by decide) (by decide +kernel))
          obtain ⟨r17, e_36, k_37⟩ := sh_10_5 hS hx0
          refine ok_ob e_36 ?_
          refine ok_gd (kd_9 hS k_37) ?_
          refine ok_cv (sX9_follow__9_13 hS k_37 k_6 h_35.1) (fun d19 r_38 => ?_)
          obtain ⟨h_39, h_40⟩ := r_38
          have h_41 := Inv.call h_35 h_39 (by decide +kernel)
          refine ok_bd (fun d21 e_42 => ?_)
          have h_43 := Inv.set e_42 h_41 (by rw [k_4]; exact trivial) (mO k_4 (by decide) (by decide +kernel)) (nO k_4 (by decide) (by decide +kernel))
          refine ok_bd (fun d22 e_44 => ?_)
          have h_45 := Inv.set e_44 h_43 (by rw [k_4]; exact trivial) (mO k_4 (by decide) (by decide +kernel)) (nO k_4 (by decide) (by decide +kernel))
          exact ok_some ⟨h_45, (iv.w (by decide : iv (1 : Int32) 1 1) (by decide))⟩
def m_sX11_tick__10 : Nat := 0x1000000000000000100000000000000010000000000000001000000000000000100000000000000010000000000000001000000000000000100000000000000010000000000000001000000000000000100000000000000010000000000000001000000000000000000000000000000010000000000000000000000000000000000000000000000000000000000000000000000000000000000000000000000000000000000000000000000000000000000000000000000000000000000000000000000000000000000000000000000000000000000000000000000000000000000000000000000000000000000000000000000000000000000000000000000000000000000000000000000000000000000000000000000000000000000000000000000000000000000000000000000000000000000000000000000000000000800000000000001f000000000000000060000000000000170000000000000000000000000000000200000000000000000
theorem sX11_tick_J21__10 {g : Gs} (hS : Shp g) {b B : Nat → Int} {d0 : Ds} {x0 : Nat} (hlb : LeB b B (227) 0) (hx0 : cls x0 = 10) {x1 : Int32} {d : Ds} (hI : Inv m_sX11_tick__10 b d0 d) : ok (fX11_tick_J21 10000 g x0 x1 d) (fun u d' => Inv m_sX11_tick__10 B d0 d' ∧ True) := by
  unfold fX11_tick_J21
  exact ok_some ⟨(Inv.mono hlb.1 hI), trivial⟩
def m_sX1_passTick__1 : Nat := 0x1000000000000000100000000000000010000000000000001000000000000000100000000000000010000000000000001000000000000000100000000000000010000000000000001000000000000000100000000000000010000000000000001000000000000000000000000000000010000000000000000000000000000000000000000000000000000000000000000000000000000000000000000000000000000000000000000000000000000000000000000000000000000000000000000000000000000000000000000000000000000000000000000000000000000000000000000000000000000000000000000000000000000000000000000000000000000000000000000000000000000000000000000000000000000000000000000000000000000000000000000000000000000000000000000000000000000000800000000000001f000000000000000060000000000000170000000000000000000000000000000200000000000000000
theorem sX1_passTick_J90__1 {g : Gs} (hS : Shp g) {b B : Nat → Int} {d0 : Ds} {x0 : Nat} (hlb : LeB b B (own x0) 40800) (hx0 : cls x0 = 1) {y1 : Int32} (hy1 : iv y1 0 23) {d : Ds} (hI : Inv m_sX1_passTick__1 b d0 d) {K12 : Int32 × Ds → Option (Unit × Ds)} {μ12 : Nat} (hK12 : ∀ a, (∃ b1, Inv m_sX1_passTick__1 b1 d0 a.2 ∧ LeB b1 B (own x0) (0 * (((24 - a.1.toInt).toNat : Nat) : Int) + 40800)) ∧ iv a.1 0 24 ∧ True → (24 - a.1.toInt).toNat < μ12 → ok (K12 a) (fun u d' => Inv m_sX1_passTick__1 B d0 d' ∧ True)) (hm12 : (24 - y1.toInt).toNat ≤ μ12) : ok (fX1_passTick_J90 10000 g x0 K12 y1 d) (fun u d' => Inv m_sX1_passTick__1 B d0 d' ∧ True) := by
  unfold fX1_passTick_J90
  refine ok_bd (fun u39 e_1 => ?_)
  have h_2 := iv_e e_1 (iv_add (l := 1) (h := 24) hy1 (by decide : iv (1 : Int32) 1 1) (by decide))
  exact hK12 _ ⟨⟨_, hI, LeB.w hlb (by omega)⟩, (iv.w h_2 (by decide)), trivial⟩ (Nat.lt_of_lt_of_le (ms_up (H := 24) e_1 hy1 (by decide : iv (1 : Int32) 1 1) (by decide)) hm12)
theorem sX0_chordOf_J30__13 {g : Gs} (hS : Shp g) {b : Nat → Int} {x0 : Nat} (hx0 : cls x0 = 13) {x1 : Int32} (hx1 : iv x1 0 23) {y2 : Int32} (hy2 : iv y2 0 3) {d : Ds} (hB : Bnd b d) (hr_x0_12 : iv (dI d x0 12) 1 4) : ok (fX0_chordOf_J30 10000 g x0 x1 y2 d) (fun u d' => d' = d ∧ iv u (-1) 3) := by
  unfold fX0_chordOf_J30
  exact ok_some ⟨rfl, (iv.w hy2 (by decide))⟩
theorem sX0_chordOf_L2__13 {g : Gs} (hS : Shp g) {b : Nat → Int} {x0 : Nat} (hx0 : cls x0 = 13) {x1 : Int32} (hx1 : iv x1 0 23) {y2 : Int32} (hy2 : iv y2 0 4) {d : Ds} (hB : Bnd b d) : ok (fX0_chordOf_L2 10000 g x0 x1 (y2, d)) (fun u d' => d' = d ∧ iv u (-1) 3) := by
  unfold fX0_chordOf_L2
  refine ok_lp (fun a => a.2 = d ∧ iv a.1 0 4 ∧ True) (fun a => (4 - a.1.toInt).toNat) ?_ 10000 _ ⟨rfl, hy2, trivial⟩ (ms_b hy2 (by decide))
  · rintro K2 ⟨y2, d⟩ ⟨rfl, hy2, -⟩ hK2
    (try dsimp only at hy2 hK2 ⊢)
    unfold fX0_chordOf_B2
    refine ok_gd (kd_13 hS hx0) ?_
    refine ok_if (fun c_1 => ?_) (fun c_1 => ?_)
    · exact ok_some ⟨rfl, (iv.w (by decide : iv ((-1) : Int32) (-1) (-1)) (by decide))⟩
    · have h_2 := iv.w (c := 0) (e := 3) (lt_l (nle c_1) hy2 (rd_13_12 hB hx0)) (by decide)
      have h_3 := iv.w (c := 1) (e := 4) (lt_r (nle c_1) hy2 (rd_13_12 hB hx0)) (by decide)
      obtain ⟨r3, e_4, k_5⟩ := sh_13_13 hS hx0
      refine ok_ob e_4 ?_
      refine ok_gd (kd_26 hS k_5) ?_
      refine ok_gd (ixg h_2 (ln_26 hS k_5) (by decide)) ?_
      refine ok_if (fun c_6 => ?_) (fun c_6 => ?_)
      · have h_7 := iv.w (c := 0) (e := 23) (eq_l c_6 hx1) (by decide)
        exact sX0_chordOf_J30__13 hS hx0 hx1 h_2 hB h_3
      · obtain ⟨r7, e_8, k_9⟩ := sh_13_14 hS hx0
        refine ok_ob e_8 ?_
        refine ok_gd (kd_27 hS k_9) ?_
        refine ok_gd (ixg h_2 (ln_27 hS k_9) (by decide)) ?_
        refine ok_if (fun c_10 => ?_) (fun c_10 => ?_)
        · have h_11 := iv.w (c := 0) (e := 23) (eq_l c_10 hx1) (by decide)
          exact sX0_chordOf_J30__13 hS hx0 hx1 h_2 hB h_3
        · refine ok_bd (fun u11 e_12 => ?_)
          have h_13 := iv_e e_12 (iv_add (l := 1) (h := 4) h_2 (by decide : iv (1 : Int32) 1 1) (by decide))
          exact hK2 _ ⟨rfl, (iv.w h_13 (by decide)), trivial⟩ (ms_up (H := 4) e_12 h_2 (by decide : iv (1 : Int32) 1 1) (by decide))
theorem sX0_chordOf__13 {g : Gs} (hS : Shp g) {b : Nat → Int} {x0 : Nat} (hx0 : cls x0 = 13) {x1 : Int32} (hx1 : iv x1 0 23) {d : Ds} (hB : Bnd b d) : ok (fX0_chordOf 10000 g x0 x1 d) (fun u d' => d' = d ∧ iv u (-1) 3) := by
  unfold fX0_chordOf
  exact sX0_chordOf_L2__13 hS hx0 hx1 (iv.w (by decide : iv (0 : Int32) 0 0) (by decide)) hB
theorem sX0_deedIn_J39__13 {g : Gs} (hS : Shp g) {b : Nat → Int} {x0 : Nat} (hx0 : cls x0 = 13) {x1 : Int32} {x2 : Int32} (hx2 : iv x2 0 23) {y3 : Int32} (hy3 : iv y3 0 3) {d : Ds} (hB : Bnd b d) {K2 : Int32 × Ds → Option (Nat × Ds)} {μ2 : Nat} (hK2 : ∀ a, a.2 = d ∧ iv a.1 (-1) 3 ∧ True → (a.1.toInt - (-1)).toNat < μ2 → ok (K2 a) (fun u d' => d' = d ∧ cls u = 2)) (hm2 : (y3.toInt - (-1)).toNat ≤ μ2) : ok (fX0_deedIn_J39 10000 g x0 x1 x2 K2 y3 d) (fun u d' => d' = d ∧ cls u = 2) := by
  unfold fX0_deedIn_J39
  refine ok_bd (fun u12 e_1 => ?_)
  have h_2 := iv_e e_1 (iv_add (l := (-1)) (h := 2) hy3 (by decide : iv ((-1) : Int32) (-1) (-1)) (by decide))
  exact hK2 _ ⟨rfl, (iv.w h_2 (by decide)), trivial⟩ (Nat.lt_of_lt_of_le (ms_dn (H := (-1)) e_1 hy3 (by decide : iv ((-1) : Int32) (-1) (-1)) (by decide)) hm2)
theorem sX0_toldDeed_J19__13 {g : Gs} (hS : Shp g) {b : Nat → Int} {x0 : Nat} (hx0 : cls x0 = 13) {x1 : Int32} {x2 : Int32} (hx2 : iv x2 0 23) {d : Ds} (hB : Bnd b d) : ok (fX0_toldDeed_J19 10000 g x0 x1 x2 d) (fun u d' => d' = d ∧ (∀ r, u = some r → cls r = 2)) := by
  unfold fX0_toldDeed_J19
  exact ok_some ⟨rfl, (fun _ h => by cases h)⟩
theorem sX0_toldDeed__13 {g : Gs} (hS : Shp g) {b : Nat → Int} {x0 : Nat} (hx0 : cls x0 = 13) {x1 : Int32} {x2 : Int32} (hx2 : iv x2 0 23) {d : Ds} (hB : Bnd b d) : ok (fX0_toldDeed 10000 g x0 x1 x2 d) (fun u d' => d' = d ∧ (∀ r, u = some r → cls r = 2)) := by
  unfold fX0_toldDeed
  refine ok_if (fun c_1 => ?_) (fun c_1 => ?_)
  · have h_2 := iv.w (c := (-2147483648)) (e := (-1)) (lt_l c_1 (ivT _) (by decide : iv (0 : Int32) 0 0)) (by decide)
    exact sX0_toldDeed_J19__13 hS hx0 hx2 hB
  · have h_3 := iv.w (c := 0) (e := 2147483647) (le_r (nlt c_1) (by decide : iv (0 : Int32) 0 0) (ivT _)) (by decide)
    refine ok_if (fun c_4 => ?_) (fun c_4 => ?_)
    · have h_5 := iv.w (c := 4) (e := 2147483647) (le_r c_4 (by decide : iv (4 : Int32) 4 4) h_3) (by decide)
      exact sX0_toldDeed_J19__13 hS hx0 hx2 hB
    · have h_6 := iv.w (c := 0) (e := 3) (lt_l (nle c_4) h_3 (by decide : iv (4 : Int32) 4 4)) (by decide)
      refine ok_if (fun c_7 => ?_) (fun c_7 => ?_)
      · exact (iv_no (lt_l c_7 hx2 (by decide : iv (0 : Int32) 0 0)) (by decide))
      · refine ok_if (fun c_8 => ?_) (fun c_8 => ?_)
        · refine ok_gd (kd_13 hS hx0) ?_
          obtain ⟨r6, e_9, k_10⟩ := sh_13_10 hS hx0
          refine ok_ob e_9 ?_
          refine ok_gd (kd_25 hS k_10) ?_
          refine ok_gd (ixg (iv_add (l := 0) (h := 95) (iv_mul (l := 0) (h := 72) h_6 (by decide : iv (24 : Int32) 24 24) (by decide)) hx2 (by decide)) (ln_25 hS k_10) (by decide)) ?_
          obtain ⟨r9, e_11, k_12⟩ := sh_25 hS k_10 (ixn (iv_add (l := 0) (h := 95) (iv_mul (l := 0) (h := 72) h_6 (by decide : iv (24 : Int32) 24 24) (by decide)) hx2 (by decide)) (by decide))
          refine ok_ob e_11 ?_
          exact ok_some ⟨rfl, (fun _ h => (Option.some.inj h) ▸ k_12)⟩
        · exact (iv_no (le_l (nlt c_8) (by decide : iv (24 : Int32) 24 24) hx2) (by decide))
theorem sX0_deedIn_L2__13 {g : Gs} (hS : Shp g) {b : Nat → Int} {x0 : Nat} (hx0 : cls x0 = 13) {x1 : Int32} {x2 : Int32} (hx2 : iv x2 0 23) {y3 : Int32} (hy3 : iv y3 (-1) 3) {d : Ds} (hB : Bnd b d) : ok (fX0_deedIn_L2 10000 g x0 x1 x2 (y3, d)) (fun u d' => d' = d ∧ cls u = 2) := by
  unfold fX0_deedIn_L2
  refine ok_lp (fun a => a.2 = d ∧ iv a.1 (-1) 3 ∧ True) (fun a => (a.1.toInt - (-1)).toNat) ?_ 10000 _ ⟨rfl, hy3, trivial⟩ (ms_c hy3 (by decide))
  · rintro K2 ⟨y3, d⟩ ⟨rfl, hy3, -⟩ hK2
    (try dsimp only at hy3 hK2 ⊢)
    unfold fX0_deedIn_B2
    refine ok_if (fun c_1 => ?_) (fun c_1 => ?_)
    · have h_2 := iv.w (c := (-1)) (e := (-1)) (lt_l c_1 hy3 (by decide : iv (0 : Int32) 0 0)) (by decide)
      refine ok_gd (kd_13 hS hx0) ?_
      obtain ⟨r3, e_3, k_4⟩ := sh_13_11 hS hx0
      refine ok_ob e_3 ?_
      exact ok_some ⟨rfl, k_4⟩
    · have h_5 := iv.w (c := 0) (e := 3) (le_r (nlt c_1) (by decide : iv (0 : Int32) 0 0) hy3) (by decide)
      refine ok_gd (kd_13 hS hx0) ?_
      refine ok_cb (sX0_toldDeed__13 hS hx0 hx2 hB) (fun u7 d5 r_6 => ?_)
      obtain ⟨rfl, h_8⟩ := r_6
      refine ok_cb (sX11_isIn hS (iv.w h_5 (by decide)) hB) ?_
      rintro _ _ ⟨rfl, ⟨rfl, c_9⟩ | ⟨rfl, c_10⟩⟩
      · have h_11 := iv.w (c := 0) (e := 0) (eq_l c_9 (by decide : iv (0 : Int32) 0 0)) (by decide)
        refine ok_if (fun c_12 => ?_) (fun c_12 => ?_)
        · exact sX0_deedIn_J39__13 hS hx0 hx2 h_5 hB hK2 (Nat.le_refl _)
        · exact (ne_no c_12 (by decide : iv (0 : Int32) 0 0) (by decide : iv (0 : Int32) 0 0))
      · have h_13 := iv.w (c := 1) (e := 1) (ne_lo c_10 (iv_and (by decide : iv (1 : Int32) 1 1) (by decide)) (by decide : iv (0 : Int32) 0 0)) (by decide)
        refine ok_if (fun c_14 => ?_) (fun c_14 => ?_)
        · exact (eq_no c_14 (by decide : iv (1 : Int32) 1 1) (by decide : iv (0 : Int32) 0 0) (by decide))
        · refine ok_if (fun c_15 => ?_) (fun c_15 => ?_)
          · exact sX0_deedIn_J39__13 hS hx0 hx2 h_5 hB hK2 (Nat.le_refl _)
          · obtain ⟨r14, e_16⟩ := Option.ne_none_iff_exists'.mp c_15
            have w_17 := h_8 _ e_16
            refine ok_ob e_16 ?_
            refine ok_gd (kd_2 hS w_17) ?_
            refine ok_if (fun c_18 => ?_) (fun c_18 => ?_)
            · have h_19 := iv.w (c := 5) (e := 5) (eq_l c_18 (by decide : iv (5 : Int32) 5 5)) (by decide)
              exact sX0_deedIn_J39__13 hS hx0 hx2 h_5 hB hK2 (Nat.le_refl _)
            · exact ok_some ⟨rfl, w_17⟩
theorem sX0_deedIn__13 {g : Gs} (hS : Shp g) {b : Nat → Int} {x0 : Nat} (hx0 : cls x0 = 13) {x1 : Int32} {x2 : Int32} (hx2 : iv x2 0 23) {d : Ds} (hB : Bnd b d) : ok (fX0_deedIn 10000 g x0 x1 x2 d) (fun u d' => d' = d ∧ cls u = 2) := by
  unfold fX0_deedIn
  exact sX0_deedIn_L2__13 hS hx0 hx2 (iv.w (by decide : iv (3 : Int32) 3 3) (by decide)) hB
theorem sX1_activeLayers_J59__1 {g : Gs} (hS : Shp g) {b : Nat → Int} {x0 : Nat} (hx0 : cls x0 = 1) {y1 : Int32} {y2 : Int32} (hy2 : iv y2 0 23) {d : Ds} (hB : Bnd b d) {K12 : Int32 × Int32 × Ds → Option (Int32 × Ds)} {μ12 : Nat} (hK12 : ∀ a, a.2.2 = d ∧ iv a.2.1 0 24 ∧ True → (24 - a.2.1.toInt).toNat < μ12 → ok (K12 a) (fun u d' => d' = d ∧ True)) (hm12 : (24 - y2.toInt).toNat ≤ μ12) : ok (fX1_activeLayers_J59 10000 g x0 K12 y1 y2 d) (fun u d' => d' = d ∧ True) := by
  unfold fX1_activeLayers_J59
  refine ok_bd (fun u13 e_1 => ?_)
  have h_2 := iv_e e_1 (iv_add (l := 1) (h := 24) hy2 (by decide : iv (1 : Int32) 1 1) (by decide))
  exact hK12 _ ⟨rfl, (iv.w h_2 (by decide)), trivial⟩ (Nat.lt_of_lt_of_le (ms_up (H := 24) e_1 hy2 (by decide : iv (1 : Int32) 1 1) (by decide)) hm12)
theorem sX1_activeLayers_L12__1 {g : Gs} (hS : Shp g) {b : Nat → Int} {x0 : Nat} (hx0 : cls x0 = 1) {y1 : Int32} {y2 : Int32} (hy2 : iv y2 0 24) {d : Ds} (hB : Bnd b d) : ok (fX1_activeLayers_L12 10000 g x0 (y1, y2, d)) (fun u d' => d' = d ∧ True) := by
  unfold fX1_activeLayers_L12
  refine ok_lp (fun a => a.2.2 = d ∧ iv a.2.1 0 24 ∧ True) (fun a => (24 - a.2.1.toInt).toNat) ?_ 10000 _ ⟨rfl, hy2, trivial⟩ (ms_b hy2 (by decide))
  · rintro K12 ⟨y1, y2, d⟩ ⟨rfl, hy2, -⟩ hK12
    (try dsimp only at hy2 hK12 ⊢)
    unfold fX1_activeLayers_B12
    refine ok_if (fun c_1 => ?_) (fun c_1 => ?_)
    · have h_2 := iv.w (c := 24) (e := 24) (le_r c_1 (by decide : iv (24 : Int32) 24 24) hy2) (by decide)
      exact ok_some ⟨rfl, trivial⟩
    · have h_3 := iv.w (c := 0) (e := 23) (lt_l (nle c_1) hy2 (by decide : iv (24 : Int32) 24 24)) (by decide)
      refine ok_gd (kd_1 hS hx0) ?_
      obtain ⟨r7, e_4, k_5, k_5o⟩ := sh_1_3 hS hx0
      refine ok_ob e_4 ?_
      refine ok_gd (kd_3 hS k_5) ?_
      obtain ⟨r9, e_6, k_7, k_7o⟩ := sh_3_0 hS k_5
      refine ok_ob e_6 ?_
      refine ok_gd (kd_38 hS k_7) ?_
      refine ok_gd (ixg h_3 (ln_38 hS k_7) (by decide)) ?_
      refine ok_if (fun c_8 => ?_) (fun c_8 => ?_)
      · have h_9 := iv.w (c := 2) (e := 2) (eq_l c_8 (by decide : iv (2 : Int32) 2 2)) (by decide)
        obtain ⟨r14, e_10, k_11, k_11o⟩ := sh_1_1 hS hx0
        refine ok_ob e_10 ?_
        refine ok_gd (kd_6 hS k_11) ?_
        refine ok_cb (sX11_isIn hS (iv.w h_3 (by decide)) hB) ?_
        rintro _ _ ⟨rfl, ⟨rfl, c_12⟩ | ⟨rfl, c_13⟩⟩
        · have h_14 := iv.w (c := 0) (e := 0) (eq_l c_12 (by decide : iv (0 : Int32) 0 0)) (by decide)
          refine ok_if (fun c_15 => ?_) (fun c_15 => ?_)
          · exact sX1_activeLayers_J59__1 hS hx0 h_3 hB hK12 (Nat.le_refl _)
          · exact (ne_no c_15 (by decide : iv (0 : Int32) 0 0) (by decide : iv (0 : Int32) 0 0))
        · have h_16 := iv.w (c := 1) (e := 1) (ne_lo c_13 (iv_and (by decide : iv (1 : Int32) 1 1) (by decide)) (by decide : iv (0 : Int32) 0 0)) (by decide)
          refine ok_if (fun c_17 => ?_) (fun c_17 => ?_)
          · exact (eq_no c_17 (by decide : iv (1 : Int32) 1 1) (by decide : iv (0 : Int32) 0 0) (by decide))
          · obtain ⟨r20, e_18, k_19, k_19o⟩ := sh_3_1 hS k_5
            refine ok_ob e_18 ?_
            refine ok_gd (kd_39 hS k_19) ?_
            refine ok_gd (ixg h_3 (ln_39 hS k_19) (by decide)) ?_
            refine ok_bd (fun u23 e_20 => ?_)
            exact sX1_activeLayers_J59__1 hS hx0 h_3 hB hK12 (Nat.le_refl _)
      · exact sX1_activeLayers_J59__1 hS hx0 h_3 hB hK12 (Nat.le_refl _)
theorem sX1_activeLayers__1 {g : Gs} (hS : Shp g) {b : Nat → Int} {x0 : Nat} (hx0 : cls x0 = 1) {d : Ds} (hB : Bnd b d) : ok (fX1_activeLayers 10000 g x0 d) (fun u d' => d' = d ∧ True) := by
  unfold fX1_activeLayers
  refine ok_gd (kd_1 hS hx0) ?_
  obtain ⟨r2, e_1, k_2, k_2o⟩ := sh_1_3 hS hx0
  refine ok_ob e_1 ?_
  refine ok_gd (kd_3 hS k_2) ?_
  refine ok_bd (fun u4 e_3 => ?_)
  exact sX1_activeLayers_L12__1 hS hx0 (iv.w (by decide : iv (0 : Int32) 0 0) (by decide)) hB
theorem sX1_fateOfDouble_J58__1 {g : Gs} (hS : Shp g) {b : Nat → Int} {x0 : Nat} (hx0 : cls x0 = 1) {x1 : Int32} (hx1 : iv x1 0 23) {x2 : Int32} (hx2 : iv x2 (-2147483647) 2147483647) {z0 : Int32} (hz0 : iv z0 6 7) {d : Ds} (hB : Bnd b d) : ok (fX1_fateOfDouble_J58 10000 g x0 x1 x2 z0 d) (fun u d' => d' = d ∧ iv u 0 7) := by
  unfold fX1_fateOfDouble_J58
  exact ok_some ⟨rfl, (iv.w hz0 (by decide))⟩
theorem sX1_fateOfDouble_J79__1 {g : Gs} (hS : Shp g) {b : Nat → Int} {x0 : Nat} (hx0 : cls x0 = 1) {x1 : Int32} (hx1 : iv x1 0 23) {x2 : Int32} {z0 : Int32} (hz0 : iv z0 0 6) {d : Ds} (hB : Bnd b d) : ok (fX1_fateOfDouble_J79 10000 g x0 x1 x2 z0 d) (fun u d' => d' = d ∧ iv u 0 7) := by
  unfold fX1_fateOfDouble_J79
  exact ok_some ⟨rfl, (iv.w hz0 (by decide))⟩
theorem sX4_isDownAt__4 {g : Gs} (hS : Shp g) {b : Nat → Int} {x0 : Nat} (hx0 : cls x0 = 4) {x1 : Int32} (hx1 : iv x1 0 2399) {d : Ds} (hB : Bnd b d) : ok (fX4_isDownAt 10000 g x0 x1 d) (fun u d' => d' = d ∧ (u = 0 ∨ u = 1 ∧ ¬ (x1 < 0) ∧ ¬ ((dI d x0 1) ≤ x1))) := by
  unfold fX4_isDownAt
  refine ok_if (fun c_1 => ?_) (fun c_1 => ?_)
  · exact (iv_no (lt_l c_1 hx1 (by decide : iv (0 : Int32) 0 0)) (by decide))
  · refine ok_gd (kd_4 hS hx0) ?_
    refine ok_if (fun c_2 => ?_) (fun c_2 => ?_)
    · have h_3 := iv.w (c := 0) (e := 2399) (le_l c_2 (rd_4_1 hB hx0) hx1) (by decide)
      unfold fX4_isDownAt_J28
      unfold fX4_isDownAt_J29
      refine ok_gd (iv_b (by decide : iv (0 : Int32) 0 0) (by decide)) ?_
      exact ok_some ⟨rfl, Or.inl rfl⟩
    · have h_4 := iv.w (c := 1) (e := 2400) (lt_r (nle c_2) hx1 (rd_4_1 hB hx0)) (by decide)
      obtain ⟨r5, e_5, k_6, k_6o⟩ := sh_4_0 hS hx0
      refine ok_ob e_5 ?_
      refine ok_gd (kd_37 hS k_6) ?_
      refine ok_gd (ixg hx1 (ln_37 hS k_6) (by decide)) ?_
      refine ok_gd (iv_nz (by decide : iv (2 : Int32) 2 2) (by decide)) ?_
      refine ok_if (fun c_7 => ?_) (fun c_7 => ?_)
      · have h_8 := iv.w (c := 1) (e := 1) (eq_l c_7 (by decide : iv (1 : Int32) 1 1)) (by decide)
        unfold fX4_isDownAt_J29
        refine ok_gd (iv_b (by decide : iv (1 : Int32) 1 1) (by decide)) ?_
        exact ok_some ⟨rfl, Or.inr (⟨rfl, c_1, c_2⟩)⟩
      · unfold fX4_isDownAt_J28
        unfold fX4_isDownAt_J29
        refine ok_gd (iv_b (by decide : iv (0 : Int32) 0 0) (by decide)) ?_
        exact ok_some ⟨rfl, Or.inl rfl⟩
theorem sX4_keyAt_J27__4 {g : Gs} (hS : Shp g) {b : Nat → Int} {x0 : Nat} (hx0 : cls x0 = 4) {x1 : Int32} (hx1 : iv x1 0 2399) {z0 : Int32} (hz0 : iv z0 (-1) 23) {d : Ds} (hz : 0 ≤ x1.toInt → x1.toInt < (dI d x0 1).toInt → 0 ≤ z0.toInt) (hB : Bnd b d) (hr_x0_1 : iv (dI d x0 1) 1 2400) : ok (fX4_keyAt_J27 10000 g x0 x1 z0 d) (fun u d' => d' = d ∧ iv u (-1) 23 ∧ (0 ≤ x1.toInt → x1.toInt < (dI d x0 1).toInt → 0 ≤ u.toInt)) := by
  unfold fX4_keyAt_J27
  exact ok_some ⟨rfl, hz0, hz⟩
theorem sX4_keyAt_J12__4 {g : Gs} (hS : Shp g) {b : Nat → Int} {x0 : Nat} (hx0 : cls x0 = 4) {x1 : Int32} (hx1 : iv x1 1 2399) {d : Ds} (hn : ¬ x1 < dI d x0 1) (hB : Bnd b d) (hr_x0_1 : iv (dI d x0 1) 1 2399) : ok (fX4_keyAt_J12 10000 g x0 x1 d) (fun u d' => d' = d ∧ iv u (-1) 23 ∧ (0 ≤ x1.toInt → x1.toInt < (dI d x0 1).toInt → 0 ≤ u.toInt)) := by
  unfold fX4_keyAt_J12
  exact sX4_keyAt_J27__4 hS hx0 (iv.w hx1 (by decide)) (iv.w (by decide : iv ((-1) : Int32) (-1) (-1)) (by decide)) (fun _ h2 => absurd (Int32.lt_iff_toInt_lt.mpr h2) hn) hB (iv.w hr_x0_1 (by decide))
theorem sX4_keyAt__4 {g : Gs} (hS : Shp g) {b : Nat → Int} {x0 : Nat} (hx0 : cls x0 = 4) {x1 : Int32} (hx1 : iv x1 0 2399) {d : Ds} (hB : Bnd b d) (hr_x0_1 : iv (dI d x0 1) 1 2400) : ok (fX4_keyAt 10000 g x0 x1 d) (fun u d' => d' = d ∧ iv u (-1) 23 ∧ (0 ≤ x1.toInt → x1.toInt < (dI d x0 1).toInt → 0 ≤ u.toInt)) := by
  unfold fX4_keyAt
  refine ok_if (fun c_1 => ?_) (fun c_1 => ?_)
  · exact (iv_no (lt_l c_1 hx1 (by decide : iv (0 : Int32) 0 0)) (by decide))
  · refine ok_gd (kd_4 hS hx0) ?_
    refine ok_if (fun c_2 => ?_) (fun c_2 => ?_)
    · obtain ⟨r4, e_3, k_4, k_4o⟩ := sh_4_0 hS hx0
      refine ok_ob e_3 ?_
      refine ok_gd (kd_37 hS k_4) ?_
      refine ok_gd (ixg hx1 (ln_37 hS k_4) (by decide)) ?_
      refine ok_gd (iv_nz (by decide : iv (64 : Int32) 64 64) (by decide)) ?_
      refine ok_gd (iv_nz (by decide : iv (2 : Int32) 2 2) (by decide)) ?_
      exact sX4_keyAt_J27__4 hS hx0 hx1 (iv.w (okE_k (rd_37 hB k_4 (ixn hx1 (by decide)))) (by decide)) (fun _ _ => (okE_k (rd_37 hB k_4 (ixn hx1 (by decide)))).1) hB hr_x0_1
    · have h_5 := iv.w (c := 1) (e := 2399) (le_l (nlt c_2) hr_x0_1 hx1) (by decide)
      have h_6 := iv.w (c := 1) (e := 2399) (le_r (nlt c_2) hr_x0_1 hx1) (by decide)
      exact sX4_keyAt_J12__4 hS hx0 h_6 c_2 hB h_5
theorem sX4_tickAt_J25__4 {g : Gs} (hS : Shp g) {b : Nat → Int} {x0 : Nat} (hx0 : cls x0 = 4) {x1 : Int32} (hx1 : iv x1 0 2399) {z0 : Int32} {d : Ds} (hB : Bnd b d) (hr_x0_1 : iv (dI d x0 1) 0 2400) : ok (fX4_tickAt_J25 10000 g x0 x1 z0 d) (fun u d' => d' = d ∧ True) := by
  unfold fX4_tickAt_J25
  exact ok_some ⟨rfl, trivial⟩
theorem sX4_tickAt_J12__4 {g : Gs} (hS : Shp g) {b : Nat → Int} {x0 : Nat} (hx0 : cls x0 = 4) {x1 : Int32} (hx1 : iv x1 0 2399) {d : Ds} (hB : Bnd b d) (hr_x0_1 : iv (dI d x0 1) 0 2399) : ok (fX4_tickAt_J12 10000 g x0 x1 d) (fun u d' => d' = d ∧ True) := by
  unfold fX4_tickAt_J12
  exact sX4_tickAt_J25__4 hS hx0 hx1 hB (iv.w hr_x0_1 (by decide))
theorem sX4_tickAt__4 {g : Gs} (hS : Shp g) {b : Nat → Int} {x0 : Nat} (hx0 : cls x0 = 4) {x1 : Int32} (hx1 : iv x1 0 2399) {d : Ds} (hB : Bnd b d) : ok (fX4_tickAt 10000 g x0 x1 d) (fun u d' => d' = d ∧ True) := by
  unfold fX4_tickAt
  refine ok_if (fun c_1 => ?_) (fun c_1 => ?_)
  · exact (iv_no (lt_l c_1 hx1 (by decide : iv (0 : Int32) 0 0)) (by decide))
  · refine ok_gd (kd_4 hS hx0) ?_
    refine ok_if (fun c_2 => ?_) (fun c_2 => ?_)
    · have h_3 := iv.w (c := 1) (e := 2400) (lt_r c_2 hx1 (rd_4_1 hB hx0)) (by decide)
      obtain ⟨r4, e_4, k_5, k_5o⟩ := sh_4_0 hS hx0
      refine ok_ob e_4 ?_
      refine ok_gd (kd_37 hS k_5) ?_
      refine ok_gd (ixg hx1 (ln_37 hS k_5) (by decide)) ?_
      refine ok_gd (iv_nz (by decide : iv (64 : Int32) 64 64) (by decide)) ?_
      exact sX4_tickAt_J25__4 hS hx0 hx1 hB (iv.w h_3 (by decide))
    · have h_6 := iv.w (c := 0) (e := 2399) (le_l (nlt c_2) (rd_4_1 hB hx0) hx1) (by decide)
      exact sX4_tickAt_J12__4 hS hx0 hx1 hB h_6
theorem sX1_fateOfDouble_L2__1 {g : Gs} (hS : Shp g) {b : Nat → Int} {x0 : Nat} (hx0 : cls x0 = 1) {x1 : Int32} (hx1 : iv x1 0 23) {x2 : Int32} {y3 : Int32} (hy3 : iv y3 1 2400) {d : Ds} (hB : Bnd b d) : ok (fX1_fateOfDouble_L2 10000 g x0 x1 x2 (y3, d)) (fun u d' => d' = d ∧ iv u 0 7) := by
  unfold fX1_fateOfDouble_L2
  refine ok_lp (fun a => a.2 = d ∧ iv a.1 1 2400 ∧ True) (fun a => (2400 - a.1.toInt).toNat) ?_ 10000 _ ⟨rfl, hy3, trivial⟩ (ms_b hy3 (by decide))
  · rintro K2 ⟨y3, d⟩ ⟨rfl, hy3, -⟩ hK2
    (try dsimp only at hy3 hK2 ⊢)
    unfold fX1_fateOfDouble_B2
    refine ok_gd (kd_1 hS hx0) ?_
    obtain ⟨r2, e_1, k_2, k_2o⟩ := sh_1_2 hS hx0
    refine ok_ob e_1 ?_
    refine ok_gd (kd_4 hS k_2) ?_
    refine ok_if (fun c_3 => ?_) (fun c_3 => ?_)
    · refine ok_if (fun c_4 => ?_) (fun c_4 => ?_)
      · have h_5 := iv.w (c := 0) (e := 2147483646) (lt_l c_4 (now_lo (rd_1_5 hB hx0)) (ivT _)) (by decide)
        have h_6 := iv.w (c := 1) (e := 2147483647) (lt_r c_4 (now_lo (rd_1_5 hB hx0)) (ivT _)) (by decide)
        exact sX1_fateOfDouble_J79__1 hS hx0 hx1 (iv.w (by decide : iv (0 : Int32) 0 0) (by decide)) hB
      · exact sX1_fateOfDouble_J79__1 hS hx0 hx1 (iv.w (by decide : iv (6 : Int32) 6 6) (by decide)) hB
    · have h_7 := iv.w (c := 1) (e := 2399) (lt_l (nle c_3) hy3 (rd_4_1 hB k_2)) (by decide)
      have h_8 := iv.w (c := 2) (e := 2400) (lt_r (nle c_3) hy3 (rd_4_1 hB k_2)) (by decide)
      refine ok_cb (sX4_tickAt__4 hS k_2 (iv.w h_7 (by decide)) hB) (fun u8 d6 r_9 => ?_)
      obtain ⟨rfl, h_11⟩ := r_9
      refine ok_if (fun c_12 => ?_) (fun c_12 => ?_)
      · have h_13 := iv.w (c := (-2147483648)) (e := 2147483646) (lt_l c_12 (ivT _) (ivT _)) (by decide)
        have h_14 := iv.w (c := (-2147483647)) (e := 2147483647) (lt_r c_12 (ivT _) (ivT _)) (by decide)
        refine ok_cb (sX4_isDownAt__4 hS k_2 (iv.w h_7 (by decide)) hB) ?_
        rintro _ _ ⟨rfl, rfl | ⟨rfl, c_15, c_16⟩⟩
        · refine ok_if (fun c_17 => ?_) (fun c_17 => ?_)
          · refine ok_bd (fun u14 e_18 => ?_)
            have h_19 := iv_e e_18 (iv_add (l := 2) (h := 2400) h_7 (by decide : iv (1 : Int32) 1 1) (by decide))
            exact hK2 _ ⟨rfl, (iv.w h_19 (by decide)), trivial⟩ (ms_up (H := 2400) e_18 h_7 (by decide : iv (1 : Int32) 1 1) (by decide))
          · exact (ne_no c_17 (by decide : iv (0 : Int32) 0 0) (by decide : iv (0 : Int32) 0 0))
        · refine ok_if (fun c_20 => ?_) (fun c_20 => ?_)
          · exact (eq_no c_20 (by decide : iv (1 : Int32) 1 1) (by decide : iv (0 : Int32) 0 0) (by decide))
          · refine ok_cb (sX4_keyAt__4 hS k_2 (iv.w h_7 (by decide)) hB (iv.w h_8 (by decide))) (fun u17 d15 r_21 => ?_)
            obtain ⟨rfl, h_23, x_23⟩ := r_21
            refine ok_if (fun c_24 => ?_) (fun c_24 => ?_)
            · have h_25 := iv.w (c := 0) (e := 23) (eq_l c_24 hx1) (by decide)
              exact sX1_fateOfDouble_J58__1 hS hx0 hx1 h_14 (iv.w (by decide : iv (7 : Int32) 7 7) (by decide)) hB
            · exact sX1_fateOfDouble_J58__1 hS hx0 hx1 h_14 (iv.w (by decide : iv (6 : Int32) 6 6) (by decide)) hB
      · exact ok_some ⟨rfl, (iv.w (by decide : iv (6 : Int32) 6 6) (by decide))⟩
theorem sX1_fateOfDouble__1 {g : Gs} (hS : Shp g) {b : Nat → Int} {x0 : Nat} (hx0 : cls x0 = 1) {x1 : Int32} (hx1 : iv x1 0 23) {x2 : Int32} {d : Ds} (hB : Bnd b d) : ok (fX1_fateOfDouble 10000 g x0 x1 x2 d) (fun u d' => d' = d ∧ iv u 0 7) := by
  unfold fX1_fateOfDouble
  exact sX1_fateOfDouble_L2__1 hS hx0 hx1 (iv.w (by decide : iv (1 : Int32) 1 1) (by decide)) hB
theorem sX1_fateOfHold_J103__1 {g : Gs} (hS : Shp g) {b : Nat → Int} {x0 : Nat} (hx0 : cls x0 = 1) {x1 : Int32} (hx1 : iv x1 0 23) {x2 : Int32} {z0 : Int32} (hz0 : iv z0 0 4) {d : Ds} (hB : Bnd b d) : ok (fX1_fateOfHold_J103 10000 g x0 x1 x2 z0 d) (fun u d' => d' = d ∧ iv u 0 5) := by
  unfold fX1_fateOfHold_J103
  exact ok_some ⟨rfl, (iv.w hz0 (by decide))⟩
theorem sX1_fateOfHold_J84__1 {g : Gs} (hS : Shp g) {b : Nat → Int} {x0 : Nat} (hx0 : cls x0 = 1) {x1 : Int32} (hx1 : iv x1 0 23) {x2 : Int32} (hx2 : iv x2 (-2147483647) 2147483647) {y3 : Int32} {y4 : Int32} (hy4 : iv y4 1 2399) {d : Ds} (hB : Bnd b d) {K5 : Int32 × Int32 × Ds → Option (Int32 × Ds)} {μ5 : Nat} (hK5 : ∀ a, a.2.2 = d ∧ iv a.2.1 1 2400 ∧ True → (2400 - a.2.1.toInt).toNat < μ5 → ok (K5 a) (fun u d' => d' = d ∧ iv u 0 5)) (hm5 : (2400 - y4.toInt).toNat ≤ μ5) : ok (fX1_fateOfHold_J84 10000 g x0 x1 x2 K5 y3 y4 d) (fun u d' => d' = d ∧ iv u 0 5) := by
  unfold fX1_fateOfHold_J84
  refine ok_bd (fun u22 e_1 => ?_)
  have h_2 := iv_e e_1 (iv_add (l := 2) (h := 2400) hy4 (by decide : iv (1 : Int32) 1 1) (by decide))
  exact hK5 _ ⟨rfl, (iv.w h_2 (by decide)), trivial⟩ (Nat.lt_of_lt_of_le (ms_up (H := 2400) e_1 hy4 (by decide : iv (1 : Int32) 1 1) (by decide)) hm5)
theorem sX1_fateOfHold_L5__1 {g : Gs} (hS : Shp g) {b : Nat → Int} {x0 : Nat} (hx0 : cls x0 = 1) {x1 : Int32} (hx1 : iv x1 0 23) {x2 : Int32} {y3 : Int32} {y4 : Int32} (hy4 : iv y4 1 2400) {d : Ds} (hB : Bnd b d) : ok (fX1_fateOfHold_L5 10000 g x0 x1 x2 (y3, y4, d)) (fun u d' => d' = d ∧ iv u 0 5) := by
  unfold fX1_fateOfHold_L5
  refine ok_lp (fun a => a.2.2 = d ∧ iv a.2.1 1 2400 ∧ True) (fun a => (2400 - a.2.1.toInt).toNat) ?_ 10000 _ ⟨rfl, hy4, trivial⟩ (ms_b hy4 (by decide))
  · rintro K5 ⟨y3, y4, d⟩ ⟨rfl, hy4, -⟩ hK5
    (try dsimp only at hy4 hK5 ⊢)
    unfold fX1_fateOfHold_B5
    refine ok_gd (kd_1 hS hx0) ?_
    obtain ⟨r2, e_1, k_2, k_2o⟩ := sh_1_2 hS hx0
    refine ok_ob e_1 ?_
    refine ok_gd (kd_4 hS k_2) ?_
    refine ok_if (fun c_3 => ?_) (fun c_3 => ?_)
    · refine ok_if (fun c_4 => ?_) (fun c_4 => ?_)
      · have h_5 := iv.w (c := 0) (e := 2147483646) (lt_l c_4 (now_lo (rd_1_5 hB hx0)) (ivT _)) (by decide)
        have h_6 := iv.w (c := 1) (e := 2147483647) (lt_r c_4 (now_lo (rd_1_5 hB hx0)) (ivT _)) (by decide)
        exact sX1_fateOfHold_J103__1 hS hx0 hx1 (iv.w (by decide : iv (0 : Int32) 0 0) (by decide)) hB
      · exact sX1_fateOfHold_J103__1 hS hx0 hx1 (iv.w (by decide : iv (4 : Int32) 4 4) (by decide)) hB
    · have h_7 := iv.w (c := 1) (e := 2399) (lt_l (nle c_3) hy4 (rd_4_1 hB k_2)) (by decide)
      have h_8 := iv.w (c := 2) (e := 2400) (lt_r (nle c_3) hy4 (rd_4_1 hB k_2)) (by decide)
      refine ok_cb (sX4_keyAt__4 hS k_2 (iv.w h_7 (by decide)) hB (iv.w h_8 (by decide))) (fun u8 d6 r_9 => ?_)
      obtain ⟨rfl, h_11, x_11⟩ := r_9
      refine ok_cb (sX4_tickAt__4 hS k_2 (iv.w h_7 (by decide)) hB) (fun u11 d9 r_12 => ?_)
      obtain ⟨rfl, h_14⟩ := r_12
      refine ok_if (fun c_15 => ?_) (fun c_15 => ?_)
      · have h_16 := iv.w (c := (-2147483648)) (e := 2147483646) (lt_l c_15 (ivT _) (ivT _)) (by decide)
        have h_17 := iv.w (c := (-2147483647)) (e := 2147483647) (lt_r c_15 (ivT _) (ivT _)) (by decide)
        refine ok_cb (sX4_isDownAt__4 hS k_2 (iv.w h_7 (by decide)) hB) ?_
        rintro _ _ ⟨rfl, rfl | ⟨rfl, c_18, c_19⟩⟩
        · refine ok_if (fun c_20 => ?_) (fun c_20 => ?_)
          · refine ok_if (fun c_21 => ?_) (fun c_21 => ?_)
            · have h_22 := iv.w (c := 0) (e := 23) (eq_l c_21 hx1) (by decide)
              exact ok_some ⟨rfl, (iv.w (by decide : iv (5 : Int32) 5 5) (by decide))⟩
            · refine ok_cb (sX11_isIn hS h_11 hB) ?_
              rintro _ _ ⟨rfl, ⟨rfl, c_23⟩ | ⟨rfl, c_24⟩⟩
              · have h_25 := iv.w (c := 0) (e := 0) (eq_l c_23 (by decide : iv (0 : Int32) 0 0)) (by decide)
                refine ok_if (fun c_26 => ?_) (fun c_26 => ?_)
                · exact sX1_fateOfHold_J84__1 hS hx0 hx1 h_17 h_7 hB hK5 (Nat.le_refl _)
                · exact (ne_no c_26 (by decide : iv (0 : Int32) 0 0) (by decide : iv (0 : Int32) 0 0))
              · have h_27 := iv.w (c := 1) (e := 1) (ne_lo c_24 (iv_and (by decide : iv (1 : Int32) 1 1) (by decide)) (by decide : iv (0 : Int32) 0 0)) (by decide)
                refine ok_if (fun c_28 => ?_) (fun c_28 => ?_)
                · exact (eq_no c_28 (by decide : iv (1 : Int32) 1 1) (by decide : iv (0 : Int32) 0 0) (by decide))
                · exact ok_some ⟨rfl, (iv.w (by decide : iv (4 : Int32) 4 4) (by decide))⟩
          · exact (ne_no c_20 (by decide : iv (0 : Int32) 0 0) (by decide : iv (0 : Int32) 0 0))
        · refine ok_if (fun c_29 => ?_) (fun c_29 => ?_)
          · exact (eq_no c_29 (by decide : iv (1 : Int32) 1 1) (by decide : iv (0 : Int32) 0 0) (by decide))
          · refine ok_bd (fun u23 e_30 => ?_)
            exact sX1_fateOfHold_J84__1 hS hx0 hx1 h_17 h_7 hB hK5 (Nat.le_refl _)
      · exact ok_some ⟨rfl, (iv.w (by decide : iv (4 : Int32) 4 4) (by decide))⟩
theorem sX1_fateOfHold__1 {g : Gs} (hS : Shp g) {b : Nat → Int} {x0 : Nat} (hx0 : cls x0 = 1) {x1 : Int32} (hx1 : iv x1 0 23) {x2 : Int32} {d : Ds} (hB : Bnd b d) : ok (fX1_fateOfHold 10000 g x0 x1 x2 d) (fun u d' => d' = d ∧ iv u 0 5) := by
  unfold fX1_fateOfHold
  exact sX1_fateOfHold_L5__1 hS hx0 hx1 (iv.w (by decide : iv (1 : Int32) 1 1) (by decide)) hB
theorem sX1_fateOfFirst_J188__1 {g : Gs} (hS : Shp g) {b : Nat → Int} {x0 : Nat} (hx0 : cls x0 = 1) {y1 : Int32} (hy1 : iv y1 0 23) {d : Ds} (hq : ∀ e, gR g x0 2 = some e → 1 ≤ (dI d e 1).toInt) (hB : Bnd b d) : ok (fX1_fateOfFirst_J188 10000 g x0 y1 d) (fun u d' => d' = d ∧ iv u 0 7 ∧ (¬ u = 0 → ∀ e, gR g x0 2 = some e → 1 ≤ (dI d e 1).toInt)) := by
  unfold fX1_fateOfFirst_J188
  refine ok_gd (kd_1 hS hx0) ?_
  obtain ⟨r31, e_1, k_2, k_2o⟩ := sh_1_2 hS hx0
  refine ok_ob e_1 ?_
  refine ok_gd (kd_4 hS k_2) ?_
  refine ok_cb (sX4_tickAt__4 hS k_2 (iv.w (by decide : iv (0 : Int32) 0 0) (by decide)) hB) (fun u35 d33 r_3 => ?_)
  obtain ⟨rfl, h_5⟩ := r_3
  obtain ⟨r36, e_6, k_7⟩ := sh_1_0 hS hx0
  refine ok_ob e_6 ?_
  refine ok_gd (kd_13 hS k_7) ?_
  refine ok_cb (sX1_fateOfHold__1 hS hx0 hy1 hB) (fun u40 d38 r_8 => ?_)
  obtain ⟨rfl, h_10⟩ := r_8
  exact ok_some ⟨rfl, (iv.w h_10 (by decide)), fun _ => hq⟩
theorem sX1_fateOfFirst_J241__1 {g : Gs} (hS : Shp g) {b : Nat → Int} {x0 : Nat} (hx0 : cls x0 = 1) {z0 : Int32} (hz0 : iv z0 0 7) {d : Ds} (hq : ∀ e, gR g x0 2 = some e → 1 ≤ (dI d e 1).toInt) (hB : Bnd b d) : ok (fX1_fateOfFirst_J241 10000 g x0 z0 d) (fun u d' => d' = d ∧ iv u 0 7 ∧ (¬ u = 0 → ∀ e, gR g x0 2 = some e → 1 ≤ (dI d e 1).toInt)) := by
  unfold fX1_fateOfFirst_J241
  exact ok_some ⟨rfl, hz0, fun _ => hq⟩
theorem sX1_fateOfFirst_J160__1 {g : Gs} (hS : Shp g) {b : Nat → Int} {x0 : Nat} (hx0 : cls x0 = 1) {y1 : Int32} (hy1 : iv y1 0 23) {d : Ds} (hq : ∀ e, gR g x0 2 = some e → 1 ≤ (dI d e 1).toInt) (hB : Bnd b d) : ok (fX1_fateOfFirst_J160 10000 g x0 y1 d) (fun u d' => d' = d ∧ iv u 0 7 ∧ (¬ u = 0 → ∀ e, gR g x0 2 = some e → 1 ≤ (dI d e 1).toInt)) := by
  unfold fX1_fateOfFirst_J160
  refine ok_gd (kd_1 hS hx0) ?_
  obtain ⟨r19, e_1, k_2⟩ := sh_1_0 hS hx0
  refine ok_ob e_1 ?_
  refine ok_cb (sX1_activeLayers__1 hS hx0 hB) (fun u22 d20 r_3 => ?_)
  obtain ⟨rfl, h_5⟩ := r_3
  refine ok_gd (kd_13 hS k_2) ?_
  refine ok_cb (sX0_deedIn__13 hS k_2 hy1 hB) (fun u26 d24 r_6 => ?_)
  obtain ⟨rfl, h_8⟩ := r_6
  refine ok_gd (kd_2 hS h_8) ?_
  refine ok_bd (fun u28 e_9 => ?_)
  refine ok_if (fun c_11 => ?_) (fun c_11 => ?_)
  · have h_12 := iv.w (c := 6) (e := 6) (eq_l c_11 (by decide : iv (6 : Int32) 6 6)) (by decide)
    exact sX1_fateOfFirst_J188__1 hS hx0 hy1 hq hB
  · refine ok_if (fun c_13 => ?_) (fun c_13 => ?_)
    · have h_14 := iv.w (c := 7) (e := 7) (eq_l c_13 (by decide : iv (7 : Int32) 7 7)) (by decide)
      exact sX1_fateOfFirst_J188__1 hS hx0 hy1 hq hB
    · refine ok_if (fun c_15 => ?_) (fun c_15 => ?_)
      · have h_16 := iv.w (c := 8) (e := 8) (eq_l c_15 (by decide : iv (8 : Int32) 8 8)) (by decide)
        obtain ⟨r43, e_17, k_18, k_18o⟩ := sh_1_2 hS hx0
        refine ok_ob e_17 ?_
        refine ok_gd (kd_4 hS k_18) ?_
        refine ok_cb (sX4_tickAt__4 hS k_18 (iv.w (by decide : iv (0 : Int32) 0 0) (by decide)) hB) (fun u47 d45 r_19 => ?_)
        obtain ⟨rfl, h_21⟩ := r_19
        refine ok_cb (sX1_fateOfDouble__1 hS hx0 hy1 hB) (fun u50 d48 r_22 => ?_)
        obtain ⟨rfl, h_24⟩ := r_22
        exact sX1_fateOfFirst_J241__1 hS hx0 h_24 hq hB
      · exact sX1_fateOfFirst_J241__1 hS hx0 (iv.w (by decide : iv (3 : Int32) 3 3) (by decide)) hq hB
theorem sX1_fateOfFirst_J120__1 {g : Gs} (hS : Shp g) {b : Nat → Int} {x0 : Nat} (hx0 : cls x0 = 1) {y1 : Int32} (hy1 : iv y1 0 23) {y3 : Int32} {z0 : Int32} {d : Ds} (hq : ∀ e, gR g x0 2 = some e → 1 ≤ (dI d e 1).toInt) (hB : Bnd b d) : ok (fX1_fateOfFirst_J120 10000 g x0 y1 y3 z0 d) (fun u d' => d' = d ∧ iv u 0 7 ∧ (¬ u = 0 → ∀ e, gR g x0 2 = some e → 1 ≤ (dI d e 1).toInt)) := by
  unfold fX1_fateOfFirst_J120
  refine ok_gd (kd_1 hS hx0) ?_
  obtain ⟨r64, e_1, k_2, k_2o⟩ := sh_1_2 hS hx0
  refine ok_ob e_1 ?_
  refine ok_gd (kd_4 hS k_2) ?_
  refine ok_cb (sX4_isDownAt__4 hS k_2 (iv.w (by decide : iv (1 : Int32) 1 1) (by decide)) hB) ?_
  rintro _ _ ⟨rfl, rfl | ⟨rfl, c_3, c_4⟩⟩
  · refine ok_if (fun c_5 => ?_) (fun c_5 => ?_)
    · exact sX1_fateOfFirst_J160__1 hS hx0 hy1 hq hB
    · exact (ne_no c_5 (by decide : iv (0 : Int32) 0 0) (by decide : iv (0 : Int32) 0 0))
  · have h_6 := iv.w (c := 2) (e := 2400) (lt_r (nle c_4) (by decide : iv (1 : Int32) 1 1) (rd_4_1 hB k_2)) (by decide)
    refine ok_if (fun c_7 => ?_) (fun c_7 => ?_)
    · exact (eq_no c_7 (by decide : iv (1 : Int32) 1 1) (by decide : iv (0 : Int32) 0 0) (by decide))
    · refine ok_cb (sX4_keyAt__4 hS k_2 (iv.w (by decide : iv (1 : Int32) 1 1) (by decide)) hB (iv.w h_6 (by decide))) (fun u72 d70 r_8 => ?_)
      obtain ⟨rfl, h_10, x_10⟩ := r_8
      have h_11 : iv u72 0 23 := ⟨x_10 (Int.le_trans (by decide) (by decide : iv (1 : Int32) 1 1).1) (Int.lt_of_le_of_lt (by decide : iv (1 : Int32) 1 1).2 (Int.lt_of_lt_of_le (by decide) h_6.1)), h_10.2⟩
      refine ok_if (fun c_12 => ?_) (fun c_12 => ?_)
      · have h_13 := iv.w (c := 0) (e := 23) (eq_r c_12 h_11) (by decide)
        refine ok_cb (sX4_tickAt__4 hS k_2 (iv.w (by decide : iv (1 : Int32) 1 1) (by decide)) hB) (fun u76 d74 r_14 => ?_)
        obtain ⟨rfl, h_16⟩ := r_14
        refine ok_if (fun c_17 => ?_) (fun c_17 => ?_)
        · exact sX1_fateOfFirst_J160__1 hS hx0 hy1 hq hB
        · have h_18 := iv.w (c := (-2147483648)) (e := 2147483646) (lt_l (nle c_17) (ivT _) (ivT _)) (by decide)
          have h_19 := iv.w (c := (-2147483647)) (e := 2147483647) (lt_r (nle c_17) (ivT _) (ivT _)) (by decide)
          exact ok_some ⟨rfl, (iv.w (by decide : iv (2 : Int32) 2 2) (by decide)), fun _ => hq⟩
      · exact sX1_fateOfFirst_J160__1 hS hx0 hy1 hq hB
theorem sX1_fateOfFirst_J86__1 {g : Gs} (hS : Shp g) {b : Nat → Int} {x0 : Nat} (hx0 : cls x0 = 1) {y1 : Int32} (hy1 : iv y1 0 23) {y2 : Int32} (hy2 : iv y2 0 3) {y3 : Int32} {d : Ds} (hq : ∀ e, gR g x0 2 = some e → 1 ≤ (dI d e 1).toInt) (hB : Bnd b d) : ok (fX1_fateOfFirst_J86 10000 g x0 y1 y2 y3 d) (fun u d' => d' = d ∧ iv u 0 7 ∧ (¬ u = 0 → ∀ e, gR g x0 2 = some e → 1 ≤ (dI d e 1).toInt)) := by
  unfold fX1_fateOfFirst_J86
  refine ok_gd (kd_1 hS hx0) ?_
  obtain ⟨r57, e_1, k_2⟩ := sh_1_0 hS hx0
  refine ok_ob e_1 ?_
  refine ok_gd (kd_13 hS k_2) ?_
  obtain ⟨r59, e_3, k_4⟩ := sh_13_13 hS k_2
  refine ok_ob e_3 ?_
  refine ok_gd (kd_26 hS k_4) ?_
  refine ok_gd (ixg hy2 (ln_26 hS k_4) (by decide)) ?_
  refine ok_if (fun c_5 => ?_) (fun c_5 => ?_)
  · have h_6 := iv.w (c := 0) (e := 23) (eq_l c_5 hy1) (by decide)
    obtain ⟨r78, e_7, k_8⟩ := sh_13_14 hS k_2
    refine ok_ob e_7 ?_
    refine ok_gd (kd_27 hS k_8) ?_
    refine ok_gd (ixg hy2 (ln_27 hS k_8) (by decide)) ?_
    exact sX1_fateOfFirst_J120__1 hS hx0 hy1 hq hB
  · exact sX1_fateOfFirst_J120__1 hS hx0 hy1 hq hB
theorem sX1_fateOfFirst__1 {g : Gs} (hS : Shp g) {b : Nat → Int} {x0 : Nat} (hx0 : cls x0 = 1) {d : Ds} (hB : Bnd b d) : ok (fX1_fateOfFirst 10000 g x0 d) (fun u d' => d' = d ∧ iv u 0 7 ∧ (¬ u = 0 → ∀ e, gR g x0 2 = some e → 1 ≤ (dI d e 1).toInt)) := by
  unfold fX1_fateOfFirst
  refine ok_gd (kd_1 hS hx0) ?_
  obtain ⟨r2, e_1, k_2, k_2o⟩ := sh_1_2 hS hx0
  refine ok_ob e_1 ?_
  refine ok_gd (kd_4 hS k_2) ?_
  refine ok_if (fun c_3 => ?_) (fun c_3 => ?_)
  · have h_4 := iv.w (c := 0) (e := 0) (eq_l c_3 (by decide : iv (0 : Int32) 0 0)) (by decide)
    exact ok_some ⟨rfl, (iv.w (by decide : iv (0 : Int32) 0 0) (by decide)), fun h => absurd rfl h⟩
  · have h_5 := iv.w (c := 1) (e := 2400) (ne_lo c_3 (rd_4_1 hB k_2) (by decide : iv (0 : Int32) 0 0)) (by decide)
    have hq : ∀ e, gR g x0 2 = some e → 1 ≤ (dI d e 1).toInt := fun e he => by rw [e_1] at he; cases he; exact h_5.1
    refine ok_cb (sX4_isDownAt__4 hS k_2 (iv.w (by decide : iv (0 : Int32) 0 0) (by decide)) hB) ?_
    rintro _ _ ⟨rfl, rfl | ⟨rfl, c_6, c_7⟩⟩
    · refine ok_if (fun c_8 => ?_) (fun c_8 => ?_)
      · exact ok_some ⟨rfl, (iv.w (by decide : iv (1 : Int32) 1 1) (by decide)), fun _ => hq⟩
      · exact (ne_no c_8 (by decide : iv (0 : Int32) 0 0) (by decide : iv (0 : Int32) 0 0))
    · refine ok_if (fun c_9 => ?_) (fun c_9 => ?_)
      · exact (eq_no c_9 (by decide : iv (1 : Int32) 1 1) (by decide : iv (0 : Int32) 0 0) (by decide))
      · refine ok_cb (sX4_keyAt__4 hS k_2 (iv.w (by decide : iv (0 : Int32) 0 0) (by decide)) hB h_5) (fun u11 d9 r_10 => ?_)
        obtain ⟨rfl, h_12, x_12⟩ := r_10
        have h_13 : iv u11 0 23 := ⟨x_12 (Int.le_trans (by decide) (by decide : iv (0 : Int32) 0 0).1) (Int.lt_of_le_of_lt (by decide : iv (0 : Int32) 0 0).2 (Int.lt_of_lt_of_le (by decide) h_5.1)), h_12.2⟩
        obtain ⟨r12, e_14, k_15⟩ := sh_1_0 hS hx0
        refine ok_ob e_14 ?_
        refine ok_gd (kd_13 hS k_15) ?_
        refine ok_cb (sX0_chordOf__13 hS k_15 h_13 hB) (fun u16 d14 r_16 => ?_)
        obtain ⟨rfl, h_18⟩ := r_16
        refine ok_if (fun c_19 => ?_) (fun c_19 => ?_)
        · have h_20 := iv.w (c := (-1)) (e := (-1)) (eq_l c_19 (by decide : iv ((-1) : Int32) (-1) (-1))) (by decide)
          exact sX1_fateOfFirst_J160__1 hS hx0 h_13 hq hB
        · have h_21 := iv.w (c := 0) (e := 3) (ne_lo c_19 h_18 (by decide : iv ((-1) : Int32) (-1) (-1))) (by decide)
          refine ok_cb (sX4_tickAt__4 hS k_2 (iv.w (by decide : iv (0 : Int32) 0 0) (by decide)) hB) (fun u53 d51 r_22 => ?_)
          obtain ⟨rfl, h_24⟩ := r_22
          refine ok_bd (fun u54 e_25 => ?_)
          refine ok_if (fun c_27 => ?_) (fun c_27 => ?_)
          · have h_28 := iv.w (c := 1) (e := 1) (eq_l c_27 (by decide : iv (1 : Int32) 1 1)) (by decide)
            refine ok_if (fun c_29 => ?_) (fun c_29 => ?_)
            · exact sX1_fateOfFirst_J86__1 hS hx0 h_13 h_21 hq hB
            · have h_30 := iv.w (c := 0) (e := 2147483646) (lt_l (nle c_29) (now_lo (rd_1_5 hB hx0)) (ivT _)) (by decide)
              have h_31 := iv.w (c := 1) (e := 2147483647) (lt_r (nle c_29) (now_lo (rd_1_5 hB hx0)) (ivT _)) (by decide)
              exact ok_some ⟨rfl, (iv.w (by decide : iv (0 : Int32) 0 0) (by decide)), fun _ => hq⟩
          · have h_32 := iv.w (c := 2) (e := 2400) (ne_lo c_27 h_5 (by decide : iv (1 : Int32) 1 1)) (by decide)
            exact sX1_fateOfFirst_J86__1 hS hx0 h_13 h_21 hq hB
def m_sX5_repeatLatest__5 : Nat := 0x18000000000000000000000000000000000000000000000000000000000000000000000000000000000
theorem sX5_repeatLatest_J54__5 {g : Gs} (hS : Shp g) {b : Nat → Int} {d0 : Ds} {x0 : Nat} (hx0 : cls x0 = 5) {x1 : Int32} (hx1 : iv x1 0 33554375) {x2 : Int32} {x3 : Int32} {d : Ds} (hI : Inv m_sX5_repeatLatest__5 b d0 d) : ok (fX5_repeatLatest_J54 10000 g x0 x1 x2 x3 d) (fun u d' => Inv m_sX5_repeatLatest__5 b d0 d' ∧ True) := by
  unfold fX5_repeatLatest_J54
  exact ok_some ⟨hI, trivial⟩
theorem sX5_repeatLatest__5 {g : Gs} (hS : Shp g) {b : Nat → Int} {x0 : Nat} (hx0 : cls x0 = 5) {x1 : Int32} (hx1 : iv x1 0 33554375) {x2 : Int32} {x3 : Int32} {d : Ds} (hB : Bnd b d) : ok (fX5_repeatLatest 10000 g x0 x1 x2 x3 d) (fun u d' => Inv m_sX5_repeatLatest__5 b d d' ∧ True) := by
  have hI : Inv m_sX5_repeatLatest__5 b d d := Inv.rf hB
  unfold fX5_repeatLatest
  refine ok_gd (kd_5 hS hx0) ?_
  refine ok_bd (fun u2 e_1 => ?_)
  refine ok_if (fun c_3 => ?_) (fun c_3 => ?_)
  · have h_4 := iv.w (c := (-1)) (e := (-1)) (eq_l c_3 (by decide : iv ((-1) : Int32) (-1) (-1))) (by decide)
    exact sX5_repeatLatest_J54__5 hS hx0 hx1 hI
  · refine ok_if (fun c_5 => ?_) (fun c_5 => ?_)
    · have h_6 := iv.w (c := (-2147483648)) (e := (-1)) (lt_l c_5 (ivT _) (by decide : iv (0 : Int32) 0 0)) (by decide)
      exact sX5_repeatLatest_J54__5 hS hx0 hx1 hI
    · have h_7 := iv.w (c := 0) (e := 2147483647) (le_r (nlt c_5) (by decide : iv (0 : Int32) 0 0) (ivT _)) (by decide)
      refine ok_if (fun c_8 => ?_) (fun c_8 => ?_)
      · have h_9 := iv.w (c := (-2147483648)) (e := 0) (le_l c_8 (ivT _) (by decide : iv (0 : Int32) 0 0)) (by decide)
        exact sX5_repeatLatest_J54__5 hS hx0 hx1 hI
      · have h_10 := iv.w (c := 1) (e := 2147483647) (lt_r (nle c_8) (by decide : iv (0 : Int32) 0 0) (ivT _)) (by decide)
        refine ok_gd (iv_nz h_10 (by decide)) ?_
        refine ok_if (fun c_11 => ?_) (fun c_11 => ?_)
        · have h_12 := iv.w (c := 0) (e := 0) (eq_l c_11 (by decide : iv (0 : Int32) 0 0)) (by decide)
          refine ok_bd (fun d8 e_13 => ?_)
          have h_14 := Inv.set e_13 hI (by rw [hx0]; exact trivial) (mO hx0 (by decide) (by decide +kernel)) (nO hx0 (by decide) (by decide +kernel))
          refine ok_bd (fun d9 e_15 => ?_)
          have h_16 := Inv.set e_15 h_14 (by rw [hx0]; exact trivial) (mO hx0 (by decide) (by decide +kernel)) (nO hx0 (by decide) (by decide +kernel))
          exact sX5_repeatLatest_J54__5 hS hx0 hx1 h_16
        · have h_17 := iv.w (c := 1) (e := 2147483646) (ne_lo c_11 (iv.w (c := 0) (e := 2147483646) (iv_rem h_7 h_10 (by decide)) (by decide)) (by decide : iv (0 : Int32) 0 0)) (by decide)
          exact sX5_repeatLatest_J54__5 hS hx0 hx1 hI
theorem sX1_passTick_J131__1 {g : Gs} (hS : Shp g) {b B : Nat → Int} {d0 : Ds} {x0 : Nat} (hlb : LeB b B (own x0) 0) (hx0 : cls x0 = 1) {d : Ds} (hI : Inv m_sX1_passTick__1 b d0 d) : ok (fX1_passTick_J131 10000 g x0 d) (fun u d' => Inv m_sX1_passTick__1 B d0 d' ∧ True) := by
  unfold fX1_passTick_J131
  refine ok_gd (kd_1 hS hx0) ?_
  obtain ⟨r16, e_1, k_2, k_2o⟩ := sh_1_4 hS hx0
  refine ok_ob e_1 ?_
  obtain ⟨r17, e_3, k_4⟩ := sh_1_0 hS hx0
  refine ok_ob e_3 ?_
  refine ok_gd (kd_13 hS k_4) ?_
  refine ok_gd (kd_5 hS k_2) ?_
  refine ok_cv (sX5_repeatLatest__5 hS k_2 (now_hi (rd_1_5 hI.1 hx0) hlb) hI.1) (fun d20 r_5 => ?_)
  obtain ⟨h_6, h_7⟩ := r_5
  have h_8 := Inv.call hI h_6 (by decide +kernel)
  exact ok_some ⟨(Inv.mono hlb.1 h_8), trivial⟩
theorem sX0_chordDeed_J25__13_2__r13 {g : Gs} (hS : Shp g) {b : Nat → Int} {x0 : Nat} (hx0 : cls x0 = 13) {x1 : Int32} (hx1 : iv x1 (-1) 3) {z0 : Nat} (hz0 : cls z0 = 2) {d : Ds} (hB : Bnd b d) : ok (fX0_chordDeed_J25 10000 g x0 x1 z0 d) (fun u d' => d' = d ∧ cls u = 2) := by
  unfold fX0_chordDeed_J25
  exact ok_some ⟨rfl, hz0⟩
theorem sX0_chordDeed_J12__13 {g : Gs} (hS : Shp g) {b : Nat → Int} {x0 : Nat} (hx0 : cls x0 = 13) {x1 : Int32} (hx1 : iv x1 (-1) 3) {d : Ds} (hB : Bnd b d) : ok (fX0_chordDeed_J12 10000 g x0 x1 d) (fun u d' => d' = d ∧ cls u = 2) := by
  unfold fX0_chordDeed_J12
  refine ok_gd (kd_13 hS hx0) ?_
  obtain ⟨r3, e_1, k_2⟩ := sh_13_11 hS hx0
  refine ok_ob e_1 ?_
  exact sX0_chordDeed_J25__13_2__r13 hS hx0 hx1 k_2 hB
theorem sX0_chordDeed__13 {g : Gs} (hS : Shp g) {b : Nat → Int} {x0 : Nat} (hx0 : cls x0 = 13) {x1 : Int32} (hx1 : iv x1 (-1) 3) {d : Ds} (hB : Bnd b d) : ok (fX0_chordDeed 10000 g x0 x1 d) (fun u d' => d' = d ∧ cls u = 2) := by
  unfold fX0_chordDeed
  refine ok_if (fun c_1 => ?_) (fun c_1 => ?_)
  · have h_2 := iv.w (c := (-1)) (e := (-1)) (lt_l c_1 hx1 (by decide : iv (0 : Int32) 0 0)) (by decide)
    exact sX0_chordDeed_J12__13 hS hx0 (iv.w h_2 (by decide)) hB
  · have h_3 := iv.w (c := 0) (e := 3) (le_r (nlt c_1) (by decide : iv (0 : Int32) 0 0) hx1) (by decide)
    refine ok_gd (kd_13 hS hx0) ?_
    refine ok_if (fun c_4 => ?_) (fun c_4 => ?_)
    · have h_5 := iv.w (c := 1) (e := 4) (lt_r c_4 h_3 (rd_13_12 hB hx0)) (by decide)
      obtain ⟨r6, e_6, k_7⟩ := sh_13_15 hS hx0
      refine ok_ob e_6 ?_
      refine ok_gd (kd_28 hS k_7) ?_
      refine ok_gd (ixg h_3 (ln_28 hS k_7) (by decide)) ?_
      obtain ⟨r9, e_8, k_9⟩ := sh_28 hS k_7 (ixn h_3 (by decide))
      refine ok_ob e_8 ?_
      exact sX0_chordDeed_J25__13_2__r13 hS hx0 (iv.w h_3 (by decide)) k_9 hB
    · have h_10 := iv.w (c := 0) (e := 3) (le_l (nlt c_4) (rd_13_12 hB hx0) h_3) (by decide)
      exact sX0_chordDeed_J12__13 hS hx0 (iv.w h_3 (by decide)) hB
def m_sX3_addCode__3 : Nat := 0x1000000000000000000000000000000000000000000000000000000000000000000000000000000000000000000000000000000000000000000000000000000000000000000000000000000000000000000000000000000000000000000000000000000000000000000000000000000000000000000000000000000000000000000000000000000000000000000000000000000000000000000000000000000000000000000000000000000000000000000000000000000000000000000000000000000000000000000000000000000000000000000000000000000000000000000000000000000000000000000000000000000000000000000000000000000000000000000000000000000000000000000000000000000000000000000000000000000000000000000000000000000000000000000000100000000000000000000000000000000000000000000000000
theorem sX3_addCode_J56__3 {g : Gs} (hS : Shp g) {b : Nat → Int} {d0 : Ds} {x0 : Nat} (hx0 : cls x0 = 3) {x1 : Int32} {d : Ds} (hI : Inv m_sX3_addCode__3 b d0 d) (hr_x0_8 : iv (dI d x0 8) 1 25) : ok (fX3_addCode_J56 10000 g x0 x1 d) (fun u d' => Inv m_sX3_addCode__3 b d0 d' ∧ True) := by
  unfold fX3_addCode_J56
  exact ok_some ⟨hI, trivial⟩
theorem sX3_addCode_L2__3 {g : Gs} (hS : Shp g) {b : Nat → Int} {d0 : Ds} {x0 : Nat} (hx0 : cls x0 = 3) {x1 : Int32} {y2 : Int32} (hy2 : iv y2 0 25) {d : Ds} (hI : Inv m_sX3_addCode__3 b d0 d) : ok (fX3_addCode_L2 10000 g x0 x1 (y2, d)) (fun u d' => Inv m_sX3_addCode__3 b d0 d' ∧ True) := by
  unfold fX3_addCode_L2
  refine ok_lp (fun a => Inv m_sX3_addCode__3 b d0 a.2 ∧ iv a.1 0 25 ∧ True) (fun a => (25 - a.1.toInt).toNat) ?_ 10000 _ ⟨hI, hy2, trivial⟩ (ms_b hy2 (by decide))
  · rintro K2 ⟨y2, d⟩ ⟨hI, hy2, -⟩ hK2
    (try dsimp only at hI hy2 hK2 ⊢)
    unfold fX3_addCode_B2
    refine ok_gd (kd_3 hS hx0) ?_
    refine ok_if (fun c_1 => ?_) (fun c_1 => ?_)
    · refine ok_if (fun c_2 => ?_) (fun c_2 => ?_)
      · have h_3 := iv.w (c := 25) (e := 25) (le_r c_2 (by decide : iv (25 : Int32) 25 25) (rd_3_8 hI.1 hx0)) (by decide)
        exact sX3_addCode_J56__3 hS hx0 hI (iv.w h_3 (by decide))
      · have h_4 := iv.w (c := 0) (e := 24) (lt_l (nle c_2) (rd_3_8 hI.1 hx0) (by decide : iv (25 : Int32) 25 25)) (by decide)
        obtain ⟨r4, e_5, k_6, k_6o⟩ := sh_3_7 hS hx0
        refine ok_ob e_5 ?_
        refine ok_gd (kd_42 hS k_6) ?_
        refine ok_gd (ixg h_4 (ln_42 hS k_6) (by decide)) ?_
        refine ok_bd (fun d7 e_7 => ?_)
        have h_8 := Inv.set e_7 hI (by rw [k_6]; exact trivial) (mA k_6 (by decide) (by decide +kernel)) (nA k_6 (by decide) (by decide +kernel))
        refine ok_bd (fun d8 e_9 => ?_)
        have h_10 := Inv.set e_9 h_8 (by rw [hx0]; exact (iv.w (iv_add (l := 1) (h := 25) (rd_sk e_7 (Or.inl (cl_ne k_6 hx0 (by decide))) h_4) (by decide : iv (1 : Int32) 1 1) (by decide)) (by decide))) (mO hx0 (by decide) (by decide +kernel)) (nO hx0 (by decide) (by decide +kernel))
        exact sX3_addCode_J56__3 hS hx0 h_10 (rd_at e_9 (iv_add (l := 1) (h := 25) (rd_sk e_7 (Or.inl (cl_ne k_6 hx0 (by decide))) h_4) (by decide : iv (1 : Int32) 1 1) (by decide)))
    · have h_11 := iv.w (c := 0) (e := 24) (lt_l (nle c_1) hy2 (rd_3_8 hI.1 hx0)) (by decide)
      have h_12 := iv.w (c := 1) (e := 25) (lt_r (nle c_1) hy2 (rd_3_8 hI.1 hx0)) (by decide)
      obtain ⟨r9, e_13, k_14, k_14o⟩ := sh_3_7 hS hx0
      refine ok_ob e_13 ?_
      refine ok_gd (kd_42 hS k_14) ?_
      refine ok_gd (ixg h_11 (ln_42 hS k_14) (by decide)) ?_
      refine ok_if (fun c_15 => ?_) (fun c_15 => ?_)
      · exact ok_some ⟨hI, trivial⟩
      · refine ok_bd (fun u13 e_16 => ?_)
        have h_17 := iv_e e_16 (iv_add (l := 1) (h := 25) h_11 (by decide : iv (1 : Int32) 1 1) (by decide))
        exact hK2 _ ⟨hI, (iv.w h_17 (by decide)), trivial⟩ (ms_up (H := 25) e_16 h_11 (by decide : iv (1 : Int32) 1 1) (by decide))
theorem sX3_addCode__3 {g : Gs} (hS : Shp g) {b : Nat → Int} {x0 : Nat} (hx0 : cls x0 = 3) {x1 : Int32} {d : Ds} (hB : Bnd b d) : ok (fX3_addCode 10000 g x0 x1 d) (fun u d' => Inv m_sX3_addCode__3 b d d' ∧ True) := by
  have hI : Inv m_sX3_addCode__3 b d d := Inv.rf hB
  unfold fX3_addCode
  exact sX3_addCode_L2__3 hS hx0 (iv.w (by decide : iv (0 : Int32) 0 0) (by decide)) hI
def m_sX3_gather__3 : Nat := 0x1000000000000000000000000000000000000000000000000000000000000000000000000000000000000000000000000000000000000000000000000000000000000000000000000000000000000000000000000000000000000000000000000000000000000000000000000000000000000000000000000000000000000000000000000000000000000000000000000000000000000000000000000000000000000000000000000000000000000000000000000000000000000000000000000000000000000000000000000000000000000000000000000000000000000000000000000000000000000000000000000000000000000000000000000000000000000000000000000000000000000000000000000000000000000000000000000000000000000000000000000000000000000000000000140000000000000000000000000000000000000000000000000
theorem sX3_gather_J76__3 {g : Gs} (hS : Shp g) {b : Nat → Int} {d0 : Ds} {x0 : Nat} (hx0 : cls x0 = 3) {x1 : Int32} {y2 : Int32} (hy2 : iv y2 0 23) {d : Ds} (hI : Inv m_sX3_gather__3 b d0 d) (hr_x0_4 : iv (dI d x0 4) 1 24) {K12 : Int32 × Ds → Option (Unit × Ds)} {μ12 : Nat} (hK12 : ∀ a, Inv m_sX3_gather__3 b d0 a.2 ∧ iv a.1 0 24 ∧ True → (24 - a.1.toInt).toNat < μ12 → ok (K12 a) (fun u d' => Inv m_sX3_gather__3 b d0 d' ∧ True)) (hm12 : (24 - y2.toInt).toNat ≤ μ12) : ok (fX3_gather_J76 10000 g x0 x1 K12 y2 d) (fun u d' => Inv m_sX3_gather__3 b d0 d' ∧ True) := by
  unfold fX3_gather_J76
  refine ok_bd (fun u18 e_1 => ?_)
  have h_2 := iv_e e_1 (iv_add (l := 1) (h := 24) hy2 (by decide : iv (1 : Int32) 1 1) (by decide))
  exact hK12 _ ⟨hI, (iv.w h_2 (by decide)), trivial⟩ (Nat.lt_of_lt_of_le (ms_up (H := 24) e_1 hy2 (by decide : iv (1 : Int32) 1 1) (by decide)) hm12)
theorem sX3_gather_J92__3 {g : Gs} (hS : Shp g) {b : Nat → Int} {d0 : Ds} {x0 : Nat} (hx0 : cls x0 = 3) {x1 : Int32} {d : Ds} (hI : Inv m_sX3_gather__3 b d0 d) : ok (fX3_gather_J92 10000 g x0 x1 d) (fun u d' => Inv m_sX3_gather__3 b d0 d' ∧ True) := by
  unfold fX3_gather_J92
  exact ok_some ⟨hI, trivial⟩
theorem sX3_gather_L12__3 {g : Gs} (hS : Shp g) {b : Nat → Int} {d0 : Ds} {x0 : Nat} (hx0 : cls x0 = 3) {x1 : Int32} {y2 : Int32} (hy2 : iv y2 0 24) {d : Ds} (hI : Inv m_sX3_gather__3 b d0 d) : ok (fX3_gather_L12 10000 g x0 x1 (y2, d)) (fun u d' => Inv m_sX3_gather__3 b d0 d' ∧ True) := by
  unfold fX3_gather_L12
  refine ok_lp (fun a => Inv m_sX3_gather__3 b d0 a.2 ∧ iv a.1 0 24 ∧ True) (fun a => (24 - a.1.toInt).toNat) ?_ 10000 _ ⟨hI, hy2, trivial⟩ (ms_b hy2 (by decide))
  · rintro K12 ⟨y2, d⟩ ⟨hI, hy2, -⟩ hK12
    (try dsimp only at hI hy2 hK12 ⊢)
    unfold fX3_gather_B12
    refine ok_gd (kd_3 hS hx0) ?_
    refine ok_if (fun c_1 => ?_) (fun c_1 => ?_)
    · refine ok_if (fun c_2 => ?_) (fun c_2 => ?_)
      · have h_3 := iv.w (c := (-1)) (e := (-1)) (eq_l c_2 (by decide : iv ((-1) : Int32) (-1) (-1))) (by decide)
        exact sX3_gather_J92__3 hS hx0 hI
      · refine ok_cv (sX3_addCode__3 hS hx0 hI.1) (fun d7 r_4 => ?_)
        obtain ⟨h_5, h_6⟩ := r_4
        have h_7 := Inv.call hI h_5 (by decide +kernel)
        exact sX3_gather_J92__3 hS hx0 h_7
    · have h_8 := iv.w (c := 0) (e := 23) (lt_l (nle c_1) hy2 (rd_3_4 hI.1 hx0)) (by decide)
      have h_9 := iv.w (c := 1) (e := 24) (lt_r (nle c_1) hy2 (rd_3_4 hI.1 hx0)) (by decide)
      obtain ⟨r9, e_10, k_11, k_11o⟩ := sh_3_3 hS hx0
      refine ok_ob e_10 ?_
      refine ok_gd (kd_41 hS k_11) ?_
      refine ok_gd (ixg h_8 (ln_41 hS k_11) (by decide)) ?_
      refine ok_bd (fun u12 e_12 => ?_)
      have h_13 := iv_e e_12 (rd_41 hI.1 k_11 (ixn h_8 (by decide)))
      obtain ⟨r13, e_14, k_15, k_15o⟩ := sh_3_0 hS hx0
      refine ok_ob e_14 ?_
      refine ok_gd (kd_38 hS k_15) ?_
      refine ok_gd (ixg h_13 (ln_38 hS k_15) (by decide)) ?_
      refine ok_if (fun c_16 => ?_) (fun c_16 => ?_)
      · have h_17 := iv.w (c := 1) (e := 1) (eq_l c_16 (by decide : iv (1 : Int32) 1 1)) (by decide)
        obtain ⟨r24, e_18, k_19, k_19o⟩ := sh_3_1 hS hx0
        refine ok_ob e_18 ?_
        refine ok_gd (kd_39 hS k_19) ?_
        refine ok_gd (ixg h_13 (ln_39 hS k_19) (by decide)) ?_
        refine ok_bd (fun d27 e_20 => ?_)
        have h_21 := Inv.set e_20 hI (by rw [hx0]; exact trivial) (mO hx0 (by decide) (by decide +kernel)) (nO hx0 (by decide) (by decide +kernel))
        exact sX3_gather_J76__3 hS hx0 h_8 h_21 (rd_sk e_20 (Or.inr (by decide)) h_9) hK12 (Nat.le_refl _)
      · refine ok_if (fun c_22 => ?_) (fun c_22 => ?_)
        · have h_23 := iv.w (c := 0) (e := 0) (eq_l c_22 (by decide : iv (0 : Int32) 0 0)) (by decide)
          obtain ⟨r19, e_24, k_25, k_25o⟩ := sh_3_1 hS hx0
          refine ok_ob e_24 ?_
          refine ok_gd (kd_39 hS k_25) ?_
          refine ok_gd (ixg h_13 (ln_39 hS k_25) (by decide)) ?_
          refine ok_cv (sX3_addCode__3 hS hx0 hI.1) (fun d22 r_26 => ?_)
          obtain ⟨h_27, h_28⟩ := r_26
          have h_29 := Inv.call hI h_27 (by decide +kernel)
          exact sX3_gather_J76__3 hS hx0 h_8 h_29 (rd_fO h_27 hx0 (by decide +kernel) h_9) hK12 (Nat.le_refl _)
        · exact sX3_gather_J76__3 hS hx0 h_8 hI h_9 hK12 (Nat.le_refl _)
theorem sX3_gather__3 {g : Gs} (hS : Shp g) {b : Nat → Int} {x0 : Nat} (hx0 : cls x0 = 3) {x1 : Int32} {d : Ds} (hB : Bnd b d) : ok (fX3_gather 10000 g x0 x1 d) (fun u d' => Inv m_sX3_gather__3 b d d' ∧ True) := by
  have hI : Inv m_sX3_gather__3 b d d := Inv.rf hB
  unfold fX3_gather
  refine ok_gd (kd_3 hS hx0) ?_
  refine ok_bd (fun d2 e_1 => ?_)
  have h_2 := Inv.set e_1 hI (by rw [hx0]; exact trivial) (mO hx0 (by decide) (by decide +kernel)) (nO hx0 (by decide) (by decide +kernel))
  refine ok_bd (fun d3 e_3 => ?_)
  have h_4 := Inv.set e_3 h_2 (by rw [hx0]; exact (iv.w (by decide : iv (0 : Int32) 0 0) (by decide))) (mO hx0 (by decide) (by decide +kernel)) (nO hx0 (by decide) (by decide +kernel))
  exact sX3_gather_L12__3 hS hx0 (iv.w (by decide : iv (0 : Int32) 0 0) (by decide)) h_4
theorem sX5_isAlike_J24__5_3 {g : Gs} (hS : Shp g) {b : Nat → Int} {x0 : Nat} (hx0 : cls x0 = 5) {x1 : Int32} (hx1 : iv x1 (-1) (-1)) {x2 : Nat} (hx2 : cls x2 = 3) {x3 : Int32} (hx3 : iv x3 0 1) {z0 : Int32} (hz0 : iv z0 0 1) {d : Ds} (hB : Bnd b d) : ok (fX5_isAlike_J24 10000 g x0 x1 x2 x3 z0 d) (fun u d' => d' = d ∧ iv u 0 1) := by
  unfold fX5_isAlike_J24
  refine ok_gd (iv_b hz0 (by decide)) ?_
  exact ok_some ⟨rfl, hz0⟩
theorem sX5_isAlike_J23__5_3 {g : Gs} (hS : Shp g) {b : Nat → Int} {x0 : Nat} (hx0 : cls x0 = 5) {x1 : Int32} (hx1 : iv x1 (-1) (-1)) {x2 : Nat} (hx2 : cls x2 = 3) {x3 : Int32} (hx3 : iv x3 0 1) {d : Ds} (hB : Bnd b d) : ok (fX5_isAlike_J23 10000 g x0 x1 x2 x3 d) (fun u d' => d' = d ∧ iv u 0 1) := by
  unfold fX5_isAlike_J23
  exact sX5_isAlike_J24__5_3 hS hx0 hx1 hx2 hx3 (iv.w (by decide : iv (0 : Int32) 0 0) (by decide)) hB
theorem sX5_isAlike_J60__5_3 {g : Gs} (hS : Shp g) {b : Nat → Int} {x0 : Nat} (hx0 : cls x0 = 5) {x1 : Int32} (hx1 : iv x1 0 39) {x2 : Nat} (hx2 : cls x2 = 3) {x3 : Int32} (hx3 : iv x3 0 1) {d : Ds} (hB : Bnd b d) : ok (fX5_isAlike_J60 10000 g x0 x1 x2 x3 d) (fun u d' => d' = d ∧ iv u 0 1) := by
  unfold fX5_isAlike_J60
  exact ok_some ⟨rfl, (iv.w (by decide : iv (0 : Int32) 0 0) (by decide))⟩
theorem sX5_codeAt_J24__5 {g : Gs} (hS : Shp g) {b : Nat → Int} {x0 : Nat} (hx0 : cls x0 = 5) {x1 : Int32} (hx1 : iv x1 0 39) {x2 : Int32} (hx2 : iv x2 (-1) 2147483647) {d : Ds} (hB : Bnd b d) : ok (fX5_codeAt_J24 10000 g x0 x1 x2 d) (fun u d' => d' = d ∧ True) := by
  unfold fX5_codeAt_J24
  exact ok_some ⟨rfl, trivial⟩
theorem sX5_codeAt__5 {g : Gs} (hS : Shp g) {b : Nat → Int} {x0 : Nat} (hx0 : cls x0 = 5) {x1 : Int32} (hx1 : iv x1 0 39) {x2 : Int32} (hx2 : iv x2 (-1) 2147483647) {d : Ds} (hB : Bnd b d) : ok (fX5_codeAt 10000 g x0 x1 x2 d) (fun u d' => d' = d ∧ True) := by
  unfold fX5_codeAt
  refine ok_if (fun c_1 => ?_) (fun c_1 => ?_)
  · exact (iv_no (lt_l c_1 hx1 (by decide : iv (0 : Int32) 0 0)) (by decide))
  · refine ok_if (fun c_2 => ?_) (fun c_2 => ?_)
    · exact (iv_no (le_l c_2 (by decide : iv (40 : Int32) 40 40) hx1) (by decide))
    · refine ok_if (fun c_3 => ?_) (fun c_3 => ?_)
      · have h_4 := iv.w (c := (-1)) (e := (-1)) (lt_l c_3 hx2 (by decide : iv (0 : Int32) 0 0)) (by decide)
        exact sX5_codeAt_J24__5 hS hx0 hx1 (iv.w h_4 (by decide)) hB
      · have h_5 := iv.w (c := 0) (e := 2147483647) (le_r (nlt c_3) (by decide : iv (0 : Int32) 0 0) hx2) (by decide)
        refine ok_gd (kd_5 hS hx0) ?_
        obtain ⟨r5, e_6, k_7, k_7o⟩ := sh_5_2 hS hx0
        refine ok_ob e_6 ?_
        refine ok_gd (kd_45 hS k_7) ?_
        refine ok_gd (ixg hx1 (ln_45 hS k_7) (by decide)) ?_
        refine ok_if (fun c_8 => ?_) (fun c_8 => ?_)
        · have h_9 := iv.w (c := 0) (e := 24) (lt_l c_8 h_5 (rd_45 hB k_7 (ixn hx1 (by decide)))) (by decide)
          have h_10 := iv.w (c := 1) (e := 25) (lt_r c_8 h_5 (rd_45 hB k_7 (ixn hx1 (by decide)))) (by decide)
          obtain ⟨r9, e_11, k_12, k_12o⟩ := sh_5_3 hS hx0
          refine ok_ob e_11 ?_
          refine ok_gd (kd_46 hS k_12) ?_
          refine ok_gd (ixg (iv_add (l := 0) (h := 999) (iv_mul (l := 0) (h := 975) hx1 (by decide : iv (25 : Int32) 25 25) (by decide)) h_9 (by decide)) (ln_46 hS k_12) (by decide)) ?_
          exact ok_some ⟨rfl, trivial⟩
        · exact sX5_codeAt_J24__5 hS hx0 hx1 (iv.w h_5 (by decide)) hB
theorem sX5_isAlike_L65__5_3 {g : Gs} (hS : Shp g) {b : Nat → Int} {x0 : Nat} (hx0 : cls x0 = 5) {x1 : Int32} (hx1 : iv x1 0 39) {x2 : Nat} (hx2 : cls x2 = 3) {x3 : Int32} (hx3 : iv x3 0 1) {y4 : Int32} (hy4 : iv y4 0 25) {d : Ds} (hB : Bnd b d) : ok (fX5_isAlike_L65 10000 g x0 x1 x2 x3 (y4, d)) (fun u d' => d' = d ∧ iv u 0 1) := by
  unfold fX5_isAlike_L65
  refine ok_lp (fun a => a.2 = d ∧ iv a.1 0 25 ∧ True) (fun a => (25 - a.1.toInt).toNat) ?_ 10000 _ ⟨rfl, hy4, trivial⟩ (ms_b hy4 (by decide))
  · rintro K65 ⟨y4, d⟩ ⟨rfl, hy4, -⟩ hK65
    (try dsimp only at hy4 hK65 ⊢)
    unfold fX5_isAlike_B65
    refine ok_gd (kd_5 hS hx0) ?_
    obtain ⟨r14, e_1, k_2, k_2o⟩ := sh_5_2 hS hx0
    refine ok_ob e_1 ?_
    refine ok_gd (kd_45 hS k_2) ?_
    refine ok_gd (ixg hx1 (ln_45 hS k_2) (by decide)) ?_
    refine ok_if (fun c_3 => ?_) (fun c_3 => ?_)
    · exact ok_some ⟨rfl, (iv.w (by decide : iv (1 : Int32) 1 1) (by decide))⟩
    · have h_4 := iv.w (c := 0) (e := 24) (lt_l (nle c_3) hy4 (rd_45 hB k_2 (ixn hx1 (by decide)))) (by decide)
      have h_5 := iv.w (c := 1) (e := 25) (lt_r (nle c_3) hy4 (rd_45 hB k_2 (ixn hx1 (by decide)))) (by decide)
      refine ok_cb (sX5_codeAt__5 hS hx0 hx1 (iv.w h_4 (by decide)) hB) (fun u20 d18 r_6 => ?_)
      obtain ⟨rfl, h_8⟩ := r_6
      refine ok_gd (kd_3 hS hx2) ?_
      obtain ⟨r22, e_9, k_10, k_10o⟩ := sh_3_7 hS hx2
      refine ok_ob e_9 ?_
      refine ok_gd (kd_42 hS k_10) ?_
      refine ok_gd (ixg h_4 (ln_42 hS k_10) (by decide)) ?_
      refine ok_if (fun c_11 => ?_) (fun c_11 => ?_)
      · refine ok_bd (fun u26 e_12 => ?_)
        have h_13 := iv_e e_12 (iv_add (l := 1) (h := 25) h_4 (by decide : iv (1 : Int32) 1 1) (by decide))
        exact hK65 _ ⟨rfl, (iv.w h_13 (by decide)), trivial⟩ (ms_up (H := 25) e_12 h_4 (by decide : iv (1 : Int32) 1 1) (by decide))
      · exact ok_some ⟨rfl, (iv.w (by decide : iv (0 : Int32) 0 0) (by decide))⟩
theorem sX5_isAlike_J57__5_3 {g : Gs} (hS : Shp g) {b : Nat → Int} {x0 : Nat} (hx0 : cls x0 = 5) {x1 : Int32} (hx1 : iv x1 0 39) {x2 : Nat} (hx2 : cls x2 = 3) {x3 : Int32} (hx3 : iv x3 0 1) {z0 : Int32} (hz0 : iv z0 (-2) 25) {z1 : Int32} (hz1 : iv z1 (-2) 25) {d : Ds} (hB : Bnd b d) : ok (fX5_isAlike_J57 10000 g x0 x1 x2 x3 z0 z1 d) (fun u d' => d' = d ∧ iv u 0 1) := by
  unfold fX5_isAlike_J57
  refine ok_if (fun c_1 => ?_) (fun c_1 => ?_)
  · exact sX5_isAlike_L65__5_3 hS hx0 hx1 hx2 hx3 (iv.w (by decide : iv (0 : Int32) 0 0) (by decide)) hB
  · exact sX5_isAlike_J60__5_3 hS hx0 hx1 hx2 hx3 hB
theorem sX5_isAlike__5_3 {g : Gs} (hS : Shp g) {b : Nat → Int} {x0 : Nat} (hx0 : cls x0 = 5) {x1 : Int32} (hx1 : iv x1 (-1) 39) {x2 : Nat} (hx2 : cls x2 = 3) {x3 : Int32} (hx3 : iv x3 0 1) {d : Ds} (hB : Bnd b d) : ok (fX5_isAlike 10000 g x0 x1 x2 x3 d) (fun u d' => d' = d ∧ iv u 0 1) := by
  unfold fX5_isAlike
  refine ok_if (fun c_1 => ?_) (fun c_1 => ?_)
  · have h_2 := iv.w (c := (-1)) (e := (-1)) (eq_l c_1 (by decide : iv ((-1) : Int32) (-1) (-1))) (by decide)
    refine ok_gd (kd_3 hS hx2) ?_
    refine ok_if (fun c_3 => ?_) (fun c_3 => ?_)
    · have h_4 := iv.w (c := 0) (e := 0) (eq_l c_3 (by decide : iv (0 : Int32) 0 0)) (by decide)
      refine ok_if (fun c_5 => ?_) (fun c_5 => ?_)
      · have h_6 := iv.w (c := 0) (e := 0) (eq_l c_5 (by decide : iv (0 : Int32) 0 0)) (by decide)
        exact sX5_isAlike_J24__5_3 hS hx0 h_2 hx2 hx3 (iv.w (by decide : iv (1 : Int32) 1 1) (by decide)) hB
      · have h_7 := iv.w (c := 1) (e := 25) (ne_lo c_5 (rd_3_8 hB hx2) (by decide : iv (0 : Int32) 0 0)) (by decide)
        exact sX5_isAlike_J23__5_3 hS hx0 h_2 hx2 hx3 hB
    · exact sX5_isAlike_J23__5_3 hS hx0 h_2 hx2 hx3 hB
  · have h_8 := iv.w (c := 0) (e := 39) (ne_lo c_1 hx1 (by decide : iv ((-1) : Int32) (-1) (-1))) (by decide)
    refine ok_gd (kd_5 hS hx0) ?_
    obtain ⟨r3, e_9, k_10, k_10o⟩ := sh_5_1 hS hx0
    refine ok_ob e_9 ?_
    refine ok_gd (kd_44 hS k_10) ?_
    refine ok_gd (ixg h_8 (ln_44 hS k_10) (by decide)) ?_
    refine ok_gd (kd_3 hS hx2) ?_
    refine ok_if (fun c_11 => ?_) (fun c_11 => ?_)
    · obtain ⟨r8, e_12, k_13, k_13o⟩ := sh_5_2 hS hx0
      refine ok_ob e_12 ?_
      refine ok_gd (kd_45 hS k_13) ?_
      refine ok_gd (ixg h_8 (ln_45 hS k_13) (by decide)) ?_
      refine ok_if (fun c_14 => ?_) (fun c_14 => ?_)
      · have h_15 := iv.w (c := 0) (e := 0) (eq_l c_14 (by decide : iv (0 : Int32) 0 0)) (by decide)
        exact sX5_isAlike_J57__5_3 hS hx0 h_8 hx2 (iv.w h_15 (by decide)) (iv.w (rd_3_8 hB hx2) (by decide)) (rd_45 hB k_13 (ixn h_8 (by decide))) hB
      · have h_16 := iv.w (c := 1) (e := 1) (ne_lo c_14 hx3 (by decide : iv (0 : Int32) 0 0)) (by decide)
        exact sX5_isAlike_J57__5_3 hS hx0 h_8 hx2 (iv.w h_16 (by decide)) (iv.w (by decide : iv ((-2) : Int32) (-2) (-2)) (by decide)) (rd_45 hB k_13 (ixn h_8 (by decide))) hB
    · exact sX5_isAlike_J60__5_3 hS hx0 h_8 hx2 hx3 hB
theorem sX5_hasCode_J40__5 {g : Gs} (hS : Shp g) {b : Nat → Int} {x0 : Nat} (hx0 : cls x0 = 5) {x1 : Int32} (hx1 : iv x1 (-1) 39) {x2 : Int32} {d : Ds} (hB : Bnd b d) : ok (fX5_hasCode_J40 10000 g x0 x1 x2 d) (fun u d' => d' = d ∧ iv u 0 1) := by
  unfold fX5_hasCode_J40
  exact ok_some ⟨rfl, (iv.w (by decide : iv (0 : Int32) 0 0) (by decide))⟩
theorem sX5_hasCode_L2__5 {g : Gs} (hS : Shp g) {b : Nat → Int} {x0 : Nat} (hx0 : cls x0 = 5) {x1 : Int32} (hx1 : iv x1 (-1) 39) {x2 : Int32} {y3 : Int32} (hy3 : iv y3 0 25) {d : Ds} (hB : Bnd b d) : ok (fX5_hasCode_L2 10000 g x0 x1 x2 (y3, d)) (fun u d' => d' = d ∧ iv u 0 1) := by
  unfold fX5_hasCode_L2
  refine ok_lp (fun a => a.2 = d ∧ iv a.1 0 25 ∧ True) (fun a => (25 - a.1.toInt).toNat) ?_ 10000 _ ⟨rfl, hy3, trivial⟩ (ms_b hy3 (by decide))
  · rintro K2 ⟨y3, d⟩ ⟨rfl, hy3, -⟩ hK2
    (try dsimp only at hy3 hK2 ⊢)
    unfold fX5_hasCode_B2
    refine ok_if (fun c_1 => ?_) (fun c_1 => ?_)
    · have h_2 := iv.w (c := (-1)) (e := (-1)) (eq_l c_1 (by decide : iv ((-1) : Int32) (-1) (-1))) (by decide)
      exact sX5_hasCode_J40__5 hS hx0 (iv.w h_2 (by decide)) hB
    · have h_3 := iv.w (c := 0) (e := 39) (ne_lo c_1 hx1 (by decide : iv ((-1) : Int32) (-1) (-1))) (by decide)
      refine ok_gd (kd_5 hS hx0) ?_
      obtain ⟨r3, e_4, k_5, k_5o⟩ := sh_5_2 hS hx0
      refine ok_ob e_4 ?_
      refine ok_gd (kd_45 hS k_5) ?_
      refine ok_gd (ixg h_3 (ln_45 hS k_5) (by decide)) ?_
      refine ok_if (fun c_6 => ?_) (fun c_6 => ?_)
      · exact sX5_hasCode_J40__5 hS hx0 (iv.w h_3 (by decide)) hB
      · have h_7 := iv.w (c := 0) (e := 24) (lt_l (nle c_6) hy3 (rd_45 hB k_5 (ixn h_3 (by decide)))) (by decide)
        have h_8 := iv.w (c := 1) (e := 25) (lt_r (nle c_6) hy3 (rd_45 hB k_5 (ixn h_3 (by decide)))) (by decide)
        obtain ⟨r7, e_9, k_10, k_10o⟩ := sh_5_3 hS hx0
        refine ok_ob e_9 ?_
        refine ok_gd (kd_46 hS k_10) ?_
        refine ok_gd (ixg (iv_add (l := 0) (h := 999) (iv_mul (l := 0) (h := 975) h_3 (by decide : iv (25 : Int32) 25 25) (by decide)) h_7 (by decide)) (ln_46 hS k_10) (by decide)) ?_
        refine ok_if (fun c_11 => ?_) (fun c_11 => ?_)
        · exact ok_some ⟨rfl, (iv.w (by decide : iv (1 : Int32) 1 1) (by decide))⟩
        · refine ok_bd (fun u11 e_12 => ?_)
          have h_13 := iv_e e_12 (iv_add (l := 1) (h := 25) h_7 (by decide : iv (1 : Int32) 1 1) (by decide))
          exact hK2 _ ⟨rfl, (iv.w h_13 (by decide)), trivial⟩ (ms_up (H := 25) e_12 h_7 (by decide : iv (1 : Int32) 1 1) (by decide))
theorem sX5_hasCode__5 {g : Gs} (hS : Shp g) {b : Nat → Int} {x0 : Nat} (hx0 : cls x0 = 5) {x1 : Int32} (hx1 : iv x1 (-1) 39) {x2 : Int32} {d : Ds} (hB : Bnd b d) : ok (fX5_hasCode 10000 g x0 x1 x2 d) (fun u d' => d' = d ∧ iv u 0 1) := by
  unfold fX5_hasCode
  exact sX5_hasCode_L2__5 hS hx0 hx1 (iv.w (by decide : iv (0 : Int32) 0 0) (by decide)) hB
def m_sX5_renewLatest__5_3 : Nat := 0x16000000000000000000000000000000000000000000000000000000000000000000000000000000000
theorem sX5_renewLatest_J43__5_3 {g : Gs} (hS : Shp g) {b : Nat → Int} {d0 : Ds} {x0 : Nat} (hx0 : cls x0 = 5) {x1 : Int32} (hx1 : iv x1 (-1) 39) {x2 : Nat} (hx2 : cls x2 = 3) {x3 : Int32} (hx3 : iv x3 0 0) {x4 : Int32} (hx4 : iv x4 0 33554375) {y5 : Int32} {y6 : Int32} (hy6 : iv y6 0 24) {d : Ds} (hI : Inv m_sX5_renewLatest__5_3 b d0 d) (hr_x2_8 : iv (dI d x2 8) 1 25) {K6 : Int32 × Int32 × Ds → Option (Unit × Ds)} {μ6 : Nat} (hK6 : ∀ a, Inv m_sX5_renewLatest__5_3 b d0 a.2.2 ∧ iv a.2.1 0 25 ∧ True → (25 - a.2.1.toInt).toNat < μ6 → ok (K6 a) (fun u d' => Inv m_sX5_renewLatest__5_3 b d0 d' ∧ True)) (hm6 : (25 - y6.toInt).toNat ≤ μ6) : ok (fX5_renewLatest_J43 10000 g x0 x1 x2 x3 x4 K6 y5 y6 d) (fun u d' => Inv m_sX5_renewLatest__5_3 b d0 d' ∧ True) := by
  unfold fX5_renewLatest_J43
  refine ok_bd (fun u26 e_1 => ?_)
  have h_2 := iv_e e_1 (iv_add (l := 1) (h := 25) hy6 (by decide : iv (1 : Int32) 1 1) (by decide))
  exact hK6 _ ⟨hI, (iv.w h_2 (by decide)), trivial⟩ (Nat.lt_of_lt_of_le (ms_up (H := 25) e_1 hy6 (by decide : iv (1 : Int32) 1 1) (by decide)) hm6)
theorem sX3_sends_L2__3 {g : Gs} (hS : Shp g) {b : Nat → Int} {x0 : Nat} (hx0 : cls x0 = 3) {x1 : Int32} {y2 : Int32} (hy2 : iv y2 0 25) {d : Ds} (hB : Bnd b d) : ok (fX3_sends_L2 10000 g x0 x1 (y2, d)) (fun u d' => d' = d ∧ iv u 0 1) := by
  unfold fX3_sends_L2
  refine ok_lp (fun a => a.2 = d ∧ iv a.1 0 25 ∧ True) (fun a => (25 - a.1.toInt).toNat) ?_ 10000 _ ⟨rfl, hy2, trivial⟩ (ms_b hy2 (by decide))
  · rintro K2 ⟨y2, d⟩ ⟨rfl, hy2, -⟩ hK2
    (try dsimp only at hy2 hK2 ⊢)
    unfold fX3_sends_B2
    refine ok_gd (kd_3 hS hx0) ?_
    refine ok_if (fun c_1 => ?_) (fun c_1 => ?_)
    · exact ok_some ⟨rfl, (iv.w (by decide : iv (0 : Int32) 0 0) (by decide))⟩
    · have h_2 := iv.w (c := 0) (e := 24) (lt_l (nle c_1) hy2 (rd_3_8 hB hx0)) (by decide)
      have h_3 := iv.w (c := 1) (e := 25) (lt_r (nle c_1) hy2 (rd_3_8 hB hx0)) (by decide)
      obtain ⟨r3, e_4, k_5, k_5o⟩ := sh_3_7 hS hx0
      refine ok_ob e_4 ?_
      refine ok_gd (kd_42 hS k_5) ?_
      refine ok_gd (ixg h_2 (ln_42 hS k_5) (by decide)) ?_
      refine ok_if (fun c_6 => ?_) (fun c_6 => ?_)
      · exact ok_some ⟨rfl, (iv.w (by decide : iv (1 : Int32) 1 1) (by decide))⟩
      · refine ok_bd (fun u7 e_7 => ?_)
        have h_8 := iv_e e_7 (iv_add (l := 1) (h := 25) h_2 (by decide : iv (1 : Int32) 1 1) (by decide))
        exact hK2 _ ⟨rfl, (iv.w h_8 (by decide)), trivial⟩ (ms_up (H := 25) e_7 h_2 (by decide : iv (1 : Int32) 1 1) (by decide))
theorem sX3_sends__3 {g : Gs} (hS : Shp g) {b : Nat → Int} {x0 : Nat} (hx0 : cls x0 = 3) {x1 : Int32} {d : Ds} (hB : Bnd b d) : ok (fX3_sends 10000 g x0 x1 d) (fun u d' => d' = d ∧ iv u 0 1) := by
  unfold fX3_sends
  exact sX3_sends_L2__3 hS hx0 (iv.w (by decide : iv (0 : Int32) 0 0) (by decide)) hB
theorem sX5_renewLatest_J87__5_3 {g : Gs} (hS : Shp g) {b : Nat → Int} {d0 : Ds} {x0 : Nat} (hx0 : cls x0 = 5) {x1 : Int32} (hx1 : iv x1 (-1) 39) {x2 : Nat} (hx2 : cls x2 = 3) {x3 : Int32} (hx3 : iv x3 0 1) {x4 : Int32} (hx4 : iv x4 0 33554375) {d : Ds} (hI : Inv m_sX5_renewLatest__5_3 b d0 d) : ok (fX5_renewLatest_J87 10000 g x0 x1 x2 x3 x4 d) (fun u d' => Inv m_sX5_renewLatest__5_3 b d0 d' ∧ True) := by
  unfold fX5_renewLatest_J87
  exact ok_some ⟨hI, trivial⟩
theorem sX5_renewLatest_J81__5_3 {g : Gs} (hS : Shp g) {b : Nat → Int} {d0 : Ds} {x0 : Nat} (hx0 : cls x0 = 5) {x1 : Int32} (hx1 : iv x1 (-1) 39) {x2 : Nat} (hx2 : cls x2 = 3) {x3 : Int32} (hx3 : iv x3 0 1) {x4 : Int32} (hx4 : iv x4 0 33554375) {d : Ds} (hI : Inv m_sX5_renewLatest__5_3 b d0 d) : ok (fX5_renewLatest_J81 10000 g x0 x1 x2 x3 x4 d) (fun u d' => Inv m_sX5_renewLatest__5_3 b d0 d' ∧ True) := by
  unfold fX5_renewLatest_J81
  refine ok_gd (kd_5 hS hx0) ?_
  refine ok_cv (sX5_makeLatest__5 hS hx0 (iv.w (by decide : iv ((-1) : Int32) (-1) (-1)) (by decide)) hI.1) (fun d6 r_1 => ?_)
  obtain ⟨h_2, h_3⟩ := r_1
  have h_4 := Inv.call hI h_2 (by decide +kernel)
  exact sX5_renewLatest_J87__5_3 hS hx0 hx1 hx2 hx3 hx4 h_4
theorem sX5_renewLatest_J49__5_3 {g : Gs} (hS : Shp g) {b : Nat → Int} {d0 : Ds} {x0 : Nat} (hx0 : cls x0 = 5) {x1 : Int32} (hx1 : iv x1 (-1) 39) {x2 : Nat} (hx2 : cls x2 = 3) {x3 : Int32} (hx3 : iv x3 0 1) {x4 : Int32} (hx4 : iv x4 0 33554375) {y5 : Int32} {d : Ds} (hI : Inv m_sX5_renewLatest__5_3 b d0 d) : ok (fX5_renewLatest_J49 10000 g x0 x1 x2 x3 x4 y5 d) (fun u d' => Inv m_sX5_renewLatest__5_3 b d0 d' ∧ True) := by
  unfold fX5_renewLatest_J49
  refine ok_if (fun c_1 => ?_) (fun c_1 => ?_)
  · have h_2 := iv.w (c := (-1)) (e := (-1)) (eq_l c_1 (by decide : iv ((-1) : Int32) (-1) (-1))) (by decide)
    refine ok_if (fun c_3 => ?_) (fun c_3 => ?_)
    · have h_4 := iv.w (c := 0) (e := 0) (eq_l c_3 (by decide : iv (0 : Int32) 0 0)) (by decide)
      refine ok_gd (kd_5 hS hx0) ?_
      refine ok_gd (kd_3 hS hx2) ?_
      refine ok_cb (sX3_sends__3 hS hx2 hI.1) (fun u12 d10 r_5 => ?_)
      obtain ⟨rfl, h_7⟩ := r_5
      refine ok_if (fun c_8 => ?_) (fun c_8 => ?_)
      · have h_9 := iv.w (c := 0) (e := 0) (eq_l c_8 (by decide : iv (0 : Int32) 0 0)) (by decide)
        exact sX5_renewLatest_J81__5_3 hS hx0 hx1 hx2 (iv.w h_4 (by decide)) hx4 hI
      · have h_10 := iv.w (c := 1) (e := 1) (ne_lo c_8 h_7 (by decide : iv (0 : Int32) 0 0)) (by decide)
        exact sX5_renewLatest_J87__5_3 hS hx0 hx1 hx2 (iv.w h_4 (by decide)) hx4 hI
    · have h_11 := iv.w (c := 1) (e := 1) (ne_lo c_3 hx3 (by decide : iv (0 : Int32) 0 0)) (by decide)
      exact sX5_renewLatest_J81__5_3 hS hx0 hx1 hx2 (iv.w h_11 (by decide)) hx4 hI
  · refine ok_gd (kd_5 hS hx0) ?_
    refine ok_cv (sX5_makeLatest__5 hS hx0 (iv.w hx4 (by decide)) hI.1) (fun d15 r_12 => ?_)
    obtain ⟨h_13, h_14⟩ := r_12
    have h_15 := Inv.call hI h_13 (by decide +kernel)
    exact sX5_renewLatest_J87__5_3 hS hx0 hx1 hx2 hx3 hx4 h_15
theorem sX5_renewLatest_L6__5_3 {g : Gs} (hS : Shp g) {b : Nat → Int} {d0 : Ds} {x0 : Nat} (hx0 : cls x0 = 5) {x1 : Int32} (hx1 : iv x1 (-1) 39) {x2 : Nat} (hx2 : cls x2 = 3) {x3 : Int32} (hx3 : iv x3 0 1) {x4 : Int32} (hx4 : iv x4 0 33554375) {y5 : Int32} {y6 : Int32} (hy6 : iv y6 0 25) {d : Ds} (hI : Inv m_sX5_renewLatest__5_3 b d0 d) : ok (fX5_renewLatest_L6 10000 g x0 x1 x2 x3 x4 (y5, y6, d)) (fun u d' => Inv m_sX5_renewLatest__5_3 b d0 d' ∧ True) := by
  unfold fX5_renewLatest_L6
  refine ok_lp (fun a => Inv m_sX5_renewLatest__5_3 b d0 a.2.2 ∧ iv a.2.1 0 25 ∧ True) (fun a => (25 - a.2.1.toInt).toNat) ?_ 10000 _ ⟨hI, hy6, trivial⟩ (ms_b hy6 (by decide))
  · rintro K6 ⟨y5, y6, d⟩ ⟨hI, hy6, -⟩ hK6
    (try dsimp only at hI hy6 hK6 ⊢)
    unfold fX5_renewLatest_B6
    refine ok_gd (kd_3 hS hx2) ?_
    refine ok_if (fun c_1 => ?_) (fun c_1 => ?_)
    · exact sX5_renewLatest_J49__5_3 hS hx0 hx1 hx2 hx3 hx4 hI
    · have h_2 := iv.w (c := 0) (e := 24) (lt_l (nle c_1) hy6 (rd_3_8 hI.1 hx2)) (by decide)
      have h_3 := iv.w (c := 1) (e := 25) (lt_r (nle c_1) hy6 (rd_3_8 hI.1 hx2)) (by decide)
      refine ok_if (fun c_4 => ?_) (fun c_4 => ?_)
      · have h_5 := iv.w (c := 0) (e := 0) (eq_l c_4 (by decide : iv (0 : Int32) 0 0)) (by decide)
        obtain ⟨r18, e_6, k_7, k_7o⟩ := sh_3_7 hS hx2
        refine ok_ob e_6 ?_
        refine ok_gd (kd_42 hS k_7) ?_
        refine ok_gd (ixg h_2 (ln_42 hS k_7) (by decide)) ?_
        refine ok_gd (kd_5 hS hx0) ?_
        refine ok_cb (sX5_hasCode__5 hS hx0 hx1 hI.1) (fun u24 d22 r_8 => ?_)
        obtain ⟨rfl, h_10⟩ := r_8
        refine ok_if (fun c_11 => ?_) (fun c_11 => ?_)
        · have h_12 := iv.w (c := 0) (e := 0) (eq_l c_11 (by decide : iv (0 : Int32) 0 0)) (by decide)
          refine ok_bd (fun u27 e_13 => ?_)
          exact sX5_renewLatest_J43__5_3 hS hx0 hx1 hx2 h_5 hx4 h_2 hI h_3 hK6 (Nat.le_refl _)
        · have h_15 := iv.w (c := 1) (e := 1) (ne_lo c_11 h_10 (by decide : iv (0 : Int32) 0 0)) (by decide)
          exact sX5_renewLatest_J43__5_3 hS hx0 hx1 hx2 h_5 hx4 h_2 hI h_3 hK6 (Nat.le_refl _)
      · have h_16 := iv.w (c := 1) (e := 1) (ne_lo c_4 hx3 (by decide : iv (0 : Int32) 0 0)) (by decide)
        exact sX5_renewLatest_J49__5_3 hS hx0 hx1 hx2 (iv.w h_16 (by decide)) hx4 hI
theorem sX5_renewLatest__5_3 {g : Gs} (hS : Shp g) {b : Nat → Int} {x0 : Nat} (hx0 : cls x0 = 5) {x1 : Int32} (hx1 : iv x1 (-1) 39) {x2 : Nat} (hx2 : cls x2 = 3) {x3 : Int32} (hx3 : iv x3 0 1) {x4 : Int32} (hx4 : iv x4 0 33554375) {d : Ds} (hB : Bnd b d) : ok (fX5_renewLatest 10000 g x0 x1 x2 x3 x4 d) (fun u d' => Inv m_sX5_renewLatest__5_3 b d d' ∧ True) := by
  have hI : Inv m_sX5_renewLatest__5_3 b d d := Inv.rf hB
  unfold fX5_renewLatest
  exact sX5_renewLatest_L6__5_3 hS hx0 hx1 hx2 hx3 hx4 (iv.w (by decide : iv (0 : Int32) 0 0) (by decide)) hI
def m_sX5_reportIfUnlike__5_3 : Nat := 0x10000000000000001000000000000000100000000000000010000000000000000000000000000000000000000000000000000000000000000000000000000000000000000000000000000000000000000000000000000000000000000000000000000000000000000000000000000000000000000000000000000000000000000000000000000000000000000000000000000000000000000000000000000000000000000000000000000000000000000000000000000000000000000000000000000000000000000000000000000000000000000000000000000000000000000000000000000000000000000000000000000000000000000000000000000000000000000000000000000000000000000000000000000000000000000000000000000000000000000000000000000000000000000000000000000000000000000000000000000017000000000000000000000000000000000000000000000000000000000000000000000000000000000
theorem sX5_reportIfUnlike_J98__5_3_45__r5_3 {g : Gs} (hS : Shp g) {b B : Nat → Int} {d0 : Ds} {x0 : Nat} (hlb : LeB b B (own x0) 1) (hx0 : cls x0 = 5) {x1 : Nat} (hx1 : cls x1 = 3) {x2 : Int32} (hx2 : iv x2 0 1) {x3 : Int32} (hx3 : iv x3 0 33554375) {y6 : Int32} (hy6 : iv y6 0 39) {z0 : Int32} (hz0 : iv z0 (-2) 25) {z1 : Int32} (hz1 : iv z1 0 39) {z2 : Nat} (hz2 : cls z2 = 45) {d : Ds} (hI : Inv m_sX5_reportIfUnlike__5_3 b d0 d) : ok (fX5_reportIfUnlike_J98 10000 g x0 x1 x2 x3 y6 z0 z1 z2 d) (fun u d' => Inv m_sX5_reportIfUnlike__5_3 B d0 d' ∧ True) := by
  unfold fX5_reportIfUnlike_J98
  refine ok_gd (kd_45 hS hz2) ?_
  refine ok_gd (ixg hz1 (ln_45 hS hz2) (by decide)) ?_
  refine ok_bd (fun d27 e_1 => ?_)
  have h_2 := Inv.set e_1 hI (by rw [hz2]; exact hz0) (mA hz2 (by decide) (by decide +kernel)) (nA hz2 (by decide) (by decide +kernel))
  refine ok_gd (kd_3 hS hx1) ?_
  obtain ⟨r29, e_3, k_4, k_4o⟩ := sh_3_7 hS hx1
  refine ok_ob e_3 ?_
  refine ok_gd (kd_5 hS hx0) ?_
  obtain ⟨r31, e_5, k_6, k_6o⟩ := sh_5_3 hS hx0
  refine ok_ob e_5 ?_
  refine ok_gd (kd_42 hS k_4) ?_
  refine ok_gd (kd_46 hS k_6) ?_
  refine ok_gd (iv_nn (by decide : iv (0 : Int32) 0 0) (by decide)) ?_
  refine ok_gd (iv_nn (iv_mul (l := 0) (h := 975) hy6 (by decide : iv (25 : Int32) 25 25) (by decide)) (by decide)) ?_
  refine ok_gd (iv_nn (rd_3_8 h_2.1 hx1) (by decide)) ?_
  have g_7 := iv_cp (by decide : iv (0 : Int32) 0 0) (rd_3_8 h_2.1 hx1) (ln_42 hS k_4) (by decide)
  refine ok_gd g_7 ?_
  have g_8 := iv_cp (iv_mul (l := 0) (h := 975) hy6 (by decide : iv (25 : Int32) 25 25) (by decide)) (rd_3_8 h_2.1 hx1) (ln_46 hS k_6) (by decide)
  refine ok_gd g_8 ?_
  refine ok_bd (fun d39 e_9 => ?_)
  have h_10 := Inv.cpI e_9 h_2 (fun i hi => by rw [k_6]; trivial) (fun j => mA k_6 (by decide) (by decide +kernel)) (fun j => nA k_6 (by decide) (by decide +kernel))
  refine ok_bd (fun d40 e_11 => ?_)
  have c_14 := rd_5_4 h_10.1 hx0
  have lb_13 := LeB.rest (k' := 1) hlb (by omega)
  have h_15 := Inv.mono (bp_le (o := own x0) (k := 1) (by decide)) hI
  have h_16 := Inv.mono (bp_le (o := own x0) (k := 1) (by decide)) h_2
  have h_17 := Inv.mono (bp_le (o := own x0) (k := 1) (by decide)) h_10
  have h_12 := Inv.set e_11 h_17 (by rw [hx0]; exact (cnt_w c_14 hlb)) (mO hx0 (by decide) (by decide +kernel)) (nO hx0 (by decide) (by decide +kernel))
  exact ok_some ⟨(Inv.mono lb_13.1 h_12), trivial⟩
theorem sX5_rowOf__5 {g : Gs} (hS : Shp g) {b : Nat → Int} {x0 : Nat} (hx0 : cls x0 = 5) {x1 : Int32} {d : Ds} (hB : Bnd b d) : ok (fX5_rowOf 10000 g x0 x1 d) (fun u d' => d' = d ∧ (u = (-1) ∨ u = ((((dI d x0 4) - 1) - x1) - (((((dI d x0 4) - 1) - x1) / 40) * 40)) ∧ ¬ (x1 < 0) ∧ ¬ ((40 : Int32) ≤ x1) ∧ (x1 < (dI d x0 4)))) := by
  unfold fX5_rowOf
  refine ok_if (fun c_1 => ?_) (fun c_1 => ?_)
  · have h_2 := iv.w (c := (-2147483648)) (e := (-1)) (lt_l c_1 (ivT _) (by decide : iv (0 : Int32) 0 0)) (by decide)
    unfold fX5_rowOf_J18
    unfold fX5_rowOf_J33
    exact ok_some ⟨rfl, Or.inl rfl⟩
  · have h_3 := iv.w (c := 0) (e := 2147483647) (le_r (nlt c_1) (by decide : iv (0 : Int32) 0 0) (ivT _)) (by decide)
    refine ok_if (fun c_4 => ?_) (fun c_4 => ?_)
    · have h_5 := iv.w (c := 40) (e := 2147483647) (le_r c_4 (by decide : iv (40 : Int32) 40 40) h_3) (by decide)
      unfold fX5_rowOf_J18
      unfold fX5_rowOf_J33
      exact ok_some ⟨rfl, Or.inl rfl⟩
    · have h_6 := iv.w (c := 0) (e := 39) (lt_l (nle c_4) h_3 (by decide : iv (40 : Int32) 40 40)) (by decide)
      refine ok_gd (kd_5 hS hx0) ?_
      refine ok_if (fun c_7 => ?_) (fun c_7 => ?_)
      · have h_8 := iv.w (c := 1) (e := 2147483647) (lt_r c_7 h_6 (iv_lo (rd_5_4 hB hx0))) (by decide)
        refine ok_gd (iv_nz (by decide : iv (40 : Int32) 40 40) (by decide)) ?_
        unfold fX5_rowOf_J33
        exact ok_some ⟨rfl, Or.inr (⟨rfl, c_1, c_4, c_7⟩)⟩
      · have h_9 := iv.w (c := 0) (e := 39) (le_l (nlt c_7) (iv_lo (rd_5_4 hB hx0)) h_6) (by decide)
        unfold fX5_rowOf_J18
        unfold fX5_rowOf_J33
        exact ok_some ⟨rfl, Or.inl rfl⟩
theorem sX5_reportIfUnlike_J18__5_3 {g : Gs} (hS : Shp g) {b B : Nat → Int} {d0 : Ds} {x0 : Nat} (hlb : LeB b B (own x0) 1) (hx0 : cls x0 = 5) {x1 : Nat} (hx1 : cls x1 = 3) {x2 : Int32} (hx2 : iv x2 0 1) {x3 : Int32} (hx3 : iv x3 0 33554375) {z0 : Int32} (hz0 : iv z0 0 1) {d : Ds} (hI : Inv m_sX5_reportIfUnlike__5_3 b d0 d) : ok (fX5_reportIfUnlike_J18 10000 g x0 x1 x2 x3 z0 d) (fun u d' => Inv m_sX5_reportIfUnlike__5_3 B d0 d' ∧ True) := by
  unfold fX5_reportIfUnlike_J18
  refine ok_gd (kd_5 hS hx0) ?_
  refine ok_cb (sX5_rowOf__5 hS hx0 hI.1) ?_
  rintro _ _ ⟨rfl, rfl | ⟨rfl, c_1, c_2, c_3⟩⟩
  · refine ok_cb (sX5_isAlike__5_3 hS hx0 (iv.w (by decide : iv ((-1) : Int32) (-1) (-1)) (by decide)) hx1 hz0 hI.1) (fun u8 d6 r_4 => ?_)
    obtain ⟨rfl, h_6⟩ := r_4
    refine ok_if (fun c_7 => ?_) (fun c_7 => ?_)
    · have h_8 := iv.w (c := 0) (e := 0) (eq_l c_7 (by decide : iv (0 : Int32) 0 0)) (by decide)
      refine ok_cv (sX5_renewLatest__5_3 hS hx0 (iv.w (by decide : iv ((-1) : Int32) (-1) (-1)) (by decide)) hx1 hz0 hx3 hI.1) (fun d10 r_9 => ?_)
      obtain ⟨h_10, h_11⟩ := r_9
      have h_12 := Inv.call hI h_10 (by decide +kernel)
      refine ok_gd (iv_nz (by decide : iv (40 : Int32) 40 40) (by decide)) ?_
      refine ok_bd (fun u13 e_13 => ?_)
      have h_14 := iv_e e_13 (iv.w (c := 0) (e := 39) (iv_rem (iv_lo (rd_5_4 h_12.1 hx0)) (by decide : iv (40 : Int32) 40 40) (by decide)) (by decide))
      obtain ⟨r14, e_15, k_16, k_16o⟩ := sh_5_0 hS hx0
      refine ok_ob e_15 ?_
      refine ok_gd (kd_43 hS k_16) ?_
      refine ok_gd (ixg h_14 (ln_43 hS k_16) (by decide)) ?_
      refine ok_bd (fun d17 e_17 => ?_)
      have h_18 := Inv.set e_17 h_12 (by rw [k_16]; exact trivial) (mA k_16 (by decide) (by decide +kernel)) (nA k_16 (by decide) (by decide +kernel))
      obtain ⟨r18, e_19, k_20, k_20o⟩ := sh_5_1 hS hx0
      refine ok_ob e_19 ?_
      refine ok_gd (kd_3 hS hx1) ?_
      refine ok_gd (kd_44 hS k_20) ?_
      refine ok_gd (ixg h_14 (ln_44 hS k_20) (by decide)) ?_
      refine ok_bd (fun d22 e_21 => ?_)
      have h_22 := Inv.set e_21 h_18 (by rw [k_20]; exact trivial) (mA k_20 (by decide) (by decide +kernel)) (nA k_20 (by decide) (by decide +kernel))
      obtain ⟨r23, e_23, k_24, k_24o⟩ := sh_5_2 hS hx0
      refine ok_ob e_23 ?_
      refine ok_if (fun c_25 => ?_) (fun c_25 => ?_)
      · have h_26 := iv.w (c := 0) (e := 0) (eq_l c_25 (by decide : iv (0 : Int32) 0 0)) (by decide)
        exact sX5_reportIfUnlike_J98__5_3_45__r5_3 hS (LeB.w (k' := 1) hlb (by omega)) hx0 hx1 hx2 hx3 h_14 (iv.w (rd_3_8 h_22.1 hx1) (by decide)) h_14 k_24 h_22
      · have h_27 := iv.w (c := 1) (e := 1) (ne_lo c_25 hz0 (by decide : iv (0 : Int32) 0 0)) (by decide)
        exact sX5_reportIfUnlike_J98__5_3_45__r5_3 hS (LeB.w (k' := 1) hlb (by omega)) hx0 hx1 hx2 hx3 h_14 (iv.w (by decide : iv ((-2) : Int32) (-2) (-2)) (by decide)) h_14 k_24 h_22
    · have h_28 := iv.w (c := 1) (e := 1) (ne_lo c_7 h_6 (by decide : iv (0 : Int32) 0 0)) (by decide)
      exact ok_some ⟨(Inv.mono hlb.1 hI), trivial⟩
  · have h_29 := iv.w (c := 1) (e := 2147483647) (lt_r c_3 (by decide : iv (0 : Int32) 0 0) (iv_lo (rd_5_4 hI.1 hx0))) (by decide)
    refine ok_cb (sX5_isAlike__5_3 hS hx0 (iv.w (iv.w (c := 0) (e := 39) (iv_rem (iv_s1 (h := 2147483646) c_3 h_29 (by decide : iv (0 : Int32) 0 0) (by decide)) (by decide : iv (40 : Int32) 40 40) (by decide)) (by decide)) (by decide)) hx1 hz0 hI.1) (fun u8 d6 r_30 => ?_)
    obtain ⟨rfl, h_32⟩ := r_30
    refine ok_if (fun c_33 => ?_) (fun c_33 => ?_)
    · have h_34 := iv.w (c := 0) (e := 0) (eq_l c_33 (by decide : iv (0 : Int32) 0 0)) (by decide)
      refine ok_cv (sX5_renewLatest__5_3 hS hx0 (iv.w (iv.w (c := 0) (e := 39) (iv_rem (iv_s1 (h := 2147483646) c_3 h_29 (by decide : iv (0 : Int32) 0 0) (by decide)) (by decide : iv (40 : Int32) 40 40) (by decide)) (by decide)) (by decide)) hx1 hz0 hx3 hI.1) (fun d10 r_35 => ?_)
      obtain ⟨h_36, h_37⟩ := r_35
      have h_38 := Inv.call hI h_36 (by decide +kernel)
      refine ok_gd (iv_nz (by decide : iv (40 : Int32) 40 40) (by decide)) ?_
      refine ok_bd (fun u13 e_39 => ?_)
      have h_40 := iv_e e_39 (iv.w (c := 0) (e := 39) (iv_rem (rd_fO h_36 hx0 (by decide +kernel) h_29) (by decide : iv (40 : Int32) 40 40) (by decide)) (by decide))
      obtain ⟨r14, e_41, k_42, k_42o⟩ := sh_5_0 hS hx0
      refine ok_ob e_41 ?_
      refine ok_gd (kd_43 hS k_42) ?_
      refine ok_gd (ixg h_40 (ln_43 hS k_42) (by decide)) ?_
      refine ok_bd (fun d17 e_43 => ?_)
      have h_44 := Inv.set e_43 h_38 (by rw [k_42]; exact trivial) (mA k_42 (by decide) (by decide +kernel)) (nA k_42 (by decide) (by decide +kernel))
      obtain ⟨r18, e_45, k_46, k_46o⟩ := sh_5_1 hS hx0
      refine ok_ob e_45 ?_
      refine ok_gd (kd_3 hS hx1) ?_
      refine ok_gd (kd_44 hS k_46) ?_
      refine ok_gd (ixg h_40 (ln_44 hS k_46) (by decide)) ?_
      refine ok_bd (fun d22 e_47 => ?_)
      have h_48 := Inv.set e_47 h_44 (by rw [k_46]; exact trivial) (mA k_46 (by decide) (by decide +kernel)) (nA k_46 (by decide) (by decide +kernel))
      obtain ⟨r23, e_49, k_50, k_50o⟩ := sh_5_2 hS hx0
      refine ok_ob e_49 ?_
      refine ok_if (fun c_51 => ?_) (fun c_51 => ?_)
      · have h_52 := iv.w (c := 0) (e := 0) (eq_l c_51 (by decide : iv (0 : Int32) 0 0)) (by decide)
        exact sX5_reportIfUnlike_J98__5_3_45__r5_3 hS (LeB.w (k' := 1) hlb (by omega)) hx0 hx1 hx2 hx3 h_40 (iv.w (rd_3_8 h_48.1 hx1) (by decide)) h_40 k_50 h_48
      · have h_53 := iv.w (c := 1) (e := 1) (ne_lo c_51 hz0 (by decide : iv (0 : Int32) 0 0)) (by decide)
        exact sX5_reportIfUnlike_J98__5_3_45__r5_3 hS (LeB.w (k' := 1) hlb (by omega)) hx0 hx1 hx2 hx3 h_40 (iv.w (by decide : iv ((-2) : Int32) (-2) (-2)) (by decide)) h_40 k_50 h_48
    · have h_54 := iv.w (c := 1) (e := 1) (ne_lo c_33 h_32 (by decide : iv (0 : Int32) 0 0)) (by decide)
      exact ok_some ⟨(Inv.mono hlb.1 hI), trivial⟩
theorem sX5_reportIfUnlike_J17__5_3 {g : Gs} (hS : Shp g) {b B : Nat → Int} {d0 : Ds} {x0 : Nat} (hlb : LeB b B (own x0) 1) (hx0 : cls x0 = 5) {x1 : Nat} (hx1 : cls x1 = 3) {x2 : Int32} (hx2 : iv x2 0 1) {x3 : Int32} (hx3 : iv x3 0 33554375) {d : Ds} (hI : Inv m_sX5_reportIfUnlike__5_3 b d0 d) : ok (fX5_reportIfUnlike_J17 10000 g x0 x1 x2 x3 d) (fun u d' => Inv m_sX5_reportIfUnlike__5_3 B d0 d' ∧ True) := by
  unfold fX5_reportIfUnlike_J17
  exact sX5_reportIfUnlike_J18__5_3 hS (LeB.w (k' := 1) hlb (by omega)) hx0 hx1 hx2 hx3 (iv.w (by decide : iv (0 : Int32) 0 0) (by decide)) hI
theorem sX5_reportIfUnlike__5_3 {g : Gs} (hS : Shp g) {b B : Nat → Int} {x0 : Nat} (hlb : LeB b B (own x0) 1) (hx0 : cls x0 = 5) {x1 : Nat} (hx1 : cls x1 = 3) {x2 : Int32} (hx2 : iv x2 0 1) {x3 : Int32} (hx3 : iv x3 0 33554375) {d : Ds} (hB : Bnd b d) : ok (fX5_reportIfUnlike 10000 g x0 x1 x2 x3 d) (fun u d' => Inv m_sX5_reportIfUnlike__5_3 B d d' ∧ True) := by
  have hI : Inv m_sX5_reportIfUnlike__5_3 b d d := Inv.rf hB
  unfold fX5_reportIfUnlike
  refine ok_if (fun c_1 => ?_) (fun c_1 => ?_)
  · have h_2 := iv.w (c := 0) (e := 0) (eq_l c_1 (by decide : iv (0 : Int32) 0 0)) (by decide)
    exact sX5_reportIfUnlike_J17__5_3 hS (LeB.w (k' := 1) hlb (by omega)) hx0 hx1 (iv.w h_2 (by decide)) hx3 hI
  · have h_3 := iv.w (c := 1) (e := 1) (ne_lo c_1 hx2 (by decide : iv (0 : Int32) 0 0)) (by decide)
    refine ok_gd (kd_3 hS hx1) ?_
    refine ok_if (fun c_4 => ?_) (fun c_4 => ?_)
    · have h_5 := iv.w (c := 0) (e := 6) (le_l c_4 (rd_3_8 hI.1 hx1) (by decide : iv (6 : Int32) 6 6)) (by decide)
      exact sX5_reportIfUnlike_J17__5_3 hS (LeB.w (k' := 1) hlb (by omega)) hx0 hx1 (iv.w h_3 (by decide)) hx3 hI
    · have h_6 := iv.w (c := 7) (e := 25) (lt_r (nle c_4) (by decide : iv (6 : Int32) 6 6) (rd_3_8 hI.1 hx1)) (by decide)
      exact sX5_reportIfUnlike_J18__5_3 hS (LeB.w (k' := 1) hlb (by omega)) hx0 hx1 (iv.w h_3 (by decide)) hx3 (iv.w (by decide : iv (1 : Int32) 1 1) (by decide)) hI
def m_sX1_send__1 : Nat := 0x10000000000000001000000000000000100000000000000010000000000000001000000000000000000000000000000000000000000000000000000000000000000000000000000000000000000000000000000000000000000000000000000000000000000000000000000000000000000000000000000000000000000000000000000000000000000000000000000000000000000000000000000000000000000000000000000000000000000000000000000000000000000000000000000000000000000000000000000000000000000000000000000000000000000000000000000000000000000000000000000000000000000000000000000000000000000000000000000000000000000000000000000000000000000000000000000000000000000000000000000000000000000000000000000000000000000000000000000000000017000000000000000000000000000000140000000000000000000000000000000000000000000000000
theorem sX1_send__1 {g : Gs} (hS : Shp g) {b B : Nat → Int} {x0 : Nat} (hlb : LeB b B (own x0) 1) (hx0 : cls x0 = 1) {x1 : Int32} {d : Ds} (hB : Bnd b d) : ok (fX1_send 10000 g x0 x1 d) (fun u d' => Inv m_sX1_send__1 B d d' ∧ True) := by
  have hI : Inv m_sX1_send__1 b d d := Inv.rf hB
  unfold fX1_send
  refine ok_gd (kd_1 hS hx0) ?_
  obtain ⟨r2, e_1, k_2, k_2o⟩ := sh_1_3 hS hx0
  refine ok_ob e_1 ?_
  refine ok_gd (kd_3 hS k_2) ?_
  refine ok_cv (sX3_gather__3 hS k_2 hI.1) (fun d4 r_3 => ?_)
  obtain ⟨h_4, h_5⟩ := r_3
  have h_6 := Inv.call hI h_4 (by decide +kernel)
  obtain ⟨r6, e_7, k_8, k_8o⟩ := sh_1_4 hS hx0
  refine ok_ob e_7 ?_
  obtain ⟨r7, e_9, k_10⟩ := sh_1_0 hS hx0
  refine ok_ob e_9 ?_
  refine ok_gd (kd_13 hS k_10) ?_
  refine ok_gd (kd_5 hS k_8) ?_
  refine ok_cv (sX5_reportIfUnlike__5_3 hS (by rw [k_8o]; exact (LeB.use (k' := 1) hlb (by omega))) k_8 k_2 (rd_13_3 h_6.1 k_10) (now_hi (rd_1_5 h_6.1 hx0) hlb) h_6.1) (fun d10 r_11 => ?_)
  obtain ⟨h_12, h_13⟩ := r_11
  have h_14 := Inv.call h_6 h_12 (by decide +kernel)
  have lb_15 := LeB.rest (k' := 1) hlb (by omega)
  exact ok_some ⟨(Inv.mono lb_15.1 h_14), trivial⟩
def m_sX1_perform__1 : Nat := 0x10000000000000001000000000000000100000000000000010000000000000001000000000000000100000000000000010000000000000001000000000000000100000000000000000000000000000000000000000000000000000000000000000000000000000000000000000000000000000000000000000000000000000000000000000000000000000000000000000000000000000000000000000000000000000000000000000000000000000000000000000000000000000000000000000000000000000000000000000000000000000000000000000000000000000000000000000000000000000000000000000000000000000000000000000000000000000000000000000000000000000000000000000000000000000000000000000000000000000000000000000000000000000000000000000000000000000000000000000000017000000000000000000000000000000170000000000000000000000000000000000000000000000000
theorem sX1_perform_J127__1 {g : Gs} (hS : Shp g) {b B : Nat → Int} {d0 : Ds} {x0 : Nat} (hlb : LeB b B (own x0) 1) (hx0 : cls x0 = 1) {x1 : Int32} (hx1 : iv x1 0 23) {x2 : Int32} (hx2 : iv x2 (-1) 23) {x3 : Int32} {x4 : Int32} {d : Ds} (hI : Inv m_sX1_perform__1 b d0 d) : ok (fX1_perform_J127 10000 g x0 x1 x2 x3 x4 d) (fun u d' => Inv m_sX1_perform__1 B d0 d' ∧ True) := by
  unfold fX1_perform_J127
  refine ok_gd (kd_1 hS hx0) ?_
  refine ok_cv (sX1_send__1 hS (LeB.use (k' := 1) hlb (by omega)) hx0 hI.1) (fun d9 r_1 => ?_)
  obtain ⟨h_2, h_3⟩ := r_1
  have h_4 := Inv.call hI h_2 (by decide +kernel)
  have lb_5 := LeB.rest (k' := 1) hlb (by omega)
  exact ok_some ⟨(Inv.mono lb_5.1 h_4), trivial⟩
